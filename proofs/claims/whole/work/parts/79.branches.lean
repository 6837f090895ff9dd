/-! The law's walk: its branches. -/
def kl_in (x : Int32) (L : Nat) : Prop := vp_in x L ∧ vp_in (x + 1) L ∧ vp_in (x + 2) L ∧ vp_in (x + 3) L ∧ vp_in (x + 4) L
def kl_word (a b : Int32) : Int64 := (a.toInt64 <<< ((32 : Int32).toInt64 &&& 63)) ||| (b.toInt64 &&& 4294967295)
theorem kl_b_bool (v : Int32) : kR_bool (kl_b v) := by
  unfold kl_b kR_bool
  split
  · exact Or.inl rfl
  · exact Or.inr rfl
theorem kl_cmp_self (x : Int64) : lg_cmp x x = 0 := by
  unfold lg_cmp
  rw [if_neg (by simp), if_pos rfl]
theorem kl_cmpI (xs : Nat → Int64) (v : Int32) : lg_cmp (kl_xI xs (Sum.inr v) 0) v.toInt64 = 0 := by
  have h : kl_xI xs (Sum.inr v) 0 = v.toInt64 := by simp [kl_xI, vp_updL]
  rw [h]
  exact kl_cmp_self _
theorem kl_cmpL (xs : Nat → Int64) (v : Int64) : lg_cmp (kl_xL xs (Sum.inr v) 0) v = 0 := by
  have h : kl_xL xs (Sum.inr v) 0 = v := by simp [kl_xL, vp_updL]
  rw [h]
  exact kl_cmp_self _
theorem kT_offer_ne (e : Nat) : ¬ kT_offer e = 0 := by
  unfold kT_offer
  split
  · decide
  · split <;> decide
theorem kT_cer_ne (e : Nat) : ¬ kT_cer e = 0 := by
  unfold kT_cer
  split <;> decide
theorem kl_has2 {ls : Array Slot} {a b : Nat × Value} {lv : List (Nat × Value)} (h : lv_has ls 8 (a :: b :: lv)) : lv_has ls 8 lv := ⟨h.1, h.2.1, fun q hq => h.2.2 q (List.mem_cons_of_mem _ (List.mem_cons_of_mem _ hq))⟩
theorem kl_has1 {ls : Array Slot} {a : Nat × Value} {lv : List (Nat × Value)} (h : lv_has ls 8 (a :: lv)) : lv_has ls 8 lv := ⟨h.1, h.2.1, fun q hq => h.2.2 q (List.mem_cons_of_mem _ hq)⟩
theorem kl_feed {n : Nat} {σ τ : kt_S} (H : kR n σ τ) (l1 : Int64) (l3 : Int32) : ∃ (r : Nat ⊕ Unit) (σ' τ' : kt_S), kp_K_feed l1 l3 σ = some (r, σ') ∧ kp_M_feed l1 l3 τ = some τ' ∧ τ' 0 0 = kl_cd kT_feed r ∧ kR n σ' τ' := by
  rcases kR_feed H l1 l3 with ⟨σ', τ', h1, h2, h3, h4⟩ | ⟨e, σ', τ', h1, h2, h3, h4⟩
  · exact ⟨Sum.inr (), σ', τ', h1, h2, h3, h4⟩
  · exact ⟨Sum.inl e, σ', τ', h1, h2, h3, h4⟩
theorem kl_take {n : Nat} {σ τ : kt_S} (H : kR n σ τ) : ∃ (r : Nat ⊕ Int64) (v : Int64) (σ' τ' : kt_S), kp_K_take σ = some (r, σ') ∧ kp_M_take τ = some (v, τ') ∧ τ' 0 0 = kl_cd (fun _ => 1) r ∧ (∀ u, r = Sum.inr u → u = v) ∧ kR n σ' τ' := by
  rcases kR_take H with ⟨r, σ', τ', h1, h2, h3, h4⟩ | ⟨e, r, σ', τ', h1, h2, h5, h3, h4⟩
  · exact ⟨Sum.inr r, r, σ', τ', h1, h2, h3, fun u hu => (Sum.inr.inj hu).symm, h4⟩
  · exact ⟨Sum.inl e, r, σ', τ', h1, h2, h3, (fun u hu => by cases hu), h4⟩
/-- what a branch leads to -/
def kl_next (l : Launch) (p : Program) (e : Env) (s : State) (m : MethodId) (args : Array Value) (below : List Frame) (meth : Method) (c : Code) (D : va_G) (cA : Nat → ClassId) (cL : ClassId) (as as' : Nat → Nat) (o b n cells slots : Nat) (Q : State → Prop) (x : Int32) : Prop :=
  ∀ (σ' τ' : kt_S) (xs' : Nat → Int64) (H' : Heap) (locs' : List Loc) (ls' : Array Slot), lv_has ls' 8 [(4, .int x), (3, .ref o), (2, .ref (as' 0)), (1, .ref (as 0)), (0, .ref b)] → kl_Pt s D cA cL as as' o σ' τ' xs' H' locs' → kR (n + 1) σ' τ' → W p l e room_1 s m args below meth c H' locs' (cells + 1) (slots + 6) Q (F0 m 802 ls' [])
theorem dk_law_0 : decode code 0 = .ok (.new 8, 3) := by decide +kernel
theorem dk_law_3 : decode code 3 = .ok (.dup, 1) := by decide +kernel
theorem dk_law_4 : decode code 4 = .ok (.invokespecial 44, 3) := by decide +kernel
theorem dk_law_7 : decode code 7 = .ok (.astore_n 1, 1) := by decide +kernel
theorem dk_law_8 : decode code 8 = .ok (.new 45, 3) := by decide +kernel
theorem dk_law_11 : decode code 11 = .ok (.dup, 1) := by decide +kernel
theorem dk_law_12 : decode code 12 = .ok (.invokespecial 47, 3) := by decide +kernel
theorem dk_law_15 : decode code 15 = .ok (.astore_n 2, 1) := by decide +kernel
theorem dk_law_16 : decode code 16 = .ok (.iconst 1, 1) := by decide +kernel
theorem dk_law_17 : decode code 17 = .ok (.newarray .long, 2) := by decide +kernel
theorem dk_law_19 : decode code 19 = .ok (.astore_n 3, 1) := by decide +kernel
theorem dk_law_20 : decode code 20 = .ok (.iconst 0, 1) := by decide +kernel
theorem dk_law_21 : decode code 21 = .ok (.istore 4, 2) := by decide +kernel
theorem dk_law_23 : decode code 23 = .ok (.iload 4, 2) := by decide +kernel
theorem dk_law_25 : decode code 25 = .ok (.aload_n 0, 1) := by decide +kernel
theorem dk_law_26 : decode code 26 = .ok (.arraylength, 1) := by decide +kernel
theorem dk_law_27 : decode code 27 = .ok (.iconst 5, 1) := by decide +kernel
theorem dk_law_28 : decode code 28 = .ok (.isub, 1) := by decide +kernel
theorem dk_law_29 : decode code 29 = .ok (.if_icmp .gt 779, 3) := by decide +kernel
theorem dk_law_32 : decode code 32 = .ok (.aload_n 0, 1) := by decide +kernel
theorem dk_law_33 : decode code 33 = .ok (.iload 4, 2) := by decide +kernel
theorem dk_law_35 : decode code 35 = .ok (.iaload, 1) := by decide +kernel
theorem dk_law_36 : decode code 36 = .ok (.bipush 15, 2) := by decide +kernel
theorem dk_law_38 : decode code 38 = .ok (.iand, 1) := by decide +kernel
theorem dk_law_108 : decode code 108 = .ok (.aload_n 1, 1) := by decide +kernel
theorem dk_law_109 : decode code 109 = .ok (.invokevirtual 48, 3) := by decide +kernel
theorem dk_law_112 : decode code 112 = .ok (.aload_n 2, 1) := by decide +kernel
theorem dk_law_113 : decode code 113 = .ok (.invokevirtual 52, 3) := by decide +kernel
theorem dk_law_116 : decode code 116 = .ok (.if_icmp .eq 686, 3) := by decide +kernel
theorem dk_law_121 : decode code 121 = .ok (.aload_n 1, 1) := by decide +kernel
theorem dk_law_122 : decode code 122 = .ok (.aload_n 0, 1) := by decide +kernel
theorem dk_law_123 : decode code 123 = .ok (.iload 4, 2) := by decide +kernel
theorem dk_law_125 : decode code 125 = .ok (.iconst 1, 1) := by decide +kernel
theorem dk_law_126 : decode code 126 = .ok (.iadd, 1) := by decide +kernel
theorem dk_law_127 : decode code 127 = .ok (.iaload, 1) := by decide +kernel
theorem dk_law_128 : decode code 128 = .ok (.i2l, 1) := by decide +kernel
theorem dk_law_129 : decode code 129 = .ok (.bipush 32, 2) := by decide +kernel
theorem dk_law_131 : decode code 131 = .ok (.lshl, 1) := by decide +kernel
theorem dk_law_132 : decode code 132 = .ok (.aload_n 0, 1) := by decide +kernel
theorem dk_law_133 : decode code 133 = .ok (.iload 4, 2) := by decide +kernel
theorem dk_law_135 : decode code 135 = .ok (.iconst 2, 1) := by decide +kernel
theorem dk_law_136 : decode code 136 = .ok (.iadd, 1) := by decide +kernel
theorem dk_law_137 : decode code 137 = .ok (.iaload, 1) := by decide +kernel
theorem dk_law_138 : decode code 138 = .ok (.i2l, 1) := by decide +kernel
theorem dk_law_139 : decode code 139 = .ok (.ldc2_w 53, 3) := by decide +kernel
theorem dk_law_142 : decode code 142 = .ok (.land, 1) := by decide +kernel
theorem dk_law_143 : decode code 143 = .ok (.lor, 1) := by decide +kernel
theorem dk_law_144 : decode code 144 = .ok (.aload_n 0, 1) := by decide +kernel
theorem dk_law_145 : decode code 145 = .ok (.iload 4, 2) := by decide +kernel
theorem dk_law_147 : decode code 147 = .ok (.iconst 3, 1) := by decide +kernel
theorem dk_law_148 : decode code 148 = .ok (.iadd, 1) := by decide +kernel
theorem dk_law_149 : decode code 149 = .ok (.iaload, 1) := by decide +kernel
theorem dk_law_150 : decode code 150 = .ok (.invokestatic 55, 3) := by decide +kernel
theorem dk_law_153 : decode code 153 = .ok (.istore 5, 2) := by decide +kernel
theorem dk_law_155 : decode code 155 = .ok (.aload_n 2, 1) := by decide +kernel
theorem dk_law_156 : decode code 156 = .ok (.aload_n 0, 1) := by decide +kernel
theorem dk_law_157 : decode code 157 = .ok (.iload 4, 2) := by decide +kernel
theorem dk_law_159 : decode code 159 = .ok (.iconst 1, 1) := by decide +kernel
theorem dk_law_160 : decode code 160 = .ok (.iadd, 1) := by decide +kernel
theorem dk_law_161 : decode code 161 = .ok (.iaload, 1) := by decide +kernel
theorem dk_law_162 : decode code 162 = .ok (.i2l, 1) := by decide +kernel
theorem dk_law_163 : decode code 163 = .ok (.bipush 32, 2) := by decide +kernel
theorem dk_law_165 : decode code 165 = .ok (.lshl, 1) := by decide +kernel
theorem dk_law_166 : decode code 166 = .ok (.aload_n 0, 1) := by decide +kernel
theorem dk_law_167 : decode code 167 = .ok (.iload 4, 2) := by decide +kernel
theorem dk_law_169 : decode code 169 = .ok (.iconst 2, 1) := by decide +kernel
theorem dk_law_170 : decode code 170 = .ok (.iadd, 1) := by decide +kernel
theorem dk_law_171 : decode code 171 = .ok (.iaload, 1) := by decide +kernel
theorem dk_law_172 : decode code 172 = .ok (.i2l, 1) := by decide +kernel
theorem dk_law_173 : decode code 173 = .ok (.ldc2_w 53, 3) := by decide +kernel
theorem dk_law_176 : decode code 176 = .ok (.land, 1) := by decide +kernel
theorem dk_law_177 : decode code 177 = .ok (.lor, 1) := by decide +kernel
theorem dk_law_178 : decode code 178 = .ok (.aload_n 0, 1) := by decide +kernel
theorem dk_law_179 : decode code 179 = .ok (.iload 4, 2) := by decide +kernel
theorem dk_law_181 : decode code 181 = .ok (.iconst 3, 1) := by decide +kernel
theorem dk_law_182 : decode code 182 = .ok (.iadd, 1) := by decide +kernel
theorem dk_law_183 : decode code 183 = .ok (.iaload, 1) := by decide +kernel
theorem dk_law_184 : decode code 184 = .ok (.invokevirtual 60, 3) := by decide +kernel
theorem dk_law_187 : decode code 187 = .ok (.aload_n 2, 1) := by decide +kernel
theorem dk_law_188 : decode code 188 = .ok (.invokevirtual 61, 3) := by decide +kernel
theorem dk_law_191 : decode code 191 = .ok (.iload 5, 2) := by decide +kernel
theorem dk_law_193 : decode code 193 = .ok (.if_icmp .eq 5, 3) := by decide +kernel
theorem dk_law_198 : decode code 198 = .ok (.goto 604, 3) := by decide +kernel
theorem dk_law_201 : decode code 201 = .ok (.aload_n 1, 1) := by decide +kernel
theorem dk_law_202 : decode code 202 = .ok (.aload_n 3, 1) := by decide +kernel
theorem dk_law_203 : decode code 203 = .ok (.invokestatic 64, 3) := by decide +kernel
theorem dk_law_206 : decode code 206 = .ok (.istore 5, 2) := by decide +kernel
theorem dk_law_208 : decode code 208 = .ok (.aload_n 2, 1) := by decide +kernel
theorem dk_law_209 : decode code 209 = .ok (.invokevirtual 67, 3) := by decide +kernel
theorem dk_law_212 : decode code 212 = .ok (.istore 6, 2) := by decide +kernel
theorem dk_law_214 : decode code 214 = .ok (.aload_n 2, 1) := by decide +kernel
theorem dk_law_215 : decode code 215 = .ok (.invokevirtual 61, 3) := by decide +kernel
theorem dk_law_218 : decode code 218 = .ok (.iload 5, 2) := by decide +kernel
theorem dk_law_220 : decode code 220 = .ok (.if_icmp .eq 5, 3) := by decide +kernel
theorem dk_law_225 : decode code 225 = .ok (.iload 5, 2) := by decide +kernel
theorem dk_law_227 : decode code 227 = .ok (.ifCond .ne 15, 3) := by decide +kernel
theorem dk_law_230 : decode code 230 = .ok (.aload_n 3, 1) := by decide +kernel
theorem dk_law_231 : decode code 231 = .ok (.iconst 0, 1) := by decide +kernel
theorem dk_law_232 : decode code 232 = .ok (.laload, 1) := by decide +kernel
theorem dk_law_233 : decode code 233 = .ok (.iload 6, 2) := by decide +kernel
theorem dk_law_235 : decode code 235 = .ok (.i2l, 1) := by decide +kernel
theorem dk_law_236 : decode code 236 = .ok (.lcmp, 1) := by decide +kernel
theorem dk_law_237 : decode code 237 = .ok (.ifCond .eq 5, 3) := by decide +kernel
theorem dk_law_242 : decode code 242 = .ok (.goto 560, 3) := by decide +kernel
theorem dk_law_245 : decode code 245 = .ok (.aload_n 1, 1) := by decide +kernel
theorem dk_law_246 : decode code 246 = .ok (.invokevirtual 68, 3) := by decide +kernel
theorem dk_law_249 : decode code 249 = .ok (.aload_n 2, 1) := by decide +kernel
theorem dk_law_250 : decode code 250 = .ok (.invokevirtual 71, 3) := by decide +kernel
theorem dk_law_253 : decode code 253 = .ok (.if_icmp .eq 549, 3) := by decide +kernel
theorem dk_law_258 : decode code 258 = .ok (.aload_n 1, 1) := by decide +kernel
theorem dk_law_259 : decode code 259 = .ok (.aload_n 3, 1) := by decide +kernel
theorem dk_law_260 : decode code 260 = .ok (.invokestatic 72, 3) := by decide +kernel
theorem dk_law_263 : decode code 263 = .ok (.istore 5, 2) := by decide +kernel
theorem dk_law_265 : decode code 265 = .ok (.aload_n 2, 1) := by decide +kernel
theorem dk_law_266 : decode code 266 = .ok (.invokevirtual 74, 3) := by decide +kernel
theorem dk_law_269 : decode code 269 = .ok (.lstore 6, 2) := by decide +kernel
theorem dk_law_271 : decode code 271 = .ok (.aload_n 2, 1) := by decide +kernel
theorem dk_law_272 : decode code 272 = .ok (.invokevirtual 61, 3) := by decide +kernel
theorem dk_law_275 : decode code 275 = .ok (.iload 5, 2) := by decide +kernel
theorem dk_law_277 : decode code 277 = .ok (.if_icmp .eq 5, 3) := by decide +kernel
theorem dk_law_282 : decode code 282 = .ok (.iload 5, 2) := by decide +kernel
theorem dk_law_284 : decode code 284 = .ok (.ifCond .ne 14, 3) := by decide +kernel
theorem dk_law_287 : decode code 287 = .ok (.aload_n 3, 1) := by decide +kernel
theorem dk_law_288 : decode code 288 = .ok (.iconst 0, 1) := by decide +kernel
theorem dk_law_289 : decode code 289 = .ok (.laload, 1) := by decide +kernel
theorem dk_law_290 : decode code 290 = .ok (.lload 6, 2) := by decide +kernel
theorem dk_law_292 : decode code 292 = .ok (.lcmp, 1) := by decide +kernel
theorem dk_law_293 : decode code 293 = .ok (.ifCond .eq 5, 3) := by decide +kernel
theorem dk_law_298 : decode code 298 = .ok (.goto 504, 3) := by decide +kernel
theorem dk_law_301 : decode code 301 = .ok (.aload_n 1, 1) := by decide +kernel
theorem dk_law_302 : decode code 302 = .ok (.aload_n 0, 1) := by decide +kernel
theorem dk_law_303 : decode code 303 = .ok (.iload 4, 2) := by decide +kernel
theorem dk_law_305 : decode code 305 = .ok (.iconst 1, 1) := by decide +kernel
theorem dk_law_306 : decode code 306 = .ok (.iadd, 1) := by decide +kernel
theorem dk_law_307 : decode code 307 = .ok (.iaload, 1) := by decide +kernel
theorem dk_law_308 : decode code 308 = .ok (.ifCond .eq 7, 3) := by decide +kernel
theorem dk_law_311 : decode code 311 = .ok (.iconst 1, 1) := by decide +kernel
theorem dk_law_312 : decode code 312 = .ok (.goto 4, 3) := by decide +kernel
theorem dk_law_315 : decode code 315 = .ok (.iconst 0, 1) := by decide +kernel
theorem dk_law_316 : decode code 316 = .ok (.invokevirtual 75, 3) := by decide +kernel
theorem dk_law_319 : decode code 319 = .ok (.aload_n 2, 1) := by decide +kernel
theorem dk_law_320 : decode code 320 = .ok (.aload_n 0, 1) := by decide +kernel
theorem dk_law_321 : decode code 321 = .ok (.iload 4, 2) := by decide +kernel
theorem dk_law_323 : decode code 323 = .ok (.iconst 1, 1) := by decide +kernel
theorem dk_law_324 : decode code 324 = .ok (.iadd, 1) := by decide +kernel
theorem dk_law_325 : decode code 325 = .ok (.iaload, 1) := by decide +kernel
theorem dk_law_326 : decode code 326 = .ok (.ifCond .eq 7, 3) := by decide +kernel
theorem dk_law_329 : decode code 329 = .ok (.iconst 1, 1) := by decide +kernel
theorem dk_law_330 : decode code 330 = .ok (.goto 4, 3) := by decide +kernel
theorem dk_law_333 : decode code 333 = .ok (.iconst 0, 1) := by decide +kernel
theorem dk_law_334 : decode code 334 = .ok (.invokevirtual 79, 3) := by decide +kernel
theorem dk_law_337 : decode code 337 = .ok (.if_icmp .eq 465, 3) := by decide +kernel
theorem dk_law_342 : decode code 342 = .ok (.aload_n 1, 1) := by decide +kernel
theorem dk_law_343 : decode code 343 = .ok (.aload_n 0, 1) := by decide +kernel
theorem dk_law_344 : decode code 344 = .ok (.iload 4, 2) := by decide +kernel
theorem dk_law_346 : decode code 346 = .ok (.iconst 1, 1) := by decide +kernel
theorem dk_law_347 : decode code 347 = .ok (.iadd, 1) := by decide +kernel
theorem dk_law_348 : decode code 348 = .ok (.iaload, 1) := by decide +kernel
theorem dk_law_349 : decode code 349 = .ok (.invokevirtual 80, 3) := by decide +kernel
theorem dk_law_352 : decode code 352 = .ok (.aload_n 2, 1) := by decide +kernel
theorem dk_law_353 : decode code 353 = .ok (.aload_n 0, 1) := by decide +kernel
theorem dk_law_354 : decode code 354 = .ok (.iload 4, 2) := by decide +kernel
theorem dk_law_356 : decode code 356 = .ok (.iconst 1, 1) := by decide +kernel
theorem dk_law_357 : decode code 357 = .ok (.iadd, 1) := by decide +kernel
theorem dk_law_358 : decode code 358 = .ok (.iaload, 1) := by decide +kernel
theorem dk_law_359 : decode code 359 = .ok (.invokevirtual 84, 3) := by decide +kernel
theorem dk_law_362 : decode code 362 = .ok (.if_icmp .eq 440, 3) := by decide +kernel
theorem dk_law_367 : decode code 367 = .ok (.aload_n 1, 1) := by decide +kernel
theorem dk_law_368 : decode code 368 = .ok (.aload_n 0, 1) := by decide +kernel
theorem dk_law_369 : decode code 369 = .ok (.iload 4, 2) := by decide +kernel
theorem dk_law_371 : decode code 371 = .ok (.iconst 1, 1) := by decide +kernel
theorem dk_law_372 : decode code 372 = .ok (.iadd, 1) := by decide +kernel
theorem dk_law_373 : decode code 373 = .ok (.iaload, 1) := by decide +kernel
theorem dk_law_374 : decode code 374 = .ok (.aload_n 0, 1) := by decide +kernel
theorem dk_law_375 : decode code 375 = .ok (.iload 4, 2) := by decide +kernel
theorem dk_law_377 : decode code 377 = .ok (.iconst 2, 1) := by decide +kernel
theorem dk_law_378 : decode code 378 = .ok (.iadd, 1) := by decide +kernel
theorem dk_law_379 : decode code 379 = .ok (.iaload, 1) := by decide +kernel
theorem dk_law_380 : decode code 380 = .ok (.aload_n 3, 1) := by decide +kernel
theorem dk_law_381 : decode code 381 = .ok (.invokestatic 85, 3) := by decide +kernel
theorem dk_law_384 : decode code 384 = .ok (.istore 5, 2) := by decide +kernel
theorem dk_law_386 : decode code 386 = .ok (.aload_n 2, 1) := by decide +kernel
theorem dk_law_387 : decode code 387 = .ok (.aload_n 0, 1) := by decide +kernel
theorem dk_law_388 : decode code 388 = .ok (.iload 4, 2) := by decide +kernel
theorem dk_law_390 : decode code 390 = .ok (.iconst 1, 1) := by decide +kernel
theorem dk_law_391 : decode code 391 = .ok (.iadd, 1) := by decide +kernel
theorem dk_law_392 : decode code 392 = .ok (.iaload, 1) := by decide +kernel
theorem dk_law_393 : decode code 393 = .ok (.aload_n 0, 1) := by decide +kernel
theorem dk_law_394 : decode code 394 = .ok (.iload 4, 2) := by decide +kernel
theorem dk_law_396 : decode code 396 = .ok (.iconst 2, 1) := by decide +kernel
theorem dk_law_397 : decode code 397 = .ok (.iadd, 1) := by decide +kernel
theorem dk_law_398 : decode code 398 = .ok (.iaload, 1) := by decide +kernel
theorem dk_law_399 : decode code 399 = .ok (.invokevirtual 88, 3) := by decide +kernel
theorem dk_law_402 : decode code 402 = .ok (.istore 6, 2) := by decide +kernel
theorem dk_law_404 : decode code 404 = .ok (.aload_n 2, 1) := by decide +kernel
theorem dk_law_405 : decode code 405 = .ok (.invokevirtual 61, 3) := by decide +kernel
theorem dk_law_408 : decode code 408 = .ok (.iload 5, 2) := by decide +kernel
theorem dk_law_410 : decode code 410 = .ok (.if_icmp .eq 5, 3) := by decide +kernel
theorem dk_law_415 : decode code 415 = .ok (.iload 5, 2) := by decide +kernel
theorem dk_law_417 : decode code 417 = .ok (.ifCond .ne 15, 3) := by decide +kernel
theorem dk_law_420 : decode code 420 = .ok (.aload_n 3, 1) := by decide +kernel
theorem dk_law_421 : decode code 421 = .ok (.iconst 0, 1) := by decide +kernel
theorem dk_law_422 : decode code 422 = .ok (.laload, 1) := by decide +kernel
theorem dk_law_423 : decode code 423 = .ok (.iload 6, 2) := by decide +kernel
theorem dk_law_425 : decode code 425 = .ok (.i2l, 1) := by decide +kernel
theorem dk_law_426 : decode code 426 = .ok (.lcmp, 1) := by decide +kernel
theorem dk_law_427 : decode code 427 = .ok (.ifCond .eq 5, 3) := by decide +kernel
theorem dk_law_432 : decode code 432 = .ok (.goto 370, 3) := by decide +kernel
theorem dk_law_435 : decode code 435 = .ok (.aload_n 1, 1) := by decide +kernel
theorem dk_law_436 : decode code 436 = .ok (.aload_n 0, 1) := by decide +kernel
theorem dk_law_437 : decode code 437 = .ok (.iload 4, 2) := by decide +kernel
theorem dk_law_439 : decode code 439 = .ok (.iconst 1, 1) := by decide +kernel
theorem dk_law_440 : decode code 440 = .ok (.iadd, 1) := by decide +kernel
theorem dk_law_441 : decode code 441 = .ok (.iaload, 1) := by decide +kernel
theorem dk_law_442 : decode code 442 = .ok (.aload_n 0, 1) := by decide +kernel
theorem dk_law_443 : decode code 443 = .ok (.iload 4, 2) := by decide +kernel
theorem dk_law_445 : decode code 445 = .ok (.iconst 2, 1) := by decide +kernel
theorem dk_law_446 : decode code 446 = .ok (.iadd, 1) := by decide +kernel
theorem dk_law_447 : decode code 447 = .ok (.iaload, 1) := by decide +kernel
theorem dk_law_448 : decode code 448 = .ok (.aload_n 0, 1) := by decide +kernel
theorem dk_law_449 : decode code 449 = .ok (.iload 4, 2) := by decide +kernel
theorem dk_law_451 : decode code 451 = .ok (.iconst 3, 1) := by decide +kernel
theorem dk_law_452 : decode code 452 = .ok (.iadd, 1) := by decide +kernel
theorem dk_law_453 : decode code 453 = .ok (.iaload, 1) := by decide +kernel
theorem dk_law_454 : decode code 454 = .ok (.ifCond .eq 7, 3) := by decide +kernel
theorem dk_law_457 : decode code 457 = .ok (.iconst 1, 1) := by decide +kernel
theorem dk_law_458 : decode code 458 = .ok (.goto 4, 3) := by decide +kernel
theorem dk_law_461 : decode code 461 = .ok (.iconst 0, 1) := by decide +kernel
theorem dk_law_462 : decode code 462 = .ok (.aload_n 0, 1) := by decide +kernel
theorem dk_law_463 : decode code 463 = .ok (.iload 4, 2) := by decide +kernel
theorem dk_law_465 : decode code 465 = .ok (.iconst 4, 1) := by decide +kernel
theorem dk_law_466 : decode code 466 = .ok (.iadd, 1) := by decide +kernel
theorem dk_law_467 : decode code 467 = .ok (.iaload, 1) := by decide +kernel
theorem dk_law_468 : decode code 468 = .ok (.aload_n 3, 1) := by decide +kernel
theorem dk_law_469 : decode code 469 = .ok (.invokestatic 89, 3) := by decide +kernel
theorem dk_law_472 : decode code 472 = .ok (.istore 5, 2) := by decide +kernel
theorem dk_law_474 : decode code 474 = .ok (.aload_n 2, 1) := by decide +kernel
theorem dk_law_475 : decode code 475 = .ok (.aload_n 0, 1) := by decide +kernel
theorem dk_law_476 : decode code 476 = .ok (.iload 4, 2) := by decide +kernel
theorem dk_law_478 : decode code 478 = .ok (.iconst 1, 1) := by decide +kernel
theorem dk_law_479 : decode code 479 = .ok (.iadd, 1) := by decide +kernel
theorem dk_law_480 : decode code 480 = .ok (.iaload, 1) := by decide +kernel
theorem dk_law_481 : decode code 481 = .ok (.aload_n 0, 1) := by decide +kernel
theorem dk_law_482 : decode code 482 = .ok (.iload 4, 2) := by decide +kernel
theorem dk_law_484 : decode code 484 = .ok (.iconst 2, 1) := by decide +kernel
theorem dk_law_485 : decode code 485 = .ok (.iadd, 1) := by decide +kernel
theorem dk_law_486 : decode code 486 = .ok (.iaload, 1) := by decide +kernel
theorem dk_law_487 : decode code 487 = .ok (.aload_n 0, 1) := by decide +kernel
theorem dk_law_488 : decode code 488 = .ok (.iload 4, 2) := by decide +kernel
theorem dk_law_490 : decode code 490 = .ok (.iconst 3, 1) := by decide +kernel
theorem dk_law_491 : decode code 491 = .ok (.iadd, 1) := by decide +kernel
theorem dk_law_492 : decode code 492 = .ok (.iaload, 1) := by decide +kernel
theorem dk_law_493 : decode code 493 = .ok (.ifCond .eq 7, 3) := by decide +kernel
theorem dk_law_496 : decode code 496 = .ok (.iconst 1, 1) := by decide +kernel
theorem dk_law_497 : decode code 497 = .ok (.goto 4, 3) := by decide +kernel
theorem dk_law_500 : decode code 500 = .ok (.iconst 0, 1) := by decide +kernel
theorem dk_law_501 : decode code 501 = .ok (.aload_n 0, 1) := by decide +kernel
theorem dk_law_502 : decode code 502 = .ok (.iload 4, 2) := by decide +kernel
theorem dk_law_504 : decode code 504 = .ok (.iconst 4, 1) := by decide +kernel
theorem dk_law_505 : decode code 505 = .ok (.iadd, 1) := by decide +kernel
theorem dk_law_506 : decode code 506 = .ok (.iaload, 1) := by decide +kernel
theorem dk_law_507 : decode code 507 = .ok (.invokevirtual 92, 3) := by decide +kernel
theorem dk_law_510 : decode code 510 = .ok (.istore 6, 2) := by decide +kernel
theorem dk_law_512 : decode code 512 = .ok (.aload_n 2, 1) := by decide +kernel
theorem dk_law_513 : decode code 513 = .ok (.invokevirtual 61, 3) := by decide +kernel
theorem dk_law_516 : decode code 516 = .ok (.iload 5, 2) := by decide +kernel
theorem dk_law_518 : decode code 518 = .ok (.if_icmp .eq 5, 3) := by decide +kernel
theorem dk_law_523 : decode code 523 = .ok (.iload 5, 2) := by decide +kernel
theorem dk_law_525 : decode code 525 = .ok (.ifCond .ne 15, 3) := by decide +kernel
theorem dk_law_528 : decode code 528 = .ok (.aload_n 3, 1) := by decide +kernel
theorem dk_law_529 : decode code 529 = .ok (.iconst 0, 1) := by decide +kernel
theorem dk_law_530 : decode code 530 = .ok (.laload, 1) := by decide +kernel
theorem dk_law_531 : decode code 531 = .ok (.iload 6, 2) := by decide +kernel
theorem dk_law_533 : decode code 533 = .ok (.i2l, 1) := by decide +kernel
theorem dk_law_534 : decode code 534 = .ok (.lcmp, 1) := by decide +kernel
theorem dk_law_535 : decode code 535 = .ok (.ifCond .eq 5, 3) := by decide +kernel
theorem dk_law_540 : decode code 540 = .ok (.goto 262, 3) := by decide +kernel
theorem dk_law_543 : decode code 543 = .ok (.aload_n 1, 1) := by decide +kernel
theorem dk_law_544 : decode code 544 = .ok (.aload_n 0, 1) := by decide +kernel
theorem dk_law_545 : decode code 545 = .ok (.iload 4, 2) := by decide +kernel
theorem dk_law_547 : decode code 547 = .ok (.iconst 1, 1) := by decide +kernel
theorem dk_law_548 : decode code 548 = .ok (.iadd, 1) := by decide +kernel
theorem dk_law_549 : decode code 549 = .ok (.iaload, 1) := by decide +kernel
theorem dk_law_550 : decode code 550 = .ok (.aload_n 0, 1) := by decide +kernel
theorem dk_law_551 : decode code 551 = .ok (.iload 4, 2) := by decide +kernel
theorem dk_law_553 : decode code 553 = .ok (.iconst 2, 1) := by decide +kernel
theorem dk_law_554 : decode code 554 = .ok (.iadd, 1) := by decide +kernel
theorem dk_law_555 : decode code 555 = .ok (.iaload, 1) := by decide +kernel
theorem dk_law_556 : decode code 556 = .ok (.aload_n 0, 1) := by decide +kernel
theorem dk_law_557 : decode code 557 = .ok (.iload 4, 2) := by decide +kernel
theorem dk_law_559 : decode code 559 = .ok (.iconst 3, 1) := by decide +kernel
theorem dk_law_560 : decode code 560 = .ok (.iadd, 1) := by decide +kernel
theorem dk_law_561 : decode code 561 = .ok (.iaload, 1) := by decide +kernel
theorem dk_law_562 : decode code 562 = .ok (.aload_n 0, 1) := by decide +kernel
theorem dk_law_563 : decode code 563 = .ok (.iload 4, 2) := by decide +kernel
theorem dk_law_565 : decode code 565 = .ok (.iconst 4, 1) := by decide +kernel
theorem dk_law_566 : decode code 566 = .ok (.iadd, 1) := by decide +kernel
theorem dk_law_567 : decode code 567 = .ok (.iaload, 1) := by decide +kernel
theorem dk_law_568 : decode code 568 = .ok (.aload_n 3, 1) := by decide +kernel
theorem dk_law_569 : decode code 569 = .ok (.invokestatic 93, 3) := by decide +kernel
theorem dk_law_572 : decode code 572 = .ok (.istore 5, 2) := by decide +kernel
theorem dk_law_574 : decode code 574 = .ok (.aload_n 2, 1) := by decide +kernel
theorem dk_law_575 : decode code 575 = .ok (.aload_n 0, 1) := by decide +kernel
theorem dk_law_576 : decode code 576 = .ok (.iload 4, 2) := by decide +kernel
theorem dk_law_578 : decode code 578 = .ok (.iconst 1, 1) := by decide +kernel
theorem dk_law_579 : decode code 579 = .ok (.iadd, 1) := by decide +kernel
theorem dk_law_580 : decode code 580 = .ok (.iaload, 1) := by decide +kernel
theorem dk_law_581 : decode code 581 = .ok (.aload_n 0, 1) := by decide +kernel
theorem dk_law_582 : decode code 582 = .ok (.iload 4, 2) := by decide +kernel
theorem dk_law_584 : decode code 584 = .ok (.iconst 2, 1) := by decide +kernel
theorem dk_law_585 : decode code 585 = .ok (.iadd, 1) := by decide +kernel
theorem dk_law_586 : decode code 586 = .ok (.iaload, 1) := by decide +kernel
theorem dk_law_587 : decode code 587 = .ok (.aload_n 0, 1) := by decide +kernel
theorem dk_law_588 : decode code 588 = .ok (.iload 4, 2) := by decide +kernel
theorem dk_law_590 : decode code 590 = .ok (.iconst 3, 1) := by decide +kernel
theorem dk_law_591 : decode code 591 = .ok (.iadd, 1) := by decide +kernel
theorem dk_law_592 : decode code 592 = .ok (.iaload, 1) := by decide +kernel
theorem dk_law_593 : decode code 593 = .ok (.aload_n 0, 1) := by decide +kernel
theorem dk_law_594 : decode code 594 = .ok (.iload 4, 2) := by decide +kernel
theorem dk_law_596 : decode code 596 = .ok (.iconst 4, 1) := by decide +kernel
theorem dk_law_597 : decode code 597 = .ok (.iadd, 1) := by decide +kernel
theorem dk_law_598 : decode code 598 = .ok (.iaload, 1) := by decide +kernel
theorem dk_law_599 : decode code 599 = .ok (.invokevirtual 96, 3) := by decide +kernel
theorem dk_law_602 : decode code 602 = .ok (.istore 6, 2) := by decide +kernel
theorem dk_law_604 : decode code 604 = .ok (.aload_n 2, 1) := by decide +kernel
theorem dk_law_605 : decode code 605 = .ok (.invokevirtual 61, 3) := by decide +kernel
theorem dk_law_608 : decode code 608 = .ok (.iload 5, 2) := by decide +kernel
theorem dk_law_610 : decode code 610 = .ok (.if_icmp .eq 5, 3) := by decide +kernel
theorem dk_law_615 : decode code 615 = .ok (.iload 5, 2) := by decide +kernel
theorem dk_law_617 : decode code 617 = .ok (.ifCond .ne 15, 3) := by decide +kernel
theorem dk_law_620 : decode code 620 = .ok (.aload_n 3, 1) := by decide +kernel
theorem dk_law_621 : decode code 621 = .ok (.iconst 0, 1) := by decide +kernel
theorem dk_law_622 : decode code 622 = .ok (.laload, 1) := by decide +kernel
theorem dk_law_623 : decode code 623 = .ok (.iload 6, 2) := by decide +kernel
theorem dk_law_625 : decode code 625 = .ok (.i2l, 1) := by decide +kernel
theorem dk_law_626 : decode code 626 = .ok (.lcmp, 1) := by decide +kernel
theorem dk_law_627 : decode code 627 = .ok (.ifCond .eq 5, 3) := by decide +kernel
theorem dk_law_632 : decode code 632 = .ok (.goto 170, 3) := by decide +kernel
theorem dk_law_635 : decode code 635 = .ok (.aload_n 1, 1) := by decide +kernel
theorem dk_law_636 : decode code 636 = .ok (.aload_n 0, 1) := by decide +kernel
theorem dk_law_637 : decode code 637 = .ok (.iload 4, 2) := by decide +kernel
theorem dk_law_639 : decode code 639 = .ok (.iconst 1, 1) := by decide +kernel
theorem dk_law_640 : decode code 640 = .ok (.iadd, 1) := by decide +kernel
theorem dk_law_641 : decode code 641 = .ok (.iaload, 1) := by decide +kernel
theorem dk_law_642 : decode code 642 = .ok (.aload_n 0, 1) := by decide +kernel
theorem dk_law_643 : decode code 643 = .ok (.iload 4, 2) := by decide +kernel
theorem dk_law_645 : decode code 645 = .ok (.iconst 2, 1) := by decide +kernel
theorem dk_law_646 : decode code 646 = .ok (.iadd, 1) := by decide +kernel
theorem dk_law_647 : decode code 647 = .ok (.iaload, 1) := by decide +kernel
theorem dk_law_648 : decode code 648 = .ok (.aload_n 3, 1) := by decide +kernel
theorem dk_law_649 : decode code 649 = .ok (.invokestatic 97, 3) := by decide +kernel
theorem dk_law_652 : decode code 652 = .ok (.istore 5, 2) := by decide +kernel
theorem dk_law_654 : decode code 654 = .ok (.aload_n 2, 1) := by decide +kernel
theorem dk_law_655 : decode code 655 = .ok (.aload_n 0, 1) := by decide +kernel
theorem dk_law_656 : decode code 656 = .ok (.iload 4, 2) := by decide +kernel
theorem dk_law_658 : decode code 658 = .ok (.iconst 1, 1) := by decide +kernel
theorem dk_law_659 : decode code 659 = .ok (.iadd, 1) := by decide +kernel
theorem dk_law_660 : decode code 660 = .ok (.iaload, 1) := by decide +kernel
theorem dk_law_661 : decode code 661 = .ok (.aload_n 0, 1) := by decide +kernel
theorem dk_law_662 : decode code 662 = .ok (.iload 4, 2) := by decide +kernel
theorem dk_law_664 : decode code 664 = .ok (.iconst 2, 1) := by decide +kernel
theorem dk_law_665 : decode code 665 = .ok (.iadd, 1) := by decide +kernel
theorem dk_law_666 : decode code 666 = .ok (.iaload, 1) := by decide +kernel
theorem dk_law_667 : decode code 667 = .ok (.invokevirtual 99, 3) := by decide +kernel
theorem dk_law_670 : decode code 670 = .ok (.istore 6, 2) := by decide +kernel
theorem dk_law_672 : decode code 672 = .ok (.aload_n 2, 1) := by decide +kernel
theorem dk_law_673 : decode code 673 = .ok (.invokevirtual 61, 3) := by decide +kernel
theorem dk_law_676 : decode code 676 = .ok (.iload 5, 2) := by decide +kernel
theorem dk_law_678 : decode code 678 = .ok (.if_icmp .eq 5, 3) := by decide +kernel
theorem dk_law_683 : decode code 683 = .ok (.iload 5, 2) := by decide +kernel
theorem dk_law_685 : decode code 685 = .ok (.ifCond .ne 15, 3) := by decide +kernel
theorem dk_law_688 : decode code 688 = .ok (.aload_n 3, 1) := by decide +kernel
theorem dk_law_689 : decode code 689 = .ok (.iconst 0, 1) := by decide +kernel
theorem dk_law_690 : decode code 690 = .ok (.laload, 1) := by decide +kernel
theorem dk_law_691 : decode code 691 = .ok (.iload 6, 2) := by decide +kernel
theorem dk_law_693 : decode code 693 = .ok (.i2l, 1) := by decide +kernel
theorem dk_law_694 : decode code 694 = .ok (.lcmp, 1) := by decide +kernel
theorem dk_law_695 : decode code 695 = .ok (.ifCond .eq 5, 3) := by decide +kernel
theorem dk_law_700 : decode code 700 = .ok (.goto 102, 3) := by decide +kernel
theorem dk_law_703 : decode code 703 = .ok (.aload_n 1, 1) := by decide +kernel
theorem dk_law_704 : decode code 704 = .ok (.aload_n 0, 1) := by decide +kernel
theorem dk_law_705 : decode code 705 = .ok (.iload 4, 2) := by decide +kernel
theorem dk_law_707 : decode code 707 = .ok (.iconst 1, 1) := by decide +kernel
theorem dk_law_708 : decode code 708 = .ok (.iadd, 1) := by decide +kernel
theorem dk_law_709 : decode code 709 = .ok (.iaload, 1) := by decide +kernel
theorem dk_law_710 : decode code 710 = .ok (.aload_n 0, 1) := by decide +kernel
theorem dk_law_711 : decode code 711 = .ok (.iload 4, 2) := by decide +kernel
theorem dk_law_713 : decode code 713 = .ok (.iconst 2, 1) := by decide +kernel
theorem dk_law_714 : decode code 714 = .ok (.iadd, 1) := by decide +kernel
theorem dk_law_715 : decode code 715 = .ok (.iaload, 1) := by decide +kernel
theorem dk_law_716 : decode code 716 = .ok (.invokevirtual 100, 3) := by decide +kernel
theorem dk_law_719 : decode code 719 = .ok (.aload_n 2, 1) := by decide +kernel
theorem dk_law_720 : decode code 720 = .ok (.aload_n 0, 1) := by decide +kernel
theorem dk_law_721 : decode code 721 = .ok (.iload 4, 2) := by decide +kernel
theorem dk_law_723 : decode code 723 = .ok (.iconst 1, 1) := by decide +kernel
theorem dk_law_724 : decode code 724 = .ok (.iadd, 1) := by decide +kernel
theorem dk_law_725 : decode code 725 = .ok (.iaload, 1) := by decide +kernel
theorem dk_law_726 : decode code 726 = .ok (.aload_n 0, 1) := by decide +kernel
theorem dk_law_727 : decode code 727 = .ok (.iload 4, 2) := by decide +kernel
theorem dk_law_729 : decode code 729 = .ok (.iconst 2, 1) := by decide +kernel
theorem dk_law_730 : decode code 730 = .ok (.iadd, 1) := by decide +kernel
theorem dk_law_731 : decode code 731 = .ok (.iaload, 1) := by decide +kernel
theorem dk_law_732 : decode code 732 = .ok (.invokevirtual 103, 3) := by decide +kernel
theorem dk_law_735 : decode code 735 = .ok (.if_icmp .eq 67, 3) := by decide +kernel
theorem dk_law_740 : decode code 740 = .ok (.aload_n 1, 1) := by decide +kernel
theorem dk_law_741 : decode code 741 = .ok (.aload_n 0, 1) := by decide +kernel
theorem dk_law_742 : decode code 742 = .ok (.iload 4, 2) := by decide +kernel
theorem dk_law_744 : decode code 744 = .ok (.iconst 1, 1) := by decide +kernel
theorem dk_law_745 : decode code 745 = .ok (.iadd, 1) := by decide +kernel
theorem dk_law_746 : decode code 746 = .ok (.iaload, 1) := by decide +kernel
theorem dk_law_747 : decode code 747 = .ok (.aload_n 0, 1) := by decide +kernel
theorem dk_law_748 : decode code 748 = .ok (.iload 4, 2) := by decide +kernel
theorem dk_law_750 : decode code 750 = .ok (.iconst 2, 1) := by decide +kernel
theorem dk_law_751 : decode code 751 = .ok (.iadd, 1) := by decide +kernel
theorem dk_law_752 : decode code 752 = .ok (.iaload, 1) := by decide +kernel
theorem dk_law_753 : decode code 753 = .ok (.invokevirtual 104, 3) := by decide +kernel
theorem dk_law_756 : decode code 756 = .ok (.aload_n 2, 1) := by decide +kernel
theorem dk_law_757 : decode code 757 = .ok (.aload_n 0, 1) := by decide +kernel
theorem dk_law_758 : decode code 758 = .ok (.iload 4, 2) := by decide +kernel
theorem dk_law_760 : decode code 760 = .ok (.iconst 1, 1) := by decide +kernel
theorem dk_law_761 : decode code 761 = .ok (.iadd, 1) := by decide +kernel
theorem dk_law_762 : decode code 762 = .ok (.iaload, 1) := by decide +kernel
theorem dk_law_763 : decode code 763 = .ok (.aload_n 0, 1) := by decide +kernel
theorem dk_law_764 : decode code 764 = .ok (.iload 4, 2) := by decide +kernel
theorem dk_law_766 : decode code 766 = .ok (.iconst 2, 1) := by decide +kernel
theorem dk_law_767 : decode code 767 = .ok (.iadd, 1) := by decide +kernel
theorem dk_law_768 : decode code 768 = .ok (.iaload, 1) := by decide +kernel
theorem dk_law_769 : decode code 769 = .ok (.invokevirtual 107, 3) := by decide +kernel
theorem dk_law_772 : decode code 772 = .ok (.if_icmp .eq 30, 3) := by decide +kernel
theorem dk_law_777 : decode code 777 = .ok (.aload_n 1, 1) := by decide +kernel
theorem dk_law_778 : decode code 778 = .ok (.aload_n 0, 1) := by decide +kernel
theorem dk_law_779 : decode code 779 = .ok (.iload 4, 2) := by decide +kernel
theorem dk_law_781 : decode code 781 = .ok (.iconst 1, 1) := by decide +kernel
theorem dk_law_782 : decode code 782 = .ok (.iadd, 1) := by decide +kernel
theorem dk_law_783 : decode code 783 = .ok (.iaload, 1) := by decide +kernel
theorem dk_law_784 : decode code 784 = .ok (.invokevirtual 108, 3) := by decide +kernel
theorem dk_law_787 : decode code 787 = .ok (.aload_n 2, 1) := by decide +kernel
theorem dk_law_788 : decode code 788 = .ok (.aload_n 0, 1) := by decide +kernel
theorem dk_law_789 : decode code 789 = .ok (.iload 4, 2) := by decide +kernel
theorem dk_law_791 : decode code 791 = .ok (.iconst 1, 1) := by decide +kernel
theorem dk_law_792 : decode code 792 = .ok (.iadd, 1) := by decide +kernel
theorem dk_law_793 : decode code 793 = .ok (.iaload, 1) := by decide +kernel
theorem dk_law_794 : decode code 794 = .ok (.invokevirtual 112, 3) := by decide +kernel
theorem dk_law_797 : decode code 797 = .ok (.if_icmp .eq 5, 3) := by decide +kernel
theorem dk_law_802 : decode code 802 = .ok (.iinc 4 5, 3) := by decide +kernel
theorem dk_law_805 : decode code 805 = .ok (.goto (-782), 3) := by decide +kernel
theorem dk_law_808 : decode code 808 = .ok (.iconst 1, 1) := by decide +kernel
theorem dk_law_809 : decode code 809 = .ok (.ireturn, 1) := by decide +kernel
set_option maxHeartbeats 4000000 in
theorem kb_press {l : Launch} (hf : l.flags = pinnedFlags ++ [noTraceFlag]) {p : Program} {e : Env} {s : State} {m : MethodId} {args : Array Value} {below : List Frame} {meth : Method} {c : Code} {H : Heap} {locs : List Loc} {cells slots : Nat} {Q : State → Prop} {ls : Array Slot} {D : va_G} {cA : Nat → ClassId} {cL : ClassId} {as as' : Nat → Nat} {o b L n : Nat} {ys : Nat → Int32} {σ τ : kt_S} {xs : Nat → Int64} {x : Int32} (La : kl_La p s m args c D cA cL as as' o b L ys) (hl : lv_has ls 8 [(4, .int x), (3, .ref o), (2, .ref (as' 0)), (1, .ref (as 0)), (0, .ref b)]) (hPt : kl_Pt s D cA cL as as' o σ τ xs H locs) (hR : kR n σ τ) (hn : n + 1 < 10000) (hin : kl_in x L) (hroom : cells + 1 ≤ 606257 ∧ slots + 6 ≤ 7277333) (kk : kl_next l p e s m args below meth c D cA cL as as' o b n cells slots Q x) : W p l e room_1 s m args below meth c H locs cells slots Q (F0 m 108 ls []) := by
  have hx := La.1
  have hb := La.2.1
  have hown := La.2.2.2.1
  have hts := La.2.2.2.2.1
  have ho := La.2.2.2.2.2.2.2.2.2.1.2.1
  obtain ⟨r, σ', τ', hK, hM, hR'⟩ := kR_press hR
  have hKf : kf_K_press [.ref 0] σ = some (some (.int r), σ') := by rw [kq_K_press, hK]; rfl
  have hMf : kf_M_press [.ref 0] τ = some (some (.int r), τ') := by rw [kq_M_press, hM]; rfl
  have hR' := kR_mono (show n ≤ n + 1 by omega) hn hR'
  refine lv_aload_n hx hb dk_law_108 rfl (lv_at hl 3 rfl) ?_
  refine kl_CC (av := []) (rest := []) La hPt km_K_press hKf rfl kv_K_press (kl_w 3 rfl) rfl hl.1 ⟨by decide, by decide⟩ (Nat.le_of_ble_eq_true rfl) dk_law_109 ⟨by omega, by omega⟩ (fun H locs hPt => ?_)
  refine W.eq (g2 := F0 m 112 ls [.int r]) rfl ?_
  refine lv_aload_n hx hb dk_law_112 rfl (lv_at hl 2 rfl) ?_
  refine kl_CM (av := []) (rest := [.int r]) La hPt km_M_press hMf rfl kv_M_press (kl_w 45 rfl) rfl hl.1 ⟨by decide, by decide⟩ (Nat.le_of_ble_eq_true rfl) dk_law_113 ⟨by omega, by omega⟩ (fun H locs hPt => ?_)
  refine W.eq (g2 := F0 m 116 ls [.int r, .int r]) rfl ?_
  refine lv_icmp_eq hx hb dk_law_116 (tgt := 802) (by decide) (fun _ => ?_) (fun h => absurd rfl h)
  refine W.widen (k := cells + 1) (n := slots + 6) (by omega) (by omega) ?_
  exact kk σ' τ' xs H locs ls hl hPt hR'
set_option maxHeartbeats 4000000 in
theorem kb_feed {l : Launch} (hf : l.flags = pinnedFlags ++ [noTraceFlag]) {p : Program} {e : Env} {s : State} {m : MethodId} {args : Array Value} {below : List Frame} {meth : Method} {c : Code} {H : Heap} {locs : List Loc} {cells slots : Nat} {Q : State → Prop} {ls : Array Slot} {D : va_G} {cA : Nat → ClassId} {cL : ClassId} {as as' : Nat → Nat} {o b L n : Nat} {ys : Nat → Int32} {σ τ : kt_S} {xs : Nat → Int64} {x : Int32} (La : kl_La p s m args c D cA cL as as' o b L ys) (hl : lv_has ls 8 [(4, .int x), (3, .ref o), (2, .ref (as' 0)), (1, .ref (as 0)), (0, .ref b)]) (hPt : kl_Pt s D cA cL as as' o σ τ xs H locs) (hR : kR n σ τ) (hn : n + 1 < 10000) (hin : kl_in x L) (hroom : cells + 1 ≤ 606257 ∧ slots + 6 ≤ 7277333) (kk : kl_next l p e s m args below meth c D cA cL as as' o b n cells slots Q x) : W p l e room_1 s m args below meth c H locs cells slots Q (F0 m 121 ls []) := by
  have hx := La.1
  have hb := La.2.1
  have hown := La.2.2.2.1
  have hts := La.2.2.2.2.1
  have ho := La.2.2.2.2.2.2.2.2.2.1.2.1
  obtain ⟨r, σ', τ', hK, hM, h0, hR'⟩ := kl_feed hR (kl_word (ys (x + 1).toNatClampNeg) (ys (x + 2).toNatClampNeg)) (ys (x + 3).toNatClampNeg)
  have hMf : kf_M_feed [.ref 0, .long (kl_word (ys (x + 1).toNatClampNeg) (ys (x + 2).toNatClampNeg)), .int (ys (x + 3).toNatClampNeg)] τ = some (none, τ') := by rw [kq_M_feed, hM]; rfl
  have hTf : kf_M_thrown [.ref 0] τ' = some (some (.int (τ' 0 0)), τ') := by rw [kq_M_thrown]; rfl
  have hR' := kR_mono (show n ≤ n + 1 by omega) hn hR'
  refine lv_aload_n hx hb dk_law_121 rfl (lv_at hl 3 rfl) ?_
  refine lv_aload_n hx hb dk_law_122 rfl (lv_at hl 4 rfl) ?_
  refine lv_iload hx hb dk_law_123 (lv_at hl 0 rfl) ?_
  refine lv_iconst (v := 1) hx hb dk_law_125 (by decide) ?_
  refine lv_iadd hx hb dk_law_126 ?_
  refine kl_sc La hPt hin.2.1 dk_law_127 ?_
  refine lv_i2l hx hb dk_law_128 rfl ?_
  refine lv_bipush (v := 32) hx hb dk_law_129 (by decide) ?_
  refine lv_lshl hx hb dk_law_131 rfl ?_
  refine lv_aload_n hx hb dk_law_132 rfl (lv_at hl 4 rfl) ?_
  refine lv_iload hx hb dk_law_133 (lv_at hl 0 rfl) ?_
  refine lv_iconst (v := 2) hx hb dk_law_135 (by decide) ?_
  refine lv_iadd hx hb dk_law_136 ?_
  refine kl_sc La hPt hin.2.2.1 dk_law_137 ?_
  refine lv_i2l hx hb dk_law_138 rfl ?_
  refine lv_ldc2 hx hb hown (hts (.constantLong RL 53 4294967295) (kl_w 59 rfl)) dk_law_139 ?_
  refine lv_land hx hb dk_law_142 ?_
  refine lv_lor hx hb dk_law_143 ?_
  refine lv_aload_n hx hb dk_law_144 rfl (lv_at hl 4 rfl) ?_
  refine lv_iload hx hb dk_law_145 (lv_at hl 0 rfl) ?_
  refine lv_iconst (v := 3) hx hb dk_law_147 (by decide) ?_
  refine lv_iadd hx hb dk_law_148 ?_
  refine kl_sc La hPt hin.2.2.2.1 dk_law_149 ?_
  refine kl_CH (np := 3) (av := [.ref (as 0), .long (kl_word (ys (x + 1).toNatClampNeg) (ys (x + 2).toNatClampNeg)), .int (ys (x + 3).toNatClampNeg)]) (rest := []) La hPt (kh_feed hf (kl_word (ys (x + 1).toNatClampNeg) (ys (x + 2).toNatClampNeg)) (ys (x + 3).toNatClampNeg) r hK ho) (kl_w 12 rfl) rfl (kl_w 11 rfl) (kl_w 10 rfl) (by decide +kernel) rfl hl.1 (by decide) (Nat.le_of_ble_eq_true rfl) dk_law_150 hroom (fun H locs hPt => ?_)
  refine W.eq (g2 := F0 m 153 ls [.int (kl_cd kT_feed r)]) rfl ?_
  refine lv_istore hx hb dk_law_153 hl (by decide) rfl (fun ls hl => ?_)
  have hl : lv_has ls 8 [(5, .int (kl_cd kT_feed r)), (4, .int x), (3, .ref o), (2, .ref (as' 0)), (1, .ref (as 0)), (0, .ref b)] := hl
  refine lv_aload_n hx hb dk_law_155 rfl (lv_at hl 3 rfl) ?_
  refine lv_aload_n hx hb dk_law_156 rfl (lv_at hl 5 rfl) ?_
  refine lv_iload hx hb dk_law_157 (lv_at hl 1 rfl) ?_
  refine lv_iconst (v := 1) hx hb dk_law_159 (by decide) ?_
  refine lv_iadd hx hb dk_law_160 ?_
  refine kl_sc La hPt hin.2.1 dk_law_161 ?_
  refine lv_i2l hx hb dk_law_162 rfl ?_
  refine lv_bipush (v := 32) hx hb dk_law_163 (by decide) ?_
  refine lv_lshl hx hb dk_law_165 rfl ?_
  refine lv_aload_n hx hb dk_law_166 rfl (lv_at hl 5 rfl) ?_
  refine lv_iload hx hb dk_law_167 (lv_at hl 1 rfl) ?_
  refine lv_iconst (v := 2) hx hb dk_law_169 (by decide) ?_
  refine lv_iadd hx hb dk_law_170 ?_
  refine kl_sc La hPt hin.2.2.1 dk_law_171 ?_
  refine lv_i2l hx hb dk_law_172 rfl ?_
  refine lv_ldc2 hx hb hown (hts (.constantLong RL 53 4294967295) (kl_w 59 rfl)) dk_law_173 ?_
  refine lv_land hx hb dk_law_176 ?_
  refine lv_lor hx hb dk_law_177 ?_
  refine lv_aload_n hx hb dk_law_178 rfl (lv_at hl 5 rfl) ?_
  refine lv_iload hx hb dk_law_179 (lv_at hl 1 rfl) ?_
  refine lv_iconst (v := 3) hx hb dk_law_181 (by decide) ?_
  refine lv_iadd hx hb dk_law_182 ?_
  refine kl_sc La hPt hin.2.2.2.1 dk_law_183 ?_
  refine kl_CM (av := [.long (kl_word (ys (x + 1).toNatClampNeg) (ys (x + 2).toNatClampNeg)), .int (ys (x + 3).toNatClampNeg)]) (rest := []) La hPt km_M_feed hMf rfl kv_M_feed (kl_w 46 rfl) rfl hl.1 ⟨by decide, by decide⟩ (Nat.le_of_ble_eq_true rfl) dk_law_184 ⟨by omega, by omega⟩ (fun H locs hPt => ?_)
  refine W.eq (g2 := F0 m 187 ls []) rfl ?_
  refine lv_aload_n hx hb dk_law_187 rfl (lv_at hl 3 rfl) ?_
  refine kl_CM (av := []) (rest := []) La hPt km_M_thrown hTf rfl kv_M_thrown (kl_w 44 rfl) rfl hl.1 ⟨by decide, by decide⟩ (Nat.le_of_ble_eq_true rfl) dk_law_188 ⟨by omega, by omega⟩ (fun H locs hPt => ?_)
  refine W.eq (g2 := F0 m 191 ls [.int (τ' 0 0)]) rfl ?_
  refine lv_iload hx hb dk_law_191 (lv_at hl 0 rfl) ?_
  refine lv_icmp_eq hx hb dk_law_193 (tgt := 198) (by decide) (fun _ => ?_) (fun h => absurd h0 h)
  refine lv_goto hx hb dk_law_198 (tgt := 802) (by decide) ?_
  exact kk σ' τ' _ H locs ls (kl_has1 hl) hPt hR'
set_option maxHeartbeats 4000000 in
theorem kb_send {l : Launch} (hf : l.flags = pinnedFlags ++ [noTraceFlag]) {p : Program} {e : Env} {s : State} {m : MethodId} {args : Array Value} {below : List Frame} {meth : Method} {c : Code} {H : Heap} {locs : List Loc} {cells slots : Nat} {Q : State → Prop} {ls : Array Slot} {D : va_G} {cA : Nat → ClassId} {cL : ClassId} {as as' : Nat → Nat} {o b L n : Nat} {ys : Nat → Int32} {σ τ : kt_S} {xs : Nat → Int64} {x : Int32} (La : kl_La p s m args c D cA cL as as' o b L ys) (hl : lv_has ls 8 [(4, .int x), (3, .ref o), (2, .ref (as' 0)), (1, .ref (as 0)), (0, .ref b)]) (hPt : kl_Pt s D cA cL as as' o σ τ xs H locs) (hR : kR n σ τ) (hn : n + 1 < 10000) (hin : kl_in x L) (hroom : cells + 1 ≤ 606257 ∧ slots + 6 ≤ 7277333) (kk : kl_next l p e s m args below meth c D cA cL as as' o b n cells slots Q x) : W p l e room_1 s m args below meth c H locs cells slots Q (F0 m 201 ls []) := by
  have hx := La.1
  have hb := La.2.1
  have hown := La.2.2.2.1
  have hts := La.2.2.2.2.1
  have ho := La.2.2.2.2.2.2.2.2.2.1.2.1
  obtain ⟨r, v, σ', τ', hK, hM, h0, hv, hR'⟩ := kl_may (kR_send hR hn )
  have hMf : kf_M_send [.ref 0] τ = some (some (.int v), τ') := by rw [kq_M_send, hM]; rfl
  have hTf : kf_M_thrown [.ref 0] τ' = some (some (.int (τ' 0 0)), τ') := by rw [kq_M_thrown]; rfl
  refine lv_aload_n hx hb dk_law_201 rfl (lv_at hl 3 rfl) ?_
  refine lv_aload_n hx hb dk_law_202 rfl (lv_at hl 1 rfl) ?_
  refine kl_CH (np := 2) (av := [.ref (as 0), .ref o]) (rest := []) La hPt (kh_send hf  r hK ho) (kl_w 18 rfl) rfl (kl_w 17 rfl) (kl_w 16 rfl) (by decide +kernel) rfl hl.1 (by decide) (Nat.le_of_ble_eq_true rfl) dk_law_203 hroom (fun H locs hPt => ?_)
  refine W.eq (g2 := F0 m 206 ls [.int (kl_cd (fun _ => 1) r)]) rfl ?_
  refine lv_istore hx hb dk_law_206 hl (by decide) rfl (fun ls hl => ?_)
  have hl : lv_has ls 8 [(5, .int (kl_cd (fun _ => 1) r)), (4, .int x), (3, .ref o), (2, .ref (as' 0)), (1, .ref (as 0)), (0, .ref b)] := hl
  refine lv_aload_n hx hb dk_law_208 rfl (lv_at hl 3 rfl) ?_
  refine kl_CM (av := []) (rest := []) La hPt km_M_send hMf rfl kv_M_send (kl_w 47 rfl) rfl hl.1 ⟨by decide, by decide⟩ (Nat.le_of_ble_eq_true rfl) dk_law_209 ⟨by omega, by omega⟩ (fun H locs hPt => ?_)
  refine W.eq (g2 := F0 m 212 ls [.int v]) rfl ?_
  refine lv_istore hx hb dk_law_212 hl (by decide) rfl (fun ls hl => ?_)
  have hl : lv_has ls 8 [(6, .int v), (5, .int (kl_cd (fun _ => 1) r)), (4, .int x), (3, .ref o), (2, .ref (as' 0)), (1, .ref (as 0)), (0, .ref b)] := hl
  refine lv_aload_n hx hb dk_law_214 rfl (lv_at hl 4 rfl) ?_
  refine kl_CM (av := []) (rest := []) La hPt km_M_thrown hTf rfl kv_M_thrown (kl_w 44 rfl) rfl hl.1 ⟨by decide, by decide⟩ (Nat.le_of_ble_eq_true rfl) dk_law_215 ⟨by omega, by omega⟩ (fun H locs hPt => ?_)
  refine W.eq (g2 := F0 m 218 ls [.int (τ' 0 0)]) rfl ?_
  refine lv_iload hx hb dk_law_218 (lv_at hl 1 rfl) ?_
  refine lv_icmp_eq hx hb dk_law_220 (tgt := 225) (by decide) (fun _ => ?_) (fun h => absurd h0 h)
  refine lv_iload hx hb dk_law_225 (lv_at hl 1 rfl) ?_
  refine lv_if_ne hx hb dk_law_227 (tgt := 242) (by decide) (fun _ => ?_) (fun hz => ?_)
  · exact lv_goto hx hb dk_law_242 (tgt := 802) (by decide) (kk σ' τ' _ H locs ls (kl_has2 hl) hPt hR')
  cases r with
  | inl e1 => exact absurd hz ((show ¬ (1 : Int32) = 0 by decide))
  | inr u =>
    obtain rfl := hv u rfl
    clear hv
    refine lv_aload_n hx hb dk_law_230 rfl (lv_at hl 3 rfl) ?_
    refine lv_iconst (v := 0) hx hb dk_law_231 (by decide) ?_
    refine kl_rd La hPt dk_law_232 ?_
    refine lv_iload hx hb dk_law_233 (lv_at hl 0 rfl) ?_
    refine lv_i2l hx hb dk_law_235 rfl ?_
    refine W.lcmp hx hb dk_law_236 ?_
    refine lv_if_eq hx hb dk_law_237 (tgt := 242) (by decide) (fun _ => ?_) (fun h => absurd (kl_cmpI _ _) h)
    exact lv_goto hx hb dk_law_242 (tgt := 802) (by decide) (kk σ' τ' _ H locs ls (kl_has2 hl) hPt hR')
set_option maxHeartbeats 4000000 in
theorem kb_waiting {l : Launch} (hf : l.flags = pinnedFlags ++ [noTraceFlag]) {p : Program} {e : Env} {s : State} {m : MethodId} {args : Array Value} {below : List Frame} {meth : Method} {c : Code} {H : Heap} {locs : List Loc} {cells slots : Nat} {Q : State → Prop} {ls : Array Slot} {D : va_G} {cA : Nat → ClassId} {cL : ClassId} {as as' : Nat → Nat} {o b L n : Nat} {ys : Nat → Int32} {σ τ : kt_S} {xs : Nat → Int64} {x : Int32} (La : kl_La p s m args c D cA cL as as' o b L ys) (hl : lv_has ls 8 [(4, .int x), (3, .ref o), (2, .ref (as' 0)), (1, .ref (as 0)), (0, .ref b)]) (hPt : kl_Pt s D cA cL as as' o σ τ xs H locs) (hR : kR n σ τ) (hn : n + 1 < 10000) (hin : kl_in x L) (hroom : cells + 1 ≤ 606257 ∧ slots + 6 ≤ 7277333) (kk : kl_next l p e s m args below meth c D cA cL as as' o b n cells slots Q x) : W p l e room_1 s m args below meth c H locs cells slots Q (F0 m 245 ls []) := by
  have hx := La.1
  have hb := La.2.1
  have hown := La.2.2.2.1
  have hts := La.2.2.2.2.1
  have ho := La.2.2.2.2.2.2.2.2.2.1.2.1
  obtain ⟨r, σ', τ', hK, hM, -, hR'⟩ := kR_waiting hR
  have hKf : kf_K_waiting [.ref 0] σ = some (some (.int r), σ') := by rw [kq_K_waiting, hK]; rfl
  have hMf : kf_M_waiting [.ref 0] τ = some (some (.int r), τ') := by rw [kq_M_waiting, hM]; rfl
  have hR' := kR_mono (show n ≤ n + 1 by omega) hn hR'
  refine lv_aload_n hx hb dk_law_245 rfl (lv_at hl 3 rfl) ?_
  refine kl_CC (av := []) (rest := []) La hPt km_K_waiting hKf rfl kv_K_waiting (kl_w 4 rfl) rfl hl.1 ⟨by decide, by decide⟩ (Nat.le_of_ble_eq_true rfl) dk_law_246 ⟨by omega, by omega⟩ (fun H locs hPt => ?_)
  refine W.eq (g2 := F0 m 249 ls [.int r]) rfl ?_
  refine lv_aload_n hx hb dk_law_249 rfl (lv_at hl 2 rfl) ?_
  refine kl_CM (av := []) (rest := [.int r]) La hPt km_M_waiting hMf rfl kv_M_waiting (kl_w 48 rfl) rfl hl.1 ⟨by decide, by decide⟩ (Nat.le_of_ble_eq_true rfl) dk_law_250 ⟨by omega, by omega⟩ (fun H locs hPt => ?_)
  refine W.eq (g2 := F0 m 253 ls [.int r, .int r]) rfl ?_
  refine lv_icmp_eq hx hb dk_law_253 (tgt := 802) (by decide) (fun _ => ?_) (fun h => absurd rfl h)
  refine W.widen (k := cells + 1) (n := slots + 6) (by omega) (by omega) ?_
  exact kk σ' τ' xs H locs ls hl hPt hR'
set_option maxHeartbeats 4000000 in
theorem kb_take {l : Launch} (hf : l.flags = pinnedFlags ++ [noTraceFlag]) {p : Program} {e : Env} {s : State} {m : MethodId} {args : Array Value} {below : List Frame} {meth : Method} {c : Code} {H : Heap} {locs : List Loc} {cells slots : Nat} {Q : State → Prop} {ls : Array Slot} {D : va_G} {cA : Nat → ClassId} {cL : ClassId} {as as' : Nat → Nat} {o b L n : Nat} {ys : Nat → Int32} {σ τ : kt_S} {xs : Nat → Int64} {x : Int32} (La : kl_La p s m args c D cA cL as as' o b L ys) (hl : lv_has ls 8 [(4, .int x), (3, .ref o), (2, .ref (as' 0)), (1, .ref (as 0)), (0, .ref b)]) (hPt : kl_Pt s D cA cL as as' o σ τ xs H locs) (hR : kR n σ τ) (hn : n + 1 < 10000) (hin : kl_in x L) (hroom : cells + 1 ≤ 606257 ∧ slots + 6 ≤ 7277333) (kk : kl_next l p e s m args below meth c D cA cL as as' o b n cells slots Q x) : W p l e room_1 s m args below meth c H locs cells slots Q (F0 m 258 ls []) := by
  have hx := La.1
  have hb := La.2.1
  have hown := La.2.2.2.1
  have hts := La.2.2.2.2.1
  have ho := La.2.2.2.2.2.2.2.2.2.1.2.1
  obtain ⟨r, v, σ', τ', hK, hM, h0, hv, hR'⟩ := kl_take hR
  have hMf : kf_M_take [.ref 0] τ = some (some (.long v), τ') := by rw [kq_M_take, hM]; rfl
  have hTf : kf_M_thrown [.ref 0] τ' = some (some (.int (τ' 0 0)), τ') := by rw [kq_M_thrown]; rfl
  have hR' := kR_mono (show n ≤ n + 1 by omega) hn hR'
  refine lv_aload_n hx hb dk_law_258 rfl (lv_at hl 3 rfl) ?_
  refine lv_aload_n hx hb dk_law_259 rfl (lv_at hl 1 rfl) ?_
  refine kl_CH (np := 2) (av := [.ref (as 0), .ref o]) (rest := []) La hPt (kh_take hf  r hK ho) (kl_w 22 rfl) rfl (kl_w 21 rfl) (kl_w 20 rfl) (by decide +kernel) rfl hl.1 (by decide) (Nat.le_of_ble_eq_true rfl) dk_law_260 hroom (fun H locs hPt => ?_)
  refine W.eq (g2 := F0 m 263 ls [.int (kl_cd (fun _ => 1) r)]) rfl ?_
  refine lv_istore hx hb dk_law_263 hl (by decide) rfl (fun ls hl => ?_)
  have hl : lv_has ls 8 [(5, .int (kl_cd (fun _ => 1) r)), (4, .int x), (3, .ref o), (2, .ref (as' 0)), (1, .ref (as 0)), (0, .ref b)] := hl
  refine lv_aload_n hx hb dk_law_265 rfl (lv_at hl 3 rfl) ?_
  refine kl_CM (av := []) (rest := []) La hPt km_M_take hMf rfl kv_M_take (kl_w 49 rfl) rfl hl.1 ⟨by decide, by decide⟩ (Nat.le_of_ble_eq_true rfl) dk_law_266 ⟨by omega, by omega⟩ (fun H locs hPt => ?_)
  refine W.eq (g2 := F0 m 269 ls [.long v]) rfl ?_
  refine lv_lstore hx hb dk_law_269 hl (by decide) rfl (fun ls hl => ?_)
  have hl : lv_has ls 8 [(6, .long v), (5, .int (kl_cd (fun _ => 1) r)), (4, .int x), (3, .ref o), (2, .ref (as' 0)), (1, .ref (as 0)), (0, .ref b)] := hl
  refine lv_aload_n hx hb dk_law_271 rfl (lv_at hl 4 rfl) ?_
  refine kl_CM (av := []) (rest := []) La hPt km_M_thrown hTf rfl kv_M_thrown (kl_w 44 rfl) rfl hl.1 ⟨by decide, by decide⟩ (Nat.le_of_ble_eq_true rfl) dk_law_272 ⟨by omega, by omega⟩ (fun H locs hPt => ?_)
  refine W.eq (g2 := F0 m 275 ls [.int (τ' 0 0)]) rfl ?_
  refine lv_iload hx hb dk_law_275 (lv_at hl 1 rfl) ?_
  refine lv_icmp_eq hx hb dk_law_277 (tgt := 282) (by decide) (fun _ => ?_) (fun h => absurd h0 h)
  refine lv_iload hx hb dk_law_282 (lv_at hl 1 rfl) ?_
  refine lv_if_ne hx hb dk_law_284 (tgt := 298) (by decide) (fun _ => ?_) (fun hz => ?_)
  · exact lv_goto hx hb dk_law_298 (tgt := 802) (by decide) (kk σ' τ' _ H locs ls (kl_has2 hl) hPt hR')
  cases r with
  | inl e1 => exact absurd hz ((show ¬ (1 : Int32) = 0 by decide))
  | inr u =>
    obtain rfl := hv u rfl
    clear hv
    refine lv_aload_n hx hb dk_law_287 rfl (lv_at hl 3 rfl) ?_
    refine lv_iconst (v := 0) hx hb dk_law_288 (by decide) ?_
    refine kl_rd La hPt dk_law_289 ?_
    refine lv_lload hx hb dk_law_290 (lv_at hl 0 rfl) ?_
    refine W.lcmp hx hb dk_law_292 ?_
    refine lv_if_eq hx hb dk_law_293 (tgt := 298) (by decide) (fun _ => ?_) (fun h => absurd (kl_cmpL _ _) h)
    exact lv_goto hx hb dk_law_298 (tgt := 802) (by decide) (kk σ' τ' _ H locs ls (kl_has2 hl) hPt hR')
set_option maxHeartbeats 4000000 in
theorem kb_power {l : Launch} (hf : l.flags = pinnedFlags ++ [noTraceFlag]) {p : Program} {e : Env} {s : State} {m : MethodId} {args : Array Value} {below : List Frame} {meth : Method} {c : Code} {H : Heap} {locs : List Loc} {cells slots : Nat} {Q : State → Prop} {ls : Array Slot} {D : va_G} {cA : Nat → ClassId} {cL : ClassId} {as as' : Nat → Nat} {o b L n : Nat} {ys : Nat → Int32} {σ τ : kt_S} {xs : Nat → Int64} {x : Int32} (La : kl_La p s m args c D cA cL as as' o b L ys) (hl : lv_has ls 8 [(4, .int x), (3, .ref o), (2, .ref (as' 0)), (1, .ref (as 0)), (0, .ref b)]) (hPt : kl_Pt s D cA cL as as' o σ τ xs H locs) (hR : kR n σ τ) (hn : n + 1 < 10000) (hin : kl_in x L) (hroom : cells + 1 ≤ 606257 ∧ slots + 6 ≤ 7277333) (kk : kl_next l p e s m args below meth c D cA cL as as' o b n cells slots Q x) : W p l e room_1 s m args below meth c H locs cells slots Q (F0 m 301 ls []) := by
  have hx := La.1
  have hb := La.2.1
  have hown := La.2.2.2.1
  have hts := La.2.2.2.2.1
  have ho := La.2.2.2.2.2.2.2.2.2.1.2.1
  obtain ⟨r, σ', τ', hK, hM, -, hR'⟩ := kR_power hR (kl_b (ys (x + 1).toNatClampNeg)) (kl_b_bool _)
  have hKf : kf_K_power [.ref 0, .int (kl_b (ys (x + 1).toNatClampNeg))] σ = some (some (.int r), σ') := by rw [kq_K_power, hK]; rfl
  have hMf : kf_M_power [.ref 0, .int (kl_b (ys (x + 1).toNatClampNeg))] τ = some (some (.int r), τ') := by rw [kq_M_power, hM]; rfl
  have hR' := kR_mono (show n ≤ n + 1 by omega) hn hR'
  refine lv_aload_n hx hb dk_law_301 rfl (lv_at hl 3 rfl) ?_
  refine lv_aload_n hx hb dk_law_302 rfl (lv_at hl 4 rfl) ?_
  refine lv_iload hx hb dk_law_303 (lv_at hl 0 rfl) ?_
  refine lv_iconst (v := 1) hx hb dk_law_305 (by decide) ?_
  refine lv_iadd hx hb dk_law_306 ?_
  refine kl_sc La hPt hin.2.1 dk_law_307 ?_
  refine kl_bz (p1 := 311) (p2 := 312) (p3 := 315) (j := 316) La dk_law_308 (by decide) rfl dk_law_311 rfl dk_law_312 (by decide) dk_law_315 rfl ?_
  refine kl_CC (av := [.int (kl_b (ys (x + 1).toNatClampNeg))]) (rest := []) La hPt km_K_power hKf rfl kv_K_power (kl_w 5 rfl) rfl hl.1 ⟨by decide, by decide⟩ (Nat.le_of_ble_eq_true rfl) dk_law_316 ⟨by omega, by omega⟩ (fun H locs hPt => ?_)
  refine W.eq (g2 := F0 m 319 ls [.int r]) rfl ?_
  refine lv_aload_n hx hb dk_law_319 rfl (lv_at hl 2 rfl) ?_
  refine lv_aload_n hx hb dk_law_320 rfl (lv_at hl 4 rfl) ?_
  refine lv_iload hx hb dk_law_321 (lv_at hl 0 rfl) ?_
  refine lv_iconst (v := 1) hx hb dk_law_323 (by decide) ?_
  refine lv_iadd hx hb dk_law_324 ?_
  refine kl_sc La hPt hin.2.1 dk_law_325 ?_
  refine kl_bz (p1 := 329) (p2 := 330) (p3 := 333) (j := 334) La dk_law_326 (by decide) rfl dk_law_329 rfl dk_law_330 (by decide) dk_law_333 rfl ?_
  refine kl_CM (av := [.int (kl_b (ys (x + 1).toNatClampNeg))]) (rest := [.int r]) La hPt km_M_power hMf rfl kv_M_power (kl_w 50 rfl) rfl hl.1 ⟨by decide, by decide⟩ (Nat.le_of_ble_eq_true rfl) dk_law_334 ⟨by omega, by omega⟩ (fun H locs hPt => ?_)
  refine W.eq (g2 := F0 m 337 ls [.int r, .int r]) rfl ?_
  refine lv_icmp_eq hx hb dk_law_337 (tgt := 802) (by decide) (fun _ => ?_) (fun h => absurd rfl h)
  refine W.widen (k := cells + 1) (n := slots + 6) (by omega) (by omega) ?_
  exact kk σ' τ' xs H locs ls hl hPt hR'
set_option maxHeartbeats 4000000 in
theorem kb_cut {l : Launch} (hf : l.flags = pinnedFlags ++ [noTraceFlag]) {p : Program} {e : Env} {s : State} {m : MethodId} {args : Array Value} {below : List Frame} {meth : Method} {c : Code} {H : Heap} {locs : List Loc} {cells slots : Nat} {Q : State → Prop} {ls : Array Slot} {D : va_G} {cA : Nat → ClassId} {cL : ClassId} {as as' : Nat → Nat} {o b L n : Nat} {ys : Nat → Int32} {σ τ : kt_S} {xs : Nat → Int64} {x : Int32} (La : kl_La p s m args c D cA cL as as' o b L ys) (hl : lv_has ls 8 [(4, .int x), (3, .ref o), (2, .ref (as' 0)), (1, .ref (as 0)), (0, .ref b)]) (hPt : kl_Pt s D cA cL as as' o σ τ xs H locs) (hR : kR n σ τ) (hn : n + 1 < 10000) (hin : kl_in x L) (hroom : cells + 1 ≤ 606257 ∧ slots + 6 ≤ 7277333) (kk : kl_next l p e s m args below meth c D cA cL as as' o b n cells slots Q x) : W p l e room_1 s m args below meth c H locs cells slots Q (F0 m 342 ls []) := by
  have hx := La.1
  have hb := La.2.1
  have hown := La.2.2.2.1
  have hts := La.2.2.2.2.1
  have ho := La.2.2.2.2.2.2.2.2.2.1.2.1
  obtain ⟨r, σ', τ', hK, hM, hR'⟩ := kR_cutC hR (ys (x + 1).toNatClampNeg)
  have hKf : kf_K_cut [.ref 0, .int (ys (x + 1).toNatClampNeg)] σ = some (some (.int r), σ') := by rw [kq_K_cut, hK]; rfl
  have hMf : kf_M_cut [.ref 0, .int (ys (x + 1).toNatClampNeg)] τ = some (some (.int r), τ') := by rw [kq_M_cut, hM]; rfl
  have hR' := kR_mono (show n ≤ n + 1 by omega) hn hR'
  refine lv_aload_n hx hb dk_law_342 rfl (lv_at hl 3 rfl) ?_
  refine lv_aload_n hx hb dk_law_343 rfl (lv_at hl 4 rfl) ?_
  refine lv_iload hx hb dk_law_344 (lv_at hl 0 rfl) ?_
  refine lv_iconst (v := 1) hx hb dk_law_346 (by decide) ?_
  refine lv_iadd hx hb dk_law_347 ?_
  refine kl_sc La hPt hin.2.1 dk_law_348 ?_
  refine kl_CC (av := [.int (ys (x + 1).toNatClampNeg)]) (rest := []) La hPt km_K_cut hKf rfl kv_K_cut (kl_w 6 rfl) rfl hl.1 ⟨by decide, by decide⟩ (Nat.le_of_ble_eq_true rfl) dk_law_349 ⟨by omega, by omega⟩ (fun H locs hPt => ?_)
  refine W.eq (g2 := F0 m 352 ls [.int r]) rfl ?_
  refine lv_aload_n hx hb dk_law_352 rfl (lv_at hl 2 rfl) ?_
  refine lv_aload_n hx hb dk_law_353 rfl (lv_at hl 4 rfl) ?_
  refine lv_iload hx hb dk_law_354 (lv_at hl 0 rfl) ?_
  refine lv_iconst (v := 1) hx hb dk_law_356 (by decide) ?_
  refine lv_iadd hx hb dk_law_357 ?_
  refine kl_sc La hPt hin.2.1 dk_law_358 ?_
  refine kl_CM (av := [.int (ys (x + 1).toNatClampNeg)]) (rest := [.int r]) La hPt km_M_cut hMf rfl kv_M_cut (kl_w 51 rfl) rfl hl.1 ⟨by decide, by decide⟩ (Nat.le_of_ble_eq_true rfl) dk_law_359 ⟨by omega, by omega⟩ (fun H locs hPt => ?_)
  refine W.eq (g2 := F0 m 362 ls [.int r, .int r]) rfl ?_
  refine lv_icmp_eq hx hb dk_law_362 (tgt := 802) (by decide) (fun _ => ?_) (fun h => absurd rfl h)
  refine W.widen (k := cells + 1) (n := slots + 6) (by omega) (by omega) ?_
  exact kk σ' τ' xs H locs ls hl hPt hR'
set_option maxHeartbeats 4000000 in
theorem kb_open {l : Launch} (hf : l.flags = pinnedFlags ++ [noTraceFlag]) {p : Program} {e : Env} {s : State} {m : MethodId} {args : Array Value} {below : List Frame} {meth : Method} {c : Code} {H : Heap} {locs : List Loc} {cells slots : Nat} {Q : State → Prop} {ls : Array Slot} {D : va_G} {cA : Nat → ClassId} {cL : ClassId} {as as' : Nat → Nat} {o b L n : Nat} {ys : Nat → Int32} {σ τ : kt_S} {xs : Nat → Int64} {x : Int32} (La : kl_La p s m args c D cA cL as as' o b L ys) (hl : lv_has ls 8 [(4, .int x), (3, .ref o), (2, .ref (as' 0)), (1, .ref (as 0)), (0, .ref b)]) (hPt : kl_Pt s D cA cL as as' o σ τ xs H locs) (hR : kR n σ τ) (hn : n + 1 < 10000) (hin : kl_in x L) (hroom : cells + 1 ≤ 606257 ∧ slots + 6 ≤ 7277333) (kk : kl_next l p e s m args below meth c D cA cL as as' o b n cells slots Q x) : W p l e room_1 s m args below meth c H locs cells slots Q (F0 m 367 ls []) := by
  have hx := La.1
  have hb := La.2.1
  have hown := La.2.2.2.1
  have hts := La.2.2.2.2.1
  have ho := La.2.2.2.2.2.2.2.2.2.1.2.1
  obtain ⟨r, v, σ', τ', hK, hM, h0, hv, hR'⟩ := kl_may (kR_open hR hn (ys (x + 1).toNatClampNeg) (ys (x + 2).toNatClampNeg))
  have hMf : kf_M_open [.ref 0, .int (ys (x + 1).toNatClampNeg), .int (ys (x + 2).toNatClampNeg)] τ = some (some (.int v), τ') := by rw [kq_M_open, hM]; rfl
  have hTf : kf_M_thrown [.ref 0] τ' = some (some (.int (τ' 0 0)), τ') := by rw [kq_M_thrown]; rfl
  refine lv_aload_n hx hb dk_law_367 rfl (lv_at hl 3 rfl) ?_
  refine lv_aload_n hx hb dk_law_368 rfl (lv_at hl 4 rfl) ?_
  refine lv_iload hx hb dk_law_369 (lv_at hl 0 rfl) ?_
  refine lv_iconst (v := 1) hx hb dk_law_371 (by decide) ?_
  refine lv_iadd hx hb dk_law_372 ?_
  refine kl_sc La hPt hin.2.1 dk_law_373 ?_
  refine lv_aload_n hx hb dk_law_374 rfl (lv_at hl 4 rfl) ?_
  refine lv_iload hx hb dk_law_375 (lv_at hl 0 rfl) ?_
  refine lv_iconst (v := 2) hx hb dk_law_377 (by decide) ?_
  refine lv_iadd hx hb dk_law_378 ?_
  refine kl_sc La hPt hin.2.2.1 dk_law_379 ?_
  refine lv_aload_n hx hb dk_law_380 rfl (lv_at hl 1 rfl) ?_
  refine kl_CH (np := 4) (av := [.ref (as 0), .int (ys (x + 1).toNatClampNeg), .int (ys (x + 2).toNatClampNeg), .ref o]) (rest := []) La hPt (kh_open hf (ys (x + 1).toNatClampNeg) (ys (x + 2).toNatClampNeg) r hK ho) (kl_w 27 rfl) rfl (kl_w 26 rfl) (kl_w 25 rfl) (by decide +kernel) rfl hl.1 (by decide) (Nat.le_of_ble_eq_true rfl) dk_law_381 hroom (fun H locs hPt => ?_)
  refine W.eq (g2 := F0 m 384 ls [.int (kl_cd (fun _ => 1) r)]) rfl ?_
  refine lv_istore hx hb dk_law_384 hl (by decide) rfl (fun ls hl => ?_)
  have hl : lv_has ls 8 [(5, .int (kl_cd (fun _ => 1) r)), (4, .int x), (3, .ref o), (2, .ref (as' 0)), (1, .ref (as 0)), (0, .ref b)] := hl
  refine lv_aload_n hx hb dk_law_386 rfl (lv_at hl 3 rfl) ?_
  refine lv_aload_n hx hb dk_law_387 rfl (lv_at hl 5 rfl) ?_
  refine lv_iload hx hb dk_law_388 (lv_at hl 1 rfl) ?_
  refine lv_iconst (v := 1) hx hb dk_law_390 (by decide) ?_
  refine lv_iadd hx hb dk_law_391 ?_
  refine kl_sc La hPt hin.2.1 dk_law_392 ?_
  refine lv_aload_n hx hb dk_law_393 rfl (lv_at hl 5 rfl) ?_
  refine lv_iload hx hb dk_law_394 (lv_at hl 1 rfl) ?_
  refine lv_iconst (v := 2) hx hb dk_law_396 (by decide) ?_
  refine lv_iadd hx hb dk_law_397 ?_
  refine kl_sc La hPt hin.2.2.1 dk_law_398 ?_
  refine kl_CM (av := [.int (ys (x + 1).toNatClampNeg), .int (ys (x + 2).toNatClampNeg)]) (rest := []) La hPt km_M_open hMf rfl kv_M_open (kl_w 52 rfl) rfl hl.1 ⟨by decide, by decide⟩ (Nat.le_of_ble_eq_true rfl) dk_law_399 ⟨by omega, by omega⟩ (fun H locs hPt => ?_)
  refine W.eq (g2 := F0 m 402 ls [.int v]) rfl ?_
  refine lv_istore hx hb dk_law_402 hl (by decide) rfl (fun ls hl => ?_)
  have hl : lv_has ls 8 [(6, .int v), (5, .int (kl_cd (fun _ => 1) r)), (4, .int x), (3, .ref o), (2, .ref (as' 0)), (1, .ref (as 0)), (0, .ref b)] := hl
  refine lv_aload_n hx hb dk_law_404 rfl (lv_at hl 4 rfl) ?_
  refine kl_CM (av := []) (rest := []) La hPt km_M_thrown hTf rfl kv_M_thrown (kl_w 44 rfl) rfl hl.1 ⟨by decide, by decide⟩ (Nat.le_of_ble_eq_true rfl) dk_law_405 ⟨by omega, by omega⟩ (fun H locs hPt => ?_)
  refine W.eq (g2 := F0 m 408 ls [.int (τ' 0 0)]) rfl ?_
  refine lv_iload hx hb dk_law_408 (lv_at hl 1 rfl) ?_
  refine lv_icmp_eq hx hb dk_law_410 (tgt := 415) (by decide) (fun _ => ?_) (fun h => absurd h0 h)
  refine lv_iload hx hb dk_law_415 (lv_at hl 1 rfl) ?_
  refine lv_if_ne hx hb dk_law_417 (tgt := 432) (by decide) (fun _ => ?_) (fun hz => ?_)
  · exact lv_goto hx hb dk_law_432 (tgt := 802) (by decide) (kk σ' τ' _ H locs ls (kl_has2 hl) hPt hR')
  cases r with
  | inl e1 => exact absurd hz ((show ¬ (1 : Int32) = 0 by decide))
  | inr u =>
    obtain rfl := hv u rfl
    clear hv
    refine lv_aload_n hx hb dk_law_420 rfl (lv_at hl 3 rfl) ?_
    refine lv_iconst (v := 0) hx hb dk_law_421 (by decide) ?_
    refine kl_rd La hPt dk_law_422 ?_
    refine lv_iload hx hb dk_law_423 (lv_at hl 0 rfl) ?_
    refine lv_i2l hx hb dk_law_425 rfl ?_
    refine W.lcmp hx hb dk_law_426 ?_
    refine lv_if_eq hx hb dk_law_427 (tgt := 432) (by decide) (fun _ => ?_) (fun h => absurd (kl_cmpI _ _) h)
    exact lv_goto hx hb dk_law_432 (tgt := 802) (by decide) (kk σ' τ' _ H locs ls (kl_has2 hl) hPt hR')
set_option maxHeartbeats 4000000 in
theorem kb_ceremony {l : Launch} (hf : l.flags = pinnedFlags ++ [noTraceFlag]) {p : Program} {e : Env} {s : State} {m : MethodId} {args : Array Value} {below : List Frame} {meth : Method} {c : Code} {H : Heap} {locs : List Loc} {cells slots : Nat} {Q : State → Prop} {ls : Array Slot} {D : va_G} {cA : Nat → ClassId} {cL : ClassId} {as as' : Nat → Nat} {o b L n : Nat} {ys : Nat → Int32} {σ τ : kt_S} {xs : Nat → Int64} {x : Int32} (La : kl_La p s m args c D cA cL as as' o b L ys) (hl : lv_has ls 8 [(4, .int x), (3, .ref o), (2, .ref (as' 0)), (1, .ref (as 0)), (0, .ref b)]) (hPt : kl_Pt s D cA cL as as' o σ τ xs H locs) (hR : kR n σ τ) (hn : n + 1 < 10000) (hin : kl_in x L) (hroom : cells + 1 ≤ 606257 ∧ slots + 6 ≤ 7277333) (kk : kl_next l p e s m args below meth c D cA cL as as' o b n cells slots Q x) : W p l e room_1 s m args below meth c H locs cells slots Q (F0 m 435 ls []) := by
  have hx := La.1
  have hb := La.2.1
  have hown := La.2.2.2.1
  have hts := La.2.2.2.2.1
  have ho := La.2.2.2.2.2.2.2.2.2.1.2.1
  obtain ⟨r, v, σ', τ', hK, hM, h0, hv, hR'⟩ := kl_may (kR_ceremony hR hn (ys (x + 1).toNatClampNeg) (ys (x + 2).toNatClampNeg) (kl_b (ys (x + 3).toNatClampNeg)) (ys (x + 4).toNatClampNeg))
  have hMf : kf_M_ceremony [.ref 0, .int (ys (x + 1).toNatClampNeg), .int (ys (x + 2).toNatClampNeg), .int (kl_b (ys (x + 3).toNatClampNeg)), .int (ys (x + 4).toNatClampNeg)] τ = some (some (.int v), τ') := by rw [kq_M_ceremony, hM]; rfl
  have hTf : kf_M_thrown [.ref 0] τ' = some (some (.int (τ' 0 0)), τ') := by rw [kq_M_thrown]; rfl
  refine lv_aload_n hx hb dk_law_435 rfl (lv_at hl 3 rfl) ?_
  refine lv_aload_n hx hb dk_law_436 rfl (lv_at hl 4 rfl) ?_
  refine lv_iload hx hb dk_law_437 (lv_at hl 0 rfl) ?_
  refine lv_iconst (v := 1) hx hb dk_law_439 (by decide) ?_
  refine lv_iadd hx hb dk_law_440 ?_
  refine kl_sc La hPt hin.2.1 dk_law_441 ?_
  refine lv_aload_n hx hb dk_law_442 rfl (lv_at hl 4 rfl) ?_
  refine lv_iload hx hb dk_law_443 (lv_at hl 0 rfl) ?_
  refine lv_iconst (v := 2) hx hb dk_law_445 (by decide) ?_
  refine lv_iadd hx hb dk_law_446 ?_
  refine kl_sc La hPt hin.2.2.1 dk_law_447 ?_
  refine lv_aload_n hx hb dk_law_448 rfl (lv_at hl 4 rfl) ?_
  refine lv_iload hx hb dk_law_449 (lv_at hl 0 rfl) ?_
  refine lv_iconst (v := 3) hx hb dk_law_451 (by decide) ?_
  refine lv_iadd hx hb dk_law_452 ?_
  refine kl_sc La hPt hin.2.2.2.1 dk_law_453 ?_
  refine kl_bz (p1 := 457) (p2 := 458) (p3 := 461) (j := 462) La dk_law_454 (by decide) rfl dk_law_457 rfl dk_law_458 (by decide) dk_law_461 rfl ?_
  refine lv_aload_n hx hb dk_law_462 rfl (lv_at hl 4 rfl) ?_
  refine lv_iload hx hb dk_law_463 (lv_at hl 0 rfl) ?_
  refine lv_iconst (v := 4) hx hb dk_law_465 (by decide) ?_
  refine lv_iadd hx hb dk_law_466 ?_
  refine kl_sc La hPt hin.2.2.2.2 dk_law_467 ?_
  refine lv_aload_n hx hb dk_law_468 rfl (lv_at hl 1 rfl) ?_
  refine kl_CH (np := 6) (av := [.ref (as 0), .int (ys (x + 1).toNatClampNeg), .int (ys (x + 2).toNatClampNeg), .int (kl_b (ys (x + 3).toNatClampNeg)), .int (ys (x + 4).toNatClampNeg), .ref o]) (rest := []) La hPt (kh_ceremony hf (ys (x + 1).toNatClampNeg) (ys (x + 2).toNatClampNeg) (kl_b (ys (x + 3).toNatClampNeg)) (ys (x + 4).toNatClampNeg) r hK ho) (kl_w 32 rfl) rfl (kl_w 31 rfl) (kl_w 30 rfl) (by decide +kernel) rfl hl.1 (by decide) (Nat.le_of_ble_eq_true rfl) dk_law_469 hroom (fun H locs hPt => ?_)
  refine W.eq (g2 := F0 m 472 ls [.int (kl_cd kT_cer r)]) rfl ?_
  refine lv_istore hx hb dk_law_472 hl (by decide) rfl (fun ls hl => ?_)
  have hl : lv_has ls 8 [(5, .int (kl_cd kT_cer r)), (4, .int x), (3, .ref o), (2, .ref (as' 0)), (1, .ref (as 0)), (0, .ref b)] := hl
  refine lv_aload_n hx hb dk_law_474 rfl (lv_at hl 3 rfl) ?_
  refine lv_aload_n hx hb dk_law_475 rfl (lv_at hl 5 rfl) ?_
  refine lv_iload hx hb dk_law_476 (lv_at hl 1 rfl) ?_
  refine lv_iconst (v := 1) hx hb dk_law_478 (by decide) ?_
  refine lv_iadd hx hb dk_law_479 ?_
  refine kl_sc La hPt hin.2.1 dk_law_480 ?_
  refine lv_aload_n hx hb dk_law_481 rfl (lv_at hl 5 rfl) ?_
  refine lv_iload hx hb dk_law_482 (lv_at hl 1 rfl) ?_
  refine lv_iconst (v := 2) hx hb dk_law_484 (by decide) ?_
  refine lv_iadd hx hb dk_law_485 ?_
  refine kl_sc La hPt hin.2.2.1 dk_law_486 ?_
  refine lv_aload_n hx hb dk_law_487 rfl (lv_at hl 5 rfl) ?_
  refine lv_iload hx hb dk_law_488 (lv_at hl 1 rfl) ?_
  refine lv_iconst (v := 3) hx hb dk_law_490 (by decide) ?_
  refine lv_iadd hx hb dk_law_491 ?_
  refine kl_sc La hPt hin.2.2.2.1 dk_law_492 ?_
  refine kl_bz (p1 := 496) (p2 := 497) (p3 := 500) (j := 501) La dk_law_493 (by decide) rfl dk_law_496 rfl dk_law_497 (by decide) dk_law_500 rfl ?_
  refine lv_aload_n hx hb dk_law_501 rfl (lv_at hl 5 rfl) ?_
  refine lv_iload hx hb dk_law_502 (lv_at hl 1 rfl) ?_
  refine lv_iconst (v := 4) hx hb dk_law_504 (by decide) ?_
  refine lv_iadd hx hb dk_law_505 ?_
  refine kl_sc La hPt hin.2.2.2.2 dk_law_506 ?_
  refine kl_CM (av := [.int (ys (x + 1).toNatClampNeg), .int (ys (x + 2).toNatClampNeg), .int (kl_b (ys (x + 3).toNatClampNeg)), .int (ys (x + 4).toNatClampNeg)]) (rest := []) La hPt km_M_ceremony hMf rfl kv_M_ceremony (kl_w 53 rfl) rfl hl.1 ⟨by decide, by decide⟩ (Nat.le_of_ble_eq_true rfl) dk_law_507 ⟨by omega, by omega⟩ (fun H locs hPt => ?_)
  refine W.eq (g2 := F0 m 510 ls [.int v]) rfl ?_
  refine lv_istore hx hb dk_law_510 hl (by decide) rfl (fun ls hl => ?_)
  have hl : lv_has ls 8 [(6, .int v), (5, .int (kl_cd kT_cer r)), (4, .int x), (3, .ref o), (2, .ref (as' 0)), (1, .ref (as 0)), (0, .ref b)] := hl
  refine lv_aload_n hx hb dk_law_512 rfl (lv_at hl 4 rfl) ?_
  refine kl_CM (av := []) (rest := []) La hPt km_M_thrown hTf rfl kv_M_thrown (kl_w 44 rfl) rfl hl.1 ⟨by decide, by decide⟩ (Nat.le_of_ble_eq_true rfl) dk_law_513 ⟨by omega, by omega⟩ (fun H locs hPt => ?_)
  refine W.eq (g2 := F0 m 516 ls [.int (τ' 0 0)]) rfl ?_
  refine lv_iload hx hb dk_law_516 (lv_at hl 1 rfl) ?_
  refine lv_icmp_eq hx hb dk_law_518 (tgt := 523) (by decide) (fun _ => ?_) (fun h => absurd h0 h)
  refine lv_iload hx hb dk_law_523 (lv_at hl 1 rfl) ?_
  refine lv_if_ne hx hb dk_law_525 (tgt := 540) (by decide) (fun _ => ?_) (fun hz => ?_)
  · exact lv_goto hx hb dk_law_540 (tgt := 802) (by decide) (kk σ' τ' _ H locs ls (kl_has2 hl) hPt hR')
  cases r with
  | inl e1 => exact absurd hz (kT_cer_ne e1)
  | inr u =>
    obtain rfl := hv u rfl
    clear hv
    refine lv_aload_n hx hb dk_law_528 rfl (lv_at hl 3 rfl) ?_
    refine lv_iconst (v := 0) hx hb dk_law_529 (by decide) ?_
    refine kl_rd La hPt dk_law_530 ?_
    refine lv_iload hx hb dk_law_531 (lv_at hl 0 rfl) ?_
    refine lv_i2l hx hb dk_law_533 rfl ?_
    refine W.lcmp hx hb dk_law_534 ?_
    refine lv_if_eq hx hb dk_law_535 (tgt := 540) (by decide) (fun _ => ?_) (fun h => absurd (kl_cmpI _ _) h)
    exact lv_goto hx hb dk_law_540 (tgt := 802) (by decide) (kk σ' τ' _ H locs ls (kl_has2 hl) hPt hR')
set_option maxHeartbeats 4000000 in
theorem kb_offer {l : Launch} (hf : l.flags = pinnedFlags ++ [noTraceFlag]) {p : Program} {e : Env} {s : State} {m : MethodId} {args : Array Value} {below : List Frame} {meth : Method} {c : Code} {H : Heap} {locs : List Loc} {cells slots : Nat} {Q : State → Prop} {ls : Array Slot} {D : va_G} {cA : Nat → ClassId} {cL : ClassId} {as as' : Nat → Nat} {o b L n : Nat} {ys : Nat → Int32} {σ τ : kt_S} {xs : Nat → Int64} {x : Int32} (La : kl_La p s m args c D cA cL as as' o b L ys) (hl : lv_has ls 8 [(4, .int x), (3, .ref o), (2, .ref (as' 0)), (1, .ref (as 0)), (0, .ref b)]) (hPt : kl_Pt s D cA cL as as' o σ τ xs H locs) (hR : kR n σ τ) (hn : n + 1 < 10000) (hin : kl_in x L) (hroom : cells + 1 ≤ 606257 ∧ slots + 6 ≤ 7277333) (kk : kl_next l p e s m args below meth c D cA cL as as' o b n cells slots Q x) : W p l e room_1 s m args below meth c H locs cells slots Q (F0 m 543 ls []) := by
  have hx := La.1
  have hb := La.2.1
  have hown := La.2.2.2.1
  have hts := La.2.2.2.2.1
  have ho := La.2.2.2.2.2.2.2.2.2.1.2.1
  obtain ⟨r, v, σ', τ', hK, hM, h0, hv, hR'⟩ := kl_may (kR_offer hR (by omega) (ys (x + 1).toNatClampNeg) (ys (x + 2).toNatClampNeg) (ys (x + 3).toNatClampNeg) (ys (x + 4).toNatClampNeg))
  have hMf : kf_M_offer [.ref 0, .int (ys (x + 1).toNatClampNeg), .int (ys (x + 2).toNatClampNeg), .int (ys (x + 3).toNatClampNeg), .int (ys (x + 4).toNatClampNeg)] τ = some (some (.int v), τ') := by rw [kq_M_offer, hM]; rfl
  have hTf : kf_M_thrown [.ref 0] τ' = some (some (.int (τ' 0 0)), τ') := by rw [kq_M_thrown]; rfl
  have hR' := kR_mono (show n ≤ n + 1 by omega) hn hR'
  refine lv_aload_n hx hb dk_law_543 rfl (lv_at hl 3 rfl) ?_
  refine lv_aload_n hx hb dk_law_544 rfl (lv_at hl 4 rfl) ?_
  refine lv_iload hx hb dk_law_545 (lv_at hl 0 rfl) ?_
  refine lv_iconst (v := 1) hx hb dk_law_547 (by decide) ?_
  refine lv_iadd hx hb dk_law_548 ?_
  refine kl_sc La hPt hin.2.1 dk_law_549 ?_
  refine lv_aload_n hx hb dk_law_550 rfl (lv_at hl 4 rfl) ?_
  refine lv_iload hx hb dk_law_551 (lv_at hl 0 rfl) ?_
  refine lv_iconst (v := 2) hx hb dk_law_553 (by decide) ?_
  refine lv_iadd hx hb dk_law_554 ?_
  refine kl_sc La hPt hin.2.2.1 dk_law_555 ?_
  refine lv_aload_n hx hb dk_law_556 rfl (lv_at hl 4 rfl) ?_
  refine lv_iload hx hb dk_law_557 (lv_at hl 0 rfl) ?_
  refine lv_iconst (v := 3) hx hb dk_law_559 (by decide) ?_
  refine lv_iadd hx hb dk_law_560 ?_
  refine kl_sc La hPt hin.2.2.2.1 dk_law_561 ?_
  refine lv_aload_n hx hb dk_law_562 rfl (lv_at hl 4 rfl) ?_
  refine lv_iload hx hb dk_law_563 (lv_at hl 0 rfl) ?_
  refine lv_iconst (v := 4) hx hb dk_law_565 (by decide) ?_
  refine lv_iadd hx hb dk_law_566 ?_
  refine kl_sc La hPt hin.2.2.2.2 dk_law_567 ?_
  refine lv_aload_n hx hb dk_law_568 rfl (lv_at hl 1 rfl) ?_
  refine kl_CH (np := 6) (av := [.ref (as 0), .int (ys (x + 1).toNatClampNeg), .int (ys (x + 2).toNatClampNeg), .int (ys (x + 3).toNatClampNeg), .int (ys (x + 4).toNatClampNeg), .ref o]) (rest := []) La hPt (kh_offer hf (ys (x + 1).toNatClampNeg) (ys (x + 2).toNatClampNeg) (ys (x + 3).toNatClampNeg) (ys (x + 4).toNatClampNeg) r hK ho) (kl_w 36 rfl) rfl (kl_w 35 rfl) (kl_w 34 rfl) (by decide +kernel) rfl hl.1 (by decide) (Nat.le_of_ble_eq_true rfl) dk_law_569 hroom (fun H locs hPt => ?_)
  refine W.eq (g2 := F0 m 572 ls [.int (kl_cd kT_offer r)]) rfl ?_
  refine lv_istore hx hb dk_law_572 hl (by decide) rfl (fun ls hl => ?_)
  have hl : lv_has ls 8 [(5, .int (kl_cd kT_offer r)), (4, .int x), (3, .ref o), (2, .ref (as' 0)), (1, .ref (as 0)), (0, .ref b)] := hl
  refine lv_aload_n hx hb dk_law_574 rfl (lv_at hl 3 rfl) ?_
  refine lv_aload_n hx hb dk_law_575 rfl (lv_at hl 5 rfl) ?_
  refine lv_iload hx hb dk_law_576 (lv_at hl 1 rfl) ?_
  refine lv_iconst (v := 1) hx hb dk_law_578 (by decide) ?_
  refine lv_iadd hx hb dk_law_579 ?_
  refine kl_sc La hPt hin.2.1 dk_law_580 ?_
  refine lv_aload_n hx hb dk_law_581 rfl (lv_at hl 5 rfl) ?_
  refine lv_iload hx hb dk_law_582 (lv_at hl 1 rfl) ?_
  refine lv_iconst (v := 2) hx hb dk_law_584 (by decide) ?_
  refine lv_iadd hx hb dk_law_585 ?_
  refine kl_sc La hPt hin.2.2.1 dk_law_586 ?_
  refine lv_aload_n hx hb dk_law_587 rfl (lv_at hl 5 rfl) ?_
  refine lv_iload hx hb dk_law_588 (lv_at hl 1 rfl) ?_
  refine lv_iconst (v := 3) hx hb dk_law_590 (by decide) ?_
  refine lv_iadd hx hb dk_law_591 ?_
  refine kl_sc La hPt hin.2.2.2.1 dk_law_592 ?_
  refine lv_aload_n hx hb dk_law_593 rfl (lv_at hl 5 rfl) ?_
  refine lv_iload hx hb dk_law_594 (lv_at hl 1 rfl) ?_
  refine lv_iconst (v := 4) hx hb dk_law_596 (by decide) ?_
  refine lv_iadd hx hb dk_law_597 ?_
  refine kl_sc La hPt hin.2.2.2.2 dk_law_598 ?_
  refine kl_CM (av := [.int (ys (x + 1).toNatClampNeg), .int (ys (x + 2).toNatClampNeg), .int (ys (x + 3).toNatClampNeg), .int (ys (x + 4).toNatClampNeg)]) (rest := []) La hPt km_M_offer hMf rfl kv_M_offer (kl_w 54 rfl) rfl hl.1 ⟨by decide, by decide⟩ (Nat.le_of_ble_eq_true rfl) dk_law_599 ⟨by omega, by omega⟩ (fun H locs hPt => ?_)
  refine W.eq (g2 := F0 m 602 ls [.int v]) rfl ?_
  refine lv_istore hx hb dk_law_602 hl (by decide) rfl (fun ls hl => ?_)
  have hl : lv_has ls 8 [(6, .int v), (5, .int (kl_cd kT_offer r)), (4, .int x), (3, .ref o), (2, .ref (as' 0)), (1, .ref (as 0)), (0, .ref b)] := hl
  refine lv_aload_n hx hb dk_law_604 rfl (lv_at hl 4 rfl) ?_
  refine kl_CM (av := []) (rest := []) La hPt km_M_thrown hTf rfl kv_M_thrown (kl_w 44 rfl) rfl hl.1 ⟨by decide, by decide⟩ (Nat.le_of_ble_eq_true rfl) dk_law_605 ⟨by omega, by omega⟩ (fun H locs hPt => ?_)
  refine W.eq (g2 := F0 m 608 ls [.int (τ' 0 0)]) rfl ?_
  refine lv_iload hx hb dk_law_608 (lv_at hl 1 rfl) ?_
  refine lv_icmp_eq hx hb dk_law_610 (tgt := 615) (by decide) (fun _ => ?_) (fun h => absurd h0 h)
  refine lv_iload hx hb dk_law_615 (lv_at hl 1 rfl) ?_
  refine lv_if_ne hx hb dk_law_617 (tgt := 632) (by decide) (fun _ => ?_) (fun hz => ?_)
  · exact lv_goto hx hb dk_law_632 (tgt := 802) (by decide) (kk σ' τ' _ H locs ls (kl_has2 hl) hPt hR')
  cases r with
  | inl e1 => exact absurd hz (kT_offer_ne e1)
  | inr u =>
    obtain rfl := hv u rfl
    clear hv
    refine lv_aload_n hx hb dk_law_620 rfl (lv_at hl 3 rfl) ?_
    refine lv_iconst (v := 0) hx hb dk_law_621 (by decide) ?_
    refine kl_rd La hPt dk_law_622 ?_
    refine lv_iload hx hb dk_law_623 (lv_at hl 0 rfl) ?_
    refine lv_i2l hx hb dk_law_625 rfl ?_
    refine W.lcmp hx hb dk_law_626 ?_
    refine lv_if_eq hx hb dk_law_627 (tgt := 632) (by decide) (fun _ => ?_) (fun h => absurd (kl_cmpI _ _) h)
    exact lv_goto hx hb dk_law_632 (tgt := 802) (by decide) (kk σ' τ' _ H locs ls (kl_has2 hl) hPt hR')
set_option maxHeartbeats 4000000 in
theorem kb_signature {l : Launch} (hf : l.flags = pinnedFlags ++ [noTraceFlag]) {p : Program} {e : Env} {s : State} {m : MethodId} {args : Array Value} {below : List Frame} {meth : Method} {c : Code} {H : Heap} {locs : List Loc} {cells slots : Nat} {Q : State → Prop} {ls : Array Slot} {D : va_G} {cA : Nat → ClassId} {cL : ClassId} {as as' : Nat → Nat} {o b L n : Nat} {ys : Nat → Int32} {σ τ : kt_S} {xs : Nat → Int64} {x : Int32} (La : kl_La p s m args c D cA cL as as' o b L ys) (hl : lv_has ls 8 [(4, .int x), (3, .ref o), (2, .ref (as' 0)), (1, .ref (as 0)), (0, .ref b)]) (hPt : kl_Pt s D cA cL as as' o σ τ xs H locs) (hR : kR n σ τ) (hn : n + 1 < 10000) (hin : kl_in x L) (hroom : cells + 1 ≤ 606257 ∧ slots + 6 ≤ 7277333) (kk : kl_next l p e s m args below meth c D cA cL as as' o b n cells slots Q x) : W p l e room_1 s m args below meth c H locs cells slots Q (F0 m 635 ls []) := by
  have hx := La.1
  have hb := La.2.1
  have hown := La.2.2.2.1
  have hts := La.2.2.2.2.1
  have ho := La.2.2.2.2.2.2.2.2.2.1.2.1
  obtain ⟨r, v, σ', τ', hK, hM, h0, hv, hR'⟩ := kl_may (kR_signature hR (by omega) (ys (x + 1).toNatClampNeg) (ys (x + 2).toNatClampNeg))
  have hMf : kf_M_signature [.ref 0, .int (ys (x + 1).toNatClampNeg), .int (ys (x + 2).toNatClampNeg)] τ = some (some (.int v), τ') := by rw [kq_M_signature, hM]; rfl
  have hTf : kf_M_thrown [.ref 0] τ' = some (some (.int (τ' 0 0)), τ') := by rw [kq_M_thrown]; rfl
  have hR' := kR_mono (show n ≤ n + 1 by omega) hn hR'
  refine lv_aload_n hx hb dk_law_635 rfl (lv_at hl 3 rfl) ?_
  refine lv_aload_n hx hb dk_law_636 rfl (lv_at hl 4 rfl) ?_
  refine lv_iload hx hb dk_law_637 (lv_at hl 0 rfl) ?_
  refine lv_iconst (v := 1) hx hb dk_law_639 (by decide) ?_
  refine lv_iadd hx hb dk_law_640 ?_
  refine kl_sc La hPt hin.2.1 dk_law_641 ?_
  refine lv_aload_n hx hb dk_law_642 rfl (lv_at hl 4 rfl) ?_
  refine lv_iload hx hb dk_law_643 (lv_at hl 0 rfl) ?_
  refine lv_iconst (v := 2) hx hb dk_law_645 (by decide) ?_
  refine lv_iadd hx hb dk_law_646 ?_
  refine kl_sc La hPt hin.2.2.1 dk_law_647 ?_
  refine lv_aload_n hx hb dk_law_648 rfl (lv_at hl 1 rfl) ?_
  refine kl_CH (np := 4) (av := [.ref (as 0), .int (ys (x + 1).toNatClampNeg), .int (ys (x + 2).toNatClampNeg), .ref o]) (rest := []) La hPt (kh_signature hf (ys (x + 1).toNatClampNeg) (ys (x + 2).toNatClampNeg) r hK ho) (kl_w 40 rfl) rfl (kl_w 39 rfl) (kl_w 38 rfl) (by decide +kernel) rfl hl.1 (by decide) (Nat.le_of_ble_eq_true rfl) dk_law_649 hroom (fun H locs hPt => ?_)
  refine W.eq (g2 := F0 m 652 ls [.int (kl_cd (fun _ => 1) r)]) rfl ?_
  refine lv_istore hx hb dk_law_652 hl (by decide) rfl (fun ls hl => ?_)
  have hl : lv_has ls 8 [(5, .int (kl_cd (fun _ => 1) r)), (4, .int x), (3, .ref o), (2, .ref (as' 0)), (1, .ref (as 0)), (0, .ref b)] := hl
  refine lv_aload_n hx hb dk_law_654 rfl (lv_at hl 3 rfl) ?_
  refine lv_aload_n hx hb dk_law_655 rfl (lv_at hl 5 rfl) ?_
  refine lv_iload hx hb dk_law_656 (lv_at hl 1 rfl) ?_
  refine lv_iconst (v := 1) hx hb dk_law_658 (by decide) ?_
  refine lv_iadd hx hb dk_law_659 ?_
  refine kl_sc La hPt hin.2.1 dk_law_660 ?_
  refine lv_aload_n hx hb dk_law_661 rfl (lv_at hl 5 rfl) ?_
  refine lv_iload hx hb dk_law_662 (lv_at hl 1 rfl) ?_
  refine lv_iconst (v := 2) hx hb dk_law_664 (by decide) ?_
  refine lv_iadd hx hb dk_law_665 ?_
  refine kl_sc La hPt hin.2.2.1 dk_law_666 ?_
  refine kl_CM (av := [.int (ys (x + 1).toNatClampNeg), .int (ys (x + 2).toNatClampNeg)]) (rest := []) La hPt km_M_signature hMf rfl kv_M_signature (kl_w 55 rfl) rfl hl.1 ⟨by decide, by decide⟩ (Nat.le_of_ble_eq_true rfl) dk_law_667 ⟨by omega, by omega⟩ (fun H locs hPt => ?_)
  refine W.eq (g2 := F0 m 670 ls [.int v]) rfl ?_
  refine lv_istore hx hb dk_law_670 hl (by decide) rfl (fun ls hl => ?_)
  have hl : lv_has ls 8 [(6, .int v), (5, .int (kl_cd (fun _ => 1) r)), (4, .int x), (3, .ref o), (2, .ref (as' 0)), (1, .ref (as 0)), (0, .ref b)] := hl
  refine lv_aload_n hx hb dk_law_672 rfl (lv_at hl 4 rfl) ?_
  refine kl_CM (av := []) (rest := []) La hPt km_M_thrown hTf rfl kv_M_thrown (kl_w 44 rfl) rfl hl.1 ⟨by decide, by decide⟩ (Nat.le_of_ble_eq_true rfl) dk_law_673 ⟨by omega, by omega⟩ (fun H locs hPt => ?_)
  refine W.eq (g2 := F0 m 676 ls [.int (τ' 0 0)]) rfl ?_
  refine lv_iload hx hb dk_law_676 (lv_at hl 1 rfl) ?_
  refine lv_icmp_eq hx hb dk_law_678 (tgt := 683) (by decide) (fun _ => ?_) (fun h => absurd h0 h)
  refine lv_iload hx hb dk_law_683 (lv_at hl 1 rfl) ?_
  refine lv_if_ne hx hb dk_law_685 (tgt := 700) (by decide) (fun _ => ?_) (fun hz => ?_)
  · exact lv_goto hx hb dk_law_700 (tgt := 802) (by decide) (kk σ' τ' _ H locs ls (kl_has2 hl) hPt hR')
  cases r with
  | inl e1 => exact absurd hz ((show ¬ (1 : Int32) = 0 by decide))
  | inr u =>
    obtain rfl := hv u rfl
    clear hv
    refine lv_aload_n hx hb dk_law_688 rfl (lv_at hl 3 rfl) ?_
    refine lv_iconst (v := 0) hx hb dk_law_689 (by decide) ?_
    refine kl_rd La hPt dk_law_690 ?_
    refine lv_iload hx hb dk_law_691 (lv_at hl 0 rfl) ?_
    refine lv_i2l hx hb dk_law_693 rfl ?_
    refine W.lcmp hx hb dk_law_694 ?_
    refine lv_if_eq hx hb dk_law_695 (tgt := 700) (by decide) (fun _ => ?_) (fun h => absurd (kl_cmpI _ _) h)
    exact lv_goto hx hb dk_law_700 (tgt := 802) (by decide) (kk σ' τ' _ H locs ls (kl_has2 hl) hPt hR')
set_option maxHeartbeats 4000000 in
theorem kb_party {l : Launch} (hf : l.flags = pinnedFlags ++ [noTraceFlag]) {p : Program} {e : Env} {s : State} {m : MethodId} {args : Array Value} {below : List Frame} {meth : Method} {c : Code} {H : Heap} {locs : List Loc} {cells slots : Nat} {Q : State → Prop} {ls : Array Slot} {D : va_G} {cA : Nat → ClassId} {cL : ClassId} {as as' : Nat → Nat} {o b L n : Nat} {ys : Nat → Int32} {σ τ : kt_S} {xs : Nat → Int64} {x : Int32} (La : kl_La p s m args c D cA cL as as' o b L ys) (hl : lv_has ls 8 [(4, .int x), (3, .ref o), (2, .ref (as' 0)), (1, .ref (as 0)), (0, .ref b)]) (hPt : kl_Pt s D cA cL as as' o σ τ xs H locs) (hR : kR n σ τ) (hn : n + 1 < 10000) (hin : kl_in x L) (hroom : cells + 1 ≤ 606257 ∧ slots + 6 ≤ 7277333) (kk : kl_next l p e s m args below meth c D cA cL as as' o b n cells slots Q x) : W p l e room_1 s m args below meth c H locs cells slots Q (F0 m 703 ls []) := by
  have hx := La.1
  have hb := La.2.1
  have hown := La.2.2.2.1
  have hts := La.2.2.2.2.1
  have ho := La.2.2.2.2.2.2.2.2.2.1.2.1
  obtain ⟨r, σ', τ', hK, hM, -, hR'⟩ := kR_party hR (ys (x + 1).toNatClampNeg) (ys (x + 2).toNatClampNeg)
  have hKf : kf_K_party [.ref 0, .int (ys (x + 1).toNatClampNeg), .int (ys (x + 2).toNatClampNeg)] σ = some (some (.int r), σ') := by rw [kq_K_party, hK]; rfl
  have hMf : kf_M_party [.ref 0, .int (ys (x + 1).toNatClampNeg), .int (ys (x + 2).toNatClampNeg)] τ = some (some (.int r), τ') := by rw [kq_M_party, hM]; rfl
  have hR' := kR_mono (show n ≤ n + 1 by omega) hn hR'
  refine lv_aload_n hx hb dk_law_703 rfl (lv_at hl 3 rfl) ?_
  refine lv_aload_n hx hb dk_law_704 rfl (lv_at hl 4 rfl) ?_
  refine lv_iload hx hb dk_law_705 (lv_at hl 0 rfl) ?_
  refine lv_iconst (v := 1) hx hb dk_law_707 (by decide) ?_
  refine lv_iadd hx hb dk_law_708 ?_
  refine kl_sc La hPt hin.2.1 dk_law_709 ?_
  refine lv_aload_n hx hb dk_law_710 rfl (lv_at hl 4 rfl) ?_
  refine lv_iload hx hb dk_law_711 (lv_at hl 0 rfl) ?_
  refine lv_iconst (v := 2) hx hb dk_law_713 (by decide) ?_
  refine lv_iadd hx hb dk_law_714 ?_
  refine kl_sc La hPt hin.2.2.1 dk_law_715 ?_
  refine kl_CC (av := [.int (ys (x + 1).toNatClampNeg), .int (ys (x + 2).toNatClampNeg)]) (rest := []) La hPt km_K_party hKf rfl kv_K_party (kl_w 7 rfl) rfl hl.1 ⟨by decide, by decide⟩ (Nat.le_of_ble_eq_true rfl) dk_law_716 ⟨by omega, by omega⟩ (fun H locs hPt => ?_)
  refine W.eq (g2 := F0 m 719 ls [.int r]) rfl ?_
  refine lv_aload_n hx hb dk_law_719 rfl (lv_at hl 2 rfl) ?_
  refine lv_aload_n hx hb dk_law_720 rfl (lv_at hl 4 rfl) ?_
  refine lv_iload hx hb dk_law_721 (lv_at hl 0 rfl) ?_
  refine lv_iconst (v := 1) hx hb dk_law_723 (by decide) ?_
  refine lv_iadd hx hb dk_law_724 ?_
  refine kl_sc La hPt hin.2.1 dk_law_725 ?_
  refine lv_aload_n hx hb dk_law_726 rfl (lv_at hl 4 rfl) ?_
  refine lv_iload hx hb dk_law_727 (lv_at hl 0 rfl) ?_
  refine lv_iconst (v := 2) hx hb dk_law_729 (by decide) ?_
  refine lv_iadd hx hb dk_law_730 ?_
  refine kl_sc La hPt hin.2.2.1 dk_law_731 ?_
  refine kl_CM (av := [.int (ys (x + 1).toNatClampNeg), .int (ys (x + 2).toNatClampNeg)]) (rest := [.int r]) La hPt km_M_party hMf rfl kv_M_party (kl_w 56 rfl) rfl hl.1 ⟨by decide, by decide⟩ (Nat.le_of_ble_eq_true rfl) dk_law_732 ⟨by omega, by omega⟩ (fun H locs hPt => ?_)
  refine W.eq (g2 := F0 m 735 ls [.int r, .int r]) rfl ?_
  refine lv_icmp_eq hx hb dk_law_735 (tgt := 802) (by decide) (fun _ => ?_) (fun h => absurd rfl h)
  refine W.widen (k := cells + 1) (n := slots + 6) (by omega) (by omega) ?_
  exact kk σ' τ' xs H locs ls hl hPt hR'
set_option maxHeartbeats 4000000 in
theorem kb_cell {l : Launch} (hf : l.flags = pinnedFlags ++ [noTraceFlag]) {p : Program} {e : Env} {s : State} {m : MethodId} {args : Array Value} {below : List Frame} {meth : Method} {c : Code} {H : Heap} {locs : List Loc} {cells slots : Nat} {Q : State → Prop} {ls : Array Slot} {D : va_G} {cA : Nat → ClassId} {cL : ClassId} {as as' : Nat → Nat} {o b L n : Nat} {ys : Nat → Int32} {σ τ : kt_S} {xs : Nat → Int64} {x : Int32} (La : kl_La p s m args c D cA cL as as' o b L ys) (hl : lv_has ls 8 [(4, .int x), (3, .ref o), (2, .ref (as' 0)), (1, .ref (as 0)), (0, .ref b)]) (hPt : kl_Pt s D cA cL as as' o σ τ xs H locs) (hR : kR n σ τ) (hn : n + 1 < 10000) (hin : kl_in x L) (hroom : cells + 1 ≤ 606257 ∧ slots + 6 ≤ 7277333) (kk : kl_next l p e s m args below meth c D cA cL as as' o b n cells slots Q x) : W p l e room_1 s m args below meth c H locs cells slots Q (F0 m 740 ls []) := by
  have hx := La.1
  have hb := La.2.1
  have hown := La.2.2.2.1
  have hts := La.2.2.2.2.1
  have ho := La.2.2.2.2.2.2.2.2.2.1.2.1
  obtain ⟨r, σ', τ', hK, hM, -, hR'⟩ := kR_cell hR (ys (x + 1).toNatClampNeg) (ys (x + 2).toNatClampNeg)
  have hKf : kf_K_cell [.ref 0, .int (ys (x + 1).toNatClampNeg), .int (ys (x + 2).toNatClampNeg)] σ = some (some (.int r), σ') := by rw [kq_K_cell, hK]; rfl
  have hMf : kf_M_cell [.ref 0, .int (ys (x + 1).toNatClampNeg), .int (ys (x + 2).toNatClampNeg)] τ = some (some (.int r), τ') := by rw [kq_M_cell, hM]; rfl
  have hR' := kR_mono (show n ≤ n + 1 by omega) hn hR'
  refine lv_aload_n hx hb dk_law_740 rfl (lv_at hl 3 rfl) ?_
  refine lv_aload_n hx hb dk_law_741 rfl (lv_at hl 4 rfl) ?_
  refine lv_iload hx hb dk_law_742 (lv_at hl 0 rfl) ?_
  refine lv_iconst (v := 1) hx hb dk_law_744 (by decide) ?_
  refine lv_iadd hx hb dk_law_745 ?_
  refine kl_sc La hPt hin.2.1 dk_law_746 ?_
  refine lv_aload_n hx hb dk_law_747 rfl (lv_at hl 4 rfl) ?_
  refine lv_iload hx hb dk_law_748 (lv_at hl 0 rfl) ?_
  refine lv_iconst (v := 2) hx hb dk_law_750 (by decide) ?_
  refine lv_iadd hx hb dk_law_751 ?_
  refine kl_sc La hPt hin.2.2.1 dk_law_752 ?_
  refine kl_CC (av := [.int (ys (x + 1).toNatClampNeg), .int (ys (x + 2).toNatClampNeg)]) (rest := []) La hPt km_K_cell hKf rfl kv_K_cell (kl_w 8 rfl) rfl hl.1 ⟨by decide, by decide⟩ (Nat.le_of_ble_eq_true rfl) dk_law_753 ⟨by omega, by omega⟩ (fun H locs hPt => ?_)
  refine W.eq (g2 := F0 m 756 ls [.int r]) rfl ?_
  refine lv_aload_n hx hb dk_law_756 rfl (lv_at hl 2 rfl) ?_
  refine lv_aload_n hx hb dk_law_757 rfl (lv_at hl 4 rfl) ?_
  refine lv_iload hx hb dk_law_758 (lv_at hl 0 rfl) ?_
  refine lv_iconst (v := 1) hx hb dk_law_760 (by decide) ?_
  refine lv_iadd hx hb dk_law_761 ?_
  refine kl_sc La hPt hin.2.1 dk_law_762 ?_
  refine lv_aload_n hx hb dk_law_763 rfl (lv_at hl 4 rfl) ?_
  refine lv_iload hx hb dk_law_764 (lv_at hl 0 rfl) ?_
  refine lv_iconst (v := 2) hx hb dk_law_766 (by decide) ?_
  refine lv_iadd hx hb dk_law_767 ?_
  refine kl_sc La hPt hin.2.2.1 dk_law_768 ?_
  refine kl_CM (av := [.int (ys (x + 1).toNatClampNeg), .int (ys (x + 2).toNatClampNeg)]) (rest := [.int r]) La hPt km_M_cell hMf rfl kv_M_cell (kl_w 57 rfl) rfl hl.1 ⟨by decide, by decide⟩ (Nat.le_of_ble_eq_true rfl) dk_law_769 ⟨by omega, by omega⟩ (fun H locs hPt => ?_)
  refine W.eq (g2 := F0 m 772 ls [.int r, .int r]) rfl ?_
  refine lv_icmp_eq hx hb dk_law_772 (tgt := 802) (by decide) (fun _ => ?_) (fun h => absurd rfl h)
  refine W.widen (k := cells + 1) (n := slots + 6) (by omega) (by omega) ?_
  exact kk σ' τ' xs H locs ls hl hPt hR'
set_option maxHeartbeats 4000000 in
theorem kb_look {l : Launch} (hf : l.flags = pinnedFlags ++ [noTraceFlag]) {p : Program} {e : Env} {s : State} {m : MethodId} {args : Array Value} {below : List Frame} {meth : Method} {c : Code} {H : Heap} {locs : List Loc} {cells slots : Nat} {Q : State → Prop} {ls : Array Slot} {D : va_G} {cA : Nat → ClassId} {cL : ClassId} {as as' : Nat → Nat} {o b L n : Nat} {ys : Nat → Int32} {σ τ : kt_S} {xs : Nat → Int64} {x : Int32} (La : kl_La p s m args c D cA cL as as' o b L ys) (hl : lv_has ls 8 [(4, .int x), (3, .ref o), (2, .ref (as' 0)), (1, .ref (as 0)), (0, .ref b)]) (hPt : kl_Pt s D cA cL as as' o σ τ xs H locs) (hR : kR n σ τ) (hn : n + 1 < 10000) (hin : kl_in x L) (hroom : cells + 1 ≤ 606257 ∧ slots + 6 ≤ 7277333) (kk : kl_next l p e s m args below meth c D cA cL as as' o b n cells slots Q x) : W p l e room_1 s m args below meth c H locs cells slots Q (F0 m 777 ls []) := by
  have hx := La.1
  have hb := La.2.1
  have hown := La.2.2.2.1
  have hts := La.2.2.2.2.1
  have ho := La.2.2.2.2.2.2.2.2.2.1.2.1
  obtain ⟨r, σ', τ', hK, hM, -, hR'⟩ := kR_look hR (ys (x + 1).toNatClampNeg)
  have hKf : kf_K_look [.ref 0, .int (ys (x + 1).toNatClampNeg)] σ = some (some (.int r), σ') := by rw [kq_K_look, hK]; rfl
  have hMf : kf_M_look [.ref 0, .int (ys (x + 1).toNatClampNeg)] τ = some (some (.int r), τ') := by rw [kq_M_look, hM]; rfl
  have hR' := kR_mono (show n ≤ n + 1 by omega) hn hR'
  refine lv_aload_n hx hb dk_law_777 rfl (lv_at hl 3 rfl) ?_
  refine lv_aload_n hx hb dk_law_778 rfl (lv_at hl 4 rfl) ?_
  refine lv_iload hx hb dk_law_779 (lv_at hl 0 rfl) ?_
  refine lv_iconst (v := 1) hx hb dk_law_781 (by decide) ?_
  refine lv_iadd hx hb dk_law_782 ?_
  refine kl_sc La hPt hin.2.1 dk_law_783 ?_
  refine kl_CC (av := [.int (ys (x + 1).toNatClampNeg)]) (rest := []) La hPt km_K_look hKf rfl kv_K_look (kl_w 9 rfl) rfl hl.1 ⟨by decide, by decide⟩ (Nat.le_of_ble_eq_true rfl) dk_law_784 ⟨by omega, by omega⟩ (fun H locs hPt => ?_)
  refine W.eq (g2 := F0 m 787 ls [.int r]) rfl ?_
  refine lv_aload_n hx hb dk_law_787 rfl (lv_at hl 2 rfl) ?_
  refine lv_aload_n hx hb dk_law_788 rfl (lv_at hl 4 rfl) ?_
  refine lv_iload hx hb dk_law_789 (lv_at hl 0 rfl) ?_
  refine lv_iconst (v := 1) hx hb dk_law_791 (by decide) ?_
  refine lv_iadd hx hb dk_law_792 ?_
  refine kl_sc La hPt hin.2.1 dk_law_793 ?_
  refine kl_CM (av := [.int (ys (x + 1).toNatClampNeg)]) (rest := [.int r]) La hPt km_M_look hMf rfl kv_M_look (kl_w 58 rfl) rfl hl.1 ⟨by decide, by decide⟩ (Nat.le_of_ble_eq_true rfl) dk_law_794 ⟨by omega, by omega⟩ (fun H locs hPt => ?_)
  refine W.eq (g2 := F0 m 797 ls [.int r, .int r]) rfl ?_
  refine lv_icmp_eq hx hb dk_law_797 (tgt := 802) (by decide) (fun _ => ?_) (fun h => absurd rfl h)
  refine W.widen (k := cells + 1) (n := slots + 6) (by omega) (by omega) ?_
  exact kk σ' τ' xs H locs ls hl hPt hR'
