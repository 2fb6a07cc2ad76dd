/-! 94.law: the law's own walk (wip/whole/src/94_law.py) -/
def gL_law : Gm := (RL, cL_law, 4, some .boolean, false, 20, 203, 99927)
abbrev lw4 (i : Int) : Ls := [some (vX 62), some (vR 0), some (vR 188), some (vI i)]
theorem r32 (x : Int32) : -2147483648 ≤ x.toInt ∧ x.toInt < 2147483648 := ⟨Int32.le_toInt x, Int32.toInt_lt x⟩
theorem s_zreturn {L : Nat} {xs : Nat → Int32} {g : Gm} {sh : Sh} {μ : Mem} {cs ss pc : Nat} {ls : Ls} {P : Option AV → Sh → Mem → Prop} {x : Int} (h01 : x = 0 ∨ x = 1) (hd : decode (gC g) pc = .ok (.ireturn, 1)) (hr : gR g = some .boolean) (hc : cs = gM g) (hs : ss = gS g) (hp : P (some (vI x)) sh μ) : AS L xs g sh μ cs ss pc ls [vI x] P := by
  intro w hw p l e s m args below meth c H locs la cx hP hz hS hl
  exact r_zreturn hd h01 hr hc hs hp w p l e s m args below meth c H locs la cx hP hz hS hl
section LAW
variable {L : Nat} {xs : Nat → Int32} {μ : Mem} {G : Gh} {i : Int} {P : Option AV → Sh → Mem → Prop}
theorem lc_feed (hL : L ≤ 3072) (h : LwE μ G) (hi : 0 ≤ i ∧ i + 6 ≤ (L : Int)) (k : ∀ μ2 G2, LwE μ2 G2 → AS L xs gL_law SH μ2 203 99927 996 (lw4 i) [] P) : AS L xs gL_law SH μ 203 99927 184 (lw4 i) [] P := by
  obtain ⟨p, pd, c, cd, h⟩ := h
  refine s_aload_n dL_law_184 rfl ?_
  refine s_aload_nX dL_law_185 rfl ?_
  refine s_iload_n dL_law_186 rfl ?_
  refine s_iconst dL_law_187 ?_
  refine s_iadd dL_law_188 ?_
  refine s_ld dL_law_189 hL (by omega) ?_
  refine s_aload_nX dL_law_190 rfl ?_
  refine s_iload_n dL_law_191 rfl ?_
  refine s_iconst dL_law_192 ?_
  refine s_iadd dL_law_193 ?_
  refine s_ld dL_law_194 hL (by omega) ?_
  refine s_aload_nX dL_law_195 rfl ?_
  refine s_iload_n dL_law_196 rfl ?_
  refine s_iconst dL_law_197 ?_
  refine s_iadd dL_law_198 ?_
  refine s_ld dL_law_199 hL (by omega) ?_
  refine s_aload_nX dL_law_200 rfl ?_
  refine s_iload_n dL_law_201 rfl ?_
  refine s_iconst dL_law_202 ?_
  refine s_iadd dL_law_203 ?_
  refine s_ld dL_law_204 hL (by omega) ?_
  refine s_aload_nX dL_law_205 rfl ?_
  refine s_iload_n dL_law_206 rfl ?_
  refine s_iconst dL_law_207 ?_
  refine s_iadd dL_law_208 ?_
  refine s_ld dL_law_209 hL (by omega) ?_
  refine s_callMI (vs := [vI (xs (i + 1).toNat).toInt, vI (xs (i + 2).toNat).toInt, vI (xs (i + 3).toNat).toInt, vI (xs (i + 4).toNat).toInt, vI (xs (i + 5).toNat).toInt]) dL_law_210 ml_L_13 yl_X11_feed ⟨rfl, rfl⟩ (s1_feed h (r32 _) (r32 _) (r32 _) (r32 _) (r32 _)) rfl rfl ⟨_, rfl⟩ rfl rfl rfl rfl ?_
  rintro x m ⟨rfl, h2⟩
  refine s_aload_n dL_law_213 rfl ?_
  refine s_aload_nX dL_law_214 rfl ?_
  refine s_iload_n dL_law_215 rfl ?_
  refine s_iconst dL_law_216 ?_
  refine s_iadd dL_law_217 ?_
  refine s_ld dL_law_218 hL (by omega) ?_
  refine s_aload_nX dL_law_219 rfl ?_
  refine s_iload_n dL_law_220 rfl ?_
  refine s_iconst dL_law_221 ?_
  refine s_iadd dL_law_222 ?_
  refine s_ld dL_law_223 hL (by omega) ?_
  refine s_aload_nX dL_law_224 rfl ?_
  refine s_iload_n dL_law_225 rfl ?_
  refine s_iconst dL_law_226 ?_
  refine s_iadd dL_law_227 ?_
  refine s_ld dL_law_228 hL (by omega) ?_
  refine s_aload_nX dL_law_229 rfl ?_
  refine s_iload_n dL_law_230 rfl ?_
  refine s_iconst dL_law_231 ?_
  refine s_iadd dL_law_232 ?_
  refine s_ld dL_law_233 hL (by omega) ?_
  refine s_aload_nX dL_law_234 rfl ?_
  refine s_iload_n dL_law_235 rfl ?_
  refine s_iconst dL_law_236 ?_
  refine s_iadd dL_law_237 ?_
  refine s_ld dL_law_238 hL (by omega) ?_
  refine s_callMI (vs := [vI (xs (i + 1).toNat).toInt, vI (xs (i + 2).toNat).toInt, vI (xs (i + 3).toNat).toInt, vI (xs (i + 4).toNat).toInt, vI (xs (i + 5).toNat).toInt]) dL_law_239 ml_L_17 yl_X12_feed ⟨rfl, rfl⟩ (s2_feed (r32 _) (r32 _) (r32 _) (r32 _) (r32 _) h2) rfl rfl ⟨_, rfl⟩ rfl rfl rfl rfl ?_
  rintro x m2 ⟨rfl, h3⟩
  exact s_same dL_law_242 rfl (k _ _ h3)
theorem lc_end (hL : L ≤ 3072) (h : LwE μ G) (hi : 0 ≤ i ∧ i + 6 ≤ (L : Int)) (k : ∀ μ2 G2, LwE μ2 G2 → AS L xs gL_law SH μ2 203 99927 996 (lw4 i) [] P) : AS L xs gL_law SH μ 203 99927 247 (lw4 i) [] P := by
  obtain ⟨p, pd, c, cd, h⟩ := h
  refine s_aload_n dL_law_247 rfl ?_
  refine s_aload_nX dL_law_248 rfl ?_
  refine s_iload_n dL_law_249 rfl ?_
  refine s_iconst dL_law_250 ?_
  refine s_iadd dL_law_251 ?_
  refine s_ld dL_law_252 hL (by omega) ?_
  refine s_callMI (vs := [vI (xs (i + 1).toNat).toInt]) dL_law_253 ml_L_18 yl_X11_end ⟨rfl, rfl⟩ (s1_end h (r32 _)) rfl rfl ⟨_, rfl⟩ rfl rfl rfl rfl ?_
  rintro x m ⟨rfl, h2⟩
  refine s_aload_n dL_law_256 rfl ?_
  refine s_aload_nX dL_law_257 rfl ?_
  refine s_iload_n dL_law_258 rfl ?_
  refine s_iconst dL_law_259 ?_
  refine s_iadd dL_law_260 ?_
  refine s_ld dL_law_261 hL (by omega) ?_
  refine s_callMI (vs := [vI (xs (i + 1).toNat).toInt]) dL_law_262 ml_L_22 yl_X12_end ⟨rfl, rfl⟩ (s2_end (r32 _) h2) rfl rfl ⟨_, rfl⟩ rfl rfl rfl rfl ?_
  rintro x m2 ⟨rfl, h3⟩
  exact s_same dL_law_265 rfl (k _ _ h3)
theorem lc_plane (hL : L ≤ 3072) (h : LwE μ G) (hi : 0 ≤ i ∧ i + 6 ≤ (L : Int)) (k : ∀ μ2 G2, LwE μ2 G2 → AS L xs gL_law SH μ2 203 99927 996 (lw4 i) [] P) : AS L xs gL_law SH μ 203 99927 270 (lw4 i) [] P := by
  obtain ⟨p, pd, c, cd, h⟩ := h
  refine s_aload_n dL_law_270 rfl ?_
  refine s_callMI (vs := []) dL_law_271 ml_L_23 yl_X11_plane ⟨rfl, rfl⟩ (s1_plane h ) rfl rfl ⟨_, rfl⟩ rfl rfl rfl rfl ?_
  rintro x m ⟨rfl, h2⟩
  refine s_aload_n dL_law_274 rfl ?_
  refine s_callMI (vs := []) dL_law_275 ml_L_27 yl_X12_plane ⟨rfl, rfl⟩ (s2_plane  h2) rfl rfl ⟨_, rfl⟩ rfl rfl rfl rfl ?_
  rintro x m2 ⟨rfl, h3⟩
  exact s_same dL_law_278 rfl (k _ _ h3)
theorem lc_cargo (hL : L ≤ 3072) (h : LwE μ G) (hi : 0 ≤ i ∧ i + 6 ≤ (L : Int)) (k : ∀ μ2 G2, LwE μ2 G2 → AS L xs gL_law SH μ2 203 99927 996 (lw4 i) [] P) : AS L xs gL_law SH μ 203 99927 283 (lw4 i) [] P := by
  obtain ⟨p, pd, c, cd, h⟩ := h
  refine s_aload_n dL_law_283 rfl ?_
  refine s_callMI (vs := []) dL_law_284 ml_L_28 yl_X11_cargo ⟨rfl, rfl⟩ (s1_cargo h ) rfl rfl ⟨_, rfl⟩ rfl rfl rfl rfl ?_
  rintro x m ⟨rfl, h2⟩
  refine s_aload_n dL_law_287 rfl ?_
  refine s_callMI (vs := []) dL_law_288 ml_L_31 yl_X12_cargo ⟨rfl, rfl⟩ (s2_cargo  h2) rfl rfl ⟨_, rfl⟩ rfl rfl rfl rfl ?_
  rintro x m2 ⟨rfl, h3⟩
  exact s_same dL_law_291 rfl (k _ _ h3)
theorem lc_fault (hL : L ≤ 3072) (h : LwE μ G) (hi : 0 ≤ i ∧ i + 6 ≤ (L : Int)) (k : ∀ μ2 G2, LwE μ2 G2 → AS L xs gL_law SH μ2 203 99927 996 (lw4 i) [] P) : AS L xs gL_law SH μ 203 99927 296 (lw4 i) [] P := by
  obtain ⟨p, pd, c, cd, h⟩ := h
  refine s_aload_n dL_law_296 rfl ?_
  refine s_callMI (vs := []) dL_law_297 ml_L_32 yl_X11_fault ⟨rfl, rfl⟩ (s1_fault h ) rfl rfl ⟨_, rfl⟩ rfl rfl rfl rfl ?_
  rintro x m ⟨rfl, h2⟩
  refine s_aload_n dL_law_300 rfl ?_
  refine s_callMI (vs := []) dL_law_301 ml_L_35 yl_X12_fault ⟨rfl, rfl⟩ (s2_fault  h2) rfl rfl ⟨_, rfl⟩ rfl rfl rfl rfl ?_
  rintro x m2 ⟨rfl, h3⟩
  exact s_same dL_law_304 rfl (k _ _ h3)
theorem lc_count (hL : L ≤ 3072) (h : LwE μ G) (hi : 0 ≤ i ∧ i + 6 ≤ (L : Int)) (k : ∀ μ2 G2, LwE μ2 G2 → AS L xs gL_law SH μ2 203 99927 996 (lw4 i) [] P) : AS L xs gL_law SH μ 203 99927 309 (lw4 i) [] P := by
  obtain ⟨p, pd, c, cd, h⟩ := h
  refine s_aload_n dL_law_309 rfl ?_
  refine s_aload_nX dL_law_310 rfl ?_
  refine s_iload_n dL_law_311 rfl ?_
  refine s_iconst dL_law_312 ?_
  refine s_iadd dL_law_313 ?_
  refine s_ld dL_law_314 hL (by omega) ?_
  refine s_callMI (vs := [vI (xs (i + 1).toNat).toInt]) dL_law_315 ml_L_36 yl_X11_count ⟨rfl, rfl⟩ (s1_count h (r32 _)) rfl rfl ⟨_, rfl⟩ rfl rfl rfl rfl ?_
  rintro x m ⟨rfl, h2⟩
  refine s_aload_n dL_law_318 rfl ?_
  refine s_aload_nX dL_law_319 rfl ?_
  refine s_iload_n dL_law_320 rfl ?_
  refine s_iconst dL_law_321 ?_
  refine s_iadd dL_law_322 ?_
  refine s_ld dL_law_323 hL (by omega) ?_
  refine s_callMI (vs := [vI (xs (i + 1).toNat).toInt]) dL_law_324 ml_L_40 yl_X12_count ⟨rfl, rfl⟩ (s2_count (r32 _) h2) rfl rfl ⟨_, rfl⟩ rfl rfl rfl rfl ?_
  rintro x m2 ⟨rfl, h3⟩
  exact s_same dL_law_327 rfl (k _ _ h3)
theorem lc_pallet (hL : L ≤ 3072) (h : LwE μ G) (hi : 0 ≤ i ∧ i + 6 ≤ (L : Int)) (k : ∀ μ2 G2, LwE μ2 G2 → AS L xs gL_law SH μ2 203 99927 996 (lw4 i) [] P) : AS L xs gL_law SH μ 203 99927 332 (lw4 i) [] P := by
  obtain ⟨p, pd, c, cd, h⟩ := h
  refine s_aload_n dL_law_332 rfl ?_
  refine s_aload_nX dL_law_333 rfl ?_
  refine s_iload_n dL_law_334 rfl ?_
  refine s_iconst dL_law_335 ?_
  refine s_iadd dL_law_336 ?_
  refine s_ld dL_law_337 hL (by omega) ?_
  refine s_aload_nX dL_law_338 rfl ?_
  refine s_iload_n dL_law_339 rfl ?_
  refine s_iconst dL_law_340 ?_
  refine s_iadd dL_law_341 ?_
  refine s_ld dL_law_342 hL (by omega) ?_
  refine s_callMI (vs := [vI (xs (i + 1).toNat).toInt, vI (xs (i + 2).toNat).toInt]) dL_law_343 ml_L_41 yl_X11_pallet ⟨rfl, rfl⟩ (s1_pallet h (r32 _) (r32 _)) rfl rfl ⟨_, rfl⟩ rfl rfl rfl rfl ?_
  rintro x m ⟨rfl, h2⟩
  refine s_aload_n dL_law_346 rfl ?_
  refine s_aload_nX dL_law_347 rfl ?_
  refine s_iload_n dL_law_348 rfl ?_
  refine s_iconst dL_law_349 ?_
  refine s_iadd dL_law_350 ?_
  refine s_ld dL_law_351 hL (by omega) ?_
  refine s_aload_nX dL_law_352 rfl ?_
  refine s_iload_n dL_law_353 rfl ?_
  refine s_iconst dL_law_354 ?_
  refine s_iadd dL_law_355 ?_
  refine s_ld dL_law_356 hL (by omega) ?_
  refine s_callMI (vs := [vI (xs (i + 1).toNat).toInt, vI (xs (i + 2).toNat).toInt]) dL_law_357 ml_L_45 yl_X12_pallet ⟨rfl, rfl⟩ (s2_pallet (r32 _) (r32 _) h2) rfl rfl ⟨_, rfl⟩ rfl rfl rfl rfl ?_
  rintro x m2 ⟨rfl, h3⟩
  exact s_same dL_law_360 rfl (k _ _ h3)
theorem lc_named (hL : L ≤ 3072) (h : LwE μ G) (hi : 0 ≤ i ∧ i + 6 ≤ (L : Int)) (k : ∀ μ2 G2, LwE μ2 G2 → AS L xs gL_law SH μ2 203 99927 996 (lw4 i) [] P) : AS L xs gL_law SH μ 203 99927 365 (lw4 i) [] P := by
  obtain ⟨p, pd, c, cd, h⟩ := h
  refine s_aload_n dL_law_365 rfl ?_
  refine s_callMI (vs := []) dL_law_366 ml_L_46 yl_X11_named ⟨rfl, rfl⟩ (s1_named h ) rfl rfl ⟨_, rfl⟩ rfl rfl rfl rfl ?_
  rintro x m ⟨rfl, h2⟩
  refine s_aload_n dL_law_369 rfl ?_
  refine s_callMI (vs := []) dL_law_370 ml_L_49 yl_X12_named ⟨rfl, rfl⟩ (s2_named  h2) rfl rfl ⟨_, rfl⟩ rfl rfl rfl rfl ?_
  rintro x m2 ⟨rfl, h3⟩
  exact s_same dL_law_373 rfl (k _ _ h3)
theorem lc_spot (hL : L ≤ 3072) (h : LwE μ G) (hi : 0 ≤ i ∧ i + 6 ≤ (L : Int)) (k : ∀ μ2 G2, LwE μ2 G2 → AS L xs gL_law SH μ2 203 99927 996 (lw4 i) [] P) : AS L xs gL_law SH μ 203 99927 378 (lw4 i) [] P := by
  obtain ⟨p, pd, c, cd, h⟩ := h
  refine s_aload_n dL_law_378 rfl ?_
  refine s_aload_nX dL_law_379 rfl ?_
  refine s_iload_n dL_law_380 rfl ?_
  refine s_iconst dL_law_381 ?_
  refine s_iadd dL_law_382 ?_
  refine s_ld dL_law_383 hL (by omega) ?_
  refine s_aload_nX dL_law_384 rfl ?_
  refine s_iload_n dL_law_385 rfl ?_
  refine s_iconst dL_law_386 ?_
  refine s_iadd dL_law_387 ?_
  refine s_ld dL_law_388 hL (by omega) ?_
  refine s_callMI (vs := [vI (xs (i + 1).toNat).toInt, vI (xs (i + 2).toNat).toInt]) dL_law_389 ml_L_50 yl_X11_spot ⟨rfl, rfl⟩ (s1_spot h (r32 _) (r32 _)) rfl rfl ⟨_, rfl⟩ rfl rfl rfl rfl ?_
  rintro x m ⟨rfl, h2⟩
  refine s_aload_n dL_law_392 rfl ?_
  refine s_aload_nX dL_law_393 rfl ?_
  refine s_iload_n dL_law_394 rfl ?_
  refine s_iconst dL_law_395 ?_
  refine s_iadd dL_law_396 ?_
  refine s_ld dL_law_397 hL (by omega) ?_
  refine s_aload_nX dL_law_398 rfl ?_
  refine s_iload_n dL_law_399 rfl ?_
  refine s_iconst dL_law_400 ?_
  refine s_iadd dL_law_401 ?_
  refine s_ld dL_law_402 hL (by omega) ?_
  refine s_callMI (vs := [vI (xs (i + 1).toNat).toInt, vI (xs (i + 2).toNat).toInt]) dL_law_403 ml_L_53 yl_X12_spot ⟨rfl, rfl⟩ (s2_spot (r32 _) (r32 _) h2) rfl rfl ⟨_, rfl⟩ rfl rfl rfl rfl ?_
  rintro x m2 ⟨rfl, h3⟩
  exact s_same dL_law_406 rfl (k _ _ h3)
theorem lc_in (hL : L ≤ 3072) (h : LwE μ G) (hi : 0 ≤ i ∧ i + 6 ≤ (L : Int)) (k : ∀ μ2 G2, LwE μ2 G2 → AS L xs gL_law SH μ2 203 99927 996 (lw4 i) [] P) : AS L xs gL_law SH μ 203 99927 411 (lw4 i) [] P := by
  obtain ⟨p, pd, c, cd, h⟩ := h
  refine s_aload_n dL_law_411 rfl ?_
  refine s_aload_nX dL_law_412 rfl ?_
  refine s_iload_n dL_law_413 rfl ?_
  refine s_iconst dL_law_414 ?_
  refine s_iadd dL_law_415 ?_
  refine s_ld dL_law_416 hL (by omega) ?_
  refine s_aload_nX dL_law_417 rfl ?_
  refine s_iload_n dL_law_418 rfl ?_
  refine s_iconst dL_law_419 ?_
  refine s_iadd dL_law_420 ?_
  refine s_ld dL_law_421 hL (by omega) ?_
  refine s_callMI (vs := [vI (xs (i + 1).toNat).toInt, vI (xs (i + 2).toNat).toInt]) dL_law_422 ml_L_54 yl_X11_in ⟨rfl, rfl⟩ (s1_in h (r32 _) (r32 _)) rfl rfl ⟨_, rfl⟩ rfl rfl rfl rfl ?_
  rintro x m ⟨rfl, h2⟩
  refine s_aload_n dL_law_425 rfl ?_
  refine s_aload_nX dL_law_426 rfl ?_
  refine s_iload_n dL_law_427 rfl ?_
  refine s_iconst dL_law_428 ?_
  refine s_iadd dL_law_429 ?_
  refine s_ld dL_law_430 hL (by omega) ?_
  refine s_aload_nX dL_law_431 rfl ?_
  refine s_iload_n dL_law_432 rfl ?_
  refine s_iconst dL_law_433 ?_
  refine s_iadd dL_law_434 ?_
  refine s_ld dL_law_435 hL (by omega) ?_
  refine s_callMI (vs := [vI (xs (i + 1).toNat).toInt, vI (xs (i + 2).toNat).toInt]) dL_law_436 ml_L_57 yl_X12_in ⟨rfl, rfl⟩ (s2_in (r32 _) (r32 _) h2) rfl rfl ⟨_, rfl⟩ rfl rfl rfl rfl ?_
  rintro x m2 ⟨rfl, h3⟩
  exact s_same dL_law_439 rfl (k _ _ h3)
theorem lc_put (hL : L ≤ 3072) (h : LwE μ G) (hi : 0 ≤ i ∧ i + 6 ≤ (L : Int)) (k : ∀ μ2 G2, LwE μ2 G2 → AS L xs gL_law SH μ2 203 99927 996 (lw4 i) [] P) : AS L xs gL_law SH μ 203 99927 444 (lw4 i) [] P := by
  obtain ⟨p, pd, c, cd, h⟩ := h
  refine s_aload_n dL_law_444 rfl ?_
  refine s_aload_nX dL_law_445 rfl ?_
  refine s_iload_n dL_law_446 rfl ?_
  refine s_iconst dL_law_447 ?_
  refine s_iadd dL_law_448 ?_
  refine s_ld dL_law_449 hL (by omega) ?_
  refine s_aload_nX dL_law_450 rfl ?_
  refine s_iload_n dL_law_451 rfl ?_
  refine s_iconst dL_law_452 ?_
  refine s_iadd dL_law_453 ?_
  refine s_ld dL_law_454 hL (by omega) ?_
  refine s_callMI (vs := [vI (xs (i + 1).toNat).toInt, vI (xs (i + 2).toNat).toInt]) dL_law_455 ml_L_58 yl_X11_put ⟨rfl, rfl⟩ (s1_put h (r32 _) (r32 _)) rfl rfl ⟨_, rfl⟩ rfl rfl rfl rfl ?_
  rintro x m ⟨rfl, h2⟩
  refine s_aload_n dL_law_458 rfl ?_
  refine s_aload_nX dL_law_459 rfl ?_
  refine s_iload_n dL_law_460 rfl ?_
  refine s_iconst dL_law_461 ?_
  refine s_iadd dL_law_462 ?_
  refine s_ld dL_law_463 hL (by omega) ?_
  refine s_aload_nX dL_law_464 rfl ?_
  refine s_iload_n dL_law_465 rfl ?_
  refine s_iconst dL_law_466 ?_
  refine s_iadd dL_law_467 ?_
  refine s_ld dL_law_468 hL (by omega) ?_
  refine s_callMI (vs := [vI (xs (i + 1).toNat).toInt, vI (xs (i + 2).toNat).toInt]) dL_law_469 ml_L_61 yl_X12_put ⟨rfl, rfl⟩ (s2_put (r32 _) (r32 _) h2) rfl rfl ⟨_, rfl⟩ rfl rfl rfl rfl ?_
  rintro x m2 ⟨rfl, h3⟩
  exact s_same dL_law_472 rfl (k _ _ h3)
theorem lc_off (hL : L ≤ 3072) (h : LwE μ G) (hi : 0 ≤ i ∧ i + 6 ≤ (L : Int)) (k : ∀ μ2 G2, LwE μ2 G2 → AS L xs gL_law SH μ2 203 99927 996 (lw4 i) [] P) : AS L xs gL_law SH μ 203 99927 477 (lw4 i) [] P := by
  obtain ⟨p, pd, c, cd, h⟩ := h
  refine s_aload_n dL_law_477 rfl ?_
  refine s_aload_nX dL_law_478 rfl ?_
  refine s_iload_n dL_law_479 rfl ?_
  refine s_iconst dL_law_480 ?_
  refine s_iadd dL_law_481 ?_
  refine s_ld dL_law_482 hL (by omega) ?_
  refine s_callMI (vs := [vI (xs (i + 1).toNat).toInt]) dL_law_483 ml_L_62 yl_X11_off ⟨rfl, rfl⟩ (s1_off h (r32 _)) rfl rfl ⟨_, rfl⟩ rfl rfl rfl rfl ?_
  rintro x m ⟨rfl, h2⟩
  refine s_aload_n dL_law_486 rfl ?_
  refine s_aload_nX dL_law_487 rfl ?_
  refine s_iload_n dL_law_488 rfl ?_
  refine s_iconst dL_law_489 ?_
  refine s_iadd dL_law_490 ?_
  refine s_ld dL_law_491 hL (by omega) ?_
  refine s_callMI (vs := [vI (xs (i + 1).toNat).toInt]) dL_law_492 ml_L_65 yl_X12_off ⟨rfl, rfl⟩ (s2_off (r32 _) h2) rfl rfl ⟨_, rfl⟩ rfl rfl rfl rfl ?_
  rintro x m2 ⟨rfl, h3⟩
  exact s_same dL_law_495 rfl (k _ _ h3)
theorem lc_pour (hL : L ≤ 3072) (h : LwE μ G) (hi : 0 ≤ i ∧ i + 6 ≤ (L : Int)) (k : ∀ μ2 G2, LwE μ2 G2 → AS L xs gL_law SH μ2 203 99927 996 (lw4 i) [] P) : AS L xs gL_law SH μ 203 99927 500 (lw4 i) [] P := by
  obtain ⟨p, pd, c, cd, h⟩ := h
  refine s_aload_n dL_law_500 rfl ?_
  refine s_aload_nX dL_law_501 rfl ?_
  refine s_iload_n dL_law_502 rfl ?_
  refine s_iconst dL_law_503 ?_
  refine s_iadd dL_law_504 ?_
  refine s_ld dL_law_505 hL (by omega) ?_
  refine s_aload_nX dL_law_506 rfl ?_
  refine s_iload_n dL_law_507 rfl ?_
  refine s_iconst dL_law_508 ?_
  refine s_iadd dL_law_509 ?_
  refine s_ld dL_law_510 hL (by omega) ?_
  refine s_callMI (vs := [vI (xs (i + 1).toNat).toInt, vI (xs (i + 2).toNat).toInt]) dL_law_511 ml_L_66 yl_X11_pour ⟨rfl, rfl⟩ (s1_pour h (r32 _) (r32 _)) rfl rfl ⟨_, rfl⟩ rfl rfl rfl rfl ?_
  rintro x m ⟨rfl, h2⟩
  refine s_aload_n dL_law_514 rfl ?_
  refine s_aload_nX dL_law_515 rfl ?_
  refine s_iload_n dL_law_516 rfl ?_
  refine s_iconst dL_law_517 ?_
  refine s_iadd dL_law_518 ?_
  refine s_ld dL_law_519 hL (by omega) ?_
  refine s_aload_nX dL_law_520 rfl ?_
  refine s_iload_n dL_law_521 rfl ?_
  refine s_iconst dL_law_522 ?_
  refine s_iadd dL_law_523 ?_
  refine s_ld dL_law_524 hL (by omega) ?_
  refine s_callMI (vs := [vI (xs (i + 1).toNat).toInt, vI (xs (i + 2).toNat).toInt]) dL_law_525 ml_L_69 yl_X12_pour ⟨rfl, rfl⟩ (s2_pour (r32 _) (r32 _) h2) rfl rfl ⟨_, rfl⟩ rfl rfl rfl rfl ?_
  rintro x m2 ⟨rfl, h3⟩
  exact s_same dL_law_528 rfl (k _ _ h3)
theorem lc_why (hL : L ≤ 3072) (h : LwE μ G) (hi : 0 ≤ i ∧ i + 6 ≤ (L : Int)) (k : ∀ μ2 G2, LwE μ2 G2 → AS L xs gL_law SH μ2 203 99927 996 (lw4 i) [] P) : AS L xs gL_law SH μ 203 99927 533 (lw4 i) [] P := by
  obtain ⟨p, pd, c, cd, h⟩ := h
  refine s_aload_n dL_law_533 rfl ?_
  refine s_callMI (vs := []) dL_law_534 ml_L_70 yl_X11_why ⟨rfl, rfl⟩ (s1_why h ) rfl rfl ⟨_, rfl⟩ rfl rfl rfl rfl ?_
  rintro x m ⟨rfl, h2⟩
  refine s_aload_n dL_law_537 rfl ?_
  refine s_callMI (vs := []) dL_law_538 ml_L_73 yl_X12_why ⟨rfl, rfl⟩ (s2_why  h2) rfl rfl ⟨_, rfl⟩ rfl rfl rfl rfl ?_
  rintro x m2 ⟨rfl, h3⟩
  exact s_same dL_law_541 rfl (k _ _ h3)
theorem lc_where (hL : L ≤ 3072) (h : LwE μ G) (hi : 0 ≤ i ∧ i + 6 ≤ (L : Int)) (k : ∀ μ2 G2, LwE μ2 G2 → AS L xs gL_law SH μ2 203 99927 996 (lw4 i) [] P) : AS L xs gL_law SH μ 203 99927 546 (lw4 i) [] P := by
  obtain ⟨p, pd, c, cd, h⟩ := h
  refine s_aload_n dL_law_546 rfl ?_
  refine s_callMI (vs := []) dL_law_547 ml_L_74 yl_X11_where ⟨rfl, rfl⟩ (s1_where h ) rfl rfl ⟨_, rfl⟩ rfl rfl rfl rfl ?_
  rintro x m ⟨rfl, h2⟩
  refine s_aload_n dL_law_550 rfl ?_
  refine s_callMI (vs := []) dL_law_551 ml_L_77 yl_X12_where ⟨rfl, rfl⟩ (s2_where  h2) rfl rfl ⟨_, rfl⟩ rfl rfl rfl rfl ?_
  rintro x m2 ⟨rfl, h3⟩
  exact s_same dL_law_554 rfl (k _ _ h3)
theorem lc_stage (hL : L ≤ 3072) (h : LwE μ G) (hi : 0 ≤ i ∧ i + 6 ≤ (L : Int)) (k : ∀ μ2 G2, LwE μ2 G2 → AS L xs gL_law SH μ2 203 99927 996 (lw4 i) [] P) : AS L xs gL_law SH μ 203 99927 559 (lw4 i) [] P := by
  obtain ⟨p, pd, c, cd, h⟩ := h
  refine s_aload_n dL_law_559 rfl ?_
  refine s_aload_nX dL_law_560 rfl ?_
  refine s_iload_n dL_law_561 rfl ?_
  refine s_iconst dL_law_562 ?_
  refine s_iadd dL_law_563 ?_
  refine s_ld dL_law_564 hL (by omega) ?_
  refine s_aload_nX dL_law_565 rfl ?_
  refine s_iload_n dL_law_566 rfl ?_
  refine s_iconst dL_law_567 ?_
  refine s_iadd dL_law_568 ?_
  refine s_ld dL_law_569 hL (by omega) ?_
  refine s_callMI (vs := [vI (xs (i + 1).toNat).toInt, vI (xs (i + 2).toNat).toInt]) dL_law_570 ml_L_78 yl_X11_stage ⟨rfl, rfl⟩ (s1_stage h (r32 _) (r32 _)) rfl rfl ⟨_, rfl⟩ rfl rfl rfl rfl ?_
  rintro x m ⟨rfl, h2⟩
  refine s_aload_n dL_law_573 rfl ?_
  refine s_aload_nX dL_law_574 rfl ?_
  refine s_iload_n dL_law_575 rfl ?_
  refine s_iconst dL_law_576 ?_
  refine s_iadd dL_law_577 ?_
  refine s_ld dL_law_578 hL (by omega) ?_
  refine s_aload_nX dL_law_579 rfl ?_
  refine s_iload_n dL_law_580 rfl ?_
  refine s_iconst dL_law_581 ?_
  refine s_iadd dL_law_582 ?_
  refine s_ld dL_law_583 hL (by omega) ?_
  refine s_callMI (vs := [vI (xs (i + 1).toNat).toInt, vI (xs (i + 2).toNat).toInt]) dL_law_584 ml_L_81 yl_X12_stage ⟨rfl, rfl⟩ (s2_stage (r32 _) (r32 _) h2) rfl rfl ⟨_, rfl⟩ rfl rfl rfl rfl ?_
  rintro x m2 ⟨rfl, h3⟩
  exact s_same dL_law_587 rfl (k _ _ h3)
theorem lc_blocks (hL : L ≤ 3072) (h : LwE μ G) (hi : 0 ≤ i ∧ i + 6 ≤ (L : Int)) (k : ∀ μ2 G2, LwE μ2 G2 → AS L xs gL_law SH μ2 203 99927 996 (lw4 i) [] P) : AS L xs gL_law SH μ 203 99927 592 (lw4 i) [] P := by
  obtain ⟨p, pd, c, cd, h⟩ := h
  refine s_aload_n dL_law_592 rfl ?_
  refine s_aload_nX dL_law_593 rfl ?_
  refine s_iload_n dL_law_594 rfl ?_
  refine s_iconst dL_law_595 ?_
  refine s_iadd dL_law_596 ?_
  refine s_ld dL_law_597 hL (by omega) ?_
  refine s_callMI (vs := [vI (xs (i + 1).toNat).toInt]) dL_law_598 ml_L_82 yl_X11_blocks ⟨rfl, rfl⟩ (s1_blocks h (r32 _)) rfl rfl ⟨_, rfl⟩ rfl rfl rfl rfl ?_
  rintro x m ⟨rfl, h2⟩
  refine s_aload_n dL_law_601 rfl ?_
  refine s_aload_nX dL_law_602 rfl ?_
  refine s_iload_n dL_law_603 rfl ?_
  refine s_iconst dL_law_604 ?_
  refine s_iadd dL_law_605 ?_
  refine s_ld dL_law_606 hL (by omega) ?_
  refine s_callMI (vs := [vI (xs (i + 1).toNat).toInt]) dL_law_607 ml_L_85 yl_X12_blocks ⟨rfl, rfl⟩ (s2_blocks (r32 _) h2) rfl rfl ⟨_, rfl⟩ rfl rfl rfl rfl ?_
  rintro x m2 ⟨rfl, h3⟩
  exact s_same dL_law_610 rfl (k _ _ h3)
theorem lc_loadings (hL : L ≤ 3072) (h : LwE μ G) (hi : 0 ≤ i ∧ i + 6 ≤ (L : Int)) (k : ∀ μ2 G2, LwE μ2 G2 → AS L xs gL_law SH μ2 203 99927 996 (lw4 i) [] P) : AS L xs gL_law SH μ 203 99927 615 (lw4 i) [] P := by
  obtain ⟨p, pd, c, cd, h⟩ := h
  refine s_aload_n dL_law_615 rfl ?_
  refine s_callMI (vs := []) dL_law_616 ml_L_86 yl_X11_loadings ⟨rfl, rfl⟩ (s1_loadings h ) rfl rfl ⟨_, rfl⟩ rfl rfl rfl rfl ?_
  rintro x m ⟨rfl, h2⟩
  refine s_aload_n dL_law_619 rfl ?_
  refine s_callMI (vs := []) dL_law_620 ml_L_89 yl_X12_loadings ⟨rfl, rfl⟩ (s2_loadings  h2) rfl rfl ⟨_, rfl⟩ rfl rfl rfl rfl ?_
  rintro x m2 ⟨rfl, h3⟩
  exact s_same dL_law_623 rfl (k _ _ h3)
theorem lc_loading (hL : L ≤ 3072) (h : LwE μ G) (hi : 0 ≤ i ∧ i + 6 ≤ (L : Int)) (k : ∀ μ2 G2, LwE μ2 G2 → AS L xs gL_law SH μ2 203 99927 996 (lw4 i) [] P) : AS L xs gL_law SH μ 203 99927 628 (lw4 i) [] P := by
  obtain ⟨p, pd, c, cd, h⟩ := h
  refine s_aload_n dL_law_628 rfl ?_
  refine s_aload_nX dL_law_629 rfl ?_
  refine s_iload_n dL_law_630 rfl ?_
  refine s_iconst dL_law_631 ?_
  refine s_iadd dL_law_632 ?_
  refine s_ld dL_law_633 hL (by omega) ?_
  refine s_aload_nX dL_law_634 rfl ?_
  refine s_iload_n dL_law_635 rfl ?_
  refine s_iconst dL_law_636 ?_
  refine s_iadd dL_law_637 ?_
  refine s_ld dL_law_638 hL (by omega) ?_
  refine s_callMI (vs := [vI (xs (i + 1).toNat).toInt, vI (xs (i + 2).toNat).toInt]) dL_law_639 ml_L_90 yl_X11_loading ⟨rfl, rfl⟩ (s1_loading h (r32 _) (r32 _)) rfl rfl ⟨_, rfl⟩ rfl rfl rfl rfl ?_
  rintro x m ⟨rfl, h2⟩
  refine s_aload_n dL_law_642 rfl ?_
  refine s_aload_nX dL_law_643 rfl ?_
  refine s_iload_n dL_law_644 rfl ?_
  refine s_iconst dL_law_645 ?_
  refine s_iadd dL_law_646 ?_
  refine s_ld dL_law_647 hL (by omega) ?_
  refine s_aload_nX dL_law_648 rfl ?_
  refine s_iload_n dL_law_649 rfl ?_
  refine s_iconst dL_law_650 ?_
  refine s_iadd dL_law_651 ?_
  refine s_ld dL_law_652 hL (by omega) ?_
  refine s_callMI (vs := [vI (xs (i + 1).toNat).toInt, vI (xs (i + 2).toNat).toInt]) dL_law_653 ml_L_93 yl_X12_loading ⟨rfl, rfl⟩ (s2_loading (r32 _) (r32 _) h2) rfl rfl ⟨_, rfl⟩ rfl rfl rfl rfl ?_
  rintro x m2 ⟨rfl, h3⟩
  exact s_same dL_law_656 rfl (k _ _ h3)
theorem lc_poured (hL : L ≤ 3072) (h : LwE μ G) (hi : 0 ≤ i ∧ i + 6 ≤ (L : Int)) (k : ∀ μ2 G2, LwE μ2 G2 → AS L xs gL_law SH μ2 203 99927 996 (lw4 i) [] P) : AS L xs gL_law SH μ 203 99927 661 (lw4 i) [] P := by
  obtain ⟨p, pd, c, cd, h⟩ := h
  refine s_aload_n dL_law_661 rfl ?_
  refine s_aload_nX dL_law_662 rfl ?_
  refine s_iload_n dL_law_663 rfl ?_
  refine s_iconst dL_law_664 ?_
  refine s_iadd dL_law_665 ?_
  refine s_ld dL_law_666 hL (by omega) ?_
  refine s_aload_nX dL_law_667 rfl ?_
  refine s_iload_n dL_law_668 rfl ?_
  refine s_iconst dL_law_669 ?_
  refine s_iadd dL_law_670 ?_
  refine s_ld dL_law_671 hL (by omega) ?_
  refine s_callMI (vs := [vI (xs (i + 1).toNat).toInt, vI (xs (i + 2).toNat).toInt]) dL_law_672 ml_L_94 yl_X11_poured ⟨rfl, rfl⟩ (s1_poured h (r32 _) (r32 _)) rfl rfl ⟨_, rfl⟩ rfl rfl rfl rfl ?_
  rintro x m ⟨rfl, h2⟩
  refine s_aload_n dL_law_675 rfl ?_
  refine s_aload_nX dL_law_676 rfl ?_
  refine s_iload_n dL_law_677 rfl ?_
  refine s_iconst dL_law_678 ?_
  refine s_iadd dL_law_679 ?_
  refine s_ld dL_law_680 hL (by omega) ?_
  refine s_aload_nX dL_law_681 rfl ?_
  refine s_iload_n dL_law_682 rfl ?_
  refine s_iconst dL_law_683 ?_
  refine s_iadd dL_law_684 ?_
  refine s_ld dL_law_685 hL (by omega) ?_
  refine s_callMI (vs := [vI (xs (i + 1).toNat).toInt, vI (xs (i + 2).toNat).toInt]) dL_law_686 ml_L_97 yl_X12_poured ⟨rfl, rfl⟩ (s2_poured (r32 _) (r32 _) h2) rfl rfl ⟨_, rfl⟩ rfl rfl rfl rfl ?_
  rintro x m2 ⟨rfl, h3⟩
  exact s_same dL_law_689 rfl (k _ _ h3)
theorem lc_take (hL : L ≤ 3072) (h : LwE μ G) (hi : 0 ≤ i ∧ i + 6 ≤ (L : Int)) (k : ∀ μ2 G2, LwE μ2 G2 → AS L xs gL_law SH μ2 203 99927 996 (lw4 i) [] P) : AS L xs gL_law SH μ 203 99927 694 (lw4 i) [] P := by
  obtain ⟨p, pd, c, cd, h⟩ := h
  refine s_aload_n dL_law_694 rfl ?_
  refine s_aload_nX dL_law_695 rfl ?_
  refine s_iload_n dL_law_696 rfl ?_
  refine s_iconst dL_law_697 ?_
  refine s_iadd dL_law_698 ?_
  refine s_ld dL_law_699 hL (by omega) ?_
  refine s_callMI (vs := [vI (xs (i + 1).toNat).toInt]) dL_law_700 ml_L_98 yl_X11_take ⟨rfl, rfl⟩ (s1_take h (r32 _)) rfl rfl ⟨_, rfl⟩ rfl rfl rfl rfl ?_
  rintro x m ⟨rfl, h2⟩
  refine s_aload_n dL_law_703 rfl ?_
  refine s_aload_nX dL_law_704 rfl ?_
  refine s_iload_n dL_law_705 rfl ?_
  refine s_iconst dL_law_706 ?_
  refine s_iadd dL_law_707 ?_
  refine s_ld dL_law_708 hL (by omega) ?_
  refine s_callMI (vs := [vI (xs (i + 1).toNat).toInt]) dL_law_709 ml_L_101 yl_X12_take ⟨rfl, rfl⟩ (s2_take (r32 _) h2) rfl rfl ⟨_, rfl⟩ rfl rfl rfl rfl ?_
  rintro x m2 ⟨rfl, h3⟩
  exact s_same dL_law_712 rfl (k _ _ h3)
theorem lc_handlings (hL : L ≤ 3072) (h : LwE μ G) (hi : 0 ≤ i ∧ i + 6 ≤ (L : Int)) (k : ∀ μ2 G2, LwE μ2 G2 → AS L xs gL_law SH μ2 203 99927 996 (lw4 i) [] P) : AS L xs gL_law SH μ 203 99927 717 (lw4 i) [] P := by
  obtain ⟨p, pd, c, cd, h⟩ := h
  refine s_aload_n dL_law_717 rfl ?_
  refine s_aload_nX dL_law_718 rfl ?_
  refine s_iload_n dL_law_719 rfl ?_
  refine s_iconst dL_law_720 ?_
  refine s_iadd dL_law_721 ?_
  refine s_ld dL_law_722 hL (by omega) ?_
  refine s_callMI (vs := [vI (xs (i + 1).toNat).toInt]) dL_law_723 ml_L_102 yl_X11_handlings ⟨rfl, rfl⟩ (s1_handlings h (r32 _)) rfl rfl ⟨_, rfl⟩ rfl rfl rfl rfl ?_
  rintro x m ⟨rfl, h2⟩
  refine s_aload_n dL_law_726 rfl ?_
  refine s_aload_nX dL_law_727 rfl ?_
  refine s_iload_n dL_law_728 rfl ?_
  refine s_iconst dL_law_729 ?_
  refine s_iadd dL_law_730 ?_
  refine s_ld dL_law_731 hL (by omega) ?_
  refine s_callMI (vs := [vI (xs (i + 1).toNat).toInt]) dL_law_732 ml_L_105 yl_X12_handlings ⟨rfl, rfl⟩ (s2_handlings (r32 _) h2) rfl rfl ⟨_, rfl⟩ rfl rfl rfl rfl ?_
  rintro x m2 ⟨rfl, h3⟩
  exact s_same dL_law_735 rfl (k _ _ h3)
theorem lc_mend (hL : L ≤ 3072) (h : LwE μ G) (hi : 0 ≤ i ∧ i + 6 ≤ (L : Int)) (k : ∀ μ2 G2, LwE μ2 G2 → AS L xs gL_law SH μ2 203 99927 996 (lw4 i) [] P) : AS L xs gL_law SH μ 203 99927 740 (lw4 i) [] P := by
  obtain ⟨p, pd, c, cd, h⟩ := h
  refine s_aload_n dL_law_740 rfl ?_
  refine s_callMI (vs := []) dL_law_741 ml_L_106 yl_X11_mend ⟨rfl, rfl⟩ (s1_mend h ) rfl rfl ⟨_, rfl⟩ rfl rfl rfl rfl ?_
  rintro x m ⟨rfl, h2⟩
  refine s_aload_n dL_law_744 rfl ?_
  refine s_callMI (vs := []) dL_law_745 ml_L_109 yl_X12_mend ⟨rfl, rfl⟩ (s2_mend  h2) rfl rfl ⟨_, rfl⟩ rfl rfl rfl rfl ?_
  rintro x m2 ⟨rfl, h3⟩
  exact s_same dL_law_748 rfl (k _ _ h3)
theorem lc_move (hL : L ≤ 3072) (h : LwE μ G) (hi : 0 ≤ i ∧ i + 6 ≤ (L : Int)) (k : ∀ μ2 G2, LwE μ2 G2 → AS L xs gL_law SH μ2 203 99927 996 (lw4 i) [] P) : AS L xs gL_law SH μ 203 99927 753 (lw4 i) [] P := by
  obtain ⟨p, pd, c, cd, h⟩ := h
  refine s_aload_n dL_law_753 rfl ?_
  refine s_aload_nX dL_law_754 rfl ?_
  refine s_iload_n dL_law_755 rfl ?_
  refine s_iconst dL_law_756 ?_
  refine s_iadd dL_law_757 ?_
  refine s_ld dL_law_758 hL (by omega) ?_
  refine s_callMI (vs := [vI (xs (i + 1).toNat).toInt]) dL_law_759 ml_L_110 yl_X11_move ⟨rfl, rfl⟩ (s1_move h (r32 _)) rfl rfl ⟨_, rfl⟩ rfl rfl rfl rfl ?_
  rintro x m ⟨rfl, h2⟩
  refine s_aload_n dL_law_762 rfl ?_
  refine s_aload_nX dL_law_763 rfl ?_
  refine s_iload_n dL_law_764 rfl ?_
  refine s_iconst dL_law_765 ?_
  refine s_iadd dL_law_766 ?_
  refine s_ld dL_law_767 hL (by omega) ?_
  refine s_callMI (vs := [vI (xs (i + 1).toNat).toInt]) dL_law_768 ml_L_113 yl_X12_move ⟨rfl, rfl⟩ (s2_move (r32 _) h2) rfl rfl ⟨_, rfl⟩ rfl rfl rfl rfl ?_
  rintro x m2 ⟨rfl, h3⟩
  exact s_same dL_law_771 rfl (k _ _ h3)
theorem lc_mended (hL : L ≤ 3072) (h : LwE μ G) (hi : 0 ≤ i ∧ i + 6 ≤ (L : Int)) (k : ∀ μ2 G2, LwE μ2 G2 → AS L xs gL_law SH μ2 203 99927 996 (lw4 i) [] P) : AS L xs gL_law SH μ 203 99927 776 (lw4 i) [] P := by
  obtain ⟨p, pd, c, cd, h⟩ := h
  refine s_aload_n dL_law_776 rfl ?_
  refine s_callMI (vs := []) dL_law_777 ml_L_114 yl_X11_mended ⟨rfl, rfl⟩ (s1_mended h ) rfl rfl ⟨_, rfl⟩ rfl rfl rfl rfl ?_
  rintro x m ⟨rfl, h2⟩
  refine s_aload_n dL_law_780 rfl ?_
  refine s_callMI (vs := []) dL_law_781 ml_L_117 yl_X12_mended ⟨rfl, rfl⟩ (s2_mended  h2) rfl rfl ⟨_, rfl⟩ rfl rfl rfl rfl ?_
  rintro x m2 ⟨rfl, h3⟩
  exact s_same dL_law_784 rfl (k _ _ h3)
theorem lc_spare (hL : L ≤ 3072) (h : LwE μ G) (hi : 0 ≤ i ∧ i + 6 ≤ (L : Int)) (k : ∀ μ2 G2, LwE μ2 G2 → AS L xs gL_law SH μ2 203 99927 996 (lw4 i) [] P) : AS L xs gL_law SH μ 203 99927 789 (lw4 i) [] P := by
  obtain ⟨p, pd, c, cd, h⟩ := h
  refine s_aload_n dL_law_789 rfl ?_
  refine s_aload_nX dL_law_790 rfl ?_
  refine s_iload_n dL_law_791 rfl ?_
  refine s_iconst dL_law_792 ?_
  refine s_iadd dL_law_793 ?_
  refine s_ld dL_law_794 hL (by omega) ?_
  refine s_callMI (vs := [vI (xs (i + 1).toNat).toInt]) dL_law_795 ml_L_118 yl_X11_spare ⟨rfl, rfl⟩ (s1_spare h (r32 _)) rfl rfl ⟨_, rfl⟩ rfl rfl rfl rfl ?_
  rintro x m ⟨rfl, h2⟩
  refine s_aload_n dL_law_798 rfl ?_
  refine s_aload_nX dL_law_799 rfl ?_
  refine s_iload_n dL_law_800 rfl ?_
  refine s_iconst dL_law_801 ?_
  refine s_iadd dL_law_802 ?_
  refine s_ld dL_law_803 hL (by omega) ?_
  refine s_callMI (vs := [vI (xs (i + 1).toNat).toInt]) dL_law_804 ml_L_121 yl_X12_spare ⟨rfl, rfl⟩ (s2_spare (r32 _) h2) rfl rfl ⟨_, rfl⟩ rfl rfl rfl rfl ?_
  rintro x m2 ⟨rfl, h3⟩
  exact s_same dL_law_807 rfl (k _ _ h3)
theorem lc_swaps (hL : L ≤ 3072) (h : LwE μ G) (hi : 0 ≤ i ∧ i + 6 ≤ (L : Int)) (k : ∀ μ2 G2, LwE μ2 G2 → AS L xs gL_law SH μ2 203 99927 996 (lw4 i) [] P) : AS L xs gL_law SH μ 203 99927 812 (lw4 i) [] P := by
  obtain ⟨p, pd, c, cd, h⟩ := h
  refine s_aload_n dL_law_812 rfl ?_
  refine s_callMI (vs := []) dL_law_813 ml_L_122 yl_X11_swaps ⟨rfl, rfl⟩ (s1_swaps h ) rfl rfl ⟨_, rfl⟩ rfl rfl rfl rfl ?_
  rintro x m ⟨rfl, h2⟩
  refine s_aload_n dL_law_816 rfl ?_
  refine s_callMI (vs := []) dL_law_817 ml_L_125 yl_X12_swaps ⟨rfl, rfl⟩ (s2_swaps  h2) rfl rfl ⟨_, rfl⟩ rfl rfl rfl rfl ?_
  rintro x m2 ⟨rfl, h3⟩
  exact s_same dL_law_820 rfl (k _ _ h3)
theorem lc_come (hL : L ≤ 3072) (h : LwE μ G) (hi : 0 ≤ i ∧ i + 6 ≤ (L : Int)) (k : ∀ μ2 G2, LwE μ2 G2 → AS L xs gL_law SH μ2 203 99927 996 (lw4 i) [] P) : AS L xs gL_law SH μ 203 99927 825 (lw4 i) [] P := by
  obtain ⟨p, pd, c, cd, h⟩ := h
  refine s_aload_n dL_law_825 rfl ?_
  refine s_aload_nX dL_law_826 rfl ?_
  refine s_iload_n dL_law_827 rfl ?_
  refine s_iconst dL_law_828 ?_
  refine s_iadd dL_law_829 ?_
  refine s_ld dL_law_830 hL (by omega) ?_
  refine s_aload_nX dL_law_831 rfl ?_
  refine s_iload_n dL_law_832 rfl ?_
  refine s_iconst dL_law_833 ?_
  refine s_iadd dL_law_834 ?_
  refine s_ld dL_law_835 hL (by omega) ?_
  refine s_callMI (vs := [vI (xs (i + 1).toNat).toInt, vI (xs (i + 2).toNat).toInt]) dL_law_836 ml_L_126 yl_X11_come ⟨rfl, rfl⟩ (s1_come h (r32 _) (r32 _)) rfl rfl ⟨_, rfl⟩ rfl rfl rfl rfl ?_
  rintro x m ⟨rfl, h2⟩
  refine s_aload_n dL_law_839 rfl ?_
  refine s_aload_nX dL_law_840 rfl ?_
  refine s_iload_n dL_law_841 rfl ?_
  refine s_iconst dL_law_842 ?_
  refine s_iadd dL_law_843 ?_
  refine s_ld dL_law_844 hL (by omega) ?_
  refine s_aload_nX dL_law_845 rfl ?_
  refine s_iload_n dL_law_846 rfl ?_
  refine s_iconst dL_law_847 ?_
  refine s_iadd dL_law_848 ?_
  refine s_ld dL_law_849 hL (by omega) ?_
  refine s_callMI (vs := [vI (xs (i + 1).toNat).toInt, vI (xs (i + 2).toNat).toInt]) dL_law_850 ml_L_129 yl_X12_come ⟨rfl, rfl⟩ (s2_come (r32 _) (r32 _) h2) rfl rfl ⟨_, rfl⟩ rfl rfl rfl rfl ?_
  rintro x m2 ⟨rfl, h3⟩
  exact s_same dL_law_853 rfl (k _ _ h3)
theorem lc_drop (hL : L ≤ 3072) (h : LwE μ G) (hi : 0 ≤ i ∧ i + 6 ≤ (L : Int)) (k : ∀ μ2 G2, LwE μ2 G2 → AS L xs gL_law SH μ2 203 99927 996 (lw4 i) [] P) : AS L xs gL_law SH μ 203 99927 858 (lw4 i) [] P := by
  obtain ⟨p, pd, c, cd, h⟩ := h
  refine s_aload_n dL_law_858 rfl ?_
  refine s_aload_nX dL_law_859 rfl ?_
  refine s_iload_n dL_law_860 rfl ?_
  refine s_iconst dL_law_861 ?_
  refine s_iadd dL_law_862 ?_
  refine s_ld dL_law_863 hL (by omega) ?_
  refine s_callMI (vs := [vI (xs (i + 1).toNat).toInt]) dL_law_864 ml_L_130 yl_X11_drop ⟨rfl, rfl⟩ (s1_drop h (r32 _)) rfl rfl ⟨_, rfl⟩ rfl rfl rfl rfl ?_
  rintro x m ⟨rfl, h2⟩
  refine s_aload_n dL_law_867 rfl ?_
  refine s_aload_nX dL_law_868 rfl ?_
  refine s_iload_n dL_law_869 rfl ?_
  refine s_iconst dL_law_870 ?_
  refine s_iadd dL_law_871 ?_
  refine s_ld dL_law_872 hL (by omega) ?_
  refine s_callMI (vs := [vI (xs (i + 1).toNat).toInt]) dL_law_873 ml_L_133 yl_X12_drop ⟨rfl, rfl⟩ (s2_drop (r32 _) h2) rfl rfl ⟨_, rfl⟩ rfl rfl rfl rfl ?_
  rintro x m2 ⟨rfl, h3⟩
  exact s_same dL_law_876 rfl (k _ _ h3)
theorem lc_again (hL : L ≤ 3072) (h : LwE μ G) (hi : 0 ≤ i ∧ i + 6 ≤ (L : Int)) (k : ∀ μ2 G2, LwE μ2 G2 → AS L xs gL_law SH μ2 203 99927 996 (lw4 i) [] P) : AS L xs gL_law SH μ 203 99927 881 (lw4 i) [] P := by
  obtain ⟨p, pd, c, cd, h⟩ := h
  refine s_aload_n dL_law_881 rfl ?_
  refine s_aload_nX dL_law_882 rfl ?_
  refine s_iload_n dL_law_883 rfl ?_
  refine s_iconst dL_law_884 ?_
  refine s_iadd dL_law_885 ?_
  refine s_ld dL_law_886 hL (by omega) ?_
  refine s_callMI (vs := [vI (xs (i + 1).toNat).toInt]) dL_law_887 ml_L_134 yl_X11_again ⟨rfl, rfl⟩ (s1_again h (r32 _)) rfl rfl ⟨_, rfl⟩ rfl rfl rfl rfl ?_
  rintro x m ⟨rfl, h2⟩
  refine s_aload_n dL_law_890 rfl ?_
  refine s_aload_nX dL_law_891 rfl ?_
  refine s_iload_n dL_law_892 rfl ?_
  refine s_iconst dL_law_893 ?_
  refine s_iadd dL_law_894 ?_
  refine s_ld dL_law_895 hL (by omega) ?_
  refine s_callMI (vs := [vI (xs (i + 1).toNat).toInt]) dL_law_896 ml_L_137 yl_X12_again ⟨rfl, rfl⟩ (s2_again (r32 _) h2) rfl rfl ⟨_, rfl⟩ rfl rfl rfl rfl ?_
  rintro x m2 ⟨rfl, h3⟩
  exact s_same dL_law_899 rfl (k _ _ h3)
theorem lc_weigh (hL : L ≤ 3072) (h : LwE μ G) (hi : 0 ≤ i ∧ i + 6 ≤ (L : Int)) (k : ∀ μ2 G2, LwE μ2 G2 → AS L xs gL_law SH μ2 203 99927 996 (lw4 i) [] P) : AS L xs gL_law SH μ 203 99927 904 (lw4 i) [] P := by
  obtain ⟨p, pd, c, cd, h⟩ := h
  refine s_aload_n dL_law_904 rfl ?_
  refine s_aload_nX dL_law_905 rfl ?_
  refine s_iload_n dL_law_906 rfl ?_
  refine s_iconst dL_law_907 ?_
  refine s_iadd dL_law_908 ?_
  refine s_ld dL_law_909 hL (by omega) ?_
  refine s_aload_nX dL_law_910 rfl ?_
  refine s_iload_n dL_law_911 rfl ?_
  refine s_iconst dL_law_912 ?_
  refine s_iadd dL_law_913 ?_
  refine s_ld dL_law_914 hL (by omega) ?_
  refine s_callMI (vs := [vI (xs (i + 1).toNat).toInt, vI (xs (i + 2).toNat).toInt]) dL_law_915 ml_L_138 yl_X11_weigh ⟨rfl, rfl⟩ (s1_weigh h (r32 _) (r32 _)) rfl rfl ⟨_, rfl⟩ rfl rfl rfl rfl ?_
  rintro x m ⟨rfl, h2⟩
  refine s_aload_n dL_law_918 rfl ?_
  refine s_aload_nX dL_law_919 rfl ?_
  refine s_iload_n dL_law_920 rfl ?_
  refine s_iconst dL_law_921 ?_
  refine s_iadd dL_law_922 ?_
  refine s_ld dL_law_923 hL (by omega) ?_
  refine s_aload_nX dL_law_924 rfl ?_
  refine s_iload_n dL_law_925 rfl ?_
  refine s_iconst dL_law_926 ?_
  refine s_iadd dL_law_927 ?_
  refine s_ld dL_law_928 hL (by omega) ?_
  refine s_callMI (vs := [vI (xs (i + 1).toNat).toInt, vI (xs (i + 2).toNat).toInt]) dL_law_929 ml_L_141 yl_X12_weigh ⟨rfl, rfl⟩ (s2_weigh (r32 _) (r32 _) h2) rfl rfl ⟨_, rfl⟩ rfl rfl rfl rfl ?_
  rintro x m2 ⟨rfl, h3⟩
  exact s_same dL_law_932 rfl (k _ _ h3)
theorem lc_undo (hL : L ≤ 3072) (h : LwE μ G) (hi : 0 ≤ i ∧ i + 6 ≤ (L : Int)) (k : ∀ μ2 G2, LwE μ2 G2 → AS L xs gL_law SH μ2 203 99927 996 (lw4 i) [] P) : AS L xs gL_law SH μ 203 99927 937 (lw4 i) [] P := by
  obtain ⟨p, pd, c, cd, h⟩ := h
  refine s_aload_n dL_law_937 rfl ?_
  refine s_callMI (vs := []) dL_law_938 ml_L_142 yl_X11_undo ⟨rfl, rfl⟩ (s1_undo h ) rfl rfl ⟨_, rfl⟩ rfl rfl rfl rfl ?_
  rintro x m ⟨rfl, h2⟩
  refine s_aload_n dL_law_941 rfl ?_
  refine s_callMI (vs := []) dL_law_942 ml_L_145 yl_X12_undo ⟨rfl, rfl⟩ (s2_undo  h2) rfl rfl ⟨_, rfl⟩ rfl rfl rfl rfl ?_
  rintro x m2 ⟨rfl, h3⟩
  exact s_same dL_law_945 rfl (k _ _ h3)
theorem lc_image (hL : L ≤ 3072) (h : LwE μ G) (hi : 0 ≤ i ∧ i + 6 ≤ (L : Int)) (k : ∀ μ2 G2, LwE μ2 G2 → AS L xs gL_law SH μ2 203 99927 996 (lw4 i) [] P) : AS L xs gL_law SH μ 203 99927 950 (lw4 i) [] P := by
  obtain ⟨p, pd, c, cd, h⟩ := h
  refine s_aload_n dL_law_950 rfl ?_
  refine s_aload_nX dL_law_951 rfl ?_
  refine s_iload_n dL_law_952 rfl ?_
  refine s_iconst dL_law_953 ?_
  refine s_iadd dL_law_954 ?_
  refine s_ld dL_law_955 hL (by omega) ?_
  refine s_callMI (vs := [vI (xs (i + 1).toNat).toInt]) dL_law_956 ml_L_146 yl_X11_image ⟨rfl, rfl⟩ (s1_image h (r32 _)) rfl rfl ⟨_, rfl⟩ rfl rfl rfl rfl ?_
  rintro x m ⟨rfl, h2⟩
  refine s_aload_n dL_law_959 rfl ?_
  refine s_aload_nX dL_law_960 rfl ?_
  refine s_iload_n dL_law_961 rfl ?_
  refine s_iconst dL_law_962 ?_
  refine s_iadd dL_law_963 ?_
  refine s_ld dL_law_964 hL (by omega) ?_
  refine s_callMI (vs := [vI (xs (i + 1).toNat).toInt]) dL_law_965 ml_L_149 yl_X12_image ⟨rfl, rfl⟩ (s2_image (r32 _) h2) rfl rfl ⟨_, rfl⟩ rfl rfl rfl rfl ?_
  rintro x m2 ⟨rfl, h3⟩
  exact s_same dL_law_968 rfl (k _ _ h3)
theorem lc_restore (hL : L ≤ 3072) (h : LwE μ G) (hi : 0 ≤ i ∧ i + 6 ≤ (L : Int)) (k : ∀ μ2 G2, LwE μ2 G2 → AS L xs gL_law SH μ2 203 99927 996 (lw4 i) [] P) : AS L xs gL_law SH μ 203 99927 973 (lw4 i) [] P := by
  obtain ⟨p, pd, c, cd, h⟩ := h
  refine s_aload_n dL_law_973 rfl ?_
  refine s_aload_nX dL_law_974 rfl ?_
  refine s_iload_n dL_law_975 rfl ?_
  refine s_iconst dL_law_976 ?_
  refine s_iadd dL_law_977 ?_
  refine s_ld dL_law_978 hL (by omega) ?_
  refine s_callMI (vs := [vI (xs (i + 1).toNat).toInt]) dL_law_979 ml_L_150 yl_X11_restore ⟨rfl, rfl⟩ (s1_restore h (r32 _)) rfl rfl ⟨_, rfl⟩ rfl rfl rfl rfl ?_
  rintro x m ⟨rfl, h2⟩
  refine s_aload_n dL_law_982 rfl ?_
  refine s_aload_nX dL_law_983 rfl ?_
  refine s_iload_n dL_law_984 rfl ?_
  refine s_iconst dL_law_985 ?_
  refine s_iadd dL_law_986 ?_
  refine s_ld dL_law_987 hL (by omega) ?_
  refine s_callMI (vs := [vI (xs (i + 1).toNat).toInt]) dL_law_988 ml_L_153 yl_X12_restore ⟨rfl, rfl⟩ (s2_restore (r32 _) h2) rfl rfl ⟨_, rfl⟩ rfl rfl rfl rfl ?_
  rintro x m2 ⟨rfl, h3⟩
  exact s_same dL_law_991 rfl (k _ _ h3)
theorem law_loop (hL : L ≤ 3072) : ∀ (f : Nat) (μ : Mem) (G : Gh) (i : Int), LwE μ G → 0 ≤ i → i ≤ (L : Int) + 6 → (L : Int) + 6 - i < (f : Int) → AS L xs gL_law SH μ 203 99927 18 (lw4 i) [] (fun r _ _ => r = some (vI 1)) := by
  intro f
  induction f with
  | zero => intro μ G i; intros; omega
  | succ f ih =>
    intro μ G i h h0 h1 hf
    refine s_iload_n dL_law_18 rfl ?_
    refine s_aload_nX dL_law_19 rfl ?_
    refine s_len dL_law_20 ?_
    refine s_bipush dL_law_21 (by decide) ?_
    refine s_isub dL_law_23 ?_
    refine s_icmp_gt (tgt := 1002) dL_law_24 rfl (by omega) (by omega) (fun hc => ?_) (fun hc => ?_)
    · refine s_iconst dL_law_1002 ?_
      exact s_zreturn (Or.inr rfl) dL_law_1003 rfl rfl rfl rfl
    have hi : 0 ≤ i ∧ i + 6 ≤ (L : Int) := by omega
    have K : ∀ μ2 G2, LwE μ2 G2 → AS L xs gL_law SH μ2 203 99927 996 (lw4 i) [] (fun r _ _ => r = some (vI 1)) := by
      intro μ2 G2 h2
      refine s_iinc dL_law_996 rfl rfl ?_
      refine s_goto (tgt := 18) dL_law_999 rfl ?_
      exact ih μ2 G2 (i + 6) h2 (by omega) (by omega) (by omega)
    refine s_aload_nX dL_law_27 rfl ?_
    refine s_iload_n dL_law_28 rfl ?_
    refine s_ld dL_law_29 hL (by omega) ?_
    refine s_bipush dL_law_30 (by decide) ?_
    refine s_iand dL_law_32 ?_
    have hx : -2147483648 ≤ iand (xs i.toNat).toInt 63 ∧ iand (xs i.toNat).toInt 63 < 2147483648 := r32 _
    generalize iand (xs i.toNat).toInt 63 = x at hx ⊢
    rcases (show (x < 0 ∨ 33 < x) ∨ x = 0 ∨ x = 1 ∨ x = 2 ∨ x = 3 ∨ x = 4 ∨ x = 5 ∨ x = 6 ∨ x = 7 ∨ x = 8 ∨ x = 9 ∨ x = 10 ∨ x = 11 ∨ x = 12 ∨ x = 13 ∨ x = 14 ∨ x = 15 ∨ x = 16 ∨ x = 17 ∨ x = 18 ∨ x = 19 ∨ x = 20 ∨ x = 21 ∨ x = 22 ∨ x = 23 ∨ x = 24 ∨ x = 25 ∨ x = 26 ∨ x = 27 ∨ x = 28 ∨ x = 29 ∨ x = 30 ∨ x = 31 ∨ x = 32 ∨ x = 33 by omega) with hc2 | rfl | rfl | rfl | rfl | rfl | rfl | rfl | rfl | rfl | rfl | rfl | rfl | rfl | rfl | rfl | rfl | rfl | rfl | rfl | rfl | rfl | rfl | rfl | rfl | rfl | rfl | rfl | rfl | rfl | rfl | rfl | rfl | rfl | rfl
    · exact s_tableOut (tgt := 996) dL_law_33 hx hc2 rfl (K μ G h)
    · exact s_tableIn (tgt := 184) dL_law_33 (by decide) (by decide) (by decide) rfl rfl (lc_feed hL h hi K)
    · exact s_tableIn (tgt := 247) dL_law_33 (by decide) (by decide) (by decide) rfl rfl (lc_end hL h hi K)
    · exact s_tableIn (tgt := 270) dL_law_33 (by decide) (by decide) (by decide) rfl rfl (lc_plane hL h hi K)
    · exact s_tableIn (tgt := 283) dL_law_33 (by decide) (by decide) (by decide) rfl rfl (lc_cargo hL h hi K)
    · exact s_tableIn (tgt := 296) dL_law_33 (by decide) (by decide) (by decide) rfl rfl (lc_fault hL h hi K)
    · exact s_tableIn (tgt := 309) dL_law_33 (by decide) (by decide) (by decide) rfl rfl (lc_count hL h hi K)
    · exact s_tableIn (tgt := 332) dL_law_33 (by decide) (by decide) (by decide) rfl rfl (lc_pallet hL h hi K)
    · exact s_tableIn (tgt := 365) dL_law_33 (by decide) (by decide) (by decide) rfl rfl (lc_named hL h hi K)
    · exact s_tableIn (tgt := 378) dL_law_33 (by decide) (by decide) (by decide) rfl rfl (lc_spot hL h hi K)
    · exact s_tableIn (tgt := 411) dL_law_33 (by decide) (by decide) (by decide) rfl rfl (lc_in hL h hi K)
    · exact s_tableIn (tgt := 444) dL_law_33 (by decide) (by decide) (by decide) rfl rfl (lc_put hL h hi K)
    · exact s_tableIn (tgt := 477) dL_law_33 (by decide) (by decide) (by decide) rfl rfl (lc_off hL h hi K)
    · exact s_tableIn (tgt := 500) dL_law_33 (by decide) (by decide) (by decide) rfl rfl (lc_pour hL h hi K)
    · exact s_tableIn (tgt := 533) dL_law_33 (by decide) (by decide) (by decide) rfl rfl (lc_why hL h hi K)
    · exact s_tableIn (tgt := 546) dL_law_33 (by decide) (by decide) (by decide) rfl rfl (lc_where hL h hi K)
    · exact s_tableIn (tgt := 559) dL_law_33 (by decide) (by decide) (by decide) rfl rfl (lc_stage hL h hi K)
    · exact s_tableIn (tgt := 592) dL_law_33 (by decide) (by decide) (by decide) rfl rfl (lc_blocks hL h hi K)
    · exact s_tableIn (tgt := 615) dL_law_33 (by decide) (by decide) (by decide) rfl rfl (lc_loadings hL h hi K)
    · exact s_tableIn (tgt := 628) dL_law_33 (by decide) (by decide) (by decide) rfl rfl (lc_loading hL h hi K)
    · exact s_tableIn (tgt := 661) dL_law_33 (by decide) (by decide) (by decide) rfl rfl (lc_poured hL h hi K)
    · exact s_tableIn (tgt := 694) dL_law_33 (by decide) (by decide) (by decide) rfl rfl (lc_take hL h hi K)
    · exact s_tableIn (tgt := 717) dL_law_33 (by decide) (by decide) (by decide) rfl rfl (lc_handlings hL h hi K)
    · exact s_tableIn (tgt := 740) dL_law_33 (by decide) (by decide) (by decide) rfl rfl (lc_mend hL h hi K)
    · exact s_tableIn (tgt := 753) dL_law_33 (by decide) (by decide) (by decide) rfl rfl (lc_move hL h hi K)
    · exact s_tableIn (tgt := 776) dL_law_33 (by decide) (by decide) (by decide) rfl rfl (lc_mended hL h hi K)
    · exact s_tableIn (tgt := 789) dL_law_33 (by decide) (by decide) (by decide) rfl rfl (lc_spare hL h hi K)
    · exact s_tableIn (tgt := 812) dL_law_33 (by decide) (by decide) (by decide) rfl rfl (lc_swaps hL h hi K)
    · exact s_tableIn (tgt := 825) dL_law_33 (by decide) (by decide) (by decide) rfl rfl (lc_come hL h hi K)
    · exact s_tableIn (tgt := 858) dL_law_33 (by decide) (by decide) (by decide) rfl rfl (lc_drop hL h hi K)
    · exact s_tableIn (tgt := 881) dL_law_33 (by decide) (by decide) (by decide) rfl rfl (lc_again hL h hi K)
    · exact s_tableIn (tgt := 904) dL_law_33 (by decide) (by decide) (by decide) rfl rfl (lc_weigh hL h hi K)
    · exact s_tableIn (tgt := 937) dL_law_33 (by decide) (by decide) (by decide) rfl rfl (lc_undo hL h hi K)
    · exact s_tableIn (tgt := 950) dL_law_33 (by decide) (by decide) (by decide) rfl rfl (lc_image hL h hi K)
    · exact s_tableIn (tgt := 973) dL_law_33 (by decide) (by decide) (by decide) rfl rfl (lc_restore hL h hi K)
theorem law_start (hL : L ≤ 3072) (μ0 : Mem) : AS L xs gL_law [] μ0 0 0 0 (entL gL_law [vX 62]) [] (fun r _ _ => r = some (vI 1)) := by
  refine s_new dL_law_0 nl_L_7 rfl rfl ?_
  have hl0 : ([] : Sh).length = 0 := rfl
  rw [hl0]
  refine s_dup dL_law_3 rfl ?_
  refine s_callI (vs := []) dL_law_4 ml_L_9 yl_X11_init rfl (i_X11 (a := 0) rfl rfl (bornZ _ _)) rfl rfl rfl rfl rfl ?_
  rintro r1 t1 μ1 ⟨rfl, rfl, hN1, hP1⟩
  simp only [Option.toList_none, List.nil_append] at hP1 ⊢
  refine s_astore_n dL_law_7 rfl ?_
  refine s_new dL_law_8 nl_L_10 rfl rfl ?_
  have hl1 : ([(10, 11)] ++ lstX11 : Sh).length = 188 := rfl
  rw [hl1]
  refine s_dup dL_law_11 rfl ?_
  refine s_callI (vs := []) dL_law_12 ml_L_12 yl_X12_init rfl (i_X12 (a := 188) rfl rfl (bornZ _ _)) rfl rfl rfl rfl rfl ?_
  rintro r2 t2 μ2 ⟨rfl, rfl, hN2, hr2⟩
  simp only [Option.toList_none, List.nil_append]
  rw [SH_eq]
  refine s_astore_n dL_law_15 rfl ?_
  refine s_iconst dL_law_16 ?_
  refine s_istore_n dL_law_17 rfl ?_
  exact law_loop hL (L + 7) μ2 G0 0 ⟨_, _, _, _, start_LS hN1 hP1 hN2 hr2⟩ (by omega) (by omega) (by omega)
end LAW
