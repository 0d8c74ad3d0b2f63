section
variable {l : Launch} {D : va_G} {cI cZ cS : ClassId} {a : Nat → Nat} {tS tF : Nat}
set_option maxRecDepth 20000 in
theorem c_X7_digest (σ : Sg) (K : Int64 → Sg → Prop) : ∀ sz, Met l yX7_digest (.code yX7_digest cX7_digest 5 (some .long) :: AW) ({ frames := 6, cells := 0, slots := 0, locals := 141 } : Room) (pvM D (tyM cI) SXM (wM cI a σ) sz (w_X7_digest σ K) [.ref (a 0)]) (va_Ql K (atM D (tyM cI) (wM cI a) (va_A (wM cI a σ) sz)) (va_A (wM cI a σ) sz)) 0 0 (va_A (wM cI a σ) sz) := by
  intro sz
  refine met_Ml (own := "TrainNoteModel") (lv := [(0, .ref (a 0))]) (by decide +kernel) rfl (Nat.le_of_ble_eq_true rfl) rfl ?_
  intro p e s m args below meth c A X hK hX hA hr hlk h
  have hR : ∀ σ H locs, hpM D (wM cI a) A s σ H locs → va_P D vwCl ((wM cI a σ)) H := fun _ _ _ h => h.1
  have hok := SXM_ok
  refine g_ldc2 (pc := 0) X kw5_40 dX7_digest_0 ?_
  refine g_lstore_n (pc := 3) (lv' := [(1, .long (17 : Int64)), (0, .ref (a 0))]) X rfl (by decide) rfl dX7_digest_3 ?_
  refine g_iconst (pc := 4) X ic_0 dX7_digest_4 ?_
  refine g_istore_n (pc := 5) (lv' := [(3, .int (0 : Int32)), (1, .long (17 : Int64)), (0, .ref (a 0))]) X rfl (by decide) rfl dX7_digest_5 ?_
  obtain ⟨n6, h⟩ := h
  have X31 : ∀ (u1_31 : Int64) (ρe31 : Sg), E_X7_digest_6 K u1_31 ρe31 → GMl p l e ({ frames := 6, cells := 0, slots := 0, locals := 141 } : Room) s m args below meth c K 5 D (tyM cI) (wM cI a) A 31 [(0, .ref (a 0)), (1, .long u1_31)] [] ρe31 := by
    intro u1_31 ρe31 h
    refine g_ldc2 (pc := 31) X kw5_41 dX7_digest_31 ?_
    refine g_lload_n (pc := 34) X rfl 1 rfl dX7_digest_34 ?_
    refine g_lmul (pc := 35) X dX7_digest_35 ?_
    refine g_aload_n (pc := 36) X rfl 0 rfl dX7_digest_36 ?_
    refine g_cVMi (pc := 37) (As := []) X hK hX hok hA mi_X7_readsSingers (c_X7_readsSingers  ρe31 _) (fun _ => ⟨_, wl_ate (oX7 (cI := cI) (a := a) k_isMod_0).1 ((oX7 (cI := cI) (a := a) k_isMod_0).2 _)⟩) rfl rfl kw4_22 ⟨rfl, rfl⟩ ⟨Nat.le_of_ble_eq_true rfl, Nat.le_of_ble_eq_true rfl⟩ rfl (Nat.le_of_ble_eq_true rfl) dX7_digest_37 rfl h (fun r37 τ37 h => ?_)
    refine g_i2l (pc := 40) X dX7_digest_40 ?_
    refine g_ladd (pc := 41) X dX7_digest_41 ?_
    refine g_topl (fun x1_42 ex1_42 => ?_)
    have h := h x1_42 ex1_42
    refine g_lstore_n (pc := 42) (lv' := [(1, .long x1_42), (0, .ref (a 0))]) X rfl (by decide) rfl dX7_digest_42 ?_
    refine g_ldc2 (pc := 43) X kw5_41 dX7_digest_43 ?_
    refine g_lload_n (pc := 46) X rfl 0 rfl dX7_digest_46 ?_
    refine g_lmul (pc := 47) X dX7_digest_47 ?_
    refine g_aload_n (pc := 48) X rfl 1 rfl dX7_digest_48 ?_
    refine g_cVMi (pc := 49) (As := []) X hK hX hok hA mi_X7_readsBars (c_X7_readsBars  τ37 _) (fun _ => ⟨_, wl_ate (oX7 (cI := cI) (a := a) k_isMod_0).1 ((oX7 (cI := cI) (a := a) k_isMod_0).2 _)⟩) rfl rfl kw4_31 ⟨rfl, rfl⟩ ⟨Nat.le_of_ble_eq_true rfl, Nat.le_of_ble_eq_true rfl⟩ rfl (Nat.le_of_ble_eq_true rfl) dX7_digest_49 rfl h (fun r49 τ49 h => ?_)
    refine g_i2l (pc := 52) X dX7_digest_52 ?_
    refine g_ladd (pc := 53) X dX7_digest_53 ?_
    refine g_topl (fun x1_54 ex1_54 => ?_)
    have h := h x1_54 ex1_54
    refine g_lstore_n (pc := 54) (lv' := [(1, .long x1_54), (0, .ref (a 0))]) X rfl (by decide) rfl dX7_digest_54 ?_
    refine g_aload_n (pc := 55) X rfl 1 rfl dX7_digest_55 ?_
    refine g_cVMv (pc := 56) (As := []) X hK hX hok hA mi_X7_find (c_X7_find  τ49 _) (fun _ => ⟨_, wl_ate (oX7 (cI := cI) (a := a) k_isMod_0).1 ((oX7 (cI := cI) (a := a) k_isMod_0).2 _)⟩) rfl rfl kw4_67 ⟨rfl, rfl⟩ ⟨Nat.le_of_ble_eq_true rfl, Nat.le_of_ble_eq_true rfl⟩ rfl (Nat.le_of_ble_eq_true rfl) dX7_digest_56 rfl h (fun τ56 h => ?_)
    refine g_iconst (pc := 59) X ic_0 dX7_digest_59 ?_
    refine g_istore_n (pc := 60) (lv' := [(3, .int (0 : Int32)), (1, .long x1_54), (0, .ref (a 0))]) X rfl (by decide) rfl dX7_digest_60 ?_
    obtain ⟨n61, h⟩ := h
    have X137 : ∀ (u1_137 : Int64), E_X7_digest_61 τ56 K u1_137 → GMl p l e ({ frames := 6, cells := 0, slots := 0, locals := 141 } : Room) s m args below meth c K 5 D (tyM cI) (wM cI a) A 137 [(0, .ref (a 0)), (1, .long u1_137)] [] τ56 := by
      intro u1_137 h
      refine g_iconst (pc := 137) X ic_0 dX7_digest_137 ?_
      refine g_istore_n (pc := 138) (lv' := [(3, .int (0 : Int32)), (0, .ref (a 0)), (1, .long u1_137)]) X rfl (by decide) rfl dX7_digest_138 ?_
      obtain ⟨n139, h⟩ := h
      have X200 : ∀ (u1_200 : Int64), E_X7_digest_139 τ56 K u1_200 → GMl p l e ({ frames := 6, cells := 0, slots := 0, locals := 141 } : Room) s m args below meth c K 5 D (tyM cI) (wM cI a) A 200 [(0, .ref (a 0)), (1, .long u1_200)] [] τ56 := by
        intro u1_200 h
        refine g_iconst (pc := 200) X ic_0 dX7_digest_200 ?_
        refine g_istore_n (pc := 201) (lv' := [(3, .int (0 : Int32)), (0, .ref (a 0)), (1, .long u1_200)]) X rfl (by decide) rfl dX7_digest_201 ?_
        obtain ⟨n202, h⟩ := h
        have X246 : ∀ (u1_246 : Int64), E_X7_digest_202 τ56 K u1_246 → GMl p l e ({ frames := 6, cells := 0, slots := 0, locals := 141 } : Room) s m args below meth c K 5 D (tyM cI) (wM cI a) A 246 [(0, .ref (a 0)), (1, .long u1_246)] [] τ56 := by
          intro u1_246 h
          refine g_ldc2 (pc := 246) X kw5_41 dX7_digest_246 ?_
          refine g_lload_n (pc := 249) X rfl 1 rfl dX7_digest_249 ?_
          refine g_lmul (pc := 250) X dX7_digest_250 ?_
          refine g_aload_n (pc := 251) X rfl 0 rfl dX7_digest_251 ?_
          refine g_iconst (pc := 252) X ic_0 dX7_digest_252 ?_
          refine g_cVPi (pc := 253) (As := [.int (0 : Int32)]) X hK hR mi_X7_whistleAt (c_X7_whistleAt (0 : Int32) τ56 _) (wl_ate (oX7 (cI := cI) (a := a) k_isMod_0).1 ((oX7 (cI := cI) (a := a) k_isMod_0).2 _)) rfl rfl kw4_59 ⟨rfl, rfl⟩ ⟨Nat.le_of_ble_eq_true rfl, Nat.le_of_ble_eq_true rfl⟩ rfl (Nat.le_of_ble_eq_true rfl) dX7_digest_253 rfl h (fun r253 h => ?_)
          refine g_i2l (pc := 256) X dX7_digest_256 ?_
          refine g_ladd (pc := 257) X dX7_digest_257 ?_
          refine g_topl (fun x1_258 ex1_258 => ?_)
          have h := h x1_258 ex1_258
          refine g_lstore_n (pc := 258) (lv' := [(1, .long x1_258), (0, .ref (a 0))]) X rfl (by decide) rfl dX7_digest_258 ?_
          refine g_ldc2 (pc := 259) X kw5_41 dX7_digest_259 ?_
          refine g_lload_n (pc := 262) X rfl 0 rfl dX7_digest_262 ?_
          refine g_lmul (pc := 263) X dX7_digest_263 ?_
          refine g_aload_n (pc := 264) X rfl 1 rfl dX7_digest_264 ?_
          refine g_bipush (pc := 265) X bp_9 dX7_digest_265 ?_
          refine g_cVPi (pc := 267) (As := [.int (9 : Int32)]) X hK hR mi_X7_whistleAt (c_X7_whistleAt (9 : Int32) τ56 _) (wl_ate (oX7 (cI := cI) (a := a) k_isMod_0).1 ((oX7 (cI := cI) (a := a) k_isMod_0).2 _)) rfl rfl kw4_59 ⟨rfl, rfl⟩ ⟨Nat.le_of_ble_eq_true rfl, Nat.le_of_ble_eq_true rfl⟩ rfl (Nat.le_of_ble_eq_true rfl) dX7_digest_267 rfl h (fun r267 h => ?_)
          refine g_i2l (pc := 270) X dX7_digest_270 ?_
          refine g_ladd (pc := 271) X dX7_digest_271 ?_
          refine g_topl (fun x1_272 ex1_272 => ?_)
          have h := h x1_272 ex1_272
          refine g_lstore_n (pc := 272) (lv' := [(1, .long x1_272), (0, .ref (a 0))]) X rfl (by decide) rfl dX7_digest_272 ?_
          refine g_ldc2 (pc := 273) X kw5_41 dX7_digest_273 ?_
          refine g_lload_n (pc := 276) X rfl 0 rfl dX7_digest_276 ?_
          refine g_lmul (pc := 277) X dX7_digest_277 ?_
          refine g_aload_n (pc := 278) X rfl 1 rfl dX7_digest_278 ?_
          refine g_iconst (pc := 279) X ic_0 dX7_digest_279 ?_
          refine g_cVPi (pc := 280) (As := [.int (0 : Int32)]) X hK hR mi_X7_openBy (c_X7_openBy (0 : Int32) τ56 _) (wl_ate (oX7 (cI := cI) (a := a) k_isMod_0).1 ((oX7 (cI := cI) (a := a) k_isMod_0).2 _)) rfl rfl kw4_143 ⟨rfl, rfl⟩ ⟨Nat.le_of_ble_eq_true rfl, Nat.le_of_ble_eq_true rfl⟩ rfl (Nat.le_of_ble_eq_true rfl) dX7_digest_280 rfl h (fun r280 h => ?_)
          refine g_i2l (pc := 283) X dX7_digest_283 ?_
          refine g_ladd (pc := 284) X dX7_digest_284 ?_
          refine g_topl (fun x1_285 ex1_285 => ?_)
          have h := h x1_285 ex1_285
          refine g_lstore_n (pc := 285) (lv' := [(1, .long x1_285), (0, .ref (a 0))]) X rfl (by decide) rfl dX7_digest_285 ?_
          refine g_ldc2 (pc := 286) X kw5_41 dX7_digest_286 ?_
          refine g_lload_n (pc := 289) X rfl 0 rfl dX7_digest_289 ?_
          refine g_lmul (pc := 290) X dX7_digest_290 ?_
          refine g_aload_n (pc := 291) X rfl 1 rfl dX7_digest_291 ?_
          refine g_iconst (pc := 292) X ic_1 dX7_digest_292 ?_
          refine g_cVPi (pc := 293) (As := [.int (1 : Int32)]) X hK hR mi_X7_openBy (c_X7_openBy (1 : Int32) τ56 _) (wl_ate (oX7 (cI := cI) (a := a) k_isMod_0).1 ((oX7 (cI := cI) (a := a) k_isMod_0).2 _)) rfl rfl kw4_143 ⟨rfl, rfl⟩ ⟨Nat.le_of_ble_eq_true rfl, Nat.le_of_ble_eq_true rfl⟩ rfl (Nat.le_of_ble_eq_true rfl) dX7_digest_293 rfl h (fun r293 h => ?_)
          refine g_i2l (pc := 296) X dX7_digest_296 ?_
          refine g_ladd (pc := 297) X dX7_digest_297 ?_
          refine g_topl (fun x1_298 ex1_298 => ?_)
          have h := h x1_298 ex1_298
          refine g_lstore_n (pc := 298) (lv' := [(1, .long x1_298), (0, .ref (a 0))]) X rfl (by decide) rfl dX7_digest_298 ?_
          refine g_ldc2 (pc := 299) X kw5_41 dX7_digest_299 ?_
          refine g_lload_n (pc := 302) X rfl 0 rfl dX7_digest_302 ?_
          refine g_lmul (pc := 303) X dX7_digest_303 ?_
          refine g_aload_n (pc := 304) X rfl 1 rfl dX7_digest_304 ?_
          refine g_iconst (pc := 305) X ic_0 dX7_digest_305 ?_
          refine g_iconst (pc := 306) X ic_m1 dX7_digest_306 ?_
          refine g_cVMi (pc := 307) (As := [.int (0 : Int32), .int (-1 : Int32)]) X hK hX hok hA mi_X7_stand (c_X7_stand (0 : Int32) (-1 : Int32) τ56 _) (fun _ => ⟨_, wl_ate (oX7 (cI := cI) (a := a) k_isMod_0).1 ((oX7 (cI := cI) (a := a) k_isMod_0).2 _)⟩) rfl rfl kw5_43 ⟨rfl, rfl⟩ ⟨Nat.le_of_ble_eq_true rfl, Nat.le_of_ble_eq_true rfl⟩ rfl (Nat.le_of_ble_eq_true rfl) dX7_digest_307 rfl h (fun r307 τ307 h => ?_)
          refine g_i2l (pc := 310) X dX7_digest_310 ?_
          refine g_ladd (pc := 311) X dX7_digest_311 ?_
          refine g_topl (fun x1_312 ex1_312 => ?_)
          have h := h x1_312 ex1_312
          refine g_lstore_n (pc := 312) (lv' := [(1, .long x1_312), (0, .ref (a 0))]) X rfl (by decide) rfl dX7_digest_312 ?_
          refine g_ldc2 (pc := 313) X kw5_41 dX7_digest_313 ?_
          refine g_lload_n (pc := 316) X rfl 0 rfl dX7_digest_316 ?_
          refine g_lmul (pc := 317) X dX7_digest_317 ?_
          refine g_aload_n (pc := 318) X rfl 1 rfl dX7_digest_318 ?_
          refine g_iconst (pc := 319) X ic_0 dX7_digest_319 ?_
          refine g_iconst (pc := 320) X ic_0 dX7_digest_320 ?_
          refine g_cVMi (pc := 321) (As := [.int (0 : Int32), .int (0 : Int32)]) X hK hX hok hA mi_X7_stand (c_X7_stand (0 : Int32) (0 : Int32) τ307 _) (fun _ => ⟨_, wl_ate (oX7 (cI := cI) (a := a) k_isMod_0).1 ((oX7 (cI := cI) (a := a) k_isMod_0).2 _)⟩) rfl rfl kw5_43 ⟨rfl, rfl⟩ ⟨Nat.le_of_ble_eq_true rfl, Nat.le_of_ble_eq_true rfl⟩ rfl (Nat.le_of_ble_eq_true rfl) dX7_digest_321 rfl h (fun r321 τ321 h => ?_)
          refine g_i2l (pc := 324) X dX7_digest_324 ?_
          refine g_ladd (pc := 325) X dX7_digest_325 ?_
          refine g_topl (fun x1_326 ex1_326 => ?_)
          have h := h x1_326 ex1_326
          refine g_lstore_n (pc := 326) (lv' := [(1, .long x1_326), (0, .ref (a 0))]) X rfl (by decide) rfl dX7_digest_326 ?_
          refine g_ldc2 (pc := 327) X kw5_41 dX7_digest_327 ?_
          refine g_lload_n (pc := 330) X rfl 0 rfl dX7_digest_330 ?_
          refine g_lmul (pc := 331) X dX7_digest_331 ?_
          refine g_aload_n (pc := 332) X rfl 1 rfl dX7_digest_332 ?_
          refine g_iconst (pc := 333) X ic_0 dX7_digest_333 ?_
          refine g_iconst (pc := 334) X ic_0 dX7_digest_334 ?_
          refine g_cVMi (pc := 335) (As := [.int (0 : Int32), .int (0 : Int32)]) X hK hX hok hA mi_X7_hush (c_X7_hush (0 : Int32) (0 : Int32) τ321 _) (fun _ => ⟨_, wl_ate (oX7 (cI := cI) (a := a) k_isMod_0).1 ((oX7 (cI := cI) (a := a) k_isMod_0).2 _)⟩) rfl rfl kw5_44 ⟨rfl, rfl⟩ ⟨Nat.le_of_ble_eq_true rfl, Nat.le_of_ble_eq_true rfl⟩ rfl (Nat.le_of_ble_eq_true rfl) dX7_digest_335 rfl h (fun r335 τ335 h => ?_)
          refine g_i2l (pc := 338) X dX7_digest_338 ?_
          refine g_ladd (pc := 339) X dX7_digest_339 ?_
          refine g_topl (fun x1_340 ex1_340 => ?_)
          have h := h x1_340 ex1_340
          refine g_lstore_n (pc := 340) (lv' := [(1, .long x1_340), (0, .ref (a 0))]) X rfl (by decide) rfl dX7_digest_340 ?_
          refine g_ldc2 (pc := 341) X kw5_41 dX7_digest_341 ?_
          refine g_lload_n (pc := 344) X rfl 0 rfl dX7_digest_344 ?_
          refine g_lmul (pc := 345) X dX7_digest_345 ?_
          refine g_aload_n (pc := 346) X rfl 1 rfl dX7_digest_346 ?_
          refine g_iconst (pc := 347) X ic_0 dX7_digest_347 ?_
          refine g_iconst (pc := 348) X ic_1 dX7_digest_348 ?_
          refine g_cVMi (pc := 349) (As := [.int (0 : Int32), .int (1 : Int32)]) X hK hX hok hA mi_X7_hush (c_X7_hush (0 : Int32) (1 : Int32) τ335 _) (fun _ => ⟨_, wl_ate (oX7 (cI := cI) (a := a) k_isMod_0).1 ((oX7 (cI := cI) (a := a) k_isMod_0).2 _)⟩) rfl rfl kw5_44 ⟨rfl, rfl⟩ ⟨Nat.le_of_ble_eq_true rfl, Nat.le_of_ble_eq_true rfl⟩ rfl (Nat.le_of_ble_eq_true rfl) dX7_digest_349 rfl h (fun r349 τ349 h => ?_)
          refine g_i2l (pc := 352) X dX7_digest_352 ?_
          refine g_ladd (pc := 353) X dX7_digest_353 ?_
          refine g_topl (fun x1_354 ex1_354 => ?_)
          have h := h x1_354 ex1_354
          refine g_lstore_n (pc := 354) (lv' := [(1, .long x1_354), (0, .ref (a 0))]) X rfl (by decide) rfl dX7_digest_354 ?_
          refine g_ldc2 (pc := 355) X kw5_41 dX7_digest_355 ?_
          refine g_lload_n (pc := 358) X rfl 0 rfl dX7_digest_358 ?_
          refine g_lmul (pc := 359) X dX7_digest_359 ?_
          refine g_aload_n (pc := 360) X rfl 1 rfl dX7_digest_360 ?_
          refine g_iconst (pc := 361) X ic_0 dX7_digest_361 ?_
          refine g_iconst (pc := 362) X ic_0 dX7_digest_362 ?_
          refine g_cVMi (pc := 363) (As := [.int (0 : Int32), .int (0 : Int32)]) X hK hX hok hA mi_X7_drive (c_X7_drive (0 : Int32) (0 : Int32) τ349 _) (fun _ => ⟨_, wl_ate (oX7 (cI := cI) (a := a) k_isMod_0).1 ((oX7 (cI := cI) (a := a) k_isMod_0).2 _)⟩) rfl rfl kw5_45 ⟨rfl, rfl⟩ ⟨Nat.le_of_ble_eq_true rfl, Nat.le_of_ble_eq_true rfl⟩ rfl (Nat.le_of_ble_eq_true rfl) dX7_digest_363 rfl h (fun r363 τ363 h => ?_)
          refine g_i2l (pc := 366) X dX7_digest_366 ?_
          refine g_ladd (pc := 367) X dX7_digest_367 ?_
          refine g_topl (fun x1_368 ex1_368 => ?_)
          have h := h x1_368 ex1_368
          refine g_lstore_n (pc := 368) (lv' := [(1, .long x1_368), (0, .ref (a 0))]) X rfl (by decide) rfl dX7_digest_368 ?_
          refine g_ldc2 (pc := 369) X kw5_41 dX7_digest_369 ?_
          refine g_lload_n (pc := 372) X rfl 0 rfl dX7_digest_372 ?_
          refine g_lmul (pc := 373) X dX7_digest_373 ?_
          refine g_aload_n (pc := 374) X rfl 1 rfl dX7_digest_374 ?_
          refine g_iconst (pc := 375) X ic_0 dX7_digest_375 ?_
          refine g_iconst (pc := 376) X ic_1 dX7_digest_376 ?_
          refine g_cVMi (pc := 377) (As := [.int (0 : Int32), .int (1 : Int32)]) X hK hX hok hA mi_X7_drive (c_X7_drive (0 : Int32) (1 : Int32) τ363 _) (fun _ => ⟨_, wl_ate (oX7 (cI := cI) (a := a) k_isMod_0).1 ((oX7 (cI := cI) (a := a) k_isMod_0).2 _)⟩) rfl rfl kw5_45 ⟨rfl, rfl⟩ ⟨Nat.le_of_ble_eq_true rfl, Nat.le_of_ble_eq_true rfl⟩ rfl (Nat.le_of_ble_eq_true rfl) dX7_digest_377 rfl h (fun r377 τ377 h => ?_)
          refine g_i2l (pc := 380) X dX7_digest_380 ?_
          refine g_ladd (pc := 381) X dX7_digest_381 ?_
          refine g_topl (fun x1_382 ex1_382 => ?_)
          have h := h x1_382 ex1_382
          refine g_lstore_n (pc := 382) (lv' := [(1, .long x1_382), (0, .ref (a 0))]) X rfl (by decide) rfl dX7_digest_382 ?_
          refine g_ldc2 (pc := 383) X kw5_41 dX7_digest_383 ?_
          refine g_lload_n (pc := 386) X rfl 0 rfl dX7_digest_386 ?_
          refine g_lmul (pc := 387) X dX7_digest_387 ?_
          refine g_aload_n (pc := 388) X rfl 1 rfl dX7_digest_388 ?_
          refine g_iconst (pc := 389) X ic_3 dX7_digest_389 ?_
          refine g_iconst (pc := 390) X ic_5 dX7_digest_390 ?_
          refine g_iconst (pc := 391) X ic_0 dX7_digest_391 ?_
          refine g_iconst (pc := 392) X ic_0 dX7_digest_392 ?_
          refine g_cVMl (pc := 393) (As := [.int (3 : Int32), .int (5 : Int32), .int (0 : Int32), .int (0 : Int32)]) X hK hX hok hA mi_X7_herd (c_X7_herd (3 : Int32) (5 : Int32) (0 : Int32) (0 : Int32) τ377 _) (fun _ => ⟨_, wl_ate (oX7 (cI := cI) (a := a) k_isMod_0).1 ((oX7 (cI := cI) (a := a) k_isMod_0).2 _)⟩) rfl rfl kw5_46 ⟨rfl, rfl⟩ ⟨Nat.le_of_ble_eq_true rfl, Nat.le_of_ble_eq_true rfl⟩ rfl (Nat.le_of_ble_eq_true rfl) dX7_digest_393 rfl h (fun r393 τ393 h => ?_)
          refine g_ladd (pc := 396) X dX7_digest_396 ?_
          refine g_topl (fun x1_397 ex1_397 => ?_)
          have h := h x1_397 ex1_397
          refine g_lstore_n (pc := 397) (lv' := [(1, .long x1_397), (0, .ref (a 0))]) X rfl (by decide) rfl dX7_digest_397 ?_
          refine g_ldc2 (pc := 398) X kw5_41 dX7_digest_398 ?_
          refine g_lload_n (pc := 401) X rfl 0 rfl dX7_digest_401 ?_
          refine g_lmul (pc := 402) X dX7_digest_402 ?_
          refine g_aload_n (pc := 403) X rfl 1 rfl dX7_digest_403 ?_
          refine g_iconst (pc := 404) X ic_3 dX7_digest_404 ?_
          refine g_iconst (pc := 405) X ic_5 dX7_digest_405 ?_
          refine g_iconst (pc := 406) X ic_0 dX7_digest_406 ?_
          refine g_iconst (pc := 407) X ic_1 dX7_digest_407 ?_
          refine g_cVMl (pc := 408) (As := [.int (3 : Int32), .int (5 : Int32), .int (0 : Int32), .int (1 : Int32)]) X hK hX hok hA mi_X7_herd (c_X7_herd (3 : Int32) (5 : Int32) (0 : Int32) (1 : Int32) τ393 _) (fun _ => ⟨_, wl_ate (oX7 (cI := cI) (a := a) k_isMod_0).1 ((oX7 (cI := cI) (a := a) k_isMod_0).2 _)⟩) rfl rfl kw5_46 ⟨rfl, rfl⟩ ⟨Nat.le_of_ble_eq_true rfl, Nat.le_of_ble_eq_true rfl⟩ rfl (Nat.le_of_ble_eq_true rfl) dX7_digest_408 rfl h (fun r408 τ408 h => ?_)
          refine g_ladd (pc := 411) X dX7_digest_411 ?_
          refine g_topl (fun x1_412 ex1_412 => ?_)
          have h := h x1_412 ex1_412
          refine g_lstore_n (pc := 412) (lv' := [(1, .long x1_412), (0, .ref (a 0))]) X rfl (by decide) rfl dX7_digest_412 ?_
          refine g_ldc2 (pc := 413) X kw5_41 dX7_digest_413 ?_
          refine g_lload_n (pc := 416) X rfl 0 rfl dX7_digest_416 ?_
          refine g_lmul (pc := 417) X dX7_digest_417 ?_
          refine g_aload_n (pc := 418) X rfl 1 rfl dX7_digest_418 ?_
          refine g_bipush (pc := 419) X bp_7 dX7_digest_419 ?_
          refine g_bipush (pc := 421) X bp_20 dX7_digest_421 ?_
          refine g_iconst (pc := 423) X ic_0 dX7_digest_423 ?_
          refine g_cVMi (pc := 424) (As := [.int (7 : Int32), .int (20 : Int32), .int (0 : Int32)]) X hK hX hok hA mi_X7_times (c_X7_times (7 : Int32) (20 : Int32) (0 : Int32) τ408 _) (fun _ => ⟨_, wl_ate (oX7 (cI := cI) (a := a) k_isMod_0).1 ((oX7 (cI := cI) (a := a) k_isMod_0).2 _)⟩) rfl rfl kw5_47 ⟨rfl, rfl⟩ ⟨Nat.le_of_ble_eq_true rfl, Nat.le_of_ble_eq_true rfl⟩ rfl (Nat.le_of_ble_eq_true rfl) dX7_digest_424 rfl h (fun r424 τ424 h => ?_)
          refine g_i2l (pc := 427) X dX7_digest_427 ?_
          refine g_ladd (pc := 428) X dX7_digest_428 ?_
          refine g_topl (fun x1_429 ex1_429 => ?_)
          have h := h x1_429 ex1_429
          refine g_lstore_n (pc := 429) (lv' := [(1, .long x1_429), (0, .ref (a 0))]) X rfl (by decide) rfl dX7_digest_429 ?_
          refine g_ldc2 (pc := 430) X kw5_41 dX7_digest_430 ?_
          refine g_lload_n (pc := 433) X rfl 0 rfl dX7_digest_433 ?_
          refine g_lmul (pc := 434) X dX7_digest_434 ?_
          refine g_aload_n (pc := 435) X rfl 1 rfl dX7_digest_435 ?_
          refine g_iconst (pc := 436) X ic_m1 dX7_digest_436 ?_
          refine g_cVMi (pc := 437) (As := [.int (-1 : Int32)]) X hK hX hok hA mi_X7_speedsOf (c_X7_speedsOf (-1 : Int32) τ424 _) (fun _ => ⟨_, wl_ate (oX7 (cI := cI) (a := a) k_isMod_0).1 ((oX7 (cI := cI) (a := a) k_isMod_0).2 _)⟩) rfl rfl kw4_199 ⟨rfl, rfl⟩ ⟨Nat.le_of_ble_eq_true rfl, Nat.le_of_ble_eq_true rfl⟩ rfl (Nat.le_of_ble_eq_true rfl) dX7_digest_437 rfl h (fun r437 τ437 h => ?_)
          refine g_i2l (pc := 440) X dX7_digest_440 ?_
          refine g_ladd (pc := 441) X dX7_digest_441 ?_
          refine g_topl (fun x1_442 ex1_442 => ?_)
          have h := h x1_442 ex1_442
          refine g_lstore_n (pc := 442) (lv' := [(1, .long x1_442), (0, .ref (a 0))]) X rfl (by decide) rfl dX7_digest_442 ?_
          refine g_ldc2 (pc := 443) X kw5_41 dX7_digest_443 ?_
          refine g_lload_n (pc := 446) X rfl 0 rfl dX7_digest_446 ?_
          refine g_lmul (pc := 447) X dX7_digest_447 ?_
          refine g_aload_n (pc := 448) X rfl 1 rfl dX7_digest_448 ?_
          refine g_iconst (pc := 449) X ic_0 dX7_digest_449 ?_
          refine g_cVMi (pc := 450) (As := [.int (0 : Int32)]) X hK hX hok hA mi_X7_speedsOf (c_X7_speedsOf (0 : Int32) τ437 _) (fun _ => ⟨_, wl_ate (oX7 (cI := cI) (a := a) k_isMod_0).1 ((oX7 (cI := cI) (a := a) k_isMod_0).2 _)⟩) rfl rfl kw4_199 ⟨rfl, rfl⟩ ⟨Nat.le_of_ble_eq_true rfl, Nat.le_of_ble_eq_true rfl⟩ rfl (Nat.le_of_ble_eq_true rfl) dX7_digest_450 rfl h (fun r450 τ450 h => ?_)
          refine g_i2l (pc := 453) X dX7_digest_453 ?_
          refine g_ladd (pc := 454) X dX7_digest_454 ?_
          refine g_topl (fun x1_455 ex1_455 => ?_)
          have h := h x1_455 ex1_455
          refine g_lstore_n (pc := 455) (lv' := [(1, .long x1_455), (0, .ref (a 0))]) X rfl (by decide) rfl dX7_digest_455 ?_
          refine g_ldc2 (pc := 456) X kw5_41 dX7_digest_456 ?_
          refine g_lload_n (pc := 459) X rfl 0 rfl dX7_digest_459 ?_
          refine g_lmul (pc := 460) X dX7_digest_460 ?_
          refine g_aload_n (pc := 461) X rfl 1 rfl dX7_digest_461 ?_
          refine g_cVMi (pc := 462) (As := []) X hK hX hok hA mi_X7_cowsNow (c_X7_cowsNow  τ450 _) (fun _ => ⟨_, wl_ate (oX7 (cI := cI) (a := a) k_isMod_0).1 ((oX7 (cI := cI) (a := a) k_isMod_0).2 _)⟩) rfl rfl kw4_211 ⟨rfl, rfl⟩ ⟨Nat.le_of_ble_eq_true rfl, Nat.le_of_ble_eq_true rfl⟩ rfl (Nat.le_of_ble_eq_true rfl) dX7_digest_462 rfl h (fun r462 τ462 h => ?_)
          refine g_i2l (pc := 465) X dX7_digest_465 ?_
          refine g_ladd (pc := 466) X dX7_digest_466 ?_
          refine g_topl (fun x1_467 ex1_467 => ?_)
          have h := h x1_467 ex1_467
          refine g_lstore_n (pc := 467) (lv' := [(1, .long x1_467), (0, .ref (a 0))]) X rfl (by decide) rfl dX7_digest_467 ?_
          refine g_ldc2 (pc := 468) X kw5_41 dX7_digest_468 ?_
          refine g_lload_n (pc := 471) X rfl 0 rfl dX7_digest_471 ?_
          refine g_lmul (pc := 472) X dX7_digest_472 ?_
          refine g_aload_n (pc := 473) X rfl 1 rfl dX7_digest_473 ?_
          refine g_cVMi (pc := 474) (As := []) X hK hX hok hA mi_X7_askNow (c_X7_askNow  τ462 _) (fun _ => ⟨_, wl_ate (oX7 (cI := cI) (a := a) k_isMod_0).1 ((oX7 (cI := cI) (a := a) k_isMod_0).2 _)⟩) rfl rfl kw4_219 ⟨rfl, rfl⟩ ⟨Nat.le_of_ble_eq_true rfl, Nat.le_of_ble_eq_true rfl⟩ rfl (Nat.le_of_ble_eq_true rfl) dX7_digest_474 rfl h (fun r474 τ474 h => ?_)
          refine g_i2l (pc := 477) X dX7_digest_477 ?_
          refine g_ladd (pc := 478) X dX7_digest_478 ?_
          exact g_retMl (pc := 479) X hK hr hlk dX7_digest_479 h
        have L202 : ∀ (n : Nat) (y1_202 : Int64) (y3_202 : Int32), lq2 (F_X7_digest_202 τ56 (E_X7_digest_202 τ56 K)) n y1_202 y3_202 → GMl p l e ({ frames := 6, cells := 0, slots := 0, locals := 141 } : Room) s m args below meth c K 5 D (tyM cI) (wM cI a) A 202 [(0, .ref (a 0)), (1, .long y1_202), (3, .int y3_202)] [] τ56 := by
          intro n
          induction n with
          | zero =>
            intro y1_202 y3_202 h
            exact h.elim
          | succ n ih =>
            intro y1_202 y3_202 h
            have h : F_X7_digest_202 τ56 (E_X7_digest_202 τ56 K) (lq2 (F_X7_digest_202 τ56 (E_X7_digest_202 τ56 K)) n) y1_202 y3_202 := h
            generalize lq2 (F_X7_digest_202 τ56 (E_X7_digest_202 τ56 K)) n = rec202 at h ih
            refine g_iload_n (pc := 202) X rfl 2 rfl dX7_digest_202 ?_
            refine g_aload_n (pc := 203) X rfl 0 rfl dX7_digest_203 ?_
            refine fX7_107 (pc := 204) X hK hR k_isMod_0 dX7_digest_204 ?_
            refine g_icmp_ge (pc := 207) (tgt := 246) X (by decide) dX7_digest_207 (fun c_207 => ?_) (fun c_207 => ?_)
            · have h := ite_t c_207 h
              exact g_lv (X246 y1_202 h) [0, 1] rfl
            · have h := ite_f c_207 h
              refine g_iconst (pc := 210) X ic_0 dX7_digest_210 ?_
              refine g_istore (pc := 211) (lv' := [(4, .int (0 : Int32)), (0, .ref (a 0)), (1, .long y1_202), (3, .int y3_202)]) X (by decide) rfl dX7_digest_211 ?_
              obtain ⟨n213, h⟩ := h
              have X240 : ∀ (u1_240 : Int64), E_X7_digest_213 rec202 y3_202 u1_240 → GMl p l e ({ frames := 6, cells := 0, slots := 0, locals := 141 } : Room) s m args below meth c K 5 D (tyM cI) (wM cI a) A 240 [(0, .ref (a 0)), (1, .long u1_240), (3, .int y3_202)] [] τ56 := by
                intro u1_240 h
                refine g_iinc (pc := 240) (lv' := [(3, .int (y3_202 + (1 : Int32))), (0, .ref (a 0)), (1, .long u1_240)]) X 2 rfl rfl (by decide) rfl dX7_digest_240 ?_
                refine g_goto (pc := 243) (tgt := 202) X (by decide) dX7_digest_243 ?_
                exact g_lv (ih u1_240 (y3_202 + (1 : Int32)) h) [1, 2, 0] rfl
              have L213 : ∀ (n : Nat) (y1_213 : Int64) (y4_213 : Int32), lq2 (F_X7_digest_213 y3_202 τ56 (E_X7_digest_213 rec202 y3_202)) n y1_213 y4_213 → GMl p l e ({ frames := 6, cells := 0, slots := 0, locals := 141 } : Room) s m args below meth c K 5 D (tyM cI) (wM cI a) A 213 [(0, .ref (a 0)), (1, .long y1_213), (3, .int y3_202), (4, .int y4_213)] [] τ56 := by
                intro n
                induction n with
                | zero =>
                  intro y1_213 y4_213 h
                  exact h.elim
                | succ n ih =>
                  intro y1_213 y4_213 h
                  have h : F_X7_digest_213 y3_202 τ56 (E_X7_digest_213 rec202 y3_202) (lq2 (F_X7_digest_213 y3_202 τ56 (E_X7_digest_213 rec202 y3_202)) n) y1_213 y4_213 := h
                  refine g_iload (pc := 213) X 3 rfl dX7_digest_213 ?_
                  refine g_iconst (pc := 215) X ic_3 dX7_digest_215 ?_
                  refine g_icmp_ge (pc := 216) (tgt := 240) X (by decide) dX7_digest_216 (fun c_216 => ?_) (fun c_216 => ?_)
                  · have h := ite_t c_216 h
                    exact g_lv (X240 y1_213 h) [0, 1, 2] rfl
                  · have h := ite_f c_216 h
                    refine g_ldc2 (pc := 219) X kw5_41 dX7_digest_219 ?_
                    refine g_lload_n (pc := 222) X rfl 1 rfl dX7_digest_222 ?_
                    refine g_lmul (pc := 223) X dX7_digest_223 ?_
                    refine g_aload_n (pc := 224) X rfl 0 rfl dX7_digest_224 ?_
                    refine g_iload_n (pc := 225) X rfl 2 rfl dX7_digest_225 ?_
                    refine g_iload (pc := 226) X 3 rfl dX7_digest_226 ?_
                    refine g_cVPi (pc := 228) (As := [.int y3_202, .int y4_213]) X hK hR mi_X7_chordBy (c_X7_chordBy y3_202 y4_213 τ56 _) (wl_ate (oX7 (cI := cI) (a := a) k_isMod_0).1 ((oX7 (cI := cI) (a := a) k_isMod_0).2 _)) rfl rfl kw4_114 ⟨rfl, rfl⟩ ⟨Nat.le_of_ble_eq_true rfl, Nat.le_of_ble_eq_true rfl⟩ rfl (Nat.le_of_ble_eq_true rfl) dX7_digest_228 rfl h (fun r228 h => ?_)
                    refine g_i2l (pc := 231) X dX7_digest_231 ?_
                    refine g_ladd (pc := 232) X dX7_digest_232 ?_
                    refine g_topl (fun x1_233 ex1_233 => ?_)
                    have h := h x1_233 ex1_233
                    refine g_lstore_n (pc := 233) (lv' := [(1, .long x1_233), (0, .ref (a 0)), (3, .int y3_202), (4, .int y4_213)]) X rfl (by decide) rfl dX7_digest_233 ?_
                    refine g_iinc (pc := 234) (lv' := [(4, .int (y4_213 + (1 : Int32))), (1, .long x1_233), (0, .ref (a 0)), (3, .int y3_202)]) X 3 rfl rfl (by decide) rfl dX7_digest_234 ?_
                    refine g_goto (pc := 237) (tgt := 213) X (by decide) dX7_digest_237 ?_
                    exact g_lv (ih x1_233 (y4_213 + (1 : Int32)) h) [2, 1, 3, 0] rfl
              exact g_lv (L213 n213 y1_202 (0 : Int32) h) [1, 2, 3, 0] rfl
        exact g_lv (L202 n202 u1_200 (0 : Int32) h) [1, 2, 0] rfl
      have L139 : ∀ (n : Nat) (y1_139 : Int64) (y3_139 : Int32), lq2 (F_X7_digest_139 τ56 (E_X7_digest_139 τ56 K)) n y1_139 y3_139 → GMl p l e ({ frames := 6, cells := 0, slots := 0, locals := 141 } : Room) s m args below meth c K 5 D (tyM cI) (wM cI a) A 139 [(0, .ref (a 0)), (1, .long y1_139), (3, .int y3_139)] [] τ56 := by
        intro n
        induction n with
        | zero =>
          intro y1_139 y3_139 h
          exact h.elim
        | succ n ih =>
          intro y1_139 y3_139 h
          have h : F_X7_digest_139 τ56 (E_X7_digest_139 τ56 K) (lq2 (F_X7_digest_139 τ56 (E_X7_digest_139 τ56 K)) n) y1_139 y3_139 := h
          generalize lq2 (F_X7_digest_139 τ56 (E_X7_digest_139 τ56 K)) n = rec139 at h ih
          refine g_iload_n (pc := 139) X rfl 2 rfl dX7_digest_139 ?_
          refine g_aload_n (pc := 140) X rfl 0 rfl dX7_digest_140 ?_
          refine fX7_107 (pc := 141) X hK hR k_isMod_0 dX7_digest_141 ?_
          refine g_icmp_ge (pc := 144) (tgt := 200) X (by decide) dX7_digest_144 (fun c_144 => ?_) (fun c_144 => ?_)
          · have h := ite_t c_144 h
            exact g_lv (X200 y1_139 h) [0, 1] rfl
          · have h := ite_f c_144 h
            refine g_ldc2 (pc := 147) X kw5_41 dX7_digest_147 ?_
            refine g_lload_n (pc := 150) X rfl 1 rfl dX7_digest_150 ?_
            refine g_lmul (pc := 151) X dX7_digest_151 ?_
            refine g_aload_n (pc := 152) X rfl 0 rfl dX7_digest_152 ?_
            refine fX7_31 (pc := 153) X hK hR k_isMod_0 dX7_digest_153 ?_
            refine g_iload_n (pc := 156) X rfl 2 rfl dX7_digest_156 ?_
            obtain ⟨h_157, h⟩ := h
            refine aX7_bar (pc := 157) X hK hR k_isMod_0 h_157 dX7_digest_157 ?_
            refine g_i2l (pc := 158) X dX7_digest_158 ?_
            refine g_ladd (pc := 159) X dX7_digest_159 ?_
            refine g_topl (fun x1_160 ex1_160 => ?_)
            have h := h x1_160 ex1_160
            refine g_lstore_n (pc := 160) (lv' := [(1, .long x1_160), (0, .ref (a 0)), (3, .int y3_139)]) X rfl (by decide) rfl dX7_digest_160 ?_
            refine g_iconst (pc := 161) X ic_0 dX7_digest_161 ?_
            refine g_istore (pc := 162) (lv' := [(4, .int (0 : Int32)), (1, .long x1_160), (0, .ref (a 0)), (3, .int y3_139)]) X (by decide) rfl dX7_digest_162 ?_
            obtain ⟨n164, h⟩ := h
            have X194 : ∀ (u1_194 : Int64), E_X7_digest_164 rec139 y3_139 u1_194 → GMl p l e ({ frames := 6, cells := 0, slots := 0, locals := 141 } : Room) s m args below meth c K 5 D (tyM cI) (wM cI a) A 194 [(0, .ref (a 0)), (1, .long u1_194), (3, .int y3_139)] [] τ56 := by
              intro u1_194 h
              refine g_iinc (pc := 194) (lv' := [(3, .int (y3_139 + (1 : Int32))), (0, .ref (a 0)), (1, .long u1_194)]) X 2 rfl rfl (by decide) rfl dX7_digest_194 ?_
              refine g_goto (pc := 197) (tgt := 139) X (by decide) dX7_digest_197 ?_
              exact g_lv (ih u1_194 (y3_139 + (1 : Int32)) h) [1, 2, 0] rfl
            have L164 : ∀ (n : Nat) (y1_164 : Int64) (y4_164 : Int32), lq2 (F_X7_digest_164 τ56 y3_139 (E_X7_digest_164 rec139 y3_139)) n y1_164 y4_164 → GMl p l e ({ frames := 6, cells := 0, slots := 0, locals := 141 } : Room) s m args below meth c K 5 D (tyM cI) (wM cI a) A 164 [(0, .ref (a 0)), (1, .long y1_164), (3, .int y3_139), (4, .int y4_164)] [] τ56 := by
              intro n
              induction n with
              | zero =>
                intro y1_164 y4_164 h
                exact h.elim
              | succ n ih =>
                intro y1_164 y4_164 h
                have h : F_X7_digest_164 τ56 y3_139 (E_X7_digest_164 rec139 y3_139) (lq2 (F_X7_digest_164 τ56 y3_139 (E_X7_digest_164 rec139 y3_139)) n) y1_164 y4_164 := h
                refine g_iload (pc := 164) X 3 rfl dX7_digest_164 ?_
                refine g_aload_n (pc := 166) X rfl 0 rfl dX7_digest_166 ?_
                refine fX7_101 (pc := 167) X hK hR k_isMod_0 dX7_digest_167 ?_
                refine g_icmp_ge (pc := 170) (tgt := 194) X (by decide) dX7_digest_170 (fun c_170 => ?_) (fun c_170 => ?_)
                · have h := ite_t c_170 h
                  exact g_lv (X194 y1_164 h) [0, 1, 2] rfl
                · have h := ite_f c_170 h
                  refine g_ldc2 (pc := 173) X kw5_41 dX7_digest_173 ?_
                  refine g_lload_n (pc := 176) X rfl 1 rfl dX7_digest_176 ?_
                  refine g_lmul (pc := 177) X dX7_digest_177 ?_
                  refine g_aload_n (pc := 178) X rfl 0 rfl dX7_digest_178 ?_
                  refine g_iload (pc := 179) X 3 rfl dX7_digest_179 ?_
                  refine g_iload_n (pc := 181) X rfl 2 rfl dX7_digest_181 ?_
                  refine g_cVPi (pc := 182) (As := [.int y4_164, .int y3_139]) X hK hR mi_X7_noteOr (c_X7_noteOr y4_164 y3_139 τ56 _) (wl_ate (oX7 (cI := cI) (a := a) k_isMod_0).1 ((oX7 (cI := cI) (a := a) k_isMod_0).2 _)) rfl rfl kw4_98 ⟨rfl, rfl⟩ ⟨Nat.le_of_ble_eq_true rfl, Nat.le_of_ble_eq_true rfl⟩ rfl (Nat.le_of_ble_eq_true rfl) dX7_digest_182 rfl h (fun r182 h => ?_)
                  refine g_i2l (pc := 185) X dX7_digest_185 ?_
                  refine g_ladd (pc := 186) X dX7_digest_186 ?_
                  refine g_topl (fun x1_187 ex1_187 => ?_)
                  have h := h x1_187 ex1_187
                  refine g_lstore_n (pc := 187) (lv' := [(1, .long x1_187), (0, .ref (a 0)), (3, .int y3_139), (4, .int y4_164)]) X rfl (by decide) rfl dX7_digest_187 ?_
                  refine g_iinc (pc := 188) (lv' := [(4, .int (y4_164 + (1 : Int32))), (1, .long x1_187), (0, .ref (a 0)), (3, .int y3_139)]) X 3 rfl rfl (by decide) rfl dX7_digest_188 ?_
                  refine g_goto (pc := 191) (tgt := 164) X (by decide) dX7_digest_191 ?_
                  exact g_lv (ih x1_187 (y4_164 + (1 : Int32)) h) [2, 1, 3, 0] rfl
            exact g_lv (L164 n164 x1_160 (0 : Int32) h) [2, 1, 3, 0] rfl
      exact g_lv (L139 n139 u1_137 (0 : Int32) h) [1, 2, 0] rfl
    have L61 : ∀ (n : Nat) (y1_61 : Int64) (y3_61 : Int32), lq2 (F_X7_digest_61 τ56 (E_X7_digest_61 τ56 K)) n y1_61 y3_61 → GMl p l e ({ frames := 6, cells := 0, slots := 0, locals := 141 } : Room) s m args below meth c K 5 D (tyM cI) (wM cI a) A 61 [(0, .ref (a 0)), (1, .long y1_61), (3, .int y3_61)] [] τ56 := by
      intro n
      induction n with
      | zero =>
        intro y1_61 y3_61 h
        exact h.elim
      | succ n ih =>
        intro y1_61 y3_61 h
        have h : F_X7_digest_61 τ56 (E_X7_digest_61 τ56 K) (lq2 (F_X7_digest_61 τ56 (E_X7_digest_61 τ56 K)) n) y1_61 y3_61 := h
        generalize lq2 (F_X7_digest_61 τ56 (E_X7_digest_61 τ56 K)) n = rec61 at h ih
        refine g_iload_n (pc := 61) X rfl 2 rfl dX7_digest_61 ?_
        refine g_aload_n (pc := 62) X rfl 0 rfl dX7_digest_62 ?_
        refine fX7_101 (pc := 63) X hK hR k_isMod_0 dX7_digest_63 ?_
        refine g_icmp_ge (pc := 66) (tgt := 137) X (by decide) dX7_digest_66 (fun c_66 => ?_) (fun c_66 => ?_)
        · have h := ite_t c_66 h
          exact g_lv (X137 y1_61 h) [0, 1] rfl
        · have h := ite_f c_66 h
          refine g_iconst (pc := 69) X ic_0 dX7_digest_69 ?_
          refine g_istore (pc := 70) (lv' := [(4, .int (0 : Int32)), (0, .ref (a 0)), (1, .long y1_61), (3, .int y3_61)]) X (by decide) rfl dX7_digest_70 ?_
          obtain ⟨n72, h⟩ := h
          have X103 : ∀ (u1_103 : Int64), E_X7_digest_72 y3_61 τ56 rec61 u1_103 → GMl p l e ({ frames := 6, cells := 0, slots := 0, locals := 141 } : Room) s m args below meth c K 5 D (tyM cI) (wM cI a) A 103 [(0, .ref (a 0)), (1, .long u1_103), (3, .int y3_61)] [] τ56 := by
            intro u1_103 h
            refine g_ldc2 (pc := 103) X kw5_41 dX7_digest_103 ?_
            refine g_lload_n (pc := 106) X rfl 1 rfl dX7_digest_106 ?_
            refine g_lmul (pc := 107) X dX7_digest_107 ?_
            refine g_aload_n (pc := 108) X rfl 0 rfl dX7_digest_108 ?_
            refine fX7_40 (pc := 109) X hK hR k_isMod_0 dX7_digest_109 ?_
            refine g_iload_n (pc := 112) X rfl 2 rfl dX7_digest_112 ?_
            obtain ⟨h_113, h⟩ := h
            refine aX7_near (pc := 113) X hK hR k_isMod_0 h_113 dX7_digest_113 ?_
            refine g_i2l (pc := 114) X dX7_digest_114 ?_
            refine g_ladd (pc := 115) X dX7_digest_115 ?_
            refine g_topl (fun x1_116 ex1_116 => ?_)
            have h := h x1_116 ex1_116
            refine g_lstore_n (pc := 116) (lv' := [(1, .long x1_116), (0, .ref (a 0)), (3, .int y3_61)]) X rfl (by decide) rfl dX7_digest_116 ?_
            refine g_ldc2 (pc := 117) X kw5_41 dX7_digest_117 ?_
            refine g_lload_n (pc := 120) X rfl 0 rfl dX7_digest_120 ?_
            refine g_lmul (pc := 121) X dX7_digest_121 ?_
            refine g_aload_n (pc := 122) X rfl 1 rfl dX7_digest_122 ?_
            refine fX7_43 (pc := 123) X hK hR k_isMod_0 dX7_digest_123 ?_
            refine g_iload_n (pc := 126) X rfl 2 rfl dX7_digest_126 ?_
            obtain ⟨h_127, h⟩ := h
            refine aX7_by (pc := 127) X hK hR k_isMod_0 h_127 dX7_digest_127 ?_
            refine g_i2l (pc := 128) X dX7_digest_128 ?_
            refine g_ladd (pc := 129) X dX7_digest_129 ?_
            refine g_topl (fun x1_130 ex1_130 => ?_)
            have h := h x1_130 ex1_130
            refine g_lstore_n (pc := 130) (lv' := [(1, .long x1_130), (0, .ref (a 0)), (3, .int y3_61)]) X rfl (by decide) rfl dX7_digest_130 ?_
            refine g_iinc (pc := 131) (lv' := [(3, .int (y3_61 + (1 : Int32))), (1, .long x1_130), (0, .ref (a 0))]) X 2 rfl rfl (by decide) rfl dX7_digest_131 ?_
            refine g_goto (pc := 134) (tgt := 61) X (by decide) dX7_digest_134 ?_
            exact g_lv (ih x1_130 (y3_61 + (1 : Int32)) h) [2, 1, 0] rfl
          have L72 : ∀ (n : Nat) (y1_72 : Int64) (y4_72 : Int32), lq2 (F_X7_digest_72 y3_61 τ56 (E_X7_digest_72 y3_61 τ56 rec61)) n y1_72 y4_72 → GMl p l e ({ frames := 6, cells := 0, slots := 0, locals := 141 } : Room) s m args below meth c K 5 D (tyM cI) (wM cI a) A 72 [(0, .ref (a 0)), (1, .long y1_72), (3, .int y3_61), (4, .int y4_72)] [] τ56 := by
            intro n
            induction n with
            | zero =>
              intro y1_72 y4_72 h
              exact h.elim
            | succ n ih =>
              intro y1_72 y4_72 h
              have h : F_X7_digest_72 y3_61 τ56 (E_X7_digest_72 y3_61 τ56 rec61) (lq2 (F_X7_digest_72 y3_61 τ56 (E_X7_digest_72 y3_61 τ56 rec61)) n) y1_72 y4_72 := h
              refine g_iload (pc := 72) X 3 rfl dX7_digest_72 ?_
              refine g_iconst (pc := 74) X ic_4 dX7_digest_74 ?_
              refine g_icmp_ge (pc := 75) (tgt := 103) X (by decide) dX7_digest_75 (fun c_75 => ?_) (fun c_75 => ?_)
              · have h := ite_t c_75 h
                exact g_lv (X103 y1_72 h) [0, 1, 2] rfl
              · have h := ite_f c_75 h
                refine g_ldc2 (pc := 78) X kw5_41 dX7_digest_78 ?_
                refine g_lload_n (pc := 81) X rfl 1 rfl dX7_digest_81 ?_
                refine g_lmul (pc := 82) X dX7_digest_82 ?_
                refine g_aload_n (pc := 83) X rfl 0 rfl dX7_digest_83 ?_
                refine fX7_28 (pc := 84) X hK hR k_isMod_0 dX7_digest_84 ?_
                refine g_iconst (pc := 87) X ic_4 dX7_digest_87 ?_
                refine g_iload_n (pc := 88) X rfl 2 rfl dX7_digest_88 ?_
                refine g_imul (pc := 89) X dX7_digest_89 ?_
                refine g_iload (pc := 90) X 3 rfl dX7_digest_90 ?_
                refine g_iadd (pc := 92) X dX7_digest_92 ?_
                obtain ⟨h_93, h⟩ := h
                refine aX7_singer (pc := 93) X hK hR k_isMod_0 h_93 dX7_digest_93 ?_
                refine g_i2l (pc := 94) X dX7_digest_94 ?_
                refine g_ladd (pc := 95) X dX7_digest_95 ?_
                refine g_topl (fun x1_96 ex1_96 => ?_)
                have h := h x1_96 ex1_96
                refine g_lstore_n (pc := 96) (lv' := [(1, .long x1_96), (0, .ref (a 0)), (3, .int y3_61), (4, .int y4_72)]) X rfl (by decide) rfl dX7_digest_96 ?_
                refine g_iinc (pc := 97) (lv' := [(4, .int (y4_72 + (1 : Int32))), (1, .long x1_96), (0, .ref (a 0)), (3, .int y3_61)]) X 3 rfl rfl (by decide) rfl dX7_digest_97 ?_
                refine g_goto (pc := 100) (tgt := 72) X (by decide) dX7_digest_100 ?_
                exact g_lv (ih x1_96 (y4_72 + (1 : Int32)) h) [2, 1, 3, 0] rfl
          exact g_lv (L72 n72 y1_61 (0 : Int32) h) [1, 2, 3, 0] rfl
    exact g_lv (L61 n61 x1_54 (0 : Int32) h) [2, 1, 0] rfl
  have L6 : ∀ (n : Nat) (y1_6 : Int64) (y3_6 : Int32) (ρ6 : Sg), lq3 (F_X7_digest_6 (E_X7_digest_6 K)) n y1_6 y3_6 ρ6 → GMl p l e ({ frames := 6, cells := 0, slots := 0, locals := 141 } : Room) s m args below meth c K 5 D (tyM cI) (wM cI a) A 6 [(0, .ref (a 0)), (1, .long y1_6), (3, .int y3_6)] [] ρ6 := by
    intro n
    induction n with
    | zero =>
      intro y1_6 y3_6 ρ6 h
      exact h.elim
    | succ n ih =>
      intro y1_6 y3_6 ρ6 h
      have h : F_X7_digest_6 (E_X7_digest_6 K) (lq3 (F_X7_digest_6 (E_X7_digest_6 K)) n) y1_6 y3_6 ρ6 := h
      refine g_iload_n (pc := 6) X rfl 2 rfl dX7_digest_6 ?_
      refine g_bipush (pc := 7) X bp_8 dX7_digest_7 ?_
      refine g_icmp_ge (pc := 9) (tgt := 31) X (by decide) dX7_digest_9 (fun c_9 => ?_) (fun c_9 => ?_)
      · have h := ite_t c_9 h
        exact g_lv (X31 y1_6 ρ6 h) [0, 1] rfl
      · have h := ite_f c_9 h
        refine g_ldc2 (pc := 12) X kw5_41 dX7_digest_12 ?_
        refine g_lload_n (pc := 15) X rfl 1 rfl dX7_digest_15 ?_
        refine g_lmul (pc := 16) X dX7_digest_16 ?_
        refine g_aload_n (pc := 17) X rfl 0 rfl dX7_digest_17 ?_
        refine g_iload_n (pc := 18) X rfl 2 rfl dX7_digest_18 ?_
        refine g_cVMi (pc := 19) (As := [.int y3_6]) X hK hX hok hA mi_X7_count (c_X7_count y3_6 ρ6 _) (fun _ => ⟨_, wl_ate (oX7 (cI := cI) (a := a) k_isMod_0).1 ((oX7 (cI := cI) (a := a) k_isMod_0).2 _)⟩) rfl rfl kw5_42 ⟨rfl, rfl⟩ ⟨Nat.le_of_ble_eq_true rfl, Nat.le_of_ble_eq_true rfl⟩ rfl (Nat.le_of_ble_eq_true rfl) dX7_digest_19 rfl h (fun r19 τ19 h => ?_)
        refine g_i2l (pc := 22) X dX7_digest_22 ?_
        refine g_ladd (pc := 23) X dX7_digest_23 ?_
        refine g_topl (fun x1_24 ex1_24 => ?_)
        have h := h x1_24 ex1_24
        refine g_lstore_n (pc := 24) (lv' := [(1, .long x1_24), (0, .ref (a 0)), (3, .int y3_6)]) X rfl (by decide) rfl dX7_digest_24 ?_
        refine g_iinc (pc := 25) (lv' := [(3, .int (y3_6 + (1 : Int32))), (1, .long x1_24), (0, .ref (a 0))]) X 2 rfl rfl (by decide) rfl dX7_digest_25 ?_
        refine g_goto (pc := 28) (tgt := 6) X (by decide) dX7_digest_28 ?_
        exact g_lv (ih x1_24 (y3_6 + (1 : Int32)) τ19 h) [2, 1, 0] rfl
  exact g_lv (L6 n6 (17 : Int64) (0 : Int32) σ h) [2, 1, 0] rfl
end
