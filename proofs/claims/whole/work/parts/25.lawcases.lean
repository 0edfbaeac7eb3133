theorem kHX_fu {E : JE} {n : Nat} (h : kHX E) : kHX (kFu E n) := h
set_option maxRecDepth 100000 in
set_option maxHeartbeats 1000000 in
theorem case_0 {E0 : JE} {nm : String} {Z : List Frame → Array Value → State → State → Prop} {b L i : Nat} {xs : Nat → Int32} {Inv : Wd → Prop} (hXt : kHX E0) (hX : kXS (kFu E0 140) b L xs) (hL : L ≤ 3072) (hi6 : i + 6 ≤ L) (hS : S_feed Inv) (kk : ∀ σ, Inv σ → KG (kFu E0 140) mL_law room_1 nm 0 1566 [some (.inr 2000), some (.inr 0), some (.inr 120), some (.inl (nI i))] [] σ 140 6165 Z) (σ : Wd) (hI : Inv σ) : KG (kFu E0 140) mL_law room_1 nm 0 256 [some (.inr 2000), some (.inr 0), some (.inr 120), some (.inl (nI i))] [] σ 140 6165 Z := by
  refine kg_aload_n dL_law_256 (pc' := 257) rfl rfl rfl ?_
  refine kg_aload_n dL_law_257 (pc' := 258) rfl rfl rfl ?_
  refine kg_iload_n dL_law_258 (pc' := 259) rfl rfl rfl ?_
  refine kg_iconst dL_law_259 (pc' := 260) rfl kc_1 ?_
  refine kg_iadd dL_law_260 (pc' := 261) rfl ?_
  refine kg_sld hX (law_in 1 (by decide) hi6 hL) dL_law_261 (pc' := 262) rfl ?_
  refine kg_aload_n dL_law_262 (pc' := 263) rfl rfl rfl ?_
  refine kg_iload_n dL_law_263 (pc' := 264) rfl rfl rfl ?_
  refine kg_iconst dL_law_264 (pc' := 265) rfl kc_2 ?_
  refine kg_iadd dL_law_265 (pc' := 266) rfl ?_
  refine kg_sld hX (law_in 2 (by decide) hi6 hL) dL_law_266 (pc' := 267) rfl ?_
  refine kg_aload_n dL_law_267 (pc' := 268) rfl rfl rfl ?_
  refine kg_iload_n dL_law_268 (pc' := 269) rfl rfl rfl ?_
  refine kg_iconst dL_law_269 (pc' := 270) rfl kc_3 ?_
  refine kg_iadd dL_law_270 (pc' := 271) rfl ?_
  refine kg_sld hX (law_in 3 (by decide) hi6 hL) dL_law_271 (pc' := 272) rfl ?_
  refine kg_aload_n dL_law_272 (pc' := 273) rfl rfl rfl ?_
  refine kg_iload_n dL_law_273 (pc' := 274) rfl rfl rfl ?_
  refine kg_iconst dL_law_274 (pc' := 275) rfl kc_4 ?_
  refine kg_iadd dL_law_275 (pc' := 276) rfl ?_
  refine kg_sld hX (law_in 4 (by decide) hi6 hL) dL_law_276 (pc' := 277) rfl ?_
  refine kg_aload_n dL_law_277 (pc' := 278) rfl rfl rfl ?_
  refine kg_iload_n dL_law_278 (pc' := 279) rfl rfl rfl ?_
  refine kg_iconst dL_law_279 (pc' := 280) rfl kc_5 ?_
  refine kg_iadd dL_law_280 (pc' := 281) rfl ?_
  refine kg_sld hX (law_in 5 (by decide) hi6 hL) dL_law_281 (pc' := 282) rfl ?_
  obtain ⟨r, σ1, σ2, h10, h11, hI2⟩ := hS σ (xs (nI i + 1).toNatClampNeg) (xs (nI i + 2).toNatClampNeg) (xs (nI i + 3).toNatClampNeg) (xs (nI i + 4).toNatClampNeg) (xs (nI i + 5).toNatClampNeg) hI
  refine kgVi (as := [.inl (xs (nI i + 1).toNatClampNeg), .inl (xs (nI i + 2).toNatClampNeg), .inl (xs (nI i + 3).toNatClampNeg), .inl (xs (nI i + 4).toNatClampNeg), .inl (xs (nI i + 5).toNatClampNeg)]) (st := []) l_RL_13 (m_X10_feed (kOk_fu (by decide)) σ (xs (nI i + 1).toNatClampNeg) (xs (nI i + 2).toNatClampNeg) (xs (nI i + 3).toNatClampNeg) (xs (nI i + 4).toNatClampNeg) (xs (nI i + 5).toNatClampNeg) h10) rfl (Nat.le_of_ble_eq_true rfl : 0 < 140) rfl ⟨⟨rfl, rfl⟩, Nat.le_of_ble_eq_true rfl, Nat.le_of_ble_eq_true rfl⟩ ⟨Nat.le_of_ble_eq_true rfl, Nat.le_of_ble_eq_true rfl⟩ (Nat.le_of_ble_eq_true rfl) dL_law_282 (pc' := 285) rfl ?_
  refine kg_aload_n dL_law_285 (pc' := 286) rfl rfl rfl ?_
  refine kg_aload_n dL_law_286 (pc' := 287) rfl rfl rfl ?_
  refine kg_iload_n dL_law_287 (pc' := 288) rfl rfl rfl ?_
  refine kg_iconst dL_law_288 (pc' := 289) rfl kc_1 ?_
  refine kg_iadd dL_law_289 (pc' := 290) rfl ?_
  refine kg_sld hX (law_in 1 (by decide) hi6 hL) dL_law_290 (pc' := 291) rfl ?_
  refine kg_aload_n dL_law_291 (pc' := 292) rfl rfl rfl ?_
  refine kg_iload_n dL_law_292 (pc' := 293) rfl rfl rfl ?_
  refine kg_iconst dL_law_293 (pc' := 294) rfl kc_2 ?_
  refine kg_iadd dL_law_294 (pc' := 295) rfl ?_
  refine kg_sld hX (law_in 2 (by decide) hi6 hL) dL_law_295 (pc' := 296) rfl ?_
  refine kg_aload_n dL_law_296 (pc' := 297) rfl rfl rfl ?_
  refine kg_iload_n dL_law_297 (pc' := 298) rfl rfl rfl ?_
  refine kg_iconst dL_law_298 (pc' := 299) rfl kc_3 ?_
  refine kg_iadd dL_law_299 (pc' := 300) rfl ?_
  refine kg_sld hX (law_in 3 (by decide) hi6 hL) dL_law_300 (pc' := 301) rfl ?_
  refine kg_aload_n dL_law_301 (pc' := 302) rfl rfl rfl ?_
  refine kg_iload_n dL_law_302 (pc' := 303) rfl rfl rfl ?_
  refine kg_iconst dL_law_303 (pc' := 304) rfl kc_4 ?_
  refine kg_iadd dL_law_304 (pc' := 305) rfl ?_
  refine kg_sld hX (law_in 4 (by decide) hi6 hL) dL_law_305 (pc' := 306) rfl ?_
  refine kg_aload_n dL_law_306 (pc' := 307) rfl rfl rfl ?_
  refine kg_iload_n dL_law_307 (pc' := 308) rfl rfl rfl ?_
  refine kg_iconst dL_law_308 (pc' := 309) rfl kc_5 ?_
  refine kg_iadd dL_law_309 (pc' := 310) rfl ?_
  refine kg_sld hX (law_in 5 (by decide) hi6 hL) dL_law_310 (pc' := 311) rfl ?_
  refine kgVi (as := [.inl (xs (nI i + 1).toNatClampNeg), .inl (xs (nI i + 2).toNatClampNeg), .inl (xs (nI i + 3).toNatClampNeg), .inl (xs (nI i + 4).toNatClampNeg), .inl (xs (nI i + 5).toNatClampNeg)]) (st := [.inl r]) l_RL_17 (m_X11_feed (kOk_fu (by decide)) σ1 (xs (nI i + 1).toNatClampNeg) (xs (nI i + 2).toNatClampNeg) (xs (nI i + 3).toNatClampNeg) (xs (nI i + 4).toNatClampNeg) (xs (nI i + 5).toNatClampNeg) h11) rfl (Nat.le_of_ble_eq_true rfl : 120 < 140) rfl ⟨⟨rfl, rfl⟩, Nat.le_of_ble_eq_true rfl, Nat.le_of_ble_eq_true rfl⟩ ⟨Nat.le_of_ble_eq_true rfl, Nat.le_of_ble_eq_true rfl⟩ (Nat.le_of_ble_eq_true rfl) dL_law_311 (pc' := 314) rfl ?_
  refine kg_icmp_eq dL_law_314 (tgt := 1566) rfl (pc' := 317) rfl (fun _ => ?_) (fun c => absurd rfl c)
  exact kk _ hI2
set_option maxRecDepth 100000 in
set_option maxHeartbeats 1000000 in
theorem case_1 {E0 : JE} {nm : String} {Z : List Frame → Array Value → State → State → Prop} {b L i : Nat} {xs : Nat → Int32} {Inv : Wd → Prop} (hXt : kHX E0) (hX : kXS (kFu E0 140) b L xs) (hL : L ≤ 3072) (hi6 : i + 6 ≤ L) (hS : S_back Inv) (kk : ∀ σ, Inv σ → KG (kFu E0 140) mL_law room_1 nm 0 1566 [some (.inr 2000), some (.inr 0), some (.inr 120), some (.inl (nI i))] [] σ 140 6165 Z) (σ : Wd) (hI : Inv σ) : KG (kFu E0 140) mL_law room_1 nm 0 319 [some (.inr 2000), some (.inr 0), some (.inr 120), some (.inl (nI i))] [] σ 140 6165 Z := by
  refine kg_aload_n dL_law_319 (pc' := 320) rfl rfl rfl ?_
  refine kg_aload_n dL_law_320 (pc' := 321) rfl rfl rfl ?_
  refine kg_iload_n dL_law_321 (pc' := 322) rfl rfl rfl ?_
  refine kg_iconst dL_law_322 (pc' := 323) rfl kc_1 ?_
  refine kg_iadd dL_law_323 (pc' := 324) rfl ?_
  refine kg_sld hX (law_in 1 (by decide) hi6 hL) dL_law_324 (pc' := 325) rfl ?_
  obtain ⟨r, σ1, σ2, h10, h11, hI2⟩ := hS σ (xs (nI i + 1).toNatClampNeg) hI
  refine kgVi (as := [.inl (xs (nI i + 1).toNatClampNeg)]) (st := []) l_RL_18 (m_X10_back (kOk_fu (by decide)) σ (xs (nI i + 1).toNatClampNeg) h10) rfl (Nat.le_of_ble_eq_true rfl : 0 < 140) rfl ⟨⟨rfl, rfl⟩, Nat.le_of_ble_eq_true rfl, Nat.le_of_ble_eq_true rfl⟩ ⟨Nat.le_of_ble_eq_true rfl, Nat.le_of_ble_eq_true rfl⟩ (Nat.le_of_ble_eq_true rfl) dL_law_325 (pc' := 328) rfl ?_
  refine kg_aload_n dL_law_328 (pc' := 329) rfl rfl rfl ?_
  refine kg_aload_n dL_law_329 (pc' := 330) rfl rfl rfl ?_
  refine kg_iload_n dL_law_330 (pc' := 331) rfl rfl rfl ?_
  refine kg_iconst dL_law_331 (pc' := 332) rfl kc_1 ?_
  refine kg_iadd dL_law_332 (pc' := 333) rfl ?_
  refine kg_sld hX (law_in 1 (by decide) hi6 hL) dL_law_333 (pc' := 334) rfl ?_
  refine kgVi (as := [.inl (xs (nI i + 1).toNatClampNeg)]) (st := [.inl r]) l_RL_22 (m_X11_back (kOk_fu (by decide)) σ1 (xs (nI i + 1).toNatClampNeg) h11) rfl (Nat.le_of_ble_eq_true rfl : 120 < 140) rfl ⟨⟨rfl, rfl⟩, Nat.le_of_ble_eq_true rfl, Nat.le_of_ble_eq_true rfl⟩ ⟨Nat.le_of_ble_eq_true rfl, Nat.le_of_ble_eq_true rfl⟩ (Nat.le_of_ble_eq_true rfl) dL_law_334 (pc' := 337) rfl ?_
  refine kg_icmp_eq dL_law_337 (tgt := 1566) rfl (pc' := 340) rfl (fun _ => ?_) (fun c => absurd rfl c)
  exact kk _ hI2
set_option maxRecDepth 100000 in
set_option maxHeartbeats 1000000 in
theorem case_2 {E0 : JE} {nm : String} {Z : List Frame → Array Value → State → State → Prop} {b L i : Nat} {xs : Nat → Int32} {Inv : Wd → Prop} (hXt : kHX E0) (hX : kXS (kFu E0 140) b L xs) (hL : L ≤ 3072) (hi6 : i + 6 ≤ L) (hS : S_text Inv) (kk : ∀ σ, Inv σ → KG (kFu E0 140) mL_law room_1 nm 0 1566 [some (.inr 2000), some (.inr 0), some (.inr 120), some (.inl (nI i))] [] σ 140 6165 Z) (σ : Wd) (hI : Inv σ) : KG (kFu E0 140) mL_law room_1 nm 0 342 [some (.inr 2000), some (.inr 0), some (.inr 120), some (.inl (nI i))] [] σ 140 6165 Z := by
  refine kg_aload_n dL_law_342 (pc' := 343) rfl rfl rfl ?_
  obtain ⟨r, σ1, σ2, h10, h11, hI2⟩ := hS σ hI
  refine kgVi (as := []) (st := []) l_RL_23 (m_X10_text (kOk_fu (by decide)) (kHX_fu hXt) σ h10) rfl (Nat.le_of_ble_eq_true rfl : 0 < 140) rfl ⟨⟨rfl, rfl⟩, Nat.le_of_ble_eq_true rfl, Nat.le_of_ble_eq_true rfl⟩ ⟨Nat.le_of_ble_eq_true rfl, Nat.le_of_ble_eq_true rfl⟩ (Nat.le_of_ble_eq_true rfl) dL_law_343 (pc' := 346) rfl ?_
  refine kg_aload_n dL_law_346 (pc' := 347) rfl rfl rfl ?_
  refine kgVi (as := []) (st := [.inl r]) l_RL_27 (m_X11_text (kOk_fu (by decide)) σ1 h11) rfl (Nat.le_of_ble_eq_true rfl : 120 < 140) rfl ⟨⟨rfl, rfl⟩, Nat.le_of_ble_eq_true rfl, Nat.le_of_ble_eq_true rfl⟩ ⟨Nat.le_of_ble_eq_true rfl, Nat.le_of_ble_eq_true rfl⟩ (Nat.le_of_ble_eq_true rfl) dL_law_347 (pc' := 350) rfl ?_
  refine kg_icmp_eq dL_law_350 (tgt := 1566) rfl (pc' := 353) rfl (fun _ => ?_) (fun c => absurd rfl c)
  exact kk _ hI2
set_option maxRecDepth 100000 in
set_option maxHeartbeats 1000000 in
theorem case_3 {E0 : JE} {nm : String} {Z : List Frame → Array Value → State → State → Prop} {b L i : Nat} {xs : Nat → Int32} {Inv : Wd → Prop} (hXt : kHX E0) (hX : kXS (kFu E0 140) b L xs) (hL : L ≤ 3072) (hi6 : i + 6 ≤ L) (hS : S_generate Inv) (kk : ∀ σ, Inv σ → KG (kFu E0 140) mL_law room_1 nm 0 1566 [some (.inr 2000), some (.inr 0), some (.inr 120), some (.inl (nI i))] [] σ 140 6165 Z) (σ : Wd) (hI : Inv σ) : KG (kFu E0 140) mL_law room_1 nm 0 355 [some (.inr 2000), some (.inr 0), some (.inr 120), some (.inl (nI i))] [] σ 140 6165 Z := by
  refine kg_aload_n dL_law_355 (pc' := 356) rfl rfl rfl ?_
  refine kg_aload_n dL_law_356 (pc' := 357) rfl rfl rfl ?_
  refine kg_iload_n dL_law_357 (pc' := 358) rfl rfl rfl ?_
  refine kg_iconst dL_law_358 (pc' := 359) rfl kc_1 ?_
  refine kg_iadd dL_law_359 (pc' := 360) rfl ?_
  refine kg_sld hX (law_in 1 (by decide) hi6 hL) dL_law_360 (pc' := 361) rfl ?_
  obtain ⟨r, σ1, σ2, h10, h11, hI2⟩ := hS σ (xs (nI i + 1).toNatClampNeg) hI
  refine kgVi (as := [.inl (xs (nI i + 1).toNatClampNeg)]) (st := []) l_RL_28 (m_X10_generate (kOk_fu (by decide)) σ (xs (nI i + 1).toNatClampNeg) h10) rfl (Nat.le_of_ble_eq_true rfl : 0 < 140) rfl ⟨⟨rfl, rfl⟩, Nat.le_of_ble_eq_true rfl, Nat.le_of_ble_eq_true rfl⟩ ⟨Nat.le_of_ble_eq_true rfl, Nat.le_of_ble_eq_true rfl⟩ (Nat.le_of_ble_eq_true rfl) dL_law_361 (pc' := 364) rfl ?_
  refine kg_aload_n dL_law_364 (pc' := 365) rfl rfl rfl ?_
  refine kg_aload_n dL_law_365 (pc' := 366) rfl rfl rfl ?_
  refine kg_iload_n dL_law_366 (pc' := 367) rfl rfl rfl ?_
  refine kg_iconst dL_law_367 (pc' := 368) rfl kc_1 ?_
  refine kg_iadd dL_law_368 (pc' := 369) rfl ?_
  refine kg_sld hX (law_in 1 (by decide) hi6 hL) dL_law_369 (pc' := 370) rfl ?_
  refine kgVi (as := [.inl (xs (nI i + 1).toNatClampNeg)]) (st := [.inl r]) l_RL_31 (m_X11_generate (kOk_fu (by decide)) σ1 (xs (nI i + 1).toNatClampNeg) h11) rfl (Nat.le_of_ble_eq_true rfl : 120 < 140) rfl ⟨⟨rfl, rfl⟩, Nat.le_of_ble_eq_true rfl, Nat.le_of_ble_eq_true rfl⟩ ⟨Nat.le_of_ble_eq_true rfl, Nat.le_of_ble_eq_true rfl⟩ (Nat.le_of_ble_eq_true rfl) dL_law_370 (pc' := 373) rfl ?_
  refine kg_icmp_eq dL_law_373 (tgt := 1566) rfl (pc' := 376) rfl (fun _ => ?_) (fun c => absurd rfl c)
  exact kk _ hI2
set_option maxRecDepth 100000 in
set_option maxHeartbeats 1000000 in
theorem case_4 {E0 : JE} {nm : String} {Z : List Frame → Array Value → State → State → Prop} {b L i : Nat} {xs : Nat → Int32} {Inv : Wd → Prop} (hXt : kHX E0) (hX : kXS (kFu E0 140) b L xs) (hL : L ≤ 3072) (hi6 : i + 6 ≤ L) (hS : S_drop Inv) (kk : ∀ σ, Inv σ → KG (kFu E0 140) mL_law room_1 nm 0 1566 [some (.inr 2000), some (.inr 0), some (.inr 120), some (.inl (nI i))] [] σ 140 6165 Z) (σ : Wd) (hI : Inv σ) : KG (kFu E0 140) mL_law room_1 nm 0 378 [some (.inr 2000), some (.inr 0), some (.inr 120), some (.inl (nI i))] [] σ 140 6165 Z := by
  refine kg_aload_n dL_law_378 (pc' := 379) rfl rfl rfl ?_
  refine kg_aload_n dL_law_379 (pc' := 380) rfl rfl rfl ?_
  refine kg_iload_n dL_law_380 (pc' := 381) rfl rfl rfl ?_
  refine kg_iconst dL_law_381 (pc' := 382) rfl kc_1 ?_
  refine kg_iadd dL_law_382 (pc' := 383) rfl ?_
  refine kg_sld hX (law_in 1 (by decide) hi6 hL) dL_law_383 (pc' := 384) rfl ?_
  obtain ⟨r, σ1, σ2, h10, h11, hI2⟩ := hS σ (xs (nI i + 1).toNatClampNeg) hI
  refine kgVz (as := [.inl (xs (nI i + 1).toNatClampNeg)]) (st := []) l_RL_32 (m_X10_drop (kOk_fu (by decide)) σ (xs (nI i + 1).toNatClampNeg) h10) rfl (Nat.le_of_ble_eq_true rfl : 0 < 140) rfl ⟨⟨rfl, rfl⟩, Nat.le_of_ble_eq_true rfl, Nat.le_of_ble_eq_true rfl⟩ ⟨Nat.le_of_ble_eq_true rfl, Nat.le_of_ble_eq_true rfl⟩ (Nat.le_of_ble_eq_true rfl) dL_law_384 (pc' := 387) rfl ?_
  refine kg_aload_n dL_law_387 (pc' := 388) rfl rfl rfl ?_
  refine kg_aload_n dL_law_388 (pc' := 389) rfl rfl rfl ?_
  refine kg_iload_n dL_law_389 (pc' := 390) rfl rfl rfl ?_
  refine kg_iconst dL_law_390 (pc' := 391) rfl kc_1 ?_
  refine kg_iadd dL_law_391 (pc' := 392) rfl ?_
  refine kg_sld hX (law_in 1 (by decide) hi6 hL) dL_law_392 (pc' := 393) rfl ?_
  refine kgVz (as := [.inl (xs (nI i + 1).toNatClampNeg)]) (st := [.inl r]) l_RL_36 (m_X11_drop (kOk_fu (by decide)) σ1 (xs (nI i + 1).toNatClampNeg) h11) rfl (Nat.le_of_ble_eq_true rfl : 120 < 140) rfl ⟨⟨rfl, rfl⟩, Nat.le_of_ble_eq_true rfl, Nat.le_of_ble_eq_true rfl⟩ ⟨Nat.le_of_ble_eq_true rfl, Nat.le_of_ble_eq_true rfl⟩ (Nat.le_of_ble_eq_true rfl) dL_law_393 (pc' := 396) rfl ?_
  refine kg_icmp_eq dL_law_396 (tgt := 1566) rfl (pc' := 399) rfl (fun _ => ?_) (fun c => absurd rfl c)
  exact kk _ hI2
set_option maxRecDepth 100000 in
set_option maxHeartbeats 1000000 in
theorem case_5 {E0 : JE} {nm : String} {Z : List Frame → Array Value → State → State → Prop} {b L i : Nat} {xs : Nat → Int32} {Inv : Wd → Prop} (hXt : kHX E0) (hX : kXS (kFu E0 140) b L xs) (hL : L ≤ 3072) (hi6 : i + 6 ≤ L) (hS : S_change Inv) (kk : ∀ σ, Inv σ → KG (kFu E0 140) mL_law room_1 nm 0 1566 [some (.inr 2000), some (.inr 0), some (.inr 120), some (.inl (nI i))] [] σ 140 6165 Z) (σ : Wd) (hI : Inv σ) : KG (kFu E0 140) mL_law room_1 nm 0 401 [some (.inr 2000), some (.inr 0), some (.inr 120), some (.inl (nI i))] [] σ 140 6165 Z := by
  refine kg_aload_n dL_law_401 (pc' := 402) rfl rfl rfl ?_
  refine kg_aload_n dL_law_402 (pc' := 403) rfl rfl rfl ?_
  refine kg_iload_n dL_law_403 (pc' := 404) rfl rfl rfl ?_
  refine kg_iconst dL_law_404 (pc' := 405) rfl kc_1 ?_
  refine kg_iadd dL_law_405 (pc' := 406) rfl ?_
  refine kg_sld hX (law_in 1 (by decide) hi6 hL) dL_law_406 (pc' := 407) rfl ?_
  refine kg_aload_n dL_law_407 (pc' := 408) rfl rfl rfl ?_
  refine kg_iload_n dL_law_408 (pc' := 409) rfl rfl rfl ?_
  refine kg_iconst dL_law_409 (pc' := 410) rfl kc_2 ?_
  refine kg_iadd dL_law_410 (pc' := 411) rfl ?_
  refine kg_sld hX (law_in 2 (by decide) hi6 hL) dL_law_411 (pc' := 412) rfl ?_
  obtain ⟨r, σ1, σ2, h10, h11, hI2⟩ := hS σ (xs (nI i + 1).toNatClampNeg) (xs (nI i + 2).toNatClampNeg) hI
  refine kgVi (as := [.inl (xs (nI i + 1).toNatClampNeg), .inl (xs (nI i + 2).toNatClampNeg)]) (st := []) l_RL_37 (m_X10_change (kOk_fu (by decide)) σ (xs (nI i + 1).toNatClampNeg) (xs (nI i + 2).toNatClampNeg) h10) rfl (Nat.le_of_ble_eq_true rfl : 0 < 140) rfl ⟨⟨rfl, rfl⟩, Nat.le_of_ble_eq_true rfl, Nat.le_of_ble_eq_true rfl⟩ ⟨Nat.le_of_ble_eq_true rfl, Nat.le_of_ble_eq_true rfl⟩ (Nat.le_of_ble_eq_true rfl) dL_law_412 (pc' := 415) rfl ?_
  refine kg_aload_n dL_law_415 (pc' := 416) rfl rfl rfl ?_
  refine kg_aload_n dL_law_416 (pc' := 417) rfl rfl rfl ?_
  refine kg_iload_n dL_law_417 (pc' := 418) rfl rfl rfl ?_
  refine kg_iconst dL_law_418 (pc' := 419) rfl kc_1 ?_
  refine kg_iadd dL_law_419 (pc' := 420) rfl ?_
  refine kg_sld hX (law_in 1 (by decide) hi6 hL) dL_law_420 (pc' := 421) rfl ?_
  refine kg_aload_n dL_law_421 (pc' := 422) rfl rfl rfl ?_
  refine kg_iload_n dL_law_422 (pc' := 423) rfl rfl rfl ?_
  refine kg_iconst dL_law_423 (pc' := 424) rfl kc_2 ?_
  refine kg_iadd dL_law_424 (pc' := 425) rfl ?_
  refine kg_sld hX (law_in 2 (by decide) hi6 hL) dL_law_425 (pc' := 426) rfl ?_
  refine kgVi (as := [.inl (xs (nI i + 1).toNatClampNeg), .inl (xs (nI i + 2).toNatClampNeg)]) (st := [.inl r]) l_RL_41 (m_X11_change (kOk_fu (by decide)) σ1 (xs (nI i + 1).toNatClampNeg) (xs (nI i + 2).toNatClampNeg) h11) rfl (Nat.le_of_ble_eq_true rfl : 120 < 140) rfl ⟨⟨rfl, rfl⟩, Nat.le_of_ble_eq_true rfl, Nat.le_of_ble_eq_true rfl⟩ ⟨Nat.le_of_ble_eq_true rfl, Nat.le_of_ble_eq_true rfl⟩ (Nat.le_of_ble_eq_true rfl) dL_law_426 (pc' := 429) rfl ?_
  refine kg_icmp_eq dL_law_429 (tgt := 1566) rfl (pc' := 432) rfl (fun _ => ?_) (fun c => absurd rfl c)
  exact kk _ hI2
set_option maxRecDepth 100000 in
set_option maxHeartbeats 1000000 in
theorem case_6 {E0 : JE} {nm : String} {Z : List Frame → Array Value → State → State → Prop} {b L i : Nat} {xs : Nat → Int32} {Inv : Wd → Prop} (hXt : kHX E0) (hX : kXS (kFu E0 140) b L xs) (hL : L ≤ 3072) (hi6 : i + 6 ≤ L) (hS : S_weigh Inv) (kk : ∀ σ, Inv σ → KG (kFu E0 140) mL_law room_1 nm 0 1566 [some (.inr 2000), some (.inr 0), some (.inr 120), some (.inl (nI i))] [] σ 140 6165 Z) (σ : Wd) (hI : Inv σ) : KG (kFu E0 140) mL_law room_1 nm 0 434 [some (.inr 2000), some (.inr 0), some (.inr 120), some (.inl (nI i))] [] σ 140 6165 Z := by
  refine kg_aload_n dL_law_434 (pc' := 435) rfl rfl rfl ?_
  refine kg_aload_n dL_law_435 (pc' := 436) rfl rfl rfl ?_
  refine kg_iload_n dL_law_436 (pc' := 437) rfl rfl rfl ?_
  refine kg_iconst dL_law_437 (pc' := 438) rfl kc_1 ?_
  refine kg_iadd dL_law_438 (pc' := 439) rfl ?_
  refine kg_sld hX (law_in 1 (by decide) hi6 hL) dL_law_439 (pc' := 440) rfl ?_
  refine kg_aload_n dL_law_440 (pc' := 441) rfl rfl rfl ?_
  refine kg_iload_n dL_law_441 (pc' := 442) rfl rfl rfl ?_
  refine kg_iconst dL_law_442 (pc' := 443) rfl kc_2 ?_
  refine kg_iadd dL_law_443 (pc' := 444) rfl ?_
  refine kg_sld hX (law_in 2 (by decide) hi6 hL) dL_law_444 (pc' := 445) rfl ?_
  obtain ⟨r, σ1, σ2, h10, h11, hI2⟩ := hS σ (xs (nI i + 1).toNatClampNeg) (xs (nI i + 2).toNatClampNeg) hI
  refine kgVi (as := [.inl (xs (nI i + 1).toNatClampNeg), .inl (xs (nI i + 2).toNatClampNeg)]) (st := []) l_RL_42 (m_X10_weigh (kOk_fu (by decide)) σ (xs (nI i + 1).toNatClampNeg) (xs (nI i + 2).toNatClampNeg) h10) rfl (Nat.le_of_ble_eq_true rfl : 0 < 140) rfl ⟨⟨rfl, rfl⟩, Nat.le_of_ble_eq_true rfl, Nat.le_of_ble_eq_true rfl⟩ ⟨Nat.le_of_ble_eq_true rfl, Nat.le_of_ble_eq_true rfl⟩ (Nat.le_of_ble_eq_true rfl) dL_law_445 (pc' := 448) rfl ?_
  refine kg_aload_n dL_law_448 (pc' := 449) rfl rfl rfl ?_
  refine kg_aload_n dL_law_449 (pc' := 450) rfl rfl rfl ?_
  refine kg_iload_n dL_law_450 (pc' := 451) rfl rfl rfl ?_
  refine kg_iconst dL_law_451 (pc' := 452) rfl kc_1 ?_
  refine kg_iadd dL_law_452 (pc' := 453) rfl ?_
  refine kg_sld hX (law_in 1 (by decide) hi6 hL) dL_law_453 (pc' := 454) rfl ?_
  refine kg_aload_n dL_law_454 (pc' := 455) rfl rfl rfl ?_
  refine kg_iload_n dL_law_455 (pc' := 456) rfl rfl rfl ?_
  refine kg_iconst dL_law_456 (pc' := 457) rfl kc_2 ?_
  refine kg_iadd dL_law_457 (pc' := 458) rfl ?_
  refine kg_sld hX (law_in 2 (by decide) hi6 hL) dL_law_458 (pc' := 459) rfl ?_
  refine kgVi (as := [.inl (xs (nI i + 1).toNatClampNeg), .inl (xs (nI i + 2).toNatClampNeg)]) (st := [.inl r]) l_RL_45 (m_X11_weigh (kOk_fu (by decide)) σ1 (xs (nI i + 1).toNatClampNeg) (xs (nI i + 2).toNatClampNeg) h11) rfl (Nat.le_of_ble_eq_true rfl : 120 < 140) rfl ⟨⟨rfl, rfl⟩, Nat.le_of_ble_eq_true rfl, Nat.le_of_ble_eq_true rfl⟩ ⟨Nat.le_of_ble_eq_true rfl, Nat.le_of_ble_eq_true rfl⟩ (Nat.le_of_ble_eq_true rfl) dL_law_459 (pc' := 462) rfl ?_
  refine kg_icmp_eq dL_law_462 (tgt := 1566) rfl (pc' := 465) rfl (fun _ => ?_) (fun c => absurd rfl c)
  exact kk _ hI2
set_option maxRecDepth 100000 in
set_option maxHeartbeats 1000000 in
theorem case_7 {E0 : JE} {nm : String} {Z : List Frame → Array Value → State → State → Prop} {b L i : Nat} {xs : Nat → Int32} {Inv : Wd → Prop} (hXt : kHX E0) (hX : kXS (kFu E0 140) b L xs) (hL : L ≤ 3072) (hi6 : i + 6 ≤ L) (hS : S_swap Inv) (kk : ∀ σ, Inv σ → KG (kFu E0 140) mL_law room_1 nm 0 1566 [some (.inr 2000), some (.inr 0), some (.inr 120), some (.inl (nI i))] [] σ 140 6165 Z) (σ : Wd) (hI : Inv σ) : KG (kFu E0 140) mL_law room_1 nm 0 467 [some (.inr 2000), some (.inr 0), some (.inr 120), some (.inl (nI i))] [] σ 140 6165 Z := by
  refine kg_aload_n dL_law_467 (pc' := 468) rfl rfl rfl ?_
  refine kg_aload_n dL_law_468 (pc' := 469) rfl rfl rfl ?_
  refine kg_iload_n dL_law_469 (pc' := 470) rfl rfl rfl ?_
  refine kg_iconst dL_law_470 (pc' := 471) rfl kc_1 ?_
  refine kg_iadd dL_law_471 (pc' := 472) rfl ?_
  refine kg_sld hX (law_in 1 (by decide) hi6 hL) dL_law_472 (pc' := 473) rfl ?_
  refine kg_aload_n dL_law_473 (pc' := 474) rfl rfl rfl ?_
  refine kg_iload_n dL_law_474 (pc' := 475) rfl rfl rfl ?_
  refine kg_iconst dL_law_475 (pc' := 476) rfl kc_2 ?_
  refine kg_iadd dL_law_476 (pc' := 477) rfl ?_
  refine kg_sld hX (law_in 2 (by decide) hi6 hL) dL_law_477 (pc' := 478) rfl ?_
  obtain ⟨r, σ1, σ2, h10, h11, hI2⟩ := hS σ (xs (nI i + 1).toNatClampNeg) (xs (nI i + 2).toNatClampNeg) hI
  refine kgVi (as := [.inl (xs (nI i + 1).toNatClampNeg), .inl (xs (nI i + 2).toNatClampNeg)]) (st := []) l_RL_46 (m_X10_swap (kOk_fu (by decide)) σ (xs (nI i + 1).toNatClampNeg) (xs (nI i + 2).toNatClampNeg) h10) rfl (Nat.le_of_ble_eq_true rfl : 0 < 140) rfl ⟨⟨rfl, rfl⟩, Nat.le_of_ble_eq_true rfl, Nat.le_of_ble_eq_true rfl⟩ ⟨Nat.le_of_ble_eq_true rfl, Nat.le_of_ble_eq_true rfl⟩ (Nat.le_of_ble_eq_true rfl) dL_law_478 (pc' := 481) rfl ?_
  refine kg_aload_n dL_law_481 (pc' := 482) rfl rfl rfl ?_
  refine kg_aload_n dL_law_482 (pc' := 483) rfl rfl rfl ?_
  refine kg_iload_n dL_law_483 (pc' := 484) rfl rfl rfl ?_
  refine kg_iconst dL_law_484 (pc' := 485) rfl kc_1 ?_
  refine kg_iadd dL_law_485 (pc' := 486) rfl ?_
  refine kg_sld hX (law_in 1 (by decide) hi6 hL) dL_law_486 (pc' := 487) rfl ?_
  refine kg_aload_n dL_law_487 (pc' := 488) rfl rfl rfl ?_
  refine kg_iload_n dL_law_488 (pc' := 489) rfl rfl rfl ?_
  refine kg_iconst dL_law_489 (pc' := 490) rfl kc_2 ?_
  refine kg_iadd dL_law_490 (pc' := 491) rfl ?_
  refine kg_sld hX (law_in 2 (by decide) hi6 hL) dL_law_491 (pc' := 492) rfl ?_
  refine kgVi (as := [.inl (xs (nI i + 1).toNatClampNeg), .inl (xs (nI i + 2).toNatClampNeg)]) (st := [.inl r]) l_RL_49 (m_X11_swap (kOk_fu (by decide)) σ1 (xs (nI i + 1).toNatClampNeg) (xs (nI i + 2).toNatClampNeg) h11) rfl (Nat.le_of_ble_eq_true rfl : 120 < 140) rfl ⟨⟨rfl, rfl⟩, Nat.le_of_ble_eq_true rfl, Nat.le_of_ble_eq_true rfl⟩ ⟨Nat.le_of_ble_eq_true rfl, Nat.le_of_ble_eq_true rfl⟩ (Nat.le_of_ble_eq_true rfl) dL_law_492 (pc' := 495) rfl ?_
  refine kg_icmp_eq dL_law_495 (tgt := 1566) rfl (pc' := 498) rfl (fun _ => ?_) (fun c => absurd rfl c)
  exact kk _ hI2
set_option maxRecDepth 100000 in
set_option maxHeartbeats 1000000 in
theorem case_8 {E0 : JE} {nm : String} {Z : List Frame → Array Value → State → State → Prop} {b L i : Nat} {xs : Nat → Int32} {Inv : Wd → Prop} (hXt : kHX E0) (hX : kXS (kFu E0 140) b L xs) (hL : L ≤ 3072) (hi6 : i + 6 ≤ L) (hS : S_turn Inv) (kk : ∀ σ, Inv σ → KG (kFu E0 140) mL_law room_1 nm 0 1566 [some (.inr 2000), some (.inr 0), some (.inr 120), some (.inl (nI i))] [] σ 140 6165 Z) (σ : Wd) (hI : Inv σ) : KG (kFu E0 140) mL_law room_1 nm 0 500 [some (.inr 2000), some (.inr 0), some (.inr 120), some (.inl (nI i))] [] σ 140 6165 Z := by
  refine kg_aload_n dL_law_500 (pc' := 501) rfl rfl rfl ?_
  obtain ⟨r, σ1, σ2, h10, h11, hI2⟩ := hS σ hI
  refine kgVi (as := []) (st := []) l_RL_50 (m_X10_turn (kOk_fu (by decide)) σ h10) rfl (Nat.le_of_ble_eq_true rfl : 0 < 140) rfl ⟨⟨rfl, rfl⟩, Nat.le_of_ble_eq_true rfl, Nat.le_of_ble_eq_true rfl⟩ ⟨Nat.le_of_ble_eq_true rfl, Nat.le_of_ble_eq_true rfl⟩ (Nat.le_of_ble_eq_true rfl) dL_law_501 (pc' := 504) rfl ?_
  refine kg_aload_n dL_law_504 (pc' := 505) rfl rfl rfl ?_
  refine kgVi (as := []) (st := [.inl r]) l_RL_53 (m_X11_turn (kOk_fu (by decide)) σ1 h11) rfl (Nat.le_of_ble_eq_true rfl : 120 < 140) rfl ⟨⟨rfl, rfl⟩, Nat.le_of_ble_eq_true rfl, Nat.le_of_ble_eq_true rfl⟩ ⟨Nat.le_of_ble_eq_true rfl, Nat.le_of_ble_eq_true rfl⟩ (Nat.le_of_ble_eq_true rfl) dL_law_505 (pc' := 508) rfl ?_
  refine kg_icmp_eq dL_law_508 (tgt := 1566) rfl (pc' := 511) rfl (fun _ => ?_) (fun c => absurd rfl c)
  exact kk _ hI2
set_option maxRecDepth 100000 in
set_option maxHeartbeats 1000000 in
theorem case_9 {E0 : JE} {nm : String} {Z : List Frame → Array Value → State → State → Prop} {b L i : Nat} {xs : Nat → Int32} {Inv : Wd → Prop} (hXt : kHX E0) (hX : kXS (kFu E0 140) b L xs) (hL : L ≤ 3072) (hi6 : i + 6 ≤ L) (hS : S_without Inv) (kk : ∀ σ, Inv σ → KG (kFu E0 140) mL_law room_1 nm 0 1566 [some (.inr 2000), some (.inr 0), some (.inr 120), some (.inl (nI i))] [] σ 140 6165 Z) (σ : Wd) (hI : Inv σ) : KG (kFu E0 140) mL_law room_1 nm 0 513 [some (.inr 2000), some (.inr 0), some (.inr 120), some (.inl (nI i))] [] σ 140 6165 Z := by
  refine kg_aload_n dL_law_513 (pc' := 514) rfl rfl rfl ?_
  refine kg_aload_n dL_law_514 (pc' := 515) rfl rfl rfl ?_
  refine kg_iload_n dL_law_515 (pc' := 516) rfl rfl rfl ?_
  refine kg_iconst dL_law_516 (pc' := 517) rfl kc_1 ?_
  refine kg_iadd dL_law_517 (pc' := 518) rfl ?_
  refine kg_sld hX (law_in 1 (by decide) hi6 hL) dL_law_518 (pc' := 519) rfl ?_
  obtain ⟨r, σ1, σ2, h10, h11, hI2⟩ := hS σ (xs (nI i + 1).toNatClampNeg) hI
  refine kgVi (as := [.inl (xs (nI i + 1).toNatClampNeg)]) (st := []) l_RL_54 (m_X10_without (kOk_fu (by decide)) σ (xs (nI i + 1).toNatClampNeg) h10) rfl (Nat.le_of_ble_eq_true rfl : 0 < 140) rfl ⟨⟨rfl, rfl⟩, Nat.le_of_ble_eq_true rfl, Nat.le_of_ble_eq_true rfl⟩ ⟨Nat.le_of_ble_eq_true rfl, Nat.le_of_ble_eq_true rfl⟩ (Nat.le_of_ble_eq_true rfl) dL_law_519 (pc' := 522) rfl ?_
  refine kg_aload_n dL_law_522 (pc' := 523) rfl rfl rfl ?_
  refine kg_aload_n dL_law_523 (pc' := 524) rfl rfl rfl ?_
  refine kg_iload_n dL_law_524 (pc' := 525) rfl rfl rfl ?_
  refine kg_iconst dL_law_525 (pc' := 526) rfl kc_1 ?_
  refine kg_iadd dL_law_526 (pc' := 527) rfl ?_
  refine kg_sld hX (law_in 1 (by decide) hi6 hL) dL_law_527 (pc' := 528) rfl ?_
  refine kgVi (as := [.inl (xs (nI i + 1).toNatClampNeg)]) (st := [.inl r]) l_RL_57 (m_X11_without (kOk_fu (by decide)) σ1 (xs (nI i + 1).toNatClampNeg) h11) rfl (Nat.le_of_ble_eq_true rfl : 120 < 140) rfl ⟨⟨rfl, rfl⟩, Nat.le_of_ble_eq_true rfl, Nat.le_of_ble_eq_true rfl⟩ ⟨Nat.le_of_ble_eq_true rfl, Nat.le_of_ble_eq_true rfl⟩ (Nat.le_of_ble_eq_true rfl) dL_law_528 (pc' := 531) rfl ?_
  refine kg_icmp_eq dL_law_531 (tgt := 1566) rfl (pc' := 534) rfl (fun _ => ?_) (fun c => absurd rfl c)
  exact kk _ hI2
set_option maxRecDepth 100000 in
set_option maxHeartbeats 1000000 in
theorem case_10 {E0 : JE} {nm : String} {Z : List Frame → Array Value → State → State → Prop} {b L i : Nat} {xs : Nat → Int32} {Inv : Wd → Prop} (hXt : kHX E0) (hX : kXS (kFu E0 140) b L xs) (hL : L ≤ 3072) (hi6 : i + 6 ≤ L) (hS : S_lean Inv) (kk : ∀ σ, Inv σ → KG (kFu E0 140) mL_law room_1 nm 0 1566 [some (.inr 2000), some (.inr 0), some (.inr 120), some (.inl (nI i))] [] σ 140 6165 Z) (σ : Wd) (hI : Inv σ) : KG (kFu E0 140) mL_law room_1 nm 0 536 [some (.inr 2000), some (.inr 0), some (.inr 120), some (.inl (nI i))] [] σ 140 6165 Z := by
  refine kg_aload_n dL_law_536 (pc' := 537) rfl rfl rfl ?_
  obtain ⟨r, σ1, σ2, h10, h11, hI2⟩ := hS σ hI
  refine kgVi (as := []) (st := []) l_RL_58 (m_X10_lean (kOk_fu (by decide)) σ h10) rfl (Nat.le_of_ble_eq_true rfl : 0 < 140) rfl ⟨⟨rfl, rfl⟩, Nat.le_of_ble_eq_true rfl, Nat.le_of_ble_eq_true rfl⟩ ⟨Nat.le_of_ble_eq_true rfl, Nat.le_of_ble_eq_true rfl⟩ (Nat.le_of_ble_eq_true rfl) dL_law_537 (pc' := 540) rfl ?_
  refine kg_aload_n dL_law_540 (pc' := 541) rfl rfl rfl ?_
  refine kgVi (as := []) (st := [.inl r]) l_RL_61 (m_X11_lean (kOk_fu (by decide)) σ1 h11) rfl (Nat.le_of_ble_eq_true rfl : 120 < 140) rfl ⟨⟨rfl, rfl⟩, Nat.le_of_ble_eq_true rfl, Nat.le_of_ble_eq_true rfl⟩ ⟨Nat.le_of_ble_eq_true rfl, Nat.le_of_ble_eq_true rfl⟩ (Nat.le_of_ble_eq_true rfl) dL_law_541 (pc' := 544) rfl ?_
  refine kg_icmp_eq dL_law_544 (tgt := 1566) rfl (pc' := 547) rfl (fun _ => ?_) (fun c => absurd rfl c)
  exact kk _ hI2
set_option maxRecDepth 100000 in
set_option maxHeartbeats 1000000 in
theorem case_11 {E0 : JE} {nm : String} {Z : List Frame → Array Value → State → State → Prop} {b L i : Nat} {xs : Nat → Int32} {Inv : Wd → Prop} (hXt : kHX E0) (hX : kXS (kFu E0 140) b L xs) (hL : L ≤ 3072) (hi6 : i + 6 ≤ L) (hS : S_basis Inv) (kk : ∀ σ, Inv σ → KG (kFu E0 140) mL_law room_1 nm 0 1566 [some (.inr 2000), some (.inr 0), some (.inr 120), some (.inl (nI i))] [] σ 140 6165 Z) (σ : Wd) (hI : Inv σ) : KG (kFu E0 140) mL_law room_1 nm 0 549 [some (.inr 2000), some (.inr 0), some (.inr 120), some (.inl (nI i))] [] σ 140 6165 Z := by
  refine kg_aload_n dL_law_549 (pc' := 550) rfl rfl rfl ?_
  obtain ⟨r, σ1, σ2, h10, h11, hI2⟩ := hS σ hI
  refine kgVi (as := []) (st := []) l_RL_62 (m_X10_basis (kOk_fu (by decide)) σ h10) rfl (Nat.le_of_ble_eq_true rfl : 0 < 140) rfl ⟨⟨rfl, rfl⟩, Nat.le_of_ble_eq_true rfl, Nat.le_of_ble_eq_true rfl⟩ ⟨Nat.le_of_ble_eq_true rfl, Nat.le_of_ble_eq_true rfl⟩ (Nat.le_of_ble_eq_true rfl) dL_law_550 (pc' := 553) rfl ?_
  refine kg_aload_n dL_law_553 (pc' := 554) rfl rfl rfl ?_
  refine kgVi (as := []) (st := [.inl r]) l_RL_65 (m_X11_basis (kOk_fu (by decide)) σ1 h11) rfl (Nat.le_of_ble_eq_true rfl : 120 < 140) rfl ⟨⟨rfl, rfl⟩, Nat.le_of_ble_eq_true rfl, Nat.le_of_ble_eq_true rfl⟩ ⟨Nat.le_of_ble_eq_true rfl, Nat.le_of_ble_eq_true rfl⟩ (Nat.le_of_ble_eq_true rfl) dL_law_554 (pc' := 557) rfl ?_
  refine kg_icmp_eq dL_law_557 (tgt := 1566) rfl (pc' := 560) rfl (fun _ => ?_) (fun c => absurd rfl c)
  exact kk _ hI2
set_option maxRecDepth 100000 in
set_option maxHeartbeats 1000000 in
theorem case_12 {E0 : JE} {nm : String} {Z : List Frame → Array Value → State → State → Prop} {b L i : Nat} {xs : Nat → Int32} {Inv : Wd → Prop} (hXt : kHX E0) (hX : kXS (kFu E0 140) b L xs) (hL : L ≤ 3072) (hi6 : i + 6 ≤ L) (hS : S_list Inv) (kk : ∀ σ, Inv σ → KG (kFu E0 140) mL_law room_1 nm 0 1566 [some (.inr 2000), some (.inr 0), some (.inr 120), some (.inl (nI i))] [] σ 140 6165 Z) (σ : Wd) (hI : Inv σ) : KG (kFu E0 140) mL_law room_1 nm 0 562 [some (.inr 2000), some (.inr 0), some (.inr 120), some (.inl (nI i))] [] σ 140 6165 Z := by
  refine kg_aload_n dL_law_562 (pc' := 563) rfl rfl rfl ?_
  refine kg_aload_n dL_law_563 (pc' := 564) rfl rfl rfl ?_
  refine kg_iload_n dL_law_564 (pc' := 565) rfl rfl rfl ?_
  refine kg_iconst dL_law_565 (pc' := 566) rfl kc_1 ?_
  refine kg_iadd dL_law_566 (pc' := 567) rfl ?_
  refine kg_sld hX (law_in 1 (by decide) hi6 hL) dL_law_567 (pc' := 568) rfl ?_
  obtain ⟨r, σ1, σ2, h10, h11, hI2⟩ := hS σ (xs (nI i + 1).toNatClampNeg) hI
  refine kgVi (as := [.inl (xs (nI i + 1).toNatClampNeg)]) (st := []) l_RL_66 (m_X10_list (kOk_fu (by decide)) σ (xs (nI i + 1).toNatClampNeg) h10) rfl (Nat.le_of_ble_eq_true rfl : 0 < 140) rfl ⟨⟨rfl, rfl⟩, Nat.le_of_ble_eq_true rfl, Nat.le_of_ble_eq_true rfl⟩ ⟨Nat.le_of_ble_eq_true rfl, Nat.le_of_ble_eq_true rfl⟩ (Nat.le_of_ble_eq_true rfl) dL_law_568 (pc' := 571) rfl ?_
  refine kg_aload_n dL_law_571 (pc' := 572) rfl rfl rfl ?_
  refine kg_aload_n dL_law_572 (pc' := 573) rfl rfl rfl ?_
  refine kg_iload_n dL_law_573 (pc' := 574) rfl rfl rfl ?_
  refine kg_iconst dL_law_574 (pc' := 575) rfl kc_1 ?_
  refine kg_iadd dL_law_575 (pc' := 576) rfl ?_
  refine kg_sld hX (law_in 1 (by decide) hi6 hL) dL_law_576 (pc' := 577) rfl ?_
  refine kgVi (as := [.inl (xs (nI i + 1).toNatClampNeg)]) (st := [.inl r]) l_RL_69 (m_X11_list (kOk_fu (by decide)) σ1 (xs (nI i + 1).toNatClampNeg) h11) rfl (Nat.le_of_ble_eq_true rfl : 120 < 140) rfl ⟨⟨rfl, rfl⟩, Nat.le_of_ble_eq_true rfl, Nat.le_of_ble_eq_true rfl⟩ ⟨Nat.le_of_ble_eq_true rfl, Nat.le_of_ble_eq_true rfl⟩ (Nat.le_of_ble_eq_true rfl) dL_law_577 (pc' := 580) rfl ?_
  refine kg_icmp_eq dL_law_580 (tgt := 1566) rfl (pc' := 583) rfl (fun _ => ?_) (fun c => absurd rfl c)
  exact kk _ hI2
set_option maxRecDepth 100000 in
set_option maxHeartbeats 1000000 in
theorem case_13 {E0 : JE} {nm : String} {Z : List Frame → Array Value → State → State → Prop} {b L i : Nat} {xs : Nat → Int32} {Inv : Wd → Prop} (hXt : kHX E0) (hX : kXS (kFu E0 140) b L xs) (hL : L ≤ 3072) (hi6 : i + 6 ≤ L) (hS : S_strike Inv) (kk : ∀ σ, Inv σ → KG (kFu E0 140) mL_law room_1 nm 0 1566 [some (.inr 2000), some (.inr 0), some (.inr 120), some (.inl (nI i))] [] σ 140 6165 Z) (σ : Wd) (hI : Inv σ) : KG (kFu E0 140) mL_law room_1 nm 0 585 [some (.inr 2000), some (.inr 0), some (.inr 120), some (.inl (nI i))] [] σ 140 6165 Z := by
  refine kg_aload_n dL_law_585 (pc' := 586) rfl rfl rfl ?_
  refine kg_aload_n dL_law_586 (pc' := 587) rfl rfl rfl ?_
  refine kg_iload_n dL_law_587 (pc' := 588) rfl rfl rfl ?_
  refine kg_iconst dL_law_588 (pc' := 589) rfl kc_1 ?_
  refine kg_iadd dL_law_589 (pc' := 590) rfl ?_
  refine kg_sld hX (law_in 1 (by decide) hi6 hL) dL_law_590 (pc' := 591) rfl ?_
  obtain ⟨r, σ1, σ2, h10, h11, hI2⟩ := hS σ (xs (nI i + 1).toNatClampNeg) hI
  refine kgVi (as := [.inl (xs (nI i + 1).toNatClampNeg)]) (st := []) l_RL_70 (m_X10_strike (kOk_fu (by decide)) σ (xs (nI i + 1).toNatClampNeg) h10) rfl (Nat.le_of_ble_eq_true rfl : 0 < 140) rfl ⟨⟨rfl, rfl⟩, Nat.le_of_ble_eq_true rfl, Nat.le_of_ble_eq_true rfl⟩ ⟨Nat.le_of_ble_eq_true rfl, Nat.le_of_ble_eq_true rfl⟩ (Nat.le_of_ble_eq_true rfl) dL_law_591 (pc' := 594) rfl ?_
  refine kg_aload_n dL_law_594 (pc' := 595) rfl rfl rfl ?_
  refine kg_aload_n dL_law_595 (pc' := 596) rfl rfl rfl ?_
  refine kg_iload_n dL_law_596 (pc' := 597) rfl rfl rfl ?_
  refine kg_iconst dL_law_597 (pc' := 598) rfl kc_1 ?_
  refine kg_iadd dL_law_598 (pc' := 599) rfl ?_
  refine kg_sld hX (law_in 1 (by decide) hi6 hL) dL_law_599 (pc' := 600) rfl ?_
  refine kgVi (as := [.inl (xs (nI i + 1).toNatClampNeg)]) (st := [.inl r]) l_RL_73 (m_X11_strike (kOk_fu (by decide)) σ1 (xs (nI i + 1).toNatClampNeg) h11) rfl (Nat.le_of_ble_eq_true rfl : 120 < 140) rfl ⟨⟨rfl, rfl⟩, Nat.le_of_ble_eq_true rfl, Nat.le_of_ble_eq_true rfl⟩ ⟨Nat.le_of_ble_eq_true rfl, Nat.le_of_ble_eq_true rfl⟩ (Nat.le_of_ble_eq_true rfl) dL_law_600 (pc' := 603) rfl ?_
  refine kg_icmp_eq dL_law_603 (tgt := 1566) rfl (pc' := 606) rfl (fun _ => ?_) (fun c => absurd rfl c)
  exact kk _ hI2
set_option maxRecDepth 100000 in
set_option maxHeartbeats 1000000 in
theorem case_14 {E0 : JE} {nm : String} {Z : List Frame → Array Value → State → State → Prop} {b L i : Nat} {xs : Nat → Int32} {Inv : Wd → Prop} (hXt : kHX E0) (hX : kXS (kFu E0 140) b L xs) (hL : L ≤ 3072) (hi6 : i + 6 ≤ L) (hS : S_adopt Inv) (kk : ∀ σ, Inv σ → KG (kFu E0 140) mL_law room_1 nm 0 1566 [some (.inr 2000), some (.inr 0), some (.inr 120), some (.inl (nI i))] [] σ 140 6165 Z) (σ : Wd) (hI : Inv σ) : KG (kFu E0 140) mL_law room_1 nm 0 608 [some (.inr 2000), some (.inr 0), some (.inr 120), some (.inl (nI i))] [] σ 140 6165 Z := by
  refine kg_aload_n dL_law_608 (pc' := 609) rfl rfl rfl ?_
  obtain ⟨r, σ1, σ2, h10, h11, hI2⟩ := hS σ hI
  refine kgVi (as := []) (st := []) l_RL_74 (m_X10_adopt (kOk_fu (by decide)) σ h10) rfl (Nat.le_of_ble_eq_true rfl : 0 < 140) rfl ⟨⟨rfl, rfl⟩, Nat.le_of_ble_eq_true rfl, Nat.le_of_ble_eq_true rfl⟩ ⟨Nat.le_of_ble_eq_true rfl, Nat.le_of_ble_eq_true rfl⟩ (Nat.le_of_ble_eq_true rfl) dL_law_609 (pc' := 612) rfl ?_
  refine kg_aload_n dL_law_612 (pc' := 613) rfl rfl rfl ?_
  refine kgVi (as := []) (st := [.inl r]) l_RL_77 (m_X11_adopt (kOk_fu (by decide)) σ1 h11) rfl (Nat.le_of_ble_eq_true rfl : 120 < 140) rfl ⟨⟨rfl, rfl⟩, Nat.le_of_ble_eq_true rfl, Nat.le_of_ble_eq_true rfl⟩ ⟨Nat.le_of_ble_eq_true rfl, Nat.le_of_ble_eq_true rfl⟩ (Nat.le_of_ble_eq_true rfl) dL_law_613 (pc' := 616) rfl ?_
  refine kg_icmp_eq dL_law_616 (tgt := 1566) rfl (pc' := 619) rfl (fun _ => ?_) (fun c => absurd rfl c)
  exact kk _ hI2
set_option maxRecDepth 100000 in
set_option maxHeartbeats 1000000 in
theorem case_15 {E0 : JE} {nm : String} {Z : List Frame → Array Value → State → State → Prop} {b L i : Nat} {xs : Nat → Int32} {Inv : Wd → Prop} (hXt : kHX E0) (hX : kXS (kFu E0 140) b L xs) (hL : L ≤ 3072) (hi6 : i + 6 ≤ L) (hS : S_undo Inv) (kk : ∀ σ, Inv σ → KG (kFu E0 140) mL_law room_1 nm 0 1566 [some (.inr 2000), some (.inr 0), some (.inr 120), some (.inl (nI i))] [] σ 140 6165 Z) (σ : Wd) (hI : Inv σ) : KG (kFu E0 140) mL_law room_1 nm 0 621 [some (.inr 2000), some (.inr 0), some (.inr 120), some (.inl (nI i))] [] σ 140 6165 Z := by
  refine kg_aload_n dL_law_621 (pc' := 622) rfl rfl rfl ?_
  obtain ⟨r, σ1, σ2, h10, h11, hI2⟩ := hS σ hI
  refine kgVi (as := []) (st := []) l_RL_78 (m_X10_undo (kOk_fu (by decide)) σ h10) rfl (Nat.le_of_ble_eq_true rfl : 0 < 140) rfl ⟨⟨rfl, rfl⟩, Nat.le_of_ble_eq_true rfl, Nat.le_of_ble_eq_true rfl⟩ ⟨Nat.le_of_ble_eq_true rfl, Nat.le_of_ble_eq_true rfl⟩ (Nat.le_of_ble_eq_true rfl) dL_law_622 (pc' := 625) rfl ?_
  refine kg_aload_n dL_law_625 (pc' := 626) rfl rfl rfl ?_
  refine kgVi (as := []) (st := [.inl r]) l_RL_81 (m_X11_undo (kOk_fu (by decide)) σ1 h11) rfl (Nat.le_of_ble_eq_true rfl : 120 < 140) rfl ⟨⟨rfl, rfl⟩, Nat.le_of_ble_eq_true rfl, Nat.le_of_ble_eq_true rfl⟩ ⟨Nat.le_of_ble_eq_true rfl, Nat.le_of_ble_eq_true rfl⟩ (Nat.le_of_ble_eq_true rfl) dL_law_626 (pc' := 629) rfl ?_
  refine kg_icmp_eq dL_law_629 (tgt := 1566) rfl (pc' := 632) rfl (fun _ => ?_) (fun c => absurd rfl c)
  exact kk _ hI2
set_option maxRecDepth 100000 in
set_option maxHeartbeats 1000000 in
theorem case_16 {E0 : JE} {nm : String} {Z : List Frame → Array Value → State → State → Prop} {b L i : Nat} {xs : Nat → Int32} {Inv : Wd → Prop} (hXt : kHX E0) (hX : kXS (kFu E0 140) b L xs) (hL : L ≤ 3072) (hi6 : i + 6 ≤ L) (hS : S_generator Inv) (kk : ∀ σ, Inv σ → KG (kFu E0 140) mL_law room_1 nm 0 1566 [some (.inr 2000), some (.inr 0), some (.inr 120), some (.inl (nI i))] [] σ 140 6165 Z) (σ : Wd) (hI : Inv σ) : KG (kFu E0 140) mL_law room_1 nm 0 634 [some (.inr 2000), some (.inr 0), some (.inr 120), some (.inl (nI i))] [] σ 140 6165 Z := by
  refine kg_aload_n dL_law_634 (pc' := 635) rfl rfl rfl ?_
  refine kg_aload_n dL_law_635 (pc' := 636) rfl rfl rfl ?_
  refine kg_iload_n dL_law_636 (pc' := 637) rfl rfl rfl ?_
  refine kg_iconst dL_law_637 (pc' := 638) rfl kc_1 ?_
  refine kg_iadd dL_law_638 (pc' := 639) rfl ?_
  refine kg_sld hX (law_in 1 (by decide) hi6 hL) dL_law_639 (pc' := 640) rfl ?_
  refine kg_aload_n dL_law_640 (pc' := 641) rfl rfl rfl ?_
  refine kg_iload_n dL_law_641 (pc' := 642) rfl rfl rfl ?_
  refine kg_iconst dL_law_642 (pc' := 643) rfl kc_2 ?_
  refine kg_iadd dL_law_643 (pc' := 644) rfl ?_
  refine kg_sld hX (law_in 2 (by decide) hi6 hL) dL_law_644 (pc' := 645) rfl ?_
  obtain ⟨r, σ1, σ2, h10, h11, hI2⟩ := hS σ (xs (nI i + 1).toNatClampNeg) (xs (nI i + 2).toNatClampNeg) hI
  obtain ⟨h10, rfl⟩ := h10
  refine kgVi (as := [.inl (xs (nI i + 1).toNatClampNeg), .inl (xs (nI i + 2).toNatClampNeg)]) (st := []) l_RL_82 (m_X10_generator (kOk_fu (by decide)) σ1 (xs (nI i + 1).toNatClampNeg) (xs (nI i + 2).toNatClampNeg) h10) rfl (Nat.le_of_ble_eq_true rfl : 0 < 140) rfl ⟨⟨rfl, rfl⟩, Nat.le_of_ble_eq_true rfl, Nat.le_of_ble_eq_true rfl⟩ ⟨Nat.le_of_ble_eq_true rfl, Nat.le_of_ble_eq_true rfl⟩ (Nat.le_of_ble_eq_true rfl) dL_law_645 (pc' := 648) rfl ?_
  refine kg_aload_n dL_law_648 (pc' := 649) rfl rfl rfl ?_
  refine kg_aload_n dL_law_649 (pc' := 650) rfl rfl rfl ?_
  refine kg_iload_n dL_law_650 (pc' := 651) rfl rfl rfl ?_
  refine kg_iconst dL_law_651 (pc' := 652) rfl kc_1 ?_
  refine kg_iadd dL_law_652 (pc' := 653) rfl ?_
  refine kg_sld hX (law_in 1 (by decide) hi6 hL) dL_law_653 (pc' := 654) rfl ?_
  refine kg_aload_n dL_law_654 (pc' := 655) rfl rfl rfl ?_
  refine kg_iload_n dL_law_655 (pc' := 656) rfl rfl rfl ?_
  refine kg_iconst dL_law_656 (pc' := 657) rfl kc_2 ?_
  refine kg_iadd dL_law_657 (pc' := 658) rfl ?_
  refine kg_sld hX (law_in 2 (by decide) hi6 hL) dL_law_658 (pc' := 659) rfl ?_
  refine kgVi (as := [.inl (xs (nI i + 1).toNatClampNeg), .inl (xs (nI i + 2).toNatClampNeg)]) (st := [.inl r]) l_RL_85 (m_X11_generator (kOk_fu (by decide)) σ1 (xs (nI i + 1).toNatClampNeg) (xs (nI i + 2).toNatClampNeg) h11) rfl (Nat.le_of_ble_eq_true rfl : 120 < 140) rfl ⟨⟨rfl, rfl⟩, Nat.le_of_ble_eq_true rfl, Nat.le_of_ble_eq_true rfl⟩ ⟨Nat.le_of_ble_eq_true rfl, Nat.le_of_ble_eq_true rfl⟩ (Nat.le_of_ble_eq_true rfl) dL_law_659 (pc' := 662) rfl ?_
  refine kg_icmp_eq dL_law_662 (tgt := 1566) rfl (pc' := 665) rfl (fun _ => ?_) (fun c => absurd rfl c)
  exact kk _ hI2
set_option maxRecDepth 100000 in
set_option maxHeartbeats 1000000 in
theorem case_17 {E0 : JE} {nm : String} {Z : List Frame → Array Value → State → State → Prop} {b L i : Nat} {xs : Nat → Int32} {Inv : Wd → Prop} (hXt : kHX E0) (hX : kXS (kFu E0 140) b L xs) (hL : L ≤ 3072) (hi6 : i + 6 ≤ L) (hS : S_member Inv) (kk : ∀ σ, Inv σ → KG (kFu E0 140) mL_law room_1 nm 0 1566 [some (.inr 2000), some (.inr 0), some (.inr 120), some (.inl (nI i))] [] σ 140 6165 Z) (σ : Wd) (hI : Inv σ) : KG (kFu E0 140) mL_law room_1 nm 0 667 [some (.inr 2000), some (.inr 0), some (.inr 120), some (.inl (nI i))] [] σ 140 6165 Z := by
  refine kg_aload_n dL_law_667 (pc' := 668) rfl rfl rfl ?_
  refine kg_aload_n dL_law_668 (pc' := 669) rfl rfl rfl ?_
  refine kg_iload_n dL_law_669 (pc' := 670) rfl rfl rfl ?_
  refine kg_iconst dL_law_670 (pc' := 671) rfl kc_1 ?_
  refine kg_iadd dL_law_671 (pc' := 672) rfl ?_
  refine kg_sld hX (law_in 1 (by decide) hi6 hL) dL_law_672 (pc' := 673) rfl ?_
  obtain ⟨r, σ1, σ2, h10, h11, hI2⟩ := hS σ (xs (nI i + 1).toNatClampNeg) hI
  obtain ⟨h10, rfl⟩ := h10
  refine kgVi (as := [.inl (xs (nI i + 1).toNatClampNeg)]) (st := []) l_RL_86 (m_X10_member (kOk_fu (by decide)) σ1 (xs (nI i + 1).toNatClampNeg) h10) rfl (Nat.le_of_ble_eq_true rfl : 0 < 140) rfl ⟨⟨rfl, rfl⟩, Nat.le_of_ble_eq_true rfl, Nat.le_of_ble_eq_true rfl⟩ ⟨Nat.le_of_ble_eq_true rfl, Nat.le_of_ble_eq_true rfl⟩ (Nat.le_of_ble_eq_true rfl) dL_law_673 (pc' := 676) rfl ?_
  refine kg_aload_n dL_law_676 (pc' := 677) rfl rfl rfl ?_
  refine kg_aload_n dL_law_677 (pc' := 678) rfl rfl rfl ?_
  refine kg_iload_n dL_law_678 (pc' := 679) rfl rfl rfl ?_
  refine kg_iconst dL_law_679 (pc' := 680) rfl kc_1 ?_
  refine kg_iadd dL_law_680 (pc' := 681) rfl ?_
  refine kg_sld hX (law_in 1 (by decide) hi6 hL) dL_law_681 (pc' := 682) rfl ?_
  refine kgVi (as := [.inl (xs (nI i + 1).toNatClampNeg)]) (st := [.inl r]) l_RL_89 (m_X11_member (kOk_fu (by decide)) σ1 (xs (nI i + 1).toNatClampNeg) h11) rfl (Nat.le_of_ble_eq_true rfl : 120 < 140) rfl ⟨⟨rfl, rfl⟩, Nat.le_of_ble_eq_true rfl, Nat.le_of_ble_eq_true rfl⟩ ⟨Nat.le_of_ble_eq_true rfl, Nat.le_of_ble_eq_true rfl⟩ (Nat.le_of_ble_eq_true rfl) dL_law_682 (pc' := 685) rfl ?_
  refine kg_icmp_eq dL_law_685 (tgt := 1566) rfl (pc' := 688) rfl (fun _ => ?_) (fun c => absurd rfl c)
  exact kk _ hI2
set_option maxRecDepth 100000 in
set_option maxHeartbeats 1000000 in
theorem case_18 {E0 : JE} {nm : String} {Z : List Frame → Array Value → State → State → Prop} {b L i : Nat} {xs : Nat → Int32} {Inv : Wd → Prop} (hXt : kHX E0) (hX : kXS (kFu E0 140) b L xs) (hL : L ≤ 3072) (hi6 : i + 6 ≤ L) (hS : S_place Inv) (kk : ∀ σ, Inv σ → KG (kFu E0 140) mL_law room_1 nm 0 1566 [some (.inr 2000), some (.inr 0), some (.inr 120), some (.inl (nI i))] [] σ 140 6165 Z) (σ : Wd) (hI : Inv σ) : KG (kFu E0 140) mL_law room_1 nm 0 690 [some (.inr 2000), some (.inr 0), some (.inr 120), some (.inl (nI i))] [] σ 140 6165 Z := by
  refine kg_aload_n dL_law_690 (pc' := 691) rfl rfl rfl ?_
  refine kg_aload_n dL_law_691 (pc' := 692) rfl rfl rfl ?_
  refine kg_iload_n dL_law_692 (pc' := 693) rfl rfl rfl ?_
  refine kg_iconst dL_law_693 (pc' := 694) rfl kc_1 ?_
  refine kg_iadd dL_law_694 (pc' := 695) rfl ?_
  refine kg_sld hX (law_in 1 (by decide) hi6 hL) dL_law_695 (pc' := 696) rfl ?_
  obtain ⟨r, σ1, σ2, h10, h11, hI2⟩ := hS σ (xs (nI i + 1).toNatClampNeg) hI
  obtain ⟨h10, rfl⟩ := h10
  refine kgVi (as := [.inl (xs (nI i + 1).toNatClampNeg)]) (st := []) l_RL_90 (m_X10_place (kOk_fu (by decide)) σ1 (xs (nI i + 1).toNatClampNeg) h10) rfl (Nat.le_of_ble_eq_true rfl : 0 < 140) rfl ⟨⟨rfl, rfl⟩, Nat.le_of_ble_eq_true rfl, Nat.le_of_ble_eq_true rfl⟩ ⟨Nat.le_of_ble_eq_true rfl, Nat.le_of_ble_eq_true rfl⟩ (Nat.le_of_ble_eq_true rfl) dL_law_696 (pc' := 699) rfl ?_
  refine kg_aload_n dL_law_699 (pc' := 700) rfl rfl rfl ?_
  refine kg_aload_n dL_law_700 (pc' := 701) rfl rfl rfl ?_
  refine kg_iload_n dL_law_701 (pc' := 702) rfl rfl rfl ?_
  refine kg_iconst dL_law_702 (pc' := 703) rfl kc_1 ?_
  refine kg_iadd dL_law_703 (pc' := 704) rfl ?_
  refine kg_sld hX (law_in 1 (by decide) hi6 hL) dL_law_704 (pc' := 705) rfl ?_
  refine kgVi (as := [.inl (xs (nI i + 1).toNatClampNeg)]) (st := [.inl r]) l_RL_93 (m_X11_place (kOk_fu (by decide)) σ1 (xs (nI i + 1).toNatClampNeg) h11) rfl (Nat.le_of_ble_eq_true rfl : 120 < 140) rfl ⟨⟨rfl, rfl⟩, Nat.le_of_ble_eq_true rfl, Nat.le_of_ble_eq_true rfl⟩ ⟨Nat.le_of_ble_eq_true rfl, Nat.le_of_ble_eq_true rfl⟩ (Nat.le_of_ble_eq_true rfl) dL_law_705 (pc' := 708) rfl ?_
  refine kg_icmp_eq dL_law_708 (tgt := 1566) rfl (pc' := 711) rfl (fun _ => ?_) (fun c => absurd rfl c)
  exact kk _ hI2
set_option maxRecDepth 100000 in
set_option maxHeartbeats 1000000 in
theorem case_19 {E0 : JE} {nm : String} {Z : List Frame → Array Value → State → State → Prop} {b L i : Nat} {xs : Nat → Int32} {Inv : Wd → Prop} (hXt : kHX E0) (hX : kXS (kFu E0 140) b L xs) (hL : L ≤ 3072) (hi6 : i + 6 ≤ L) (hS : S_based Inv) (kk : ∀ σ, Inv σ → KG (kFu E0 140) mL_law room_1 nm 0 1566 [some (.inr 2000), some (.inr 0), some (.inr 120), some (.inl (nI i))] [] σ 140 6165 Z) (σ : Wd) (hI : Inv σ) : KG (kFu E0 140) mL_law room_1 nm 0 713 [some (.inr 2000), some (.inr 0), some (.inr 120), some (.inl (nI i))] [] σ 140 6165 Z := by
  refine kg_aload_n dL_law_713 (pc' := 714) rfl rfl rfl ?_
  refine kg_aload_n dL_law_714 (pc' := 715) rfl rfl rfl ?_
  refine kg_iload_n dL_law_715 (pc' := 716) rfl rfl rfl ?_
  refine kg_iconst dL_law_716 (pc' := 717) rfl kc_1 ?_
  refine kg_iadd dL_law_717 (pc' := 718) rfl ?_
  refine kg_sld hX (law_in 1 (by decide) hi6 hL) dL_law_718 (pc' := 719) rfl ?_
  obtain ⟨r, σ1, σ2, h10, h11, hI2⟩ := hS σ (xs (nI i + 1).toNatClampNeg) hI
  obtain ⟨h10, rfl⟩ := h10
  refine kgVi (as := [.inl (xs (nI i + 1).toNatClampNeg)]) (st := []) l_RL_94 (m_X10_based (kOk_fu (by decide)) σ1 (xs (nI i + 1).toNatClampNeg) h10) rfl (Nat.le_of_ble_eq_true rfl : 0 < 140) rfl ⟨⟨rfl, rfl⟩, Nat.le_of_ble_eq_true rfl, Nat.le_of_ble_eq_true rfl⟩ ⟨Nat.le_of_ble_eq_true rfl, Nat.le_of_ble_eq_true rfl⟩ (Nat.le_of_ble_eq_true rfl) dL_law_719 (pc' := 722) rfl ?_
  refine kg_aload_n dL_law_722 (pc' := 723) rfl rfl rfl ?_
  refine kg_aload_n dL_law_723 (pc' := 724) rfl rfl rfl ?_
  refine kg_iload_n dL_law_724 (pc' := 725) rfl rfl rfl ?_
  refine kg_iconst dL_law_725 (pc' := 726) rfl kc_1 ?_
  refine kg_iadd dL_law_726 (pc' := 727) rfl ?_
  refine kg_sld hX (law_in 1 (by decide) hi6 hL) dL_law_727 (pc' := 728) rfl ?_
  refine kgVi (as := [.inl (xs (nI i + 1).toNatClampNeg)]) (st := [.inl r]) l_RL_97 (m_X11_based (kOk_fu (by decide)) σ1 (xs (nI i + 1).toNatClampNeg) h11) rfl (Nat.le_of_ble_eq_true rfl : 120 < 140) rfl ⟨⟨rfl, rfl⟩, Nat.le_of_ble_eq_true rfl, Nat.le_of_ble_eq_true rfl⟩ ⟨Nat.le_of_ble_eq_true rfl, Nat.le_of_ble_eq_true rfl⟩ (Nat.le_of_ble_eq_true rfl) dL_law_728 (pc' := 731) rfl ?_
  refine kg_icmp_eq dL_law_731 (tgt := 1566) rfl (pc' := 734) rfl (fun _ => ?_) (fun c => absurd rfl c)
  exact kk _ hI2
set_option maxRecDepth 100000 in
set_option maxHeartbeats 1000000 in
theorem case_20 {E0 : JE} {nm : String} {Z : List Frame → Array Value → State → State → Prop} {b L i : Nat} {xs : Nat → Int32} {Inv : Wd → Prop} (hXt : kHX E0) (hX : kXS (kFu E0 140) b L xs) (hL : L ≤ 3072) (hi6 : i + 6 ≤ L) (hS : S_point Inv) (kk : ∀ σ, Inv σ → KG (kFu E0 140) mL_law room_1 nm 0 1566 [some (.inr 2000), some (.inr 0), some (.inr 120), some (.inl (nI i))] [] σ 140 6165 Z) (σ : Wd) (hI : Inv σ) : KG (kFu E0 140) mL_law room_1 nm 0 736 [some (.inr 2000), some (.inr 0), some (.inr 120), some (.inl (nI i))] [] σ 140 6165 Z := by
  refine kg_aload_n dL_law_736 (pc' := 737) rfl rfl rfl ?_
  refine kg_aload_n dL_law_737 (pc' := 738) rfl rfl rfl ?_
  refine kg_iload_n dL_law_738 (pc' := 739) rfl rfl rfl ?_
  refine kg_iconst dL_law_739 (pc' := 740) rfl kc_1 ?_
  refine kg_iadd dL_law_740 (pc' := 741) rfl ?_
  refine kg_sld hX (law_in 1 (by decide) hi6 hL) dL_law_741 (pc' := 742) rfl ?_
  refine kg_aload_n dL_law_742 (pc' := 743) rfl rfl rfl ?_
  refine kg_iload_n dL_law_743 (pc' := 744) rfl rfl rfl ?_
  refine kg_iconst dL_law_744 (pc' := 745) rfl kc_2 ?_
  refine kg_iadd dL_law_745 (pc' := 746) rfl ?_
  refine kg_sld hX (law_in 2 (by decide) hi6 hL) dL_law_746 (pc' := 747) rfl ?_
  obtain ⟨r, σ1, σ2, h10, h11, hI2⟩ := hS σ (xs (nI i + 1).toNatClampNeg) (xs (nI i + 2).toNatClampNeg) hI
  obtain ⟨h10, rfl⟩ := h10
  refine kgVi (as := [.inl (xs (nI i + 1).toNatClampNeg), .inl (xs (nI i + 2).toNatClampNeg)]) (st := []) l_RL_98 (m_X10_point (kOk_fu (by decide)) σ1 (xs (nI i + 1).toNatClampNeg) (xs (nI i + 2).toNatClampNeg) h10) rfl (Nat.le_of_ble_eq_true rfl : 0 < 140) rfl ⟨⟨rfl, rfl⟩, Nat.le_of_ble_eq_true rfl, Nat.le_of_ble_eq_true rfl⟩ ⟨Nat.le_of_ble_eq_true rfl, Nat.le_of_ble_eq_true rfl⟩ (Nat.le_of_ble_eq_true rfl) dL_law_747 (pc' := 750) rfl ?_
  refine kg_aload_n dL_law_750 (pc' := 751) rfl rfl rfl ?_
  refine kg_aload_n dL_law_751 (pc' := 752) rfl rfl rfl ?_
  refine kg_iload_n dL_law_752 (pc' := 753) rfl rfl rfl ?_
  refine kg_iconst dL_law_753 (pc' := 754) rfl kc_1 ?_
  refine kg_iadd dL_law_754 (pc' := 755) rfl ?_
  refine kg_sld hX (law_in 1 (by decide) hi6 hL) dL_law_755 (pc' := 756) rfl ?_
  refine kg_aload_n dL_law_756 (pc' := 757) rfl rfl rfl ?_
  refine kg_iload_n dL_law_757 (pc' := 758) rfl rfl rfl ?_
  refine kg_iconst dL_law_758 (pc' := 759) rfl kc_2 ?_
  refine kg_iadd dL_law_759 (pc' := 760) rfl ?_
  refine kg_sld hX (law_in 2 (by decide) hi6 hL) dL_law_760 (pc' := 761) rfl ?_
  refine kgVi (as := [.inl (xs (nI i + 1).toNatClampNeg), .inl (xs (nI i + 2).toNatClampNeg)]) (st := [.inl r]) l_RL_101 (m_X11_point (kOk_fu (by decide)) σ1 (xs (nI i + 1).toNatClampNeg) (xs (nI i + 2).toNatClampNeg) h11) rfl (Nat.le_of_ble_eq_true rfl : 120 < 140) rfl ⟨⟨rfl, rfl⟩, Nat.le_of_ble_eq_true rfl, Nat.le_of_ble_eq_true rfl⟩ ⟨Nat.le_of_ble_eq_true rfl, Nat.le_of_ble_eq_true rfl⟩ (Nat.le_of_ble_eq_true rfl) dL_law_761 (pc' := 764) rfl ?_
  refine kg_icmp_eq dL_law_764 (tgt := 1566) rfl (pc' := 767) rfl (fun _ => ?_) (fun c => absurd rfl c)
  exact kk _ hI2
set_option maxRecDepth 100000 in
set_option maxHeartbeats 1000000 in
theorem case_21 {E0 : JE} {nm : String} {Z : List Frame → Array Value → State → State → Prop} {b L i : Nat} {xs : Nat → Int32} {Inv : Wd → Prop} (hXt : kHX E0) (hX : kXS (kFu E0 140) b L xs) (hL : L ≤ 3072) (hi6 : i + 6 ≤ L) (hS : S_family Inv) (kk : ∀ σ, Inv σ → KG (kFu E0 140) mL_law room_1 nm 0 1566 [some (.inr 2000), some (.inr 0), some (.inr 120), some (.inl (nI i))] [] σ 140 6165 Z) (σ : Wd) (hI : Inv σ) : KG (kFu E0 140) mL_law room_1 nm 0 769 [some (.inr 2000), some (.inr 0), some (.inr 120), some (.inl (nI i))] [] σ 140 6165 Z := by
  refine kg_aload_n dL_law_769 (pc' := 770) rfl rfl rfl ?_
  refine kg_aload_n dL_law_770 (pc' := 771) rfl rfl rfl ?_
  refine kg_iload_n dL_law_771 (pc' := 772) rfl rfl rfl ?_
  refine kg_iconst dL_law_772 (pc' := 773) rfl kc_1 ?_
  refine kg_iadd dL_law_773 (pc' := 774) rfl ?_
  refine kg_sld hX (law_in 1 (by decide) hi6 hL) dL_law_774 (pc' := 775) rfl ?_
  obtain ⟨r, σ1, σ2, h10, h11, hI2⟩ := hS σ (xs (nI i + 1).toNatClampNeg) hI
  refine kgVi (as := [.inl (xs (nI i + 1).toNatClampNeg)]) (st := []) l_RL_102 (m_X10_family (kOk_fu (by decide)) σ (xs (nI i + 1).toNatClampNeg) h10) rfl (Nat.le_of_ble_eq_true rfl : 0 < 140) rfl ⟨⟨rfl, rfl⟩, Nat.le_of_ble_eq_true rfl, Nat.le_of_ble_eq_true rfl⟩ ⟨Nat.le_of_ble_eq_true rfl, Nat.le_of_ble_eq_true rfl⟩ (Nat.le_of_ble_eq_true rfl) dL_law_775 (pc' := 778) rfl ?_
  refine kg_aload_n dL_law_778 (pc' := 779) rfl rfl rfl ?_
  refine kg_aload_n dL_law_779 (pc' := 780) rfl rfl rfl ?_
  refine kg_iload_n dL_law_780 (pc' := 781) rfl rfl rfl ?_
  refine kg_iconst dL_law_781 (pc' := 782) rfl kc_1 ?_
  refine kg_iadd dL_law_782 (pc' := 783) rfl ?_
  refine kg_sld hX (law_in 1 (by decide) hi6 hL) dL_law_783 (pc' := 784) rfl ?_
  refine kgVi (as := [.inl (xs (nI i + 1).toNatClampNeg)]) (st := [.inl r]) l_RL_105 (m_X11_family (kOk_fu (by decide)) σ1 (xs (nI i + 1).toNatClampNeg) h11) rfl (Nat.le_of_ble_eq_true rfl : 120 < 140) rfl ⟨⟨rfl, rfl⟩, Nat.le_of_ble_eq_true rfl, Nat.le_of_ble_eq_true rfl⟩ ⟨Nat.le_of_ble_eq_true rfl, Nat.le_of_ble_eq_true rfl⟩ (Nat.le_of_ble_eq_true rfl) dL_law_784 (pc' := 787) rfl ?_
  refine kg_icmp_eq dL_law_787 (tgt := 1566) rfl (pc' := 790) rfl (fun _ => ?_) (fun c => absurd rfl c)
  exact kk _ hI2
set_option maxRecDepth 100000 in
set_option maxHeartbeats 1000000 in
theorem case_22 {E0 : JE} {nm : String} {Z : List Frame → Array Value → State → State → Prop} {b L i : Nat} {xs : Nat → Int32} {Inv : Wd → Prop} (hXt : kHX E0) (hX : kXS (kFu E0 140) b L xs) (hL : L ≤ 3072) (hi6 : i + 6 ≤ L) (hS : S_sized Inv) (kk : ∀ σ, Inv σ → KG (kFu E0 140) mL_law room_1 nm 0 1566 [some (.inr 2000), some (.inr 0), some (.inr 120), some (.inl (nI i))] [] σ 140 6165 Z) (σ : Wd) (hI : Inv σ) : KG (kFu E0 140) mL_law room_1 nm 0 792 [some (.inr 2000), some (.inr 0), some (.inr 120), some (.inl (nI i))] [] σ 140 6165 Z := by
  refine kg_aload_n dL_law_792 (pc' := 793) rfl rfl rfl ?_
  refine kg_aload_n dL_law_793 (pc' := 794) rfl rfl rfl ?_
  refine kg_iload_n dL_law_794 (pc' := 795) rfl rfl rfl ?_
  refine kg_iconst dL_law_795 (pc' := 796) rfl kc_1 ?_
  refine kg_iadd dL_law_796 (pc' := 797) rfl ?_
  refine kg_sld hX (law_in 1 (by decide) hi6 hL) dL_law_797 (pc' := 798) rfl ?_
  obtain ⟨r, σ1, σ2, h10, h11, hI2⟩ := hS σ (xs (nI i + 1).toNatClampNeg) hI
  obtain ⟨h10, rfl⟩ := h10
  refine kgVi (as := [.inl (xs (nI i + 1).toNatClampNeg)]) (st := []) l_RL_106 (m_X10_sized (kOk_fu (by decide)) σ1 (xs (nI i + 1).toNatClampNeg) h10) rfl (Nat.le_of_ble_eq_true rfl : 0 < 140) rfl ⟨⟨rfl, rfl⟩, Nat.le_of_ble_eq_true rfl, Nat.le_of_ble_eq_true rfl⟩ ⟨Nat.le_of_ble_eq_true rfl, Nat.le_of_ble_eq_true rfl⟩ (Nat.le_of_ble_eq_true rfl) dL_law_798 (pc' := 801) rfl ?_
  refine kg_aload_n dL_law_801 (pc' := 802) rfl rfl rfl ?_
  refine kg_aload_n dL_law_802 (pc' := 803) rfl rfl rfl ?_
  refine kg_iload_n dL_law_803 (pc' := 804) rfl rfl rfl ?_
  refine kg_iconst dL_law_804 (pc' := 805) rfl kc_1 ?_
  refine kg_iadd dL_law_805 (pc' := 806) rfl ?_
  refine kg_sld hX (law_in 1 (by decide) hi6 hL) dL_law_806 (pc' := 807) rfl ?_
  refine kgVi (as := [.inl (xs (nI i + 1).toNatClampNeg)]) (st := [.inl r]) l_RL_109 (m_X11_sized (kOk_fu (by decide)) σ1 (xs (nI i + 1).toNatClampNeg) h11) rfl (Nat.le_of_ble_eq_true rfl : 120 < 140) rfl ⟨⟨rfl, rfl⟩, Nat.le_of_ble_eq_true rfl, Nat.le_of_ble_eq_true rfl⟩ ⟨Nat.le_of_ble_eq_true rfl, Nat.le_of_ble_eq_true rfl⟩ (Nat.le_of_ble_eq_true rfl) dL_law_807 (pc' := 810) rfl ?_
  refine kg_icmp_eq dL_law_810 (tgt := 1566) rfl (pc' := 813) rfl (fun _ => ?_) (fun c => absurd rfl c)
  exact kk _ hI2
set_option maxRecDepth 100000 in
set_option maxHeartbeats 1000000 in
theorem case_23 {E0 : JE} {nm : String} {Z : List Frame → Array Value → State → State → Prop} {b L i : Nat} {xs : Nat → Int32} {Inv : Wd → Prop} (hXt : kHX E0) (hX : kXS (kFu E0 140) b L xs) (hL : L ≤ 3072) (hi6 : i + 6 ≤ L) (hS : S_mean Inv) (kk : ∀ σ, Inv σ → KG (kFu E0 140) mL_law room_1 nm 0 1566 [some (.inr 2000), some (.inr 0), some (.inr 120), some (.inl (nI i))] [] σ 140 6165 Z) (σ : Wd) (hI : Inv σ) : KG (kFu E0 140) mL_law room_1 nm 0 815 [some (.inr 2000), some (.inr 0), some (.inr 120), some (.inl (nI i))] [] σ 140 6165 Z := by
  refine kg_aload_n dL_law_815 (pc' := 816) rfl rfl rfl ?_
  refine kg_aload_n dL_law_816 (pc' := 817) rfl rfl rfl ?_
  refine kg_iload_n dL_law_817 (pc' := 818) rfl rfl rfl ?_
  refine kg_iconst dL_law_818 (pc' := 819) rfl kc_1 ?_
  refine kg_iadd dL_law_819 (pc' := 820) rfl ?_
  refine kg_sld hX (law_in 1 (by decide) hi6 hL) dL_law_820 (pc' := 821) rfl ?_
  refine kg_aload_n dL_law_821 (pc' := 822) rfl rfl rfl ?_
  refine kg_iload_n dL_law_822 (pc' := 823) rfl rfl rfl ?_
  refine kg_iconst dL_law_823 (pc' := 824) rfl kc_2 ?_
  refine kg_iadd dL_law_824 (pc' := 825) rfl ?_
  refine kg_sld hX (law_in 2 (by decide) hi6 hL) dL_law_825 (pc' := 826) rfl ?_
  refine kg_if_eq dL_law_826 (tgt := 833) rfl (pc' := 829) rfl (fun cz1 => ?_) (fun cz1 => ?_)
  · refine kg_iconst dL_law_833 (pc' := 834) rfl kc_0 ?_
    obtain ⟨r, σ1, σ2, h10, h11, hI2⟩ := hS σ (xs (nI i + 1).toNatClampNeg) 0 hI (Or.inl rfl)
    obtain ⟨h10, rfl⟩ := h10
    refine kgVi (as := [.inl (xs (nI i + 1).toNatClampNeg), .inl 0]) (st := []) l_RL_110 (m_X10_mean (kOk_fu (by decide)) σ1 (xs (nI i + 1).toNatClampNeg) 0 h10) rfl (Nat.le_of_ble_eq_true rfl : 0 < 140) rfl ⟨⟨rfl, rfl⟩, Nat.le_of_ble_eq_true rfl, Nat.le_of_ble_eq_true rfl⟩ ⟨Nat.le_of_ble_eq_true rfl, Nat.le_of_ble_eq_true rfl⟩ (Nat.le_of_ble_eq_true rfl) dL_law_834 (pc' := 837) rfl ?_
    refine kg_aload_n dL_law_837 (pc' := 838) rfl rfl rfl ?_
    refine kg_aload_n dL_law_838 (pc' := 839) rfl rfl rfl ?_
    refine kg_iload_n dL_law_839 (pc' := 840) rfl rfl rfl ?_
    refine kg_iconst dL_law_840 (pc' := 841) rfl kc_1 ?_
    refine kg_iadd dL_law_841 (pc' := 842) rfl ?_
    refine kg_sld hX (law_in 1 (by decide) hi6 hL) dL_law_842 (pc' := 843) rfl ?_
    refine kg_aload_n dL_law_843 (pc' := 844) rfl rfl rfl ?_
    refine kg_iload_n dL_law_844 (pc' := 845) rfl rfl rfl ?_
    refine kg_iconst dL_law_845 (pc' := 846) rfl kc_2 ?_
    refine kg_iadd dL_law_846 (pc' := 847) rfl ?_
    refine kg_sld hX (law_in 2 (by decide) hi6 hL) dL_law_847 (pc' := 848) rfl ?_
    refine kg_if_eq dL_law_848 (tgt := 855) rfl (pc' := 851) rfl (fun _ => ?_) (fun c => absurd cz1 c)
    refine kg_iconst dL_law_855 (pc' := 856) rfl kc_0 ?_
    refine kgVi (as := [.inl (xs (nI i + 1).toNatClampNeg), .inl 0]) (st := [.inl r]) l_RL_114 (m_X11_mean (kOk_fu (by decide)) σ1 (xs (nI i + 1).toNatClampNeg) 0 h11) rfl (Nat.le_of_ble_eq_true rfl : 120 < 140) rfl ⟨⟨rfl, rfl⟩, Nat.le_of_ble_eq_true rfl, Nat.le_of_ble_eq_true rfl⟩ ⟨Nat.le_of_ble_eq_true rfl, Nat.le_of_ble_eq_true rfl⟩ (Nat.le_of_ble_eq_true rfl) dL_law_856 (pc' := 859) rfl ?_
    refine kg_icmp_eq dL_law_859 (tgt := 1566) rfl (pc' := 862) rfl (fun _ => ?_) (fun c => absurd rfl c)
    exact kk _ hI2
  · refine kg_iconst dL_law_829 (pc' := 830) rfl kc_1 ?_
    refine kg_goto dL_law_830 (pc' := 834) rfl ?_
    obtain ⟨r, σ1, σ2, h10, h11, hI2⟩ := hS σ (xs (nI i + 1).toNatClampNeg) 1 hI (Or.inr rfl)
    obtain ⟨h10, rfl⟩ := h10
    refine kgVi (as := [.inl (xs (nI i + 1).toNatClampNeg), .inl 1]) (st := []) l_RL_110 (m_X10_mean (kOk_fu (by decide)) σ1 (xs (nI i + 1).toNatClampNeg) 1 h10) rfl (Nat.le_of_ble_eq_true rfl : 0 < 140) rfl ⟨⟨rfl, rfl⟩, Nat.le_of_ble_eq_true rfl, Nat.le_of_ble_eq_true rfl⟩ ⟨Nat.le_of_ble_eq_true rfl, Nat.le_of_ble_eq_true rfl⟩ (Nat.le_of_ble_eq_true rfl) dL_law_834 (pc' := 837) rfl ?_
    refine kg_aload_n dL_law_837 (pc' := 838) rfl rfl rfl ?_
    refine kg_aload_n dL_law_838 (pc' := 839) rfl rfl rfl ?_
    refine kg_iload_n dL_law_839 (pc' := 840) rfl rfl rfl ?_
    refine kg_iconst dL_law_840 (pc' := 841) rfl kc_1 ?_
    refine kg_iadd dL_law_841 (pc' := 842) rfl ?_
    refine kg_sld hX (law_in 1 (by decide) hi6 hL) dL_law_842 (pc' := 843) rfl ?_
    refine kg_aload_n dL_law_843 (pc' := 844) rfl rfl rfl ?_
    refine kg_iload_n dL_law_844 (pc' := 845) rfl rfl rfl ?_
    refine kg_iconst dL_law_845 (pc' := 846) rfl kc_2 ?_
    refine kg_iadd dL_law_846 (pc' := 847) rfl ?_
    refine kg_sld hX (law_in 2 (by decide) hi6 hL) dL_law_847 (pc' := 848) rfl ?_
    refine kg_if_eq dL_law_848 (tgt := 855) rfl (pc' := 851) rfl (fun c => absurd c cz1) (fun _ => ?_)
    refine kg_iconst dL_law_851 (pc' := 852) rfl kc_1 ?_
    refine kg_goto dL_law_852 (pc' := 856) rfl ?_
    refine kgVi (as := [.inl (xs (nI i + 1).toNatClampNeg), .inl 1]) (st := [.inl r]) l_RL_114 (m_X11_mean (kOk_fu (by decide)) σ1 (xs (nI i + 1).toNatClampNeg) 1 h11) rfl (Nat.le_of_ble_eq_true rfl : 120 < 140) rfl ⟨⟨rfl, rfl⟩, Nat.le_of_ble_eq_true rfl, Nat.le_of_ble_eq_true rfl⟩ ⟨Nat.le_of_ble_eq_true rfl, Nat.le_of_ble_eq_true rfl⟩ (Nat.le_of_ble_eq_true rfl) dL_law_856 (pc' := 859) rfl ?_
    refine kg_icmp_eq dL_law_859 (tgt := 1566) rfl (pc' := 862) rfl (fun _ => ?_) (fun c => absurd rfl c)
    exact kk _ hI2
set_option maxRecDepth 100000 in
set_option maxHeartbeats 1000000 in
theorem case_24 {E0 : JE} {nm : String} {Z : List Frame → Array Value → State → State → Prop} {b L i : Nat} {xs : Nat → Int32} {Inv : Wd → Prop} (hXt : kHX E0) (hX : kXS (kFu E0 140) b L xs) (hL : L ≤ 3072) (hi6 : i + 6 ≤ L) (hS : S_mass Inv) (kk : ∀ σ, Inv σ → KG (kFu E0 140) mL_law room_1 nm 0 1566 [some (.inr 2000), some (.inr 0), some (.inr 120), some (.inl (nI i))] [] σ 140 6165 Z) (σ : Wd) (hI : Inv σ) : KG (kFu E0 140) mL_law room_1 nm 0 864 [some (.inr 2000), some (.inr 0), some (.inr 120), some (.inl (nI i))] [] σ 140 6165 Z := by
  refine kg_aload_n dL_law_864 (pc' := 865) rfl rfl rfl ?_
  refine kg_aload_n dL_law_865 (pc' := 866) rfl rfl rfl ?_
  refine kg_iload_n dL_law_866 (pc' := 867) rfl rfl rfl ?_
  refine kg_iconst dL_law_867 (pc' := 868) rfl kc_1 ?_
  refine kg_iadd dL_law_868 (pc' := 869) rfl ?_
  refine kg_sld hX (law_in 1 (by decide) hi6 hL) dL_law_869 (pc' := 870) rfl ?_
  obtain ⟨r, σ1, σ2, h10, h11, hI2⟩ := hS σ (xs (nI i + 1).toNatClampNeg) hI
  obtain ⟨h10, rfl⟩ := h10
  refine kgVi (as := [.inl (xs (nI i + 1).toNatClampNeg)]) (st := []) l_RL_115 (m_X10_mass (kOk_fu (by decide)) σ1 (xs (nI i + 1).toNatClampNeg) h10) rfl (Nat.le_of_ble_eq_true rfl : 0 < 140) rfl ⟨⟨rfl, rfl⟩, Nat.le_of_ble_eq_true rfl, Nat.le_of_ble_eq_true rfl⟩ ⟨Nat.le_of_ble_eq_true rfl, Nat.le_of_ble_eq_true rfl⟩ (Nat.le_of_ble_eq_true rfl) dL_law_870 (pc' := 873) rfl ?_
  refine kg_aload_n dL_law_873 (pc' := 874) rfl rfl rfl ?_
  refine kg_aload_n dL_law_874 (pc' := 875) rfl rfl rfl ?_
  refine kg_iload_n dL_law_875 (pc' := 876) rfl rfl rfl ?_
  refine kg_iconst dL_law_876 (pc' := 877) rfl kc_1 ?_
  refine kg_iadd dL_law_877 (pc' := 878) rfl ?_
  refine kg_sld hX (law_in 1 (by decide) hi6 hL) dL_law_878 (pc' := 879) rfl ?_
  obtain ⟨h11, rfl⟩ := h11
  refine kgVi (as := [.inl (xs (nI i + 1).toNatClampNeg)]) (st := [.inl r]) l_RL_118 (m_X11_mass (kOk_fu (by decide)) σ2 (xs (nI i + 1).toNatClampNeg) h11) rfl (Nat.le_of_ble_eq_true rfl : 120 < 140) rfl ⟨⟨rfl, rfl⟩, Nat.le_of_ble_eq_true rfl, Nat.le_of_ble_eq_true rfl⟩ ⟨Nat.le_of_ble_eq_true rfl, Nat.le_of_ble_eq_true rfl⟩ (Nat.le_of_ble_eq_true rfl) dL_law_879 (pc' := 882) rfl ?_
  refine kg_icmp_eq dL_law_882 (tgt := 1566) rfl (pc' := 885) rfl (fun _ => ?_) (fun c => absurd rfl c)
  exact kk _ hI2
set_option maxRecDepth 100000 in
set_option maxHeartbeats 1000000 in
theorem case_25 {E0 : JE} {nm : String} {Z : List Frame → Array Value → State → State → Prop} {b L i : Nat} {xs : Nat → Int32} {Inv : Wd → Prop} (hXt : kHX E0) (hX : kXS (kFu E0 140) b L xs) (hL : L ≤ 3072) (hi6 : i + 6 ≤ L) (hS : S_inner Inv) (kk : ∀ σ, Inv σ → KG (kFu E0 140) mL_law room_1 nm 0 1566 [some (.inr 2000), some (.inr 0), some (.inr 120), some (.inl (nI i))] [] σ 140 6165 Z) (σ : Wd) (hI : Inv σ) : KG (kFu E0 140) mL_law room_1 nm 0 887 [some (.inr 2000), some (.inr 0), some (.inr 120), some (.inl (nI i))] [] σ 140 6165 Z := by
  refine kg_aload_n dL_law_887 (pc' := 888) rfl rfl rfl ?_
  refine kg_aload_n dL_law_888 (pc' := 889) rfl rfl rfl ?_
  refine kg_iload_n dL_law_889 (pc' := 890) rfl rfl rfl ?_
  refine kg_iconst dL_law_890 (pc' := 891) rfl kc_1 ?_
  refine kg_iadd dL_law_891 (pc' := 892) rfl ?_
  refine kg_sld hX (law_in 1 (by decide) hi6 hL) dL_law_892 (pc' := 893) rfl ?_
  obtain ⟨r, σ1, σ2, h10, h11, hI2⟩ := hS σ (xs (nI i + 1).toNatClampNeg) hI
  obtain ⟨h10, rfl⟩ := h10
  refine kgVi (as := [.inl (xs (nI i + 1).toNatClampNeg)]) (st := []) l_RL_119 (m_X10_inner (kOk_fu (by decide)) σ1 (xs (nI i + 1).toNatClampNeg) h10) rfl (Nat.le_of_ble_eq_true rfl : 0 < 140) rfl ⟨⟨rfl, rfl⟩, Nat.le_of_ble_eq_true rfl, Nat.le_of_ble_eq_true rfl⟩ ⟨Nat.le_of_ble_eq_true rfl, Nat.le_of_ble_eq_true rfl⟩ (Nat.le_of_ble_eq_true rfl) dL_law_893 (pc' := 896) rfl ?_
  refine kg_aload_n dL_law_896 (pc' := 897) rfl rfl rfl ?_
  refine kg_aload_n dL_law_897 (pc' := 898) rfl rfl rfl ?_
  refine kg_iload_n dL_law_898 (pc' := 899) rfl rfl rfl ?_
  refine kg_iconst dL_law_899 (pc' := 900) rfl kc_1 ?_
  refine kg_iadd dL_law_900 (pc' := 901) rfl ?_
  refine kg_sld hX (law_in 1 (by decide) hi6 hL) dL_law_901 (pc' := 902) rfl ?_
  refine kgVi (as := [.inl (xs (nI i + 1).toNatClampNeg)]) (st := [.inl r]) l_RL_122 (m_X11_inner (kOk_fu (by decide)) σ1 (xs (nI i + 1).toNatClampNeg) h11) rfl (Nat.le_of_ble_eq_true rfl : 120 < 140) rfl ⟨⟨rfl, rfl⟩, Nat.le_of_ble_eq_true rfl, Nat.le_of_ble_eq_true rfl⟩ ⟨Nat.le_of_ble_eq_true rfl, Nat.le_of_ble_eq_true rfl⟩ (Nat.le_of_ble_eq_true rfl) dL_law_902 (pc' := 905) rfl ?_
  refine kg_icmp_eq dL_law_905 (tgt := 1566) rfl (pc' := 908) rfl (fun _ => ?_) (fun c => absurd rfl c)
  exact kk _ hI2
set_option maxRecDepth 100000 in
set_option maxHeartbeats 1000000 in
theorem case_26 {E0 : JE} {nm : String} {Z : List Frame → Array Value → State → State → Prop} {b L i : Nat} {xs : Nat → Int32} {Inv : Wd → Prop} (hXt : kHX E0) (hX : kXS (kFu E0 140) b L xs) (hL : L ≤ 3072) (hi6 : i + 6 ≤ L) (hS : S_hull Inv) (kk : ∀ σ, Inv σ → KG (kFu E0 140) mL_law room_1 nm 0 1566 [some (.inr 2000), some (.inr 0), some (.inr 120), some (.inl (nI i))] [] σ 140 6165 Z) (σ : Wd) (hI : Inv σ) : KG (kFu E0 140) mL_law room_1 nm 0 910 [some (.inr 2000), some (.inr 0), some (.inr 120), some (.inl (nI i))] [] σ 140 6165 Z := by
  refine kg_aload_n dL_law_910 (pc' := 911) rfl rfl rfl ?_
  refine kg_aload_n dL_law_911 (pc' := 912) rfl rfl rfl ?_
  refine kg_iload_n dL_law_912 (pc' := 913) rfl rfl rfl ?_
  refine kg_iconst dL_law_913 (pc' := 914) rfl kc_1 ?_
  refine kg_iadd dL_law_914 (pc' := 915) rfl ?_
  refine kg_sld hX (law_in 1 (by decide) hi6 hL) dL_law_915 (pc' := 916) rfl ?_
  obtain ⟨r, σ1, σ2, h10, h11, hI2⟩ := hS σ (xs (nI i + 1).toNatClampNeg) hI
  obtain ⟨h10, rfl⟩ := h10
  refine kgVi (as := [.inl (xs (nI i + 1).toNatClampNeg)]) (st := []) l_RL_123 (m_X10_hull (kOk_fu (by decide)) σ1 (xs (nI i + 1).toNatClampNeg) h10) rfl (Nat.le_of_ble_eq_true rfl : 0 < 140) rfl ⟨⟨rfl, rfl⟩, Nat.le_of_ble_eq_true rfl, Nat.le_of_ble_eq_true rfl⟩ ⟨Nat.le_of_ble_eq_true rfl, Nat.le_of_ble_eq_true rfl⟩ (Nat.le_of_ble_eq_true rfl) dL_law_916 (pc' := 919) rfl ?_
  refine kg_aload_n dL_law_919 (pc' := 920) rfl rfl rfl ?_
  refine kg_aload_n dL_law_920 (pc' := 921) rfl rfl rfl ?_
  refine kg_iload_n dL_law_921 (pc' := 922) rfl rfl rfl ?_
  refine kg_iconst dL_law_922 (pc' := 923) rfl kc_1 ?_
  refine kg_iadd dL_law_923 (pc' := 924) rfl ?_
  refine kg_sld hX (law_in 1 (by decide) hi6 hL) dL_law_924 (pc' := 925) rfl ?_
  refine kgVi (as := [.inl (xs (nI i + 1).toNatClampNeg)]) (st := [.inl r]) l_RL_126 (m_X11_hull (kOk_fu (by decide)) σ1 (xs (nI i + 1).toNatClampNeg) h11) rfl (Nat.le_of_ble_eq_true rfl : 120 < 140) rfl ⟨⟨rfl, rfl⟩, Nat.le_of_ble_eq_true rfl, Nat.le_of_ble_eq_true rfl⟩ ⟨Nat.le_of_ble_eq_true rfl, Nat.le_of_ble_eq_true rfl⟩ (Nat.le_of_ble_eq_true rfl) dL_law_925 (pc' := 928) rfl ?_
  refine kg_icmp_eq dL_law_928 (tgt := 1566) rfl (pc' := 931) rfl (fun _ => ?_) (fun c => absurd rfl c)
  exact kk _ hI2
set_option maxRecDepth 100000 in
set_option maxHeartbeats 1000000 in
theorem case_27 {E0 : JE} {nm : String} {Z : List Frame → Array Value → State → State → Prop} {b L i : Nat} {xs : Nat → Int32} {Inv : Wd → Prop} (hXt : kHX E0) (hX : kXS (kFu E0 140) b L xs) (hL : L ≤ 3072) (hi6 : i + 6 ≤ L) (hS : S_trace Inv) (kk : ∀ σ, Inv σ → KG (kFu E0 140) mL_law room_1 nm 0 1566 [some (.inr 2000), some (.inr 0), some (.inr 120), some (.inl (nI i))] [] σ 140 6165 Z) (σ : Wd) (hI : Inv σ) : KG (kFu E0 140) mL_law room_1 nm 0 933 [some (.inr 2000), some (.inr 0), some (.inr 120), some (.inl (nI i))] [] σ 140 6165 Z := by
  refine kg_aload_n dL_law_933 (pc' := 934) rfl rfl rfl ?_
  refine kg_aload_n dL_law_934 (pc' := 935) rfl rfl rfl ?_
  refine kg_iload_n dL_law_935 (pc' := 936) rfl rfl rfl ?_
  refine kg_iconst dL_law_936 (pc' := 937) rfl kc_1 ?_
  refine kg_iadd dL_law_937 (pc' := 938) rfl ?_
  refine kg_sld hX (law_in 1 (by decide) hi6 hL) dL_law_938 (pc' := 939) rfl ?_
  refine kg_aload_n dL_law_939 (pc' := 940) rfl rfl rfl ?_
  refine kg_iload_n dL_law_940 (pc' := 941) rfl rfl rfl ?_
  refine kg_iconst dL_law_941 (pc' := 942) rfl kc_2 ?_
  refine kg_iadd dL_law_942 (pc' := 943) rfl ?_
  refine kg_sld hX (law_in 2 (by decide) hi6 hL) dL_law_943 (pc' := 944) rfl ?_
  obtain ⟨r, σ1, σ2, h10, h11, hI2⟩ := hS σ (xs (nI i + 1).toNatClampNeg) (xs (nI i + 2).toNatClampNeg) hI
  refine kgVi (as := [.inl (xs (nI i + 1).toNatClampNeg), .inl (xs (nI i + 2).toNatClampNeg)]) (st := []) l_RL_127 (m_X10_trace (kOk_fu (by decide)) σ (xs (nI i + 1).toNatClampNeg) (xs (nI i + 2).toNatClampNeg) h10) rfl (Nat.le_of_ble_eq_true rfl : 0 < 140) rfl ⟨⟨rfl, rfl⟩, Nat.le_of_ble_eq_true rfl, Nat.le_of_ble_eq_true rfl⟩ ⟨Nat.le_of_ble_eq_true rfl, Nat.le_of_ble_eq_true rfl⟩ (Nat.le_of_ble_eq_true rfl) dL_law_944 (pc' := 947) rfl ?_
  refine kg_aload_n dL_law_947 (pc' := 948) rfl rfl rfl ?_
  refine kg_aload_n dL_law_948 (pc' := 949) rfl rfl rfl ?_
  refine kg_iload_n dL_law_949 (pc' := 950) rfl rfl rfl ?_
  refine kg_iconst dL_law_950 (pc' := 951) rfl kc_1 ?_
  refine kg_iadd dL_law_951 (pc' := 952) rfl ?_
  refine kg_sld hX (law_in 1 (by decide) hi6 hL) dL_law_952 (pc' := 953) rfl ?_
  refine kg_aload_n dL_law_953 (pc' := 954) rfl rfl rfl ?_
  refine kg_iload_n dL_law_954 (pc' := 955) rfl rfl rfl ?_
  refine kg_iconst dL_law_955 (pc' := 956) rfl kc_2 ?_
  refine kg_iadd dL_law_956 (pc' := 957) rfl ?_
  refine kg_sld hX (law_in 2 (by decide) hi6 hL) dL_law_957 (pc' := 958) rfl ?_
  refine kgVi (as := [.inl (xs (nI i + 1).toNatClampNeg), .inl (xs (nI i + 2).toNatClampNeg)]) (st := [.inl r]) l_RL_130 (m_X11_trace (kOk_fu (by decide)) σ1 (xs (nI i + 1).toNatClampNeg) (xs (nI i + 2).toNatClampNeg) h11) rfl (Nat.le_of_ble_eq_true rfl : 120 < 140) rfl ⟨⟨rfl, rfl⟩, Nat.le_of_ble_eq_true rfl, Nat.le_of_ble_eq_true rfl⟩ ⟨Nat.le_of_ble_eq_true rfl, Nat.le_of_ble_eq_true rfl⟩ (Nat.le_of_ble_eq_true rfl) dL_law_958 (pc' := 961) rfl ?_
  refine kg_icmp_eq dL_law_961 (tgt := 1566) rfl (pc' := 964) rfl (fun _ => ?_) (fun c => absurd rfl c)
  exact kk _ hI2
set_option maxRecDepth 100000 in
set_option maxHeartbeats 1000000 in
theorem case_28 {E0 : JE} {nm : String} {Z : List Frame → Array Value → State → State → Prop} {b L i : Nat} {xs : Nat → Int32} {Inv : Wd → Prop} (hXt : kHX E0) (hX : kXS (kFu E0 140) b L xs) (hL : L ≤ 3072) (hi6 : i + 6 ≤ L) (hS : S_part Inv) (kk : ∀ σ, Inv σ → KG (kFu E0 140) mL_law room_1 nm 0 1566 [some (.inr 2000), some (.inr 0), some (.inr 120), some (.inl (nI i))] [] σ 140 6165 Z) (σ : Wd) (hI : Inv σ) : KG (kFu E0 140) mL_law room_1 nm 0 966 [some (.inr 2000), some (.inr 0), some (.inr 120), some (.inl (nI i))] [] σ 140 6165 Z := by
  refine kg_aload_n dL_law_966 (pc' := 967) rfl rfl rfl ?_
  refine kg_aload_n dL_law_967 (pc' := 968) rfl rfl rfl ?_
  refine kg_iload_n dL_law_968 (pc' := 969) rfl rfl rfl ?_
  refine kg_iconst dL_law_969 (pc' := 970) rfl kc_1 ?_
  refine kg_iadd dL_law_970 (pc' := 971) rfl ?_
  refine kg_sld hX (law_in 1 (by decide) hi6 hL) dL_law_971 (pc' := 972) rfl ?_
  refine kg_aload_n dL_law_972 (pc' := 973) rfl rfl rfl ?_
  refine kg_iload_n dL_law_973 (pc' := 974) rfl rfl rfl ?_
  refine kg_iconst dL_law_974 (pc' := 975) rfl kc_2 ?_
  refine kg_iadd dL_law_975 (pc' := 976) rfl ?_
  refine kg_sld hX (law_in 2 (by decide) hi6 hL) dL_law_976 (pc' := 977) rfl ?_
  refine kg_if_eq dL_law_977 (tgt := 984) rfl (pc' := 980) rfl (fun cz1 => ?_) (fun cz1 => ?_)
  · refine kg_iconst dL_law_984 (pc' := 985) rfl kc_0 ?_
    refine kg_aload_n dL_law_985 (pc' := 986) rfl rfl rfl ?_
    refine kg_iload_n dL_law_986 (pc' := 987) rfl rfl rfl ?_
    refine kg_iconst dL_law_987 (pc' := 988) rfl kc_3 ?_
    refine kg_iadd dL_law_988 (pc' := 989) rfl ?_
    refine kg_sld hX (law_in 3 (by decide) hi6 hL) dL_law_989 (pc' := 990) rfl ?_
    obtain ⟨r, σ1, σ2, h10, h11, hI2⟩ := hS σ (xs (nI i + 1).toNatClampNeg) 0 (xs (nI i + 3).toNatClampNeg) hI (Or.inl rfl)
    obtain ⟨h10, rfl⟩ := h10
    refine kgVi (as := [.inl (xs (nI i + 1).toNatClampNeg), .inl 0, .inl (xs (nI i + 3).toNatClampNeg)]) (st := []) l_RL_131 (m_X10_part (kOk_fu (by decide)) σ1 (xs (nI i + 1).toNatClampNeg) 0 (xs (nI i + 3).toNatClampNeg) h10) rfl (Nat.le_of_ble_eq_true rfl : 0 < 140) rfl ⟨⟨rfl, rfl⟩, Nat.le_of_ble_eq_true rfl, Nat.le_of_ble_eq_true rfl⟩ ⟨Nat.le_of_ble_eq_true rfl, Nat.le_of_ble_eq_true rfl⟩ (Nat.le_of_ble_eq_true rfl) dL_law_990 (pc' := 993) rfl ?_
    refine kg_aload_n dL_law_993 (pc' := 994) rfl rfl rfl ?_
    refine kg_aload_n dL_law_994 (pc' := 995) rfl rfl rfl ?_
    refine kg_iload_n dL_law_995 (pc' := 996) rfl rfl rfl ?_
    refine kg_iconst dL_law_996 (pc' := 997) rfl kc_1 ?_
    refine kg_iadd dL_law_997 (pc' := 998) rfl ?_
    refine kg_sld hX (law_in 1 (by decide) hi6 hL) dL_law_998 (pc' := 999) rfl ?_
    refine kg_aload_n dL_law_999 (pc' := 1000) rfl rfl rfl ?_
    refine kg_iload_n dL_law_1000 (pc' := 1001) rfl rfl rfl ?_
    refine kg_iconst dL_law_1001 (pc' := 1002) rfl kc_2 ?_
    refine kg_iadd dL_law_1002 (pc' := 1003) rfl ?_
    refine kg_sld hX (law_in 2 (by decide) hi6 hL) dL_law_1003 (pc' := 1004) rfl ?_
    refine kg_if_eq dL_law_1004 (tgt := 1011) rfl (pc' := 1007) rfl (fun _ => ?_) (fun c => absurd cz1 c)
    refine kg_iconst dL_law_1011 (pc' := 1012) rfl kc_0 ?_
    refine kg_aload_n dL_law_1012 (pc' := 1013) rfl rfl rfl ?_
    refine kg_iload_n dL_law_1013 (pc' := 1014) rfl rfl rfl ?_
    refine kg_iconst dL_law_1014 (pc' := 1015) rfl kc_3 ?_
    refine kg_iadd dL_law_1015 (pc' := 1016) rfl ?_
    refine kg_sld hX (law_in 3 (by decide) hi6 hL) dL_law_1016 (pc' := 1017) rfl ?_
    refine kgVi (as := [.inl (xs (nI i + 1).toNatClampNeg), .inl 0, .inl (xs (nI i + 3).toNatClampNeg)]) (st := [.inl r]) l_RL_135 (m_X11_part (kOk_fu (by decide)) σ1 (xs (nI i + 1).toNatClampNeg) 0 (xs (nI i + 3).toNatClampNeg) h11) rfl (Nat.le_of_ble_eq_true rfl : 120 < 140) rfl ⟨⟨rfl, rfl⟩, Nat.le_of_ble_eq_true rfl, Nat.le_of_ble_eq_true rfl⟩ ⟨Nat.le_of_ble_eq_true rfl, Nat.le_of_ble_eq_true rfl⟩ (Nat.le_of_ble_eq_true rfl) dL_law_1017 (pc' := 1020) rfl ?_
    refine kg_icmp_eq dL_law_1020 (tgt := 1566) rfl (pc' := 1023) rfl (fun _ => ?_) (fun c => absurd rfl c)
    exact kk _ hI2
  · refine kg_iconst dL_law_980 (pc' := 981) rfl kc_1 ?_
    refine kg_goto dL_law_981 (pc' := 985) rfl ?_
    refine kg_aload_n dL_law_985 (pc' := 986) rfl rfl rfl ?_
    refine kg_iload_n dL_law_986 (pc' := 987) rfl rfl rfl ?_
    refine kg_iconst dL_law_987 (pc' := 988) rfl kc_3 ?_
    refine kg_iadd dL_law_988 (pc' := 989) rfl ?_
    refine kg_sld hX (law_in 3 (by decide) hi6 hL) dL_law_989 (pc' := 990) rfl ?_
    obtain ⟨r, σ1, σ2, h10, h11, hI2⟩ := hS σ (xs (nI i + 1).toNatClampNeg) 1 (xs (nI i + 3).toNatClampNeg) hI (Or.inr rfl)
    obtain ⟨h10, rfl⟩ := h10
    refine kgVi (as := [.inl (xs (nI i + 1).toNatClampNeg), .inl 1, .inl (xs (nI i + 3).toNatClampNeg)]) (st := []) l_RL_131 (m_X10_part (kOk_fu (by decide)) σ1 (xs (nI i + 1).toNatClampNeg) 1 (xs (nI i + 3).toNatClampNeg) h10) rfl (Nat.le_of_ble_eq_true rfl : 0 < 140) rfl ⟨⟨rfl, rfl⟩, Nat.le_of_ble_eq_true rfl, Nat.le_of_ble_eq_true rfl⟩ ⟨Nat.le_of_ble_eq_true rfl, Nat.le_of_ble_eq_true rfl⟩ (Nat.le_of_ble_eq_true rfl) dL_law_990 (pc' := 993) rfl ?_
    refine kg_aload_n dL_law_993 (pc' := 994) rfl rfl rfl ?_
    refine kg_aload_n dL_law_994 (pc' := 995) rfl rfl rfl ?_
    refine kg_iload_n dL_law_995 (pc' := 996) rfl rfl rfl ?_
    refine kg_iconst dL_law_996 (pc' := 997) rfl kc_1 ?_
    refine kg_iadd dL_law_997 (pc' := 998) rfl ?_
    refine kg_sld hX (law_in 1 (by decide) hi6 hL) dL_law_998 (pc' := 999) rfl ?_
    refine kg_aload_n dL_law_999 (pc' := 1000) rfl rfl rfl ?_
    refine kg_iload_n dL_law_1000 (pc' := 1001) rfl rfl rfl ?_
    refine kg_iconst dL_law_1001 (pc' := 1002) rfl kc_2 ?_
    refine kg_iadd dL_law_1002 (pc' := 1003) rfl ?_
    refine kg_sld hX (law_in 2 (by decide) hi6 hL) dL_law_1003 (pc' := 1004) rfl ?_
    refine kg_if_eq dL_law_1004 (tgt := 1011) rfl (pc' := 1007) rfl (fun c => absurd c cz1) (fun _ => ?_)
    refine kg_iconst dL_law_1007 (pc' := 1008) rfl kc_1 ?_
    refine kg_goto dL_law_1008 (pc' := 1012) rfl ?_
    refine kg_aload_n dL_law_1012 (pc' := 1013) rfl rfl rfl ?_
    refine kg_iload_n dL_law_1013 (pc' := 1014) rfl rfl rfl ?_
    refine kg_iconst dL_law_1014 (pc' := 1015) rfl kc_3 ?_
    refine kg_iadd dL_law_1015 (pc' := 1016) rfl ?_
    refine kg_sld hX (law_in 3 (by decide) hi6 hL) dL_law_1016 (pc' := 1017) rfl ?_
    refine kgVi (as := [.inl (xs (nI i + 1).toNatClampNeg), .inl 1, .inl (xs (nI i + 3).toNatClampNeg)]) (st := [.inl r]) l_RL_135 (m_X11_part (kOk_fu (by decide)) σ1 (xs (nI i + 1).toNatClampNeg) 1 (xs (nI i + 3).toNatClampNeg) h11) rfl (Nat.le_of_ble_eq_true rfl : 120 < 140) rfl ⟨⟨rfl, rfl⟩, Nat.le_of_ble_eq_true rfl, Nat.le_of_ble_eq_true rfl⟩ ⟨Nat.le_of_ble_eq_true rfl, Nat.le_of_ble_eq_true rfl⟩ (Nat.le_of_ble_eq_true rfl) dL_law_1017 (pc' := 1020) rfl ?_
    refine kg_icmp_eq dL_law_1020 (tgt := 1566) rfl (pc' := 1023) rfl (fun _ => ?_) (fun c => absurd rfl c)
    exact kk _ hI2
set_option maxRecDepth 100000 in
set_option maxHeartbeats 1000000 in
theorem case_29 {E0 : JE} {nm : String} {Z : List Frame → Array Value → State → State → Prop} {b L i : Nat} {xs : Nat → Int32} {Inv : Wd → Prop} (hXt : kHX E0) (hX : kXS (kFu E0 140) b L xs) (hL : L ≤ 3072) (hi6 : i + 6 ≤ L) (hS : S_covers Inv) (kk : ∀ σ, Inv σ → KG (kFu E0 140) mL_law room_1 nm 0 1566 [some (.inr 2000), some (.inr 0), some (.inr 120), some (.inl (nI i))] [] σ 140 6165 Z) (σ : Wd) (hI : Inv σ) : KG (kFu E0 140) mL_law room_1 nm 0 1025 [some (.inr 2000), some (.inr 0), some (.inr 120), some (.inl (nI i))] [] σ 140 6165 Z := by
  refine kg_aload_n dL_law_1025 (pc' := 1026) rfl rfl rfl ?_
  refine kg_aload_n dL_law_1026 (pc' := 1027) rfl rfl rfl ?_
  refine kg_iload_n dL_law_1027 (pc' := 1028) rfl rfl rfl ?_
  refine kg_iconst dL_law_1028 (pc' := 1029) rfl kc_1 ?_
  refine kg_iadd dL_law_1029 (pc' := 1030) rfl ?_
  refine kg_sld hX (law_in 1 (by decide) hi6 hL) dL_law_1030 (pc' := 1031) rfl ?_
  refine kg_aload_n dL_law_1031 (pc' := 1032) rfl rfl rfl ?_
  refine kg_iload_n dL_law_1032 (pc' := 1033) rfl rfl rfl ?_
  refine kg_iconst dL_law_1033 (pc' := 1034) rfl kc_2 ?_
  refine kg_iadd dL_law_1034 (pc' := 1035) rfl ?_
  refine kg_sld hX (law_in 2 (by decide) hi6 hL) dL_law_1035 (pc' := 1036) rfl ?_
  obtain ⟨r, σ1, σ2, h10, h11, hI2⟩ := hS σ (xs (nI i + 1).toNatClampNeg) (xs (nI i + 2).toNatClampNeg) hI
  obtain ⟨h10, rfl⟩ := h10
  refine kgVi (as := [.inl (xs (nI i + 1).toNatClampNeg), .inl (xs (nI i + 2).toNatClampNeg)]) (st := []) l_RL_136 (m_X10_covers (kOk_fu (by decide)) σ1 (xs (nI i + 1).toNatClampNeg) (xs (nI i + 2).toNatClampNeg) h10) rfl (Nat.le_of_ble_eq_true rfl : 0 < 140) rfl ⟨⟨rfl, rfl⟩, Nat.le_of_ble_eq_true rfl, Nat.le_of_ble_eq_true rfl⟩ ⟨Nat.le_of_ble_eq_true rfl, Nat.le_of_ble_eq_true rfl⟩ (Nat.le_of_ble_eq_true rfl) dL_law_1036 (pc' := 1039) rfl ?_
  refine kg_aload_n dL_law_1039 (pc' := 1040) rfl rfl rfl ?_
  refine kg_aload_n dL_law_1040 (pc' := 1041) rfl rfl rfl ?_
  refine kg_iload_n dL_law_1041 (pc' := 1042) rfl rfl rfl ?_
  refine kg_iconst dL_law_1042 (pc' := 1043) rfl kc_1 ?_
  refine kg_iadd dL_law_1043 (pc' := 1044) rfl ?_
  refine kg_sld hX (law_in 1 (by decide) hi6 hL) dL_law_1044 (pc' := 1045) rfl ?_
  refine kg_aload_n dL_law_1045 (pc' := 1046) rfl rfl rfl ?_
  refine kg_iload_n dL_law_1046 (pc' := 1047) rfl rfl rfl ?_
  refine kg_iconst dL_law_1047 (pc' := 1048) rfl kc_2 ?_
  refine kg_iadd dL_law_1048 (pc' := 1049) rfl ?_
  refine kg_sld hX (law_in 2 (by decide) hi6 hL) dL_law_1049 (pc' := 1050) rfl ?_
  refine kgVi (as := [.inl (xs (nI i + 1).toNatClampNeg), .inl (xs (nI i + 2).toNatClampNeg)]) (st := [.inl r]) l_RL_139 (m_X11_covers (kOk_fu (by decide)) σ1 (xs (nI i + 1).toNatClampNeg) (xs (nI i + 2).toNatClampNeg) h11) rfl (Nat.le_of_ble_eq_true rfl : 120 < 140) rfl ⟨⟨rfl, rfl⟩, Nat.le_of_ble_eq_true rfl, Nat.le_of_ble_eq_true rfl⟩ ⟨Nat.le_of_ble_eq_true rfl, Nat.le_of_ble_eq_true rfl⟩ (Nat.le_of_ble_eq_true rfl) dL_law_1050 (pc' := 1053) rfl ?_
  refine kg_icmp_eq dL_law_1053 (tgt := 1566) rfl (pc' := 1056) rfl (fun _ => ?_) (fun c => absurd rfl c)
  exact kk _ hI2
set_option maxRecDepth 100000 in
set_option maxHeartbeats 1000000 in
theorem case_30 {E0 : JE} {nm : String} {Z : List Frame → Array Value → State → State → Prop} {b L i : Nat} {xs : Nat → Int32} {Inv : Wd → Prop} (hXt : kHX E0) (hX : kXS (kFu E0 140) b L xs) (hL : L ≤ 3072) (hi6 : i + 6 ≤ L) (hS : S_degree Inv) (kk : ∀ σ, Inv σ → KG (kFu E0 140) mL_law room_1 nm 0 1566 [some (.inr 2000), some (.inr 0), some (.inr 120), some (.inl (nI i))] [] σ 140 6165 Z) (σ : Wd) (hI : Inv σ) : KG (kFu E0 140) mL_law room_1 nm 0 1058 [some (.inr 2000), some (.inr 0), some (.inr 120), some (.inl (nI i))] [] σ 140 6165 Z := by
  refine kg_aload_n dL_law_1058 (pc' := 1059) rfl rfl rfl ?_
  refine kg_aload_n dL_law_1059 (pc' := 1060) rfl rfl rfl ?_
  refine kg_iload_n dL_law_1060 (pc' := 1061) rfl rfl rfl ?_
  refine kg_iconst dL_law_1061 (pc' := 1062) rfl kc_1 ?_
  refine kg_iadd dL_law_1062 (pc' := 1063) rfl ?_
  refine kg_sld hX (law_in 1 (by decide) hi6 hL) dL_law_1063 (pc' := 1064) rfl ?_
  refine kg_aload_n dL_law_1064 (pc' := 1065) rfl rfl rfl ?_
  refine kg_iload_n dL_law_1065 (pc' := 1066) rfl rfl rfl ?_
  refine kg_iconst dL_law_1066 (pc' := 1067) rfl kc_2 ?_
  refine kg_iadd dL_law_1067 (pc' := 1068) rfl ?_
  refine kg_sld hX (law_in 2 (by decide) hi6 hL) dL_law_1068 (pc' := 1069) rfl ?_
  refine kg_if_eq dL_law_1069 (tgt := 1076) rfl (pc' := 1072) rfl (fun cz1 => ?_) (fun cz1 => ?_)
  · refine kg_iconst dL_law_1076 (pc' := 1077) rfl kc_0 ?_
    obtain ⟨r, σ1, σ2, h10, h11, hI2⟩ := hS σ (xs (nI i + 1).toNatClampNeg) 0 hI (Or.inl rfl)
    refine kgVi (as := [.inl (xs (nI i + 1).toNatClampNeg), .inl 0]) (st := []) l_RL_140 (m_X10_degree (kOk_fu (by decide)) σ (xs (nI i + 1).toNatClampNeg) 0 h10) rfl (Nat.le_of_ble_eq_true rfl : 0 < 140) rfl ⟨⟨rfl, rfl⟩, Nat.le_of_ble_eq_true rfl, Nat.le_of_ble_eq_true rfl⟩ ⟨Nat.le_of_ble_eq_true rfl, Nat.le_of_ble_eq_true rfl⟩ (Nat.le_of_ble_eq_true rfl) dL_law_1077 (pc' := 1080) rfl ?_
    refine kg_aload_n dL_law_1080 (pc' := 1081) rfl rfl rfl ?_
    refine kg_aload_n dL_law_1081 (pc' := 1082) rfl rfl rfl ?_
    refine kg_iload_n dL_law_1082 (pc' := 1083) rfl rfl rfl ?_
    refine kg_iconst dL_law_1083 (pc' := 1084) rfl kc_1 ?_
    refine kg_iadd dL_law_1084 (pc' := 1085) rfl ?_
    refine kg_sld hX (law_in 1 (by decide) hi6 hL) dL_law_1085 (pc' := 1086) rfl ?_
    refine kg_aload_n dL_law_1086 (pc' := 1087) rfl rfl rfl ?_
    refine kg_iload_n dL_law_1087 (pc' := 1088) rfl rfl rfl ?_
    refine kg_iconst dL_law_1088 (pc' := 1089) rfl kc_2 ?_
    refine kg_iadd dL_law_1089 (pc' := 1090) rfl ?_
    refine kg_sld hX (law_in 2 (by decide) hi6 hL) dL_law_1090 (pc' := 1091) rfl ?_
    refine kg_if_eq dL_law_1091 (tgt := 1098) rfl (pc' := 1094) rfl (fun _ => ?_) (fun c => absurd cz1 c)
    refine kg_iconst dL_law_1098 (pc' := 1099) rfl kc_0 ?_
    refine kgVi (as := [.inl (xs (nI i + 1).toNatClampNeg), .inl 0]) (st := [.inl r]) l_RL_143 (m_X11_degree (kOk_fu (by decide)) σ1 (xs (nI i + 1).toNatClampNeg) 0 h11) rfl (Nat.le_of_ble_eq_true rfl : 120 < 140) rfl ⟨⟨rfl, rfl⟩, Nat.le_of_ble_eq_true rfl, Nat.le_of_ble_eq_true rfl⟩ ⟨Nat.le_of_ble_eq_true rfl, Nat.le_of_ble_eq_true rfl⟩ (Nat.le_of_ble_eq_true rfl) dL_law_1099 (pc' := 1102) rfl ?_
    refine kg_icmp_eq dL_law_1102 (tgt := 1566) rfl (pc' := 1105) rfl (fun _ => ?_) (fun c => absurd rfl c)
    exact kk _ hI2
  · refine kg_iconst dL_law_1072 (pc' := 1073) rfl kc_1 ?_
    refine kg_goto dL_law_1073 (pc' := 1077) rfl ?_
    obtain ⟨r, σ1, σ2, h10, h11, hI2⟩ := hS σ (xs (nI i + 1).toNatClampNeg) 1 hI (Or.inr rfl)
    refine kgVi (as := [.inl (xs (nI i + 1).toNatClampNeg), .inl 1]) (st := []) l_RL_140 (m_X10_degree (kOk_fu (by decide)) σ (xs (nI i + 1).toNatClampNeg) 1 h10) rfl (Nat.le_of_ble_eq_true rfl : 0 < 140) rfl ⟨⟨rfl, rfl⟩, Nat.le_of_ble_eq_true rfl, Nat.le_of_ble_eq_true rfl⟩ ⟨Nat.le_of_ble_eq_true rfl, Nat.le_of_ble_eq_true rfl⟩ (Nat.le_of_ble_eq_true rfl) dL_law_1077 (pc' := 1080) rfl ?_
    refine kg_aload_n dL_law_1080 (pc' := 1081) rfl rfl rfl ?_
    refine kg_aload_n dL_law_1081 (pc' := 1082) rfl rfl rfl ?_
    refine kg_iload_n dL_law_1082 (pc' := 1083) rfl rfl rfl ?_
    refine kg_iconst dL_law_1083 (pc' := 1084) rfl kc_1 ?_
    refine kg_iadd dL_law_1084 (pc' := 1085) rfl ?_
    refine kg_sld hX (law_in 1 (by decide) hi6 hL) dL_law_1085 (pc' := 1086) rfl ?_
    refine kg_aload_n dL_law_1086 (pc' := 1087) rfl rfl rfl ?_
    refine kg_iload_n dL_law_1087 (pc' := 1088) rfl rfl rfl ?_
    refine kg_iconst dL_law_1088 (pc' := 1089) rfl kc_2 ?_
    refine kg_iadd dL_law_1089 (pc' := 1090) rfl ?_
    refine kg_sld hX (law_in 2 (by decide) hi6 hL) dL_law_1090 (pc' := 1091) rfl ?_
    refine kg_if_eq dL_law_1091 (tgt := 1098) rfl (pc' := 1094) rfl (fun c => absurd c cz1) (fun _ => ?_)
    refine kg_iconst dL_law_1094 (pc' := 1095) rfl kc_1 ?_
    refine kg_goto dL_law_1095 (pc' := 1099) rfl ?_
    refine kgVi (as := [.inl (xs (nI i + 1).toNatClampNeg), .inl 1]) (st := [.inl r]) l_RL_143 (m_X11_degree (kOk_fu (by decide)) σ1 (xs (nI i + 1).toNatClampNeg) 1 h11) rfl (Nat.le_of_ble_eq_true rfl : 120 < 140) rfl ⟨⟨rfl, rfl⟩, Nat.le_of_ble_eq_true rfl, Nat.le_of_ble_eq_true rfl⟩ ⟨Nat.le_of_ble_eq_true rfl, Nat.le_of_ble_eq_true rfl⟩ (Nat.le_of_ble_eq_true rfl) dL_law_1099 (pc' := 1102) rfl ?_
    refine kg_icmp_eq dL_law_1102 (tgt := 1566) rfl (pc' := 1105) rfl (fun _ => ?_) (fun c => absurd rfl c)
    exact kk _ hI2
set_option maxRecDepth 100000 in
set_option maxHeartbeats 1000000 in
theorem case_31 {E0 : JE} {nm : String} {Z : List Frame → Array Value → State → State → Prop} {b L i : Nat} {xs : Nat → Int32} {Inv : Wd → Prop} (hXt : kHX E0) (hX : kXS (kFu E0 140) b L xs) (hL : L ≤ 3072) (hi6 : i + 6 ≤ L) (hS : S_single Inv) (kk : ∀ σ, Inv σ → KG (kFu E0 140) mL_law room_1 nm 0 1566 [some (.inr 2000), some (.inr 0), some (.inr 120), some (.inl (nI i))] [] σ 140 6165 Z) (σ : Wd) (hI : Inv σ) : KG (kFu E0 140) mL_law room_1 nm 0 1107 [some (.inr 2000), some (.inr 0), some (.inr 120), some (.inl (nI i))] [] σ 140 6165 Z := by
  refine kg_aload_n dL_law_1107 (pc' := 1108) rfl rfl rfl ?_
  obtain ⟨r, σ1, σ2, h10, h11, hI2⟩ := hS σ hI
  refine kgVi (as := []) (st := []) l_RL_144 (m_X10_single (kOk_fu (by decide)) σ h10) rfl (Nat.le_of_ble_eq_true rfl : 0 < 140) rfl ⟨⟨rfl, rfl⟩, Nat.le_of_ble_eq_true rfl, Nat.le_of_ble_eq_true rfl⟩ ⟨Nat.le_of_ble_eq_true rfl, Nat.le_of_ble_eq_true rfl⟩ (Nat.le_of_ble_eq_true rfl) dL_law_1108 (pc' := 1111) rfl ?_
  refine kg_aload_n dL_law_1111 (pc' := 1112) rfl rfl rfl ?_
  refine kgVi (as := []) (st := [.inl r]) l_RL_147 (m_X11_single (kOk_fu (by decide)) σ1 h11) rfl (Nat.le_of_ble_eq_true rfl : 120 < 140) rfl ⟨⟨rfl, rfl⟩, Nat.le_of_ble_eq_true rfl, Nat.le_of_ble_eq_true rfl⟩ ⟨Nat.le_of_ble_eq_true rfl, Nat.le_of_ble_eq_true rfl⟩ (Nat.le_of_ble_eq_true rfl) dL_law_1112 (pc' := 1115) rfl ?_
  refine kg_icmp_eq dL_law_1115 (tgt := 1566) rfl (pc' := 1118) rfl (fun _ => ?_) (fun c => absurd rfl c)
  exact kk _ hI2
set_option maxRecDepth 100000 in
set_option maxHeartbeats 1000000 in
theorem case_32 {E0 : JE} {nm : String} {Z : List Frame → Array Value → State → State → Prop} {b L i : Nat} {xs : Nat → Int32} {Inv : Wd → Prop} (hXt : kHX E0) (hX : kXS (kFu E0 140) b L xs) (hL : L ≤ 3072) (hi6 : i + 6 ≤ L) (hS : S_both Inv) (kk : ∀ σ, Inv σ → KG (kFu E0 140) mL_law room_1 nm 0 1566 [some (.inr 2000), some (.inr 0), some (.inr 120), some (.inl (nI i))] [] σ 140 6165 Z) (σ : Wd) (hI : Inv σ) : KG (kFu E0 140) mL_law room_1 nm 0 1120 [some (.inr 2000), some (.inr 0), some (.inr 120), some (.inl (nI i))] [] σ 140 6165 Z := by
  refine kg_aload_n dL_law_1120 (pc' := 1121) rfl rfl rfl ?_
  refine kg_aload_n dL_law_1121 (pc' := 1122) rfl rfl rfl ?_
  refine kg_iload_n dL_law_1122 (pc' := 1123) rfl rfl rfl ?_
  refine kg_iconst dL_law_1123 (pc' := 1124) rfl kc_1 ?_
  refine kg_iadd dL_law_1124 (pc' := 1125) rfl ?_
  refine kg_sld hX (law_in 1 (by decide) hi6 hL) dL_law_1125 (pc' := 1126) rfl ?_
  refine kg_aload_n dL_law_1126 (pc' := 1127) rfl rfl rfl ?_
  refine kg_iload_n dL_law_1127 (pc' := 1128) rfl rfl rfl ?_
  refine kg_iconst dL_law_1128 (pc' := 1129) rfl kc_2 ?_
  refine kg_iadd dL_law_1129 (pc' := 1130) rfl ?_
  refine kg_sld hX (law_in 2 (by decide) hi6 hL) dL_law_1130 (pc' := 1131) rfl ?_
  refine kg_aload_n dL_law_1131 (pc' := 1132) rfl rfl rfl ?_
  refine kg_iload_n dL_law_1132 (pc' := 1133) rfl rfl rfl ?_
  refine kg_iconst dL_law_1133 (pc' := 1134) rfl kc_3 ?_
  refine kg_iadd dL_law_1134 (pc' := 1135) rfl ?_
  refine kg_sld hX (law_in 3 (by decide) hi6 hL) dL_law_1135 (pc' := 1136) rfl ?_
  obtain ⟨r, σ1, σ2, h10, h11, hI2⟩ := hS σ (xs (nI i + 1).toNatClampNeg) (xs (nI i + 2).toNatClampNeg) (xs (nI i + 3).toNatClampNeg) hI
  obtain ⟨h10, rfl⟩ := h10
  refine kgVi (as := [.inl (xs (nI i + 1).toNatClampNeg), .inl (xs (nI i + 2).toNatClampNeg), .inl (xs (nI i + 3).toNatClampNeg)]) (st := []) l_RL_148 (m_X10_both (kOk_fu (by decide)) σ1 (xs (nI i + 1).toNatClampNeg) (xs (nI i + 2).toNatClampNeg) (xs (nI i + 3).toNatClampNeg) h10) rfl (Nat.le_of_ble_eq_true rfl : 0 < 140) rfl ⟨⟨rfl, rfl⟩, Nat.le_of_ble_eq_true rfl, Nat.le_of_ble_eq_true rfl⟩ ⟨Nat.le_of_ble_eq_true rfl, Nat.le_of_ble_eq_true rfl⟩ (Nat.le_of_ble_eq_true rfl) dL_law_1136 (pc' := 1139) rfl ?_
  refine kg_aload_n dL_law_1139 (pc' := 1140) rfl rfl rfl ?_
  refine kg_aload_n dL_law_1140 (pc' := 1141) rfl rfl rfl ?_
  refine kg_iload_n dL_law_1141 (pc' := 1142) rfl rfl rfl ?_
  refine kg_iconst dL_law_1142 (pc' := 1143) rfl kc_1 ?_
  refine kg_iadd dL_law_1143 (pc' := 1144) rfl ?_
  refine kg_sld hX (law_in 1 (by decide) hi6 hL) dL_law_1144 (pc' := 1145) rfl ?_
  refine kg_aload_n dL_law_1145 (pc' := 1146) rfl rfl rfl ?_
  refine kg_iload_n dL_law_1146 (pc' := 1147) rfl rfl rfl ?_
  refine kg_iconst dL_law_1147 (pc' := 1148) rfl kc_2 ?_
  refine kg_iadd dL_law_1148 (pc' := 1149) rfl ?_
  refine kg_sld hX (law_in 2 (by decide) hi6 hL) dL_law_1149 (pc' := 1150) rfl ?_
  refine kg_aload_n dL_law_1150 (pc' := 1151) rfl rfl rfl ?_
  refine kg_iload_n dL_law_1151 (pc' := 1152) rfl rfl rfl ?_
  refine kg_iconst dL_law_1152 (pc' := 1153) rfl kc_3 ?_
  refine kg_iadd dL_law_1153 (pc' := 1154) rfl ?_
  refine kg_sld hX (law_in 3 (by decide) hi6 hL) dL_law_1154 (pc' := 1155) rfl ?_
  refine kgVi (as := [.inl (xs (nI i + 1).toNatClampNeg), .inl (xs (nI i + 2).toNatClampNeg), .inl (xs (nI i + 3).toNatClampNeg)]) (st := [.inl r]) l_RL_152 (m_X11_both (kOk_fu (by decide)) σ1 (xs (nI i + 1).toNatClampNeg) (xs (nI i + 2).toNatClampNeg) (xs (nI i + 3).toNatClampNeg) h11) rfl (Nat.le_of_ble_eq_true rfl : 120 < 140) rfl ⟨⟨rfl, rfl⟩, Nat.le_of_ble_eq_true rfl, Nat.le_of_ble_eq_true rfl⟩ ⟨Nat.le_of_ble_eq_true rfl, Nat.le_of_ble_eq_true rfl⟩ (Nat.le_of_ble_eq_true rfl) dL_law_1155 (pc' := 1158) rfl ?_
  refine kg_icmp_eq dL_law_1158 (tgt := 1566) rfl (pc' := 1161) rfl (fun _ => ?_) (fun c => absurd rfl c)
  exact kk _ hI2
set_option maxRecDepth 100000 in
set_option maxHeartbeats 1000000 in
theorem case_33 {E0 : JE} {nm : String} {Z : List Frame → Array Value → State → State → Prop} {b L i : Nat} {xs : Nat → Int32} {Inv : Wd → Prop} (hXt : kHX E0) (hX : kXS (kFu E0 140) b L xs) (hL : L ≤ 3072) (hi6 : i + 6 ≤ L) (hS : S_unshared Inv) (kk : ∀ σ, Inv σ → KG (kFu E0 140) mL_law room_1 nm 0 1566 [some (.inr 2000), some (.inr 0), some (.inr 120), some (.inl (nI i))] [] σ 140 6165 Z) (σ : Wd) (hI : Inv σ) : KG (kFu E0 140) mL_law room_1 nm 0 1163 [some (.inr 2000), some (.inr 0), some (.inr 120), some (.inl (nI i))] [] σ 140 6165 Z := by
  refine kg_aload_n dL_law_1163 (pc' := 1164) rfl rfl rfl ?_
  obtain ⟨r, σ1, σ2, h10, h11, hI2⟩ := hS σ hI
  obtain ⟨h10, rfl⟩ := h10
  refine kgVi (as := []) (st := []) l_RL_153 (m_X10_unshared (kOk_fu (by decide)) σ1 h10) rfl (Nat.le_of_ble_eq_true rfl : 0 < 140) rfl ⟨⟨rfl, rfl⟩, Nat.le_of_ble_eq_true rfl, Nat.le_of_ble_eq_true rfl⟩ ⟨Nat.le_of_ble_eq_true rfl, Nat.le_of_ble_eq_true rfl⟩ (Nat.le_of_ble_eq_true rfl) dL_law_1164 (pc' := 1167) rfl ?_
  refine kg_aload_n dL_law_1167 (pc' := 1168) rfl rfl rfl ?_
  refine kgVi (as := []) (st := [.inl r]) l_RL_156 (m_X11_unshared (kOk_fu (by decide)) σ1 h11) rfl (Nat.le_of_ble_eq_true rfl : 120 < 140) rfl ⟨⟨rfl, rfl⟩, Nat.le_of_ble_eq_true rfl, Nat.le_of_ble_eq_true rfl⟩ ⟨Nat.le_of_ble_eq_true rfl, Nat.le_of_ble_eq_true rfl⟩ (Nat.le_of_ble_eq_true rfl) dL_law_1168 (pc' := 1171) rfl ?_
  refine kg_icmp_eq dL_law_1171 (tgt := 1566) rfl (pc' := 1174) rfl (fun _ => ?_) (fun c => absurd rfl c)
  exact kk _ hI2
set_option maxRecDepth 100000 in
set_option maxHeartbeats 1000000 in
theorem case_34 {E0 : JE} {nm : String} {Z : List Frame → Array Value → State → State → Prop} {b L i : Nat} {xs : Nat → Int32} {Inv : Wd → Prop} (hXt : kHX E0) (hX : kXS (kFu E0 140) b L xs) (hL : L ≤ 3072) (hi6 : i + 6 ≤ L) (hS : S_chain Inv) (kk : ∀ σ, Inv σ → KG (kFu E0 140) mL_law room_1 nm 0 1566 [some (.inr 2000), some (.inr 0), some (.inr 120), some (.inl (nI i))] [] σ 140 6165 Z) (σ : Wd) (hI : Inv σ) : KG (kFu E0 140) mL_law room_1 nm 0 1176 [some (.inr 2000), some (.inr 0), some (.inr 120), some (.inl (nI i))] [] σ 140 6165 Z := by
  refine kg_aload_n dL_law_1176 (pc' := 1177) rfl rfl rfl ?_
  refine kg_aload_n dL_law_1177 (pc' := 1178) rfl rfl rfl ?_
  refine kg_iload_n dL_law_1178 (pc' := 1179) rfl rfl rfl ?_
  refine kg_iconst dL_law_1179 (pc' := 1180) rfl kc_1 ?_
  refine kg_iadd dL_law_1180 (pc' := 1181) rfl ?_
  refine kg_sld hX (law_in 1 (by decide) hi6 hL) dL_law_1181 (pc' := 1182) rfl ?_
  obtain ⟨r, σ1, σ2, h10, h11, hI2⟩ := hS σ (xs (nI i + 1).toNatClampNeg) hI
  refine kgVi (as := [.inl (xs (nI i + 1).toNatClampNeg)]) (st := []) l_RL_157 (m_X10_chain (kOk_fu (by decide)) σ (xs (nI i + 1).toNatClampNeg) h10) rfl (Nat.le_of_ble_eq_true rfl : 0 < 140) rfl ⟨⟨rfl, rfl⟩, Nat.le_of_ble_eq_true rfl, Nat.le_of_ble_eq_true rfl⟩ ⟨Nat.le_of_ble_eq_true rfl, Nat.le_of_ble_eq_true rfl⟩ (Nat.le_of_ble_eq_true rfl) dL_law_1182 (pc' := 1185) rfl ?_
  refine kg_aload_n dL_law_1185 (pc' := 1186) rfl rfl rfl ?_
  refine kg_aload_n dL_law_1186 (pc' := 1187) rfl rfl rfl ?_
  refine kg_iload_n dL_law_1187 (pc' := 1188) rfl rfl rfl ?_
  refine kg_iconst dL_law_1188 (pc' := 1189) rfl kc_1 ?_
  refine kg_iadd dL_law_1189 (pc' := 1190) rfl ?_
  refine kg_sld hX (law_in 1 (by decide) hi6 hL) dL_law_1190 (pc' := 1191) rfl ?_
  refine kgVi (as := [.inl (xs (nI i + 1).toNatClampNeg)]) (st := [.inl r]) l_RL_160 (m_X11_chain (kOk_fu (by decide)) σ1 (xs (nI i + 1).toNatClampNeg) h11) rfl (Nat.le_of_ble_eq_true rfl : 120 < 140) rfl ⟨⟨rfl, rfl⟩, Nat.le_of_ble_eq_true rfl, Nat.le_of_ble_eq_true rfl⟩ ⟨Nat.le_of_ble_eq_true rfl, Nat.le_of_ble_eq_true rfl⟩ (Nat.le_of_ble_eq_true rfl) dL_law_1191 (pc' := 1194) rfl ?_
  refine kg_icmp_eq dL_law_1194 (tgt := 1566) rfl (pc' := 1197) rfl (fun _ => ?_) (fun c => absurd rfl c)
  exact kk _ hI2
set_option maxRecDepth 100000 in
set_option maxHeartbeats 1000000 in
theorem case_35 {E0 : JE} {nm : String} {Z : List Frame → Array Value → State → State → Prop} {b L i : Nat} {xs : Nat → Int32} {Inv : Wd → Prop} (hXt : kHX E0) (hX : kXS (kFu E0 140) b L xs) (hL : L ≤ 3072) (hi6 : i + 6 ≤ L) (hS : S_common Inv) (kk : ∀ σ, Inv σ → KG (kFu E0 140) mL_law room_1 nm 0 1566 [some (.inr 2000), some (.inr 0), some (.inr 120), some (.inl (nI i))] [] σ 140 6165 Z) (σ : Wd) (hI : Inv σ) : KG (kFu E0 140) mL_law room_1 nm 0 1199 [some (.inr 2000), some (.inr 0), some (.inr 120), some (.inl (nI i))] [] σ 140 6165 Z := by
  refine kg_aload_n dL_law_1199 (pc' := 1200) rfl rfl rfl ?_
  refine kg_aload_n dL_law_1200 (pc' := 1201) rfl rfl rfl ?_
  refine kg_iload_n dL_law_1201 (pc' := 1202) rfl rfl rfl ?_
  refine kg_iconst dL_law_1202 (pc' := 1203) rfl kc_1 ?_
  refine kg_iadd dL_law_1203 (pc' := 1204) rfl ?_
  refine kg_sld hX (law_in 1 (by decide) hi6 hL) dL_law_1204 (pc' := 1205) rfl ?_
  refine kg_aload_n dL_law_1205 (pc' := 1206) rfl rfl rfl ?_
  refine kg_iload_n dL_law_1206 (pc' := 1207) rfl rfl rfl ?_
  refine kg_iconst dL_law_1207 (pc' := 1208) rfl kc_2 ?_
  refine kg_iadd dL_law_1208 (pc' := 1209) rfl ?_
  refine kg_sld hX (law_in 2 (by decide) hi6 hL) dL_law_1209 (pc' := 1210) rfl ?_
  obtain ⟨r, σ1, σ2, h10, h11, hI2⟩ := hS σ (xs (nI i + 1).toNatClampNeg) (xs (nI i + 2).toNatClampNeg) hI
  obtain ⟨h10, rfl⟩ := h10
  refine kgVi (as := [.inl (xs (nI i + 1).toNatClampNeg), .inl (xs (nI i + 2).toNatClampNeg)]) (st := []) l_RL_161 (m_X10_common (kOk_fu (by decide)) σ1 (xs (nI i + 1).toNatClampNeg) (xs (nI i + 2).toNatClampNeg) h10) rfl (Nat.le_of_ble_eq_true rfl : 0 < 140) rfl ⟨⟨rfl, rfl⟩, Nat.le_of_ble_eq_true rfl, Nat.le_of_ble_eq_true rfl⟩ ⟨Nat.le_of_ble_eq_true rfl, Nat.le_of_ble_eq_true rfl⟩ (Nat.le_of_ble_eq_true rfl) dL_law_1210 (pc' := 1213) rfl ?_
  refine kg_aload_n dL_law_1213 (pc' := 1214) rfl rfl rfl ?_
  refine kg_aload_n dL_law_1214 (pc' := 1215) rfl rfl rfl ?_
  refine kg_iload_n dL_law_1215 (pc' := 1216) rfl rfl rfl ?_
  refine kg_iconst dL_law_1216 (pc' := 1217) rfl kc_1 ?_
  refine kg_iadd dL_law_1217 (pc' := 1218) rfl ?_
  refine kg_sld hX (law_in 1 (by decide) hi6 hL) dL_law_1218 (pc' := 1219) rfl ?_
  refine kg_aload_n dL_law_1219 (pc' := 1220) rfl rfl rfl ?_
  refine kg_iload_n dL_law_1220 (pc' := 1221) rfl rfl rfl ?_
  refine kg_iconst dL_law_1221 (pc' := 1222) rfl kc_2 ?_
  refine kg_iadd dL_law_1222 (pc' := 1223) rfl ?_
  refine kg_sld hX (law_in 2 (by decide) hi6 hL) dL_law_1223 (pc' := 1224) rfl ?_
  refine kgVi (as := [.inl (xs (nI i + 1).toNatClampNeg), .inl (xs (nI i + 2).toNatClampNeg)]) (st := [.inl r]) l_RL_164 (m_X11_common (kOk_fu (by decide)) σ1 (xs (nI i + 1).toNatClampNeg) (xs (nI i + 2).toNatClampNeg) h11) rfl (Nat.le_of_ble_eq_true rfl : 120 < 140) rfl ⟨⟨rfl, rfl⟩, Nat.le_of_ble_eq_true rfl, Nat.le_of_ble_eq_true rfl⟩ ⟨Nat.le_of_ble_eq_true rfl, Nat.le_of_ble_eq_true rfl⟩ (Nat.le_of_ble_eq_true rfl) dL_law_1224 (pc' := 1227) rfl ?_
  refine kg_icmp_eq dL_law_1227 (tgt := 1566) rfl (pc' := 1230) rfl (fun _ => ?_) (fun c => absurd rfl c)
  exact kk _ hI2
set_option maxRecDepth 100000 in
set_option maxHeartbeats 1000000 in
theorem case_36 {E0 : JE} {nm : String} {Z : List Frame → Array Value → State → State → Prop} {b L i : Nat} {xs : Nat → Int32} {Inv : Wd → Prop} (hXt : kHX E0) (hX : kXS (kFu E0 140) b L xs) (hL : L ≤ 3072) (hi6 : i + 6 ≤ L) (hS : S_ranked Inv) (kk : ∀ σ, Inv σ → KG (kFu E0 140) mL_law room_1 nm 0 1566 [some (.inr 2000), some (.inr 0), some (.inr 120), some (.inl (nI i))] [] σ 140 6165 Z) (σ : Wd) (hI : Inv σ) : KG (kFu E0 140) mL_law room_1 nm 0 1232 [some (.inr 2000), some (.inr 0), some (.inr 120), some (.inl (nI i))] [] σ 140 6165 Z := by
  refine kg_aload_n dL_law_1232 (pc' := 1233) rfl rfl rfl ?_
  refine kg_aload_n dL_law_1233 (pc' := 1234) rfl rfl rfl ?_
  refine kg_iload_n dL_law_1234 (pc' := 1235) rfl rfl rfl ?_
  refine kg_iconst dL_law_1235 (pc' := 1236) rfl kc_1 ?_
  refine kg_iadd dL_law_1236 (pc' := 1237) rfl ?_
  refine kg_sld hX (law_in 1 (by decide) hi6 hL) dL_law_1237 (pc' := 1238) rfl ?_
  obtain ⟨r, σ1, σ2, h10, h11, hI2⟩ := hS σ (xs (nI i + 1).toNatClampNeg) hI
  obtain ⟨h10, rfl⟩ := h10
  refine kgVi (as := [.inl (xs (nI i + 1).toNatClampNeg)]) (st := []) l_RL_165 (m_X10_ranked (kOk_fu (by decide)) σ1 (xs (nI i + 1).toNatClampNeg) h10) rfl (Nat.le_of_ble_eq_true rfl : 0 < 140) rfl ⟨⟨rfl, rfl⟩, Nat.le_of_ble_eq_true rfl, Nat.le_of_ble_eq_true rfl⟩ ⟨Nat.le_of_ble_eq_true rfl, Nat.le_of_ble_eq_true rfl⟩ (Nat.le_of_ble_eq_true rfl) dL_law_1238 (pc' := 1241) rfl ?_
  refine kg_aload_n dL_law_1241 (pc' := 1242) rfl rfl rfl ?_
  refine kg_aload_n dL_law_1242 (pc' := 1243) rfl rfl rfl ?_
  refine kg_iload_n dL_law_1243 (pc' := 1244) rfl rfl rfl ?_
  refine kg_iconst dL_law_1244 (pc' := 1245) rfl kc_1 ?_
  refine kg_iadd dL_law_1245 (pc' := 1246) rfl ?_
  refine kg_sld hX (law_in 1 (by decide) hi6 hL) dL_law_1246 (pc' := 1247) rfl ?_
  refine kgVi (as := [.inl (xs (nI i + 1).toNatClampNeg)]) (st := [.inl r]) l_RL_168 (m_X11_ranked (kOk_fu (by decide)) σ1 (xs (nI i + 1).toNatClampNeg) h11) rfl (Nat.le_of_ble_eq_true rfl : 120 < 140) rfl ⟨⟨rfl, rfl⟩, Nat.le_of_ble_eq_true rfl, Nat.le_of_ble_eq_true rfl⟩ ⟨Nat.le_of_ble_eq_true rfl, Nat.le_of_ble_eq_true rfl⟩ (Nat.le_of_ble_eq_true rfl) dL_law_1247 (pc' := 1250) rfl ?_
  refine kg_icmp_eq dL_law_1250 (tgt := 1566) rfl (pc' := 1253) rfl (fun _ => ?_) (fun c => absurd rfl c)
  exact kk _ hI2
set_option maxRecDepth 100000 in
set_option maxHeartbeats 1000000 in
theorem case_37 {E0 : JE} {nm : String} {Z : List Frame → Array Value → State → State → Prop} {b L i : Nat} {xs : Nat → Int32} {Inv : Wd → Prop} (hXt : kHX E0) (hX : kXS (kFu E0 140) b L xs) (hL : L ≤ 3072) (hi6 : i + 6 ≤ L) (hS : S_nested Inv) (kk : ∀ σ, Inv σ → KG (kFu E0 140) mL_law room_1 nm 0 1566 [some (.inr 2000), some (.inr 0), some (.inr 120), some (.inl (nI i))] [] σ 140 6165 Z) (σ : Wd) (hI : Inv σ) : KG (kFu E0 140) mL_law room_1 nm 0 1255 [some (.inr 2000), some (.inr 0), some (.inr 120), some (.inl (nI i))] [] σ 140 6165 Z := by
  refine kg_aload_n dL_law_1255 (pc' := 1256) rfl rfl rfl ?_
  refine kg_aload_n dL_law_1256 (pc' := 1257) rfl rfl rfl ?_
  refine kg_iload_n dL_law_1257 (pc' := 1258) rfl rfl rfl ?_
  refine kg_iconst dL_law_1258 (pc' := 1259) rfl kc_1 ?_
  refine kg_iadd dL_law_1259 (pc' := 1260) rfl ?_
  refine kg_sld hX (law_in 1 (by decide) hi6 hL) dL_law_1260 (pc' := 1261) rfl ?_
  refine kg_aload_n dL_law_1261 (pc' := 1262) rfl rfl rfl ?_
  refine kg_iload_n dL_law_1262 (pc' := 1263) rfl rfl rfl ?_
  refine kg_iconst dL_law_1263 (pc' := 1264) rfl kc_2 ?_
  refine kg_iadd dL_law_1264 (pc' := 1265) rfl ?_
  refine kg_sld hX (law_in 2 (by decide) hi6 hL) dL_law_1265 (pc' := 1266) rfl ?_
  refine kg_if_eq dL_law_1266 (tgt := 1273) rfl (pc' := 1269) rfl (fun cz1 => ?_) (fun cz1 => ?_)
  · refine kg_iconst dL_law_1273 (pc' := 1274) rfl kc_0 ?_
    obtain ⟨r, σ1, σ2, h10, h11, hI2⟩ := hS σ (xs (nI i + 1).toNatClampNeg) 0 hI (Or.inl rfl)
    obtain ⟨h10, rfl⟩ := h10
    refine kgVi (as := [.inl (xs (nI i + 1).toNatClampNeg), .inl 0]) (st := []) l_RL_169 (m_X10_nested (kOk_fu (by decide)) σ1 (xs (nI i + 1).toNatClampNeg) 0 h10) rfl (Nat.le_of_ble_eq_true rfl : 0 < 140) rfl ⟨⟨rfl, rfl⟩, Nat.le_of_ble_eq_true rfl, Nat.le_of_ble_eq_true rfl⟩ ⟨Nat.le_of_ble_eq_true rfl, Nat.le_of_ble_eq_true rfl⟩ (Nat.le_of_ble_eq_true rfl) dL_law_1274 (pc' := 1277) rfl ?_
    refine kg_aload_n dL_law_1277 (pc' := 1278) rfl rfl rfl ?_
    refine kg_aload_n dL_law_1278 (pc' := 1279) rfl rfl rfl ?_
    refine kg_iload_n dL_law_1279 (pc' := 1280) rfl rfl rfl ?_
    refine kg_iconst dL_law_1280 (pc' := 1281) rfl kc_1 ?_
    refine kg_iadd dL_law_1281 (pc' := 1282) rfl ?_
    refine kg_sld hX (law_in 1 (by decide) hi6 hL) dL_law_1282 (pc' := 1283) rfl ?_
    refine kg_aload_n dL_law_1283 (pc' := 1284) rfl rfl rfl ?_
    refine kg_iload_n dL_law_1284 (pc' := 1285) rfl rfl rfl ?_
    refine kg_iconst dL_law_1285 (pc' := 1286) rfl kc_2 ?_
    refine kg_iadd dL_law_1286 (pc' := 1287) rfl ?_
    refine kg_sld hX (law_in 2 (by decide) hi6 hL) dL_law_1287 (pc' := 1288) rfl ?_
    refine kg_if_eq dL_law_1288 (tgt := 1295) rfl (pc' := 1291) rfl (fun _ => ?_) (fun c => absurd cz1 c)
    refine kg_iconst dL_law_1295 (pc' := 1296) rfl kc_0 ?_
    refine kgVi (as := [.inl (xs (nI i + 1).toNatClampNeg), .inl 0]) (st := [.inl r]) l_RL_172 (m_X11_nested (kOk_fu (by decide)) σ1 (xs (nI i + 1).toNatClampNeg) 0 h11) rfl (Nat.le_of_ble_eq_true rfl : 120 < 140) rfl ⟨⟨rfl, rfl⟩, Nat.le_of_ble_eq_true rfl, Nat.le_of_ble_eq_true rfl⟩ ⟨Nat.le_of_ble_eq_true rfl, Nat.le_of_ble_eq_true rfl⟩ (Nat.le_of_ble_eq_true rfl) dL_law_1296 (pc' := 1299) rfl ?_
    refine kg_icmp_eq dL_law_1299 (tgt := 1566) rfl (pc' := 1302) rfl (fun _ => ?_) (fun c => absurd rfl c)
    exact kk _ hI2
  · refine kg_iconst dL_law_1269 (pc' := 1270) rfl kc_1 ?_
    refine kg_goto dL_law_1270 (pc' := 1274) rfl ?_
    obtain ⟨r, σ1, σ2, h10, h11, hI2⟩ := hS σ (xs (nI i + 1).toNatClampNeg) 1 hI (Or.inr rfl)
    obtain ⟨h10, rfl⟩ := h10
    refine kgVi (as := [.inl (xs (nI i + 1).toNatClampNeg), .inl 1]) (st := []) l_RL_169 (m_X10_nested (kOk_fu (by decide)) σ1 (xs (nI i + 1).toNatClampNeg) 1 h10) rfl (Nat.le_of_ble_eq_true rfl : 0 < 140) rfl ⟨⟨rfl, rfl⟩, Nat.le_of_ble_eq_true rfl, Nat.le_of_ble_eq_true rfl⟩ ⟨Nat.le_of_ble_eq_true rfl, Nat.le_of_ble_eq_true rfl⟩ (Nat.le_of_ble_eq_true rfl) dL_law_1274 (pc' := 1277) rfl ?_
    refine kg_aload_n dL_law_1277 (pc' := 1278) rfl rfl rfl ?_
    refine kg_aload_n dL_law_1278 (pc' := 1279) rfl rfl rfl ?_
    refine kg_iload_n dL_law_1279 (pc' := 1280) rfl rfl rfl ?_
    refine kg_iconst dL_law_1280 (pc' := 1281) rfl kc_1 ?_
    refine kg_iadd dL_law_1281 (pc' := 1282) rfl ?_
    refine kg_sld hX (law_in 1 (by decide) hi6 hL) dL_law_1282 (pc' := 1283) rfl ?_
    refine kg_aload_n dL_law_1283 (pc' := 1284) rfl rfl rfl ?_
    refine kg_iload_n dL_law_1284 (pc' := 1285) rfl rfl rfl ?_
    refine kg_iconst dL_law_1285 (pc' := 1286) rfl kc_2 ?_
    refine kg_iadd dL_law_1286 (pc' := 1287) rfl ?_
    refine kg_sld hX (law_in 2 (by decide) hi6 hL) dL_law_1287 (pc' := 1288) rfl ?_
    refine kg_if_eq dL_law_1288 (tgt := 1295) rfl (pc' := 1291) rfl (fun c => absurd c cz1) (fun _ => ?_)
    refine kg_iconst dL_law_1291 (pc' := 1292) rfl kc_1 ?_
    refine kg_goto dL_law_1292 (pc' := 1296) rfl ?_
    refine kgVi (as := [.inl (xs (nI i + 1).toNatClampNeg), .inl 1]) (st := [.inl r]) l_RL_172 (m_X11_nested (kOk_fu (by decide)) σ1 (xs (nI i + 1).toNatClampNeg) 1 h11) rfl (Nat.le_of_ble_eq_true rfl : 120 < 140) rfl ⟨⟨rfl, rfl⟩, Nat.le_of_ble_eq_true rfl, Nat.le_of_ble_eq_true rfl⟩ ⟨Nat.le_of_ble_eq_true rfl, Nat.le_of_ble_eq_true rfl⟩ (Nat.le_of_ble_eq_true rfl) dL_law_1296 (pc' := 1299) rfl ?_
    refine kg_icmp_eq dL_law_1299 (tgt := 1566) rfl (pc' := 1302) rfl (fun _ => ?_) (fun c => absurd rfl c)
    exact kk _ hI2
set_option maxRecDepth 100000 in
set_option maxHeartbeats 1000000 in
theorem case_38 {E0 : JE} {nm : String} {Z : List Frame → Array Value → State → State → Prop} {b L i : Nat} {xs : Nat → Int32} {Inv : Wd → Prop} (hXt : kHX E0) (hX : kXS (kFu E0 140) b L xs) (hL : L ≤ 3072) (hi6 : i + 6 ≤ L) (hS : S_crossing Inv) (kk : ∀ σ, Inv σ → KG (kFu E0 140) mL_law room_1 nm 0 1566 [some (.inr 2000), some (.inr 0), some (.inr 120), some (.inl (nI i))] [] σ 140 6165 Z) (σ : Wd) (hI : Inv σ) : KG (kFu E0 140) mL_law room_1 nm 0 1304 [some (.inr 2000), some (.inr 0), some (.inr 120), some (.inl (nI i))] [] σ 140 6165 Z := by
  refine kg_aload_n dL_law_1304 (pc' := 1305) rfl rfl rfl ?_
  obtain ⟨r, σ1, σ2, h10, h11, hI2⟩ := hS σ hI
  obtain ⟨h10, rfl⟩ := h10
  refine kgVi (as := []) (st := []) l_RL_173 (m_X10_crossing (kOk_fu (by decide)) σ1 h10) rfl (Nat.le_of_ble_eq_true rfl : 0 < 140) rfl ⟨⟨rfl, rfl⟩, Nat.le_of_ble_eq_true rfl, Nat.le_of_ble_eq_true rfl⟩ ⟨Nat.le_of_ble_eq_true rfl, Nat.le_of_ble_eq_true rfl⟩ (Nat.le_of_ble_eq_true rfl) dL_law_1305 (pc' := 1308) rfl ?_
  refine kg_aload_n dL_law_1308 (pc' := 1309) rfl rfl rfl ?_
  refine kgVi (as := []) (st := [.inl r]) l_RL_176 (m_X11_crossing (kOk_fu (by decide)) σ1 h11) rfl (Nat.le_of_ble_eq_true rfl : 120 < 140) rfl ⟨⟨rfl, rfl⟩, Nat.le_of_ble_eq_true rfl, Nat.le_of_ble_eq_true rfl⟩ ⟨Nat.le_of_ble_eq_true rfl, Nat.le_of_ble_eq_true rfl⟩ (Nat.le_of_ble_eq_true rfl) dL_law_1309 (pc' := 1312) rfl ?_
  refine kg_icmp_eq dL_law_1312 (tgt := 1566) rfl (pc' := 1315) rfl (fun _ => ?_) (fun c => absurd rfl c)
  exact kk _ hI2
set_option maxRecDepth 100000 in
set_option maxHeartbeats 1000000 in
theorem case_39 {E0 : JE} {nm : String} {Z : List Frame → Array Value → State → State → Prop} {b L i : Nat} {xs : Nat → Int32} {Inv : Wd → Prop} (hXt : kHX E0) (hX : kXS (kFu E0 140) b L xs) (hL : L ≤ 3072) (hi6 : i + 6 ≤ L) (hS : S_parts Inv) (kk : ∀ σ, Inv σ → KG (kFu E0 140) mL_law room_1 nm 0 1566 [some (.inr 2000), some (.inr 0), some (.inr 120), some (.inl (nI i))] [] σ 140 6165 Z) (σ : Wd) (hI : Inv σ) : KG (kFu E0 140) mL_law room_1 nm 0 1317 [some (.inr 2000), some (.inr 0), some (.inr 120), some (.inl (nI i))] [] σ 140 6165 Z := by
  refine kg_aload_n dL_law_1317 (pc' := 1318) rfl rfl rfl ?_
  obtain ⟨r, σ1, σ2, h10, h11, hI2⟩ := hS σ hI
  obtain ⟨h10, rfl⟩ := h10
  refine kgVi (as := []) (st := []) l_RL_177 (m_X10_parts (kOk_fu (by decide)) σ1 h10) rfl (Nat.le_of_ble_eq_true rfl : 0 < 140) rfl ⟨⟨rfl, rfl⟩, Nat.le_of_ble_eq_true rfl, Nat.le_of_ble_eq_true rfl⟩ ⟨Nat.le_of_ble_eq_true rfl, Nat.le_of_ble_eq_true rfl⟩ (Nat.le_of_ble_eq_true rfl) dL_law_1318 (pc' := 1321) rfl ?_
  refine kg_aload_n dL_law_1321 (pc' := 1322) rfl rfl rfl ?_
  refine kgVi (as := []) (st := [.inl r]) l_RL_180 (m_X11_parts (kOk_fu (by decide)) σ1 h11) rfl (Nat.le_of_ble_eq_true rfl : 120 < 140) rfl ⟨⟨rfl, rfl⟩, Nat.le_of_ble_eq_true rfl, Nat.le_of_ble_eq_true rfl⟩ ⟨Nat.le_of_ble_eq_true rfl, Nat.le_of_ble_eq_true rfl⟩ (Nat.le_of_ble_eq_true rfl) dL_law_1322 (pc' := 1325) rfl ?_
  refine kg_icmp_eq dL_law_1325 (tgt := 1566) rfl (pc' := 1328) rfl (fun _ => ?_) (fun c => absurd rfl c)
  exact kk _ hI2
set_option maxRecDepth 100000 in
set_option maxHeartbeats 1000000 in
theorem case_40 {E0 : JE} {nm : String} {Z : List Frame → Array Value → State → State → Prop} {b L i : Nat} {xs : Nat → Int32} {Inv : Wd → Prop} (hXt : kHX E0) (hX : kXS (kFu E0 140) b L xs) (hL : L ≤ 3072) (hi6 : i + 6 ≤ L) (hS : S_shattered Inv) (kk : ∀ σ, Inv σ → KG (kFu E0 140) mL_law room_1 nm 0 1566 [some (.inr 2000), some (.inr 0), some (.inr 120), some (.inl (nI i))] [] σ 140 6165 Z) (σ : Wd) (hI : Inv σ) : KG (kFu E0 140) mL_law room_1 nm 0 1330 [some (.inr 2000), some (.inr 0), some (.inr 120), some (.inl (nI i))] [] σ 140 6165 Z := by
  refine kg_aload_n dL_law_1330 (pc' := 1331) rfl rfl rfl ?_
  refine kg_aload_n dL_law_1331 (pc' := 1332) rfl rfl rfl ?_
  refine kg_iload_n dL_law_1332 (pc' := 1333) rfl rfl rfl ?_
  refine kg_iconst dL_law_1333 (pc' := 1334) rfl kc_1 ?_
  refine kg_iadd dL_law_1334 (pc' := 1335) rfl ?_
  refine kg_sld hX (law_in 1 (by decide) hi6 hL) dL_law_1335 (pc' := 1336) rfl ?_
  obtain ⟨r, σ1, σ2, h10, h11, hI2⟩ := hS σ (xs (nI i + 1).toNatClampNeg) hI
  refine kgVi (as := [.inl (xs (nI i + 1).toNatClampNeg)]) (st := []) l_RL_181 (m_X10_shattered (kOk_fu (by decide)) σ (xs (nI i + 1).toNatClampNeg) h10) rfl (Nat.le_of_ble_eq_true rfl : 0 < 140) rfl ⟨⟨rfl, rfl⟩, Nat.le_of_ble_eq_true rfl, Nat.le_of_ble_eq_true rfl⟩ ⟨Nat.le_of_ble_eq_true rfl, Nat.le_of_ble_eq_true rfl⟩ (Nat.le_of_ble_eq_true rfl) dL_law_1336 (pc' := 1339) rfl ?_
  refine kg_aload_n dL_law_1339 (pc' := 1340) rfl rfl rfl ?_
  refine kg_aload_n dL_law_1340 (pc' := 1341) rfl rfl rfl ?_
  refine kg_iload_n dL_law_1341 (pc' := 1342) rfl rfl rfl ?_
  refine kg_iconst dL_law_1342 (pc' := 1343) rfl kc_1 ?_
  refine kg_iadd dL_law_1343 (pc' := 1344) rfl ?_
  refine kg_sld hX (law_in 1 (by decide) hi6 hL) dL_law_1344 (pc' := 1345) rfl ?_
  refine kgVi (as := [.inl (xs (nI i + 1).toNatClampNeg)]) (st := [.inl r]) l_RL_184 (m_X11_shattered (kOk_fu (by decide)) σ1 (xs (nI i + 1).toNatClampNeg) h11) rfl (Nat.le_of_ble_eq_true rfl : 120 < 140) rfl ⟨⟨rfl, rfl⟩, Nat.le_of_ble_eq_true rfl, Nat.le_of_ble_eq_true rfl⟩ ⟨Nat.le_of_ble_eq_true rfl, Nat.le_of_ble_eq_true rfl⟩ (Nat.le_of_ble_eq_true rfl) dL_law_1345 (pc' := 1348) rfl ?_
  refine kg_icmp_eq dL_law_1348 (tgt := 1566) rfl (pc' := 1351) rfl (fun _ => ?_) (fun c => absurd rfl c)
  exact kk _ hI2
set_option maxRecDepth 100000 in
set_option maxHeartbeats 1000000 in
theorem case_41 {E0 : JE} {nm : String} {Z : List Frame → Array Value → State → State → Prop} {b L i : Nat} {xs : Nat → Int32} {Inv : Wd → Prop} (hXt : kHX E0) (hX : kXS (kFu E0 140) b L xs) (hL : L ≤ 3072) (hi6 : i + 6 ≤ L) (hS : S_fewest Inv) (kk : ∀ σ, Inv σ → KG (kFu E0 140) mL_law room_1 nm 0 1566 [some (.inr 2000), some (.inr 0), some (.inr 120), some (.inl (nI i))] [] σ 140 6165 Z) (σ : Wd) (hI : Inv σ) : KG (kFu E0 140) mL_law room_1 nm 0 1353 [some (.inr 2000), some (.inr 0), some (.inr 120), some (.inl (nI i))] [] σ 140 6165 Z := by
  refine kg_aload_n dL_law_1353 (pc' := 1354) rfl rfl rfl ?_
  refine kg_aload_n dL_law_1354 (pc' := 1355) rfl rfl rfl ?_
  refine kg_iload_n dL_law_1355 (pc' := 1356) rfl rfl rfl ?_
  refine kg_iconst dL_law_1356 (pc' := 1357) rfl kc_1 ?_
  refine kg_iadd dL_law_1357 (pc' := 1358) rfl ?_
  refine kg_sld hX (law_in 1 (by decide) hi6 hL) dL_law_1358 (pc' := 1359) rfl ?_
  obtain ⟨r, σ1, σ2, h10, h11, hI2⟩ := hS σ (xs (nI i + 1).toNatClampNeg) hI
  obtain ⟨h10, rfl⟩ := h10
  refine kgVi (as := [.inl (xs (nI i + 1).toNatClampNeg)]) (st := []) l_RL_185 (m_X10_fewest (kOk_fu (by decide)) σ1 (xs (nI i + 1).toNatClampNeg) h10) rfl (Nat.le_of_ble_eq_true rfl : 0 < 140) rfl ⟨⟨rfl, rfl⟩, Nat.le_of_ble_eq_true rfl, Nat.le_of_ble_eq_true rfl⟩ ⟨Nat.le_of_ble_eq_true rfl, Nat.le_of_ble_eq_true rfl⟩ (Nat.le_of_ble_eq_true rfl) dL_law_1359 (pc' := 1362) rfl ?_
  refine kg_aload_n dL_law_1362 (pc' := 1363) rfl rfl rfl ?_
  refine kg_aload_n dL_law_1363 (pc' := 1364) rfl rfl rfl ?_
  refine kg_iload_n dL_law_1364 (pc' := 1365) rfl rfl rfl ?_
  refine kg_iconst dL_law_1365 (pc' := 1366) rfl kc_1 ?_
  refine kg_iadd dL_law_1366 (pc' := 1367) rfl ?_
  refine kg_sld hX (law_in 1 (by decide) hi6 hL) dL_law_1367 (pc' := 1368) rfl ?_
  refine kgVi (as := [.inl (xs (nI i + 1).toNatClampNeg)]) (st := [.inl r]) l_RL_188 (m_X11_fewest (kOk_fu (by decide)) σ1 (xs (nI i + 1).toNatClampNeg) h11) rfl (Nat.le_of_ble_eq_true rfl : 120 < 140) rfl ⟨⟨rfl, rfl⟩, Nat.le_of_ble_eq_true rfl, Nat.le_of_ble_eq_true rfl⟩ ⟨Nat.le_of_ble_eq_true rfl, Nat.le_of_ble_eq_true rfl⟩ (Nat.le_of_ble_eq_true rfl) dL_law_1368 (pc' := 1371) rfl ?_
  refine kg_icmp_eq dL_law_1371 (tgt := 1566) rfl (pc' := 1374) rfl (fun _ => ?_) (fun c => absurd rfl c)
  exact kk _ hI2
set_option maxRecDepth 100000 in
set_option maxHeartbeats 1000000 in
theorem case_42 {E0 : JE} {nm : String} {Z : List Frame → Array Value → State → State → Prop} {b L i : Nat} {xs : Nat → Int32} {Inv : Wd → Prop} (hXt : kHX E0) (hX : kXS (kFu E0 140) b L xs) (hL : L ≤ 3072) (hi6 : i + 6 ≤ L) (hS : S_withSet Inv) (kk : ∀ σ, Inv σ → KG (kFu E0 140) mL_law room_1 nm 0 1566 [some (.inr 2000), some (.inr 0), some (.inr 120), some (.inl (nI i))] [] σ 140 6165 Z) (σ : Wd) (hI : Inv σ) : KG (kFu E0 140) mL_law room_1 nm 0 1376 [some (.inr 2000), some (.inr 0), some (.inr 120), some (.inl (nI i))] [] σ 140 6165 Z := by
  refine kg_aload_n dL_law_1376 (pc' := 1377) rfl rfl rfl ?_
  refine kg_aload_n dL_law_1377 (pc' := 1378) rfl rfl rfl ?_
  refine kg_iload_n dL_law_1378 (pc' := 1379) rfl rfl rfl ?_
  refine kg_iconst dL_law_1379 (pc' := 1380) rfl kc_1 ?_
  refine kg_iadd dL_law_1380 (pc' := 1381) rfl ?_
  refine kg_sld hX (law_in 1 (by decide) hi6 hL) dL_law_1381 (pc' := 1382) rfl ?_
  obtain ⟨r, σ1, σ2, h10, h11, hI2⟩ := hS σ (xs (nI i + 1).toNatClampNeg) hI
  refine kgVi (as := [.inl (xs (nI i + 1).toNatClampNeg)]) (st := []) l_RL_189 (m_X10_withSet (kOk_fu (by decide)) σ (xs (nI i + 1).toNatClampNeg) h10) rfl (Nat.le_of_ble_eq_true rfl : 0 < 140) rfl ⟨⟨rfl, rfl⟩, Nat.le_of_ble_eq_true rfl, Nat.le_of_ble_eq_true rfl⟩ ⟨Nat.le_of_ble_eq_true rfl, Nat.le_of_ble_eq_true rfl⟩ (Nat.le_of_ble_eq_true rfl) dL_law_1382 (pc' := 1385) rfl ?_
  refine kg_aload_n dL_law_1385 (pc' := 1386) rfl rfl rfl ?_
  refine kg_aload_n dL_law_1386 (pc' := 1387) rfl rfl rfl ?_
  refine kg_iload_n dL_law_1387 (pc' := 1388) rfl rfl rfl ?_
  refine kg_iconst dL_law_1388 (pc' := 1389) rfl kc_1 ?_
  refine kg_iadd dL_law_1389 (pc' := 1390) rfl ?_
  refine kg_sld hX (law_in 1 (by decide) hi6 hL) dL_law_1390 (pc' := 1391) rfl ?_
  refine kgVi (as := [.inl (xs (nI i + 1).toNatClampNeg)]) (st := [.inl r]) l_RL_192 (m_X11_withSet (kOk_fu (by decide)) σ1 (xs (nI i + 1).toNatClampNeg) h11) rfl (Nat.le_of_ble_eq_true rfl : 120 < 140) rfl ⟨⟨rfl, rfl⟩, Nat.le_of_ble_eq_true rfl, Nat.le_of_ble_eq_true rfl⟩ ⟨Nat.le_of_ble_eq_true rfl, Nat.le_of_ble_eq_true rfl⟩ (Nat.le_of_ble_eq_true rfl) dL_law_1391 (pc' := 1394) rfl ?_
  refine kg_icmp_eq dL_law_1394 (tgt := 1566) rfl (pc' := 1397) rfl (fun _ => ?_) (fun c => absurd rfl c)
  exact kk _ hI2
set_option maxRecDepth 100000 in
set_option maxHeartbeats 1000000 in
theorem case_43 {E0 : JE} {nm : String} {Z : List Frame → Array Value → State → State → Prop} {b L i : Nat} {xs : Nat → Int32} {Inv : Wd → Prop} (hXt : kHX E0) (hX : kXS (kFu E0 140) b L xs) (hL : L ≤ 3072) (hi6 : i + 6 ≤ L) (hS : S_withoutGenerator Inv) (kk : ∀ σ, Inv σ → KG (kFu E0 140) mL_law room_1 nm 0 1566 [some (.inr 2000), some (.inr 0), some (.inr 120), some (.inl (nI i))] [] σ 140 6165 Z) (σ : Wd) (hI : Inv σ) : KG (kFu E0 140) mL_law room_1 nm 0 1399 [some (.inr 2000), some (.inr 0), some (.inr 120), some (.inl (nI i))] [] σ 140 6165 Z := by
  refine kg_aload_n dL_law_1399 (pc' := 1400) rfl rfl rfl ?_
  refine kg_aload_n dL_law_1400 (pc' := 1401) rfl rfl rfl ?_
  refine kg_iload_n dL_law_1401 (pc' := 1402) rfl rfl rfl ?_
  refine kg_iconst dL_law_1402 (pc' := 1403) rfl kc_1 ?_
  refine kg_iadd dL_law_1403 (pc' := 1404) rfl ?_
  refine kg_sld hX (law_in 1 (by decide) hi6 hL) dL_law_1404 (pc' := 1405) rfl ?_
  obtain ⟨r, σ1, σ2, h10, h11, hI2⟩ := hS σ (xs (nI i + 1).toNatClampNeg) hI
  refine kgVi (as := [.inl (xs (nI i + 1).toNatClampNeg)]) (st := []) l_RL_193 (m_X10_withoutGenerator (kOk_fu (by decide)) σ (xs (nI i + 1).toNatClampNeg) h10) rfl (Nat.le_of_ble_eq_true rfl : 0 < 140) rfl ⟨⟨rfl, rfl⟩, Nat.le_of_ble_eq_true rfl, Nat.le_of_ble_eq_true rfl⟩ ⟨Nat.le_of_ble_eq_true rfl, Nat.le_of_ble_eq_true rfl⟩ (Nat.le_of_ble_eq_true rfl) dL_law_1405 (pc' := 1408) rfl ?_
  refine kg_aload_n dL_law_1408 (pc' := 1409) rfl rfl rfl ?_
  refine kg_aload_n dL_law_1409 (pc' := 1410) rfl rfl rfl ?_
  refine kg_iload_n dL_law_1410 (pc' := 1411) rfl rfl rfl ?_
  refine kg_iconst dL_law_1411 (pc' := 1412) rfl kc_1 ?_
  refine kg_iadd dL_law_1412 (pc' := 1413) rfl ?_
  refine kg_sld hX (law_in 1 (by decide) hi6 hL) dL_law_1413 (pc' := 1414) rfl ?_
  refine kgVi (as := [.inl (xs (nI i + 1).toNatClampNeg)]) (st := [.inl r]) l_RL_196 (m_X11_withoutGenerator (kOk_fu (by decide)) σ1 (xs (nI i + 1).toNatClampNeg) h11) rfl (Nat.le_of_ble_eq_true rfl : 120 < 140) rfl ⟨⟨rfl, rfl⟩, Nat.le_of_ble_eq_true rfl, Nat.le_of_ble_eq_true rfl⟩ ⟨Nat.le_of_ble_eq_true rfl, Nat.le_of_ble_eq_true rfl⟩ (Nat.le_of_ble_eq_true rfl) dL_law_1414 (pc' := 1417) rfl ?_
  refine kg_icmp_eq dL_law_1417 (tgt := 1566) rfl (pc' := 1420) rfl (fun _ => ?_) (fun c => absurd rfl c)
  exact kk _ hI2
set_option maxRecDepth 100000 in
set_option maxHeartbeats 1000000 in
theorem case_44 {E0 : JE} {nm : String} {Z : List Frame → Array Value → State → State → Prop} {b L i : Nat} {xs : Nat → Int32} {Inv : Wd → Prop} (hXt : kHX E0) (hX : kXS (kFu E0 140) b L xs) (hL : L ≤ 3072) (hi6 : i + 6 ≤ L) (hS : S_gentlest Inv) (kk : ∀ σ, Inv σ → KG (kFu E0 140) mL_law room_1 nm 0 1566 [some (.inr 2000), some (.inr 0), some (.inr 120), some (.inl (nI i))] [] σ 140 6165 Z) (σ : Wd) (hI : Inv σ) : KG (kFu E0 140) mL_law room_1 nm 0 1422 [some (.inr 2000), some (.inr 0), some (.inr 120), some (.inl (nI i))] [] σ 140 6165 Z := by
  refine kg_aload_n dL_law_1422 (pc' := 1423) rfl rfl rfl ?_
  obtain ⟨r, σ1, σ2, h10, h11, hI2⟩ := hS σ hI
  refine kgVi (as := []) (st := []) l_RL_197 (m_X10_gentlest (kOk_fu (by decide)) σ h10) rfl (Nat.le_of_ble_eq_true rfl : 0 < 140) rfl ⟨⟨rfl, rfl⟩, Nat.le_of_ble_eq_true rfl, Nat.le_of_ble_eq_true rfl⟩ ⟨Nat.le_of_ble_eq_true rfl, Nat.le_of_ble_eq_true rfl⟩ (Nat.le_of_ble_eq_true rfl) dL_law_1423 (pc' := 1426) rfl ?_
  refine kg_aload_n dL_law_1426 (pc' := 1427) rfl rfl rfl ?_
  refine kgVi (as := []) (st := [.inl r]) l_RL_200 (m_X11_gentlest (kOk_fu (by decide)) σ1 h11) rfl (Nat.le_of_ble_eq_true rfl : 120 < 140) rfl ⟨⟨rfl, rfl⟩, Nat.le_of_ble_eq_true rfl, Nat.le_of_ble_eq_true rfl⟩ ⟨Nat.le_of_ble_eq_true rfl, Nat.le_of_ble_eq_true rfl⟩ (Nat.le_of_ble_eq_true rfl) dL_law_1427 (pc' := 1430) rfl ?_
  refine kg_icmp_eq dL_law_1430 (tgt := 1566) rfl (pc' := 1433) rfl (fun _ => ?_) (fun c => absurd rfl c)
  exact kk _ hI2
set_option maxRecDepth 100000 in
set_option maxHeartbeats 1000000 in
theorem case_45 {E0 : JE} {nm : String} {Z : List Frame → Array Value → State → State → Prop} {b L i : Nat} {xs : Nat → Int32} {Inv : Wd → Prop} (hXt : kHX E0) (hX : kXS (kFu E0 140) b L xs) (hL : L ≤ 3072) (hi6 : i + 6 ≤ L) (hS : S_spoiler Inv) (kk : ∀ σ, Inv σ → KG (kFu E0 140) mL_law room_1 nm 0 1566 [some (.inr 2000), some (.inr 0), some (.inr 120), some (.inl (nI i))] [] σ 140 6165 Z) (σ : Wd) (hI : Inv σ) : KG (kFu E0 140) mL_law room_1 nm 0 1435 [some (.inr 2000), some (.inr 0), some (.inr 120), some (.inl (nI i))] [] σ 140 6165 Z := by
  refine kg_aload_n dL_law_1435 (pc' := 1436) rfl rfl rfl ?_
  obtain ⟨r, σ1, σ2, h10, h11, hI2⟩ := hS σ hI
  refine kgVi (as := []) (st := []) l_RL_201 (m_X10_spoiler (kOk_fu (by decide)) σ h10) rfl (Nat.le_of_ble_eq_true rfl : 0 < 140) rfl ⟨⟨rfl, rfl⟩, Nat.le_of_ble_eq_true rfl, Nat.le_of_ble_eq_true rfl⟩ ⟨Nat.le_of_ble_eq_true rfl, Nat.le_of_ble_eq_true rfl⟩ (Nat.le_of_ble_eq_true rfl) dL_law_1436 (pc' := 1439) rfl ?_
  refine kg_aload_n dL_law_1439 (pc' := 1440) rfl rfl rfl ?_
  refine kgVi (as := []) (st := [.inl r]) l_RL_204 (m_X11_spoiler (kOk_fu (by decide)) σ1 h11) rfl (Nat.le_of_ble_eq_true rfl : 120 < 140) rfl ⟨⟨rfl, rfl⟩, Nat.le_of_ble_eq_true rfl, Nat.le_of_ble_eq_true rfl⟩ ⟨Nat.le_of_ble_eq_true rfl, Nat.le_of_ble_eq_true rfl⟩ (Nat.le_of_ble_eq_true rfl) dL_law_1440 (pc' := 1443) rfl ?_
  refine kg_icmp_eq dL_law_1443 (tgt := 1566) rfl (pc' := 1446) rfl (fun _ => ?_) (fun c => absurd rfl c)
  exact kk _ hI2
set_option maxRecDepth 100000 in
set_option maxHeartbeats 1000000 in
theorem case_46 {E0 : JE} {nm : String} {Z : List Frame → Array Value → State → State → Prop} {b L i : Nat} {xs : Nat → Int32} {Inv : Wd → Prop} (hXt : kHX E0) (hX : kXS (kFu E0 140) b L xs) (hL : L ≤ 3072) (hi6 : i + 6 ≤ L) (hS : S_proof Inv) (kk : ∀ σ, Inv σ → KG (kFu E0 140) mL_law room_1 nm 0 1566 [some (.inr 2000), some (.inr 0), some (.inr 120), some (.inl (nI i))] [] σ 140 6165 Z) (σ : Wd) (hI : Inv σ) : KG (kFu E0 140) mL_law room_1 nm 0 1448 [some (.inr 2000), some (.inr 0), some (.inr 120), some (.inl (nI i))] [] σ 140 6165 Z := by
  refine kg_aload_n dL_law_1448 (pc' := 1449) rfl rfl rfl ?_
  obtain ⟨r, σ1, σ2, h10, h11, hI2⟩ := hS σ hI
  refine kgVi (as := []) (st := []) l_RL_205 (m_X10_proof (kOk_fu (by decide)) σ h10) rfl (Nat.le_of_ble_eq_true rfl : 0 < 140) rfl ⟨⟨rfl, rfl⟩, Nat.le_of_ble_eq_true rfl, Nat.le_of_ble_eq_true rfl⟩ ⟨Nat.le_of_ble_eq_true rfl, Nat.le_of_ble_eq_true rfl⟩ (Nat.le_of_ble_eq_true rfl) dL_law_1449 (pc' := 1452) rfl ?_
  refine kg_aload_n dL_law_1452 (pc' := 1453) rfl rfl rfl ?_
  refine kgVi (as := []) (st := [.inl r]) l_RL_208 (m_X11_proof (kOk_fu (by decide)) σ1 h11) rfl (Nat.le_of_ble_eq_true rfl : 120 < 140) rfl ⟨⟨rfl, rfl⟩, Nat.le_of_ble_eq_true rfl, Nat.le_of_ble_eq_true rfl⟩ ⟨Nat.le_of_ble_eq_true rfl, Nat.le_of_ble_eq_true rfl⟩ (Nat.le_of_ble_eq_true rfl) dL_law_1453 (pc' := 1456) rfl ?_
  refine kg_icmp_eq dL_law_1456 (tgt := 1566) rfl (pc' := 1459) rfl (fun _ => ?_) (fun c => absurd rfl c)
  exact kk _ hI2
set_option maxRecDepth 100000 in
set_option maxHeartbeats 1000000 in
theorem case_47 {E0 : JE} {nm : String} {Z : List Frame → Array Value → State → State → Prop} {b L i : Nat} {xs : Nat → Int32} {Inv : Wd → Prop} (hXt : kHX E0) (hX : kXS (kFu E0 140) b L xs) (hL : L ≤ 3072) (hi6 : i + 6 ≤ L) (hS : S_listed Inv) (kk : ∀ σ, Inv σ → KG (kFu E0 140) mL_law room_1 nm 0 1566 [some (.inr 2000), some (.inr 0), some (.inr 120), some (.inl (nI i))] [] σ 140 6165 Z) (σ : Wd) (hI : Inv σ) : KG (kFu E0 140) mL_law room_1 nm 0 1461 [some (.inr 2000), some (.inr 0), some (.inr 120), some (.inl (nI i))] [] σ 140 6165 Z := by
  refine kg_aload_n dL_law_1461 (pc' := 1462) rfl rfl rfl ?_
  refine kg_aload_n dL_law_1462 (pc' := 1463) rfl rfl rfl ?_
  refine kg_iload_n dL_law_1463 (pc' := 1464) rfl rfl rfl ?_
  refine kg_iconst dL_law_1464 (pc' := 1465) rfl kc_1 ?_
  refine kg_iadd dL_law_1465 (pc' := 1466) rfl ?_
  refine kg_sld hX (law_in 1 (by decide) hi6 hL) dL_law_1466 (pc' := 1467) rfl ?_
  obtain ⟨r, σ1, σ2, h10, h11, hI2⟩ := hS σ (xs (nI i + 1).toNatClampNeg) hI
  obtain ⟨h10, rfl⟩ := h10
  refine kgVi (as := [.inl (xs (nI i + 1).toNatClampNeg)]) (st := []) l_RL_209 (m_X10_listed (kOk_fu (by decide)) σ1 (xs (nI i + 1).toNatClampNeg) h10) rfl (Nat.le_of_ble_eq_true rfl : 0 < 140) rfl ⟨⟨rfl, rfl⟩, Nat.le_of_ble_eq_true rfl, Nat.le_of_ble_eq_true rfl⟩ ⟨Nat.le_of_ble_eq_true rfl, Nat.le_of_ble_eq_true rfl⟩ (Nat.le_of_ble_eq_true rfl) dL_law_1467 (pc' := 1470) rfl ?_
  refine kg_aload_n dL_law_1470 (pc' := 1471) rfl rfl rfl ?_
  refine kg_aload_n dL_law_1471 (pc' := 1472) rfl rfl rfl ?_
  refine kg_iload_n dL_law_1472 (pc' := 1473) rfl rfl rfl ?_
  refine kg_iconst dL_law_1473 (pc' := 1474) rfl kc_1 ?_
  refine kg_iadd dL_law_1474 (pc' := 1475) rfl ?_
  refine kg_sld hX (law_in 1 (by decide) hi6 hL) dL_law_1475 (pc' := 1476) rfl ?_
  obtain ⟨h11, rfl⟩ := h11
  refine kgVi (as := [.inl (xs (nI i + 1).toNatClampNeg)]) (st := [.inl r]) l_RL_212 (m_X11_listed (kOk_fu (by decide)) σ2 (xs (nI i + 1).toNatClampNeg) h11) rfl (Nat.le_of_ble_eq_true rfl : 120 < 140) rfl ⟨⟨rfl, rfl⟩, Nat.le_of_ble_eq_true rfl, Nat.le_of_ble_eq_true rfl⟩ ⟨Nat.le_of_ble_eq_true rfl, Nat.le_of_ble_eq_true rfl⟩ (Nat.le_of_ble_eq_true rfl) dL_law_1476 (pc' := 1479) rfl ?_
  refine kg_icmp_eq dL_law_1479 (tgt := 1566) rfl (pc' := 1482) rfl (fun _ => ?_) (fun c => absurd rfl c)
  exact kk _ hI2
set_option maxRecDepth 100000 in
set_option maxHeartbeats 1000000 in
theorem case_48 {E0 : JE} {nm : String} {Z : List Frame → Array Value → State → State → Prop} {b L i : Nat} {xs : Nat → Int32} {Inv : Wd → Prop} (hXt : kHX E0) (hX : kXS (kFu E0 140) b L xs) (hL : L ≤ 3072) (hi6 : i + 6 ≤ L) (hS : S_refused Inv) (kk : ∀ σ, Inv σ → KG (kFu E0 140) mL_law room_1 nm 0 1566 [some (.inr 2000), some (.inr 0), some (.inr 120), some (.inl (nI i))] [] σ 140 6165 Z) (σ : Wd) (hI : Inv σ) : KG (kFu E0 140) mL_law room_1 nm 0 1484 [some (.inr 2000), some (.inr 0), some (.inr 120), some (.inl (nI i))] [] σ 140 6165 Z := by
  refine kg_aload_n dL_law_1484 (pc' := 1485) rfl rfl rfl ?_
  refine kg_aload_n dL_law_1485 (pc' := 1486) rfl rfl rfl ?_
  refine kg_iload_n dL_law_1486 (pc' := 1487) rfl rfl rfl ?_
  refine kg_iconst dL_law_1487 (pc' := 1488) rfl kc_1 ?_
  refine kg_iadd dL_law_1488 (pc' := 1489) rfl ?_
  refine kg_sld hX (law_in 1 (by decide) hi6 hL) dL_law_1489 (pc' := 1490) rfl ?_
  obtain ⟨r, σ1, σ2, h10, h11, hI2⟩ := hS σ (xs (nI i + 1).toNatClampNeg) hI
  obtain ⟨h10, rfl⟩ := h10
  refine kgVi (as := [.inl (xs (nI i + 1).toNatClampNeg)]) (st := []) l_RL_213 (m_X10_refused (kOk_fu (by decide)) σ1 (xs (nI i + 1).toNatClampNeg) h10) rfl (Nat.le_of_ble_eq_true rfl : 0 < 140) rfl ⟨⟨rfl, rfl⟩, Nat.le_of_ble_eq_true rfl, Nat.le_of_ble_eq_true rfl⟩ ⟨Nat.le_of_ble_eq_true rfl, Nat.le_of_ble_eq_true rfl⟩ (Nat.le_of_ble_eq_true rfl) dL_law_1490 (pc' := 1493) rfl ?_
  refine kg_aload_n dL_law_1493 (pc' := 1494) rfl rfl rfl ?_
  refine kg_aload_n dL_law_1494 (pc' := 1495) rfl rfl rfl ?_
  refine kg_iload_n dL_law_1495 (pc' := 1496) rfl rfl rfl ?_
  refine kg_iconst dL_law_1496 (pc' := 1497) rfl kc_1 ?_
  refine kg_iadd dL_law_1497 (pc' := 1498) rfl ?_
  refine kg_sld hX (law_in 1 (by decide) hi6 hL) dL_law_1498 (pc' := 1499) rfl ?_
  obtain ⟨h11, rfl⟩ := h11
  refine kgVi (as := [.inl (xs (nI i + 1).toNatClampNeg)]) (st := [.inl r]) l_RL_216 (m_X11_refused (kOk_fu (by decide)) σ2 (xs (nI i + 1).toNatClampNeg) h11) rfl (Nat.le_of_ble_eq_true rfl : 120 < 140) rfl ⟨⟨rfl, rfl⟩, Nat.le_of_ble_eq_true rfl, Nat.le_of_ble_eq_true rfl⟩ ⟨Nat.le_of_ble_eq_true rfl, Nat.le_of_ble_eq_true rfl⟩ (Nat.le_of_ble_eq_true rfl) dL_law_1499 (pc' := 1502) rfl ?_
  refine kg_icmp_eq dL_law_1502 (tgt := 1566) rfl (pc' := 1505) rfl (fun _ => ?_) (fun c => absurd rfl c)
  exact kk _ hI2
set_option maxRecDepth 100000 in
set_option maxHeartbeats 1000000 in
theorem case_49 {E0 : JE} {nm : String} {Z : List Frame → Array Value → State → State → Prop} {b L i : Nat} {xs : Nat → Int32} {Inv : Wd → Prop} (hXt : kHX E0) (hX : kXS (kFu E0 140) b L xs) (hL : L ≤ 3072) (hi6 : i + 6 ≤ L) (hS : S_needs Inv) (kk : ∀ σ, Inv σ → KG (kFu E0 140) mL_law room_1 nm 0 1566 [some (.inr 2000), some (.inr 0), some (.inr 120), some (.inl (nI i))] [] σ 140 6165 Z) (σ : Wd) (hI : Inv σ) : KG (kFu E0 140) mL_law room_1 nm 0 1507 [some (.inr 2000), some (.inr 0), some (.inr 120), some (.inl (nI i))] [] σ 140 6165 Z := by
  refine kg_aload_n dL_law_1507 (pc' := 1508) rfl rfl rfl ?_
  obtain ⟨r, σ1, σ2, h10, h11, hI2⟩ := hS σ hI
  refine kgVi (as := []) (st := []) l_RL_217 (m_X10_needs (kOk_fu (by decide)) σ h10) rfl (Nat.le_of_ble_eq_true rfl : 0 < 140) rfl ⟨⟨rfl, rfl⟩, Nat.le_of_ble_eq_true rfl, Nat.le_of_ble_eq_true rfl⟩ ⟨Nat.le_of_ble_eq_true rfl, Nat.le_of_ble_eq_true rfl⟩ (Nat.le_of_ble_eq_true rfl) dL_law_1508 (pc' := 1511) rfl ?_
  refine kg_aload_n dL_law_1511 (pc' := 1512) rfl rfl rfl ?_
  refine kgVi (as := []) (st := [.inl r]) l_RL_220 (m_X11_needs (kOk_fu (by decide)) σ1 h11) rfl (Nat.le_of_ble_eq_true rfl : 120 < 140) rfl ⟨⟨rfl, rfl⟩, Nat.le_of_ble_eq_true rfl, Nat.le_of_ble_eq_true rfl⟩ ⟨Nat.le_of_ble_eq_true rfl, Nat.le_of_ble_eq_true rfl⟩ (Nat.le_of_ble_eq_true rfl) dL_law_1512 (pc' := 1515) rfl ?_
  refine kg_icmp_eq dL_law_1515 (tgt := 1566) rfl (pc' := 1518) rfl (fun _ => ?_) (fun c => absurd rfl c)
  exact kk _ hI2
set_option maxRecDepth 100000 in
set_option maxHeartbeats 1000000 in
theorem case_50 {E0 : JE} {nm : String} {Z : List Frame → Array Value → State → State → Prop} {b L i : Nat} {xs : Nat → Int32} {Inv : Wd → Prop} (hXt : kHX E0) (hX : kXS (kFu E0 140) b L xs) (hL : L ≤ 3072) (hi6 : i + 6 ≤ L) (hS : S_spell Inv) (kk : ∀ σ, Inv σ → KG (kFu E0 140) mL_law room_1 nm 0 1566 [some (.inr 2000), some (.inr 0), some (.inr 120), some (.inl (nI i))] [] σ 140 6165 Z) (σ : Wd) (hI : Inv σ) : KG (kFu E0 140) mL_law room_1 nm 0 1520 [some (.inr 2000), some (.inr 0), some (.inr 120), some (.inl (nI i))] [] σ 140 6165 Z := by
  refine kg_aload_n dL_law_1520 (pc' := 1521) rfl rfl rfl ?_
  refine kg_aload_n dL_law_1521 (pc' := 1522) rfl rfl rfl ?_
  refine kg_iload_n dL_law_1522 (pc' := 1523) rfl rfl rfl ?_
  refine kg_iconst dL_law_1523 (pc' := 1524) rfl kc_1 ?_
  refine kg_iadd dL_law_1524 (pc' := 1525) rfl ?_
  refine kg_sld hX (law_in 1 (by decide) hi6 hL) dL_law_1525 (pc' := 1526) rfl ?_
  obtain ⟨r, σ1, σ2, h10, h11, hI2⟩ := hS σ (xs (nI i + 1).toNatClampNeg) hI
  refine kgVi (as := [.inl (xs (nI i + 1).toNatClampNeg)]) (st := []) l_RL_221 (m_X10_spell (kOk_fu (by decide)) (kHX_fu hXt) σ (xs (nI i + 1).toNatClampNeg) h10) rfl (Nat.le_of_ble_eq_true rfl : 0 < 140) rfl ⟨⟨rfl, rfl⟩, Nat.le_of_ble_eq_true rfl, Nat.le_of_ble_eq_true rfl⟩ ⟨Nat.le_of_ble_eq_true rfl, Nat.le_of_ble_eq_true rfl⟩ (Nat.le_of_ble_eq_true rfl) dL_law_1526 (pc' := 1529) rfl ?_
  refine kg_aload_n dL_law_1529 (pc' := 1530) rfl rfl rfl ?_
  refine kg_aload_n dL_law_1530 (pc' := 1531) rfl rfl rfl ?_
  refine kg_iload_n dL_law_1531 (pc' := 1532) rfl rfl rfl ?_
  refine kg_iconst dL_law_1532 (pc' := 1533) rfl kc_1 ?_
  refine kg_iadd dL_law_1533 (pc' := 1534) rfl ?_
  refine kg_sld hX (law_in 1 (by decide) hi6 hL) dL_law_1534 (pc' := 1535) rfl ?_
  refine kgVi (as := [.inl (xs (nI i + 1).toNatClampNeg)]) (st := [.inl r]) l_RL_224 (m_X11_spell (kOk_fu (by decide)) σ1 (xs (nI i + 1).toNatClampNeg) h11) rfl (Nat.le_of_ble_eq_true rfl : 120 < 140) rfl ⟨⟨rfl, rfl⟩, Nat.le_of_ble_eq_true rfl, Nat.le_of_ble_eq_true rfl⟩ ⟨Nat.le_of_ble_eq_true rfl, Nat.le_of_ble_eq_true rfl⟩ (Nat.le_of_ble_eq_true rfl) dL_law_1535 (pc' := 1538) rfl ?_
  refine kg_icmp_eq dL_law_1538 (tgt := 1566) rfl (pc' := 1541) rfl (fun _ => ?_) (fun c => absurd rfl c)
  exact kk _ hI2
set_option maxRecDepth 100000 in
set_option maxHeartbeats 1000000 in
theorem case_51 {E0 : JE} {nm : String} {Z : List Frame → Array Value → State → State → Prop} {b L i : Nat} {xs : Nat → Int32} {Inv : Wd → Prop} (hXt : kHX E0) (hX : kXS (kFu E0 140) b L xs) (hL : L ≤ 3072) (hi6 : i + 6 ≤ L) (hS : S_count Inv) (kk : ∀ σ, Inv σ → KG (kFu E0 140) mL_law room_1 nm 0 1566 [some (.inr 2000), some (.inr 0), some (.inr 120), some (.inl (nI i))] [] σ 140 6165 Z) (σ : Wd) (hI : Inv σ) : KG (kFu E0 140) mL_law room_1 nm 0 1543 [some (.inr 2000), some (.inr 0), some (.inr 120), some (.inl (nI i))] [] σ 140 6165 Z := by
  refine kg_aload_n dL_law_1543 (pc' := 1544) rfl rfl rfl ?_
  refine kg_aload_n dL_law_1544 (pc' := 1545) rfl rfl rfl ?_
  refine kg_iload_n dL_law_1545 (pc' := 1546) rfl rfl rfl ?_
  refine kg_iconst dL_law_1546 (pc' := 1547) rfl kc_1 ?_
  refine kg_iadd dL_law_1547 (pc' := 1548) rfl ?_
  refine kg_sld hX (law_in 1 (by decide) hi6 hL) dL_law_1548 (pc' := 1549) rfl ?_
  obtain ⟨r, σ1, σ2, h10, h11, hI2⟩ := hS σ (xs (nI i + 1).toNatClampNeg) hI
  obtain ⟨h10, rfl⟩ := h10
  refine kgVi (as := [.inl (xs (nI i + 1).toNatClampNeg)]) (st := []) l_RL_225 (m_X10_count (kOk_fu (by decide)) σ1 (xs (nI i + 1).toNatClampNeg) h10) rfl (Nat.le_of_ble_eq_true rfl : 0 < 140) rfl ⟨⟨rfl, rfl⟩, Nat.le_of_ble_eq_true rfl, Nat.le_of_ble_eq_true rfl⟩ ⟨Nat.le_of_ble_eq_true rfl, Nat.le_of_ble_eq_true rfl⟩ (Nat.le_of_ble_eq_true rfl) dL_law_1549 (pc' := 1552) rfl ?_
  refine kg_aload_n dL_law_1552 (pc' := 1553) rfl rfl rfl ?_
  refine kg_aload_n dL_law_1553 (pc' := 1554) rfl rfl rfl ?_
  refine kg_iload_n dL_law_1554 (pc' := 1555) rfl rfl rfl ?_
  refine kg_iconst dL_law_1555 (pc' := 1556) rfl kc_1 ?_
  refine kg_iadd dL_law_1556 (pc' := 1557) rfl ?_
  refine kg_sld hX (law_in 1 (by decide) hi6 hL) dL_law_1557 (pc' := 1558) rfl ?_
  refine kgVi (as := [.inl (xs (nI i + 1).toNatClampNeg)]) (st := [.inl r]) l_RL_228 (m_X11_count (kOk_fu (by decide)) σ1 (xs (nI i + 1).toNatClampNeg) h11) rfl (Nat.le_of_ble_eq_true rfl : 120 < 140) rfl ⟨⟨rfl, rfl⟩, Nat.le_of_ble_eq_true rfl, Nat.le_of_ble_eq_true rfl⟩ ⟨Nat.le_of_ble_eq_true rfl, Nat.le_of_ble_eq_true rfl⟩ (Nat.le_of_ble_eq_true rfl) dL_law_1558 (pc' := 1561) rfl ?_
  refine kg_icmp_eq dL_law_1561 (tgt := 1566) rfl (pc' := 1564) rfl (fun _ => ?_) (fun c => absurd rfl c)
  exact kk _ hI2
