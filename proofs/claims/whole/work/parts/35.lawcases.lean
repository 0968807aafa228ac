set_option maxRecDepth 20000 in
theorem w_law_c0 {X : ya_X} {nm : String} {Γ : ya_Γ} {G : ya_G} {d : ya_D} {k n : Nat} {γ : Type} {v3 : Int32} {kj : ya_D → Option γ} {rr : γ} (hG : ya_Bk ya_sh ya_ln G 0) (hdy : ya_Dy G) (hkc : k ≤ 600000) (hnc : n ≤ 7302250) (h : f_law_c0 X.2.2.2.2.2.1 G v3 d kj = some rr) (hkj : ∀ d', kj d' = some rr → ya_E X (Y_law nm) Γ 2022 [(0, .ref X.2.2.2.2.2.1.1), (1, .ref (X.2.1 + 0)), (2, .ref (X.2.1 + 83)), (3, .int v3)] [] G d' k n) : ya_E X (Y_law nm) Γ 256 [(0, .ref X.2.2.2.2.2.1.1), (1, .ref (X.2.1 + 0)), (2, .ref (X.2.1 + 83)), (3, .int v3)] [] G d k n := by
  unfold f_law_c0 at h
  refine ya_aload_n 1 rfl dL_law_256 ?_
  refine ya_aload_n 0 rfl dL_law_257 ?_
  refine ya_iload_n 3 rfl dL_law_258 ?_
  refine ya_iconst 1 (by decide) dL_law_259 ?_
  refine ya_iadd dL_law_260 ?_
  refine ya_sald dL_law_261 h (fun x261 h => ?_)
  refine ya_aload_n 0 rfl dL_law_262 ?_
  refine ya_iload_n 3 rfl dL_law_263 ?_
  refine ya_iconst 2 (by decide) dL_law_264 ?_
  refine ya_iadd dL_law_265 ?_
  refine ya_sald dL_law_266 h (fun x266 h => ?_)
  refine ya_aload_n 0 rfl dL_law_267 ?_
  refine ya_iload_n 3 rfl dL_law_268 ?_
  refine ya_iconst 3 (by decide) dL_law_269 ?_
  refine ya_iadd dL_law_270 ?_
  refine ya_sald dL_law_271 h (fun x271 h => ?_)
  refine ya_aload_n 0 rfl dL_law_272 ?_
  refine ya_iload_n 3 rfl dL_law_273 ?_
  refine ya_iconst 4 (by decide) dL_law_274 ?_
  refine ya_iadd dL_law_275 ?_
  refine ya_sald dL_law_276 h (fun x276 h => ?_)
  refine ya_aload_n 0 rfl dL_law_277 ?_
  refine ya_iload_n 3 rfl dL_law_278 ?_
  refine ya_iconst 5 (by decide) dL_law_279 ?_
  refine ya_iadd dL_law_280 ?_
  refine ya_sald dL_law_281 h (fun x281 h => ?_)
  obtain ⟨x282, d282, e282, h⟩ := ya_ob2 h
  refine ya_callVi (S := []) (c_X11_feed hG e282) m_X11_feed ⟨rfl, rfl⟩ ml_L_13 rfl ⟨Nat.le_of_ble_eq_true rfl, Nat.le_of_ble_eq_true rfl⟩ (Nat.le_of_ble_eq_true rfl) (hG.lt0 0 (by decide)) (hG.o0 0 rfl) (by decide) rfl rfl ⟨hkc, hnc⟩ dL_law_282 rfl ?_
  refine ya_aload_n 2 rfl dL_law_285 ?_
  refine ya_aload_n 0 rfl dL_law_286 ?_
  refine ya_iload_n 3 rfl dL_law_287 ?_
  refine ya_iconst 1 (by decide) dL_law_288 ?_
  refine ya_iadd dL_law_289 ?_
  refine ya_sald dL_law_290 h (fun x290 h => ?_)
  refine ya_aload_n 0 rfl dL_law_291 ?_
  refine ya_iload_n 3 rfl dL_law_292 ?_
  refine ya_iconst 2 (by decide) dL_law_293 ?_
  refine ya_iadd dL_law_294 ?_
  refine ya_sald dL_law_295 h (fun x295 h => ?_)
  refine ya_aload_n 0 rfl dL_law_296 ?_
  refine ya_iload_n 3 rfl dL_law_297 ?_
  refine ya_iconst 3 (by decide) dL_law_298 ?_
  refine ya_iadd dL_law_299 ?_
  refine ya_sald dL_law_300 h (fun x300 h => ?_)
  refine ya_aload_n 0 rfl dL_law_301 ?_
  refine ya_iload_n 3 rfl dL_law_302 ?_
  refine ya_iconst 4 (by decide) dL_law_303 ?_
  refine ya_iadd dL_law_304 ?_
  refine ya_sald dL_law_305 h (fun x305 h => ?_)
  refine ya_aload_n 0 rfl dL_law_306 ?_
  refine ya_iload_n 3 rfl dL_law_307 ?_
  refine ya_iconst 5 (by decide) dL_law_308 ?_
  refine ya_iadd dL_law_309 ?_
  refine ya_sald dL_law_310 h (fun x310 h => ?_)
  obtain ⟨x311, d311, e311, h⟩ := ya_ob2 h
  refine ya_callVi (S := [.int x282]) (c_X12_feed hG e311) m_X12_feed ⟨rfl, rfl⟩ ml_L_17 rfl ⟨Nat.le_of_ble_eq_true rfl, Nat.le_of_ble_eq_true rfl⟩ (Nat.le_of_ble_eq_true rfl) (hG.lt0 83 (by decide)) (hG.o0 83 rfl) (by decide) rfl rfl ⟨hkc, hnc⟩ dL_law_311 rfl ?_
  refine ya_icmp_eq 2022 (by decide) dL_law_314 (fun c => ?_) (fun c => ?_)
  · replace h := ya_itet h c
    exact hkj _ h
  · replace h := ya_itef h c
    refine ya_iconst 0 (by decide) dL_law_317 ?_
    cases h
set_option maxRecDepth 20000 in
theorem w_law_c1 {X : ya_X} {nm : String} {Γ : ya_Γ} {G : ya_G} {d : ya_D} {k n : Nat} {γ : Type} {v3 : Int32} {kj : ya_D → Option γ} {rr : γ} (hG : ya_Bk ya_sh ya_ln G 0) (hdy : ya_Dy G) (hkc : k ≤ 600000) (hnc : n ≤ 7302250) (h : f_law_c1 X.2.2.2.2.2.1 G v3 d kj = some rr) (hkj : ∀ d', kj d' = some rr → ya_E X (Y_law nm) Γ 2022 [(0, .ref X.2.2.2.2.2.1.1), (1, .ref (X.2.1 + 0)), (2, .ref (X.2.1 + 83)), (3, .int v3)] [] G d' k n) : ya_E X (Y_law nm) Γ 319 [(0, .ref X.2.2.2.2.2.1.1), (1, .ref (X.2.1 + 0)), (2, .ref (X.2.1 + 83)), (3, .int v3)] [] G d k n := by
  unfold f_law_c1 at h
  refine ya_aload_n 1 rfl dL_law_319 ?_
  refine ya_aload_n 0 rfl dL_law_320 ?_
  refine ya_iload_n 3 rfl dL_law_321 ?_
  refine ya_iconst 1 (by decide) dL_law_322 ?_
  refine ya_iadd dL_law_323 ?_
  refine ya_sald dL_law_324 h (fun x324 h => ?_)
  obtain ⟨x325, d325, e325, h⟩ := ya_ob2 h
  refine ya_callVi (S := []) (c_X11_end hG e325) m_X11_end ⟨rfl, rfl⟩ ml_L_18 rfl ⟨Nat.le_of_ble_eq_true rfl, Nat.le_of_ble_eq_true rfl⟩ (Nat.le_of_ble_eq_true rfl) (hG.lt0 0 (by decide)) (hG.o0 0 rfl) (by decide) rfl rfl ⟨hkc, hnc⟩ dL_law_325 rfl ?_
  refine ya_aload_n 2 rfl dL_law_328 ?_
  refine ya_aload_n 0 rfl dL_law_329 ?_
  refine ya_iload_n 3 rfl dL_law_330 ?_
  refine ya_iconst 1 (by decide) dL_law_331 ?_
  refine ya_iadd dL_law_332 ?_
  refine ya_sald dL_law_333 h (fun x333 h => ?_)
  obtain ⟨x334, d334, e334, h⟩ := ya_ob2 h
  refine ya_callVi (S := [.int x325]) (c_X12_end hG e334) m_X12_end ⟨rfl, rfl⟩ ml_L_22 rfl ⟨Nat.le_of_ble_eq_true rfl, Nat.le_of_ble_eq_true rfl⟩ (Nat.le_of_ble_eq_true rfl) (hG.lt0 83 (by decide)) (hG.o0 83 rfl) (by decide) rfl rfl ⟨hkc, hnc⟩ dL_law_334 rfl ?_
  refine ya_icmp_eq 2022 (by decide) dL_law_337 (fun c => ?_) (fun c => ?_)
  · replace h := ya_itet h c
    exact hkj _ h
  · replace h := ya_itef h c
    refine ya_iconst 0 (by decide) dL_law_340 ?_
    cases h
set_option maxRecDepth 20000 in
theorem w_law_c2 {X : ya_X} {nm : String} {Γ : ya_Γ} {G : ya_G} {d : ya_D} {k n : Nat} {γ : Type} {v3 : Int32} {kj : ya_D → Option γ} {rr : γ} (hG : ya_Bk ya_sh ya_ln G 0) (hdy : ya_Dy G) (hkc : k ≤ 600000) (hnc : n ≤ 7302250) (h : f_law_c2 X.2.2.2.2.2.1 G v3 d kj = some rr) (hkj : ∀ d', kj d' = some rr → ya_E X (Y_law nm) Γ 2022 [(0, .ref X.2.2.2.2.2.1.1), (1, .ref (X.2.1 + 0)), (2, .ref (X.2.1 + 83)), (3, .int v3)] [] G d' k n) : ya_E X (Y_law nm) Γ 342 [(0, .ref X.2.2.2.2.2.1.1), (1, .ref (X.2.1 + 0)), (2, .ref (X.2.1 + 83)), (3, .int v3)] [] G d k n := by
  unfold f_law_c2 at h
  refine ya_aload_n 1 rfl dL_law_342 ?_
  obtain ⟨x343, d343, e343, h⟩ := ya_ob2 h
  refine ya_callVi (S := []) (c_X11_market hG e343) m_X11_market ⟨rfl, rfl⟩ ml_L_23 rfl ⟨Nat.le_of_ble_eq_true rfl, Nat.le_of_ble_eq_true rfl⟩ (Nat.le_of_ble_eq_true rfl) (hG.lt0 0 (by decide)) (hG.o0 0 rfl) (by decide) rfl rfl ⟨hkc, hnc⟩ dL_law_343 rfl ?_
  refine ya_aload_n 2 rfl dL_law_346 ?_
  obtain ⟨x347, d347, e347, h⟩ := ya_ob2 h
  refine ya_callVi (S := [.int x343]) (c_X12_market hG e347) m_X12_market ⟨rfl, rfl⟩ ml_L_27 rfl ⟨Nat.le_of_ble_eq_true rfl, Nat.le_of_ble_eq_true rfl⟩ (Nat.le_of_ble_eq_true rfl) (hG.lt0 83 (by decide)) (hG.o0 83 rfl) (by decide) rfl rfl ⟨hkc, hnc⟩ dL_law_347 rfl ?_
  refine ya_icmp_eq 2022 (by decide) dL_law_350 (fun c => ?_) (fun c => ?_)
  · replace h := ya_itet h c
    exact hkj _ h
  · replace h := ya_itef h c
    refine ya_iconst 0 (by decide) dL_law_353 ?_
    cases h
set_option maxRecDepth 20000 in
theorem w_law_c3 {X : ya_X} {nm : String} {Γ : ya_Γ} {G : ya_G} {d : ya_D} {k n : Nat} {γ : Type} {v3 : Int32} {kj : ya_D → Option γ} {rr : γ} (hG : ya_Bk ya_sh ya_ln G 0) (hdy : ya_Dy G) (hkc : k ≤ 600000) (hnc : n ≤ 7302250) (h : f_law_c3 X.2.2.2.2.2.1 G v3 d kj = some rr) (hkj : ∀ d', kj d' = some rr → ya_E X (Y_law nm) Γ 2022 [(0, .ref X.2.2.2.2.2.1.1), (1, .ref (X.2.1 + 0)), (2, .ref (X.2.1 + 83)), (3, .int v3)] [] G d' k n) : ya_E X (Y_law nm) Γ 355 [(0, .ref X.2.2.2.2.2.1.1), (1, .ref (X.2.1 + 0)), (2, .ref (X.2.1 + 83)), (3, .int v3)] [] G d k n := by
  unfold f_law_c3 at h
  refine ya_aload_n 1 rfl dL_law_355 ?_
  refine ya_aload_n 0 rfl dL_law_356 ?_
  refine ya_iload_n 3 rfl dL_law_357 ?_
  refine ya_iconst 1 (by decide) dL_law_358 ?_
  refine ya_iadd dL_law_359 ?_
  refine ya_sald dL_law_360 h (fun x360 h => ?_)
  obtain ⟨x361, e361, h⟩ := ya_ob h
  refine ya_callVi (S := []) (c_X11_fault hG e361) m_X11_fault ⟨rfl, rfl⟩ ml_L_28 rfl ⟨Nat.le_of_ble_eq_true rfl, Nat.le_of_ble_eq_true rfl⟩ (Nat.le_of_ble_eq_true rfl) (hG.lt0 0 (by decide)) (hG.o0 0 rfl) (by decide) rfl rfl ⟨hkc, hnc⟩ dL_law_361 rfl ?_
  refine ya_aload_n 2 rfl dL_law_364 ?_
  refine ya_aload_n 0 rfl dL_law_365 ?_
  refine ya_iload_n 3 rfl dL_law_366 ?_
  refine ya_iconst 1 (by decide) dL_law_367 ?_
  refine ya_iadd dL_law_368 ?_
  refine ya_sald dL_law_369 h (fun x369 h => ?_)
  obtain ⟨x370, e370, h⟩ := ya_ob h
  refine ya_callVi (S := [.int x361]) (c_X12_fault hG e370) m_X12_fault ⟨rfl, rfl⟩ ml_L_31 rfl ⟨Nat.le_of_ble_eq_true rfl, Nat.le_of_ble_eq_true rfl⟩ (Nat.le_of_ble_eq_true rfl) (hG.lt0 83 (by decide)) (hG.o0 83 rfl) (by decide) rfl rfl ⟨hkc, hnc⟩ dL_law_370 rfl ?_
  refine ya_icmp_eq 2022 (by decide) dL_law_373 (fun c => ?_) (fun c => ?_)
  · replace h := ya_itet h c
    exact hkj _ h
  · replace h := ya_itef h c
    refine ya_iconst 0 (by decide) dL_law_376 ?_
    cases h
set_option maxRecDepth 20000 in
theorem w_law_c4 {X : ya_X} {nm : String} {Γ : ya_Γ} {G : ya_G} {d : ya_D} {k n : Nat} {γ : Type} {v3 : Int32} {kj : ya_D → Option γ} {rr : γ} (hG : ya_Bk ya_sh ya_ln G 0) (hdy : ya_Dy G) (hkc : k ≤ 600000) (hnc : n ≤ 7302250) (h : f_law_c4 X.2.2.2.2.2.1 G v3 d kj = some rr) (hkj : ∀ d', kj d' = some rr → ya_E X (Y_law nm) Γ 2022 [(0, .ref X.2.2.2.2.2.1.1), (1, .ref (X.2.1 + 0)), (2, .ref (X.2.1 + 83)), (3, .int v3)] [] G d' k n) : ya_E X (Y_law nm) Γ 378 [(0, .ref X.2.2.2.2.2.1.1), (1, .ref (X.2.1 + 0)), (2, .ref (X.2.1 + 83)), (3, .int v3)] [] G d k n := by
  unfold f_law_c4 at h
  refine ya_aload_n 1 rfl dL_law_378 ?_
  refine ya_aload_n 0 rfl dL_law_379 ?_
  refine ya_iload_n 3 rfl dL_law_380 ?_
  refine ya_iconst 1 (by decide) dL_law_381 ?_
  refine ya_iadd dL_law_382 ?_
  refine ya_sald dL_law_383 h (fun x383 h => ?_)
  refine ya_aload_n 0 rfl dL_law_384 ?_
  refine ya_iload_n 3 rfl dL_law_385 ?_
  refine ya_iconst 2 (by decide) dL_law_386 ?_
  refine ya_iadd dL_law_387 ?_
  refine ya_sald dL_law_388 h (fun x388 h => ?_)
  obtain ⟨x389, e389, h⟩ := ya_ob h
  refine ya_callVi (S := []) (c_X11_price hG e389) m_X11_price ⟨rfl, rfl⟩ ml_L_32 rfl ⟨Nat.le_of_ble_eq_true rfl, Nat.le_of_ble_eq_true rfl⟩ (Nat.le_of_ble_eq_true rfl) (hG.lt0 0 (by decide)) (hG.o0 0 rfl) (by decide) rfl rfl ⟨hkc, hnc⟩ dL_law_389 rfl ?_
  refine ya_aload_n 2 rfl dL_law_392 ?_
  refine ya_aload_n 0 rfl dL_law_393 ?_
  refine ya_iload_n 3 rfl dL_law_394 ?_
  refine ya_iconst 1 (by decide) dL_law_395 ?_
  refine ya_iadd dL_law_396 ?_
  refine ya_sald dL_law_397 h (fun x397 h => ?_)
  refine ya_aload_n 0 rfl dL_law_398 ?_
  refine ya_iload_n 3 rfl dL_law_399 ?_
  refine ya_iconst 2 (by decide) dL_law_400 ?_
  refine ya_iadd dL_law_401 ?_
  refine ya_sald dL_law_402 h (fun x402 h => ?_)
  obtain ⟨x403, e403, h⟩ := ya_ob h
  refine ya_callVi (S := [.int x389]) (c_X12_price hG e403) m_X12_price ⟨rfl, rfl⟩ ml_L_36 rfl ⟨Nat.le_of_ble_eq_true rfl, Nat.le_of_ble_eq_true rfl⟩ (Nat.le_of_ble_eq_true rfl) (hG.lt0 83 (by decide)) (hG.o0 83 rfl) (by decide) rfl rfl ⟨hkc, hnc⟩ dL_law_403 rfl ?_
  refine ya_icmp_eq 2022 (by decide) dL_law_406 (fun c => ?_) (fun c => ?_)
  · replace h := ya_itet h c
    exact hkj _ h
  · replace h := ya_itef h c
    refine ya_iconst 0 (by decide) dL_law_409 ?_
    cases h
set_option maxRecDepth 20000 in
theorem w_law_c5 {X : ya_X} {nm : String} {Γ : ya_Γ} {G : ya_G} {d : ya_D} {k n : Nat} {γ : Type} {v3 : Int32} {kj : ya_D → Option γ} {rr : γ} (hG : ya_Bk ya_sh ya_ln G 0) (hdy : ya_Dy G) (hkc : k ≤ 600000) (hnc : n ≤ 7302250) (h : f_law_c5 X.2.2.2.2.2.1 G v3 d kj = some rr) (hkj : ∀ d', kj d' = some rr → ya_E X (Y_law nm) Γ 2022 [(0, .ref X.2.2.2.2.2.1.1), (1, .ref (X.2.1 + 0)), (2, .ref (X.2.1 + 83)), (3, .int v3)] [] G d' k n) : ya_E X (Y_law nm) Γ 411 [(0, .ref X.2.2.2.2.2.1.1), (1, .ref (X.2.1 + 0)), (2, .ref (X.2.1 + 83)), (3, .int v3)] [] G d k n := by
  unfold f_law_c5 at h
  refine ya_aload_n 1 rfl dL_law_411 ?_
  refine ya_aload_n 0 rfl dL_law_412 ?_
  refine ya_iload_n 3 rfl dL_law_413 ?_
  refine ya_iconst 1 (by decide) dL_law_414 ?_
  refine ya_iadd dL_law_415 ?_
  refine ya_sald dL_law_416 h (fun x416 h => ?_)
  refine ya_aload_n 0 rfl dL_law_417 ?_
  refine ya_iload_n 3 rfl dL_law_418 ?_
  refine ya_iconst 2 (by decide) dL_law_419 ?_
  refine ya_iadd dL_law_420 ?_
  refine ya_sald dL_law_421 h (fun x421 h => ?_)
  obtain ⟨x422, e422, h⟩ := ya_ob h
  refine ya_callVi (S := []) (c_X11_old hG e422) m_X11_old ⟨rfl, rfl⟩ ml_L_37 rfl ⟨Nat.le_of_ble_eq_true rfl, Nat.le_of_ble_eq_true rfl⟩ (Nat.le_of_ble_eq_true rfl) (hG.lt0 0 (by decide)) (hG.o0 0 rfl) (by decide) rfl rfl ⟨hkc, hnc⟩ dL_law_422 rfl ?_
  refine ya_aload_n 2 rfl dL_law_425 ?_
  refine ya_aload_n 0 rfl dL_law_426 ?_
  refine ya_iload_n 3 rfl dL_law_427 ?_
  refine ya_iconst 1 (by decide) dL_law_428 ?_
  refine ya_iadd dL_law_429 ?_
  refine ya_sald dL_law_430 h (fun x430 h => ?_)
  refine ya_aload_n 0 rfl dL_law_431 ?_
  refine ya_iload_n 3 rfl dL_law_432 ?_
  refine ya_iconst 2 (by decide) dL_law_433 ?_
  refine ya_iadd dL_law_434 ?_
  refine ya_sald dL_law_435 h (fun x435 h => ?_)
  obtain ⟨x436, e436, h⟩ := ya_ob h
  refine ya_callVi (S := [.int x422]) (c_X12_old hG e436) m_X12_old ⟨rfl, rfl⟩ ml_L_40 rfl ⟨Nat.le_of_ble_eq_true rfl, Nat.le_of_ble_eq_true rfl⟩ (Nat.le_of_ble_eq_true rfl) (hG.lt0 83 (by decide)) (hG.o0 83 rfl) (by decide) rfl rfl ⟨hkc, hnc⟩ dL_law_436 rfl ?_
  refine ya_icmp_eq 2022 (by decide) dL_law_439 (fun c => ?_) (fun c => ?_)
  · replace h := ya_itet h c
    exact hkj _ h
  · replace h := ya_itef h c
    refine ya_iconst 0 (by decide) dL_law_442 ?_
    cases h
set_option maxRecDepth 20000 in
theorem w_law_c6 {X : ya_X} {nm : String} {Γ : ya_Γ} {G : ya_G} {d : ya_D} {k n : Nat} {γ : Type} {v3 : Int32} {kj : ya_D → Option γ} {rr : γ} (hG : ya_Bk ya_sh ya_ln G 0) (hdy : ya_Dy G) (hkc : k ≤ 600000) (hnc : n ≤ 7302250) (h : f_law_c6 X.2.2.2.2.2.1 G v3 d kj = some rr) (hkj : ∀ d', kj d' = some rr → ya_E X (Y_law nm) Γ 2022 [(0, .ref X.2.2.2.2.2.1.1), (1, .ref (X.2.1 + 0)), (2, .ref (X.2.1 + 83)), (3, .int v3)] [] G d' k n) : ya_E X (Y_law nm) Γ 444 [(0, .ref X.2.2.2.2.2.1.1), (1, .ref (X.2.1 + 0)), (2, .ref (X.2.1 + 83)), (3, .int v3)] [] G d k n := by
  unfold f_law_c6 at h
  refine ya_aload_n 1 rfl dL_law_444 ?_
  refine ya_aload_n 0 rfl dL_law_445 ?_
  refine ya_iload_n 3 rfl dL_law_446 ?_
  refine ya_iconst 1 (by decide) dL_law_447 ?_
  refine ya_iadd dL_law_448 ?_
  refine ya_sald dL_law_449 h (fun x449 h => ?_)
  refine ya_aload_n 0 rfl dL_law_450 ?_
  refine ya_iload_n 3 rfl dL_law_451 ?_
  refine ya_iconst 2 (by decide) dL_law_452 ?_
  refine ya_iadd dL_law_453 ?_
  refine ya_sald dL_law_454 h (fun x454 h => ?_)
  obtain ⟨x455, d455, e455, h⟩ := ya_ob2 h
  refine ya_callVi (S := []) (c_X11_offered hG e455) m_X11_offered ⟨rfl, rfl⟩ ml_L_41 rfl ⟨Nat.le_of_ble_eq_true rfl, Nat.le_of_ble_eq_true rfl⟩ (Nat.le_of_ble_eq_true rfl) (hG.lt0 0 (by decide)) (hG.o0 0 rfl) (by decide) rfl rfl ⟨hkc, hnc⟩ dL_law_455 rfl ?_
  refine ya_aload_n 2 rfl dL_law_458 ?_
  refine ya_aload_n 0 rfl dL_law_459 ?_
  refine ya_iload_n 3 rfl dL_law_460 ?_
  refine ya_iconst 1 (by decide) dL_law_461 ?_
  refine ya_iadd dL_law_462 ?_
  refine ya_sald dL_law_463 h (fun x463 h => ?_)
  refine ya_aload_n 0 rfl dL_law_464 ?_
  refine ya_iload_n 3 rfl dL_law_465 ?_
  refine ya_iconst 2 (by decide) dL_law_466 ?_
  refine ya_iadd dL_law_467 ?_
  refine ya_sald dL_law_468 h (fun x468 h => ?_)
  obtain ⟨x469, d469, e469, h⟩ := ya_ob2 h
  refine ya_callVi (S := [.int x455]) (c_X12_offered hG e469) m_X12_offered ⟨rfl, rfl⟩ ml_L_44 rfl ⟨Nat.le_of_ble_eq_true rfl, Nat.le_of_ble_eq_true rfl⟩ (Nat.le_of_ble_eq_true rfl) (hG.lt0 83 (by decide)) (hG.o0 83 rfl) (by decide) rfl rfl ⟨hkc, hnc⟩ dL_law_469 rfl ?_
  refine ya_icmp_eq 2022 (by decide) dL_law_472 (fun c => ?_) (fun c => ?_)
  · replace h := ya_itet h c
    exact hkj _ h
  · replace h := ya_itef h c
    refine ya_iconst 0 (by decide) dL_law_475 ?_
    cases h
set_option maxRecDepth 20000 in
theorem w_law_c7 {X : ya_X} {nm : String} {Γ : ya_Γ} {G : ya_G} {d : ya_D} {k n : Nat} {γ : Type} {v3 : Int32} {kj : ya_D → Option γ} {rr : γ} (hG : ya_Bk ya_sh ya_ln G 0) (hdy : ya_Dy G) (hkc : k ≤ 600000) (hnc : n ≤ 7302250) (h : f_law_c7 X.2.2.2.2.2.1 G v3 d kj = some rr) (hkj : ∀ d', kj d' = some rr → ya_E X (Y_law nm) Γ 2022 [(0, .ref X.2.2.2.2.2.1.1), (1, .ref (X.2.1 + 0)), (2, .ref (X.2.1 + 83)), (3, .int v3)] [] G d' k n) : ya_E X (Y_law nm) Γ 477 [(0, .ref X.2.2.2.2.2.1.1), (1, .ref (X.2.1 + 0)), (2, .ref (X.2.1 + 83)), (3, .int v3)] [] G d k n := by
  unfold f_law_c7 at h
  refine ya_aload_n 1 rfl dL_law_477 ?_
  refine ya_aload_n 0 rfl dL_law_478 ?_
  refine ya_iload_n 3 rfl dL_law_479 ?_
  refine ya_iconst 1 (by decide) dL_law_480 ?_
  refine ya_iadd dL_law_481 ?_
  refine ya_sald dL_law_482 h (fun x482 h => ?_)
  refine ya_aload_n 0 rfl dL_law_483 ?_
  refine ya_iload_n 3 rfl dL_law_484 ?_
  refine ya_iconst 2 (by decide) dL_law_485 ?_
  refine ya_iadd dL_law_486 ?_
  refine ya_sald dL_law_487 h (fun x487 h => ?_)
  obtain ⟨x488, d488, e488, h⟩ := ya_ob2 h
  refine ya_callVi (S := []) (c_X11_asked hG e488) m_X11_asked ⟨rfl, rfl⟩ ml_L_45 rfl ⟨Nat.le_of_ble_eq_true rfl, Nat.le_of_ble_eq_true rfl⟩ (Nat.le_of_ble_eq_true rfl) (hG.lt0 0 (by decide)) (hG.o0 0 rfl) (by decide) rfl rfl ⟨hkc, hnc⟩ dL_law_488 rfl ?_
  refine ya_aload_n 2 rfl dL_law_491 ?_
  refine ya_aload_n 0 rfl dL_law_492 ?_
  refine ya_iload_n 3 rfl dL_law_493 ?_
  refine ya_iconst 1 (by decide) dL_law_494 ?_
  refine ya_iadd dL_law_495 ?_
  refine ya_sald dL_law_496 h (fun x496 h => ?_)
  refine ya_aload_n 0 rfl dL_law_497 ?_
  refine ya_iload_n 3 rfl dL_law_498 ?_
  refine ya_iconst 2 (by decide) dL_law_499 ?_
  refine ya_iadd dL_law_500 ?_
  refine ya_sald dL_law_501 h (fun x501 h => ?_)
  obtain ⟨x502, e502, h⟩ := ya_ob h
  refine ya_callVi (S := [.int x488]) (c_X12_asked hG e502) m_X12_asked ⟨rfl, rfl⟩ ml_L_48 rfl ⟨Nat.le_of_ble_eq_true rfl, Nat.le_of_ble_eq_true rfl⟩ (Nat.le_of_ble_eq_true rfl) (hG.lt0 83 (by decide)) (hG.o0 83 rfl) (by decide) rfl rfl ⟨hkc, hnc⟩ dL_law_502 rfl ?_
  refine ya_icmp_eq 2022 (by decide) dL_law_505 (fun c => ?_) (fun c => ?_)
  · replace h := ya_itet h c
    exact hkj _ h
  · replace h := ya_itef h c
    refine ya_iconst 0 (by decide) dL_law_508 ?_
    cases h
set_option maxRecDepth 20000 in
theorem w_law_c8 {X : ya_X} {nm : String} {Γ : ya_Γ} {G : ya_G} {d : ya_D} {k n : Nat} {γ : Type} {v3 : Int32} {kj : ya_D → Option γ} {rr : γ} (hG : ya_Bk ya_sh ya_ln G 0) (hdy : ya_Dy G) (hkc : k ≤ 600000) (hnc : n ≤ 7302250) (h : f_law_c8 X.2.2.2.2.2.1 G v3 d kj = some rr) (hkj : ∀ d', kj d' = some rr → ya_E X (Y_law nm) Γ 2022 [(0, .ref X.2.2.2.2.2.1.1), (1, .ref (X.2.1 + 0)), (2, .ref (X.2.1 + 83)), (3, .int v3)] [] G d' k n) : ya_E X (Y_law nm) Γ 510 [(0, .ref X.2.2.2.2.2.1.1), (1, .ref (X.2.1 + 0)), (2, .ref (X.2.1 + 83)), (3, .int v3)] [] G d k n := by
  unfold f_law_c8 at h
  refine ya_aload_n 1 rfl dL_law_510 ?_
  refine ya_aload_n 0 rfl dL_law_511 ?_
  refine ya_iload_n 3 rfl dL_law_512 ?_
  refine ya_iconst 1 (by decide) dL_law_513 ?_
  refine ya_iadd dL_law_514 ?_
  refine ya_sald dL_law_515 h (fun x515 h => ?_)
  refine ya_aload_n 0 rfl dL_law_516 ?_
  refine ya_iload_n 3 rfl dL_law_517 ?_
  refine ya_iconst 2 (by decide) dL_law_518 ?_
  refine ya_iadd dL_law_519 ?_
  refine ya_sald dL_law_520 h (fun x520 h => ?_)
  obtain ⟨x521, d521, e521, h⟩ := ya_ob2 h
  refine ya_callVi (S := []) (c_X11_sold hG e521) m_X11_sold ⟨rfl, rfl⟩ ml_L_49 rfl ⟨Nat.le_of_ble_eq_true rfl, Nat.le_of_ble_eq_true rfl⟩ (Nat.le_of_ble_eq_true rfl) (hG.lt0 0 (by decide)) (hG.o0 0 rfl) (by decide) rfl rfl ⟨hkc, hnc⟩ dL_law_521 rfl ?_
  refine ya_aload_n 2 rfl dL_law_524 ?_
  refine ya_aload_n 0 rfl dL_law_525 ?_
  refine ya_iload_n 3 rfl dL_law_526 ?_
  refine ya_iconst 1 (by decide) dL_law_527 ?_
  refine ya_iadd dL_law_528 ?_
  refine ya_sald dL_law_529 h (fun x529 h => ?_)
  refine ya_aload_n 0 rfl dL_law_530 ?_
  refine ya_iload_n 3 rfl dL_law_531 ?_
  refine ya_iconst 2 (by decide) dL_law_532 ?_
  refine ya_iadd dL_law_533 ?_
  refine ya_sald dL_law_534 h (fun x534 h => ?_)
  obtain ⟨x535, d535, e535, h⟩ := ya_ob2 h
  refine ya_callVi (S := [.int x521]) (c_X12_sold hG e535) m_X12_sold ⟨rfl, rfl⟩ ml_L_52 rfl ⟨Nat.le_of_ble_eq_true rfl, Nat.le_of_ble_eq_true rfl⟩ (Nat.le_of_ble_eq_true rfl) (hG.lt0 83 (by decide)) (hG.o0 83 rfl) (by decide) rfl rfl ⟨hkc, hnc⟩ dL_law_535 rfl ?_
  refine ya_icmp_eq 2022 (by decide) dL_law_538 (fun c => ?_) (fun c => ?_)
  · replace h := ya_itet h c
    exact hkj _ h
  · replace h := ya_itef h c
    refine ya_iconst 0 (by decide) dL_law_541 ?_
    cases h
set_option maxRecDepth 20000 in
theorem w_law_c9 {X : ya_X} {nm : String} {Γ : ya_Γ} {G : ya_G} {d : ya_D} {k n : Nat} {γ : Type} {v3 : Int32} {kj : ya_D → Option γ} {rr : γ} (hG : ya_Bk ya_sh ya_ln G 0) (hdy : ya_Dy G) (hkc : k ≤ 600000) (hnc : n ≤ 7302250) (h : f_law_c9 X.2.2.2.2.2.1 G v3 d kj = some rr) (hkj : ∀ d', kj d' = some rr → ya_E X (Y_law nm) Γ 2022 [(0, .ref X.2.2.2.2.2.1.1), (1, .ref (X.2.1 + 0)), (2, .ref (X.2.1 + 83)), (3, .int v3)] [] G d' k n) : ya_E X (Y_law nm) Γ 543 [(0, .ref X.2.2.2.2.2.1.1), (1, .ref (X.2.1 + 0)), (2, .ref (X.2.1 + 83)), (3, .int v3)] [] G d k n := by
  unfold f_law_c9 at h
  refine ya_aload_n 1 rfl dL_law_543 ?_
  refine ya_aload_n 0 rfl dL_law_544 ?_
  refine ya_iload_n 3 rfl dL_law_545 ?_
  refine ya_iconst 1 (by decide) dL_law_546 ?_
  refine ya_iadd dL_law_547 ?_
  refine ya_sald dL_law_548 h (fun x548 h => ?_)
  refine ya_aload_n 0 rfl dL_law_549 ?_
  refine ya_iload_n 3 rfl dL_law_550 ?_
  refine ya_iconst 2 (by decide) dL_law_551 ?_
  refine ya_iadd dL_law_552 ?_
  refine ya_sald dL_law_553 h (fun x553 h => ?_)
  obtain ⟨x554, d554, e554, h⟩ := ya_ob2 h
  refine ya_callVi (S := []) (c_X11_seller hG e554) m_X11_seller ⟨rfl, rfl⟩ ml_L_53 rfl ⟨Nat.le_of_ble_eq_true rfl, Nat.le_of_ble_eq_true rfl⟩ (Nat.le_of_ble_eq_true rfl) (hG.lt0 0 (by decide)) (hG.o0 0 rfl) (by decide) rfl rfl ⟨hkc, hnc⟩ dL_law_554 rfl ?_
  refine ya_aload_n 2 rfl dL_law_557 ?_
  refine ya_aload_n 0 rfl dL_law_558 ?_
  refine ya_iload_n 3 rfl dL_law_559 ?_
  refine ya_iconst 1 (by decide) dL_law_560 ?_
  refine ya_iadd dL_law_561 ?_
  refine ya_sald dL_law_562 h (fun x562 h => ?_)
  refine ya_aload_n 0 rfl dL_law_563 ?_
  refine ya_iload_n 3 rfl dL_law_564 ?_
  refine ya_iconst 2 (by decide) dL_law_565 ?_
  refine ya_iadd dL_law_566 ?_
  refine ya_sald dL_law_567 h (fun x567 h => ?_)
  obtain ⟨x568, d568, e568, h⟩ := ya_ob2 h
  refine ya_callVi (S := [.int x554]) (c_X12_seller hG e568) m_X12_seller ⟨rfl, rfl⟩ ml_L_56 rfl ⟨Nat.le_of_ble_eq_true rfl, Nat.le_of_ble_eq_true rfl⟩ (Nat.le_of_ble_eq_true rfl) (hG.lt0 83 (by decide)) (hG.o0 83 rfl) (by decide) rfl rfl ⟨hkc, hnc⟩ dL_law_568 rfl ?_
  refine ya_icmp_eq 2022 (by decide) dL_law_571 (fun c => ?_) (fun c => ?_)
  · replace h := ya_itet h c
    exact hkj _ h
  · replace h := ya_itef h c
    refine ya_iconst 0 (by decide) dL_law_574 ?_
    cases h
set_option maxRecDepth 20000 in
theorem w_law_c10 {X : ya_X} {nm : String} {Γ : ya_Γ} {G : ya_G} {d : ya_D} {k n : Nat} {γ : Type} {v3 : Int32} {kj : ya_D → Option γ} {rr : γ} (hG : ya_Bk ya_sh ya_ln G 0) (hdy : ya_Dy G) (hkc : k ≤ 600000) (hnc : n ≤ 7302250) (h : f_law_c10 X.2.2.2.2.2.1 G v3 d kj = some rr) (hkj : ∀ d', kj d' = some rr → ya_E X (Y_law nm) Γ 2022 [(0, .ref X.2.2.2.2.2.1.1), (1, .ref (X.2.1 + 0)), (2, .ref (X.2.1 + 83)), (3, .int v3)] [] G d' k n) : ya_E X (Y_law nm) Γ 576 [(0, .ref X.2.2.2.2.2.1.1), (1, .ref (X.2.1 + 0)), (2, .ref (X.2.1 + 83)), (3, .int v3)] [] G d k n := by
  unfold f_law_c10 at h
  refine ya_aload_n 1 rfl dL_law_576 ?_
  refine ya_aload_n 0 rfl dL_law_577 ?_
  refine ya_iload_n 3 rfl dL_law_578 ?_
  refine ya_iconst 1 (by decide) dL_law_579 ?_
  refine ya_iadd dL_law_580 ?_
  refine ya_sald dL_law_581 h (fun x581 h => ?_)
  refine ya_aload_n 0 rfl dL_law_582 ?_
  refine ya_iload_n 3 rfl dL_law_583 ?_
  refine ya_iconst 2 (by decide) dL_law_584 ?_
  refine ya_iadd dL_law_585 ?_
  refine ya_sald dL_law_586 h (fun x586 h => ?_)
  obtain ⟨x587, d587, e587, h⟩ := ya_ob2 h
  refine ya_callVi (S := []) (c_X11_gets hG e587) m_X11_gets ⟨rfl, rfl⟩ ml_L_57 rfl ⟨Nat.le_of_ble_eq_true rfl, Nat.le_of_ble_eq_true rfl⟩ (Nat.le_of_ble_eq_true rfl) (hG.lt0 0 (by decide)) (hG.o0 0 rfl) (by decide) rfl rfl ⟨hkc, hnc⟩ dL_law_587 rfl ?_
  refine ya_aload_n 2 rfl dL_law_590 ?_
  refine ya_aload_n 0 rfl dL_law_591 ?_
  refine ya_iload_n 3 rfl dL_law_592 ?_
  refine ya_iconst 1 (by decide) dL_law_593 ?_
  refine ya_iadd dL_law_594 ?_
  refine ya_sald dL_law_595 h (fun x595 h => ?_)
  refine ya_aload_n 0 rfl dL_law_596 ?_
  refine ya_iload_n 3 rfl dL_law_597 ?_
  refine ya_iconst 2 (by decide) dL_law_598 ?_
  refine ya_iadd dL_law_599 ?_
  refine ya_sald dL_law_600 h (fun x600 h => ?_)
  obtain ⟨x601, d601, e601, h⟩ := ya_ob2 h
  refine ya_callVi (S := [.int x587]) (c_X12_gets hG e601) m_X12_gets ⟨rfl, rfl⟩ ml_L_60 rfl ⟨Nat.le_of_ble_eq_true rfl, Nat.le_of_ble_eq_true rfl⟩ (Nat.le_of_ble_eq_true rfl) (hG.lt0 83 (by decide)) (hG.o0 83 rfl) (by decide) rfl rfl ⟨hkc, hnc⟩ dL_law_601 rfl ?_
  refine ya_icmp_eq 2022 (by decide) dL_law_604 (fun c => ?_) (fun c => ?_)
  · replace h := ya_itet h c
    exact hkj _ h
  · replace h := ya_itef h c
    refine ya_iconst 0 (by decide) dL_law_607 ?_
    cases h
set_option maxRecDepth 20000 in
theorem w_law_c11 {X : ya_X} {nm : String} {Γ : ya_Γ} {G : ya_G} {d : ya_D} {k n : Nat} {γ : Type} {v3 : Int32} {kj : ya_D → Option γ} {rr : γ} (hG : ya_Bk ya_sh ya_ln G 0) (hdy : ya_Dy G) (hkc : k ≤ 600000) (hnc : n ≤ 7302250) (h : f_law_c11 X.2.2.2.2.2.1 G v3 d kj = some rr) (hkj : ∀ d', kj d' = some rr → ya_E X (Y_law nm) Γ 2022 [(0, .ref X.2.2.2.2.2.1.1), (1, .ref (X.2.1 + 0)), (2, .ref (X.2.1 + 83)), (3, .int v3)] [] G d' k n) : ya_E X (Y_law nm) Γ 609 [(0, .ref X.2.2.2.2.2.1.1), (1, .ref (X.2.1 + 0)), (2, .ref (X.2.1 + 83)), (3, .int v3)] [] G d k n := by
  unfold f_law_c11 at h
  refine ya_aload_n 1 rfl dL_law_609 ?_
  refine ya_aload_n 0 rfl dL_law_610 ?_
  refine ya_iload_n 3 rfl dL_law_611 ?_
  refine ya_iconst 1 (by decide) dL_law_612 ?_
  refine ya_iadd dL_law_613 ?_
  refine ya_sald dL_law_614 h (fun x614 h => ?_)
  refine ya_aload_n 0 rfl dL_law_615 ?_
  refine ya_iload_n 3 rfl dL_law_616 ?_
  refine ya_iconst 2 (by decide) dL_law_617 ?_
  refine ya_iadd dL_law_618 ?_
  refine ya_sald dL_law_619 h (fun x619 h => ?_)
  obtain ⟨x620, d620, e620, h⟩ := ya_ob2 h
  refine ya_callVi (S := []) (c_X11_stock hG e620) m_X11_stock ⟨rfl, rfl⟩ ml_L_61 rfl ⟨Nat.le_of_ble_eq_true rfl, Nat.le_of_ble_eq_true rfl⟩ (Nat.le_of_ble_eq_true rfl) (hG.lt0 0 (by decide)) (hG.o0 0 rfl) (by decide) rfl rfl ⟨hkc, hnc⟩ dL_law_620 rfl ?_
  refine ya_aload_n 2 rfl dL_law_623 ?_
  refine ya_aload_n 0 rfl dL_law_624 ?_
  refine ya_iload_n 3 rfl dL_law_625 ?_
  refine ya_iconst 1 (by decide) dL_law_626 ?_
  refine ya_iadd dL_law_627 ?_
  refine ya_sald dL_law_628 h (fun x628 h => ?_)
  refine ya_aload_n 0 rfl dL_law_629 ?_
  refine ya_iload_n 3 rfl dL_law_630 ?_
  refine ya_iconst 2 (by decide) dL_law_631 ?_
  refine ya_iadd dL_law_632 ?_
  refine ya_sald dL_law_633 h (fun x633 h => ?_)
  obtain ⟨x634, d634, e634, h⟩ := ya_ob2 h
  refine ya_callVi (S := [.int x620]) (c_X12_stock hG e634) m_X12_stock ⟨rfl, rfl⟩ ml_L_64 rfl ⟨Nat.le_of_ble_eq_true rfl, Nat.le_of_ble_eq_true rfl⟩ (Nat.le_of_ble_eq_true rfl) (hG.lt0 83 (by decide)) (hG.o0 83 rfl) (by decide) rfl rfl ⟨hkc, hnc⟩ dL_law_634 rfl ?_
  refine ya_icmp_eq 2022 (by decide) dL_law_637 (fun c => ?_) (fun c => ?_)
  · replace h := ya_itet h c
    exact hkj _ h
  · replace h := ya_itef h c
    refine ya_iconst 0 (by decide) dL_law_640 ?_
    cases h
set_option maxRecDepth 20000 in
theorem w_law_c12 {X : ya_X} {nm : String} {Γ : ya_Γ} {G : ya_G} {d : ya_D} {k n : Nat} {γ : Type} {v3 : Int32} {kj : ya_D → Option γ} {rr : γ} (hG : ya_Bk ya_sh ya_ln G 0) (hdy : ya_Dy G) (hkc : k ≤ 600000) (hnc : n ≤ 7302250) (h : f_law_c12 X.2.2.2.2.2.1 G v3 d kj = some rr) (hkj : ∀ d', kj d' = some rr → ya_E X (Y_law nm) Γ 2022 [(0, .ref X.2.2.2.2.2.1.1), (1, .ref (X.2.1 + 0)), (2, .ref (X.2.1 + 83)), (3, .int v3)] [] G d' k n) : ya_E X (Y_law nm) Γ 642 [(0, .ref X.2.2.2.2.2.1.1), (1, .ref (X.2.1 + 0)), (2, .ref (X.2.1 + 83)), (3, .int v3)] [] G d k n := by
  unfold f_law_c12 at h
  refine ya_aload_n 1 rfl dL_law_642 ?_
  refine ya_aload_n 0 rfl dL_law_643 ?_
  refine ya_iload_n 3 rfl dL_law_644 ?_
  refine ya_iconst 1 (by decide) dL_law_645 ?_
  refine ya_iadd dL_law_646 ?_
  refine ya_sald dL_law_647 h (fun x647 h => ?_)
  refine ya_aload_n 0 rfl dL_law_648 ?_
  refine ya_iload_n 3 rfl dL_law_649 ?_
  refine ya_iconst 2 (by decide) dL_law_650 ?_
  refine ya_iadd dL_law_651 ?_
  refine ya_sald dL_law_652 h (fun x652 h => ?_)
  obtain ⟨x653, d653, e653, h⟩ := ya_ob2 h
  refine ya_callVi (S := []) (c_X11_buyer hG e653) m_X11_buyer ⟨rfl, rfl⟩ ml_L_65 rfl ⟨Nat.le_of_ble_eq_true rfl, Nat.le_of_ble_eq_true rfl⟩ (Nat.le_of_ble_eq_true rfl) (hG.lt0 0 (by decide)) (hG.o0 0 rfl) (by decide) rfl rfl ⟨hkc, hnc⟩ dL_law_653 rfl ?_
  refine ya_aload_n 2 rfl dL_law_656 ?_
  refine ya_aload_n 0 rfl dL_law_657 ?_
  refine ya_iload_n 3 rfl dL_law_658 ?_
  refine ya_iconst 1 (by decide) dL_law_659 ?_
  refine ya_iadd dL_law_660 ?_
  refine ya_sald dL_law_661 h (fun x661 h => ?_)
  refine ya_aload_n 0 rfl dL_law_662 ?_
  refine ya_iload_n 3 rfl dL_law_663 ?_
  refine ya_iconst 2 (by decide) dL_law_664 ?_
  refine ya_iadd dL_law_665 ?_
  refine ya_sald dL_law_666 h (fun x666 h => ?_)
  obtain ⟨x667, d667, e667, h⟩ := ya_ob2 h
  refine ya_callVi (S := [.int x653]) (c_X12_buyer hG e667) m_X12_buyer ⟨rfl, rfl⟩ ml_L_68 rfl ⟨Nat.le_of_ble_eq_true rfl, Nat.le_of_ble_eq_true rfl⟩ (Nat.le_of_ble_eq_true rfl) (hG.lt0 83 (by decide)) (hG.o0 83 rfl) (by decide) rfl rfl ⟨hkc, hnc⟩ dL_law_667 rfl ?_
  refine ya_icmp_eq 2022 (by decide) dL_law_670 (fun c => ?_) (fun c => ?_)
  · replace h := ya_itet h c
    exact hkj _ h
  · replace h := ya_itef h c
    refine ya_iconst 0 (by decide) dL_law_673 ?_
    cases h
set_option maxRecDepth 20000 in
theorem w_law_c13 {X : ya_X} {nm : String} {Γ : ya_Γ} {G : ya_G} {d : ya_D} {k n : Nat} {γ : Type} {v3 : Int32} {kj : ya_D → Option γ} {rr : γ} (hG : ya_Bk ya_sh ya_ln G 0) (hdy : ya_Dy G) (hkc : k ≤ 600000) (hnc : n ≤ 7302250) (h : f_law_c13 X.2.2.2.2.2.1 G v3 d kj = some rr) (hkj : ∀ d', kj d' = some rr → ya_E X (Y_law nm) Γ 2022 [(0, .ref X.2.2.2.2.2.1.1), (1, .ref (X.2.1 + 0)), (2, .ref (X.2.1 + 83)), (3, .int v3)] [] G d' k n) : ya_E X (Y_law nm) Γ 675 [(0, .ref X.2.2.2.2.2.1.1), (1, .ref (X.2.1 + 0)), (2, .ref (X.2.1 + 83)), (3, .int v3)] [] G d k n := by
  unfold f_law_c13 at h
  refine ya_aload_n 1 rfl dL_law_675 ?_
  refine ya_aload_n 0 rfl dL_law_676 ?_
  refine ya_iload_n 3 rfl dL_law_677 ?_
  refine ya_iconst 1 (by decide) dL_law_678 ?_
  refine ya_iadd dL_law_679 ?_
  refine ya_sald dL_law_680 h (fun x680 h => ?_)
  obtain ⟨x681, d681, e681, h⟩ := ya_ob2 h
  refine ya_callVi (S := []) (c_X11_rich hG e681) m_X11_rich ⟨rfl, rfl⟩ ml_L_69 rfl ⟨Nat.le_of_ble_eq_true rfl, Nat.le_of_ble_eq_true rfl⟩ (Nat.le_of_ble_eq_true rfl) (hG.lt0 0 (by decide)) (hG.o0 0 rfl) (by decide) rfl rfl ⟨hkc, hnc⟩ dL_law_681 rfl ?_
  refine ya_aload_n 2 rfl dL_law_684 ?_
  refine ya_aload_n 0 rfl dL_law_685 ?_
  refine ya_iload_n 3 rfl dL_law_686 ?_
  refine ya_iconst 1 (by decide) dL_law_687 ?_
  refine ya_iadd dL_law_688 ?_
  refine ya_sald dL_law_689 h (fun x689 h => ?_)
  obtain ⟨x690, d690, e690, h⟩ := ya_ob2 h
  refine ya_callVi (S := [.int x681]) (c_X12_rich hG e690) m_X12_rich ⟨rfl, rfl⟩ ml_L_72 rfl ⟨Nat.le_of_ble_eq_true rfl, Nat.le_of_ble_eq_true rfl⟩ (Nat.le_of_ble_eq_true rfl) (hG.lt0 83 (by decide)) (hG.o0 83 rfl) (by decide) rfl rfl ⟨hkc, hnc⟩ dL_law_690 rfl ?_
  refine ya_icmp_eq 2022 (by decide) dL_law_693 (fun c => ?_) (fun c => ?_)
  · replace h := ya_itet h c
    exact hkj _ h
  · replace h := ya_itef h c
    refine ya_iconst 0 (by decide) dL_law_696 ?_
    cases h
set_option maxRecDepth 20000 in
theorem w_law_c14 {X : ya_X} {nm : String} {Γ : ya_Γ} {G : ya_G} {d : ya_D} {k n : Nat} {γ : Type} {v3 : Int32} {kj : ya_D → Option γ} {rr : γ} (hG : ya_Bk ya_sh ya_ln G 0) (hdy : ya_Dy G) (hkc : k ≤ 600000) (hnc : n ≤ 7302250) (h : f_law_c14 X.2.2.2.2.2.1 G v3 d kj = some rr) (hkj : ∀ d', kj d' = some rr → ya_E X (Y_law nm) Γ 2022 [(0, .ref X.2.2.2.2.2.1.1), (1, .ref (X.2.1 + 0)), (2, .ref (X.2.1 + 83)), (3, .int v3)] [] G d' k n) : ya_E X (Y_law nm) Γ 698 [(0, .ref X.2.2.2.2.2.1.1), (1, .ref (X.2.1 + 0)), (2, .ref (X.2.1 + 83)), (3, .int v3)] [] G d k n := by
  unfold f_law_c14 at h
  refine ya_aload_n 1 rfl dL_law_698 ?_
  refine ya_aload_n 0 rfl dL_law_699 ?_
  refine ya_iload_n 3 rfl dL_law_700 ?_
  refine ya_iconst 1 (by decide) dL_law_701 ?_
  refine ya_iadd dL_law_702 ?_
  refine ya_sald dL_law_703 h (fun x703 h => ?_)
  obtain ⟨x704, d704, e704, h⟩ := ya_ob2 h
  refine ya_callVi (S := []) (c_X11_best hG e704) m_X11_best ⟨rfl, rfl⟩ ml_L_73 rfl ⟨Nat.le_of_ble_eq_true rfl, Nat.le_of_ble_eq_true rfl⟩ (Nat.le_of_ble_eq_true rfl) (hG.lt0 0 (by decide)) (hG.o0 0 rfl) (by decide) rfl rfl ⟨hkc, hnc⟩ dL_law_704 rfl ?_
  refine ya_aload_n 2 rfl dL_law_707 ?_
  refine ya_aload_n 0 rfl dL_law_708 ?_
  refine ya_iload_n 3 rfl dL_law_709 ?_
  refine ya_iconst 1 (by decide) dL_law_710 ?_
  refine ya_iadd dL_law_711 ?_
  refine ya_sald dL_law_712 h (fun x712 h => ?_)
  obtain ⟨x713, d713, e713, h⟩ := ya_ob2 h
  refine ya_callVi (S := [.int x704]) (c_X12_best hG e713) m_X12_best ⟨rfl, rfl⟩ ml_L_76 rfl ⟨Nat.le_of_ble_eq_true rfl, Nat.le_of_ble_eq_true rfl⟩ (Nat.le_of_ble_eq_true rfl) (hG.lt0 83 (by decide)) (hG.o0 83 rfl) (by decide) rfl rfl ⟨hkc, hnc⟩ dL_law_713 rfl ?_
  refine ya_icmp_eq 2022 (by decide) dL_law_716 (fun c => ?_) (fun c => ?_)
  · replace h := ya_itet h c
    exact hkj _ h
  · replace h := ya_itef h c
    refine ya_iconst 0 (by decide) dL_law_719 ?_
    cases h
set_option maxRecDepth 20000 in
theorem w_law_c15 {X : ya_X} {nm : String} {Γ : ya_Γ} {G : ya_G} {d : ya_D} {k n : Nat} {γ : Type} {v3 : Int32} {kj : ya_D → Option γ} {rr : γ} (hG : ya_Bk ya_sh ya_ln G 0) (hdy : ya_Dy G) (hkc : k ≤ 600000) (hnc : n ≤ 7302250) (h : f_law_c15 X.2.2.2.2.2.1 G v3 d kj = some rr) (hkj : ∀ d', kj d' = some rr → ya_E X (Y_law nm) Γ 2022 [(0, .ref X.2.2.2.2.2.1.1), (1, .ref (X.2.1 + 0)), (2, .ref (X.2.1 + 83)), (3, .int v3)] [] G d' k n) : ya_E X (Y_law nm) Γ 721 [(0, .ref X.2.2.2.2.2.1.1), (1, .ref (X.2.1 + 0)), (2, .ref (X.2.1 + 83)), (3, .int v3)] [] G d k n := by
  unfold f_law_c15 at h
  refine ya_aload_n 1 rfl dL_law_721 ?_
  refine ya_aload_n 0 rfl dL_law_722 ?_
  refine ya_iload_n 3 rfl dL_law_723 ?_
  refine ya_iconst 1 (by decide) dL_law_724 ?_
  refine ya_iadd dL_law_725 ?_
  refine ya_sald dL_law_726 h (fun x726 h => ?_)
  refine ya_aload_n 0 rfl dL_law_727 ?_
  refine ya_iload_n 3 rfl dL_law_728 ?_
  refine ya_iconst 2 (by decide) dL_law_729 ?_
  refine ya_iadd dL_law_730 ?_
  refine ya_sald dL_law_731 h (fun x731 h => ?_)
  obtain ⟨x732, d732, e732, h⟩ := ya_ob2 h
  refine ya_callVi (S := []) (c_X11_worth hG e732) m_X11_worth ⟨rfl, rfl⟩ ml_L_77 rfl ⟨Nat.le_of_ble_eq_true rfl, Nat.le_of_ble_eq_true rfl⟩ (Nat.le_of_ble_eq_true rfl) (hG.lt0 0 (by decide)) (hG.o0 0 rfl) (by decide) rfl rfl ⟨hkc, hnc⟩ dL_law_732 rfl ?_
  refine ya_aload_n 2 rfl dL_law_735 ?_
  refine ya_aload_n 0 rfl dL_law_736 ?_
  refine ya_iload_n 3 rfl dL_law_737 ?_
  refine ya_iconst 1 (by decide) dL_law_738 ?_
  refine ya_iadd dL_law_739 ?_
  refine ya_sald dL_law_740 h (fun x740 h => ?_)
  refine ya_aload_n 0 rfl dL_law_741 ?_
  refine ya_iload_n 3 rfl dL_law_742 ?_
  refine ya_iconst 2 (by decide) dL_law_743 ?_
  refine ya_iadd dL_law_744 ?_
  refine ya_sald dL_law_745 h (fun x745 h => ?_)
  obtain ⟨x746, d746, e746, h⟩ := ya_ob2 h
  refine ya_callVi (S := [.int x732]) (c_X12_worth hG e746) m_X12_worth ⟨rfl, rfl⟩ ml_L_80 rfl ⟨Nat.le_of_ble_eq_true rfl, Nat.le_of_ble_eq_true rfl⟩ (Nat.le_of_ble_eq_true rfl) (hG.lt0 83 (by decide)) (hG.o0 83 rfl) (by decide) rfl rfl ⟨hkc, hnc⟩ dL_law_746 rfl ?_
  refine ya_icmp_eq 2022 (by decide) dL_law_749 (fun c => ?_) (fun c => ?_)
  · replace h := ya_itet h c
    exact hkj _ h
  · replace h := ya_itef h c
    refine ya_iconst 0 (by decide) dL_law_752 ?_
    cases h
set_option maxRecDepth 20000 in
theorem w_law_c16 {X : ya_X} {nm : String} {Γ : ya_Γ} {G : ya_G} {d : ya_D} {k n : Nat} {γ : Type} {v3 : Int32} {kj : ya_D → Option γ} {rr : γ} (hG : ya_Bk ya_sh ya_ln G 0) (hdy : ya_Dy G) (hkc : k ≤ 600000) (hnc : n ≤ 7302250) (h : f_law_c16 X.2.2.2.2.2.1 G v3 d kj = some rr) (hkj : ∀ d', kj d' = some rr → ya_E X (Y_law nm) Γ 2022 [(0, .ref X.2.2.2.2.2.1.1), (1, .ref (X.2.1 + 0)), (2, .ref (X.2.1 + 83)), (3, .int v3)] [] G d' k n) : ya_E X (Y_law nm) Γ 754 [(0, .ref X.2.2.2.2.2.1.1), (1, .ref (X.2.1 + 0)), (2, .ref (X.2.1 + 83)), (3, .int v3)] [] G d k n := by
  unfold f_law_c16 at h
  refine ya_aload_n 1 rfl dL_law_754 ?_
  refine ya_aload_n 0 rfl dL_law_755 ?_
  refine ya_iload_n 3 rfl dL_law_756 ?_
  refine ya_iconst 1 (by decide) dL_law_757 ?_
  refine ya_iadd dL_law_758 ?_
  refine ya_sald dL_law_759 h (fun x759 h => ?_)
  obtain ⟨x760, d760, e760, h⟩ := ya_ob2 h
  refine ya_callVi (S := []) (c_X11_thursday hG e760) m_X11_thursday ⟨rfl, rfl⟩ ml_L_81 rfl ⟨Nat.le_of_ble_eq_true rfl, Nat.le_of_ble_eq_true rfl⟩ (Nat.le_of_ble_eq_true rfl) (hG.lt0 0 (by decide)) (hG.o0 0 rfl) (by decide) rfl rfl ⟨hkc, hnc⟩ dL_law_760 rfl ?_
  refine ya_aload_n 2 rfl dL_law_763 ?_
  refine ya_aload_n 0 rfl dL_law_764 ?_
  refine ya_iload_n 3 rfl dL_law_765 ?_
  refine ya_iconst 1 (by decide) dL_law_766 ?_
  refine ya_iadd dL_law_767 ?_
  refine ya_sald dL_law_768 h (fun x768 h => ?_)
  obtain ⟨x769, d769, e769, h⟩ := ya_ob2 h
  refine ya_callVi (S := [.int x760]) (c_X12_thursday hG e769) m_X12_thursday ⟨rfl, rfl⟩ ml_L_84 rfl ⟨Nat.le_of_ble_eq_true rfl, Nat.le_of_ble_eq_true rfl⟩ (Nat.le_of_ble_eq_true rfl) (hG.lt0 83 (by decide)) (hG.o0 83 rfl) (by decide) rfl rfl ⟨hkc, hnc⟩ dL_law_769 rfl ?_
  refine ya_icmp_eq 2022 (by decide) dL_law_772 (fun c => ?_) (fun c => ?_)
  · replace h := ya_itet h c
    exact hkj _ h
  · replace h := ya_itef h c
    refine ya_iconst 0 (by decide) dL_law_775 ?_
    cases h
set_option maxRecDepth 20000 in
theorem w_law_c17 {X : ya_X} {nm : String} {Γ : ya_Γ} {G : ya_G} {d : ya_D} {k n : Nat} {γ : Type} {v3 : Int32} {kj : ya_D → Option γ} {rr : γ} (hG : ya_Bk ya_sh ya_ln G 0) (hdy : ya_Dy G) (hkc : k ≤ 600000) (hnc : n ≤ 7302250) (h : f_law_c17 X.2.2.2.2.2.1 G v3 d kj = some rr) (hkj : ∀ d', kj d' = some rr → ya_E X (Y_law nm) Γ 2022 [(0, .ref X.2.2.2.2.2.1.1), (1, .ref (X.2.1 + 0)), (2, .ref (X.2.1 + 83)), (3, .int v3)] [] G d' k n) : ya_E X (Y_law nm) Γ 777 [(0, .ref X.2.2.2.2.2.1.1), (1, .ref (X.2.1 + 0)), (2, .ref (X.2.1 + 83)), (3, .int v3)] [] G d k n := by
  unfold f_law_c17 at h
  refine ya_aload_n 1 rfl dL_law_777 ?_
  refine ya_aload_n 0 rfl dL_law_778 ?_
  refine ya_iload_n 3 rfl dL_law_779 ?_
  refine ya_iconst 1 (by decide) dL_law_780 ?_
  refine ya_iadd dL_law_781 ?_
  refine ya_sald dL_law_782 h (fun x782 h => ?_)
  obtain ⟨x783, d783, e783, h⟩ := ya_ob2 h
  refine ya_callVi (S := []) (c_X11_asks hG e783) m_X11_asks ⟨rfl, rfl⟩ ml_L_85 rfl ⟨Nat.le_of_ble_eq_true rfl, Nat.le_of_ble_eq_true rfl⟩ (Nat.le_of_ble_eq_true rfl) (hG.lt0 0 (by decide)) (hG.o0 0 rfl) (by decide) rfl rfl ⟨hkc, hnc⟩ dL_law_783 rfl ?_
  refine ya_aload_n 2 rfl dL_law_786 ?_
  refine ya_aload_n 0 rfl dL_law_787 ?_
  refine ya_iload_n 3 rfl dL_law_788 ?_
  refine ya_iconst 1 (by decide) dL_law_789 ?_
  refine ya_iadd dL_law_790 ?_
  refine ya_sald dL_law_791 h (fun x791 h => ?_)
  obtain ⟨x792, d792, e792, h⟩ := ya_ob2 h
  refine ya_callVi (S := [.int x783]) (c_X12_asks hG e792) m_X12_asks ⟨rfl, rfl⟩ ml_L_88 rfl ⟨Nat.le_of_ble_eq_true rfl, Nat.le_of_ble_eq_true rfl⟩ (Nat.le_of_ble_eq_true rfl) (hG.lt0 83 (by decide)) (hG.o0 83 rfl) (by decide) rfl rfl ⟨hkc, hnc⟩ dL_law_792 rfl ?_
  refine ya_icmp_eq 2022 (by decide) dL_law_795 (fun c => ?_) (fun c => ?_)
  · replace h := ya_itet h c
    exact hkj _ h
  · replace h := ya_itef h c
    refine ya_iconst 0 (by decide) dL_law_798 ?_
    cases h
set_option maxRecDepth 20000 in
theorem w_law_c18 {X : ya_X} {nm : String} {Γ : ya_Γ} {G : ya_G} {d : ya_D} {k n : Nat} {γ : Type} {v3 : Int32} {kj : ya_D → Option γ} {rr : γ} (hG : ya_Bk ya_sh ya_ln G 0) (hdy : ya_Dy G) (hkc : k ≤ 600000) (hnc : n ≤ 7302250) (h : f_law_c18 X.2.2.2.2.2.1 G v3 d kj = some rr) (hkj : ∀ d', kj d' = some rr → ya_E X (Y_law nm) Γ 2022 [(0, .ref X.2.2.2.2.2.1.1), (1, .ref (X.2.1 + 0)), (2, .ref (X.2.1 + 83)), (3, .int v3)] [] G d' k n) : ya_E X (Y_law nm) Γ 800 [(0, .ref X.2.2.2.2.2.1.1), (1, .ref (X.2.1 + 0)), (2, .ref (X.2.1 + 83)), (3, .int v3)] [] G d k n := by
  unfold f_law_c18 at h
  refine ya_aload_n 1 rfl dL_law_800 ?_
  refine ya_aload_n 0 rfl dL_law_801 ?_
  refine ya_iload_n 3 rfl dL_law_802 ?_
  refine ya_iconst 1 (by decide) dL_law_803 ?_
  refine ya_iadd dL_law_804 ?_
  refine ya_sald dL_law_805 h (fun x805 h => ?_)
  refine ya_aload_n 0 rfl dL_law_806 ?_
  refine ya_iload_n 3 rfl dL_law_807 ?_
  refine ya_iconst 2 (by decide) dL_law_808 ?_
  refine ya_iadd dL_law_809 ?_
  refine ya_sald dL_law_810 h (fun x810 h => ?_)
  obtain ⟨x811, d811, e811, h⟩ := ya_ob2 h
  refine ya_callVi (S := []) (c_X11_hold hG e811) m_X11_hold ⟨rfl, rfl⟩ ml_L_89 rfl ⟨Nat.le_of_ble_eq_true rfl, Nat.le_of_ble_eq_true rfl⟩ (Nat.le_of_ble_eq_true rfl) (hG.lt0 0 (by decide)) (hG.o0 0 rfl) (by decide) rfl rfl ⟨hkc, hnc⟩ dL_law_811 rfl ?_
  refine ya_aload_n 2 rfl dL_law_814 ?_
  refine ya_aload_n 0 rfl dL_law_815 ?_
  refine ya_iload_n 3 rfl dL_law_816 ?_
  refine ya_iconst 1 (by decide) dL_law_817 ?_
  refine ya_iadd dL_law_818 ?_
  refine ya_sald dL_law_819 h (fun x819 h => ?_)
  refine ya_aload_n 0 rfl dL_law_820 ?_
  refine ya_iload_n 3 rfl dL_law_821 ?_
  refine ya_iconst 2 (by decide) dL_law_822 ?_
  refine ya_iadd dL_law_823 ?_
  refine ya_sald dL_law_824 h (fun x824 h => ?_)
  obtain ⟨x825, d825, e825, h⟩ := ya_ob2 h
  refine ya_callVi (S := [.int x811]) (c_X12_hold hG e825) m_X12_hold ⟨rfl, rfl⟩ ml_L_92 rfl ⟨Nat.le_of_ble_eq_true rfl, Nat.le_of_ble_eq_true rfl⟩ (Nat.le_of_ble_eq_true rfl) (hG.lt0 83 (by decide)) (hG.o0 83 rfl) (by decide) rfl rfl ⟨hkc, hnc⟩ dL_law_825 rfl ?_
  refine ya_icmp_eq 2022 (by decide) dL_law_828 (fun c => ?_) (fun c => ?_)
  · replace h := ya_itet h c
    exact hkj _ h
  · replace h := ya_itef h c
    refine ya_iconst 0 (by decide) dL_law_831 ?_
    cases h
set_option maxRecDepth 20000 in
theorem w_law_c19 {X : ya_X} {nm : String} {Γ : ya_Γ} {G : ya_G} {d : ya_D} {k n : Nat} {γ : Type} {v3 : Int32} {kj : ya_D → Option γ} {rr : γ} (hG : ya_Bk ya_sh ya_ln G 0) (hdy : ya_Dy G) (hkc : k ≤ 600000) (hnc : n ≤ 7302250) (h : f_law_c19 X.2.2.2.2.2.1 G v3 d kj = some rr) (hkj : ∀ d', kj d' = some rr → ya_E X (Y_law nm) Γ 2022 [(0, .ref X.2.2.2.2.2.1.1), (1, .ref (X.2.1 + 0)), (2, .ref (X.2.1 + 83)), (3, .int v3)] [] G d' k n) : ya_E X (Y_law nm) Γ 833 [(0, .ref X.2.2.2.2.2.1.1), (1, .ref (X.2.1 + 0)), (2, .ref (X.2.1 + 83)), (3, .int v3)] [] G d k n := by
  unfold f_law_c19 at h
  refine ya_aload_n 1 rfl dL_law_833 ?_
  refine ya_aload_n 0 rfl dL_law_834 ?_
  refine ya_iload_n 3 rfl dL_law_835 ?_
  refine ya_iconst 1 (by decide) dL_law_836 ?_
  refine ya_iadd dL_law_837 ?_
  refine ya_sald dL_law_838 h (fun x838 h => ?_)
  obtain ⟨x839, d839, e839, h⟩ := ya_ob2 h
  refine ya_callVi (S := []) (c_X11_cheapest hG e839) m_X11_cheapest ⟨rfl, rfl⟩ ml_L_93 rfl ⟨Nat.le_of_ble_eq_true rfl, Nat.le_of_ble_eq_true rfl⟩ (Nat.le_of_ble_eq_true rfl) (hG.lt0 0 (by decide)) (hG.o0 0 rfl) (by decide) rfl rfl ⟨hkc, hnc⟩ dL_law_839 rfl ?_
  refine ya_aload_n 2 rfl dL_law_842 ?_
  refine ya_aload_n 0 rfl dL_law_843 ?_
  refine ya_iload_n 3 rfl dL_law_844 ?_
  refine ya_iconst 1 (by decide) dL_law_845 ?_
  refine ya_iadd dL_law_846 ?_
  refine ya_sald dL_law_847 h (fun x847 h => ?_)
  obtain ⟨x848, e848, h⟩ := ya_ob h
  refine ya_callVi (S := [.int x839]) (c_X12_cheapest hG e848) m_X12_cheapest ⟨rfl, rfl⟩ ml_L_96 rfl ⟨Nat.le_of_ble_eq_true rfl, Nat.le_of_ble_eq_true rfl⟩ (Nat.le_of_ble_eq_true rfl) (hG.lt0 83 (by decide)) (hG.o0 83 rfl) (by decide) rfl rfl ⟨hkc, hnc⟩ dL_law_848 rfl ?_
  refine ya_icmp_eq 2022 (by decide) dL_law_851 (fun c => ?_) (fun c => ?_)
  · replace h := ya_itet h c
    exact hkj _ h
  · replace h := ya_itef h c
    refine ya_iconst 0 (by decide) dL_law_854 ?_
    cases h
set_option maxRecDepth 20000 in
theorem w_law_c20 {X : ya_X} {nm : String} {Γ : ya_Γ} {G : ya_G} {d : ya_D} {k n : Nat} {γ : Type} {v3 : Int32} {kj : ya_D → Option γ} {rr : γ} (hG : ya_Bk ya_sh ya_ln G 0) (hdy : ya_Dy G) (hkc : k ≤ 600000) (hnc : n ≤ 7302250) (h : f_law_c20 X.2.2.2.2.2.1 G v3 d kj = some rr) (hkj : ∀ d', kj d' = some rr → ya_E X (Y_law nm) Γ 2022 [(0, .ref X.2.2.2.2.2.1.1), (1, .ref (X.2.1 + 0)), (2, .ref (X.2.1 + 83)), (3, .int v3)] [] G d' k n) : ya_E X (Y_law nm) Γ 856 [(0, .ref X.2.2.2.2.2.1.1), (1, .ref (X.2.1 + 0)), (2, .ref (X.2.1 + 83)), (3, .int v3)] [] G d k n := by
  unfold f_law_c20 at h
  refine ya_aload_n 1 rfl dL_law_856 ?_
  refine ya_aload_n 0 rfl dL_law_857 ?_
  refine ya_iload_n 3 rfl dL_law_858 ?_
  refine ya_iconst 1 (by decide) dL_law_859 ?_
  refine ya_iadd dL_law_860 ?_
  refine ya_sald dL_law_861 h (fun x861 h => ?_)
  refine ya_aload_n 0 rfl dL_law_862 ?_
  refine ya_iload_n 3 rfl dL_law_863 ?_
  refine ya_iconst 2 (by decide) dL_law_864 ?_
  refine ya_iadd dL_law_865 ?_
  refine ya_sald dL_law_866 h (fun x866 h => ?_)
  obtain ⟨x867, d867, e867, h⟩ := ya_ob2 h
  refine ya_callVi (S := []) (c_X11_buys hG e867) m_X11_buys ⟨rfl, rfl⟩ ml_L_97 rfl ⟨Nat.le_of_ble_eq_true rfl, Nat.le_of_ble_eq_true rfl⟩ (Nat.le_of_ble_eq_true rfl) (hG.lt0 0 (by decide)) (hG.o0 0 rfl) (by decide) rfl rfl ⟨hkc, hnc⟩ dL_law_867 rfl ?_
  refine ya_aload_n 2 rfl dL_law_870 ?_
  refine ya_aload_n 0 rfl dL_law_871 ?_
  refine ya_iload_n 3 rfl dL_law_872 ?_
  refine ya_iconst 1 (by decide) dL_law_873 ?_
  refine ya_iadd dL_law_874 ?_
  refine ya_sald dL_law_875 h (fun x875 h => ?_)
  refine ya_aload_n 0 rfl dL_law_876 ?_
  refine ya_iload_n 3 rfl dL_law_877 ?_
  refine ya_iconst 2 (by decide) dL_law_878 ?_
  refine ya_iadd dL_law_879 ?_
  refine ya_sald dL_law_880 h (fun x880 h => ?_)
  obtain ⟨x881, e881, h⟩ := ya_ob h
  refine ya_callVi (S := [.int x867]) (c_X12_buys hG e881) m_X12_buys ⟨rfl, rfl⟩ ml_L_100 rfl ⟨Nat.le_of_ble_eq_true rfl, Nat.le_of_ble_eq_true rfl⟩ (Nat.le_of_ble_eq_true rfl) (hG.lt0 83 (by decide)) (hG.o0 83 rfl) (by decide) rfl rfl ⟨hkc, hnc⟩ dL_law_881 rfl ?_
  refine ya_icmp_eq 2022 (by decide) dL_law_884 (fun c => ?_) (fun c => ?_)
  · replace h := ya_itet h c
    exact hkj _ h
  · replace h := ya_itef h c
    refine ya_iconst 0 (by decide) dL_law_887 ?_
    cases h
set_option maxRecDepth 20000 in
theorem w_law_c21 {X : ya_X} {nm : String} {Γ : ya_Γ} {G : ya_G} {d : ya_D} {k n : Nat} {γ : Type} {v3 : Int32} {kj : ya_D → Option γ} {rr : γ} (hG : ya_Bk ya_sh ya_ln G 0) (hdy : ya_Dy G) (hkc : k ≤ 600000) (hnc : n ≤ 7302250) (h : f_law_c21 X.2.2.2.2.2.1 G v3 d kj = some rr) (hkj : ∀ d', kj d' = some rr → ya_E X (Y_law nm) Γ 2022 [(0, .ref X.2.2.2.2.2.1.1), (1, .ref (X.2.1 + 0)), (2, .ref (X.2.1 + 83)), (3, .int v3)] [] G d' k n) : ya_E X (Y_law nm) Γ 889 [(0, .ref X.2.2.2.2.2.1.1), (1, .ref (X.2.1 + 0)), (2, .ref (X.2.1 + 83)), (3, .int v3)] [] G d k n := by
  unfold f_law_c21 at h
  refine ya_aload_n 1 rfl dL_law_889 ?_
  refine ya_aload_n 0 rfl dL_law_890 ?_
  refine ya_iload_n 3 rfl dL_law_891 ?_
  refine ya_iconst 1 (by decide) dL_law_892 ?_
  refine ya_iadd dL_law_893 ?_
  refine ya_sald dL_law_894 h (fun x894 h => ?_)
  obtain ⟨x895, d895, e895, h⟩ := ya_ob2 h
  refine ya_callVi (S := []) (c_X11_crowd hG e895) m_X11_crowd ⟨rfl, rfl⟩ ml_L_101 rfl ⟨Nat.le_of_ble_eq_true rfl, Nat.le_of_ble_eq_true rfl⟩ (Nat.le_of_ble_eq_true rfl) (hG.lt0 0 (by decide)) (hG.o0 0 rfl) (by decide) rfl rfl ⟨hkc, hnc⟩ dL_law_895 rfl ?_
  refine ya_aload_n 2 rfl dL_law_898 ?_
  refine ya_aload_n 0 rfl dL_law_899 ?_
  refine ya_iload_n 3 rfl dL_law_900 ?_
  refine ya_iconst 1 (by decide) dL_law_901 ?_
  refine ya_iadd dL_law_902 ?_
  refine ya_sald dL_law_903 h (fun x903 h => ?_)
  obtain ⟨x904, e904, h⟩ := ya_ob h
  refine ya_callVi (S := [.int x895]) (c_X12_crowd hG e904) m_X12_crowd ⟨rfl, rfl⟩ ml_L_104 rfl ⟨Nat.le_of_ble_eq_true rfl, Nat.le_of_ble_eq_true rfl⟩ (Nat.le_of_ble_eq_true rfl) (hG.lt0 83 (by decide)) (hG.o0 83 rfl) (by decide) rfl rfl ⟨hkc, hnc⟩ dL_law_904 rfl ?_
  refine ya_icmp_eq 2022 (by decide) dL_law_907 (fun c => ?_) (fun c => ?_)
  · replace h := ya_itet h c
    exact hkj _ h
  · replace h := ya_itef h c
    refine ya_iconst 0 (by decide) dL_law_910 ?_
    cases h
set_option maxRecDepth 20000 in
theorem w_law_c22 {X : ya_X} {nm : String} {Γ : ya_Γ} {G : ya_G} {d : ya_D} {k n : Nat} {γ : Type} {v3 : Int32} {kj : ya_D → Option γ} {rr : γ} (hG : ya_Bk ya_sh ya_ln G 0) (hdy : ya_Dy G) (hkc : k ≤ 600000) (hnc : n ≤ 7302250) (h : f_law_c22 X.2.2.2.2.2.1 G v3 d kj = some rr) (hkj : ∀ d', kj d' = some rr → ya_E X (Y_law nm) Γ 2022 [(0, .ref X.2.2.2.2.2.1.1), (1, .ref (X.2.1 + 0)), (2, .ref (X.2.1 + 83)), (3, .int v3)] [] G d' k n) : ya_E X (Y_law nm) Γ 912 [(0, .ref X.2.2.2.2.2.1.1), (1, .ref (X.2.1 + 0)), (2, .ref (X.2.1 + 83)), (3, .int v3)] [] G d k n := by
  unfold f_law_c22 at h
  refine ya_aload_n 1 rfl dL_law_912 ?_
  refine ya_aload_n 0 rfl dL_law_913 ?_
  refine ya_iload_n 3 rfl dL_law_914 ?_
  refine ya_iconst 1 (by decide) dL_law_915 ?_
  refine ya_iadd dL_law_916 ?_
  refine ya_sald dL_law_917 h (fun x917 h => ?_)
  refine ya_aload_n 0 rfl dL_law_918 ?_
  refine ya_iload_n 3 rfl dL_law_919 ?_
  refine ya_iconst 2 (by decide) dL_law_920 ?_
  refine ya_iadd dL_law_921 ?_
  refine ya_sald dL_law_922 h (fun x922 h => ?_)
  refine ya_aload_n 0 rfl dL_law_923 ?_
  refine ya_iload_n 3 rfl dL_law_924 ?_
  refine ya_iconst 3 (by decide) dL_law_925 ?_
  refine ya_iadd dL_law_926 ?_
  refine ya_sald dL_law_927 h (fun x927 h => ?_)
  obtain ⟨x928, d928, e928, h⟩ := ya_ob2 h
  refine ya_callVi (S := []) (c_X11_mark hG e928) m_X11_mark ⟨rfl, rfl⟩ ml_L_105 rfl ⟨Nat.le_of_ble_eq_true rfl, Nat.le_of_ble_eq_true rfl⟩ (Nat.le_of_ble_eq_true rfl) (hG.lt0 0 (by decide)) (hG.o0 0 rfl) (by decide) rfl rfl ⟨hkc, hnc⟩ dL_law_928 rfl ?_
  refine ya_aload_n 2 rfl dL_law_931 ?_
  refine ya_aload_n 0 rfl dL_law_932 ?_
  refine ya_iload_n 3 rfl dL_law_933 ?_
  refine ya_iconst 1 (by decide) dL_law_934 ?_
  refine ya_iadd dL_law_935 ?_
  refine ya_sald dL_law_936 h (fun x936 h => ?_)
  refine ya_aload_n 0 rfl dL_law_937 ?_
  refine ya_iload_n 3 rfl dL_law_938 ?_
  refine ya_iconst 2 (by decide) dL_law_939 ?_
  refine ya_iadd dL_law_940 ?_
  refine ya_sald dL_law_941 h (fun x941 h => ?_)
  refine ya_aload_n 0 rfl dL_law_942 ?_
  refine ya_iload_n 3 rfl dL_law_943 ?_
  refine ya_iconst 3 (by decide) dL_law_944 ?_
  refine ya_iadd dL_law_945 ?_
  refine ya_sald dL_law_946 h (fun x946 h => ?_)
  obtain ⟨x947, d947, e947, h⟩ := ya_ob2 h
  refine ya_callVi (S := [.int x928]) (c_X12_mark hG e947) m_X12_mark ⟨rfl, rfl⟩ ml_L_109 rfl ⟨Nat.le_of_ble_eq_true rfl, Nat.le_of_ble_eq_true rfl⟩ (Nat.le_of_ble_eq_true rfl) (hG.lt0 83 (by decide)) (hG.o0 83 rfl) (by decide) rfl rfl ⟨hkc, hnc⟩ dL_law_947 rfl ?_
  refine ya_icmp_eq 2022 (by decide) dL_law_950 (fun c => ?_) (fun c => ?_)
  · replace h := ya_itet h c
    exact hkj _ h
  · replace h := ya_itef h c
    refine ya_iconst 0 (by decide) dL_law_953 ?_
    cases h
set_option maxRecDepth 20000 in
theorem w_law_c23 {X : ya_X} {nm : String} {Γ : ya_Γ} {G : ya_G} {d : ya_D} {k n : Nat} {γ : Type} {v3 : Int32} {kj : ya_D → Option γ} {rr : γ} (hG : ya_Bk ya_sh ya_ln G 0) (hdy : ya_Dy G) (hkc : k ≤ 600000) (hnc : n ≤ 7302250) (h : f_law_c23 X.2.2.2.2.2.1 G v3 d kj = some rr) (hkj : ∀ d', kj d' = some rr → ya_E X (Y_law nm) Γ 2022 [(0, .ref X.2.2.2.2.2.1.1), (1, .ref (X.2.1 + 0)), (2, .ref (X.2.1 + 83)), (3, .int v3)] [] G d' k n) : ya_E X (Y_law nm) Γ 955 [(0, .ref X.2.2.2.2.2.1.1), (1, .ref (X.2.1 + 0)), (2, .ref (X.2.1 + 83)), (3, .int v3)] [] G d k n := by
  unfold f_law_c23 at h
  refine ya_aload_n 1 rfl dL_law_955 ?_
  obtain ⟨x956, d956, e956, h⟩ := ya_ob2 h
  refine ya_callVi (S := []) (c_X11_turn hG e956) m_X11_turn ⟨rfl, rfl⟩ ml_L_110 rfl ⟨Nat.le_of_ble_eq_true rfl, Nat.le_of_ble_eq_true rfl⟩ (Nat.le_of_ble_eq_true rfl) (hG.lt0 0 (by decide)) (hG.o0 0 rfl) (by decide) rfl rfl ⟨hkc, hnc⟩ dL_law_956 rfl ?_
  refine ya_aload_n 2 rfl dL_law_959 ?_
  obtain ⟨x960, d960, e960, h⟩ := ya_ob2 h
  refine ya_callVi (S := [.int x956]) (c_X12_turn hG e960) m_X12_turn ⟨rfl, rfl⟩ ml_L_113 rfl ⟨Nat.le_of_ble_eq_true rfl, Nat.le_of_ble_eq_true rfl⟩ (Nat.le_of_ble_eq_true rfl) (hG.lt0 83 (by decide)) (hG.o0 83 rfl) (by decide) rfl rfl ⟨hkc, hnc⟩ dL_law_960 rfl ?_
  refine ya_icmp_eq 2022 (by decide) dL_law_963 (fun c => ?_) (fun c => ?_)
  · replace h := ya_itet h c
    exact hkj _ h
  · replace h := ya_itef h c
    refine ya_iconst 0 (by decide) dL_law_966 ?_
    cases h
set_option maxRecDepth 20000 in
theorem w_law_c24 {X : ya_X} {nm : String} {Γ : ya_Γ} {G : ya_G} {d : ya_D} {k n : Nat} {γ : Type} {v3 : Int32} {kj : ya_D → Option γ} {rr : γ} (hG : ya_Bk ya_sh ya_ln G 0) (hdy : ya_Dy G) (hkc : k ≤ 600000) (hnc : n ≤ 7302250) (h : f_law_c24 X.2.2.2.2.2.1 G v3 d kj = some rr) (hkj : ∀ d', kj d' = some rr → ya_E X (Y_law nm) Γ 2022 [(0, .ref X.2.2.2.2.2.1.1), (1, .ref (X.2.1 + 0)), (2, .ref (X.2.1 + 83)), (3, .int v3)] [] G d' k n) : ya_E X (Y_law nm) Γ 968 [(0, .ref X.2.2.2.2.2.1.1), (1, .ref (X.2.1 + 0)), (2, .ref (X.2.1 + 83)), (3, .int v3)] [] G d k n := by
  unfold f_law_c24 at h
  refine ya_aload_n 1 rfl dL_law_968 ?_
  refine ya_aload_n 0 rfl dL_law_969 ?_
  refine ya_iload_n 3 rfl dL_law_970 ?_
  refine ya_iconst 1 (by decide) dL_law_971 ?_
  refine ya_iadd dL_law_972 ?_
  refine ya_sald dL_law_973 h (fun x973 h => ?_)
  refine ya_aload_n 0 rfl dL_law_974 ?_
  refine ya_iload_n 3 rfl dL_law_975 ?_
  refine ya_iconst 2 (by decide) dL_law_976 ?_
  refine ya_iadd dL_law_977 ?_
  refine ya_sald dL_law_978 h (fun x978 h => ?_)
  refine ya_aload_n 0 rfl dL_law_979 ?_
  refine ya_iload_n 3 rfl dL_law_980 ?_
  refine ya_iconst 3 (by decide) dL_law_981 ?_
  refine ya_iadd dL_law_982 ?_
  refine ya_sald dL_law_983 h (fun x983 h => ?_)
  obtain ⟨x984, d984, e984, h⟩ := ya_ob2 h
  refine ya_callVi (S := []) (c_X11_made hG e984) m_X11_made ⟨rfl, rfl⟩ ml_L_114 rfl ⟨Nat.le_of_ble_eq_true rfl, Nat.le_of_ble_eq_true rfl⟩ (Nat.le_of_ble_eq_true rfl) (hG.lt0 0 (by decide)) (hG.o0 0 rfl) (by decide) rfl rfl ⟨hkc, hnc⟩ dL_law_984 rfl ?_
  refine ya_aload_n 2 rfl dL_law_987 ?_
  refine ya_aload_n 0 rfl dL_law_988 ?_
  refine ya_iload_n 3 rfl dL_law_989 ?_
  refine ya_iconst 1 (by decide) dL_law_990 ?_
  refine ya_iadd dL_law_991 ?_
  refine ya_sald dL_law_992 h (fun x992 h => ?_)
  refine ya_aload_n 0 rfl dL_law_993 ?_
  refine ya_iload_n 3 rfl dL_law_994 ?_
  refine ya_iconst 2 (by decide) dL_law_995 ?_
  refine ya_iadd dL_law_996 ?_
  refine ya_sald dL_law_997 h (fun x997 h => ?_)
  refine ya_aload_n 0 rfl dL_law_998 ?_
  refine ya_iload_n 3 rfl dL_law_999 ?_
  refine ya_iconst 3 (by decide) dL_law_1000 ?_
  refine ya_iadd dL_law_1001 ?_
  refine ya_sald dL_law_1002 h (fun x1002 h => ?_)
  obtain ⟨x1003, d1003, e1003, h⟩ := ya_ob2 h
  refine ya_callVi (S := [.int x984]) (c_X12_made hG e1003) m_X12_made ⟨rfl, rfl⟩ ml_L_117 rfl ⟨Nat.le_of_ble_eq_true rfl, Nat.le_of_ble_eq_true rfl⟩ (Nat.le_of_ble_eq_true rfl) (hG.lt0 83 (by decide)) (hG.o0 83 rfl) (by decide) rfl rfl ⟨hkc, hnc⟩ dL_law_1003 rfl ?_
  refine ya_icmp_eq 2022 (by decide) dL_law_1006 (fun c => ?_) (fun c => ?_)
  · replace h := ya_itet h c
    exact hkj _ h
  · replace h := ya_itef h c
    refine ya_iconst 0 (by decide) dL_law_1009 ?_
    cases h
