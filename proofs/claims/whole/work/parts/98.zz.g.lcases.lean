set_option maxHeartbeats 4000000 in
set_option maxRecDepth 100000 in
theorem lc_feed {X : zX} (hX2 : zOK2 X) (hL : zOL X) {b L : Nat} {xs : Nat → Int32} (hE : ∀ U, zE X U → va_X b L xs U U.heap) (hb : b < X.2.2.2.1) (hLm : L ≤ 3072) {i : Int} (hi : 0 ≤ i ∧ i + 6 ≤ (L : Int)) {A : Nat → Nat} {S : Nat → va_E} {σ : CS} {m : CV} {f : Nat → Int64} (hR : zRR σ m) (hS : zvLs X A m f S) {kc ks : Nat} (hr : kc + 1 ≤ 601024 ∧ ks + 6 ≤ 7293034) (next : ∀ (A' : Nat → Nat) (S' : Nat → va_E) (σ' : CS) (m' : CV) (f' : Nat → Int64), zRR σ' m' → zvLs X A' m' f' S' → zvAk A A' → (∃ r, fX7_feed σ (zvXs xs (i + 1)) (zvXs xs (i + 2)) (zvXs xs (i + 3)) (zvXs xs (i + 4)) (zvXs xs (i + 5)) = some (σ', r)) → G X mL_law (zLP X b) (kc + 1) (ks + 6) 3056 (zvLv b A' i) [] (zWs A' 113 (zSt X A' σ' S'))) : G X mL_law (zLP X b) kc ks 276 (zvLv b A i) [] (zWs A 113 (zSt X A σ S)) := by
  have hX := hX2.1
  obtain ⟨res, er, u, eu, hR2, hAn⟩ := s_feed hR (zvXs_r (xs := xs) (i := i + 1)) (zvXs_r (xs := xs) (i := i + 2)) (zvXs_r (xs := xs) (i := i + 3)) (zvXs_r (xs := xs) (i := i + 4)) (zvXs_r (xs := xs) (i := i + 5))
  have hko := zAn_k hAn (by decide) (by decide)
  refine g_aload_n (M := mL_law) dL_law_276 1 rfl rfl ?_
  refine g_arg hE hb dL_law_277 dL_law_278 dL_law_280 dL_law_281 dL_law_282 rfl rfl ⟨hi.1, by decide, by omega⟩ hLm ?_
  refine g_arg hE hb dL_law_283 dL_law_284 dL_law_286 dL_law_287 dL_law_288 rfl rfl ⟨hi.1, by decide, by omega⟩ hLm ?_
  refine g_arg hE hb dL_law_289 dL_law_290 dL_law_292 dL_law_293 dL_law_294 rfl rfl ⟨hi.1, by decide, by omega⟩ hLm ?_
  refine g_arg hE hb dL_law_295 dL_law_296 dL_law_298 dL_law_299 dL_law_300 rfl rfl ⟨hi.1, by decide, by omega⟩ hLm ?_
  refine g_arg hE hb dL_law_301 dL_law_302 dL_law_304 dL_law_305 dL_law_306 rfl rfl ⟨hi.1, by decide, by omega⟩ hLm ?_
  refine g_aload_n (M := mL_law) dL_law_307 3 rfl rfl ?_
  refine g_callSHQ (M := mL_law) [.ref (A 0), .int (iI (zvXs xs (i + 1))), .int (iI (zvXs xs (i + 2))), .int (iI (zvXs xs (i + 3))), .int (iI (zvXs xs (i + 4))), .int (iI (zvXs xs (i + 5))), .ref (A 112)] hX dL_law_308 rfl (fun h => by cases h) vHL_feed kI_L ⟨by decide, by decide⟩ rfl vIL_feed kM_L_148 (wL_feed hX hL (by decide) (by decide) hS.2 er hko.1) (fun w E h => by obtain ⟨_, _, _, h3⟩ := h; cases h3) rfl ⟨(Nat.le_of_ble_eq_true rfl), (Nat.le_of_ble_eq_true rfl)⟩ ⟨hr.1, hr.2⟩ (Nat.le_of_ble_eq_true rfl) (fun w v hQ => ?_)
  obtain ⟨A', hA', hw, hv⟩ := hQ
  cases hv
  rw [hw]
  have hS1 := zvLs_o (r := res.2) (zvLs_k hS hA')
  rw [zvLv_k hA']
  refine g_istore (M := mL_law) (lv' := zvLv b A' i ++ [(5, .int (iI (zKo ["java/lang/IllegalStateException"] res.2)))]) dL_law_311 (by decide) rfl ?_
  refine g_aload_n (M := mL_law) dL_law_313 2 rfl rfl ?_
  refine g_arg hE hb dL_law_314 dL_law_315 dL_law_317 dL_law_318 dL_law_319 rfl rfl ⟨hi.1, by decide, by omega⟩ hLm ?_
  refine g_arg hE hb dL_law_320 dL_law_321 dL_law_323 dL_law_324 dL_law_325 rfl rfl ⟨hi.1, by decide, by omega⟩ hLm ?_
  refine g_arg hE hb dL_law_326 dL_law_327 dL_law_329 dL_law_330 dL_law_331 rfl rfl ⟨hi.1, by decide, by omega⟩ hLm ?_
  refine g_arg hE hb dL_law_332 dL_law_333 dL_law_335 dL_law_336 dL_law_337 rfl rfl ⟨hi.1, by decide, by omega⟩ hLm ?_
  refine g_arg hE hb dL_law_338 dL_law_339 dL_law_341 dL_law_342 dL_law_343 rfl rfl ⟨hi.1, by decide, by omega⟩ hLm ?_
  refine g_callVr (M := mL_law) [.int (iI (zvXs xs (i + 1))), .int (iI (zvXs xs (i + 2))), .int (iI (zvXs xs (i + 3))), .int (iI (zvXs xs (i + 4))), .int (iI (zvXs xs (i + 5)))] hX dL_law_344 vX8_feed kM_L_153 (wX8_feed hX (zvLs_c hS1) (by decide) eu) 91 (zWs_at (by decide) (zvLs_c hS1).o) rfl ⟨(Nat.le_of_ble_eq_true rfl), (Nat.le_of_ble_eq_true rfl)⟩ ⟨hr.1, hr.2⟩ (Nat.le_of_ble_eq_true rfl) ?_
  rw [zSt_zC]
  have hS2 := zvLs_m (m' := u.1) hS1
  refine g_istore (M := mL_law) (lv' := zvLv b A' i ++ [(5, .int (iI (zKo ["java/lang/IllegalStateException"] res.2))), (6, .int (iI u.2))]) dL_law_347 (by decide) rfl ?_
  refine lc_tail hX hS2 hko.2.1 (by have h2 := hko.2.2.1; rw [hko.2.1] at h2; exact h2) (fun z => ?_) hr dL_law_349 dL_law_350 dL_law_353 dL_law_355 dL_law_360 dL_law_362 dL_law_365 dL_law_366 dL_law_367 dL_law_368 dL_law_370 dL_law_371 dL_law_372 dL_law_377 (by decide) ?_
  · obtain ⟨v, e1, e2, _⟩ := hko.2.2.2 (hko.2.1.trans z)
    rw [e1, zvLf_0, e2]
  · exact next A' _ res.1 u.1 _ hR2 hS2 hA' ⟨res.2, er⟩
set_option maxHeartbeats 4000000 in
set_option maxRecDepth 100000 in
theorem lc_truncate {X : zX} (hX2 : zOK2 X) (hL : zOL X) {b L : Nat} {xs : Nat → Int32} (hE : ∀ U, zE X U → va_X b L xs U U.heap) (hb : b < X.2.2.2.1) (hLm : L ≤ 3072) {i : Int} (hi : 0 ≤ i ∧ i + 6 ≤ (L : Int)) {A : Nat → Nat} {S : Nat → va_E} {σ : CS} {m : CV} {f : Nat → Int64} (hR : zRR σ m) (hS : zvLs X A m f S) {kc ks : Nat} (hr : kc + 1 ≤ 601024 ∧ ks + 6 ≤ 7293034) (next : ∀ (A' : Nat → Nat) (S' : Nat → va_E) (σ' : CS) (m' : CV) (f' : Nat → Int64), zRR σ' m' → zvLs X A' m' f' S' → zvAk A A' → (∃ r, fX7_truncate σ (zvXs xs (i + 1)) = some (σ', r)) → G X mL_law (zLP X b) (kc + 1) (ks + 6) 3056 (zvLv b A' i) [] (zWs A' 113 (zSt X A' σ' S'))) : G X mL_law (zLP X b) kc ks 380 (zvLv b A i) [] (zWs A 113 (zSt X A σ S)) := by
  have hX := hX2.1
  obtain ⟨res, er, u, eu, hR2, hAn⟩ := s_truncate hR (zvXs_r (xs := xs) (i := i + 1))
  have hko := zAn_k hAn (by decide) (by decide)
  refine g_aload_n (M := mL_law) dL_law_380 1 rfl rfl ?_
  refine g_arg hE hb dL_law_381 dL_law_382 dL_law_384 dL_law_385 dL_law_386 rfl rfl ⟨hi.1, by decide, by omega⟩ hLm ?_
  refine g_aload_n (M := mL_law) dL_law_387 3 rfl rfl ?_
  refine g_callSHQ (M := mL_law) [.ref (A 0), .int (iI (zvXs xs (i + 1))), .ref (A 112)] hX dL_law_388 rfl (fun h => by cases h) vHL_truncate kI_L ⟨by decide, by decide⟩ rfl vIL_truncate kM_L_157 (wL_truncate hX hL (by decide) (by decide) hS.2 er hko.1) (fun w E h => by obtain ⟨_, _, _, h3⟩ := h; cases h3) rfl ⟨(Nat.le_of_ble_eq_true rfl), (Nat.le_of_ble_eq_true rfl)⟩ ⟨hr.1, hr.2⟩ (Nat.le_of_ble_eq_true rfl) (fun w v hQ => ?_)
  obtain ⟨A', hA', hw, hv⟩ := hQ
  cases hv
  rw [hw]
  have hS1 := zvLs_o (r := res.2) (zvLs_k hS hA')
  rw [zvLv_k hA']
  refine g_istore (M := mL_law) (lv' := zvLv b A' i ++ [(5, .int (iI (zKo ["java/lang/IllegalArgumentException"] res.2)))]) dL_law_391 (by decide) rfl ?_
  refine g_aload_n (M := mL_law) dL_law_393 2 rfl rfl ?_
  refine g_arg hE hb dL_law_394 dL_law_395 dL_law_397 dL_law_398 dL_law_399 rfl rfl ⟨hi.1, by decide, by omega⟩ hLm ?_
  refine g_callVr (M := mL_law) [.int (iI (zvXs xs (i + 1)))] hX dL_law_400 vX8_truncate kM_L_160 (wX8_truncate hX (zvLs_c hS1) (by decide) eu) 91 (zWs_at (by decide) (zvLs_c hS1).o) rfl ⟨(Nat.le_of_ble_eq_true rfl), (Nat.le_of_ble_eq_true rfl)⟩ ⟨hr.1, hr.2⟩ (Nat.le_of_ble_eq_true rfl) ?_
  rw [zSt_zC]
  have hS2 := zvLs_m (m' := u.1) hS1
  refine g_istore (M := mL_law) (lv' := zvLv b A' i ++ [(5, .int (iI (zKo ["java/lang/IllegalArgumentException"] res.2))), (6, .int (iI u.2))]) dL_law_403 (by decide) rfl ?_
  refine lc_tail hX hS2 hko.2.1 (by have h2 := hko.2.2.1; rw [hko.2.1] at h2; exact h2) (fun z => ?_) hr dL_law_405 dL_law_406 dL_law_409 dL_law_411 dL_law_416 dL_law_418 dL_law_421 dL_law_422 dL_law_423 dL_law_424 dL_law_426 dL_law_427 dL_law_428 dL_law_433 (by decide) ?_
  · obtain ⟨v, e1, e2, _⟩ := hko.2.2.2 (hko.2.1.trans z)
    rw [e1, zvLf_0, e2]
  · exact next A' _ res.1 u.1 _ hR2 hS2 hA' ⟨res.2, er⟩
set_option maxHeartbeats 4000000 in
set_option maxRecDepth 100000 in
theorem lc_readText {X : zX} (hX2 : zOK2 X) (hL : zOL X) {b L : Nat} {xs : Nat → Int32} (hE : ∀ U, zE X U → va_X b L xs U U.heap) (hb : b < X.2.2.2.1) (hLm : L ≤ 3072) {i : Int} (hi : 0 ≤ i ∧ i + 6 ≤ (L : Int)) {A : Nat → Nat} {S : Nat → va_E} {σ : CS} {m : CV} {f : Nat → Int64} (hR : zRR σ m) (hS : zvLs X A m f S) {kc ks : Nat} (hr : kc + 1 ≤ 601024 ∧ ks + 6 ≤ 7293034) (next : ∀ (A' : Nat → Nat) (S' : Nat → va_E) (σ' : CS) (m' : CV) (f' : Nat → Int64), zRR σ' m' → zvLs X A' m' f' S' → zvAk A A' → (∃ r, fX7_readText σ  = some (σ', r)) → G X mL_law (zLP X b) (kc + 1) (ks + 6) 3056 (zvLv b A' i) [] (zWs A' 113 (zSt X A' σ' S'))) : G X mL_law (zLP X b) kc ks 436 (zvLv b A i) [] (zWs A 113 (zSt X A σ S)) := by
  have hX := hX2.1
  obtain ⟨res, er, u, eu, hR2, hAn⟩ := s_readText hR
  have hko := zAn_k hAn (by decide) (by decide)
  refine g_aload_n (M := mL_law) dL_law_436 1 rfl rfl ?_
  refine g_aload_n (M := mL_law) dL_law_437 3 rfl rfl ?_
  refine g_callSHQ (M := mL_law) [.ref (A 0), .ref (A 112)] hX dL_law_438 rfl (fun h => by cases h) vHL_readText kI_L ⟨by decide, by decide⟩ rfl vIL_readText kM_L_161 (wL_readText hX2 hL (by decide) (by decide) hS.2 er hko.1) (fun w E h => by obtain ⟨_, _, _, h3⟩ := h; cases h3) rfl ⟨(Nat.le_of_ble_eq_true rfl), (Nat.le_of_ble_eq_true rfl)⟩ ⟨hr.1, hr.2⟩ (Nat.le_of_ble_eq_true rfl) (fun w v hQ => ?_)
  obtain ⟨A', hA', hw, hv⟩ := hQ
  cases hv
  rw [hw]
  have hS1 := zvLs_o (r := res.2) (zvLs_k hS hA')
  rw [zvLv_k hA']
  refine g_istore (M := mL_law) (lv' := zvLv b A' i ++ [(5, .int (iI (zKo ["java/lang/IllegalArgumentException"] res.2)))]) dL_law_441 (by decide) rfl ?_
  refine g_aload_n (M := mL_law) dL_law_443 2 rfl rfl ?_
  refine g_callVr (M := mL_law) [] hX dL_law_444 vX8_readText kM_L_164 (wX8_readText hX (zvLs_c hS1) (by decide) eu) 91 (zWs_at (by decide) (zvLs_c hS1).o) rfl ⟨(Nat.le_of_ble_eq_true rfl), (Nat.le_of_ble_eq_true rfl)⟩ ⟨hr.1, hr.2⟩ (Nat.le_of_ble_eq_true rfl) ?_
  rw [zSt_zC]
  have hS2 := zvLs_m (m' := u.1) hS1
  refine g_istore (M := mL_law) (lv' := zvLv b A' i ++ [(5, .int (iI (zKo ["java/lang/IllegalArgumentException"] res.2))), (6, .int (iI u.2))]) dL_law_447 (by decide) rfl ?_
  refine lc_tail hX hS2 hko.2.1 (by have h2 := hko.2.2.1; rw [hko.2.1] at h2; exact h2) (fun z => ?_) hr dL_law_449 dL_law_450 dL_law_453 dL_law_455 dL_law_460 dL_law_462 dL_law_465 dL_law_466 dL_law_467 dL_law_468 dL_law_470 dL_law_471 dL_law_472 dL_law_477 (by decide) ?_
  · obtain ⟨v, e1, e2, _⟩ := hko.2.2.2 (hko.2.1.trans z)
    rw [e1, zvLf_0, e2]
  · exact next A' _ res.1 u.1 _ hR2 hS2 hA' ⟨res.2, er⟩
set_option maxHeartbeats 4000000 in
set_option maxRecDepth 100000 in
theorem lc_runScript {X : zX} (hX2 : zOK2 X) (hL : zOL X) {b L : Nat} {xs : Nat → Int32} (hE : ∀ U, zE X U → va_X b L xs U U.heap) (hb : b < X.2.2.2.1) (hLm : L ≤ 3072) {i : Int} (hi : 0 ≤ i ∧ i + 6 ≤ (L : Int)) {A : Nat → Nat} {S : Nat → va_E} {σ : CS} {m : CV} {f : Nat → Int64} (hR : zRR σ m) (hS : zvLs X A m f S) {kc ks : Nat} (hr : kc + (2 + 3 * zNd (σ 7) (σ 4)) ≤ 601024 ∧ ks + (12 + 13652 * zNd (σ 7) (σ 4)) ≤ 7293034) (next : ∀ (A' : Nat → Nat) (S' : Nat → va_E) (σ' : CS) (m' : CV) (f' : Nat → Int64), zRR σ' m' → zvLs X A' m' f' S' → zvAk A A' → (∃ r, fX7_runScript σ  = some (σ', r)) → G X mL_law (zLP X b) (kc + (2 + 3 * zNd (σ 7) (σ 4))) (ks + (12 + 13652 * zNd (σ 7) (σ 4))) 3056 (zvLv b A' i) [] (zWs A' 113 (zSt X A' σ' S'))) : G X mL_law (zLP X b) kc ks 480 (zvLv b A i) [] (zWs A 113 (zSt X A σ S)) := by
  have hX := hX2.1
  obtain ⟨res, er, u, eu, hR2, hAn⟩ := s_runScript hR
  have hko := zAn_k hAn (by decide) (by decide)
  refine g_aload_n (M := mL_law) dL_law_480 1 rfl rfl ?_
  refine g_aload_n (M := mL_law) dL_law_481 3 rfl rfl ?_
  refine g_callSHQ (M := mL_law) [.ref (A 0), .ref (A 112)] hX dL_law_482 rfl (fun h => by cases h) vHL_runScript kI_L ⟨by decide, by decide⟩ rfl vIL_runScript kM_L_165 (wL_runScript hX2 hL (by decide) (by decide) hS.2 er hko.1) (fun w E h => by obtain ⟨_, _, _, h3⟩ := h; cases h3) rfl ⟨(Nat.le_of_ble_eq_true rfl), (Nat.le_of_ble_eq_true rfl)⟩ ⟨hr.1, hr.2⟩ (Nat.le_of_ble_eq_true rfl) (fun w v hQ => ?_)
  obtain ⟨A', hA', hw, hv⟩ := hQ
  cases hv
  rw [hw]
  have hS1 := zvLs_o (r := res.2) (zvLs_k hS hA')
  rw [zvLv_k hA']
  refine g_istore (M := mL_law) (lv' := zvLv b A' i ++ [(5, .int (iI (zKo ["java/lang/IllegalArgumentException"] res.2)))]) dL_law_485 (by decide) rfl ?_
  refine g_aload_n (M := mL_law) dL_law_487 2 rfl rfl ?_
  refine g_callVr (M := mL_law) [] hX dL_law_488 vX8_runScript kM_L_167 (wX8_runScript hX (zvLs_c hS1) (by decide) eu) 91 (zWs_at (by decide) (zvLs_c hS1).o) rfl ⟨(Nat.le_of_ble_eq_true rfl), (Nat.le_of_ble_eq_true rfl)⟩ ⟨hr.1, hr.2⟩ (Nat.le_of_ble_eq_true rfl) ?_
  rw [zSt_zC]
  have hS2 := zvLs_m (m' := u.1) hS1
  refine g_istore (M := mL_law) (lv' := zvLv b A' i ++ [(5, .int (iI (zKo ["java/lang/IllegalArgumentException"] res.2))), (6, .int (iI u.2))]) dL_law_491 (by decide) rfl ?_
  refine lc_tail hX hS2 hko.2.1 (by have h2 := hko.2.2.1; rw [hko.2.1] at h2; exact h2) (fun z => ?_) hr dL_law_493 dL_law_494 dL_law_497 dL_law_499 dL_law_504 dL_law_506 dL_law_509 dL_law_510 dL_law_511 dL_law_512 dL_law_514 dL_law_515 dL_law_516 dL_law_521 (by decide) ?_
  · obtain ⟨v, e1, e2, _⟩ := hko.2.2.2 (hko.2.1.trans z)
    rw [e1, zvLf_0, e2]
  · exact next A' _ res.1 u.1 _ hR2 hS2 hA' ⟨res.2, er⟩
set_option maxHeartbeats 4000000 in
set_option maxRecDepth 100000 in
theorem lc_setting {X : zX} (hX2 : zOK2 X) (hL : zOL X) {b L : Nat} {xs : Nat → Int32} (hE : ∀ U, zE X U → va_X b L xs U U.heap) (hb : b < X.2.2.2.1) (hLm : L ≤ 3072) {i : Int} (hi : 0 ≤ i ∧ i + 6 ≤ (L : Int)) {A : Nat → Nat} {S : Nat → va_E} {σ : CS} {m : CV} {f : Nat → Int64} (hR : zRR σ m) (hS : zvLs X A m f S) {kc ks : Nat} (hr : kc + 1 ≤ 601024 ∧ ks + 6 ≤ 7293034) (next : ∀ (A' : Nat → Nat) (S' : Nat → va_E) (σ' : CS) (m' : CV) (f' : Nat → Int64), zRR σ' m' → zvLs X A' m' f' S' → zvAk A A' → (σ' = σ) → G X mL_law (zLP X b) (kc + 1) (ks + 6) 3056 (zvLv b A' i) [] (zWs A' 113 (zSt X A' σ' S'))) : G X mL_law (zLP X b) kc ks 550 (zvLv b A i) [] (zWs A 113 (zSt X A σ S)) := by
  have hX := hX2.1
  obtain ⟨res, er, u, eu, hR2, hAn⟩ := s_setting hR (zvXs_r (xs := xs) (i := i + 1))
  have hko := zAn_k hAn (by decide) (by decide)
  refine g_aload_n (M := mL_law) dL_law_550 1 rfl rfl ?_
  refine g_arg hE hb dL_law_551 dL_law_552 dL_law_554 dL_law_555 dL_law_556 rfl rfl ⟨hi.1, by decide, by omega⟩ hLm ?_
  refine g_aload_n (M := mL_law) dL_law_557 3 rfl rfl ?_
  refine g_callSHQ (M := mL_law) [.ref (A 0), .int (iI (zvXs xs (i + 1))), .ref (A 112)] hX dL_law_558 rfl (fun h => by cases h) vHL_setting kI_L ⟨by decide, by decide⟩ rfl vIL_setting kM_L_176 (wL_setting hX hL (by decide) (by decide) hS.2 er hko.1) (fun w E h => by obtain ⟨_, _, _, h3⟩ := h; cases h3) rfl ⟨(Nat.le_of_ble_eq_true rfl), (Nat.le_of_ble_eq_true rfl)⟩ ⟨hr.1, hr.2⟩ (Nat.le_of_ble_eq_true rfl) (fun w v hQ => ?_)
  obtain ⟨A', hA', hw, hv⟩ := hQ
  cases hv
  rw [hw]
  have hS1 := zvLs_o (r := res) (zvLs_k hS hA')
  rw [zvLv_k hA']
  refine g_istore (M := mL_law) (lv' := zvLv b A' i ++ [(5, .int (iI (zKo ["java/lang/IllegalArgumentException"] res)))]) dL_law_561 (by decide) rfl ?_
  refine g_aload_n (M := mL_law) dL_law_563 2 rfl rfl ?_
  refine g_arg hE hb dL_law_564 dL_law_565 dL_law_567 dL_law_568 dL_law_569 rfl rfl ⟨hi.1, by decide, by omega⟩ hLm ?_
  refine g_callVr (M := mL_law) [.int (iI (zvXs xs (i + 1)))] hX dL_law_570 vX8_setting kM_L_178 (wX8_setting hX (zvLs_c hS1) (by decide) eu) 91 (zWs_at (by decide) (zvLs_c hS1).o) rfl ⟨(Nat.le_of_ble_eq_true rfl), (Nat.le_of_ble_eq_true rfl)⟩ ⟨hr.1, hr.2⟩ (Nat.le_of_ble_eq_true rfl) ?_
  rw [zSt_zC]
  have hS2 := zvLs_m (m' := u.1) hS1
  refine g_istore (M := mL_law) (lv' := zvLv b A' i ++ [(5, .int (iI (zKo ["java/lang/IllegalArgumentException"] res))), (6, .int (iI u.2))]) dL_law_573 (by decide) rfl ?_
  refine lc_tail hX hS2 hko.2.1 (by have h2 := hko.2.2.1; rw [hko.2.1] at h2; exact h2) (fun z => ?_) hr dL_law_575 dL_law_576 dL_law_579 dL_law_581 dL_law_586 dL_law_588 dL_law_591 dL_law_592 dL_law_593 dL_law_594 dL_law_596 dL_law_597 dL_law_598 dL_law_603 (by decide) ?_
  · obtain ⟨v, e1, e2, _⟩ := hko.2.2.2 (hko.2.1.trans z)
    rw [e1, zvLf_0, e2]
  · exact next A' _ σ u.1 _ hR2 hS2 hA' rfl
set_option maxHeartbeats 4000000 in
set_option maxRecDepth 100000 in
theorem lc_row {X : zX} (hX2 : zOK2 X) (hL : zOL X) {b L : Nat} {xs : Nat → Int32} (hE : ∀ U, zE X U → va_X b L xs U U.heap) (hb : b < X.2.2.2.1) (hLm : L ≤ 3072) {i : Int} (hi : 0 ≤ i ∧ i + 6 ≤ (L : Int)) {A : Nat → Nat} {S : Nat → va_E} {σ : CS} {m : CV} {f : Nat → Int64} (hR : zRR σ m) (hS : zvLs X A m f S) {kc ks : Nat} (hr : kc + 2 ≤ 601024 ∧ ks + 12 ≤ 7293034) (next : ∀ (A' : Nat → Nat) (S' : Nat → va_E) (σ' : CS) (m' : CV) (f' : Nat → Int64), zRR σ' m' → zvLs X A' m' f' S' → zvAk A A' → (σ' = σ) → G X mL_law (zLP X b) (kc + 2) (ks + 12) 3056 (zvLv b A' i) [] (zWs A' 113 (zSt X A' σ' S'))) : G X mL_law (zLP X b) kc ks 606 (zvLv b A i) [] (zWs A 113 (zSt X A σ S)) := by
  have hX := hX2.1
  obtain ⟨res, er, u, eu, hR2, hAn⟩ := s_row hR (zvXs_r (xs := xs) (i := i + 1)) (zvXs_r (xs := xs) (i := i + 2))
  have hko := zAn_k hAn (by decide) (by decide)
  refine g_aload_n (M := mL_law) dL_law_606 1 rfl rfl ?_
  refine g_arg hE hb dL_law_607 dL_law_608 dL_law_610 dL_law_611 dL_law_612 rfl rfl ⟨hi.1, by decide, by omega⟩ hLm ?_
  refine g_arg hE hb dL_law_613 dL_law_614 dL_law_616 dL_law_617 dL_law_618 rfl rfl ⟨hi.1, by decide, by omega⟩ hLm ?_
  refine g_aload_n (M := mL_law) dL_law_619 3 rfl rfl ?_
  refine g_callSHQ (M := mL_law) [.ref (A 0), .int (iI (zvXs xs (i + 1))), .int (iI (zvXs xs (i + 2))), .ref (A 112)] hX dL_law_620 rfl (fun h => by cases h) vHL_row kI_L ⟨by decide, by decide⟩ rfl vIL_row kM_L_179 (wL_row hX hL (by decide) (by decide) hS.2 er hko.1) (fun w E h => by obtain ⟨_, _, _, h3⟩ := h; cases h3) rfl ⟨(Nat.le_of_ble_eq_true rfl), (Nat.le_of_ble_eq_true rfl)⟩ ⟨hr.1, hr.2⟩ (Nat.le_of_ble_eq_true rfl) (fun w v hQ => ?_)
  obtain ⟨A', hA', hw, hv⟩ := hQ
  cases hv
  rw [hw]
  have hS1 := zvLs_o (r := res) (zvLs_k hS hA')
  rw [zvLv_k hA']
  refine g_istore (M := mL_law) (lv' := zvLv b A' i ++ [(5, .int (iI (zKo ["java/lang/IndexOutOfBoundsException", "java/lang/IllegalArgumentException"] res)))]) dL_law_623 (by decide) rfl ?_
  refine g_aload_n (M := mL_law) dL_law_625 2 rfl rfl ?_
  refine g_arg hE hb dL_law_626 dL_law_627 dL_law_629 dL_law_630 dL_law_631 rfl rfl ⟨hi.1, by decide, by omega⟩ hLm ?_
  refine g_arg hE hb dL_law_632 dL_law_633 dL_law_635 dL_law_636 dL_law_637 rfl rfl ⟨hi.1, by decide, by omega⟩ hLm ?_
  refine g_callVr (M := mL_law) [.int (iI (zvXs xs (i + 1))), .int (iI (zvXs xs (i + 2)))] hX dL_law_638 vX8_row kM_L_182 (wX8_row hX (zvLs_c hS1) (by decide) eu) 91 (zWs_at (by decide) (zvLs_c hS1).o) rfl ⟨(Nat.le_of_ble_eq_true rfl), (Nat.le_of_ble_eq_true rfl)⟩ ⟨hr.1, hr.2⟩ (Nat.le_of_ble_eq_true rfl) ?_
  rw [zSt_zC]
  have hS2 := zvLs_m (m' := u.1) hS1
  refine g_istore (M := mL_law) (lv' := zvLv b A' i ++ [(5, .int (iI (zKo ["java/lang/IndexOutOfBoundsException", "java/lang/IllegalArgumentException"] res))), (6, .int (iI u.2))]) dL_law_641 (by decide) rfl ?_
  refine lc_tail hX hS2 hko.2.1 (by have h2 := hko.2.2.1; rw [hko.2.1] at h2; exact h2) (fun z => ?_) hr dL_law_643 dL_law_644 dL_law_647 dL_law_649 dL_law_654 dL_law_656 dL_law_659 dL_law_660 dL_law_661 dL_law_662 dL_law_664 dL_law_665 dL_law_666 dL_law_671 (by decide) ?_
  · obtain ⟨v, e1, e2, _⟩ := hko.2.2.2 (hko.2.1.trans z)
    rw [e1, zvLf_0, e2]
  · exact next A' _ σ u.1 _ hR2 hS2 hA' rfl
set_option maxHeartbeats 4000000 in
set_option maxRecDepth 100000 in
theorem lc_letter {X : zX} (hX2 : zOK2 X) (hL : zOL X) {b L : Nat} {xs : Nat → Int32} (hE : ∀ U, zE X U → va_X b L xs U U.heap) (hb : b < X.2.2.2.1) (hLm : L ≤ 3072) {i : Int} (hi : 0 ≤ i ∧ i + 6 ≤ (L : Int)) {A : Nat → Nat} {S : Nat → va_E} {σ : CS} {m : CV} {f : Nat → Int64} (hR : zRR σ m) (hS : zvLs X A m f S) {kc ks : Nat} (hr : kc + 2 ≤ 601024 ∧ ks + 12 ≤ 7293034) (next : ∀ (A' : Nat → Nat) (S' : Nat → va_E) (σ' : CS) (m' : CV) (f' : Nat → Int64), zRR σ' m' → zvLs X A' m' f' S' → zvAk A A' → (σ' = σ) → G X mL_law (zLP X b) (kc + 2) (ks + 12) 3056 (zvLv b A' i) [] (zWs A' 113 (zSt X A' σ' S'))) : G X mL_law (zLP X b) kc ks 674 (zvLv b A i) [] (zWs A 113 (zSt X A σ S)) := by
  have hX := hX2.1
  obtain ⟨res, er, u, eu, hR2, hAn⟩ := s_letter hR (zvXs_r (xs := xs) (i := i + 1)) (zvXs_r (xs := xs) (i := i + 2))
  have hko := zAn_k hAn (by decide) (by decide)
  refine g_aload_n (M := mL_law) dL_law_674 1 rfl rfl ?_
  refine g_arg hE hb dL_law_675 dL_law_676 dL_law_678 dL_law_679 dL_law_680 rfl rfl ⟨hi.1, by decide, by omega⟩ hLm ?_
  refine g_arg hE hb dL_law_681 dL_law_682 dL_law_684 dL_law_685 dL_law_686 rfl rfl ⟨hi.1, by decide, by omega⟩ hLm ?_
  refine g_aload_n (M := mL_law) dL_law_687 3 rfl rfl ?_
  refine g_callSHQ (M := mL_law) [.ref (A 0), .int (iI (zvXs xs (i + 1))), .int (iI (zvXs xs (i + 2))), .ref (A 112)] hX dL_law_688 rfl (fun h => by cases h) vHL_letter kI_L ⟨by decide, by decide⟩ rfl vIL_letter kM_L_183 (wL_letter hX hL (by decide) (by decide) hS.2 er hko.1) (fun w E h => by obtain ⟨_, _, _, h3⟩ := h; cases h3) rfl ⟨(Nat.le_of_ble_eq_true rfl), (Nat.le_of_ble_eq_true rfl)⟩ ⟨hr.1, hr.2⟩ (Nat.le_of_ble_eq_true rfl) (fun w v hQ => ?_)
  obtain ⟨A', hA', hw, hv⟩ := hQ
  cases hv
  rw [hw]
  have hS1 := zvLs_o (r := res) (zvLs_k hS hA')
  rw [zvLv_k hA']
  refine g_istore (M := mL_law) (lv' := zvLv b A' i ++ [(5, .int (iI (zKo ["java/lang/IndexOutOfBoundsException"] res)))]) dL_law_691 (by decide) rfl ?_
  refine g_aload_n (M := mL_law) dL_law_693 2 rfl rfl ?_
  refine g_arg hE hb dL_law_694 dL_law_695 dL_law_697 dL_law_698 dL_law_699 rfl rfl ⟨hi.1, by decide, by omega⟩ hLm ?_
  refine g_arg hE hb dL_law_700 dL_law_701 dL_law_703 dL_law_704 dL_law_705 rfl rfl ⟨hi.1, by decide, by omega⟩ hLm ?_
  refine g_callVr (M := mL_law) [.int (iI (zvXs xs (i + 1))), .int (iI (zvXs xs (i + 2)))] hX dL_law_706 vX8_letter kM_L_185 (wX8_letter hX (zvLs_c hS1) (by decide) eu) 91 (zWs_at (by decide) (zvLs_c hS1).o) rfl ⟨(Nat.le_of_ble_eq_true rfl), (Nat.le_of_ble_eq_true rfl)⟩ ⟨hr.1, hr.2⟩ (Nat.le_of_ble_eq_true rfl) ?_
  rw [zSt_zC]
  have hS2 := zvLs_m (m' := u.1) hS1
  refine g_istore (M := mL_law) (lv' := zvLv b A' i ++ [(5, .int (iI (zKo ["java/lang/IndexOutOfBoundsException"] res))), (6, .int (iI u.2))]) dL_law_709 (by decide) rfl ?_
  refine lc_tail hX hS2 hko.2.1 (by have h2 := hko.2.2.1; rw [hko.2.1] at h2; exact h2) (fun z => ?_) hr dL_law_711 dL_law_712 dL_law_715 dL_law_717 dL_law_722 dL_law_724 dL_law_727 dL_law_728 dL_law_729 dL_law_730 dL_law_732 dL_law_733 dL_law_734 dL_law_739 (by decide) ?_
  · obtain ⟨v, e1, e2, _⟩ := hko.2.2.2 (hko.2.1.trans z)
    rw [e1, zvLf_0, e2]
  · exact next A' _ σ u.1 _ hR2 hS2 hA' rfl
set_option maxHeartbeats 4000000 in
set_option maxRecDepth 100000 in
theorem lc_wordAt {X : zX} (hX2 : zOK2 X) (hL : zOL X) {b L : Nat} {xs : Nat → Int32} (hE : ∀ U, zE X U → va_X b L xs U U.heap) (hb : b < X.2.2.2.1) (hLm : L ≤ 3072) {i : Int} (hi : 0 ≤ i ∧ i + 6 ≤ (L : Int)) {A : Nat → Nat} {S : Nat → va_E} {σ : CS} {m : CV} {f : Nat → Int64} (hR : zRR σ m) (hS : zvLs X A m f S) {kc ks : Nat} (hr : kc + 1 ≤ 601024 ∧ ks + 6 ≤ 7293034) (next : ∀ (A' : Nat → Nat) (S' : Nat → va_E) (σ' : CS) (m' : CV) (f' : Nat → Int64), zRR σ' m' → zvLs X A' m' f' S' → zvAk A A' → (σ' = σ) → G X mL_law (zLP X b) (kc + 1) (ks + 6) 3056 (zvLv b A' i) [] (zWs A' 113 (zSt X A' σ' S'))) : G X mL_law (zLP X b) kc ks 742 (zvLv b A i) [] (zWs A 113 (zSt X A σ S)) := by
  have hX := hX2.1
  obtain ⟨res, er, u, eu, hR2, hAn⟩ := s_wordAt hR (zvXs_r (xs := xs) (i := i + 1)) (zvXs_r (xs := xs) (i := i + 2))
  have hko := zAn_k hAn (by decide) (by decide)
  refine g_aload_n (M := mL_law) dL_law_742 1 rfl rfl ?_
  refine g_arg hE hb dL_law_743 dL_law_744 dL_law_746 dL_law_747 dL_law_748 rfl rfl ⟨hi.1, by decide, by omega⟩ hLm ?_
  refine g_arg hE hb dL_law_749 dL_law_750 dL_law_752 dL_law_753 dL_law_754 rfl rfl ⟨hi.1, by decide, by omega⟩ hLm ?_
  refine g_aload_n (M := mL_law) dL_law_755 3 rfl rfl ?_
  refine g_callSHQ (M := mL_law) [.ref (A 0), .int (iI (zvXs xs (i + 1))), .int (iI (zvXs xs (i + 2))), .ref (A 112)] hX dL_law_756 rfl (fun h => by cases h) vHL_wordAt kI_L ⟨by decide, by decide⟩ rfl vIL_wordAt kM_L_186 (wL_wordAt hX hL (by decide) (by decide) hS.2 er hko.1) (fun w E h => by obtain ⟨_, _, _, h3⟩ := h; cases h3) rfl ⟨(Nat.le_of_ble_eq_true rfl), (Nat.le_of_ble_eq_true rfl)⟩ ⟨hr.1, hr.2⟩ (Nat.le_of_ble_eq_true rfl) (fun w v hQ => ?_)
  obtain ⟨A', hA', hw, hv⟩ := hQ
  cases hv
  rw [hw]
  have hS1 := zvLs_o (r := res) (zvLs_k hS hA')
  rw [zvLv_k hA']
  refine g_istore (M := mL_law) (lv' := zvLv b A' i ++ [(5, .int (iI (zKo ["java/lang/IndexOutOfBoundsException"] res)))]) dL_law_759 (by decide) rfl ?_
  refine g_aload_n (M := mL_law) dL_law_761 2 rfl rfl ?_
  refine g_arg hE hb dL_law_762 dL_law_763 dL_law_765 dL_law_766 dL_law_767 rfl rfl ⟨hi.1, by decide, by omega⟩ hLm ?_
  refine g_arg hE hb dL_law_768 dL_law_769 dL_law_771 dL_law_772 dL_law_773 rfl rfl ⟨hi.1, by decide, by omega⟩ hLm ?_
  refine g_callVr (M := mL_law) [.int (iI (zvXs xs (i + 1))), .int (iI (zvXs xs (i + 2)))] hX dL_law_774 vX8_wordAt kM_L_188 (wX8_wordAt hX (zvLs_c hS1) (by decide) eu) 91 (zWs_at (by decide) (zvLs_c hS1).o) rfl ⟨(Nat.le_of_ble_eq_true rfl), (Nat.le_of_ble_eq_true rfl)⟩ ⟨hr.1, hr.2⟩ (Nat.le_of_ble_eq_true rfl) ?_
  rw [zSt_zC]
  have hS2 := zvLs_m (m' := u.1) hS1
  refine g_istore (M := mL_law) (lv' := zvLv b A' i ++ [(5, .int (iI (zKo ["java/lang/IndexOutOfBoundsException"] res))), (6, .int (iI u.2))]) dL_law_777 (by decide) rfl ?_
  refine lc_tail hX hS2 hko.2.1 (by have h2 := hko.2.2.1; rw [hko.2.1] at h2; exact h2) (fun z => ?_) hr dL_law_779 dL_law_780 dL_law_783 dL_law_785 dL_law_790 dL_law_792 dL_law_795 dL_law_796 dL_law_797 dL_law_798 dL_law_800 dL_law_801 dL_law_802 dL_law_807 (by decide) ?_
  · obtain ⟨v, e1, e2, _⟩ := hko.2.2.2 (hko.2.1.trans z)
    rw [e1, zvLf_0, e2]
  · exact next A' _ σ u.1 _ hR2 hS2 hA' rfl
set_option maxHeartbeats 4000000 in
set_option maxRecDepth 100000 in
theorem lc_differ {X : zX} (hX2 : zOK2 X) (hL : zOL X) {b L : Nat} {xs : Nat → Int32} (hE : ∀ U, zE X U → va_X b L xs U U.heap) (hb : b < X.2.2.2.1) (hLm : L ≤ 3072) {i : Int} (hi : 0 ≤ i ∧ i + 6 ≤ (L : Int)) {A : Nat → Nat} {S : Nat → va_E} {σ : CS} {m : CV} {f : Nat → Int64} (hR : zRR σ m) (hS : zvLs X A m f S) {kc ks : Nat} (hr : kc + 2 ≤ 601024 ∧ ks + 12 ≤ 7293034) (next : ∀ (A' : Nat → Nat) (S' : Nat → va_E) (σ' : CS) (m' : CV) (f' : Nat → Int64), zRR σ' m' → zvLs X A' m' f' S' → zvAk A A' → (σ' = σ) → G X mL_law (zLP X b) (kc + 2) (ks + 12) 3056 (zvLv b A' i) [] (zWs A' 113 (zSt X A' σ' S'))) : G X mL_law (zLP X b) kc ks 810 (zvLv b A i) [] (zWs A 113 (zSt X A σ S)) := by
  have hX := hX2.1
  obtain ⟨res, er, u, eu, hR2, hAn⟩ := s_differ hR (zvXs_r (xs := xs) (i := i + 1)) (zvXs_r (xs := xs) (i := i + 2))
  have hko := zAn_k hAn (by decide) (by decide)
  refine g_aload_n (M := mL_law) dL_law_810 1 rfl rfl ?_
  refine g_arg hE hb dL_law_811 dL_law_812 dL_law_814 dL_law_815 dL_law_816 rfl rfl ⟨hi.1, by decide, by omega⟩ hLm ?_
  refine g_arg hE hb dL_law_817 dL_law_818 dL_law_820 dL_law_821 dL_law_822 rfl rfl ⟨hi.1, by decide, by omega⟩ hLm ?_
  refine g_aload_n (M := mL_law) dL_law_823 3 rfl rfl ?_
  refine g_callSHQ (M := mL_law) [.ref (A 0), .int (iI (zvXs xs (i + 1))), .int (iI (zvXs xs (i + 2))), .ref (A 112)] hX dL_law_824 rfl (fun h => by cases h) vHL_differ kI_L ⟨by decide, by decide⟩ rfl vIL_differ kM_L_189 (wL_differ hX hL (by decide) (by decide) hS.2 er hko.1) (fun w E h => by obtain ⟨_, _, _, h3⟩ := h; cases h3) rfl ⟨(Nat.le_of_ble_eq_true rfl), (Nat.le_of_ble_eq_true rfl)⟩ ⟨hr.1, hr.2⟩ (Nat.le_of_ble_eq_true rfl) (fun w v hQ => ?_)
  obtain ⟨A', hA', hw, hv⟩ := hQ
  cases hv
  rw [hw]
  have hS1 := zvLs_o (r := res) (zvLs_k hS hA')
  rw [zvLv_k hA']
  refine g_istore (M := mL_law) (lv' := zvLv b A' i ++ [(5, .int (iI (zKo ["java/lang/IndexOutOfBoundsException"] res)))]) dL_law_827 (by decide) rfl ?_
  refine g_aload_n (M := mL_law) dL_law_829 2 rfl rfl ?_
  refine g_arg hE hb dL_law_830 dL_law_831 dL_law_833 dL_law_834 dL_law_835 rfl rfl ⟨hi.1, by decide, by omega⟩ hLm ?_
  refine g_arg hE hb dL_law_836 dL_law_837 dL_law_839 dL_law_840 dL_law_841 rfl rfl ⟨hi.1, by decide, by omega⟩ hLm ?_
  refine g_callVr (M := mL_law) [.int (iI (zvXs xs (i + 1))), .int (iI (zvXs xs (i + 2)))] hX dL_law_842 vX8_differ kM_L_191 (wX8_differ hX (zvLs_c hS1) (by decide) eu) 91 (zWs_at (by decide) (zvLs_c hS1).o) rfl ⟨(Nat.le_of_ble_eq_true rfl), (Nat.le_of_ble_eq_true rfl)⟩ ⟨hr.1, hr.2⟩ (Nat.le_of_ble_eq_true rfl) ?_
  rw [zSt_zC]
  have hS2 := zvLs_m (m' := u.1) hS1
  refine g_istore (M := mL_law) (lv' := zvLv b A' i ++ [(5, .int (iI (zKo ["java/lang/IndexOutOfBoundsException"] res))), (6, .int (iI u.2))]) dL_law_845 (by decide) rfl ?_
  refine lc_tail hX hS2 hko.2.1 (by have h2 := hko.2.2.1; rw [hko.2.1] at h2; exact h2) (fun z => ?_) hr dL_law_847 dL_law_848 dL_law_851 dL_law_853 dL_law_858 dL_law_860 dL_law_863 dL_law_864 dL_law_865 dL_law_866 dL_law_868 dL_law_869 dL_law_870 dL_law_875 (by decide) ?_
  · obtain ⟨v, e1, e2, _⟩ := hko.2.2.2 (hko.2.1.trans z)
    rw [e1, zvLf_0, e2]
  · exact next A' _ σ u.1 _ hR2 hS2 hA' rfl
set_option maxHeartbeats 4000000 in
set_option maxRecDepth 100000 in
theorem lc_distance {X : zX} (hX2 : zOK2 X) (hL : zOL X) {b L : Nat} {xs : Nat → Int32} (hE : ∀ U, zE X U → va_X b L xs U U.heap) (hb : b < X.2.2.2.1) (hLm : L ≤ 3072) {i : Int} (hi : 0 ≤ i ∧ i + 6 ≤ (L : Int)) {A : Nat → Nat} {S : Nat → va_E} {σ : CS} {m : CV} {f : Nat → Int64} (hR : zRR σ m) (hS : zvLs X A m f S) {kc ks : Nat} (hr : kc + 2 ≤ 601024 ∧ ks + 12 ≤ 7293034) (next : ∀ (A' : Nat → Nat) (S' : Nat → va_E) (σ' : CS) (m' : CV) (f' : Nat → Int64), zRR σ' m' → zvLs X A' m' f' S' → zvAk A A' → (σ' = σ) → G X mL_law (zLP X b) (kc + 2) (ks + 12) 3056 (zvLv b A' i) [] (zWs A' 113 (zSt X A' σ' S'))) : G X mL_law (zLP X b) kc ks 878 (zvLv b A i) [] (zWs A 113 (zSt X A σ S)) := by
  have hX := hX2.1
  obtain ⟨res, er, u, eu, hR2, hAn⟩ := s_distance hR (zvXs_r (xs := xs) (i := i + 1)) (zvXs_r (xs := xs) (i := i + 2))
  have hko := zAn_k hAn (by decide) (by decide)
  refine g_aload_n (M := mL_law) dL_law_878 1 rfl rfl ?_
  refine g_arg hE hb dL_law_879 dL_law_880 dL_law_882 dL_law_883 dL_law_884 rfl rfl ⟨hi.1, by decide, by omega⟩ hLm ?_
  refine g_arg hE hb dL_law_885 dL_law_886 dL_law_888 dL_law_889 dL_law_890 rfl rfl ⟨hi.1, by decide, by omega⟩ hLm ?_
  refine g_aload_n (M := mL_law) dL_law_891 3 rfl rfl ?_
  refine g_callSHQ (M := mL_law) [.ref (A 0), .int (iI (zvXs xs (i + 1))), .int (iI (zvXs xs (i + 2))), .ref (A 112)] hX dL_law_892 rfl (fun h => by cases h) vHL_distance kI_L ⟨by decide, by decide⟩ rfl vIL_distance kM_L_192 (wL_distance hX hL (by decide) (by decide) hS.2 er hko.1) (fun w E h => by obtain ⟨_, _, _, h3⟩ := h; cases h3) rfl ⟨(Nat.le_of_ble_eq_true rfl), (Nat.le_of_ble_eq_true rfl)⟩ ⟨hr.1, hr.2⟩ (Nat.le_of_ble_eq_true rfl) (fun w v hQ => ?_)
  obtain ⟨A', hA', hw, hv⟩ := hQ
  cases hv
  rw [hw]
  have hS1 := zvLs_o (r := res) (zvLs_k hS hA')
  rw [zvLv_k hA']
  refine g_istore (M := mL_law) (lv' := zvLv b A' i ++ [(5, .int (iI (zKo ["java/lang/IndexOutOfBoundsException"] res)))]) dL_law_895 (by decide) rfl ?_
  refine g_aload_n (M := mL_law) dL_law_897 2 rfl rfl ?_
  refine g_arg hE hb dL_law_898 dL_law_899 dL_law_901 dL_law_902 dL_law_903 rfl rfl ⟨hi.1, by decide, by omega⟩ hLm ?_
  refine g_arg hE hb dL_law_904 dL_law_905 dL_law_907 dL_law_908 dL_law_909 rfl rfl ⟨hi.1, by decide, by omega⟩ hLm ?_
  refine g_callVr (M := mL_law) [.int (iI (zvXs xs (i + 1))), .int (iI (zvXs xs (i + 2)))] hX dL_law_910 vX8_distance kM_L_194 (wX8_distance hX (zvLs_c hS1) (by decide) eu) 91 (zWs_at (by decide) (zvLs_c hS1).o) rfl ⟨(Nat.le_of_ble_eq_true rfl), (Nat.le_of_ble_eq_true rfl)⟩ ⟨hr.1, hr.2⟩ (Nat.le_of_ble_eq_true rfl) ?_
  rw [zSt_zC]
  have hS2 := zvLs_m (m' := u.1) hS1
  refine g_istore (M := mL_law) (lv' := zvLv b A' i ++ [(5, .int (iI (zKo ["java/lang/IndexOutOfBoundsException"] res))), (6, .int (iI u.2))]) dL_law_913 (by decide) rfl ?_
  refine lc_tail hX hS2 hko.2.1 (by have h2 := hko.2.2.1; rw [hko.2.1] at h2; exact h2) (fun z => ?_) hr dL_law_915 dL_law_916 dL_law_919 dL_law_921 dL_law_926 dL_law_928 dL_law_931 dL_law_932 dL_law_933 dL_law_934 dL_law_936 dL_law_937 dL_law_938 dL_law_943 (by decide) ?_
  · obtain ⟨v, e1, e2, _⟩ := hko.2.2.2 (hko.2.1.trans z)
    rw [e1, zvLf_0, e2]
  · exact next A' _ σ u.1 _ hR2 hS2 hA' rfl
set_option maxHeartbeats 4000000 in
set_option maxRecDepth 100000 in
theorem lc_score {X : zX} (hX2 : zOK2 X) (hL : zOL X) {b L : Nat} {xs : Nat → Int32} (hE : ∀ U, zE X U → va_X b L xs U U.heap) (hb : b < X.2.2.2.1) (hLm : L ≤ 3072) {i : Int} (hi : 0 ≤ i ∧ i + 6 ≤ (L : Int)) {A : Nat → Nat} {S : Nat → va_E} {σ : CS} {m : CV} {f : Nat → Int64} (hR : zRR σ m) (hS : zvLs X A m f S) {kc ks : Nat} (hr : kc + 1 ≤ 601024 ∧ ks + 6 ≤ 7293034) (next : ∀ (A' : Nat → Nat) (S' : Nat → va_E) (σ' : CS) (m' : CV) (f' : Nat → Int64), zRR σ' m' → zvLs X A' m' f' S' → zvAk A A' → (σ' = σ) → G X mL_law (zLP X b) (kc + 1) (ks + 6) 3056 (zvLv b A' i) [] (zWs A' 113 (zSt X A' σ' S'))) : G X mL_law (zLP X b) kc ks 946 (zvLv b A i) [] (zWs A 113 (zSt X A σ S)) := by
  have hX := hX2.1
  obtain ⟨res, er, u, eu, hR2, hAn⟩ := s_score hR (zvXs_r (xs := xs) (i := i + 1))
  have hko := zAn_k hAn (by decide) (by decide)
  refine g_aload_n (M := mL_law) dL_law_946 1 rfl rfl ?_
  refine g_arg hE hb dL_law_947 dL_law_948 dL_law_950 dL_law_951 dL_law_952 rfl rfl ⟨hi.1, by decide, by omega⟩ hLm ?_
  refine g_aload_n (M := mL_law) dL_law_953 3 rfl rfl ?_
  refine g_callSHQ (M := mL_law) [.ref (A 0), .int (iI (zvXs xs (i + 1))), .ref (A 112)] hX dL_law_954 rfl (fun h => by cases h) vHL_score kI_L ⟨by decide, by decide⟩ rfl vIL_score kM_L_195 (wL_score hX hL (by decide) (by decide) hS.2 er hko.1) (fun w E h => by obtain ⟨_, _, _, h3⟩ := h; cases h3) rfl ⟨(Nat.le_of_ble_eq_true rfl), (Nat.le_of_ble_eq_true rfl)⟩ ⟨hr.1, hr.2⟩ (Nat.le_of_ble_eq_true rfl) (fun w v hQ => ?_)
  obtain ⟨A', hA', hw, hv⟩ := hQ
  cases hv
  rw [hw]
  have hS1 := zvLs_o (r := res) (zvLs_k hS hA')
  rw [zvLv_k hA']
  refine g_istore (M := mL_law) (lv' := zvLv b A' i ++ [(5, .int (iI (zKo ["java/lang/IndexOutOfBoundsException"] res)))]) dL_law_957 (by decide) rfl ?_
  refine g_aload_n (M := mL_law) dL_law_959 2 rfl rfl ?_
  refine g_arg hE hb dL_law_960 dL_law_961 dL_law_963 dL_law_964 dL_law_965 rfl rfl ⟨hi.1, by decide, by omega⟩ hLm ?_
  refine g_callVr (M := mL_law) [.int (iI (zvXs xs (i + 1)))] hX dL_law_966 vX8_score kM_L_197 (wX8_score hX (zvLs_c hS1) (by decide) eu) 91 (zWs_at (by decide) (zvLs_c hS1).o) rfl ⟨(Nat.le_of_ble_eq_true rfl), (Nat.le_of_ble_eq_true rfl)⟩ ⟨hr.1, hr.2⟩ (Nat.le_of_ble_eq_true rfl) ?_
  rw [zSt_zC]
  have hS2 := zvLs_m (m' := u.1) hS1
  refine g_istore (M := mL_law) (lv' := zvLv b A' i ++ [(5, .int (iI (zKo ["java/lang/IndexOutOfBoundsException"] res))), (6, .int (iI u.2))]) dL_law_969 (by decide) rfl ?_
  refine lc_tail hX hS2 hko.2.1 (by have h2 := hko.2.2.1; rw [hko.2.1] at h2; exact h2) (fun z => ?_) hr dL_law_971 dL_law_972 dL_law_975 dL_law_977 dL_law_982 dL_law_984 dL_law_987 dL_law_988 dL_law_989 dL_law_990 dL_law_992 dL_law_993 dL_law_994 dL_law_999 (by decide) ?_
  · obtain ⟨v, e1, e2, _⟩ := hko.2.2.2 (hko.2.1.trans z)
    rw [e1, zvLf_0, e2]
  · exact next A' _ σ u.1 _ hR2 hS2 hA' rfl
set_option maxHeartbeats 4000000 in
set_option maxRecDepth 100000 in
theorem lc_having {X : zX} (hX2 : zOK2 X) (hL : zOL X) {b L : Nat} {xs : Nat → Int32} (hE : ∀ U, zE X U → va_X b L xs U U.heap) (hb : b < X.2.2.2.1) (hLm : L ≤ 3072) {i : Int} (hi : 0 ≤ i ∧ i + 6 ≤ (L : Int)) {A : Nat → Nat} {S : Nat → va_E} {σ : CS} {m : CV} {f : Nat → Int64} (hR : zRR σ m) (hS : zvLs X A m f S) {kc ks : Nat} (hr : kc + 1 ≤ 601024 ∧ ks + 6 ≤ 7293034) (next : ∀ (A' : Nat → Nat) (S' : Nat → va_E) (σ' : CS) (m' : CV) (f' : Nat → Int64), zRR σ' m' → zvLs X A' m' f' S' → zvAk A A' → (σ' = σ) → G X mL_law (zLP X b) (kc + 1) (ks + 6) 3056 (zvLv b A' i) [] (zWs A' 113 (zSt X A' σ' S'))) : G X mL_law (zLP X b) kc ks 1002 (zvLv b A i) [] (zWs A 113 (zSt X A σ S)) := by
  have hX := hX2.1
  obtain ⟨res, er, u, eu, hR2, hAn⟩ := s_having hR (zvXs_r (xs := xs) (i := i + 1))
  have hko := zAn_k hAn (by decide) (by decide)
  refine g_aload_n (M := mL_law) dL_law_1002 1 rfl rfl ?_
  refine g_arg hE hb dL_law_1003 dL_law_1004 dL_law_1006 dL_law_1007 dL_law_1008 rfl rfl ⟨hi.1, by decide, by omega⟩ hLm ?_
  refine g_aload_n (M := mL_law) dL_law_1009 3 rfl rfl ?_
  refine g_callSHQ (M := mL_law) [.ref (A 0), .int (iI (zvXs xs (i + 1))), .ref (A 112)] hX dL_law_1010 rfl (fun h => by cases h) vHL_having kI_L ⟨by decide, by decide⟩ rfl vIL_having kM_L_198 (wL_having hX hL (by decide) (by decide) hS.2 er hko.1) (fun w E h => by obtain ⟨_, _, _, h3⟩ := h; cases h3) rfl ⟨(Nat.le_of_ble_eq_true rfl), (Nat.le_of_ble_eq_true rfl)⟩ ⟨hr.1, hr.2⟩ (Nat.le_of_ble_eq_true rfl) (fun w v hQ => ?_)
  obtain ⟨A', hA', hw, hv⟩ := hQ
  cases hv
  rw [hw]
  have hS1 := zvLs_o (r := res) (zvLs_k hS hA')
  rw [zvLv_k hA']
  refine g_istore (M := mL_law) (lv' := zvLv b A' i ++ [(5, .int (iI (zKo ["java/lang/IndexOutOfBoundsException"] res)))]) dL_law_1013 (by decide) rfl ?_
  refine g_aload_n (M := mL_law) dL_law_1015 2 rfl rfl ?_
  refine g_arg hE hb dL_law_1016 dL_law_1017 dL_law_1019 dL_law_1020 dL_law_1021 rfl rfl ⟨hi.1, by decide, by omega⟩ hLm ?_
  refine g_callVr (M := mL_law) [.int (iI (zvXs xs (i + 1)))] hX dL_law_1022 vX8_having kM_L_200 (wX8_having hX (zvLs_c hS1) (by decide) eu) 91 (zWs_at (by decide) (zvLs_c hS1).o) rfl ⟨(Nat.le_of_ble_eq_true rfl), (Nat.le_of_ble_eq_true rfl)⟩ ⟨hr.1, hr.2⟩ (Nat.le_of_ble_eq_true rfl) ?_
  rw [zSt_zC]
  have hS2 := zvLs_m (m' := u.1) hS1
  refine g_istore (M := mL_law) (lv' := zvLv b A' i ++ [(5, .int (iI (zKo ["java/lang/IndexOutOfBoundsException"] res))), (6, .int (iI u.2))]) dL_law_1025 (by decide) rfl ?_
  refine lc_tail hX hS2 hko.2.1 (by have h2 := hko.2.2.1; rw [hko.2.1] at h2; exact h2) (fun z => ?_) hr dL_law_1027 dL_law_1028 dL_law_1031 dL_law_1033 dL_law_1038 dL_law_1040 dL_law_1043 dL_law_1044 dL_law_1045 dL_law_1046 dL_law_1048 dL_law_1049 dL_law_1050 dL_law_1055 (by decide) ?_
  · obtain ⟨v, e1, e2, _⟩ := hko.2.2.2 (hko.2.1.trans z)
    rw [e1, zvLf_0, e2]
  · exact next A' _ σ u.1 _ hR2 hS2 hA' rfl
set_option maxHeartbeats 4000000 in
set_option maxRecDepth 100000 in
theorem lc_closest {X : zX} (hX2 : zOK2 X) (hL : zOL X) {b L : Nat} {xs : Nat → Int32} (hE : ∀ U, zE X U → va_X b L xs U U.heap) (hb : b < X.2.2.2.1) (hLm : L ≤ 3072) {i : Int} (hi : 0 ≤ i ∧ i + 6 ≤ (L : Int)) {A : Nat → Nat} {S : Nat → va_E} {σ : CS} {m : CV} {f : Nat → Int64} (hR : zRR σ m) (hS : zvLs X A m f S) {kc ks : Nat} (hr : kc + 2 ≤ 601024 ∧ ks + 12 ≤ 7293034) (next : ∀ (A' : Nat → Nat) (S' : Nat → va_E) (σ' : CS) (m' : CV) (f' : Nat → Int64), zRR σ' m' → zvLs X A' m' f' S' → zvAk A A' → (σ' = σ) → G X mL_law (zLP X b) (kc + 2) (ks + 12) 3056 (zvLv b A' i) [] (zWs A' 113 (zSt X A' σ' S'))) : G X mL_law (zLP X b) kc ks 1058 (zvLv b A i) [] (zWs A 113 (zSt X A σ S)) := by
  have hX := hX2.1
  obtain ⟨res, er, u, eu, hR2, hAn⟩ := s_closest hR (zvXs_r (xs := xs) (i := i + 1)) (zvXs_r (xs := xs) (i := i + 2))
  have hko := zAn_k hAn (by decide) (by decide)
  refine g_aload_n (M := mL_law) dL_law_1058 1 rfl rfl ?_
  refine g_arg hE hb dL_law_1059 dL_law_1060 dL_law_1062 dL_law_1063 dL_law_1064 rfl rfl ⟨hi.1, by decide, by omega⟩ hLm ?_
  refine g_arg hE hb dL_law_1065 dL_law_1066 dL_law_1068 dL_law_1069 dL_law_1070 rfl rfl ⟨hi.1, by decide, by omega⟩ hLm ?_
  refine g_aload_n (M := mL_law) dL_law_1071 3 rfl rfl ?_
  refine g_callSHQ (M := mL_law) [.ref (A 0), .int (iI (zvXs xs (i + 1))), .int (iI (zvXs xs (i + 2))), .ref (A 112)] hX dL_law_1072 rfl (fun h => by cases h) vHL_closest kI_L ⟨by decide, by decide⟩ rfl vIL_closest kM_L_201 (wL_closest hX hL (by decide) (by decide) hS.2 er hko.1) (fun w E h => by obtain ⟨_, _, _, h3⟩ := h; cases h3) rfl ⟨(Nat.le_of_ble_eq_true rfl), (Nat.le_of_ble_eq_true rfl)⟩ ⟨hr.1, hr.2⟩ (Nat.le_of_ble_eq_true rfl) (fun w v hQ => ?_)
  obtain ⟨A', hA', hw, hv⟩ := hQ
  cases hv
  rw [hw]
  have hS1 := zvLs_o (r := res) (zvLs_k hS hA')
  rw [zvLv_k hA']
  refine g_istore (M := mL_law) (lv' := zvLv b A' i ++ [(5, .int (iI (zKo ["java/lang/IndexOutOfBoundsException"] res)))]) dL_law_1075 (by decide) rfl ?_
  refine g_aload_n (M := mL_law) dL_law_1077 2 rfl rfl ?_
  refine g_arg hE hb dL_law_1078 dL_law_1079 dL_law_1081 dL_law_1082 dL_law_1083 rfl rfl ⟨hi.1, by decide, by omega⟩ hLm ?_
  refine g_arg hE hb dL_law_1084 dL_law_1085 dL_law_1087 dL_law_1088 dL_law_1089 rfl rfl ⟨hi.1, by decide, by omega⟩ hLm ?_
  refine g_callVr (M := mL_law) [.int (iI (zvXs xs (i + 1))), .int (iI (zvXs xs (i + 2)))] hX dL_law_1090 vX8_closest kM_L_203 (wX8_closest hX (zvLs_c hS1) (by decide) eu) 91 (zWs_at (by decide) (zvLs_c hS1).o) rfl ⟨(Nat.le_of_ble_eq_true rfl), (Nat.le_of_ble_eq_true rfl)⟩ ⟨hr.1, hr.2⟩ (Nat.le_of_ble_eq_true rfl) ?_
  rw [zSt_zC]
  have hS2 := zvLs_m (m' := u.1) hS1
  refine g_istore (M := mL_law) (lv' := zvLv b A' i ++ [(5, .int (iI (zKo ["java/lang/IndexOutOfBoundsException"] res))), (6, .int (iI u.2))]) dL_law_1093 (by decide) rfl ?_
  refine lc_tail hX hS2 hko.2.1 (by have h2 := hko.2.2.1; rw [hko.2.1] at h2; exact h2) (fun z => ?_) hr dL_law_1095 dL_law_1096 dL_law_1099 dL_law_1101 dL_law_1106 dL_law_1108 dL_law_1111 dL_law_1112 dL_law_1113 dL_law_1114 dL_law_1116 dL_law_1117 dL_law_1118 dL_law_1123 (by decide) ?_
  · obtain ⟨v, e1, e2, _⟩ := hko.2.2.2 (hko.2.1.trans z)
    rw [e1, zvLf_0, e2]
  · exact next A' _ σ u.1 _ hR2 hS2 hA' rfl
set_option maxHeartbeats 4000000 in
set_option maxRecDepth 100000 in
theorem lc_spread {X : zX} (hX2 : zOK2 X) (hL : zOL X) {b L : Nat} {xs : Nat → Int32} (hE : ∀ U, zE X U → va_X b L xs U U.heap) (hb : b < X.2.2.2.1) (hLm : L ≤ 3072) {i : Int} (hi : 0 ≤ i ∧ i + 6 ≤ (L : Int)) {A : Nat → Nat} {S : Nat → va_E} {σ : CS} {m : CV} {f : Nat → Int64} (hR : zRR σ m) (hS : zvLs X A m f S) {kc ks : Nat} (hr : kc + 1 ≤ 601024 ∧ ks + 6 ≤ 7293034) (next : ∀ (A' : Nat → Nat) (S' : Nat → va_E) (σ' : CS) (m' : CV) (f' : Nat → Int64), zRR σ' m' → zvLs X A' m' f' S' → zvAk A A' → (σ' = σ) → G X mL_law (zLP X b) (kc + 1) (ks + 6) 3056 (zvLv b A' i) [] (zWs A' 113 (zSt X A' σ' S'))) : G X mL_law (zLP X b) kc ks 1126 (zvLv b A i) [] (zWs A 113 (zSt X A σ S)) := by
  have hX := hX2.1
  obtain ⟨res, er, u, eu, hR2, hAn⟩ := s_spread hR (zvXs_r (xs := xs) (i := i + 1))
  have hko := zAn_k hAn (by decide) (by decide)
  refine g_aload_n (M := mL_law) dL_law_1126 1 rfl rfl ?_
  refine g_arg hE hb dL_law_1127 dL_law_1128 dL_law_1130 dL_law_1131 dL_law_1132 rfl rfl ⟨hi.1, by decide, by omega⟩ hLm ?_
  refine g_aload_n (M := mL_law) dL_law_1133 3 rfl rfl ?_
  refine g_callSHQ (M := mL_law) [.ref (A 0), .int (iI (zvXs xs (i + 1))), .ref (A 112)] hX dL_law_1134 rfl (fun h => by cases h) vHL_spread kI_L ⟨by decide, by decide⟩ rfl vIL_spread kM_L_204 (wL_spread hX hL (by decide) (by decide) hS.2 er hko.1) (fun w E h => by obtain ⟨_, _, _, h3⟩ := h; cases h3) rfl ⟨(Nat.le_of_ble_eq_true rfl), (Nat.le_of_ble_eq_true rfl)⟩ ⟨hr.1, hr.2⟩ (Nat.le_of_ble_eq_true rfl) (fun w v hQ => ?_)
  obtain ⟨A', hA', hw, hv⟩ := hQ
  cases hv
  rw [hw]
  have hS1 := zvLs_o (r := res) (zvLs_k hS hA')
  rw [zvLv_k hA']
  refine g_istore (M := mL_law) (lv' := zvLv b A' i ++ [(5, .int (iI (zKo ["java/lang/IndexOutOfBoundsException"] res)))]) dL_law_1137 (by decide) rfl ?_
  refine g_aload_n (M := mL_law) dL_law_1139 2 rfl rfl ?_
  refine g_arg hE hb dL_law_1140 dL_law_1141 dL_law_1143 dL_law_1144 dL_law_1145 rfl rfl ⟨hi.1, by decide, by omega⟩ hLm ?_
  refine g_callVr (M := mL_law) [.int (iI (zvXs xs (i + 1)))] hX dL_law_1146 vX8_spread kM_L_206 (wX8_spread hX (zvLs_c hS1) (by decide) eu) 91 (zWs_at (by decide) (zvLs_c hS1).o) rfl ⟨(Nat.le_of_ble_eq_true rfl), (Nat.le_of_ble_eq_true rfl)⟩ ⟨hr.1, hr.2⟩ (Nat.le_of_ble_eq_true rfl) ?_
  rw [zSt_zC]
  have hS2 := zvLs_m (m' := u.1) hS1
  refine g_istore (M := mL_law) (lv' := zvLv b A' i ++ [(5, .int (iI (zKo ["java/lang/IndexOutOfBoundsException"] res))), (6, .int (iI u.2))]) dL_law_1149 (by decide) rfl ?_
  refine lc_tail hX hS2 hko.2.1 (by have h2 := hko.2.2.1; rw [hko.2.1] at h2; exact h2) (fun z => ?_) hr dL_law_1151 dL_law_1152 dL_law_1155 dL_law_1157 dL_law_1162 dL_law_1164 dL_law_1167 dL_law_1168 dL_law_1169 dL_law_1170 dL_law_1172 dL_law_1173 dL_law_1174 dL_law_1179 (by decide) ?_
  · obtain ⟨v, e1, e2, _⟩ := hko.2.2.2 (hko.2.1.trans z)
    rw [e1, zvLf_0, e2]
  · exact next A' _ σ u.1 _ hR2 hS2 hA' rfl
set_option maxHeartbeats 4000000 in
set_option maxRecDepth 100000 in
theorem lc_shared {X : zX} (hX2 : zOK2 X) (hL : zOL X) {b L : Nat} {xs : Nat → Int32} (hE : ∀ U, zE X U → va_X b L xs U U.heap) (hb : b < X.2.2.2.1) (hLm : L ≤ 3072) {i : Int} (hi : 0 ≤ i ∧ i + 6 ≤ (L : Int)) {A : Nat → Nat} {S : Nat → va_E} {σ : CS} {m : CV} {f : Nat → Int64} (hR : zRR σ m) (hS : zvLs X A m f S) {kc ks : Nat} (hr : kc + (3 + zNt (σ 10) (σ 4)) ≤ 601024 ∧ ks + (18 + 4096 * zNt (σ 10) (σ 4)) ≤ 7293034) (next : ∀ (A' : Nat → Nat) (S' : Nat → va_E) (σ' : CS) (m' : CV) (f' : Nat → Int64), zRR σ' m' → zvLs X A' m' f' S' → zvAk A A' → (∃ r, fX7_shared σ (zvXs xs (i + 1)) (zvXs xs (i + 2)) = some (σ', r)) → G X mL_law (zLP X b) (kc + (3 + zNt (σ 10) (σ 4))) (ks + (18 + 4096 * zNt (σ 10) (σ 4))) 3056 (zvLv b A' i) [] (zWs A' 113 (zSt X A' σ' S'))) : G X mL_law (zLP X b) kc ks 1182 (zvLv b A i) [] (zWs A 113 (zSt X A σ S)) := by
  have hX := hX2.1
  obtain ⟨res, er, u, eu, hR2, hAn⟩ := s_shared hR (zvXs_r (xs := xs) (i := i + 1)) (zvXs_r (xs := xs) (i := i + 2))
  have hko := zAn_k hAn (by decide) (by decide)
  refine g_aload_n (M := mL_law) dL_law_1182 1 rfl rfl ?_
  refine g_arg hE hb dL_law_1183 dL_law_1184 dL_law_1186 dL_law_1187 dL_law_1188 rfl rfl ⟨hi.1, by decide, by omega⟩ hLm ?_
  refine g_arg hE hb dL_law_1189 dL_law_1190 dL_law_1192 dL_law_1193 dL_law_1194 rfl rfl ⟨hi.1, by decide, by omega⟩ hLm ?_
  refine g_aload_n (M := mL_law) dL_law_1195 3 rfl rfl ?_
  refine g_callSHQ (M := mL_law) [.ref (A 0), .int (iI (zvXs xs (i + 1))), .int (iI (zvXs xs (i + 2))), .ref (A 112)] hX dL_law_1196 rfl (fun h => by cases h) vHL_shared kI_L ⟨by decide, by decide⟩ rfl vIL_shared kM_L_207 (wL_shared hX hL (by decide) (by decide) hS.2 er hko.1) (fun w E h => by obtain ⟨_, _, _, h3⟩ := h; cases h3) rfl ⟨(Nat.le_of_ble_eq_true rfl), (Nat.le_of_ble_eq_true rfl)⟩ ⟨hr.1, hr.2⟩ (Nat.le_of_ble_eq_true rfl) (fun w v hQ => ?_)
  obtain ⟨A', hA', hw, hv⟩ := hQ
  cases hv
  rw [hw]
  have hS1 := zvLs_o (r := res.2) (zvLs_k hS hA')
  rw [zvLv_k hA']
  refine g_istore (M := mL_law) (lv' := zvLv b A' i ++ [(5, .int (iI (zKo ["java/lang/IndexOutOfBoundsException"] res.2)))]) dL_law_1199 (by decide) rfl ?_
  refine g_aload_n (M := mL_law) dL_law_1201 2 rfl rfl ?_
  refine g_arg hE hb dL_law_1202 dL_law_1203 dL_law_1205 dL_law_1206 dL_law_1207 rfl rfl ⟨hi.1, by decide, by omega⟩ hLm ?_
  refine g_arg hE hb dL_law_1208 dL_law_1209 dL_law_1211 dL_law_1212 dL_law_1213 rfl rfl ⟨hi.1, by decide, by omega⟩ hLm ?_
  refine g_callVr (M := mL_law) [.int (iI (zvXs xs (i + 1))), .int (iI (zvXs xs (i + 2)))] hX dL_law_1214 vX8_shared kM_L_209 (wX8_shared hX (zvLs_c hS1) (by decide) eu) 91 (zWs_at (by decide) (zvLs_c hS1).o) rfl ⟨(Nat.le_of_ble_eq_true rfl), (Nat.le_of_ble_eq_true rfl)⟩ ⟨hr.1, hr.2⟩ (Nat.le_of_ble_eq_true rfl) ?_
  rw [zSt_zC]
  have hS2 := zvLs_m (m' := u.1) hS1
  refine g_istore (M := mL_law) (lv' := zvLv b A' i ++ [(5, .int (iI (zKo ["java/lang/IndexOutOfBoundsException"] res.2))), (6, .int (iI u.2))]) dL_law_1217 (by decide) rfl ?_
  refine lc_tail hX hS2 hko.2.1 (by have h2 := hko.2.2.1; rw [hko.2.1] at h2; exact h2) (fun z => ?_) hr dL_law_1219 dL_law_1220 dL_law_1223 dL_law_1225 dL_law_1230 dL_law_1232 dL_law_1235 dL_law_1236 dL_law_1237 dL_law_1238 dL_law_1240 dL_law_1241 dL_law_1242 dL_law_1247 (by decide) ?_
  · obtain ⟨v, e1, e2, _⟩ := hko.2.2.2 (hko.2.1.trans z)
    rw [e1, zvLf_0, e2]
  · exact next A' _ res.1 u.1 _ hR2 hS2 hA' ⟨res.2, er⟩
set_option maxHeartbeats 4000000 in
set_option maxRecDepth 100000 in
theorem lc_sharedAt {X : zX} (hX2 : zOK2 X) (hL : zOL X) {b L : Nat} {xs : Nat → Int32} (hE : ∀ U, zE X U → va_X b L xs U U.heap) (hb : b < X.2.2.2.1) (hLm : L ≤ 3072) {i : Int} (hi : 0 ≤ i ∧ i + 6 ≤ (L : Int)) {A : Nat → Nat} {S : Nat → va_E} {σ : CS} {m : CV} {f : Nat → Int64} (hR : zRR σ m) (hS : zvLs X A m f S) {kc ks : Nat} (hr : kc + (3 + zNt (σ 10) (σ 4)) ≤ 601024 ∧ ks + (18 + 4096 * zNt (σ 10) (σ 4)) ≤ 7293034) (next : ∀ (A' : Nat → Nat) (S' : Nat → va_E) (σ' : CS) (m' : CV) (f' : Nat → Int64), zRR σ' m' → zvLs X A' m' f' S' → zvAk A A' → (∃ r, fX7_sharedAt σ (zvXs xs (i + 1)) (zvXs xs (i + 2)) (zvXs xs (i + 3)) = some (σ', r)) → G X mL_law (zLP X b) (kc + (3 + zNt (σ 10) (σ 4))) (ks + (18 + 4096 * zNt (σ 10) (σ 4))) 3056 (zvLv b A' i) [] (zWs A' 113 (zSt X A' σ' S'))) : G X mL_law (zLP X b) kc ks 1250 (zvLv b A i) [] (zWs A 113 (zSt X A σ S)) := by
  have hX := hX2.1
  obtain ⟨res, er, u, eu, hR2, hAn⟩ := s_sharedAt hR (zvXs_r (xs := xs) (i := i + 1)) (zvXs_r (xs := xs) (i := i + 2)) (zvXs_r (xs := xs) (i := i + 3))
  have hko := zAn_k hAn (by decide) (by decide)
  refine g_aload_n (M := mL_law) dL_law_1250 1 rfl rfl ?_
  refine g_arg hE hb dL_law_1251 dL_law_1252 dL_law_1254 dL_law_1255 dL_law_1256 rfl rfl ⟨hi.1, by decide, by omega⟩ hLm ?_
  refine g_arg hE hb dL_law_1257 dL_law_1258 dL_law_1260 dL_law_1261 dL_law_1262 rfl rfl ⟨hi.1, by decide, by omega⟩ hLm ?_
  refine g_arg hE hb dL_law_1263 dL_law_1264 dL_law_1266 dL_law_1267 dL_law_1268 rfl rfl ⟨hi.1, by decide, by omega⟩ hLm ?_
  refine g_aload_n (M := mL_law) dL_law_1269 3 rfl rfl ?_
  refine g_callSHQ (M := mL_law) [.ref (A 0), .int (iI (zvXs xs (i + 1))), .int (iI (zvXs xs (i + 2))), .int (iI (zvXs xs (i + 3))), .ref (A 112)] hX dL_law_1270 rfl (fun h => by cases h) vHL_sharedAt kI_L ⟨by decide, by decide⟩ rfl vIL_sharedAt kM_L_210 (wL_sharedAt hX hL (by decide) (by decide) hS.2 er hko.1) (fun w E h => by obtain ⟨_, _, _, h3⟩ := h; cases h3) rfl ⟨(Nat.le_of_ble_eq_true rfl), (Nat.le_of_ble_eq_true rfl)⟩ ⟨hr.1, hr.2⟩ (Nat.le_of_ble_eq_true rfl) (fun w v hQ => ?_)
  obtain ⟨A', hA', hw, hv⟩ := hQ
  cases hv
  rw [hw]
  have hS1 := zvLs_o (r := res.2) (zvLs_k hS hA')
  rw [zvLv_k hA']
  refine g_istore (M := mL_law) (lv' := zvLv b A' i ++ [(5, .int (iI (zKo ["java/lang/IndexOutOfBoundsException"] res.2)))]) dL_law_1273 (by decide) rfl ?_
  refine g_aload_n (M := mL_law) dL_law_1275 2 rfl rfl ?_
  refine g_arg hE hb dL_law_1276 dL_law_1277 dL_law_1279 dL_law_1280 dL_law_1281 rfl rfl ⟨hi.1, by decide, by omega⟩ hLm ?_
  refine g_arg hE hb dL_law_1282 dL_law_1283 dL_law_1285 dL_law_1286 dL_law_1287 rfl rfl ⟨hi.1, by decide, by omega⟩ hLm ?_
  refine g_arg hE hb dL_law_1288 dL_law_1289 dL_law_1291 dL_law_1292 dL_law_1293 rfl rfl ⟨hi.1, by decide, by omega⟩ hLm ?_
  refine g_callVr (M := mL_law) [.int (iI (zvXs xs (i + 1))), .int (iI (zvXs xs (i + 2))), .int (iI (zvXs xs (i + 3)))] hX dL_law_1294 vX8_sharedAt kM_L_213 (wX8_sharedAt hX (zvLs_c hS1) (by decide) eu) 91 (zWs_at (by decide) (zvLs_c hS1).o) rfl ⟨(Nat.le_of_ble_eq_true rfl), (Nat.le_of_ble_eq_true rfl)⟩ ⟨hr.1, hr.2⟩ (Nat.le_of_ble_eq_true rfl) ?_
  rw [zSt_zC]
  have hS2 := zvLs_m (m' := u.1) hS1
  refine g_istore (M := mL_law) (lv' := zvLv b A' i ++ [(5, .int (iI (zKo ["java/lang/IndexOutOfBoundsException"] res.2))), (6, .int (iI u.2))]) dL_law_1297 (by decide) rfl ?_
  refine lc_tail hX hS2 hko.2.1 (by have h2 := hko.2.2.1; rw [hko.2.1] at h2; exact h2) (fun z => ?_) hr dL_law_1299 dL_law_1300 dL_law_1303 dL_law_1305 dL_law_1310 dL_law_1312 dL_law_1315 dL_law_1316 dL_law_1317 dL_law_1318 dL_law_1320 dL_law_1321 dL_law_1322 dL_law_1327 (by decide) ?_
  · obtain ⟨v, e1, e2, _⟩ := hko.2.2.2 (hko.2.1.trans z)
    rw [e1, zvLf_0, e2]
  · exact next A' _ res.1 u.1 _ hR2 hS2 hA' ⟨res.2, er⟩
set_option maxHeartbeats 4000000 in
set_option maxRecDepth 100000 in
theorem lc_hits {X : zX} (hX2 : zOK2 X) (hL : zOL X) {b L : Nat} {xs : Nat → Int32} (hE : ∀ U, zE X U → va_X b L xs U U.heap) (hb : b < X.2.2.2.1) (hLm : L ≤ 3072) {i : Int} (hi : 0 ≤ i ∧ i + 6 ≤ (L : Int)) {A : Nat → Nat} {S : Nat → va_E} {σ : CS} {m : CV} {f : Nat → Int64} (hR : zRR σ m) (hS : zvLs X A m f S) {kc ks : Nat} (hr : kc + 1 ≤ 601024 ∧ ks + 6 ≤ 7293034) (next : ∀ (A' : Nat → Nat) (S' : Nat → va_E) (σ' : CS) (m' : CV) (f' : Nat → Int64), zRR σ' m' → zvLs X A' m' f' S' → zvAk A A' → (σ' = σ) → G X mL_law (zLP X b) (kc + 1) (ks + 6) 3056 (zvLv b A' i) [] (zWs A' 113 (zSt X A' σ' S'))) : G X mL_law (zLP X b) kc ks 1330 (zvLv b A i) [] (zWs A 113 (zSt X A σ S)) := by
  have hX := hX2.1
  obtain ⟨res, er, u, eu, hR2, hAn⟩ := s_hits hR (zvXs_r (xs := xs) (i := i + 1))
  have hko := zAn_k hAn (by decide) (by decide)
  refine g_aload_n (M := mL_law) dL_law_1330 1 rfl rfl ?_
  refine g_arg hE hb dL_law_1331 dL_law_1332 dL_law_1334 dL_law_1335 dL_law_1336 rfl rfl ⟨hi.1, by decide, by omega⟩ hLm ?_
  refine g_aload_n (M := mL_law) dL_law_1337 3 rfl rfl ?_
  refine g_callSHQ (M := mL_law) [.ref (A 0), .int (iI (zvXs xs (i + 1))), .ref (A 112)] hX dL_law_1338 rfl (fun h => by cases h) vHL_hits kI_L ⟨by decide, by decide⟩ rfl vIL_hits kM_L_214 (wL_hits hX hL (by decide) (by decide) hS.2 er hko.1) (fun w E h => by obtain ⟨_, _, _, h3⟩ := h; cases h3) rfl ⟨(Nat.le_of_ble_eq_true rfl), (Nat.le_of_ble_eq_true rfl)⟩ ⟨hr.1, hr.2⟩ (Nat.le_of_ble_eq_true rfl) (fun w v hQ => ?_)
  obtain ⟨A', hA', hw, hv⟩ := hQ
  cases hv
  rw [hw]
  have hS1 := zvLs_o (r := res) (zvLs_k hS hA')
  rw [zvLv_k hA']
  refine g_istore (M := mL_law) (lv' := zvLv b A' i ++ [(5, .int (iI (zKo ["java/lang/IndexOutOfBoundsException"] res)))]) dL_law_1341 (by decide) rfl ?_
  refine g_aload_n (M := mL_law) dL_law_1343 2 rfl rfl ?_
  refine g_arg hE hb dL_law_1344 dL_law_1345 dL_law_1347 dL_law_1348 dL_law_1349 rfl rfl ⟨hi.1, by decide, by omega⟩ hLm ?_
  refine g_callVr (M := mL_law) [.int (iI (zvXs xs (i + 1)))] hX dL_law_1350 vX8_hits kM_L_216 (wX8_hits hX (zvLs_c hS1) (by decide) eu) 91 (zWs_at (by decide) (zvLs_c hS1).o) rfl ⟨(Nat.le_of_ble_eq_true rfl), (Nat.le_of_ble_eq_true rfl)⟩ ⟨hr.1, hr.2⟩ (Nat.le_of_ble_eq_true rfl) ?_
  rw [zSt_zC]
  have hS2 := zvLs_m (m' := u.1) hS1
  refine g_istore (M := mL_law) (lv' := zvLv b A' i ++ [(5, .int (iI (zKo ["java/lang/IndexOutOfBoundsException"] res))), (6, .int (iI u.2))]) dL_law_1353 (by decide) rfl ?_
  refine lc_tail hX hS2 hko.2.1 (by have h2 := hko.2.2.1; rw [hko.2.1] at h2; exact h2) (fun z => ?_) hr dL_law_1355 dL_law_1356 dL_law_1359 dL_law_1361 dL_law_1366 dL_law_1368 dL_law_1371 dL_law_1372 dL_law_1373 dL_law_1374 dL_law_1376 dL_law_1377 dL_law_1378 dL_law_1383 (by decide) ?_
  · obtain ⟨v, e1, e2, _⟩ := hko.2.2.2 (hko.2.1.trans z)
    rw [e1, zvLf_0, e2]
  · exact next A' _ σ u.1 _ hR2 hS2 hA' rfl
set_option maxHeartbeats 4000000 in
set_option maxRecDepth 100000 in
theorem lc_hit {X : zX} (hX2 : zOK2 X) (hL : zOL X) {b L : Nat} {xs : Nat → Int32} (hE : ∀ U, zE X U → va_X b L xs U U.heap) (hb : b < X.2.2.2.1) (hLm : L ≤ 3072) {i : Int} (hi : 0 ≤ i ∧ i + 6 ≤ (L : Int)) {A : Nat → Nat} {S : Nat → va_E} {σ : CS} {m : CV} {f : Nat → Int64} (hR : zRR σ m) (hS : zvLs X A m f S) {kc ks : Nat} (hr : kc + 2 ≤ 601024 ∧ ks + 12 ≤ 7293034) (next : ∀ (A' : Nat → Nat) (S' : Nat → va_E) (σ' : CS) (m' : CV) (f' : Nat → Int64), zRR σ' m' → zvLs X A' m' f' S' → zvAk A A' → (σ' = σ) → G X mL_law (zLP X b) (kc + 2) (ks + 12) 3056 (zvLv b A' i) [] (zWs A' 113 (zSt X A' σ' S'))) : G X mL_law (zLP X b) kc ks 1386 (zvLv b A i) [] (zWs A 113 (zSt X A σ S)) := by
  have hX := hX2.1
  obtain ⟨res, er, u, eu, hR2, hAn⟩ := s_hit hR (zvXs_r (xs := xs) (i := i + 1)) (zvXs_r (xs := xs) (i := i + 2)) (zvXs_r (xs := xs) (i := i + 3))
  have hko := zAn_k hAn (by decide) (by decide)
  refine g_aload_n (M := mL_law) dL_law_1386 1 rfl rfl ?_
  refine g_arg hE hb dL_law_1387 dL_law_1388 dL_law_1390 dL_law_1391 dL_law_1392 rfl rfl ⟨hi.1, by decide, by omega⟩ hLm ?_
  refine g_arg hE hb dL_law_1393 dL_law_1394 dL_law_1396 dL_law_1397 dL_law_1398 rfl rfl ⟨hi.1, by decide, by omega⟩ hLm ?_
  refine g_arg hE hb dL_law_1399 dL_law_1400 dL_law_1402 dL_law_1403 dL_law_1404 rfl rfl ⟨hi.1, by decide, by omega⟩ hLm ?_
  refine g_aload_n (M := mL_law) dL_law_1405 3 rfl rfl ?_
  refine g_callSHQ (M := mL_law) [.ref (A 0), .int (iI (zvXs xs (i + 1))), .int (iI (zvXs xs (i + 2))), .int (iI (zvXs xs (i + 3))), .ref (A 112)] hX dL_law_1406 rfl (fun h => by cases h) vHL_hit kI_L ⟨by decide, by decide⟩ rfl vIL_hit kM_L_217 (wL_hit hX hL (by decide) (by decide) hS.2 er hko.1) (fun w E h => by obtain ⟨_, _, _, h3⟩ := h; cases h3) rfl ⟨(Nat.le_of_ble_eq_true rfl), (Nat.le_of_ble_eq_true rfl)⟩ ⟨hr.1, hr.2⟩ (Nat.le_of_ble_eq_true rfl) (fun w v hQ => ?_)
  obtain ⟨A', hA', hw, hv⟩ := hQ
  cases hv
  rw [hw]
  have hS1 := zvLs_o (r := res) (zvLs_k hS hA')
  rw [zvLv_k hA']
  refine g_istore (M := mL_law) (lv' := zvLv b A' i ++ [(5, .int (iI (zKo ["java/lang/IndexOutOfBoundsException", "java/lang/IllegalArgumentException"] res)))]) dL_law_1409 (by decide) rfl ?_
  refine g_aload_n (M := mL_law) dL_law_1411 2 rfl rfl ?_
  refine g_arg hE hb dL_law_1412 dL_law_1413 dL_law_1415 dL_law_1416 dL_law_1417 rfl rfl ⟨hi.1, by decide, by omega⟩ hLm ?_
  refine g_arg hE hb dL_law_1418 dL_law_1419 dL_law_1421 dL_law_1422 dL_law_1423 rfl rfl ⟨hi.1, by decide, by omega⟩ hLm ?_
  refine g_arg hE hb dL_law_1424 dL_law_1425 dL_law_1427 dL_law_1428 dL_law_1429 rfl rfl ⟨hi.1, by decide, by omega⟩ hLm ?_
  refine g_callVr (M := mL_law) [.int (iI (zvXs xs (i + 1))), .int (iI (zvXs xs (i + 2))), .int (iI (zvXs xs (i + 3)))] hX dL_law_1430 vX8_hit kM_L_219 (wX8_hit hX (zvLs_c hS1) (by decide) eu) 91 (zWs_at (by decide) (zvLs_c hS1).o) rfl ⟨(Nat.le_of_ble_eq_true rfl), (Nat.le_of_ble_eq_true rfl)⟩ ⟨hr.1, hr.2⟩ (Nat.le_of_ble_eq_true rfl) ?_
  rw [zSt_zC]
  have hS2 := zvLs_m (m' := u.1) hS1
  refine g_istore (M := mL_law) (lv' := zvLv b A' i ++ [(5, .int (iI (zKo ["java/lang/IndexOutOfBoundsException", "java/lang/IllegalArgumentException"] res))), (6, .int (iI u.2))]) dL_law_1433 (by decide) rfl ?_
  refine lc_tail hX hS2 hko.2.1 (by have h2 := hko.2.2.1; rw [hko.2.1] at h2; exact h2) (fun z => ?_) hr dL_law_1435 dL_law_1436 dL_law_1439 dL_law_1441 dL_law_1446 dL_law_1448 dL_law_1451 dL_law_1452 dL_law_1453 dL_law_1454 dL_law_1456 dL_law_1457 dL_law_1458 dL_law_1463 (by decide) ?_
  · obtain ⟨v, e1, e2, _⟩ := hko.2.2.2 (hko.2.1.trans z)
    rw [e1, zvLf_0, e2]
  · exact next A' _ σ u.1 _ hR2 hS2 hA' rfl
set_option maxHeartbeats 4000000 in
set_option maxRecDepth 100000 in
theorem lc_timesOf {X : zX} (hX2 : zOK2 X) (hL : zOL X) {b L : Nat} {xs : Nat → Int32} (hE : ∀ U, zE X U → va_X b L xs U U.heap) (hb : b < X.2.2.2.1) (hLm : L ≤ 3072) {i : Int} (hi : 0 ≤ i ∧ i + 6 ≤ (L : Int)) {A : Nat → Nat} {S : Nat → va_E} {σ : CS} {m : CV} {f : Nat → Int64} (hR : zRR σ m) (hS : zvLs X A m f S) {kc ks : Nat} (hr : kc + (3 + zNt (σ 10) (σ 4)) ≤ 601024 ∧ ks + (18 + 4096 * zNt (σ 10) (σ 4)) ≤ 7293034) (next : ∀ (A' : Nat → Nat) (S' : Nat → va_E) (σ' : CS) (m' : CV) (f' : Nat → Int64), zRR σ' m' → zvLs X A' m' f' S' → zvAk A A' → (∃ r, fX7_timesOf σ (zvXs xs (i + 1)) = some (σ', r)) → G X mL_law (zLP X b) (kc + (3 + zNt (σ 10) (σ 4))) (ks + (18 + 4096 * zNt (σ 10) (σ 4))) 3056 (zvLv b A' i) [] (zWs A' 113 (zSt X A' σ' S'))) : G X mL_law (zLP X b) kc ks 1479 (zvLv b A i) [] (zWs A 113 (zSt X A σ S)) := by
  have hX := hX2.1
  obtain ⟨res, er, u, eu, hR2, hAn⟩ := s_timesOf hR (zvXs_r (xs := xs) (i := i + 1))
  have hko := zAn_k hAn (by decide) (by decide)
  refine g_aload_n (M := mL_law) dL_law_1479 1 rfl rfl ?_
  refine g_arg hE hb dL_law_1480 dL_law_1481 dL_law_1483 dL_law_1484 dL_law_1485 rfl rfl ⟨hi.1, by decide, by omega⟩ hLm ?_
  refine g_aload_n (M := mL_law) dL_law_1486 3 rfl rfl ?_
  refine g_callSHQ (M := mL_law) [.ref (A 0), .int (iI (zvXs xs (i + 1))), .ref (A 112)] hX dL_law_1487 rfl (fun h => by cases h) vHL_timesOf kI_L ⟨by decide, by decide⟩ rfl vIL_timesOf kM_L_224 (wL_timesOf hX hL (by decide) (by decide) hS.2 er hko.1) (fun w E h => by obtain ⟨_, _, _, h3⟩ := h; cases h3) rfl ⟨(Nat.le_of_ble_eq_true rfl), (Nat.le_of_ble_eq_true rfl)⟩ ⟨hr.1, hr.2⟩ (Nat.le_of_ble_eq_true rfl) (fun w v hQ => ?_)
  obtain ⟨A', hA', hw, hv⟩ := hQ
  cases hv
  rw [hw]
  have hS1 := zvLs_o (r := res.2) (zvLs_k hS hA')
  rw [zvLv_k hA']
  refine g_istore (M := mL_law) (lv' := zvLv b A' i ++ [(5, .int (iI (zKo ["java/lang/IndexOutOfBoundsException"] res.2)))]) dL_law_1490 (by decide) rfl ?_
  refine g_aload_n (M := mL_law) dL_law_1492 2 rfl rfl ?_
  refine g_arg hE hb dL_law_1493 dL_law_1494 dL_law_1496 dL_law_1497 dL_law_1498 rfl rfl ⟨hi.1, by decide, by omega⟩ hLm ?_
  refine g_callVr (M := mL_law) [.int (iI (zvXs xs (i + 1)))] hX dL_law_1499 vX8_timesOf kM_L_226 (wX8_timesOf hX (zvLs_c hS1) (by decide) eu) 91 (zWs_at (by decide) (zvLs_c hS1).o) rfl ⟨(Nat.le_of_ble_eq_true rfl), (Nat.le_of_ble_eq_true rfl)⟩ ⟨hr.1, hr.2⟩ (Nat.le_of_ble_eq_true rfl) ?_
  rw [zSt_zC]
  have hS2 := zvLs_m (m' := u.1) hS1
  refine g_istore (M := mL_law) (lv' := zvLv b A' i ++ [(5, .int (iI (zKo ["java/lang/IndexOutOfBoundsException"] res.2))), (6, .int (iI u.2))]) dL_law_1502 (by decide) rfl ?_
  refine lc_tail hX hS2 hko.2.1 (by have h2 := hko.2.2.1; rw [hko.2.1] at h2; exact h2) (fun z => ?_) hr dL_law_1504 dL_law_1505 dL_law_1508 dL_law_1510 dL_law_1515 dL_law_1517 dL_law_1520 dL_law_1521 dL_law_1522 dL_law_1523 dL_law_1525 dL_law_1526 dL_law_1527 dL_law_1532 (by decide) ?_
  · obtain ⟨v, e1, e2, _⟩ := hko.2.2.2 (hko.2.1.trans z)
    rw [e1, zvLf_0, e2]
  · exact next A' _ res.1 u.1 _ hR2 hS2 hA' ⟨res.2, er⟩
set_option maxHeartbeats 4000000 in
set_option maxRecDepth 100000 in
theorem lc_best {X : zX} (hX2 : zOK2 X) (hL : zOL X) {b L : Nat} {xs : Nat → Int32} (hE : ∀ U, zE X U → va_X b L xs U U.heap) (hb : b < X.2.2.2.1) (hLm : L ≤ 3072) {i : Int} (hi : 0 ≤ i ∧ i + 6 ≤ (L : Int)) {A : Nat → Nat} {S : Nat → va_E} {σ : CS} {m : CV} {f : Nat → Int64} (hR : zRR σ m) (hS : zvLs X A m f S) {kc ks : Nat} (hr : kc + (2 + 3 * zNd (σ 7) (σ 4)) ≤ 601024 ∧ ks + (12 + 13652 * zNd (σ 7) (σ 4)) ≤ 7293034) (next : ∀ (A' : Nat → Nat) (S' : Nat → va_E) (σ' : CS) (m' : CV) (f' : Nat → Int64), zRR σ' m' → zvLs X A' m' f' S' → zvAk A A' → (∃ r, fX7_best σ (zvXs xs (i + 1)) = some (σ', r)) → G X mL_law (zLP X b) (kc + (2 + 3 * zNd (σ 7) (σ 4))) (ks + (12 + 13652 * zNd (σ 7) (σ 4))) 3056 (zvLv b A' i) [] (zWs A' 113 (zSt X A' σ' S'))) : G X mL_law (zLP X b) kc ks 1548 (zvLv b A i) [] (zWs A 113 (zSt X A σ S)) := by
  have hX := hX2.1
  obtain ⟨res, er, u, eu, hR2, hAn⟩ := s_best hR (zvXs_r (xs := xs) (i := i + 1))
  have hko := zAn_k hAn (by decide) (by decide)
  refine g_aload_n (M := mL_law) dL_law_1548 1 rfl rfl ?_
  refine g_arg hE hb dL_law_1549 dL_law_1550 dL_law_1552 dL_law_1553 dL_law_1554 rfl rfl ⟨hi.1, by decide, by omega⟩ hLm ?_
  refine g_aload_n (M := mL_law) dL_law_1555 3 rfl rfl ?_
  refine g_callSHQ (M := mL_law) [.ref (A 0), .int (iI (zvXs xs (i + 1))), .ref (A 112)] hX dL_law_1556 rfl (fun h => by cases h) vHL_best kI_L ⟨by decide, by decide⟩ rfl vIL_best kM_L_231 (wL_best hX hL (by decide) (by decide) hS.2 er hko.1) (fun w E h => by obtain ⟨_, _, _, h3⟩ := h; cases h3) rfl ⟨(Nat.le_of_ble_eq_true rfl), (Nat.le_of_ble_eq_true rfl)⟩ ⟨hr.1, hr.2⟩ (Nat.le_of_ble_eq_true rfl) (fun w v hQ => ?_)
  obtain ⟨A', hA', hw, hv⟩ := hQ
  cases hv
  rw [hw]
  have hS1 := zvLs_o (r := res.2) (zvLs_k hS hA')
  rw [zvLv_k hA']
  refine g_istore (M := mL_law) (lv' := zvLv b A' i ++ [(5, .int (iI (zKo ["java/lang/IllegalArgumentException"] res.2)))]) dL_law_1559 (by decide) rfl ?_
  refine g_aload_n (M := mL_law) dL_law_1561 2 rfl rfl ?_
  refine g_arg hE hb dL_law_1562 dL_law_1563 dL_law_1565 dL_law_1566 dL_law_1567 rfl rfl ⟨hi.1, by decide, by omega⟩ hLm ?_
  refine g_callVr (M := mL_law) [.int (iI (zvXs xs (i + 1)))] hX dL_law_1568 vX8_best kM_L_233 (wX8_best hX (zvLs_c hS1) (by decide) eu) 91 (zWs_at (by decide) (zvLs_c hS1).o) rfl ⟨(Nat.le_of_ble_eq_true rfl), (Nat.le_of_ble_eq_true rfl)⟩ ⟨hr.1, hr.2⟩ (Nat.le_of_ble_eq_true rfl) ?_
  rw [zSt_zC]
  have hS2 := zvLs_m (m' := u.1) hS1
  refine g_istore (M := mL_law) (lv' := zvLv b A' i ++ [(5, .int (iI (zKo ["java/lang/IllegalArgumentException"] res.2))), (6, .int (iI u.2))]) dL_law_1571 (by decide) rfl ?_
  refine lc_tail hX hS2 hko.2.1 (by have h2 := hko.2.2.1; rw [hko.2.1] at h2; exact h2) (fun z => ?_) hr dL_law_1573 dL_law_1574 dL_law_1577 dL_law_1579 dL_law_1584 dL_law_1586 dL_law_1589 dL_law_1590 dL_law_1591 dL_law_1592 dL_law_1594 dL_law_1595 dL_law_1596 dL_law_1601 (by decide) ?_
  · obtain ⟨v, e1, e2, _⟩ := hko.2.2.2 (hko.2.1.trans z)
    rw [e1, zvLf_0, e2]
  · exact next A' _ res.1 u.1 _ hR2 hS2 hA' ⟨res.2, er⟩
set_option maxHeartbeats 4000000 in
set_option maxRecDepth 100000 in
theorem lc_bound {X : zX} (hX2 : zOK2 X) (hL : zOL X) {b L : Nat} {xs : Nat → Int32} (hE : ∀ U, zE X U → va_X b L xs U U.heap) (hb : b < X.2.2.2.1) (hLm : L ≤ 3072) {i : Int} (hi : 0 ≤ i ∧ i + 6 ≤ (L : Int)) {A : Nat → Nat} {S : Nat → va_E} {σ : CS} {m : CV} {f : Nat → Int64} (hR : zRR σ m) (hS : zvLs X A m f S) {kc ks : Nat} (hr : kc + 2 ≤ 601024 ∧ ks + 12 ≤ 7293034) (next : ∀ (A' : Nat → Nat) (S' : Nat → va_E) (σ' : CS) (m' : CV) (f' : Nat → Int64), zRR σ' m' → zvLs X A' m' f' S' → zvAk A A' → (σ' = σ) → G X mL_law (zLP X b) (kc + 2) (ks + 12) 3056 (zvLv b A' i) [] (zWs A' 113 (zSt X A' σ' S'))) : G X mL_law (zLP X b) kc ks 1604 (zvLv b A i) [] (zWs A 113 (zSt X A σ S)) := by
  have hX := hX2.1
  obtain ⟨res, er, u, eu, hR2, hAn⟩ := s_bound hR (zvXs_r (xs := xs) (i := i + 1)) (zvXs_r (xs := xs) (i := i + 2))
  have hko := zAn_k hAn (by decide) (by decide)
  refine g_aload_n (M := mL_law) dL_law_1604 1 rfl rfl ?_
  refine g_arg hE hb dL_law_1605 dL_law_1606 dL_law_1608 dL_law_1609 dL_law_1610 rfl rfl ⟨hi.1, by decide, by omega⟩ hLm ?_
  refine g_arg hE hb dL_law_1611 dL_law_1612 dL_law_1614 dL_law_1615 dL_law_1616 rfl rfl ⟨hi.1, by decide, by omega⟩ hLm ?_
  refine g_aload_n (M := mL_law) dL_law_1617 3 rfl rfl ?_
  refine g_callSHQ (M := mL_law) [.ref (A 0), .int (iI (zvXs xs (i + 1))), .int (iI (zvXs xs (i + 2))), .ref (A 112)] hX dL_law_1618 rfl (fun h => by cases h) vHL_bound kI_L ⟨by decide, by decide⟩ rfl vIL_bound kM_L_234 (wL_bound hX hL (by decide) (by decide) hS.2 er hko.1) (fun w E h => by obtain ⟨_, _, _, h3⟩ := h; cases h3) rfl ⟨(Nat.le_of_ble_eq_true rfl), (Nat.le_of_ble_eq_true rfl)⟩ ⟨hr.1, hr.2⟩ (Nat.le_of_ble_eq_true rfl) (fun w v hQ => ?_)
  obtain ⟨A', hA', hw, hv⟩ := hQ
  cases hv
  rw [hw]
  have hS1 := zvLs_o (r := res) (zvLs_k hS hA')
  rw [zvLv_k hA']
  refine g_istore (M := mL_law) (lv' := zvLv b A' i ++ [(5, .int (iI (zKo ["java/lang/IndexOutOfBoundsException", "java/lang/IllegalArgumentException"] res)))]) dL_law_1621 (by decide) rfl ?_
  refine g_aload_n (M := mL_law) dL_law_1623 2 rfl rfl ?_
  refine g_arg hE hb dL_law_1624 dL_law_1625 dL_law_1627 dL_law_1628 dL_law_1629 rfl rfl ⟨hi.1, by decide, by omega⟩ hLm ?_
  refine g_arg hE hb dL_law_1630 dL_law_1631 dL_law_1633 dL_law_1634 dL_law_1635 rfl rfl ⟨hi.1, by decide, by omega⟩ hLm ?_
  refine g_callVr (M := mL_law) [.int (iI (zvXs xs (i + 1))), .int (iI (zvXs xs (i + 2)))] hX dL_law_1636 vX8_bound kM_L_236 (wX8_bound hX (zvLs_c hS1) (by decide) eu) 91 (zWs_at (by decide) (zvLs_c hS1).o) rfl ⟨(Nat.le_of_ble_eq_true rfl), (Nat.le_of_ble_eq_true rfl)⟩ ⟨hr.1, hr.2⟩ (Nat.le_of_ble_eq_true rfl) ?_
  rw [zSt_zC]
  have hS2 := zvLs_m (m' := u.1) hS1
  refine g_istore (M := mL_law) (lv' := zvLv b A' i ++ [(5, .int (iI (zKo ["java/lang/IndexOutOfBoundsException", "java/lang/IllegalArgumentException"] res))), (6, .int (iI u.2))]) dL_law_1639 (by decide) rfl ?_
  refine lc_tail hX hS2 hko.2.1 (by have h2 := hko.2.2.1; rw [hko.2.1] at h2; exact h2) (fun z => ?_) hr dL_law_1641 dL_law_1642 dL_law_1645 dL_law_1647 dL_law_1652 dL_law_1654 dL_law_1657 dL_law_1658 dL_law_1659 dL_law_1660 dL_law_1662 dL_law_1663 dL_law_1664 dL_law_1669 (by decide) ?_
  · obtain ⟨v, e1, e2, _⟩ := hko.2.2.2 (hko.2.1.trans z)
    rw [e1, zvLf_0, e2]
  · exact next A' _ σ u.1 _ hR2 hS2 hA' rfl
set_option maxHeartbeats 4000000 in
set_option maxRecDepth 100000 in
theorem lc_mostHad {X : zX} (hX2 : zOK2 X) (hL : zOL X) {b L : Nat} {xs : Nat → Int32} (hE : ∀ U, zE X U → va_X b L xs U U.heap) (hb : b < X.2.2.2.1) (hLm : L ≤ 3072) {i : Int} (hi : 0 ≤ i ∧ i + 6 ≤ (L : Int)) {A : Nat → Nat} {S : Nat → va_E} {σ : CS} {m : CV} {f : Nat → Int64} (hR : zRR σ m) (hS : zvLs X A m f S) {kc ks : Nat} (hr : kc + (2 + 3 * zNd (σ 7) (σ 4)) ≤ 601024 ∧ ks + (12 + 13652 * zNd (σ 7) (σ 4)) ≤ 7293034) (next : ∀ (A' : Nat → Nat) (S' : Nat → va_E) (σ' : CS) (m' : CV) (f' : Nat → Int64), zRR σ' m' → zvLs X A' m' f' S' → zvAk A A' → (∃ r, fX7_mostHad σ (zvXs xs (i + 1)) = some (σ', r)) → G X mL_law (zLP X b) (kc + (2 + 3 * zNd (σ 7) (σ 4))) (ks + (12 + 13652 * zNd (σ 7) (σ 4))) 3056 (zvLv b A' i) [] (zWs A' 113 (zSt X A' σ' S'))) : G X mL_law (zLP X b) kc ks 1672 (zvLv b A i) [] (zWs A 113 (zSt X A σ S)) := by
  have hX := hX2.1
  obtain ⟨res, er, u, eu, hR2, hAn⟩ := s_mostHad hR (zvXs_r (xs := xs) (i := i + 1))
  have hko := zAn_k hAn (by decide) (by decide)
  refine g_aload_n (M := mL_law) dL_law_1672 1 rfl rfl ?_
  refine g_arg hE hb dL_law_1673 dL_law_1674 dL_law_1676 dL_law_1677 dL_law_1678 rfl rfl ⟨hi.1, by decide, by omega⟩ hLm ?_
  refine g_aload_n (M := mL_law) dL_law_1679 3 rfl rfl ?_
  refine g_callSHQ (M := mL_law) [.ref (A 0), .int (iI (zvXs xs (i + 1))), .ref (A 112)] hX dL_law_1680 rfl (fun h => by cases h) vHL_mostHad kI_L ⟨by decide, by decide⟩ rfl vIL_mostHad kM_L_237 (wL_mostHad hX hL (by decide) (by decide) hS.2 er hko.1) (fun w E h => by obtain ⟨_, _, _, h3⟩ := h; cases h3) rfl ⟨(Nat.le_of_ble_eq_true rfl), (Nat.le_of_ble_eq_true rfl)⟩ ⟨hr.1, hr.2⟩ (Nat.le_of_ble_eq_true rfl) (fun w v hQ => ?_)
  obtain ⟨A', hA', hw, hv⟩ := hQ
  cases hv
  rw [hw]
  have hS1 := zvLs_o (r := res.2) (zvLs_k hS hA')
  rw [zvLv_k hA']
  refine g_istore (M := mL_law) (lv' := zvLv b A' i ++ [(5, .int (iI (zKo ["java/lang/IllegalArgumentException"] res.2)))]) dL_law_1683 (by decide) rfl ?_
  refine g_aload_n (M := mL_law) dL_law_1685 2 rfl rfl ?_
  refine g_arg hE hb dL_law_1686 dL_law_1687 dL_law_1689 dL_law_1690 dL_law_1691 rfl rfl ⟨hi.1, by decide, by omega⟩ hLm ?_
  refine g_callVr (M := mL_law) [.int (iI (zvXs xs (i + 1)))] hX dL_law_1692 vX8_mostHad kM_L_239 (wX8_mostHad hX (zvLs_c hS1) (by decide) eu) 91 (zWs_at (by decide) (zvLs_c hS1).o) rfl ⟨(Nat.le_of_ble_eq_true rfl), (Nat.le_of_ble_eq_true rfl)⟩ ⟨hr.1, hr.2⟩ (Nat.le_of_ble_eq_true rfl) ?_
  rw [zSt_zC]
  have hS2 := zvLs_m (m' := u.1) hS1
  refine g_istore (M := mL_law) (lv' := zvLv b A' i ++ [(5, .int (iI (zKo ["java/lang/IllegalArgumentException"] res.2))), (6, .int (iI u.2))]) dL_law_1695 (by decide) rfl ?_
  refine lc_tail hX hS2 hko.2.1 (by have h2 := hko.2.2.1; rw [hko.2.1] at h2; exact h2) (fun z => ?_) hr dL_law_1697 dL_law_1698 dL_law_1701 dL_law_1703 dL_law_1708 dL_law_1710 dL_law_1713 dL_law_1714 dL_law_1715 dL_law_1716 dL_law_1718 dL_law_1719 dL_law_1720 dL_law_1725 (by decide) ?_
  · obtain ⟨v, e1, e2, _⟩ := hko.2.2.2 (hko.2.1.trans z)
    rw [e1, zvLf_0, e2]
  · exact next A' _ res.1 u.1 _ hR2 hS2 hA' ⟨res.2, er⟩
set_option maxHeartbeats 4000000 in
set_option maxRecDepth 100000 in
theorem lc_scoreWithout {X : zX} (hX2 : zOK2 X) (hL : zOL X) {b L : Nat} {xs : Nat → Int32} (hE : ∀ U, zE X U → va_X b L xs U U.heap) (hb : b < X.2.2.2.1) (hLm : L ≤ 3072) {i : Int} (hi : 0 ≤ i ∧ i + 6 ≤ (L : Int)) {A : Nat → Nat} {S : Nat → va_E} {σ : CS} {m : CV} {f : Nat → Int64} (hR : zRR σ m) (hS : zvLs X A m f S) {kc ks : Nat} (hr : kc + (2 + 3 * zNd (σ 7) (σ 4)) ≤ 601024 ∧ ks + (12 + 13652 * zNd (σ 7) (σ 4)) ≤ 7293034) (next : ∀ (A' : Nat → Nat) (S' : Nat → va_E) (σ' : CS) (m' : CV) (f' : Nat → Int64), zRR σ' m' → zvLs X A' m' f' S' → zvAk A A' → (∃ r, fX7_scoreWithout σ (zvXs xs (i + 1)) = some (σ', r)) → G X mL_law (zLP X b) (kc + (2 + 3 * zNd (σ 7) (σ 4))) (ks + (12 + 13652 * zNd (σ 7) (σ 4))) 3056 (zvLv b A' i) [] (zWs A' 113 (zSt X A' σ' S'))) : G X mL_law (zLP X b) kc ks 1728 (zvLv b A i) [] (zWs A 113 (zSt X A σ S)) := by
  have hX := hX2.1
  obtain ⟨res, er, u, eu, hR2, hAn⟩ := s_scoreWithout hR (zvXs_r (xs := xs) (i := i + 1))
  have hko := zAn_k hAn (by decide) (by decide)
  refine g_aload_n (M := mL_law) dL_law_1728 1 rfl rfl ?_
  refine g_arg hE hb dL_law_1729 dL_law_1730 dL_law_1732 dL_law_1733 dL_law_1734 rfl rfl ⟨hi.1, by decide, by omega⟩ hLm ?_
  refine g_aload_n (M := mL_law) dL_law_1735 3 rfl rfl ?_
  refine g_callSHQ (M := mL_law) [.ref (A 0), .int (iI (zvXs xs (i + 1))), .ref (A 112)] hX dL_law_1736 rfl (fun h => by cases h) vHL_scoreWithout kI_L ⟨by decide, by decide⟩ rfl vIL_scoreWithout kM_L_240 (wL_scoreWithout hX hL (by decide) (by decide) hS.2 er hko.1) (fun w E h => by obtain ⟨_, _, _, h3⟩ := h; cases h3) rfl ⟨(Nat.le_of_ble_eq_true rfl), (Nat.le_of_ble_eq_true rfl)⟩ ⟨hr.1, hr.2⟩ (Nat.le_of_ble_eq_true rfl) (fun w v hQ => ?_)
  obtain ⟨A', hA', hw, hv⟩ := hQ
  cases hv
  rw [hw]
  have hS1 := zvLs_o (r := res.2) (zvLs_k hS hA')
  rw [zvLv_k hA']
  refine g_istore (M := mL_law) (lv' := zvLv b A' i ++ [(5, .int (iI (zKo ["java/lang/IndexOutOfBoundsException"] res.2)))]) dL_law_1739 (by decide) rfl ?_
  refine g_aload_n (M := mL_law) dL_law_1741 2 rfl rfl ?_
  refine g_arg hE hb dL_law_1742 dL_law_1743 dL_law_1745 dL_law_1746 dL_law_1747 rfl rfl ⟨hi.1, by decide, by omega⟩ hLm ?_
  refine g_callVr (M := mL_law) [.int (iI (zvXs xs (i + 1)))] hX dL_law_1748 vX8_scoreWithout kM_L_242 (wX8_scoreWithout hX (zvLs_c hS1) (by decide) eu) 91 (zWs_at (by decide) (zvLs_c hS1).o) rfl ⟨(Nat.le_of_ble_eq_true rfl), (Nat.le_of_ble_eq_true rfl)⟩ ⟨hr.1, hr.2⟩ (Nat.le_of_ble_eq_true rfl) ?_
  rw [zSt_zC]
  have hS2 := zvLs_m (m' := u.1) hS1
  refine g_istore (M := mL_law) (lv' := zvLv b A' i ++ [(5, .int (iI (zKo ["java/lang/IndexOutOfBoundsException"] res.2))), (6, .int (iI u.2))]) dL_law_1751 (by decide) rfl ?_
  refine lc_tail hX hS2 hko.2.1 (by have h2 := hko.2.2.1; rw [hko.2.1] at h2; exact h2) (fun z => ?_) hr dL_law_1753 dL_law_1754 dL_law_1757 dL_law_1759 dL_law_1764 dL_law_1766 dL_law_1769 dL_law_1770 dL_law_1771 dL_law_1772 dL_law_1774 dL_law_1775 dL_law_1776 dL_law_1781 (by decide) ?_
  · obtain ⟨v, e1, e2, _⟩ := hko.2.2.2 (hko.2.1.trans z)
    rw [e1, zvLf_0, e2]
  · exact next A' _ res.1 u.1 _ hR2 hS2 hA' ⟨res.2, er⟩
set_option maxHeartbeats 4000000 in
set_option maxRecDepth 100000 in
theorem lc_rankOf {X : zX} (hX2 : zOK2 X) (hL : zOL X) {b L : Nat} {xs : Nat → Int32} (hE : ∀ U, zE X U → va_X b L xs U U.heap) (hb : b < X.2.2.2.1) (hLm : L ≤ 3072) {i : Int} (hi : 0 ≤ i ∧ i + 6 ≤ (L : Int)) {A : Nat → Nat} {S : Nat → va_E} {σ : CS} {m : CV} {f : Nat → Int64} (hR : zRR σ m) (hS : zvLs X A m f S) {kc ks : Nat} (hr : kc + (2 + 3 * zNd (σ 7) (σ 4)) ≤ 601024 ∧ ks + (12 + 13652 * zNd (σ 7) (σ 4)) ≤ 7293034) (next : ∀ (A' : Nat → Nat) (S' : Nat → va_E) (σ' : CS) (m' : CV) (f' : Nat → Int64), zRR σ' m' → zvLs X A' m' f' S' → zvAk A A' → (∃ r, fX7_rankOf σ (zvXs xs (i + 1)) = some (σ', r)) → G X mL_law (zLP X b) (kc + (2 + 3 * zNd (σ 7) (σ 4))) (ks + (12 + 13652 * zNd (σ 7) (σ 4))) 3056 (zvLv b A' i) [] (zWs A' 113 (zSt X A' σ' S'))) : G X mL_law (zLP X b) kc ks 1822 (zvLv b A i) [] (zWs A 113 (zSt X A σ S)) := by
  have hX := hX2.1
  obtain ⟨res, er, u, eu, hR2, hAn⟩ := s_rankOf hR (zvXs_r (xs := xs) (i := i + 1))
  have hko := zAn_k hAn (by decide) (by decide)
  refine g_aload_n (M := mL_law) dL_law_1822 1 rfl rfl ?_
  refine g_arg hE hb dL_law_1823 dL_law_1824 dL_law_1826 dL_law_1827 dL_law_1828 rfl rfl ⟨hi.1, by decide, by omega⟩ hLm ?_
  refine g_aload_n (M := mL_law) dL_law_1829 3 rfl rfl ?_
  refine g_callSHQ (M := mL_law) [.ref (A 0), .int (iI (zvXs xs (i + 1))), .ref (A 112)] hX dL_law_1830 rfl (fun h => by cases h) vHL_rankOf kI_L ⟨by decide, by decide⟩ rfl vIL_rankOf kM_L_251 (wL_rankOf hX hL (by decide) (by decide) hS.2 er hko.1) (fun w E h => by obtain ⟨_, _, _, h3⟩ := h; cases h3) rfl ⟨(Nat.le_of_ble_eq_true rfl), (Nat.le_of_ble_eq_true rfl)⟩ ⟨hr.1, hr.2⟩ (Nat.le_of_ble_eq_true rfl) (fun w v hQ => ?_)
  obtain ⟨A', hA', hw, hv⟩ := hQ
  cases hv
  rw [hw]
  have hS1 := zvLs_o (r := res.2) (zvLs_k hS hA')
  rw [zvLv_k hA']
  refine g_istore (M := mL_law) (lv' := zvLv b A' i ++ [(5, .int (iI (zKo ["java/lang/IndexOutOfBoundsException"] res.2)))]) dL_law_1833 (by decide) rfl ?_
  refine g_aload_n (M := mL_law) dL_law_1835 2 rfl rfl ?_
  refine g_arg hE hb dL_law_1836 dL_law_1837 dL_law_1839 dL_law_1840 dL_law_1841 rfl rfl ⟨hi.1, by decide, by omega⟩ hLm ?_
  refine g_callVr (M := mL_law) [.int (iI (zvXs xs (i + 1)))] hX dL_law_1842 vX8_rankOf kM_L_253 (wX8_rankOf hX (zvLs_c hS1) (by decide) eu) 91 (zWs_at (by decide) (zvLs_c hS1).o) rfl ⟨(Nat.le_of_ble_eq_true rfl), (Nat.le_of_ble_eq_true rfl)⟩ ⟨hr.1, hr.2⟩ (Nat.le_of_ble_eq_true rfl) ?_
  rw [zSt_zC]
  have hS2 := zvLs_m (m' := u.1) hS1
  refine g_istore (M := mL_law) (lv' := zvLv b A' i ++ [(5, .int (iI (zKo ["java/lang/IndexOutOfBoundsException"] res.2))), (6, .int (iI u.2))]) dL_law_1845 (by decide) rfl ?_
  refine lc_tail hX hS2 hko.2.1 (by have h2 := hko.2.2.1; rw [hko.2.1] at h2; exact h2) (fun z => ?_) hr dL_law_1847 dL_law_1848 dL_law_1851 dL_law_1853 dL_law_1858 dL_law_1860 dL_law_1863 dL_law_1864 dL_law_1865 dL_law_1866 dL_law_1868 dL_law_1869 dL_law_1870 dL_law_1875 (by decide) ?_
  · obtain ⟨v, e1, e2, _⟩ := hko.2.2.2 (hko.2.1.trans z)
    rw [e1, zvLf_0, e2]
  · exact next A' _ res.1 u.1 _ hR2 hS2 hA' ⟨res.2, er⟩
set_option maxHeartbeats 4000000 in
set_option maxRecDepth 100000 in
theorem lc_second {X : zX} (hX2 : zOK2 X) (hL : zOL X) {b L : Nat} {xs : Nat → Int32} (hE : ∀ U, zE X U → va_X b L xs U U.heap) (hb : b < X.2.2.2.1) (hLm : L ≤ 3072) {i : Int} (hi : 0 ≤ i ∧ i + 6 ≤ (L : Int)) {A : Nat → Nat} {S : Nat → va_E} {σ : CS} {m : CV} {f : Nat → Int64} (hR : zRR σ m) (hS : zvLs X A m f S) {kc ks : Nat} (hr : kc + (2 + 3 * zNd (σ 7) (σ 4) + 3 * zSb σ (zvXs xs (i + 1))) ≤ 601024 ∧ ks + (12 + 13652 * zNd (σ 7) (σ 4) + 13652 * zSb σ (zvXs xs (i + 1))) ≤ 7293034) (next : ∀ (A' : Nat → Nat) (S' : Nat → va_E) (σ' : CS) (m' : CV) (f' : Nat → Int64), zRR σ' m' → zvLs X A' m' f' S' → zvAk A A' → (∃ r, fX7_second σ (zvXs xs (i + 1)) = some (σ', r)) → G X mL_law (zLP X b) (kc + (2 + 3 * zNd (σ 7) (σ 4) + 3 * zSb σ (zvXs xs (i + 1)))) (ks + (12 + 13652 * zNd (σ 7) (σ 4) + 13652 * zSb σ (zvXs xs (i + 1)))) 3056 (zvLv b A' i) [] (zWs A' 113 (zSt X A' σ' S'))) : G X mL_law (zLP X b) kc ks 1878 (zvLv b A i) [] (zWs A 113 (zSt X A σ S)) := by
  have hX := hX2.1
  obtain ⟨res, er, u, eu, hR2, hAn⟩ := s_second hR (zvXs_r (xs := xs) (i := i + 1))
  have hko := zAn_k hAn (by decide) (by decide)
  refine g_aload_n (M := mL_law) dL_law_1878 1 rfl rfl ?_
  refine g_arg hE hb dL_law_1879 dL_law_1880 dL_law_1882 dL_law_1883 dL_law_1884 rfl rfl ⟨hi.1, by decide, by omega⟩ hLm ?_
  refine g_aload_n (M := mL_law) dL_law_1885 3 rfl rfl ?_
  refine g_callSHQ (M := mL_law) [.ref (A 0), .int (iI (zvXs xs (i + 1))), .ref (A 112)] hX dL_law_1886 rfl (fun h => by cases h) vHL_second kI_L ⟨by decide, by decide⟩ rfl vIL_second kM_L_254 (wL_second hX hL (by decide) (by decide) hS.2 er hko.1) (fun w E h => by obtain ⟨_, _, _, h3⟩ := h; cases h3) rfl ⟨(Nat.le_of_ble_eq_true rfl), (Nat.le_of_ble_eq_true rfl)⟩ ⟨hr.1, hr.2⟩ (Nat.le_of_ble_eq_true rfl) (fun w v hQ => ?_)
  obtain ⟨A', hA', hw, hv⟩ := hQ
  cases hv
  rw [hw]
  have hS1 := zvLs_o (r := res.2) (zvLs_k hS hA')
  rw [zvLv_k hA']
  refine g_istore (M := mL_law) (lv' := zvLv b A' i ++ [(5, .int (iI (zKo ["java/lang/IllegalArgumentException"] res.2)))]) dL_law_1889 (by decide) rfl ?_
  refine g_aload_n (M := mL_law) dL_law_1891 2 rfl rfl ?_
  refine g_arg hE hb dL_law_1892 dL_law_1893 dL_law_1895 dL_law_1896 dL_law_1897 rfl rfl ⟨hi.1, by decide, by omega⟩ hLm ?_
  refine g_callVr (M := mL_law) [.int (iI (zvXs xs (i + 1)))] hX dL_law_1898 vX8_second kM_L_256 (wX8_second hX (zvLs_c hS1) (by decide) eu) 91 (zWs_at (by decide) (zvLs_c hS1).o) rfl ⟨(Nat.le_of_ble_eq_true rfl), (Nat.le_of_ble_eq_true rfl)⟩ ⟨hr.1, hr.2⟩ (Nat.le_of_ble_eq_true rfl) ?_
  rw [zSt_zC]
  have hS2 := zvLs_m (m' := u.1) hS1
  refine g_istore (M := mL_law) (lv' := zvLv b A' i ++ [(5, .int (iI (zKo ["java/lang/IllegalArgumentException"] res.2))), (6, .int (iI u.2))]) dL_law_1901 (by decide) rfl ?_
  refine lc_tail hX hS2 hko.2.1 (by have h2 := hko.2.2.1; rw [hko.2.1] at h2; exact h2) (fun z => ?_) hr dL_law_1903 dL_law_1904 dL_law_1907 dL_law_1909 dL_law_1914 dL_law_1916 dL_law_1919 dL_law_1920 dL_law_1921 dL_law_1922 dL_law_1924 dL_law_1925 dL_law_1926 dL_law_1931 (by decide) ?_
  · obtain ⟨v, e1, e2, _⟩ := hko.2.2.2 (hko.2.1.trans z)
    rw [e1, zvLf_0, e2]
  · exact next A' _ res.1 u.1 _ hR2 hS2 hA' ⟨res.2, er⟩
set_option maxHeartbeats 4000000 in
set_option maxRecDepth 100000 in
theorem lc_count {X : zX} (hX2 : zOK2 X) (hL : zOL X) {b L : Nat} {xs : Nat → Int32} (hE : ∀ U, zE X U → va_X b L xs U U.heap) (hb : b < X.2.2.2.1) (hLm : L ≤ 3072) {i : Int} (hi : 0 ≤ i ∧ i + 6 ≤ (L : Int)) {A : Nat → Nat} {S : Nat → va_E} {σ : CS} {m : CV} {f : Nat → Int64} (hR : zRR σ m) (hS : zvLs X A m f S) {kc ks : Nat} (hr : kc + 1 ≤ 601024 ∧ ks + 6 ≤ 7293034) (next : ∀ (A' : Nat → Nat) (S' : Nat → va_E) (σ' : CS) (m' : CV) (f' : Nat → Int64), zRR σ' m' → zvLs X A' m' f' S' → zvAk A A' → (∃ r, fX7_count σ (zvXs xs (i + 1)) (zvXs xs (i + 2)) = some (σ', r)) → G X mL_law (zLP X b) (kc + 1) (ks + 6) 3056 (zvLv b A' i) [] (zWs A' 113 (zSt X A' σ' S'))) : G X mL_law (zLP X b) kc ks 1934 (zvLv b A i) [] (zWs A 113 (zSt X A σ S)) := by
  have hX := hX2.1
  obtain ⟨res, er, u, eu, hR2, hAn⟩ := s_count hR (zvXs_r (xs := xs) (i := i + 1)) (zvXs_r (xs := xs) (i := i + 2))
  have hko := zAn_k hAn (by decide) (by decide)
  refine g_aload_n (M := mL_law) dL_law_1934 1 rfl rfl ?_
  refine g_arg hE hb dL_law_1935 dL_law_1936 dL_law_1938 dL_law_1939 dL_law_1940 rfl rfl ⟨hi.1, by decide, by omega⟩ hLm ?_
  refine g_arg hE hb dL_law_1941 dL_law_1942 dL_law_1944 dL_law_1945 dL_law_1946 rfl rfl ⟨hi.1, by decide, by omega⟩ hLm ?_
  refine g_aload_n (M := mL_law) dL_law_1947 3 rfl rfl ?_
  refine g_callSHQ (M := mL_law) [.ref (A 0), .int (iI (zvXs xs (i + 1))), .int (iI (zvXs xs (i + 2))), .ref (A 112)] hX dL_law_1948 rfl (fun h => by cases h) vHL_count kI_L ⟨by decide, by decide⟩ rfl vIL_count kM_L_257 (wL_count hX hL (by decide) (by decide) hS.2 er hko.1) (fun w E h => by obtain ⟨_, _, _, h3⟩ := h; cases h3) rfl ⟨(Nat.le_of_ble_eq_true rfl), (Nat.le_of_ble_eq_true rfl)⟩ ⟨hr.1, hr.2⟩ (Nat.le_of_ble_eq_true rfl) (fun w v hQ => ?_)
  obtain ⟨A', hA', hw, hv⟩ := hQ
  cases hv
  rw [hw]
  have hS1 := zvLs_o (r := res.2) (zvLs_k hS hA')
  rw [zvLv_k hA']
  refine g_istore (M := mL_law) (lv' := zvLv b A' i ++ [(5, .int (iI (zKo ["java/lang/IndexOutOfBoundsException"] res.2)))]) dL_law_1951 (by decide) rfl ?_
  refine g_aload_n (M := mL_law) dL_law_1953 2 rfl rfl ?_
  refine g_arg hE hb dL_law_1954 dL_law_1955 dL_law_1957 dL_law_1958 dL_law_1959 rfl rfl ⟨hi.1, by decide, by omega⟩ hLm ?_
  refine g_arg hE hb dL_law_1960 dL_law_1961 dL_law_1963 dL_law_1964 dL_law_1965 rfl rfl ⟨hi.1, by decide, by omega⟩ hLm ?_
  refine g_callVr (M := mL_law) [.int (iI (zvXs xs (i + 1))), .int (iI (zvXs xs (i + 2)))] hX dL_law_1966 vX8_count kM_L_259 (wX8_count hX (zvLs_c hS1) (by decide) eu) 91 (zWs_at (by decide) (zvLs_c hS1).o) rfl ⟨(Nat.le_of_ble_eq_true rfl), (Nat.le_of_ble_eq_true rfl)⟩ ⟨hr.1, hr.2⟩ (Nat.le_of_ble_eq_true rfl) ?_
  rw [zSt_zC]
  have hS2 := zvLs_m (m' := u.1) hS1
  refine g_istore (M := mL_law) (lv' := zvLv b A' i ++ [(5, .int (iI (zKo ["java/lang/IndexOutOfBoundsException"] res.2))), (6, .int (iI u.2))]) dL_law_1969 (by decide) rfl ?_
  refine lc_tail hX hS2 hko.2.1 (by have h2 := hko.2.2.1; rw [hko.2.1] at h2; exact h2) (fun z => ?_) hr dL_law_1971 dL_law_1972 dL_law_1975 dL_law_1977 dL_law_1982 dL_law_1984 dL_law_1987 dL_law_1988 dL_law_1989 dL_law_1990 dL_law_1992 dL_law_1993 dL_law_1994 dL_law_1999 (by decide) ?_
  · obtain ⟨v, e1, e2, _⟩ := hko.2.2.2 (hko.2.1.trans z)
    rw [e1, zvLf_0, e2]
  · exact next A' _ res.1 u.1 _ hR2 hS2 hA' ⟨res.2, er⟩
set_option maxHeartbeats 4000000 in
set_option maxRecDepth 100000 in
theorem lc_weight {X : zX} (hX2 : zOK2 X) (hL : zOL X) {b L : Nat} {xs : Nat → Int32} (hE : ∀ U, zE X U → va_X b L xs U U.heap) (hb : b < X.2.2.2.1) (hLm : L ≤ 3072) {i : Int} (hi : 0 ≤ i ∧ i + 6 ≤ (L : Int)) {A : Nat → Nat} {S : Nat → va_E} {σ : CS} {m : CV} {f : Nat → Int64} (hR : zRR σ m) (hS : zvLs X A m f S) {kc ks : Nat} (hr : kc + 1 ≤ 601024 ∧ ks + 6 ≤ 7293034) (next : ∀ (A' : Nat → Nat) (S' : Nat → va_E) (σ' : CS) (m' : CV) (f' : Nat → Int64), zRR σ' m' → zvLs X A' m' f' S' → zvAk A A' → (∃ r, fX7_weight σ (zvXs xs (i + 1)) (zvXs xs (i + 2)) = some (σ', r)) → G X mL_law (zLP X b) (kc + 1) (ks + 6) 3056 (zvLv b A' i) [] (zWs A' 113 (zSt X A' σ' S'))) : G X mL_law (zLP X b) kc ks 2028 (zvLv b A i) [] (zWs A 113 (zSt X A σ S)) := by
  have hX := hX2.1
  obtain ⟨res, er, u, eu, hR2, hAn⟩ := s_weight hR (zvXs_r (xs := xs) (i := i + 1)) (zvXs_r (xs := xs) (i := i + 2))
  have hko := zAn_k hAn (by decide) (by decide)
  refine g_aload_n (M := mL_law) dL_law_2028 1 rfl rfl ?_
  refine g_arg hE hb dL_law_2029 dL_law_2030 dL_law_2032 dL_law_2033 dL_law_2034 rfl rfl ⟨hi.1, by decide, by omega⟩ hLm ?_
  refine g_arg hE hb dL_law_2035 dL_law_2036 dL_law_2038 dL_law_2039 dL_law_2040 rfl rfl ⟨hi.1, by decide, by omega⟩ hLm ?_
  refine g_aload_n (M := mL_law) dL_law_2041 3 rfl rfl ?_
  refine g_callSHQ (M := mL_law) [.ref (A 0), .int (iI (zvXs xs (i + 1))), .int (iI (zvXs xs (i + 2))), .ref (A 112)] hX dL_law_2042 rfl (fun h => by cases h) vHL_weight kI_L ⟨by decide, by decide⟩ rfl vIL_weight kM_L_268 (wL_weight hX hL (by decide) (by decide) hS.2 er hko.1) (fun w E h => by obtain ⟨_, _, _, h3⟩ := h; cases h3) rfl ⟨(Nat.le_of_ble_eq_true rfl), (Nat.le_of_ble_eq_true rfl)⟩ ⟨hr.1, hr.2⟩ (Nat.le_of_ble_eq_true rfl) (fun w v hQ => ?_)
  obtain ⟨A', hA', hw, hv⟩ := hQ
  cases hv
  rw [hw]
  have hS1 := zvLs_o (r := res.2) (zvLs_k hS hA')
  rw [zvLv_k hA']
  refine g_istore (M := mL_law) (lv' := zvLv b A' i ++ [(5, .int (iI (zKo ["java/lang/IndexOutOfBoundsException"] res.2)))]) dL_law_2045 (by decide) rfl ?_
  refine g_aload_n (M := mL_law) dL_law_2047 2 rfl rfl ?_
  refine g_arg hE hb dL_law_2048 dL_law_2049 dL_law_2051 dL_law_2052 dL_law_2053 rfl rfl ⟨hi.1, by decide, by omega⟩ hLm ?_
  refine g_arg hE hb dL_law_2054 dL_law_2055 dL_law_2057 dL_law_2058 dL_law_2059 rfl rfl ⟨hi.1, by decide, by omega⟩ hLm ?_
  refine g_callVr (M := mL_law) [.int (iI (zvXs xs (i + 1))), .int (iI (zvXs xs (i + 2)))] hX dL_law_2060 vX8_weight kM_L_270 (wX8_weight hX (zvLs_c hS1) (by decide) eu) 91 (zWs_at (by decide) (zvLs_c hS1).o) rfl ⟨(Nat.le_of_ble_eq_true rfl), (Nat.le_of_ble_eq_true rfl)⟩ ⟨hr.1, hr.2⟩ (Nat.le_of_ble_eq_true rfl) ?_
  rw [zSt_zC]
  have hS2 := zvLs_m (m' := u.1) hS1
  refine g_istore (M := mL_law) (lv' := zvLv b A' i ++ [(5, .int (iI (zKo ["java/lang/IndexOutOfBoundsException"] res.2))), (6, .int (iI u.2))]) dL_law_2063 (by decide) rfl ?_
  refine lc_tail hX hS2 hko.2.1 (by have h2 := hko.2.2.1; rw [hko.2.1] at h2; exact h2) (fun z => ?_) hr dL_law_2065 dL_law_2066 dL_law_2069 dL_law_2071 dL_law_2076 dL_law_2078 dL_law_2081 dL_law_2082 dL_law_2083 dL_law_2084 dL_law_2086 dL_law_2087 dL_law_2088 dL_law_2093 (by decide) ?_
  · obtain ⟨v, e1, e2, _⟩ := hko.2.2.2 (hko.2.1.trans z)
    rw [e1, zvLf_0, e2]
  · exact next A' _ res.1 u.1 _ hR2 hS2 hA' ⟨res.2, er⟩
set_option maxHeartbeats 4000000 in
set_option maxRecDepth 100000 in
theorem lc_tryFrom {X : zX} (hX2 : zOK2 X) (hL : zOL X) {b L : Nat} {xs : Nat → Int32} (hE : ∀ U, zE X U → va_X b L xs U U.heap) (hb : b < X.2.2.2.1) (hLm : L ≤ 3072) {i : Int} (hi : 0 ≤ i ∧ i + 6 ≤ (L : Int)) {A : Nat → Nat} {S : Nat → va_E} {σ : CS} {m : CV} {f : Nat → Int64} (hR : zRR σ m) (hS : zvLs X A m f S) {kc ks : Nat} (hr : kc + 1 ≤ 601024 ∧ ks + 6 ≤ 7293034) (next : ∀ (A' : Nat → Nat) (S' : Nat → va_E) (σ' : CS) (m' : CV) (f' : Nat → Int64), zRR σ' m' → zvLs X A' m' f' S' → zvAk A A' → (∃ r, fX7_tryFrom σ (zvXs xs (i + 1)) (zvXs xs (i + 2)) = some (σ', r)) → G X mL_law (zLP X b) (kc + 1) (ks + 6) 3056 (zvLv b A' i) [] (zWs A' 113 (zSt X A' σ' S'))) : G X mL_law (zLP X b) kc ks 2096 (zvLv b A i) [] (zWs A 113 (zSt X A σ S)) := by
  have hX := hX2.1
  obtain ⟨res, er, u, eu, hR2, hAn⟩ := s_tryFrom hR (zvXs_r (xs := xs) (i := i + 1)) (zvXs_r (xs := xs) (i := i + 2))
  have hko := zAn_k hAn (by decide) (by decide)
  refine g_aload_n (M := mL_law) dL_law_2096 1 rfl rfl ?_
  refine g_arg hE hb dL_law_2097 dL_law_2098 dL_law_2100 dL_law_2101 dL_law_2102 rfl rfl ⟨hi.1, by decide, by omega⟩ hLm ?_
  refine g_arg hE hb dL_law_2103 dL_law_2104 dL_law_2106 dL_law_2107 dL_law_2108 rfl rfl ⟨hi.1, by decide, by omega⟩ hLm ?_
  refine g_aload_n (M := mL_law) dL_law_2109 3 rfl rfl ?_
  refine g_callSHQ (M := mL_law) [.ref (A 0), .int (iI (zvXs xs (i + 1))), .int (iI (zvXs xs (i + 2))), .ref (A 112)] hX dL_law_2110 rfl (fun h => by cases h) vHL_tryFrom kI_L ⟨by decide, by decide⟩ rfl vIL_tryFrom kM_L_271 (wL_tryFrom hX hL (by decide) (by decide) hS.2 er hko.1) (fun w E h => by obtain ⟨_, _, _, h3⟩ := h; cases h3) rfl ⟨(Nat.le_of_ble_eq_true rfl), (Nat.le_of_ble_eq_true rfl)⟩ ⟨hr.1, hr.2⟩ (Nat.le_of_ble_eq_true rfl) (fun w v hQ => ?_)
  obtain ⟨A', hA', hw, hv⟩ := hQ
  cases hv
  rw [hw]
  have hS1 := zvLs_o (r := res.2) (zvLs_k hS hA')
  rw [zvLv_k hA']
  refine g_istore (M := mL_law) (lv' := zvLv b A' i ++ [(5, .int (iI (zKo ["java/lang/IndexOutOfBoundsException"] res.2)))]) dL_law_2113 (by decide) rfl ?_
  refine g_aload_n (M := mL_law) dL_law_2115 2 rfl rfl ?_
  refine g_arg hE hb dL_law_2116 dL_law_2117 dL_law_2119 dL_law_2120 dL_law_2121 rfl rfl ⟨hi.1, by decide, by omega⟩ hLm ?_
  refine g_arg hE hb dL_law_2122 dL_law_2123 dL_law_2125 dL_law_2126 dL_law_2127 rfl rfl ⟨hi.1, by decide, by omega⟩ hLm ?_
  refine g_callVr (M := mL_law) [.int (iI (zvXs xs (i + 1))), .int (iI (zvXs xs (i + 2)))] hX dL_law_2128 vX8_tryFrom kM_L_273 (wX8_tryFrom hX (zvLs_c hS1) (by decide) eu) 91 (zWs_at (by decide) (zvLs_c hS1).o) rfl ⟨(Nat.le_of_ble_eq_true rfl), (Nat.le_of_ble_eq_true rfl)⟩ ⟨hr.1, hr.2⟩ (Nat.le_of_ble_eq_true rfl) ?_
  rw [zSt_zC]
  have hS2 := zvLs_m (m' := u.1) hS1
  refine g_istore (M := mL_law) (lv' := zvLv b A' i ++ [(5, .int (iI (zKo ["java/lang/IndexOutOfBoundsException"] res.2))), (6, .int (iI u.2))]) dL_law_2131 (by decide) rfl ?_
  refine lc_tail hX hS2 hko.2.1 (by have h2 := hko.2.2.1; rw [hko.2.1] at h2; exact h2) (fun z => ?_) hr dL_law_2133 dL_law_2134 dL_law_2137 dL_law_2139 dL_law_2144 dL_law_2146 dL_law_2149 dL_law_2150 dL_law_2151 dL_law_2152 dL_law_2154 dL_law_2155 dL_law_2156 dL_law_2161 (by decide) ?_
  · obtain ⟨v, e1, e2, _⟩ := hko.2.2.2 (hko.2.1.trans z)
    rw [e1, zvLf_0, e2]
  · exact next A' _ res.1 u.1 _ hR2 hS2 hA' ⟨res.2, er⟩
set_option maxHeartbeats 4000000 in
set_option maxRecDepth 100000 in
theorem lc_bestStart {X : zX} (hX2 : zOK2 X) (hL : zOL X) {b L : Nat} {xs : Nat → Int32} (hE : ∀ U, zE X U → va_X b L xs U U.heap) (hb : b < X.2.2.2.1) (hLm : L ≤ 3072) {i : Int} (hi : 0 ≤ i ∧ i + 6 ≤ (L : Int)) {A : Nat → Nat} {S : Nat → va_E} {σ : CS} {m : CV} {f : Nat → Int64} (hR : zRR σ m) (hS : zvLs X A m f S) {kc ks : Nat} (hr : kc + 1 ≤ 601024 ∧ ks + 6 ≤ 7293034) (next : ∀ (A' : Nat → Nat) (S' : Nat → va_E) (σ' : CS) (m' : CV) (f' : Nat → Int64), zRR σ' m' → zvLs X A' m' f' S' → zvAk A A' → (∃ r, fX7_bestStart σ (zvXs xs (i + 1)) = some (σ', r)) → G X mL_law (zLP X b) (kc + 1) (ks + 6) 3056 (zvLv b A' i) [] (zWs A' 113 (zSt X A' σ' S'))) : G X mL_law (zLP X b) kc ks 2164 (zvLv b A i) [] (zWs A 113 (zSt X A σ S)) := by
  have hX := hX2.1
  obtain ⟨res, er, u, eu, hR2, hAn⟩ := s_bestStart hR (zvXs_r (xs := xs) (i := i + 1))
  have hko := zAn_k hAn (by decide) (by decide)
  refine g_aload_n (M := mL_law) dL_law_2164 1 rfl rfl ?_
  refine g_arg hE hb dL_law_2165 dL_law_2166 dL_law_2168 dL_law_2169 dL_law_2170 rfl rfl ⟨hi.1, by decide, by omega⟩ hLm ?_
  refine g_aload_n (M := mL_law) dL_law_2171 3 rfl rfl ?_
  refine g_callSHQ (M := mL_law) [.ref (A 0), .int (iI (zvXs xs (i + 1))), .ref (A 112)] hX dL_law_2172 rfl (fun h => by cases h) vHL_bestStart kI_L ⟨by decide, by decide⟩ rfl vIL_bestStart kM_L_274 (wL_bestStart hX hL (by decide) (by decide) hS.2 er hko.1) (fun w E h => by obtain ⟨_, _, _, h3⟩ := h; cases h3) rfl ⟨(Nat.le_of_ble_eq_true rfl), (Nat.le_of_ble_eq_true rfl)⟩ ⟨hr.1, hr.2⟩ (Nat.le_of_ble_eq_true rfl) (fun w v hQ => ?_)
  obtain ⟨A', hA', hw, hv⟩ := hQ
  cases hv
  rw [hw]
  have hS1 := zvLs_o (r := res.2) (zvLs_k hS hA')
  rw [zvLv_k hA']
  refine g_istore (M := mL_law) (lv' := zvLv b A' i ++ [(5, .int (iI (zKo ["java/lang/IndexOutOfBoundsException"] res.2)))]) dL_law_2175 (by decide) rfl ?_
  refine g_aload_n (M := mL_law) dL_law_2177 2 rfl rfl ?_
  refine g_arg hE hb dL_law_2178 dL_law_2179 dL_law_2181 dL_law_2182 dL_law_2183 rfl rfl ⟨hi.1, by decide, by omega⟩ hLm ?_
  refine g_callVr (M := mL_law) [.int (iI (zvXs xs (i + 1)))] hX dL_law_2184 vX8_bestStart kM_L_276 (wX8_bestStart hX (zvLs_c hS1) (by decide) eu) 91 (zWs_at (by decide) (zvLs_c hS1).o) rfl ⟨(Nat.le_of_ble_eq_true rfl), (Nat.le_of_ble_eq_true rfl)⟩ ⟨hr.1, hr.2⟩ (Nat.le_of_ble_eq_true rfl) ?_
  rw [zSt_zC]
  have hS2 := zvLs_m (m' := u.1) hS1
  refine g_istore (M := mL_law) (lv' := zvLv b A' i ++ [(5, .int (iI (zKo ["java/lang/IndexOutOfBoundsException"] res.2))), (6, .int (iI u.2))]) dL_law_2187 (by decide) rfl ?_
  refine lc_tail hX hS2 hko.2.1 (by have h2 := hko.2.2.1; rw [hko.2.1] at h2; exact h2) (fun z => ?_) hr dL_law_2189 dL_law_2190 dL_law_2193 dL_law_2195 dL_law_2200 dL_law_2202 dL_law_2205 dL_law_2206 dL_law_2207 dL_law_2208 dL_law_2210 dL_law_2211 dL_law_2212 dL_law_2217 (by decide) ?_
  · obtain ⟨v, e1, e2, _⟩ := hko.2.2.2 (hko.2.1.trans z)
    rw [e1, zvLf_0, e2]
  · exact next A' _ res.1 u.1 _ hR2 hS2 hA' ⟨res.2, er⟩
set_option maxHeartbeats 4000000 in
set_option maxRecDepth 100000 in
theorem lc_improvesToEnd {X : zX} (hX2 : zOK2 X) (hL : zOL X) {b L : Nat} {xs : Nat → Int32} (hE : ∀ U, zE X U → va_X b L xs U U.heap) (hb : b < X.2.2.2.1) (hLm : L ≤ 3072) {i : Int} (hi : 0 ≤ i ∧ i + 6 ≤ (L : Int)) {A : Nat → Nat} {S : Nat → va_E} {σ : CS} {m : CV} {f : Nat → Int64} (hR : zRR σ m) (hS : zvLs X A m f S) {kc ks : Nat} (hr : kc + 1 ≤ 601024 ∧ ks + 6 ≤ 7293034) (next : ∀ (A' : Nat → Nat) (S' : Nat → va_E) (σ' : CS) (m' : CV) (f' : Nat → Int64), zRR σ' m' → zvLs X A' m' f' S' → zvAk A A' → (∃ r, fX7_improvesToEnd σ (zvXs xs (i + 1)) = some (σ', r)) → G X mL_law (zLP X b) (kc + 1) (ks + 6) 3056 (zvLv b A' i) [] (zWs A' 113 (zSt X A' σ' S'))) : G X mL_law (zLP X b) kc ks 2304 (zvLv b A i) [] (zWs A 113 (zSt X A σ S)) := by
  have hX := hX2.1
  obtain ⟨res, er, u, eu, hR2, hAn⟩ := s_improvesToEnd hR (zvXs_r (xs := xs) (i := i + 1))
  have hko := zAn_k hAn (by decide) (by decide)
  refine g_aload_n (M := mL_law) dL_law_2304 1 rfl rfl ?_
  refine g_arg hE hb dL_law_2305 dL_law_2306 dL_law_2308 dL_law_2309 dL_law_2310 rfl rfl ⟨hi.1, by decide, by omega⟩ hLm ?_
  refine g_aload_n (M := mL_law) dL_law_2311 3 rfl rfl ?_
  refine g_callSHQ (M := mL_law) [.ref (A 0), .int (iI (zvXs xs (i + 1))), .ref (A 112)] hX dL_law_2312 rfl (fun h => by cases h) vHL_improvesToEnd kI_L ⟨by decide, by decide⟩ rfl vIL_improvesToEnd kM_L_287 (wL_improvesToEnd hX hL (by decide) (by decide) hS.2 er hko.1) (fun w E h => by obtain ⟨_, _, _, h3⟩ := h; cases h3) rfl ⟨(Nat.le_of_ble_eq_true rfl), (Nat.le_of_ble_eq_true rfl)⟩ ⟨hr.1, hr.2⟩ (Nat.le_of_ble_eq_true rfl) (fun w v hQ => ?_)
  obtain ⟨A', hA', hw, hv⟩ := hQ
  cases hv
  rw [hw]
  have hS1 := zvLs_o (r := res.2) (zvLs_k hS hA')
  rw [zvLv_k hA']
  refine g_istore (M := mL_law) (lv' := zvLv b A' i ++ [(5, .int (iI (zKo ["java/lang/IllegalArgumentException"] res.2)))]) dL_law_2315 (by decide) rfl ?_
  refine g_aload_n (M := mL_law) dL_law_2317 2 rfl rfl ?_
  refine g_arg hE hb dL_law_2318 dL_law_2319 dL_law_2321 dL_law_2322 dL_law_2323 rfl rfl ⟨hi.1, by decide, by omega⟩ hLm ?_
  refine g_callVr (M := mL_law) [.int (iI (zvXs xs (i + 1)))] hX dL_law_2324 vX8_improvesToEnd kM_L_289 (wX8_improvesToEnd hX (zvLs_c hS1) (by decide) eu) 91 (zWs_at (by decide) (zvLs_c hS1).o) rfl ⟨(Nat.le_of_ble_eq_true rfl), (Nat.le_of_ble_eq_true rfl)⟩ ⟨hr.1, hr.2⟩ (Nat.le_of_ble_eq_true rfl) ?_
  rw [zSt_zC]
  have hS2 := zvLs_m (m' := u.1) hS1
  refine g_istore (M := mL_law) (lv' := zvLv b A' i ++ [(5, .int (iI (zKo ["java/lang/IllegalArgumentException"] res.2))), (6, .int (iI u.2))]) dL_law_2327 (by decide) rfl ?_
  refine lc_tail hX hS2 hko.2.1 (by have h2 := hko.2.2.1; rw [hko.2.1] at h2; exact h2) (fun z => ?_) hr dL_law_2329 dL_law_2330 dL_law_2333 dL_law_2335 dL_law_2340 dL_law_2342 dL_law_2345 dL_law_2346 dL_law_2347 dL_law_2348 dL_law_2350 dL_law_2351 dL_law_2352 dL_law_2357 (by decide) ?_
  · obtain ⟨v, e1, e2, _⟩ := hko.2.2.2 (hko.2.1.trans z)
    rw [e1, zvLf_0, e2]
  · exact next A' _ res.1 u.1 _ hR2 hS2 hA' ⟨res.2, er⟩
set_option maxHeartbeats 4000000 in
set_option maxRecDepth 100000 in
theorem lc_choose {X : zX} (hX2 : zOK2 X) (hL : zOL X) {b L : Nat} {xs : Nat → Int32} (hE : ∀ U, zE X U → va_X b L xs U U.heap) (hb : b < X.2.2.2.1) (hLm : L ≤ 3072) {i : Int} (hi : 0 ≤ i ∧ i + 6 ≤ (L : Int)) {A : Nat → Nat} {S : Nat → va_E} {σ : CS} {m : CV} {f : Nat → Int64} (hR : zRR σ m) (hS : zvLs X A m f S) {kc ks : Nat} (hr : kc + 2 ≤ 601024 ∧ ks + 12 ≤ 7293034) (next : ∀ (A' : Nat → Nat) (S' : Nat → va_E) (σ' : CS) (m' : CV) (f' : Nat → Int64), zRR σ' m' → zvLs X A' m' f' S' → zvAk A A' → (∃ r, fX7_choose σ (zvXs xs (i + 1)) (zvXs xs (i + 2)) = some (σ', r)) → G X mL_law (zLP X b) (kc + 2) (ks + 12) 3056 (zvLv b A' i) [] (zWs A' 113 (zSt X A' σ' S'))) : G X mL_law (zLP X b) kc ks 2360 (zvLv b A i) [] (zWs A 113 (zSt X A σ S)) := by
  have hX := hX2.1
  obtain ⟨res, er, u, eu, hR2, hAn⟩ := s_choose hR (zvXs_r (xs := xs) (i := i + 1)) (zvXs_r (xs := xs) (i := i + 2))
  have hko := zAn_k hAn (by decide) (by decide)
  refine g_aload_n (M := mL_law) dL_law_2360 1 rfl rfl ?_
  refine g_arg hE hb dL_law_2361 dL_law_2362 dL_law_2364 dL_law_2365 dL_law_2366 rfl rfl ⟨hi.1, by decide, by omega⟩ hLm ?_
  refine g_arg hE hb dL_law_2367 dL_law_2368 dL_law_2370 dL_law_2371 dL_law_2372 rfl rfl ⟨hi.1, by decide, by omega⟩ hLm ?_
  refine g_aload_n (M := mL_law) dL_law_2373 3 rfl rfl ?_
  refine g_callSHQ (M := mL_law) [.ref (A 0), .int (iI (zvXs xs (i + 1))), .int (iI (zvXs xs (i + 2))), .ref (A 112)] hX dL_law_2374 rfl (fun h => by cases h) vHL_choose kI_L ⟨by decide, by decide⟩ rfl vIL_choose kM_L_290 (wL_choose hX hL (by decide) (by decide) hS.2 er hko.1) (fun w E h => by obtain ⟨_, _, _, h3⟩ := h; cases h3) rfl ⟨(Nat.le_of_ble_eq_true rfl), (Nat.le_of_ble_eq_true rfl)⟩ ⟨hr.1, hr.2⟩ (Nat.le_of_ble_eq_true rfl) (fun w v hQ => ?_)
  obtain ⟨A', hA', hw, hv⟩ := hQ
  cases hv
  rw [hw]
  have hS1 := zvLs_o (r := res.2) (zvLs_k hS hA')
  rw [zvLv_k hA']
  refine g_istore (M := mL_law) (lv' := zvLv b A' i ++ [(5, .int (iI (zKo ["java/lang/IndexOutOfBoundsException", "java/lang/IllegalArgumentException"] res.2)))]) dL_law_2377 (by decide) rfl ?_
  refine g_aload_n (M := mL_law) dL_law_2379 2 rfl rfl ?_
  refine g_arg hE hb dL_law_2380 dL_law_2381 dL_law_2383 dL_law_2384 dL_law_2385 rfl rfl ⟨hi.1, by decide, by omega⟩ hLm ?_
  refine g_arg hE hb dL_law_2386 dL_law_2387 dL_law_2389 dL_law_2390 dL_law_2391 rfl rfl ⟨hi.1, by decide, by omega⟩ hLm ?_
  refine g_callVr (M := mL_law) [.int (iI (zvXs xs (i + 1))), .int (iI (zvXs xs (i + 2)))] hX dL_law_2392 vX8_choose kM_L_292 (wX8_choose hX (zvLs_c hS1) (by decide) eu) 91 (zWs_at (by decide) (zvLs_c hS1).o) rfl ⟨(Nat.le_of_ble_eq_true rfl), (Nat.le_of_ble_eq_true rfl)⟩ ⟨hr.1, hr.2⟩ (Nat.le_of_ble_eq_true rfl) ?_
  rw [zSt_zC]
  have hS2 := zvLs_m (m' := u.1) hS1
  refine g_istore (M := mL_law) (lv' := zvLv b A' i ++ [(5, .int (iI (zKo ["java/lang/IndexOutOfBoundsException", "java/lang/IllegalArgumentException"] res.2))), (6, .int (iI u.2))]) dL_law_2395 (by decide) rfl ?_
  refine lc_tail hX hS2 hko.2.1 (by have h2 := hko.2.2.1; rw [hko.2.1] at h2; exact h2) (fun z => ?_) hr dL_law_2397 dL_law_2398 dL_law_2401 dL_law_2403 dL_law_2408 dL_law_2410 dL_law_2413 dL_law_2414 dL_law_2415 dL_law_2416 dL_law_2418 dL_law_2419 dL_law_2420 dL_law_2425 (by decide) ?_
  · obtain ⟨v, e1, e2, _⟩ := hko.2.2.2 (hko.2.1.trans z)
    rw [e1, zvLf_0, e2]
  · exact next A' _ res.1 u.1 _ hR2 hS2 hA' ⟨res.2, er⟩
set_option maxHeartbeats 4000000 in
set_option maxRecDepth 100000 in
theorem lc_clear {X : zX} (hX2 : zOK2 X) (hL : zOL X) {b L : Nat} {xs : Nat → Int32} (hE : ∀ U, zE X U → va_X b L xs U U.heap) (hb : b < X.2.2.2.1) (hLm : L ≤ 3072) {i : Int} (hi : 0 ≤ i ∧ i + 6 ≤ (L : Int)) {A : Nat → Nat} {S : Nat → va_E} {σ : CS} {m : CV} {f : Nat → Int64} (hR : zRR σ m) (hS : zvLs X A m f S) {kc ks : Nat} (hr : kc + 2 ≤ 601024 ∧ ks + 12 ≤ 7293034) (next : ∀ (A' : Nat → Nat) (S' : Nat → va_E) (σ' : CS) (m' : CV) (f' : Nat → Int64), zRR σ' m' → zvLs X A' m' f' S' → zvAk A A' → (∃ r, fX7_clear σ (zvXs xs (i + 1)) = some (σ', r)) → G X mL_law (zLP X b) (kc + 2) (ks + 12) 3056 (zvLv b A' i) [] (zWs A' 113 (zSt X A' σ' S'))) : G X mL_law (zLP X b) kc ks 2428 (zvLv b A i) [] (zWs A 113 (zSt X A σ S)) := by
  have hX := hX2.1
  obtain ⟨res, er, u, eu, hR2, hAn⟩ := s_clear hR (zvXs_r (xs := xs) (i := i + 1))
  have hko := zAn_k hAn (by decide) (by decide)
  refine g_aload_n (M := mL_law) dL_law_2428 1 rfl rfl ?_
  refine g_arg hE hb dL_law_2429 dL_law_2430 dL_law_2432 dL_law_2433 dL_law_2434 rfl rfl ⟨hi.1, by decide, by omega⟩ hLm ?_
  refine g_aload_n (M := mL_law) dL_law_2435 3 rfl rfl ?_
  refine g_callSHQ (M := mL_law) [.ref (A 0), .int (iI (zvXs xs (i + 1))), .ref (A 112)] hX dL_law_2436 rfl (fun h => by cases h) vHL_clear kI_L ⟨by decide, by decide⟩ rfl vIL_clear kM_L_293 (wL_clear hX hL (by decide) (by decide) hS.2 er hko.1) (fun w E h => by obtain ⟨_, _, _, h3⟩ := h; cases h3) rfl ⟨(Nat.le_of_ble_eq_true rfl), (Nat.le_of_ble_eq_true rfl)⟩ ⟨hr.1, hr.2⟩ (Nat.le_of_ble_eq_true rfl) (fun w v hQ => ?_)
  obtain ⟨A', hA', hw, hv⟩ := hQ
  cases hv
  rw [hw]
  have hS1 := zvLs_o (r := res.2) (zvLs_k hS hA')
  rw [zvLv_k hA']
  refine g_istore (M := mL_law) (lv' := zvLv b A' i ++ [(5, .int (iI (zKo ["java/lang/IndexOutOfBoundsException", "java/lang/IllegalStateException"] res.2)))]) dL_law_2439 (by decide) rfl ?_
  refine g_aload_n (M := mL_law) dL_law_2441 2 rfl rfl ?_
  refine g_arg hE hb dL_law_2442 dL_law_2443 dL_law_2445 dL_law_2446 dL_law_2447 rfl rfl ⟨hi.1, by decide, by omega⟩ hLm ?_
  refine g_callVr (M := mL_law) [.int (iI (zvXs xs (i + 1)))] hX dL_law_2448 vX8_clear kM_L_295 (wX8_clear hX (zvLs_c hS1) (by decide) eu) 91 (zWs_at (by decide) (zvLs_c hS1).o) rfl ⟨(Nat.le_of_ble_eq_true rfl), (Nat.le_of_ble_eq_true rfl)⟩ ⟨hr.1, hr.2⟩ (Nat.le_of_ble_eq_true rfl) ?_
  rw [zSt_zC]
  have hS2 := zvLs_m (m' := u.1) hS1
  refine g_istore (M := mL_law) (lv' := zvLv b A' i ++ [(5, .int (iI (zKo ["java/lang/IndexOutOfBoundsException", "java/lang/IllegalStateException"] res.2))), (6, .int (iI u.2))]) dL_law_2451 (by decide) rfl ?_
  refine lc_tail hX hS2 hko.2.1 (by have h2 := hko.2.2.1; rw [hko.2.1] at h2; exact h2) (fun z => ?_) hr dL_law_2453 dL_law_2454 dL_law_2457 dL_law_2459 dL_law_2464 dL_law_2466 dL_law_2469 dL_law_2470 dL_law_2471 dL_law_2472 dL_law_2474 dL_law_2475 dL_law_2476 dL_law_2481 (by decide) ?_
  · obtain ⟨v, e1, e2, _⟩ := hko.2.2.2 (hko.2.1.trans z)
    rw [e1, zvLf_0, e2]
  · exact next A' _ res.1 u.1 _ hR2 hS2 hA' ⟨res.2, er⟩
set_option maxHeartbeats 4000000 in
set_option maxRecDepth 100000 in
theorem lc_better {X : zX} (hX2 : zOK2 X) (hL : zOL X) {b L : Nat} {xs : Nat → Int32} (hE : ∀ U, zE X U → va_X b L xs U U.heap) (hb : b < X.2.2.2.1) (hLm : L ≤ 3072) {i : Int} (hi : 0 ≤ i ∧ i + 6 ≤ (L : Int)) {A : Nat → Nat} {S : Nat → va_E} {σ : CS} {m : CV} {f : Nat → Int64} (hR : zRR σ m) (hS : zvLs X A m f S) {kc ks : Nat} (hr : kc + 2 ≤ 601024 ∧ ks + 12 ≤ 7293034) (next : ∀ (A' : Nat → Nat) (S' : Nat → va_E) (σ' : CS) (m' : CV) (f' : Nat → Int64), zRR σ' m' → zvLs X A' m' f' S' → zvAk A A' → (∃ r, fX7_better σ (zvXs xs (i + 1)) = some (σ', r)) → G X mL_law (zLP X b) (kc + 2) (ks + 12) 3056 (zvLv b A' i) [] (zWs A' 113 (zSt X A' σ' S'))) : G X mL_law (zLP X b) kc ks 2484 (zvLv b A i) [] (zWs A 113 (zSt X A σ S)) := by
  have hX := hX2.1
  obtain ⟨res, er, u, eu, hR2, hAn⟩ := s_better hR (zvXs_r (xs := xs) (i := i + 1))
  have hko := zAn_k hAn (by decide) (by decide)
  refine g_aload_n (M := mL_law) dL_law_2484 1 rfl rfl ?_
  refine g_arg hE hb dL_law_2485 dL_law_2486 dL_law_2488 dL_law_2489 dL_law_2490 rfl rfl ⟨hi.1, by decide, by omega⟩ hLm ?_
  refine g_aload_n (M := mL_law) dL_law_2491 3 rfl rfl ?_
  refine g_callSHQ (M := mL_law) [.ref (A 0), .int (iI (zvXs xs (i + 1))), .ref (A 112)] hX dL_law_2492 rfl (fun h => by cases h) vHL_better kI_L ⟨by decide, by decide⟩ rfl vIL_better kM_L_296 (wL_better hX hL (by decide) (by decide) hS.2 er hko.1) (fun w E h => by obtain ⟨_, _, _, h3⟩ := h; cases h3) rfl ⟨(Nat.le_of_ble_eq_true rfl), (Nat.le_of_ble_eq_true rfl)⟩ ⟨hr.1, hr.2⟩ (Nat.le_of_ble_eq_true rfl) (fun w v hQ => ?_)
  obtain ⟨A', hA', hw, hv⟩ := hQ
  cases hv
  rw [hw]
  have hS1 := zvLs_o (r := res.2) (zvLs_k hS hA')
  rw [zvLv_k hA']
  refine g_istore (M := mL_law) (lv' := zvLv b A' i ++ [(5, .int (iI (zKo ["java/lang/IndexOutOfBoundsException", "java/lang/IllegalStateException"] res.2)))]) dL_law_2495 (by decide) rfl ?_
  refine g_aload_n (M := mL_law) dL_law_2497 2 rfl rfl ?_
  refine g_arg hE hb dL_law_2498 dL_law_2499 dL_law_2501 dL_law_2502 dL_law_2503 rfl rfl ⟨hi.1, by decide, by omega⟩ hLm ?_
  refine g_callVr (M := mL_law) [.int (iI (zvXs xs (i + 1)))] hX dL_law_2504 vX8_better kM_L_298 (wX8_better hX (zvLs_c hS1) (by decide) eu) 91 (zWs_at (by decide) (zvLs_c hS1).o) rfl ⟨(Nat.le_of_ble_eq_true rfl), (Nat.le_of_ble_eq_true rfl)⟩ ⟨hr.1, hr.2⟩ (Nat.le_of_ble_eq_true rfl) ?_
  rw [zSt_zC]
  have hS2 := zvLs_m (m' := u.1) hS1
  refine g_istore (M := mL_law) (lv' := zvLv b A' i ++ [(5, .int (iI (zKo ["java/lang/IndexOutOfBoundsException", "java/lang/IllegalStateException"] res.2))), (6, .int (iI u.2))]) dL_law_2507 (by decide) rfl ?_
  refine lc_tail hX hS2 hko.2.1 (by have h2 := hko.2.2.1; rw [hko.2.1] at h2; exact h2) (fun z => ?_) hr dL_law_2509 dL_law_2510 dL_law_2513 dL_law_2515 dL_law_2520 dL_law_2522 dL_law_2525 dL_law_2526 dL_law_2527 dL_law_2528 dL_law_2530 dL_law_2531 dL_law_2532 dL_law_2537 (by decide) ?_
  · obtain ⟨v, e1, e2, _⟩ := hko.2.2.2 (hko.2.1.trans z)
    rw [e1, zvLf_0, e2]
  · exact next A' _ res.1 u.1 _ hR2 hS2 hA' ⟨res.2, er⟩
set_option maxHeartbeats 4000000 in
set_option maxRecDepth 100000 in
theorem lc_improve {X : zX} (hX2 : zOK2 X) (hL : zOL X) {b L : Nat} {xs : Nat → Int32} (hE : ∀ U, zE X U → va_X b L xs U U.heap) (hb : b < X.2.2.2.1) (hLm : L ≤ 3072) {i : Int} (hi : 0 ≤ i ∧ i + 6 ≤ (L : Int)) {A : Nat → Nat} {S : Nat → va_E} {σ : CS} {m : CV} {f : Nat → Int64} (hR : zRR σ m) (hS : zvLs X A m f S) {kc ks : Nat} (hr : kc + 1 ≤ 601024 ∧ ks + 6 ≤ 7293034) (next : ∀ (A' : Nat → Nat) (S' : Nat → va_E) (σ' : CS) (m' : CV) (f' : Nat → Int64), zRR σ' m' → zvLs X A' m' f' S' → zvAk A A' → (∃ r, fX7_improve σ (zvXs xs (i + 1)) = some (σ', r)) → G X mL_law (zLP X b) (kc + 1) (ks + 6) 3056 (zvLv b A' i) [] (zWs A' 113 (zSt X A' σ' S'))) : G X mL_law (zLP X b) kc ks 2540 (zvLv b A i) [] (zWs A 113 (zSt X A σ S)) := by
  have hX := hX2.1
  obtain ⟨res, er, u, eu, hR2, hAn⟩ := s_improve hR (zvXs_r (xs := xs) (i := i + 1))
  have hko := zAn_k hAn (by decide) (by decide)
  refine g_aload_n (M := mL_law) dL_law_2540 1 rfl rfl ?_
  refine g_arg hE hb dL_law_2541 dL_law_2542 dL_law_2544 dL_law_2545 dL_law_2546 rfl rfl ⟨hi.1, by decide, by omega⟩ hLm ?_
  refine g_aload_n (M := mL_law) dL_law_2547 3 rfl rfl ?_
  refine g_callSHQ (M := mL_law) [.ref (A 0), .int (iI (zvXs xs (i + 1))), .ref (A 112)] hX dL_law_2548 rfl (fun h => by cases h) vHL_improve kI_L ⟨by decide, by decide⟩ rfl vIL_improve kM_L_299 (wL_improve hX hL (by decide) (by decide) hS.2 er hko.1) (fun w E h => by obtain ⟨_, _, _, h3⟩ := h; cases h3) rfl ⟨(Nat.le_of_ble_eq_true rfl), (Nat.le_of_ble_eq_true rfl)⟩ ⟨hr.1, hr.2⟩ (Nat.le_of_ble_eq_true rfl) (fun w v hQ => ?_)
  obtain ⟨A', hA', hw, hv⟩ := hQ
  cases hv
  rw [hw]
  have hS1 := zvLs_o (r := res.2) (zvLs_k hS hA')
  rw [zvLv_k hA']
  refine g_istore (M := mL_law) (lv' := zvLv b A' i ++ [(5, .int (iI (zKo ["java/lang/IllegalArgumentException"] res.2)))]) dL_law_2551 (by decide) rfl ?_
  refine g_aload_n (M := mL_law) dL_law_2553 2 rfl rfl ?_
  refine g_arg hE hb dL_law_2554 dL_law_2555 dL_law_2557 dL_law_2558 dL_law_2559 rfl rfl ⟨hi.1, by decide, by omega⟩ hLm ?_
  refine g_callVr (M := mL_law) [.int (iI (zvXs xs (i + 1)))] hX dL_law_2560 vX8_improve kM_L_301 (wX8_improve hX (zvLs_c hS1) (by decide) eu) 91 (zWs_at (by decide) (zvLs_c hS1).o) rfl ⟨(Nat.le_of_ble_eq_true rfl), (Nat.le_of_ble_eq_true rfl)⟩ ⟨hr.1, hr.2⟩ (Nat.le_of_ble_eq_true rfl) ?_
  rw [zSt_zC]
  have hS2 := zvLs_m (m' := u.1) hS1
  refine g_istore (M := mL_law) (lv' := zvLv b A' i ++ [(5, .int (iI (zKo ["java/lang/IllegalArgumentException"] res.2))), (6, .int (iI u.2))]) dL_law_2563 (by decide) rfl ?_
  refine lc_tail hX hS2 hko.2.1 (by have h2 := hko.2.2.1; rw [hko.2.1] at h2; exact h2) (fun z => ?_) hr dL_law_2565 dL_law_2566 dL_law_2569 dL_law_2571 dL_law_2576 dL_law_2578 dL_law_2581 dL_law_2582 dL_law_2583 dL_law_2584 dL_law_2586 dL_law_2587 dL_law_2588 dL_law_2593 (by decide) ?_
  · obtain ⟨v, e1, e2, _⟩ := hko.2.2.2 (hko.2.1.trans z)
    rw [e1, zvLf_0, e2]
  · exact next A' _ res.1 u.1 _ hR2 hS2 hA' ⟨res.2, er⟩
set_option maxHeartbeats 4000000 in
set_option maxRecDepth 100000 in
theorem lc_take {X : zX} (hX2 : zOK2 X) (hL : zOL X) {b L : Nat} {xs : Nat → Int32} (hE : ∀ U, zE X U → va_X b L xs U U.heap) (hb : b < X.2.2.2.1) (hLm : L ≤ 3072) {i : Int} (hi : 0 ≤ i ∧ i + 6 ≤ (L : Int)) {A : Nat → Nat} {S : Nat → va_E} {σ : CS} {m : CV} {f : Nat → Int64} (hR : zRR σ m) (hS : zvLs X A m f S) {kc ks : Nat} (hr : kc + 2 ≤ 601024 ∧ ks + 12 ≤ 7293034) (next : ∀ (A' : Nat → Nat) (S' : Nat → va_E) (σ' : CS) (m' : CV) (f' : Nat → Int64), zRR σ' m' → zvLs X A' m' f' S' → zvAk A A' → (∃ r, fX7_take σ (zvXs xs (i + 1)) = some (σ', r)) → G X mL_law (zLP X b) (kc + 2) (ks + 12) 3056 (zvLv b A' i) [] (zWs A' 113 (zSt X A' σ' S'))) : G X mL_law (zLP X b) kc ks 2596 (zvLv b A i) [] (zWs A 113 (zSt X A σ S)) := by
  have hX := hX2.1
  obtain ⟨res, er, u, eu, hR2, hAn⟩ := s_take hR (zvXs_r (xs := xs) (i := i + 1))
  have hko := zAn_k hAn (by decide) (by decide)
  refine g_aload_n (M := mL_law) dL_law_2596 1 rfl rfl ?_
  refine g_arg hE hb dL_law_2597 dL_law_2598 dL_law_2600 dL_law_2601 dL_law_2602 rfl rfl ⟨hi.1, by decide, by omega⟩ hLm ?_
  refine g_aload_n (M := mL_law) dL_law_2603 3 rfl rfl ?_
  refine g_callSHQ (M := mL_law) [.ref (A 0), .int (iI (zvXs xs (i + 1))), .ref (A 112)] hX dL_law_2604 rfl (fun h => by cases h) vHL_take kI_L ⟨by decide, by decide⟩ rfl vIL_take kM_L_302 (wL_take hX hL (by decide) (by decide) hS.2 er hko.1) (fun w E h => by obtain ⟨_, _, _, h3⟩ := h; cases h3) rfl ⟨(Nat.le_of_ble_eq_true rfl), (Nat.le_of_ble_eq_true rfl)⟩ ⟨hr.1, hr.2⟩ (Nat.le_of_ble_eq_true rfl) (fun w v hQ => ?_)
  obtain ⟨A', hA', hw, hv⟩ := hQ
  cases hv
  rw [hw]
  have hS1 := zvLs_o (r := res.2) (zvLs_k hS hA')
  rw [zvLv_k hA']
  refine g_istore (M := mL_law) (lv' := zvLv b A' i ++ [(5, .int (iI (zKo ["java/lang/IndexOutOfBoundsException", "java/lang/IllegalStateException"] res.2)))]) dL_law_2607 (by decide) rfl ?_
  refine g_aload_n (M := mL_law) dL_law_2609 2 rfl rfl ?_
  refine g_arg hE hb dL_law_2610 dL_law_2611 dL_law_2613 dL_law_2614 dL_law_2615 rfl rfl ⟨hi.1, by decide, by omega⟩ hLm ?_
  refine g_callVr (M := mL_law) [.int (iI (zvXs xs (i + 1)))] hX dL_law_2616 vX8_take kM_L_304 (wX8_take hX (zvLs_c hS1) (by decide) eu) 91 (zWs_at (by decide) (zvLs_c hS1).o) rfl ⟨(Nat.le_of_ble_eq_true rfl), (Nat.le_of_ble_eq_true rfl)⟩ ⟨hr.1, hr.2⟩ (Nat.le_of_ble_eq_true rfl) ?_
  rw [zSt_zC]
  have hS2 := zvLs_m (m' := u.1) hS1
  refine g_istore (M := mL_law) (lv' := zvLv b A' i ++ [(5, .int (iI (zKo ["java/lang/IndexOutOfBoundsException", "java/lang/IllegalStateException"] res.2))), (6, .int (iI u.2))]) dL_law_2619 (by decide) rfl ?_
  refine lc_tail hX hS2 hko.2.1 (by have h2 := hko.2.2.1; rw [hko.2.1] at h2; exact h2) (fun z => ?_) hr dL_law_2621 dL_law_2622 dL_law_2625 dL_law_2627 dL_law_2632 dL_law_2634 dL_law_2637 dL_law_2638 dL_law_2639 dL_law_2640 dL_law_2642 dL_law_2643 dL_law_2644 dL_law_2649 (by decide) ?_
  · obtain ⟨v, e1, e2, _⟩ := hko.2.2.2 (hko.2.1.trans z)
    rw [e1, zvLf_0, e2]
  · exact next A' _ res.1 u.1 _ hR2 hS2 hA' ⟨res.2, er⟩
set_option maxHeartbeats 4000000 in
set_option maxRecDepth 100000 in
theorem lc_takeBest {X : zX} (hX2 : zOK2 X) (hL : zOL X) {b L : Nat} {xs : Nat → Int32} (hE : ∀ U, zE X U → va_X b L xs U U.heap) (hb : b < X.2.2.2.1) (hLm : L ≤ 3072) {i : Int} (hi : 0 ≤ i ∧ i + 6 ≤ (L : Int)) {A : Nat → Nat} {S : Nat → va_E} {σ : CS} {m : CV} {f : Nat → Int64} (hR : zRR σ m) (hS : zvLs X A m f S) {kc ks : Nat} (hr : kc + (2 + 3 * zNd (σ 7) (σ 4)) ≤ 601024 ∧ ks + (12 + 13652 * zNd (σ 7) (σ 4)) ≤ 7293034) (next : ∀ (A' : Nat → Nat) (S' : Nat → va_E) (σ' : CS) (m' : CV) (f' : Nat → Int64), zRR σ' m' → zvLs X A' m' f' S' → zvAk A A' → (∃ r, fX7_takeBest σ  = some (σ', r)) → G X mL_law (zLP X b) (kc + (2 + 3 * zNd (σ 7) (σ 4))) (ks + (12 + 13652 * zNd (σ 7) (σ 4))) 3056 (zvLv b A' i) [] (zWs A' 113 (zSt X A' σ' S'))) : G X mL_law (zLP X b) kc ks 2652 (zvLv b A i) [] (zWs A 113 (zSt X A σ S)) := by
  have hX := hX2.1
  obtain ⟨res, er, u, eu, hR2, hAn⟩ := s_takeBest hR
  have hko := zAn_k hAn (by decide) (by decide)
  refine g_aload_n (M := mL_law) dL_law_2652 1 rfl rfl ?_
  refine g_aload_n (M := mL_law) dL_law_2653 3 rfl rfl ?_
  refine g_callSHQ (M := mL_law) [.ref (A 0), .ref (A 112)] hX dL_law_2654 rfl (fun h => by cases h) vHL_takeBest kI_L ⟨by decide, by decide⟩ rfl vIL_takeBest kM_L_305 (wL_takeBest hX hL (by decide) (by decide) hS.2 er hko.1) (fun w E h => by obtain ⟨_, _, _, h3⟩ := h; cases h3) rfl ⟨(Nat.le_of_ble_eq_true rfl), (Nat.le_of_ble_eq_true rfl)⟩ ⟨hr.1, hr.2⟩ (Nat.le_of_ble_eq_true rfl) (fun w v hQ => ?_)
  obtain ⟨A', hA', hw, hv⟩ := hQ
  cases hv
  rw [hw]
  have hS1 := zvLs_o (r := res.2) (zvLs_k hS hA')
  rw [zvLv_k hA']
  refine g_istore (M := mL_law) (lv' := zvLv b A' i ++ [(5, .int (iI (zKo ["java/lang/IllegalStateException"] res.2)))]) dL_law_2657 (by decide) rfl ?_
  refine g_aload_n (M := mL_law) dL_law_2659 2 rfl rfl ?_
  refine g_callVr (M := mL_law) [] hX dL_law_2660 vX8_takeBest kM_L_307 (wX8_takeBest hX (zvLs_c hS1) (by decide) eu) 91 (zWs_at (by decide) (zvLs_c hS1).o) rfl ⟨(Nat.le_of_ble_eq_true rfl), (Nat.le_of_ble_eq_true rfl)⟩ ⟨hr.1, hr.2⟩ (Nat.le_of_ble_eq_true rfl) ?_
  rw [zSt_zC]
  have hS2 := zvLs_m (m' := u.1) hS1
  refine g_istore (M := mL_law) (lv' := zvLv b A' i ++ [(5, .int (iI (zKo ["java/lang/IllegalStateException"] res.2))), (6, .int (iI u.2))]) dL_law_2663 (by decide) rfl ?_
  refine lc_tail hX hS2 hko.2.1 (by have h2 := hko.2.2.1; rw [hko.2.1] at h2; exact h2) (fun z => ?_) hr dL_law_2665 dL_law_2666 dL_law_2669 dL_law_2671 dL_law_2676 dL_law_2678 dL_law_2681 dL_law_2682 dL_law_2683 dL_law_2684 dL_law_2686 dL_law_2687 dL_law_2688 dL_law_2693 (by decide) ?_
  · obtain ⟨v, e1, e2, _⟩ := hko.2.2.2 (hko.2.1.trans z)
    rw [e1, zvLf_0, e2]
  · exact next A' _ res.1 u.1 _ hR2 hS2 hA' ⟨res.2, er⟩
set_option maxHeartbeats 4000000 in
set_option maxRecDepth 100000 in
theorem lc_whyNotTake {X : zX} (hX2 : zOK2 X) (hL : zOL X) {b L : Nat} {xs : Nat → Int32} (hE : ∀ U, zE X U → va_X b L xs U U.heap) (hb : b < X.2.2.2.1) (hLm : L ≤ 3072) {i : Int} (hi : 0 ≤ i ∧ i + 6 ≤ (L : Int)) {A : Nat → Nat} {S : Nat → va_E} {σ : CS} {m : CV} {f : Nat → Int64} (hR : zRR σ m) (hS : zvLs X A m f S) {kc ks : Nat} (hr : kc + 1 ≤ 601024 ∧ ks + 6 ≤ 7293034) (next : ∀ (A' : Nat → Nat) (S' : Nat → va_E) (σ' : CS) (m' : CV) (f' : Nat → Int64), zRR σ' m' → zvLs X A' m' f' S' → zvAk A A' → (σ' = σ) → G X mL_law (zLP X b) (kc + 1) (ks + 6) 3056 (zvLv b A' i) [] (zWs A' 113 (zSt X A' σ' S'))) : G X mL_law (zLP X b) kc ks 2696 (zvLv b A i) [] (zWs A 113 (zSt X A σ S)) := by
  have hX := hX2.1
  obtain ⟨res, er, u, eu, hR2, hAn⟩ := s_whyNotTake hR (zvXs_r (xs := xs) (i := i + 1))
  have hko := zAn_k hAn (by decide) (by decide)
  refine g_aload_n (M := mL_law) dL_law_2696 1 rfl rfl ?_
  refine g_arg hE hb dL_law_2697 dL_law_2698 dL_law_2700 dL_law_2701 dL_law_2702 rfl rfl ⟨hi.1, by decide, by omega⟩ hLm ?_
  refine g_aload_n (M := mL_law) dL_law_2703 3 rfl rfl ?_
  refine g_callSHQ (M := mL_law) [.ref (A 0), .int (iI (zvXs xs (i + 1))), .ref (A 112)] hX dL_law_2704 rfl (fun h => by cases h) vHL_whyNotTake kI_L ⟨by decide, by decide⟩ rfl vIL_whyNotTake kM_L_308 (wL_whyNotTake hX hL (by decide) (by decide) hS.2 er hko.1) (fun w E h => by obtain ⟨_, _, _, h3⟩ := h; cases h3) rfl ⟨(Nat.le_of_ble_eq_true rfl), (Nat.le_of_ble_eq_true rfl)⟩ ⟨hr.1, hr.2⟩ (Nat.le_of_ble_eq_true rfl) (fun w v hQ => ?_)
  obtain ⟨A', hA', hw, hv⟩ := hQ
  cases hv
  rw [hw]
  have hS1 := zvLs_o (r := res) (zvLs_k hS hA')
  rw [zvLv_k hA']
  refine g_istore (M := mL_law) (lv' := zvLv b A' i ++ [(5, .int (iI (zKo ["java/lang/IndexOutOfBoundsException"] res)))]) dL_law_2707 (by decide) rfl ?_
  refine g_aload_n (M := mL_law) dL_law_2709 2 rfl rfl ?_
  refine g_arg hE hb dL_law_2710 dL_law_2711 dL_law_2713 dL_law_2714 dL_law_2715 rfl rfl ⟨hi.1, by decide, by omega⟩ hLm ?_
  refine g_callVr (M := mL_law) [.int (iI (zvXs xs (i + 1)))] hX dL_law_2716 vX8_whyNotTake kM_L_310 (wX8_whyNotTake hX (zvLs_c hS1) (by decide) eu) 91 (zWs_at (by decide) (zvLs_c hS1).o) rfl ⟨(Nat.le_of_ble_eq_true rfl), (Nat.le_of_ble_eq_true rfl)⟩ ⟨hr.1, hr.2⟩ (Nat.le_of_ble_eq_true rfl) ?_
  rw [zSt_zC]
  have hS2 := zvLs_m (m' := u.1) hS1
  refine g_istore (M := mL_law) (lv' := zvLv b A' i ++ [(5, .int (iI (zKo ["java/lang/IndexOutOfBoundsException"] res))), (6, .int (iI u.2))]) dL_law_2719 (by decide) rfl ?_
  refine lc_tail hX hS2 hko.2.1 (by have h2 := hko.2.2.1; rw [hko.2.1] at h2; exact h2) (fun z => ?_) hr dL_law_2721 dL_law_2722 dL_law_2725 dL_law_2727 dL_law_2732 dL_law_2734 dL_law_2737 dL_law_2738 dL_law_2739 dL_law_2740 dL_law_2742 dL_law_2743 dL_law_2744 dL_law_2749 (by decide) ?_
  · obtain ⟨v, e1, e2, _⟩ := hko.2.2.2 (hko.2.1.trans z)
    rw [e1, zvLf_0, e2]
  · exact next A' _ σ u.1 _ hR2 hS2 hA' rfl
set_option maxHeartbeats 4000000 in
set_option maxRecDepth 100000 in
theorem lc_setOut {X : zX} (hX2 : zOK2 X) (hL : zOL X) {b L : Nat} {xs : Nat → Int32} (hE : ∀ U, zE X U → va_X b L xs U U.heap) (hb : b < X.2.2.2.1) (hLm : L ≤ 3072) {i : Int} (hi : 0 ≤ i ∧ i + 6 ≤ (L : Int)) {A : Nat → Nat} {S : Nat → va_E} {σ : CS} {m : CV} {f : Nat → Int64} (hR : zRR σ m) (hS : zvLs X A m f S) {kc ks : Nat} (hr : kc + 2 ≤ 601024 ∧ ks + 12 ≤ 7293034) (next : ∀ (A' : Nat → Nat) (S' : Nat → va_E) (σ' : CS) (m' : CV) (f' : Nat → Int64), zRR σ' m' → zvLs X A' m' f' S' → zvAk A A' → (∃ r, fX7_setOut σ (zvXs xs (i + 1)) (b2 (!decide (zvXs xs (i + 2) = 0))) = some (σ', r)) → G X mL_law (zLP X b) (kc + 2) (ks + 12) 3056 (zvLv b A' i) [] (zWs A' 113 (zSt X A' σ' S'))) : G X mL_law (zLP X b) kc ks 2777 (zvLv b A i) [] (zWs A 113 (zSt X A σ S)) := by
  have hX := hX2.1
  obtain ⟨res, er, u, eu, hR2, hAn⟩ := s_setOut hR (zvXs_r (xs := xs) (i := i + 1)) (!decide (zvXs xs (i + 2) = 0))
  have hko := zAn_k hAn (by decide) (by decide)
  refine g_aload_n (M := mL_law) dL_law_2777 1 rfl rfl ?_
  refine g_arg hE hb dL_law_2778 dL_law_2779 dL_law_2781 dL_law_2782 dL_law_2783 rfl rfl ⟨hi.1, by decide, by omega⟩ hLm ?_
  refine g_arg hE hb dL_law_2784 dL_law_2785 dL_law_2787 dL_law_2788 dL_law_2789 rfl rfl ⟨hi.1, by decide, by omega⟩ hLm ?_
  refine g_nz zvXs_r dL_law_2790 dL_law_2793 dL_law_2794 dL_law_2797 ?_
  refine g_aload_n (M := mL_law) dL_law_2798 3 rfl rfl ?_
  refine g_callSHQ (M := mL_law) [.ref (A 0), .int (iI (zvXs xs (i + 1))), .int (iI (b2 (!decide (zvXs xs (i + 2) = 0)))), .ref (A 112)] hX dL_law_2799 rfl (fun h => by cases h) vHL_setOut kI_L ⟨by decide, by decide⟩ rfl vIL_setOut kM_L_315 (wL_setOut hX hL (by decide) (by decide) hS.2 er hko.1) (fun w E h => by obtain ⟨_, _, _, h3⟩ := h; cases h3) rfl ⟨(Nat.le_of_ble_eq_true rfl), (Nat.le_of_ble_eq_true rfl)⟩ ⟨hr.1, hr.2⟩ (Nat.le_of_ble_eq_true rfl) (fun w v hQ => ?_)
  obtain ⟨A', hA', hw, hv⟩ := hQ
  cases hv
  rw [hw]
  have hS1 := zvLs_o (r := res.2) (zvLs_k hS hA')
  rw [zvLv_k hA']
  refine g_istore (M := mL_law) (lv' := zvLv b A' i ++ [(5, .int (iI (zKo ["java/lang/IndexOutOfBoundsException", "java/lang/IllegalStateException"] res.2)))]) dL_law_2802 (by decide) rfl ?_
  refine g_aload_n (M := mL_law) dL_law_2804 2 rfl rfl ?_
  refine g_arg hE hb dL_law_2805 dL_law_2806 dL_law_2808 dL_law_2809 dL_law_2810 rfl rfl ⟨hi.1, by decide, by omega⟩ hLm ?_
  refine g_arg hE hb dL_law_2811 dL_law_2812 dL_law_2814 dL_law_2815 dL_law_2816 rfl rfl ⟨hi.1, by decide, by omega⟩ hLm ?_
  refine g_nz zvXs_r dL_law_2817 dL_law_2820 dL_law_2821 dL_law_2824 ?_
  refine g_callVr (M := mL_law) [.int (iI (zvXs xs (i + 1))), .int (iI (b2 (!decide (zvXs xs (i + 2) = 0))))] hX dL_law_2825 vX8_setOut kM_L_318 (wX8_setOut hX (zvLs_c hS1) (by decide) eu) 91 (zWs_at (by decide) (zvLs_c hS1).o) rfl ⟨(Nat.le_of_ble_eq_true rfl), (Nat.le_of_ble_eq_true rfl)⟩ ⟨hr.1, hr.2⟩ (Nat.le_of_ble_eq_true rfl) ?_
  rw [zSt_zC]
  have hS2 := zvLs_m (m' := u.1) hS1
  refine g_istore (M := mL_law) (lv' := zvLv b A' i ++ [(5, .int (iI (zKo ["java/lang/IndexOutOfBoundsException", "java/lang/IllegalStateException"] res.2))), (6, .int (iI u.2))]) dL_law_2828 (by decide) rfl ?_
  refine lc_tail hX hS2 hko.2.1 (by have h2 := hko.2.2.1; rw [hko.2.1] at h2; exact h2) (fun z => ?_) hr dL_law_2830 dL_law_2831 dL_law_2834 dL_law_2836 dL_law_2841 dL_law_2843 dL_law_2846 dL_law_2847 dL_law_2848 dL_law_2849 dL_law_2851 dL_law_2852 dL_law_2853 dL_law_2858 (by decide) ?_
  · obtain ⟨v, e1, e2, _⟩ := hko.2.2.2 (hko.2.1.trans z)
    rw [e1, zvLf_0, e2]
  · exact next A' _ res.1 u.1 _ hR2 hS2 hA' ⟨res.2, er⟩
set_option maxHeartbeats 4000000 in
set_option maxRecDepth 100000 in
theorem lc_setChanges {X : zX} (hX2 : zOK2 X) (hL : zOL X) {b L : Nat} {xs : Nat → Int32} (hE : ∀ U, zE X U → va_X b L xs U U.heap) (hb : b < X.2.2.2.1) (hLm : L ≤ 3072) {i : Int} (hi : 0 ≤ i ∧ i + 6 ≤ (L : Int)) {A : Nat → Nat} {S : Nat → va_E} {σ : CS} {m : CV} {f : Nat → Int64} (hR : zRR σ m) (hS : zvLs X A m f S) {kc ks : Nat} (hr : kc + 1 ≤ 601024 ∧ ks + 6 ≤ 7293034) (next : ∀ (A' : Nat → Nat) (S' : Nat → va_E) (σ' : CS) (m' : CV) (f' : Nat → Int64), zRR σ' m' → zvLs X A' m' f' S' → zvAk A A' → (∃ r, fX7_setChanges σ (zvXs xs (i + 1)) = some (σ', r)) → G X mL_law (zLP X b) (kc + 1) (ks + 6) 3056 (zvLv b A' i) [] (zWs A' 113 (zSt X A' σ' S'))) : G X mL_law (zLP X b) kc ks 2861 (zvLv b A i) [] (zWs A 113 (zSt X A σ S)) := by
  have hX := hX2.1
  obtain ⟨res, er, u, eu, hR2, hAn⟩ := s_setChanges hR (zvXs_r (xs := xs) (i := i + 1))
  have hko := zAn_k hAn (by decide) (by decide)
  refine g_aload_n (M := mL_law) dL_law_2861 1 rfl rfl ?_
  refine g_arg hE hb dL_law_2862 dL_law_2863 dL_law_2865 dL_law_2866 dL_law_2867 rfl rfl ⟨hi.1, by decide, by omega⟩ hLm ?_
  refine g_aload_n (M := mL_law) dL_law_2868 3 rfl rfl ?_
  refine g_callSHQ (M := mL_law) [.ref (A 0), .int (iI (zvXs xs (i + 1))), .ref (A 112)] hX dL_law_2869 rfl (fun h => by cases h) vHL_setChanges kI_L ⟨by decide, by decide⟩ rfl vIL_setChanges kM_L_319 (wL_setChanges hX hL (by decide) (by decide) hS.2 er hko.1) (fun w E h => by obtain ⟨_, _, _, h3⟩ := h; cases h3) rfl ⟨(Nat.le_of_ble_eq_true rfl), (Nat.le_of_ble_eq_true rfl)⟩ ⟨hr.1, hr.2⟩ (Nat.le_of_ble_eq_true rfl) (fun w v hQ => ?_)
  obtain ⟨A', hA', hw, hv⟩ := hQ
  cases hv
  rw [hw]
  have hS1 := zvLs_o (r := res.2) (zvLs_k hS hA')
  rw [zvLv_k hA']
  refine g_istore (M := mL_law) (lv' := zvLv b A' i ++ [(5, .int (iI (zKo ["java/lang/IllegalArgumentException"] res.2)))]) dL_law_2872 (by decide) rfl ?_
  refine g_aload_n (M := mL_law) dL_law_2874 2 rfl rfl ?_
  refine g_arg hE hb dL_law_2875 dL_law_2876 dL_law_2878 dL_law_2879 dL_law_2880 rfl rfl ⟨hi.1, by decide, by omega⟩ hLm ?_
  refine g_callVr (M := mL_law) [.int (iI (zvXs xs (i + 1)))] hX dL_law_2881 vX8_setChanges kM_L_321 (wX8_setChanges hX (zvLs_c hS1) (by decide) eu) 91 (zWs_at (by decide) (zvLs_c hS1).o) rfl ⟨(Nat.le_of_ble_eq_true rfl), (Nat.le_of_ble_eq_true rfl)⟩ ⟨hr.1, hr.2⟩ (Nat.le_of_ble_eq_true rfl) ?_
  rw [zSt_zC]
  have hS2 := zvLs_m (m' := u.1) hS1
  refine g_istore (M := mL_law) (lv' := zvLv b A' i ++ [(5, .int (iI (zKo ["java/lang/IllegalArgumentException"] res.2))), (6, .int (iI u.2))]) dL_law_2884 (by decide) rfl ?_
  refine lc_tail hX hS2 hko.2.1 (by have h2 := hko.2.2.1; rw [hko.2.1] at h2; exact h2) (fun z => ?_) hr dL_law_2886 dL_law_2887 dL_law_2890 dL_law_2892 dL_law_2897 dL_law_2899 dL_law_2902 dL_law_2903 dL_law_2904 dL_law_2905 dL_law_2907 dL_law_2908 dL_law_2909 dL_law_2914 (by decide) ?_
  · obtain ⟨v, e1, e2, _⟩ := hko.2.2.2 (hko.2.1.trans z)
    rw [e1, zvLf_0, e2]
  · exact next A' _ res.1 u.1 _ hR2 hS2 hA' ⟨res.2, er⟩
set_option maxHeartbeats 4000000 in
set_option maxRecDepth 100000 in
theorem lc_reportByte {X : zX} (hX2 : zOK2 X) (hL : zOL X) {b L : Nat} {xs : Nat → Int32} (hE : ∀ U, zE X U → va_X b L xs U U.heap) (hb : b < X.2.2.2.1) (hLm : L ≤ 3072) {i : Int} (hi : 0 ≤ i ∧ i + 6 ≤ (L : Int)) {A : Nat → Nat} {S : Nat → va_E} {σ : CS} {m : CV} {f : Nat → Int64} (hR : zRR σ m) (hS : zvLs X A m f S) {kc ks : Nat} (hr : kc + 1 ≤ 601024 ∧ ks + 6 ≤ 7293034) (next : ∀ (A' : Nat → Nat) (S' : Nat → va_E) (σ' : CS) (m' : CV) (f' : Nat → Int64), zRR σ' m' → zvLs X A' m' f' S' → zvAk A A' → (σ' = σ) → G X mL_law (zLP X b) (kc + 1) (ks + 6) 3056 (zvLv b A' i) [] (zWs A' 113 (zSt X A' σ' S'))) : G X mL_law (zLP X b) kc ks 2930 (zvLv b A i) [] (zWs A 113 (zSt X A σ S)) := by
  have hX := hX2.1
  obtain ⟨res, er, u, eu, hR2, hAn⟩ := s_reportByte hR (zvXs_r (xs := xs) (i := i + 1))
  have hko := zAn_k hAn (by decide) (by decide)
  refine g_aload_n (M := mL_law) dL_law_2930 1 rfl rfl ?_
  refine g_arg hE hb dL_law_2931 dL_law_2932 dL_law_2934 dL_law_2935 dL_law_2936 rfl rfl ⟨hi.1, by decide, by omega⟩ hLm ?_
  refine g_aload_n (M := mL_law) dL_law_2937 3 rfl rfl ?_
  refine g_callSHQ (M := mL_law) [.ref (A 0), .int (iI (zvXs xs (i + 1))), .ref (A 112)] hX dL_law_2938 rfl (fun h => by cases h) vHL_reportByte kI_L ⟨by decide, by decide⟩ rfl vIL_reportByte kM_L_326 (wL_reportByte hX hL (by decide) (by decide) hS.2 er hko.1) (fun w E h => by obtain ⟨_, _, _, h3⟩ := h; cases h3) rfl ⟨(Nat.le_of_ble_eq_true rfl), (Nat.le_of_ble_eq_true rfl)⟩ ⟨hr.1, hr.2⟩ (Nat.le_of_ble_eq_true rfl) (fun w v hQ => ?_)
  obtain ⟨A', hA', hw, hv⟩ := hQ
  cases hv
  rw [hw]
  have hS1 := zvLs_o (r := res) (zvLs_k hS hA')
  rw [zvLv_k hA']
  refine g_istore (M := mL_law) (lv' := zvLv b A' i ++ [(5, .int (iI (zKo ["java/lang/IndexOutOfBoundsException"] res)))]) dL_law_2941 (by decide) rfl ?_
  refine g_aload_n (M := mL_law) dL_law_2943 2 rfl rfl ?_
  refine g_arg hE hb dL_law_2944 dL_law_2945 dL_law_2947 dL_law_2948 dL_law_2949 rfl rfl ⟨hi.1, by decide, by omega⟩ hLm ?_
  refine g_callVr (M := mL_law) [.int (iI (zvXs xs (i + 1)))] hX dL_law_2950 vX8_reportByte kM_L_328 (wX8_reportByte hX (zvLs_c hS1) (by decide) eu) 91 (zWs_at (by decide) (zvLs_c hS1).o) rfl ⟨(Nat.le_of_ble_eq_true rfl), (Nat.le_of_ble_eq_true rfl)⟩ ⟨hr.1, hr.2⟩ (Nat.le_of_ble_eq_true rfl) ?_
  rw [zSt_zC]
  have hS2 := zvLs_m (m' := u.1) hS1
  refine g_istore (M := mL_law) (lv' := zvLv b A' i ++ [(5, .int (iI (zKo ["java/lang/IndexOutOfBoundsException"] res))), (6, .int (iI u.2))]) dL_law_2953 (by decide) rfl ?_
  refine lc_tail hX hS2 hko.2.1 (by have h2 := hko.2.2.1; rw [hko.2.1] at h2; exact h2) (fun z => ?_) hr dL_law_2955 dL_law_2956 dL_law_2959 dL_law_2961 dL_law_2966 dL_law_2968 dL_law_2971 dL_law_2972 dL_law_2973 dL_law_2974 dL_law_2976 dL_law_2977 dL_law_2978 dL_law_2983 (by decide) ?_
  · obtain ⟨v, e1, e2, _⟩ := hko.2.2.2 (hko.2.1.trans z)
    rw [e1, zvLf_0, e2]
  · exact next A' _ σ u.1 _ hR2 hS2 hA' rfl
set_option maxHeartbeats 4000000 in
set_option maxRecDepth 100000 in
theorem lc_restore {X : zX} (hX2 : zOK2 X) (hL : zOL X) {b L : Nat} {xs : Nat → Int32} (hE : ∀ U, zE X U → va_X b L xs U U.heap) (hb : b < X.2.2.2.1) (hLm : L ≤ 3072) {i : Int} (hi : 0 ≤ i ∧ i + 6 ≤ (L : Int)) {A : Nat → Nat} {S : Nat → va_E} {σ : CS} {m : CV} {f : Nat → Int64} (hR : zRR σ m) (hS : zvLs X A m f S) {kc ks : Nat} (hr : kc + 1 ≤ 601024 ∧ ks + 6 ≤ 7293034) (next : ∀ (A' : Nat → Nat) (S' : Nat → va_E) (σ' : CS) (m' : CV) (f' : Nat → Int64), zRR σ' m' → zvLs X A' m' f' S' → zvAk A A' → (∃ r, fX7_restore σ  = some (σ', r)) → G X mL_law (zLP X b) (kc + 1) (ks + 6) 3056 (zvLv b A' i) [] (zWs A' 113 (zSt X A' σ' S'))) : G X mL_law (zLP X b) kc ks 3012 (zvLv b A i) [] (zWs A 113 (zSt X A σ S)) := by
  have hX := hX2.1
  obtain ⟨res, er, u, eu, hR2, hAn⟩ := s_restore hR
  have hko := zAn_k hAn (by decide) (by decide)
  refine g_aload_n (M := mL_law) dL_law_3012 1 rfl rfl ?_
  refine g_aload_n (M := mL_law) dL_law_3013 3 rfl rfl ?_
  refine g_callSHQ (M := mL_law) [.ref (A 0), .ref (A 112)] hX dL_law_3014 rfl (fun h => by cases h) vHL_restore kI_L ⟨by decide, by decide⟩ rfl vIL_restore kM_L_337 (wL_restore hX hL (by decide) (by decide) hS.2 er hko.1) (fun w E h => by obtain ⟨_, _, _, h3⟩ := h; cases h3) rfl ⟨(Nat.le_of_ble_eq_true rfl), (Nat.le_of_ble_eq_true rfl)⟩ ⟨hr.1, hr.2⟩ (Nat.le_of_ble_eq_true rfl) (fun w v hQ => ?_)
  obtain ⟨A', hA', hw, hv⟩ := hQ
  cases hv
  rw [hw]
  have hS1 := zvLs_o (r := res.2) (zvLs_k hS hA')
  rw [zvLv_k hA']
  refine g_istore (M := mL_law) (lv' := zvLv b A' i ++ [(5, .int (iI (zKo ["java/lang/IllegalStateException"] res.2)))]) dL_law_3017 (by decide) rfl ?_
  refine g_aload_n (M := mL_law) dL_law_3019 2 rfl rfl ?_
  refine g_callVr (M := mL_law) [] hX dL_law_3020 vX8_restore kM_L_339 (wX8_restore hX (zvLs_c hS1) (by decide) eu) 91 (zWs_at (by decide) (zvLs_c hS1).o) rfl ⟨(Nat.le_of_ble_eq_true rfl), (Nat.le_of_ble_eq_true rfl)⟩ ⟨hr.1, hr.2⟩ (Nat.le_of_ble_eq_true rfl) ?_
  rw [zSt_zC]
  have hS2 := zvLs_m (m' := u.1) hS1
  refine g_istore (M := mL_law) (lv' := zvLv b A' i ++ [(5, .int (iI (zKo ["java/lang/IllegalStateException"] res.2))), (6, .int (iI u.2))]) dL_law_3023 (by decide) rfl ?_
  refine lc_tail hX hS2 hko.2.1 (by have h2 := hko.2.2.1; rw [hko.2.1] at h2; exact h2) (fun z => ?_) hr dL_law_3025 dL_law_3026 dL_law_3029 dL_law_3031 dL_law_3036 dL_law_3038 dL_law_3041 dL_law_3042 dL_law_3043 dL_law_3044 dL_law_3046 dL_law_3047 dL_law_3048 dL_law_3053 (by decide) ?_
  · obtain ⟨v, e1, e2, _⟩ := hko.2.2.2 (hko.2.1.trans z)
    rw [e1, zvLf_0, e2]
  · exact next A' _ res.1 u.1 _ hR2 hS2 hA' ⟨res.2, er⟩
set_option maxHeartbeats 4000000 in
set_option maxRecDepth 100000 in
theorem lc_errorCode {X : zX} (hX2 : zOK2 X) (hL : zOL X) {b L : Nat} {xs : Nat → Int32} (hE : ∀ U, zE X U → va_X b L xs U U.heap) (hb : b < X.2.2.2.1) (hLm : L ≤ 3072) {i : Int} (hi : 0 ≤ i ∧ i + 6 ≤ (L : Int)) {A : Nat → Nat} {S : Nat → va_E} {σ : CS} {m : CV} {f : Nat → Int64} (hR : zRR σ m) (hS : zvLs X A m f S) {kc ks : Nat} (hr : kc + 0 ≤ 601024 ∧ ks + 0 ≤ 7293034) (next : ∀ (A' : Nat → Nat) (S' : Nat → va_E) (σ' : CS) (m' : CV) (f' : Nat → Int64), zRR σ' m' → zvLs X A' m' f' S' → zvAk A A' → (σ' = σ) → G X mL_law (zLP X b) (kc + 0) (ks + 0) 3056 (zvLv b A' i) [] (zWs A' 113 (zSt X A' σ' S'))) : G X mL_law (zLP X b) kc ks 524 (zvLv b A i) [] (zWs A 113 (zSt X A σ S)) := by
  have hX := hX2.1
  obtain ⟨res, er, u, eu, hR2, he, hi2⟩ := s_errorCode hR
  refine g_aload_n (M := mL_law) dL_law_524 1 rfl rfl ?_
  refine g_callVr (M := mL_law) [] hX dL_law_525 vX7_errorCode kM_L_168 (wX7_errorCode hX (by decide) er) 0 (zWs_at (by decide) ((zSt_c 0 rfl (show σ 0 = (σ 0) from rfl))).o) rfl ⟨(Nat.le_of_ble_eq_true rfl), (Nat.le_of_ble_eq_true rfl)⟩ ⟨hr.1, hr.2⟩ (Nat.le_of_ble_eq_true rfl) ?_
  have hS1 := hS
  refine g_aload_n (M := mL_law) dL_law_528 2 rfl rfl ?_
  refine g_callVr (M := mL_law) [] hX dL_law_529 vX8_errorCode kM_L_171 (wX8_errorCode hX (zvLs_c hS1) (by decide) eu) 91 (zWs_at (by decide) (zvLs_c hS1).o) rfl ⟨(Nat.le_of_ble_eq_true rfl), (Nat.le_of_ble_eq_true rfl)⟩ ⟨hr.1, hr.2⟩ (Nat.le_of_ble_eq_true rfl) ?_
  rw [zSt_zC]
  refine h_icmp_eq (M := mL_law) (tgt := 3056) dL_law_532 (by decide) hi2 (by rw [← he]; exact hi2) (fun _ => ?_) (fun z => absurd he z)
  exact next A _ σ u.1 _ hR2 (zvLs_m hS1) (fun _ _ => rfl) rfl
set_option maxHeartbeats 4000000 in
set_option maxRecDepth 100000 in
theorem lc_errorPosition {X : zX} (hX2 : zOK2 X) (hL : zOL X) {b L : Nat} {xs : Nat → Int32} (hE : ∀ U, zE X U → va_X b L xs U U.heap) (hb : b < X.2.2.2.1) (hLm : L ≤ 3072) {i : Int} (hi : 0 ≤ i ∧ i + 6 ≤ (L : Int)) {A : Nat → Nat} {S : Nat → va_E} {σ : CS} {m : CV} {f : Nat → Int64} (hR : zRR σ m) (hS : zvLs X A m f S) {kc ks : Nat} (hr : kc + 0 ≤ 601024 ∧ ks + 0 ≤ 7293034) (next : ∀ (A' : Nat → Nat) (S' : Nat → va_E) (σ' : CS) (m' : CV) (f' : Nat → Int64), zRR σ' m' → zvLs X A' m' f' S' → zvAk A A' → (σ' = σ) → G X mL_law (zLP X b) (kc + 0) (ks + 0) 3056 (zvLv b A' i) [] (zWs A' 113 (zSt X A' σ' S'))) : G X mL_law (zLP X b) kc ks 537 (zvLv b A i) [] (zWs A 113 (zSt X A σ S)) := by
  have hX := hX2.1
  obtain ⟨res, er, u, eu, hR2, he, hi2⟩ := s_errorPosition hR
  refine g_aload_n (M := mL_law) dL_law_537 1 rfl rfl ?_
  refine g_callVr (M := mL_law) [] hX dL_law_538 vX7_errorPosition kM_L_172 (wX7_errorPosition hX (by decide) er) 0 (zWs_at (by decide) ((zSt_c 0 rfl (show σ 0 = (σ 0) from rfl))).o) rfl ⟨(Nat.le_of_ble_eq_true rfl), (Nat.le_of_ble_eq_true rfl)⟩ ⟨hr.1, hr.2⟩ (Nat.le_of_ble_eq_true rfl) ?_
  have hS1 := hS
  refine g_aload_n (M := mL_law) dL_law_541 2 rfl rfl ?_
  refine g_callVr (M := mL_law) [] hX dL_law_542 vX8_errorPosition kM_L_175 (wX8_errorPosition hX (zvLs_c hS1) (by decide) eu) 91 (zWs_at (by decide) (zvLs_c hS1).o) rfl ⟨(Nat.le_of_ble_eq_true rfl), (Nat.le_of_ble_eq_true rfl)⟩ ⟨hr.1, hr.2⟩ (Nat.le_of_ble_eq_true rfl) ?_
  rw [zSt_zC]
  refine h_icmp_eq (M := mL_law) (tgt := 3056) dL_law_545 (by decide) hi2 (by rw [← he]; exact hi2) (fun _ => ?_) (fun z => absurd he z)
  exact next A _ σ u.1 _ hR2 (zvLs_m hS1) (fun _ _ => rfl) rfl
set_option maxHeartbeats 4000000 in
set_option maxRecDepth 100000 in
theorem lc_kinds {X : zX} (hX2 : zOK2 X) (hL : zOL X) {b L : Nat} {xs : Nat → Int32} (hE : ∀ U, zE X U → va_X b L xs U U.heap) (hb : b < X.2.2.2.1) (hLm : L ≤ 3072) {i : Int} (hi : 0 ≤ i ∧ i + 6 ≤ (L : Int)) {A : Nat → Nat} {S : Nat → va_E} {σ : CS} {m : CV} {f : Nat → Int64} (hR : zRR σ m) (hS : zvLs X A m f S) {kc ks : Nat} (hr : kc + (3 + zNt (σ 10) (σ 4)) ≤ 601024 ∧ ks + (18 + 4096 * zNt (σ 10) (σ 4)) ≤ 7293034) (next : ∀ (A' : Nat → Nat) (S' : Nat → va_E) (σ' : CS) (m' : CV) (f' : Nat → Int64), zRR σ' m' → zvLs X A' m' f' S' → zvAk A A' → (∃ r, fX7_kinds σ  = some (σ', r)) → G X mL_law (zLP X b) (kc + (3 + zNt (σ 10) (σ 4))) (ks + (18 + 4096 * zNt (σ 10) (σ 4))) 3056 (zvLv b A' i) [] (zWs A' 113 (zSt X A' σ' S'))) : G X mL_law (zLP X b) kc ks 1466 (zvLv b A i) [] (zWs A 113 (zSt X A σ S)) := by
  have hX := hX2.1
  obtain ⟨res, er, u, eu, hR2, he, hi2⟩ := s_kinds hR
  refine g_aload_n (M := mL_law) dL_law_1466 1 rfl rfl ?_
  refine g_callVA (M := mL_law) [] hX dL_law_1467 vX7_kinds kM_L_220 (wX7_kinds hX (by decide) er) (fun _ => rfl) 0 (zWs_at (by decide) ((zSt_c 0 rfl (show σ 0 = (σ 0) from rfl))).o) rfl ⟨(Nat.le_of_ble_eq_true rfl), (Nat.le_of_ble_eq_true rfl)⟩ ⟨hr.1, hr.2⟩ (Nat.le_of_ble_eq_true rfl) (fun A' hA' => ?_)
  have hS1 := zvLs_k hS hA'
  rw [zvLv_k hA']
  refine g_aload_n (M := mL_law) dL_law_1470 2 rfl rfl ?_
  refine g_callVr (M := mL_law) [] hX dL_law_1471 vX8_kinds kM_L_223 (wX8_kinds hX (zvLs_c hS1) (by decide) eu) 91 (zWs_at (by decide) (zvLs_c hS1).o) rfl ⟨(Nat.le_of_ble_eq_true rfl), (Nat.le_of_ble_eq_true rfl)⟩ ⟨hr.1, hr.2⟩ (Nat.le_of_ble_eq_true rfl) ?_
  rw [zSt_zC]
  refine h_icmp_eq (M := mL_law) (tgt := 3056) dL_law_1474 (by decide) hi2 (by rw [← he]; exact hi2) (fun _ => ?_) (fun z => absurd he z)
  exact next A' _ res.1 u.1 _ hR2 (zvLs_m hS1) hA' ⟨res.2, er⟩
set_option maxHeartbeats 4000000 in
set_option maxRecDepth 100000 in
theorem lc_commonest {X : zX} (hX2 : zOK2 X) (hL : zOL X) {b L : Nat} {xs : Nat → Int32} (hE : ∀ U, zE X U → va_X b L xs U U.heap) (hb : b < X.2.2.2.1) (hLm : L ≤ 3072) {i : Int} (hi : 0 ≤ i ∧ i + 6 ≤ (L : Int)) {A : Nat → Nat} {S : Nat → va_E} {σ : CS} {m : CV} {f : Nat → Int64} (hR : zRR σ m) (hS : zvLs X A m f S) {kc ks : Nat} (hr : kc + (3 + zNt (σ 10) (σ 4)) ≤ 601024 ∧ ks + (18 + 4096 * zNt (σ 10) (σ 4)) ≤ 7293034) (next : ∀ (A' : Nat → Nat) (S' : Nat → va_E) (σ' : CS) (m' : CV) (f' : Nat → Int64), zRR σ' m' → zvLs X A' m' f' S' → zvAk A A' → (∃ r, fX7_commonest σ  = some (σ', r)) → G X mL_law (zLP X b) (kc + (3 + zNt (σ 10) (σ 4))) (ks + (18 + 4096 * zNt (σ 10) (σ 4))) 3056 (zvLv b A' i) [] (zWs A' 113 (zSt X A' σ' S'))) : G X mL_law (zLP X b) kc ks 1535 (zvLv b A i) [] (zWs A 113 (zSt X A σ S)) := by
  have hX := hX2.1
  obtain ⟨res, er, u, eu, hR2, he, hi2⟩ := s_commonest hR
  refine g_aload_n (M := mL_law) dL_law_1535 1 rfl rfl ?_
  refine g_callVA (M := mL_law) [] hX dL_law_1536 vX7_commonest kM_L_227 (wX7_commonest hX (by decide) er) (fun _ => rfl) 0 (zWs_at (by decide) ((zSt_c 0 rfl (show σ 0 = (σ 0) from rfl))).o) rfl ⟨(Nat.le_of_ble_eq_true rfl), (Nat.le_of_ble_eq_true rfl)⟩ ⟨hr.1, hr.2⟩ (Nat.le_of_ble_eq_true rfl) (fun A' hA' => ?_)
  have hS1 := zvLs_k hS hA'
  rw [zvLv_k hA']
  refine g_aload_n (M := mL_law) dL_law_1539 2 rfl rfl ?_
  refine g_callVr (M := mL_law) [] hX dL_law_1540 vX8_commonest kM_L_230 (wX8_commonest hX (zvLs_c hS1) (by decide) eu) 91 (zWs_at (by decide) (zvLs_c hS1).o) rfl ⟨(Nat.le_of_ble_eq_true rfl), (Nat.le_of_ble_eq_true rfl)⟩ ⟨hr.1, hr.2⟩ (Nat.le_of_ble_eq_true rfl) ?_
  rw [zSt_zC]
  refine h_icmp_eq (M := mL_law) (tgt := 3056) dL_law_1543 (by decide) hi2 (by rw [← he]; exact hi2) (fun _ => ?_) (fun z => absurd he z)
  exact next A' _ res.1 u.1 _ hR2 (zvLs_m hS1) hA' ⟨res.2, er⟩
set_option maxHeartbeats 4000000 in
set_option maxRecDepth 100000 in
theorem lc_outlier {X : zX} (hX2 : zOK2 X) (hL : zOL X) {b L : Nat} {xs : Nat → Int32} (hE : ∀ U, zE X U → va_X b L xs U U.heap) (hb : b < X.2.2.2.1) (hLm : L ≤ 3072) {i : Int} (hi : 0 ≤ i ∧ i + 6 ≤ (L : Int)) {A : Nat → Nat} {S : Nat → va_E} {σ : CS} {m : CV} {f : Nat → Int64} (hR : zRR σ m) (hS : zvLs X A m f S) {kc ks : Nat} (hr : kc + (3 * zNd (σ 7) (σ 4)) ≤ 601024 ∧ ks + (13652 * zNd (σ 7) (σ 4)) ≤ 7293034) (next : ∀ (A' : Nat → Nat) (S' : Nat → va_E) (σ' : CS) (m' : CV) (f' : Nat → Int64), zRR σ' m' → zvLs X A' m' f' S' → zvAk A A' → (∃ r, fX7_outlier σ  = some (σ', r)) → G X mL_law (zLP X b) (kc + (3 * zNd (σ 7) (σ 4))) (ks + (13652 * zNd (σ 7) (σ 4))) 3056 (zvLv b A' i) [] (zWs A' 113 (zSt X A' σ' S'))) : G X mL_law (zLP X b) kc ks 1784 (zvLv b A i) [] (zWs A 113 (zSt X A σ S)) := by
  have hX := hX2.1
  obtain ⟨res, er, u, eu, hR2, he, hi2⟩ := s_outlier hR
  refine g_aload_n (M := mL_law) dL_law_1784 1 rfl rfl ?_
  refine g_callVA (M := mL_law) [] hX dL_law_1785 vX7_outlier kM_L_243 (wX7_outlier hX (by decide) er) (fun _ => rfl) 0 (zWs_at (by decide) ((zSt_c 0 rfl (show σ 0 = (σ 0) from rfl))).o) rfl ⟨(Nat.le_of_ble_eq_true rfl), (Nat.le_of_ble_eq_true rfl)⟩ ⟨hr.1, hr.2⟩ (Nat.le_of_ble_eq_true rfl) (fun A' hA' => ?_)
  have hS1 := zvLs_k hS hA'
  rw [zvLv_k hA']
  refine g_aload_n (M := mL_law) dL_law_1788 2 rfl rfl ?_
  refine g_callVr (M := mL_law) [] hX dL_law_1789 vX8_outlier kM_L_246 (wX8_outlier hX (zvLs_c hS1) (by decide) eu) 91 (zWs_at (by decide) (zvLs_c hS1).o) rfl ⟨(Nat.le_of_ble_eq_true rfl), (Nat.le_of_ble_eq_true rfl)⟩ ⟨hr.1, hr.2⟩ (Nat.le_of_ble_eq_true rfl) ?_
  rw [zSt_zC]
  refine h_icmp_eq (M := mL_law) (tgt := 3056) dL_law_1792 (by decide) hi2 (by rw [← he]; exact hi2) (fun _ => ?_) (fun z => absurd he z)
  exact next A' _ res.1 u.1 _ hR2 (zvLs_m hS1) hA' ⟨res.2, er⟩
set_option maxHeartbeats 4000000 in
set_option maxRecDepth 100000 in
theorem lc_ranked {X : zX} (hX2 : zOK2 X) (hL : zOL X) {b L : Nat} {xs : Nat → Int32} (hE : ∀ U, zE X U → va_X b L xs U U.heap) (hb : b < X.2.2.2.1) (hLm : L ≤ 3072) {i : Int} (hi : 0 ≤ i ∧ i + 6 ≤ (L : Int)) {A : Nat → Nat} {S : Nat → va_E} {σ : CS} {m : CV} {f : Nat → Int64} (hR : zRR σ m) (hS : zvLs X A m f S) {kc ks : Nat} (hr : kc + (2 + 3 * zNd (σ 7) (σ 4)) ≤ 601024 ∧ ks + (12 + 13652 * zNd (σ 7) (σ 4)) ≤ 7293034) (next : ∀ (A' : Nat → Nat) (S' : Nat → va_E) (σ' : CS) (m' : CV) (f' : Nat → Int64), zRR σ' m' → zvLs X A' m' f' S' → zvAk A A' → (∃ r, fX7_ranked σ (zvXs xs (i + 1)) = some (σ', r)) → G X mL_law (zLP X b) (kc + (2 + 3 * zNd (σ 7) (σ 4))) (ks + (12 + 13652 * zNd (σ 7) (σ 4))) 3056 (zvLv b A' i) [] (zWs A' 113 (zSt X A' σ' S'))) : G X mL_law (zLP X b) kc ks 1797 (zvLv b A i) [] (zWs A 113 (zSt X A σ S)) := by
  have hX := hX2.1
  obtain ⟨res, er, u, eu, hR2, he, hi2⟩ := s_ranked hR (zvXs_r (xs := xs) (i := i + 1))
  refine g_aload_n (M := mL_law) dL_law_1797 1 rfl rfl ?_
  refine g_arg hE hb dL_law_1798 dL_law_1799 dL_law_1801 dL_law_1802 dL_law_1803 rfl rfl ⟨hi.1, by decide, by omega⟩ hLm ?_
  refine g_callVA (M := mL_law) [.int (iI (zvXs xs (i + 1)))] hX dL_law_1804 vX7_ranked kM_L_247 (wX7_ranked hX (by decide) er) (fun _ => rfl) 0 (zWs_at (by decide) ((zSt_c 0 rfl (show σ 0 = (σ 0) from rfl))).o) rfl ⟨(Nat.le_of_ble_eq_true rfl), (Nat.le_of_ble_eq_true rfl)⟩ ⟨hr.1, hr.2⟩ (Nat.le_of_ble_eq_true rfl) (fun A' hA' => ?_)
  have hS1 := zvLs_k hS hA'
  rw [zvLv_k hA']
  refine g_aload_n (M := mL_law) dL_law_1807 2 rfl rfl ?_
  refine g_arg hE hb dL_law_1808 dL_law_1809 dL_law_1811 dL_law_1812 dL_law_1813 rfl rfl ⟨hi.1, by decide, by omega⟩ hLm ?_
  refine g_callVr (M := mL_law) [.int (iI (zvXs xs (i + 1)))] hX dL_law_1814 vX8_ranked kM_L_250 (wX8_ranked hX (zvLs_c hS1) (by decide) eu) 91 (zWs_at (by decide) (zvLs_c hS1).o) rfl ⟨(Nat.le_of_ble_eq_true rfl), (Nat.le_of_ble_eq_true rfl)⟩ ⟨hr.1, hr.2⟩ (Nat.le_of_ble_eq_true rfl) ?_
  rw [zSt_zC]
  refine h_icmp_eq (M := mL_law) (tgt := 3056) dL_law_1817 (by decide) hi2 (by rw [← he]; exact hi2) (fun _ => ?_) (fun z => absurd he z)
  exact next A' _ res.1 u.1 _ hR2 (zvLs_m hS1) hA' ⟨res.2, er⟩
set_option maxHeartbeats 4000000 in
set_option maxRecDepth 100000 in
theorem lc_common {X : zX} (hX2 : zOK2 X) (hL : zOL X) {b L : Nat} {xs : Nat → Int32} (hE : ∀ U, zE X U → va_X b L xs U U.heap) (hb : b < X.2.2.2.1) (hLm : L ≤ 3072) {i : Int} (hi : 0 ≤ i ∧ i + 6 ≤ (L : Int)) {A : Nat → Nat} {S : Nat → va_E} {σ : CS} {m : CV} {f : Nat → Int64} (hR : zRR σ m) (hS : zvLs X A m f S) {kc ks : Nat} (hr : kc + 0 ≤ 601024 ∧ ks + 0 ≤ 7293034) (next : ∀ (A' : Nat → Nat) (S' : Nat → va_E) (σ' : CS) (m' : CV) (f' : Nat → Int64), zRR σ' m' → zvLs X A' m' f' S' → zvAk A A' → (∃ r, fX7_common σ  = some (σ', r)) → G X mL_law (zLP X b) (kc + 0) (ks + 0) 3056 (zvLv b A' i) [] (zWs A' 113 (zSt X A' σ' S'))) : G X mL_law (zLP X b) kc ks 2002 (zvLv b A i) [] (zWs A 113 (zSt X A σ S)) := by
  have hX := hX2.1
  obtain ⟨res, er, u, eu, hR2, he, hi2⟩ := s_common hR
  refine g_aload_n (M := mL_law) dL_law_2002 1 rfl rfl ?_
  refine g_callVA (M := mL_law) [] hX dL_law_2003 vX7_common kM_L_260 (wX7_common hX (by decide) er) (fun _ => rfl) 0 (zWs_at (by decide) ((zSt_c 0 rfl (show σ 0 = (σ 0) from rfl))).o) rfl ⟨(Nat.le_of_ble_eq_true rfl), (Nat.le_of_ble_eq_true rfl)⟩ ⟨hr.1, hr.2⟩ (Nat.le_of_ble_eq_true rfl) (fun A' hA' => ?_)
  have hS1 := zvLs_k hS hA'
  rw [zvLv_k hA']
  refine g_aload_n (M := mL_law) dL_law_2006 2 rfl rfl ?_
  refine g_callVr (M := mL_law) [] hX dL_law_2007 vX8_common kM_L_263 (wX8_common hX (zvLs_c hS1) (by decide) eu) 91 (zWs_at (by decide) (zvLs_c hS1).o) rfl ⟨(Nat.le_of_ble_eq_true rfl), (Nat.le_of_ble_eq_true rfl)⟩ ⟨hr.1, hr.2⟩ (Nat.le_of_ble_eq_true rfl) ?_
  rw [zSt_zC]
  refine h_icmp_eq (M := mL_law) (tgt := 3056) dL_law_2010 (by decide) hi2 (by rw [← he]; exact hi2) (fun _ => ?_) (fun z => absurd he z)
  exact next A' _ res.1 u.1 _ hR2 (zvLs_m hS1) hA' ⟨res.2, er⟩
set_option maxHeartbeats 4000000 in
set_option maxRecDepth 100000 in
theorem lc_agreement {X : zX} (hX2 : zOK2 X) (hL : zOL X) {b L : Nat} {xs : Nat → Int32} (hE : ∀ U, zE X U → va_X b L xs U U.heap) (hb : b < X.2.2.2.1) (hLm : L ≤ 3072) {i : Int} (hi : 0 ≤ i ∧ i + 6 ≤ (L : Int)) {A : Nat → Nat} {S : Nat → va_E} {σ : CS} {m : CV} {f : Nat → Int64} (hR : zRR σ m) (hS : zvLs X A m f S) {kc ks : Nat} (hr : kc + 0 ≤ 601024 ∧ ks + 0 ≤ 7293034) (next : ∀ (A' : Nat → Nat) (S' : Nat → va_E) (σ' : CS) (m' : CV) (f' : Nat → Int64), zRR σ' m' → zvLs X A' m' f' S' → zvAk A A' → (∃ r, fX7_agreement σ  = some (σ', r)) → G X mL_law (zLP X b) (kc + 0) (ks + 0) 3056 (zvLv b A' i) [] (zWs A' 113 (zSt X A' σ' S'))) : G X mL_law (zLP X b) kc ks 2015 (zvLv b A i) [] (zWs A 113 (zSt X A σ S)) := by
  have hX := hX2.1
  obtain ⟨res, er, u, eu, hR2, he, hi2⟩ := s_agreement hR
  refine g_aload_n (M := mL_law) dL_law_2015 1 rfl rfl ?_
  refine g_callVA (M := mL_law) [] hX dL_law_2016 vX7_agreement kM_L_264 (wX7_agreement hX (by decide) er) (fun _ => rfl) 0 (zWs_at (by decide) ((zSt_c 0 rfl (show σ 0 = (σ 0) from rfl))).o) rfl ⟨(Nat.le_of_ble_eq_true rfl), (Nat.le_of_ble_eq_true rfl)⟩ ⟨hr.1, hr.2⟩ (Nat.le_of_ble_eq_true rfl) (fun A' hA' => ?_)
  have hS1 := zvLs_k hS hA'
  rw [zvLv_k hA']
  refine g_aload_n (M := mL_law) dL_law_2019 2 rfl rfl ?_
  refine g_callVr (M := mL_law) [] hX dL_law_2020 vX8_agreement kM_L_267 (wX8_agreement hX (zvLs_c hS1) (by decide) eu) 91 (zWs_at (by decide) (zvLs_c hS1).o) rfl ⟨(Nat.le_of_ble_eq_true rfl), (Nat.le_of_ble_eq_true rfl)⟩ ⟨hr.1, hr.2⟩ (Nat.le_of_ble_eq_true rfl) ?_
  rw [zSt_zC]
  refine h_icmp_eq (M := mL_law) (tgt := 3056) dL_law_2023 (by decide) hi2 (by rw [← he]; exact hi2) (fun _ => ?_) (fun z => absurd he z)
  exact next A' _ res.1 u.1 _ hR2 (zvLs_m hS1) hA' ⟨res.2, er⟩
set_option maxHeartbeats 4000000 in
set_option maxRecDepth 100000 in
theorem lc_taken {X : zX} (hX2 : zOK2 X) (hL : zOL X) {b L : Nat} {xs : Nat → Int32} (hE : ∀ U, zE X U → va_X b L xs U U.heap) (hb : b < X.2.2.2.1) (hLm : L ≤ 3072) {i : Int} (hi : 0 ≤ i ∧ i + 6 ≤ (L : Int)) {A : Nat → Nat} {S : Nat → va_E} {σ : CS} {m : CV} {f : Nat → Int64} (hR : zRR σ m) (hS : zvLs X A m f S) {kc ks : Nat} (hr : kc + 0 ≤ 601024 ∧ ks + 0 ≤ 7293034) (next : ∀ (A' : Nat → Nat) (S' : Nat → va_E) (σ' : CS) (m' : CV) (f' : Nat → Int64), zRR σ' m' → zvLs X A' m' f' S' → zvAk A A' → (σ' = σ) → G X mL_law (zLP X b) (kc + 0) (ks + 0) 3056 (zvLv b A' i) [] (zWs A' 113 (zSt X A' σ' S'))) : G X mL_law (zLP X b) kc ks 2752 (zvLv b A i) [] (zWs A 113 (zSt X A σ S)) := by
  have hX := hX2.1
  obtain ⟨res, er, u, eu, hR2, he, hi2⟩ := s_taken hR (zvXs_r (xs := xs) (i := i + 1))
  refine g_aload_n (M := mL_law) dL_law_2752 1 rfl rfl ?_
  refine g_arg hE hb dL_law_2753 dL_law_2754 dL_law_2756 dL_law_2757 dL_law_2758 rfl rfl ⟨hi.1, by decide, by omega⟩ hLm ?_
  refine g_callVr (M := mL_law) [.int (iI (zvXs xs (i + 1)))] hX dL_law_2759 vX7_taken kM_L_311 (wX7_taken hX (by decide) er) 0 (zWs_at (by decide) ((zSt_c 0 rfl (show σ 0 = (σ 0) from rfl))).o) rfl ⟨(Nat.le_of_ble_eq_true rfl), (Nat.le_of_ble_eq_true rfl)⟩ ⟨hr.1, hr.2⟩ (Nat.le_of_ble_eq_true rfl) ?_
  have hS1 := hS
  refine g_aload_n (M := mL_law) dL_law_2762 2 rfl rfl ?_
  refine g_arg hE hb dL_law_2763 dL_law_2764 dL_law_2766 dL_law_2767 dL_law_2768 rfl rfl ⟨hi.1, by decide, by omega⟩ hLm ?_
  refine g_callVr (M := mL_law) [.int (iI (zvXs xs (i + 1)))] hX dL_law_2769 vX8_taken kM_L_314 (wX8_taken hX (zvLs_c hS1) (by decide) eu) 91 (zWs_at (by decide) (zvLs_c hS1).o) rfl ⟨(Nat.le_of_ble_eq_true rfl), (Nat.le_of_ble_eq_true rfl)⟩ ⟨hr.1, hr.2⟩ (Nat.le_of_ble_eq_true rfl) ?_
  rw [zSt_zC]
  refine h_icmp_eq (M := mL_law) (tgt := 3056) dL_law_2772 (by decide) hi2 (by rw [← he]; exact hi2) (fun _ => ?_) (fun z => absurd he z)
  exact next A _ σ u.1 _ hR2 (zvLs_m hS1) (fun _ _ => rfl) rfl
set_option maxHeartbeats 4000000 in
set_option maxRecDepth 100000 in
theorem lc_report {X : zX} (hX2 : zOK2 X) (hL : zOL X) {b L : Nat} {xs : Nat → Int32} (hE : ∀ U, zE X U → va_X b L xs U U.heap) (hb : b < X.2.2.2.1) (hLm : L ≤ 3072) {i : Int} (hi : 0 ≤ i ∧ i + 6 ≤ (L : Int)) {A : Nat → Nat} {S : Nat → va_E} {σ : CS} {m : CV} {f : Nat → Int64} (hR : zRR σ m) (hS : zvLs X A m f S) {kc ks : Nat} (hr : kc + 0 ≤ 601024 ∧ ks + 0 ≤ 7293034) (next : ∀ (A' : Nat → Nat) (S' : Nat → va_E) (σ' : CS) (m' : CV) (f' : Nat → Int64), zRR σ' m' → zvLs X A' m' f' S' → zvAk A A' → (∃ r, fX7_report σ  = some (σ', r)) → G X mL_law (zLP X b) (kc + 0) (ks + 0) 3056 (zvLv b A' i) [] (zWs A' 113 (zSt X A' σ' S'))) : G X mL_law (zLP X b) kc ks 2917 (zvLv b A i) [] (zWs A 113 (zSt X A σ S)) := by
  have hX := hX2.1
  obtain ⟨res, er, u, eu, hR2, he, hi2⟩ := s_report hR
  refine g_aload_n (M := mL_law) dL_law_2917 1 rfl rfl ?_
  refine g_callVA (M := mL_law) [] hX dL_law_2918 vX7_report kM_L_322 (wX7_report hX (by decide) er) (fun _ => rfl) 0 (zWs_at (by decide) ((zSt_c 0 rfl (show σ 0 = (σ 0) from rfl))).o) rfl ⟨(Nat.le_of_ble_eq_true rfl), (Nat.le_of_ble_eq_true rfl)⟩ ⟨hr.1, hr.2⟩ (Nat.le_of_ble_eq_true rfl) (fun A' hA' => ?_)
  have hS1 := zvLs_k hS hA'
  rw [zvLv_k hA']
  refine g_aload_n (M := mL_law) dL_law_2921 2 rfl rfl ?_
  refine g_callVr (M := mL_law) [] hX dL_law_2922 vX8_report kM_L_325 (wX8_report hX (zvLs_c hS1) (by decide) eu) 91 (zWs_at (by decide) (zvLs_c hS1).o) rfl ⟨(Nat.le_of_ble_eq_true rfl), (Nat.le_of_ble_eq_true rfl)⟩ ⟨hr.1, hr.2⟩ (Nat.le_of_ble_eq_true rfl) ?_
  rw [zSt_zC]
  refine h_icmp_eq (M := mL_law) (tgt := 3056) dL_law_2925 (by decide) hi2 (by rw [← he]; exact hi2) (fun _ => ?_) (fun z => absurd he z)
  exact next A' _ res.1 u.1 _ hR2 (zvLs_m hS1) hA' ⟨res.2, er⟩
set_option maxHeartbeats 4000000 in
set_option maxRecDepth 100000 in
theorem lc_undo {X : zX} (hX2 : zOK2 X) (hL : zOL X) {b L : Nat} {xs : Nat → Int32} (hE : ∀ U, zE X U → va_X b L xs U U.heap) (hb : b < X.2.2.2.1) (hLm : L ≤ 3072) {i : Int} (hi : 0 ≤ i ∧ i + 6 ≤ (L : Int)) {A : Nat → Nat} {S : Nat → va_E} {σ : CS} {m : CV} {f : Nat → Int64} (hR : zRR σ m) (hS : zvLs X A m f S) {kc ks : Nat} (hr : kc + 0 ≤ 601024 ∧ ks + 0 ≤ 7293034) (next : ∀ (A' : Nat → Nat) (S' : Nat → va_E) (σ' : CS) (m' : CV) (f' : Nat → Int64), zRR σ' m' → zvLs X A' m' f' S' → zvAk A A' → (∃ r, fX7_undo σ  = some (σ', r)) → G X mL_law (zLP X b) (kc + 0) (ks + 0) 3056 (zvLv b A' i) [] (zWs A' 113 (zSt X A' σ' S'))) : G X mL_law (zLP X b) kc ks 2986 (zvLv b A i) [] (zWs A 113 (zSt X A σ S)) := by
  have hX := hX2.1
  obtain ⟨res, er, u, eu, hR2, he, hi2⟩ := s_undo hR
  refine g_aload_n (M := mL_law) dL_law_2986 1 rfl rfl ?_
  refine g_callVA (M := mL_law) [] hX dL_law_2987 vX7_undo kM_L_329 (wX7_undo hX (by decide) er) (fun _ => rfl) 0 (zWs_at (by decide) ((zSt_c 0 rfl (show σ 0 = (σ 0) from rfl))).o) rfl ⟨(Nat.le_of_ble_eq_true rfl), (Nat.le_of_ble_eq_true rfl)⟩ ⟨hr.1, hr.2⟩ (Nat.le_of_ble_eq_true rfl) (fun A' hA' => ?_)
  have hS1 := zvLs_k hS hA'
  rw [zvLv_k hA']
  refine g_aload_n (M := mL_law) dL_law_2990 2 rfl rfl ?_
  refine g_callVr (M := mL_law) [] hX dL_law_2991 vX8_undo kM_L_332 (wX8_undo hX (zvLs_c hS1) (by decide) eu) 91 (zWs_at (by decide) (zvLs_c hS1).o) rfl ⟨(Nat.le_of_ble_eq_true rfl), (Nat.le_of_ble_eq_true rfl)⟩ ⟨hr.1, hr.2⟩ (Nat.le_of_ble_eq_true rfl) ?_
  rw [zSt_zC]
  refine h_icmp_eq (M := mL_law) (tgt := 3056) dL_law_2994 (by decide) hi2 (by rw [← he]; exact hi2) (fun _ => ?_) (fun z => absurd he z)
  exact next A' _ res.1 u.1 _ hR2 (zvLs_m hS1) hA' ⟨res.2, er⟩
set_option maxHeartbeats 4000000 in
set_option maxRecDepth 100000 in
theorem lc_save {X : zX} (hX2 : zOK2 X) (hL : zOL X) {b L : Nat} {xs : Nat → Int32} (hE : ∀ U, zE X U → va_X b L xs U U.heap) (hb : b < X.2.2.2.1) (hLm : L ≤ 3072) {i : Int} (hi : 0 ≤ i ∧ i + 6 ≤ (L : Int)) {A : Nat → Nat} {S : Nat → va_E} {σ : CS} {m : CV} {f : Nat → Int64} (hR : zRR σ m) (hS : zvLs X A m f S) {kc ks : Nat} (hr : kc + 0 ≤ 601024 ∧ ks + 0 ≤ 7293034) (next : ∀ (A' : Nat → Nat) (S' : Nat → va_E) (σ' : CS) (m' : CV) (f' : Nat → Int64), zRR σ' m' → zvLs X A' m' f' S' → zvAk A A' → (∃ r, fX7_save σ  = some (σ', r)) → G X mL_law (zLP X b) (kc + 0) (ks + 0) 3056 (zvLv b A' i) [] (zWs A' 113 (zSt X A' σ' S'))) : G X mL_law (zLP X b) kc ks 2999 (zvLv b A i) [] (zWs A 113 (zSt X A σ S)) := by
  have hX := hX2.1
  obtain ⟨res, er, u, eu, hR2, he, hi2⟩ := s_save hR
  refine g_aload_n (M := mL_law) dL_law_2999 1 rfl rfl ?_
  refine g_callVA (M := mL_law) [] hX dL_law_3000 vX7_save kM_L_333 (wX7_save hX (by decide) er) (fun _ => rfl) 0 (zWs_at (by decide) ((zSt_c 0 rfl (show σ 0 = (σ 0) from rfl))).o) rfl ⟨(Nat.le_of_ble_eq_true rfl), (Nat.le_of_ble_eq_true rfl)⟩ ⟨hr.1, hr.2⟩ (Nat.le_of_ble_eq_true rfl) (fun A' hA' => ?_)
  have hS1 := zvLs_k hS hA'
  rw [zvLv_k hA']
  refine g_aload_n (M := mL_law) dL_law_3003 2 rfl rfl ?_
  refine g_callVr (M := mL_law) [] hX dL_law_3004 vX8_save kM_L_336 (wX8_save hX (zvLs_c hS1) (by decide) eu) 91 (zWs_at (by decide) (zvLs_c hS1).o) rfl ⟨(Nat.le_of_ble_eq_true rfl), (Nat.le_of_ble_eq_true rfl)⟩ ⟨hr.1, hr.2⟩ (Nat.le_of_ble_eq_true rfl) ?_
  rw [zSt_zC]
  refine h_icmp_eq (M := mL_law) (tgt := 3056) dL_law_3007 (by decide) hi2 (by rw [← he]; exact hi2) (fun _ => ?_) (fun z => absurd he z)
  exact next A' _ res.1 u.1 _ hR2 (zvLs_m hS1) hA' ⟨res.2, er⟩
