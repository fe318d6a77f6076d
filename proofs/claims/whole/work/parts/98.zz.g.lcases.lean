set_option maxHeartbeats 4000000 in
set_option maxRecDepth 100000 in
theorem lc_errorCode {X : zX} (hX2 : zOK2 X) (hL : zOL X) {b L : Nat} {xs : Nat → Int32} (hE : ∀ U, zE X U → va_X b L xs U U.heap) (hb : b < X.2.2.2.1) (hLm : L ≤ 3072) {i : Int} (hi : 0 ≤ i ∧ i + 6 ≤ (L : Int)) {A : Nat → Nat} {S : Nat → va_E} {σ : CS} {m : CV} {f : Nat → Int64} (hR : zRR σ m) (hS : zvLs X A m f S) {kc ks : Nat} (hr : kc + 0 ≤ 601024 ∧ ks + 0 ≤ 7293034) (next : ∀ (A' : Nat → Nat) (S' : Nat → va_E) (σ' : CS) (m' : CV) (f' : Nat → Int64), zRR σ' m' → zvLs X A' m' f' S' → zvAk A A' → (σ' = σ) → G X mL_law (zLP X b) (kc + 0) (ks + 0) 3056 (zvLv b A' i) [] (zWs A' 113 (zSt X A' σ' S'))) : G X mL_law (zLP X b) kc ks 524 (zvLv b A i) [] (zWs A 113 (zSt X A σ S)) := by
  have hX := hX2.1
  obtain ⟨res, er, u, eu, hR2, he, hi2⟩ := s_errorCode hR
  refine g_aload_n (M := mL_law) dL_law_524 1 rfl rfl ?_
  refine g_callVr (M := mL_law) [] hX dL_law_525 vX7_errorCode kM_L_168 (wX7_errorCode hX (by decide) er) 0 (zWs_at (by decide) ((zSt_c 0 rfl (show σ 0 = (σ 0) from rfl))).o) rfl ⟨(Nat.le_of_ble_eq_true rfl), (Nat.le_of_ble_eq_true rfl)⟩ ⟨hr.1, hr.2⟩ (Nat.le_of_ble_eq_true rfl) ?_
  have hS1 := hS
  refine g_aload_n (M := mL_law) dL_law_528 2 rfl rfl ?_
  refine g_callVr (M := mL_law) [] hX dL_law_529 vX8_errorCode kM_L_171 (wX8_errorCode hX (zvLs_c hS1) (by decide) eu) 91 (zWs_at (by decide) (zvLs_c hS1).o) rfl ⟨(Nat.le_of_ble_eq_true rfl), (Nat.le_of_ble_eq_true rfl)⟩ ⟨hr.1, hr.2⟩ (Nat.le_of_ble_eq_true rfl) ?_
  rw [zSt_zC]
  refine h_icmp_eq (M := mL_law) (tgt := 3056) dL_law_532 (by decide) hi2 (by rw [← he]; exact hi2) (fun _ => ?_) (fun z => absurd he z)
  exact next A _ σ u.1 _ hR2 (zvLs_m hS1) (fun _ _ => rfl) rfl
set_option maxHeartbeats 4000000 in
set_option maxRecDepth 100000 in
theorem lc_kinds {X : zX} (hX2 : zOK2 X) (hL : zOL X) {b L : Nat} {xs : Nat → Int32} (hE : ∀ U, zE X U → va_X b L xs U U.heap) (hb : b < X.2.2.2.1) (hLm : L ≤ 3072) {i : Int} (hi : 0 ≤ i ∧ i + 6 ≤ (L : Int)) {A : Nat → Nat} {S : Nat → va_E} {σ : CS} {m : CV} {f : Nat → Int64} (hR : zRR σ m) (hS : zvLs X A m f S) {kc ks : Nat} (hr : kc + (3 + zNt (σ 10) (σ 4)) ≤ 601024 ∧ ks + (18 + 4096 * zNt (σ 10) (σ 4)) ≤ 7293034) (next : ∀ (A' : Nat → Nat) (S' : Nat → va_E) (σ' : CS) (m' : CV) (f' : Nat → Int64), zRR σ' m' → zvLs X A' m' f' S' → zvAk A A' → (∃ r, fX7_kinds σ  = some (σ', r)) → G X mL_law (zLP X b) (kc + (3 + zNt (σ 10) (σ 4))) (ks + (18 + 4096 * zNt (σ 10) (σ 4))) 3056 (zvLv b A' i) [] (zWs A' 113 (zSt X A' σ' S'))) : G X mL_law (zLP X b) kc ks 1466 (zvLv b A i) [] (zWs A 113 (zSt X A σ S)) := by
  have hX := hX2.1
  obtain ⟨res, er, u, eu, hR2, he, hi2⟩ := s_kinds hR
  refine g_aload_n (M := mL_law) dL_law_1466 1 rfl rfl ?_
  refine g_callVA (M := mL_law) [] hX dL_law_1467 vX7_kinds kM_L_220 (wX7_kinds hX (by decide) er) (fun _ => rfl) 0 (zWs_at (by decide) ((zSt_c 0 rfl (show σ 0 = (σ 0) from rfl))).o) rfl ⟨(Nat.le_of_ble_eq_true rfl), (Nat.le_of_ble_eq_true rfl)⟩ ⟨hr.1, hr.2⟩ (Nat.le_of_ble_eq_true rfl) (fun A' hA' => ?_)
  have hS1 := zvLs_k hS hA'
  rw [zvLv_k hA']
  refine g_aload_n (M := mL_law) dL_law_1470 2 rfl rfl ?_
  refine g_callVr (M := mL_law) [] hX dL_law_1471 vX8_kinds kM_L_223 (wX8_kinds hX (zvLs_c hS1) (by decide) eu) 91 (zWs_at (by decide) (zvLs_c hS1).o) rfl ⟨(Nat.le_of_ble_eq_true rfl), (Nat.le_of_ble_eq_true rfl)⟩ ⟨hr.1, hr.2⟩ (Nat.le_of_ble_eq_true rfl) ?_
  rw [zSt_zC]
  refine h_icmp_eq (M := mL_law) (tgt := 3056) dL_law_1474 (by decide) hi2 (by rw [← he]; exact hi2) (fun _ => ?_) (fun z => absurd he z)
  exact next A' _ res.1 u.1 _ hR2 (zvLs_m hS1) hA' ⟨res.2, er⟩
set_option maxHeartbeats 4000000 in
set_option maxRecDepth 100000 in
theorem lc_ranked {X : zX} (hX2 : zOK2 X) (hL : zOL X) {b L : Nat} {xs : Nat → Int32} (hE : ∀ U, zE X U → va_X b L xs U U.heap) (hb : b < X.2.2.2.1) (hLm : L ≤ 3072) {i : Int} (hi : 0 ≤ i ∧ i + 6 ≤ (L : Int)) {A : Nat → Nat} {S : Nat → va_E} {σ : CS} {m : CV} {f : Nat → Int64} (hR : zRR σ m) (hS : zvLs X A m f S) {kc ks : Nat} (hr : kc + (2 + 3 * zNd (σ 7) (σ 4)) ≤ 601024 ∧ ks + (12 + 13652 * zNd (σ 7) (σ 4)) ≤ 7293034) (next : ∀ (A' : Nat → Nat) (S' : Nat → va_E) (σ' : CS) (m' : CV) (f' : Nat → Int64), zRR σ' m' → zvLs X A' m' f' S' → zvAk A A' → (∃ r, fX7_ranked σ (zvXs xs (i + 1)) = some (σ', r)) → G X mL_law (zLP X b) (kc + (2 + 3 * zNd (σ 7) (σ 4))) (ks + (12 + 13652 * zNd (σ 7) (σ 4))) 3056 (zvLv b A' i) [] (zWs A' 113 (zSt X A' σ' S'))) : G X mL_law (zLP X b) kc ks 1797 (zvLv b A i) [] (zWs A 113 (zSt X A σ S)) := by
  have hX := hX2.1
  obtain ⟨res, er, u, eu, hR2, he, hi2⟩ := s_ranked hR (zvXs_r (xs := xs) (i := i + 1))
  refine g_aload_n (M := mL_law) dL_law_1797 1 rfl rfl ?_
  refine g_arg hE hb dL_law_1798 dL_law_1799 dL_law_1801 dL_law_1802 dL_law_1803 rfl rfl ⟨hi.1, by decide, by omega⟩ hLm ?_
  refine g_callVA (M := mL_law) [.int (iI (zvXs xs (i + 1)))] hX dL_law_1804 vX7_ranked kM_L_247 (wX7_ranked hX (by decide) er) (fun _ => rfl) 0 (zWs_at (by decide) ((zSt_c 0 rfl (show σ 0 = (σ 0) from rfl))).o) rfl ⟨(Nat.le_of_ble_eq_true rfl), (Nat.le_of_ble_eq_true rfl)⟩ ⟨hr.1, hr.2⟩ (Nat.le_of_ble_eq_true rfl) (fun A' hA' => ?_)
  have hS1 := zvLs_k hS hA'
  rw [zvLv_k hA']
  refine g_aload_n (M := mL_law) dL_law_1807 2 rfl rfl ?_
  refine g_arg hE hb dL_law_1808 dL_law_1809 dL_law_1811 dL_law_1812 dL_law_1813 rfl rfl ⟨hi.1, by decide, by omega⟩ hLm ?_
  refine g_callVr (M := mL_law) [.int (iI (zvXs xs (i + 1)))] hX dL_law_1814 vX8_ranked kM_L_250 (wX8_ranked hX (zvLs_c hS1) (by decide) eu) 91 (zWs_at (by decide) (zvLs_c hS1).o) rfl ⟨(Nat.le_of_ble_eq_true rfl), (Nat.le_of_ble_eq_true rfl)⟩ ⟨hr.1, hr.2⟩ (Nat.le_of_ble_eq_true rfl) ?_
  rw [zSt_zC]
  refine h_icmp_eq (M := mL_law) (tgt := 3056) dL_law_1817 (by decide) hi2 (by rw [← he]; exact hi2) (fun _ => ?_) (fun z => absurd he z)
  exact next A' _ res.1 u.1 _ hR2 (zvLs_m hS1) hA' ⟨res.2, er⟩
set_option maxHeartbeats 4000000 in
set_option maxRecDepth 100000 in
theorem lc_taken {X : zX} (hX2 : zOK2 X) (hL : zOL X) {b L : Nat} {xs : Nat → Int32} (hE : ∀ U, zE X U → va_X b L xs U U.heap) (hb : b < X.2.2.2.1) (hLm : L ≤ 3072) {i : Int} (hi : 0 ≤ i ∧ i + 6 ≤ (L : Int)) {A : Nat → Nat} {S : Nat → va_E} {σ : CS} {m : CV} {f : Nat → Int64} (hR : zRR σ m) (hS : zvLs X A m f S) {kc ks : Nat} (hr : kc + 0 ≤ 601024 ∧ ks + 0 ≤ 7293034) (next : ∀ (A' : Nat → Nat) (S' : Nat → va_E) (σ' : CS) (m' : CV) (f' : Nat → Int64), zRR σ' m' → zvLs X A' m' f' S' → zvAk A A' → (σ' = σ) → G X mL_law (zLP X b) (kc + 0) (ks + 0) 3056 (zvLv b A' i) [] (zWs A' 113 (zSt X A' σ' S'))) : G X mL_law (zLP X b) kc ks 2752 (zvLv b A i) [] (zWs A 113 (zSt X A σ S)) := by
  have hX := hX2.1
  obtain ⟨res, er, u, eu, hR2, he, hi2⟩ := s_taken hR (zvXs_r (xs := xs) (i := i + 1))
  refine g_aload_n (M := mL_law) dL_law_2752 1 rfl rfl ?_
  refine g_arg hE hb dL_law_2753 dL_law_2754 dL_law_2756 dL_law_2757 dL_law_2758 rfl rfl ⟨hi.1, by decide, by omega⟩ hLm ?_
  refine g_callVr (M := mL_law) [.int (iI (zvXs xs (i + 1)))] hX dL_law_2759 vX7_taken kM_L_311 (wX7_taken hX (by decide) er) 0 (zWs_at (by decide) ((zSt_c 0 rfl (show σ 0 = (σ 0) from rfl))).o) rfl ⟨(Nat.le_of_ble_eq_true rfl), (Nat.le_of_ble_eq_true rfl)⟩ ⟨hr.1, hr.2⟩ (Nat.le_of_ble_eq_true rfl) ?_
  have hS1 := hS
  refine g_aload_n (M := mL_law) dL_law_2762 2 rfl rfl ?_
  refine g_arg hE hb dL_law_2763 dL_law_2764 dL_law_2766 dL_law_2767 dL_law_2768 rfl rfl ⟨hi.1, by decide, by omega⟩ hLm ?_
  refine g_callVr (M := mL_law) [.int (iI (zvXs xs (i + 1)))] hX dL_law_2769 vX8_taken kM_L_314 (wX8_taken hX (zvLs_c hS1) (by decide) eu) 91 (zWs_at (by decide) (zvLs_c hS1).o) rfl ⟨(Nat.le_of_ble_eq_true rfl), (Nat.le_of_ble_eq_true rfl)⟩ ⟨hr.1, hr.2⟩ (Nat.le_of_ble_eq_true rfl) ?_
  rw [zSt_zC]
  refine h_icmp_eq (M := mL_law) (tgt := 3056) dL_law_2772 (by decide) hi2 (by rw [← he]; exact hi2) (fun _ => ?_) (fun z => absurd he z)
  exact next A _ σ u.1 _ hR2 (zvLs_m hS1) (fun _ _ => rfl) rfl
