section ZLU
/-- the room that is left: for r calls, and for n growths of the second search -/
def zvR (kc ks r n : Nat) : Prop := kc + 5 * r + 3 * n ≤ 601024 ∧ ks + 13664 * r + 13652 * n ≤ 7293034
theorem zNd_1 {V B : CV} : zNd V B ≤ 1 := by
  unfold zNd
  split <;> omega
theorem zNt_1 {V B : CV} : zNt V B ≤ 1 := by
  unfold zNt
  split <;> omega
/-- what the calls do to the number of growths left -/
def zvF (nu : CS → Nat) : Prop := (∀ (σ : CS) (a0 : Int) (a1 : Int) (a2 : Int) (a3 : Int) (a4 : Int) (t : CS) r, fX7_feed σ a0 a1 a2 a3 a4 = some (t, r) → nu t ≤ nu σ) ∧ (∀ (σ : CS) (a0 : Int) (t : CS) r, fX7_truncate σ a0 = some (t, r) → nu t ≤ nu σ) ∧ (∀ (σ : CS) (t : CS) r, fX7_readText σ  = some (t, r) → nu t ≤ nu σ) ∧ (∀ (σ : CS) (t : CS) r, fX7_runScript σ  = some (t, r) → nu t ≤ nu σ) ∧ (∀ (σ : CS) (a0 : Int) (a1 : Int) (t : CS) r, fX7_shared σ a0 a1 = some (t, r) → nu t ≤ nu σ) ∧ (∀ (σ : CS) (a0 : Int) (a1 : Int) (a2 : Int) (t : CS) r, fX7_sharedAt σ a0 a1 a2 = some (t, r) → nu t ≤ nu σ) ∧ (∀ (σ : CS) (a0 : Int) (t : CS) r, fX7_timesOf σ a0 = some (t, r) → nu t ≤ nu σ) ∧ (∀ (σ : CS) (a0 : Int) (t : CS) r, fX7_best σ a0 = some (t, r) → nu t ≤ nu σ) ∧ (∀ (σ : CS) (a0 : Int) (t : CS) r, fX7_mostHad σ a0 = some (t, r) → nu t ≤ nu σ) ∧ (∀ (σ : CS) (a0 : Int) (t : CS) r, fX7_scoreWithout σ a0 = some (t, r) → nu t ≤ nu σ) ∧ (∀ (σ : CS) (a0 : Int) (t : CS) r, fX7_rankOf σ a0 = some (t, r) → nu t ≤ nu σ) ∧ (∀ (σ : CS) (m : CV) (a0 : Int) (t : CS) r, zRR σ m → fX7_second σ a0 = some (t, r) → nu t + zSb σ a0 ≤ nu σ) ∧ (∀ (σ : CS) (a0 : Int) (a1 : Int) (t : CS) r, fX7_count σ a0 a1 = some (t, r) → nu t ≤ nu σ) ∧ (∀ (σ : CS) (a0 : Int) (a1 : Int) (t : CS) r, fX7_weight σ a0 a1 = some (t, r) → nu t ≤ nu σ) ∧ (∀ (σ : CS) (a0 : Int) (a1 : Int) (t : CS) r, fX7_tryFrom σ a0 a1 = some (t, r) → nu t ≤ nu σ) ∧ (∀ (σ : CS) (a0 : Int) (t : CS) r, fX7_bestStart σ a0 = some (t, r) → nu t ≤ nu σ) ∧ (∀ (σ : CS) (a0 : Int) (t : CS) r, fX7_improvesToEnd σ a0 = some (t, r) → nu t ≤ nu σ) ∧ (∀ (σ : CS) (a0 : Int) (a1 : Int) (t : CS) r, fX7_choose σ a0 a1 = some (t, r) → nu t ≤ nu σ) ∧ (∀ (σ : CS) (a0 : Int) (t : CS) r, fX7_clear σ a0 = some (t, r) → nu t ≤ nu σ) ∧ (∀ (σ : CS) (a0 : Int) (t : CS) r, fX7_better σ a0 = some (t, r) → nu t ≤ nu σ) ∧ (∀ (σ : CS) (a0 : Int) (t : CS) r, fX7_improve σ a0 = some (t, r) → nu t ≤ nu σ) ∧ (∀ (σ : CS) (a0 : Int) (t : CS) r, fX7_take σ a0 = some (t, r) → nu t ≤ nu σ) ∧ (∀ (σ : CS) (t : CS) r, fX7_takeBest σ  = some (t, r) → nu t ≤ nu σ) ∧ (∀ (σ : CS) (a0 : Int) (a1 : Int) (t : CS) r, fX7_setOut σ a0 a1 = some (t, r) → nu t ≤ nu σ) ∧ (∀ (σ : CS) (a0 : Int) (t : CS) r, fX7_setChanges σ a0 = some (t, r) → nu t ≤ nu σ) ∧ (∀ (σ : CS) (t : CS) r, fX7_restore σ  = some (t, r) → nu t ≤ nu σ) ∧ (∀ (σ : CS) (t : CS) r, fX7_kinds σ  = some (t, r) → nu t ≤ nu σ) ∧ (∀ (σ : CS) (t : CS) r, fX7_commonest σ  = some (t, r) → nu t ≤ nu σ) ∧ (∀ (σ : CS) (t : CS) r, fX7_outlier σ  = some (t, r) → nu t ≤ nu σ) ∧ (∀ (σ : CS) (a0 : Int) (t : CS) r, fX7_ranked σ a0 = some (t, r) → nu t ≤ nu σ) ∧ (∀ (σ : CS) (t : CS) r, fX7_common σ  = some (t, r) → nu t ≤ nu σ) ∧ (∀ (σ : CS) (t : CS) r, fX7_agreement σ  = some (t, r) → nu t ≤ nu σ) ∧ (∀ (σ : CS) (t : CS) r, fX7_report σ  = some (t, r) → nu t ≤ nu σ) ∧ (∀ (σ : CS) (t : CS) r, fX7_undo σ  = some (t, r) → nu t ≤ nu σ) ∧ (∀ (σ : CS) (t : CS) r, fX7_save σ  = some (t, r) → nu t ≤ nu σ) ∧ (∀ (σ : CS) (t : CS) r, fX7_agreementShare σ  = some (t, r) → nu t ≤ nu σ) ∧ (∀ (σ : CS) (t : CS) r, fX7_meanDistance σ  = some (t, r) → nu t ≤ nu σ) ∧ ∀ (σ : CS) (m : CV) (a0 : Int), zRR σ m → zSb σ a0 ≤ nu σ ∧ zSb σ a0 ≤ 1
theorem lu_feed {X : zX} (hX2 : zOK2 X) (hL : zOL X) {b L : Nat} {xs : Nat → Int32} (hE : ∀ U, zE X U → va_X b L xs U U.heap) (hb : b < X.2.2.2.1) (hLm : L ≤ 3072) {nu : CS → Nat} (hF : zvF nu) {i : Int} (hi : 0 ≤ i ∧ i + 6 ≤ (L : Int)) {A : Nat → Nat} {S : Nat → va_E} {σ : CS} {m : CV} {f : Nat → Int64} (hR : zRR σ m) (hS : zvLs X A m f S) {kc ks r : Nat} (hr : zvR kc ks (r + 1) (nu σ)) (nxt : ∀ (kc' ks' : Nat) (A' : Nat → Nat) (S' : Nat → va_E) (σ' : CS) (m' : CV) (f' : Nat → Int64), zRR σ' m' → zvLs X A' m' f' S' → zvAk A A' → zvR kc' ks' r (nu σ') → G X mL_law (zLP X b) kc' ks' 3056 (zvLv b A' i) [] (zWs A' 113 (zSt X A' σ' S'))) : G X mL_law (zLP X b) kc ks 276 (zvLv b A i) [] (zWs A 113 (zSt X A σ S)) := by
  have h1 := zNd_1 (V := σ 7) (B := σ 4)
  have h2 := zNt_1 (V := σ 10) (B := σ 4)
  unfold zvR at hr
  refine lc_feed hX2 hL hE hb hLm hi hR hS ⟨by omega, by omega⟩ (fun A' S' σ' m' f' g1 g2 g3 g4 => nxt _ _ A' S' σ' m' f' g1 g2 g3 ?_)
  unfold zvR
  obtain ⟨q, hq⟩ := g4
  have hn := hF.1 σ _ _ _ _ _ σ' q hq
  omega
theorem lu_truncate {X : zX} (hX2 : zOK2 X) (hL : zOL X) {b L : Nat} {xs : Nat → Int32} (hE : ∀ U, zE X U → va_X b L xs U U.heap) (hb : b < X.2.2.2.1) (hLm : L ≤ 3072) {nu : CS → Nat} (hF : zvF nu) {i : Int} (hi : 0 ≤ i ∧ i + 6 ≤ (L : Int)) {A : Nat → Nat} {S : Nat → va_E} {σ : CS} {m : CV} {f : Nat → Int64} (hR : zRR σ m) (hS : zvLs X A m f S) {kc ks r : Nat} (hr : zvR kc ks (r + 1) (nu σ)) (nxt : ∀ (kc' ks' : Nat) (A' : Nat → Nat) (S' : Nat → va_E) (σ' : CS) (m' : CV) (f' : Nat → Int64), zRR σ' m' → zvLs X A' m' f' S' → zvAk A A' → zvR kc' ks' r (nu σ') → G X mL_law (zLP X b) kc' ks' 3056 (zvLv b A' i) [] (zWs A' 113 (zSt X A' σ' S'))) : G X mL_law (zLP X b) kc ks 380 (zvLv b A i) [] (zWs A 113 (zSt X A σ S)) := by
  have h1 := zNd_1 (V := σ 7) (B := σ 4)
  have h2 := zNt_1 (V := σ 10) (B := σ 4)
  unfold zvR at hr
  refine lc_truncate hX2 hL hE hb hLm hi hR hS ⟨by omega, by omega⟩ (fun A' S' σ' m' f' g1 g2 g3 g4 => nxt _ _ A' S' σ' m' f' g1 g2 g3 ?_)
  unfold zvR
  obtain ⟨q, hq⟩ := g4
  have hn := hF.2.1 σ _ σ' q hq
  omega
theorem lu_readText {X : zX} (hX2 : zOK2 X) (hL : zOL X) {b L : Nat} {xs : Nat → Int32} (hE : ∀ U, zE X U → va_X b L xs U U.heap) (hb : b < X.2.2.2.1) (hLm : L ≤ 3072) {nu : CS → Nat} (hF : zvF nu) {i : Int} (hi : 0 ≤ i ∧ i + 6 ≤ (L : Int)) {A : Nat → Nat} {S : Nat → va_E} {σ : CS} {m : CV} {f : Nat → Int64} (hR : zRR σ m) (hS : zvLs X A m f S) {kc ks r : Nat} (hr : zvR kc ks (r + 1) (nu σ)) (nxt : ∀ (kc' ks' : Nat) (A' : Nat → Nat) (S' : Nat → va_E) (σ' : CS) (m' : CV) (f' : Nat → Int64), zRR σ' m' → zvLs X A' m' f' S' → zvAk A A' → zvR kc' ks' r (nu σ') → G X mL_law (zLP X b) kc' ks' 3056 (zvLv b A' i) [] (zWs A' 113 (zSt X A' σ' S'))) : G X mL_law (zLP X b) kc ks 436 (zvLv b A i) [] (zWs A 113 (zSt X A σ S)) := by
  have h1 := zNd_1 (V := σ 7) (B := σ 4)
  have h2 := zNt_1 (V := σ 10) (B := σ 4)
  unfold zvR at hr
  refine lc_readText hX2 hL hE hb hLm hi hR hS ⟨by omega, by omega⟩ (fun A' S' σ' m' f' g1 g2 g3 g4 => nxt _ _ A' S' σ' m' f' g1 g2 g3 ?_)
  unfold zvR
  obtain ⟨q, hq⟩ := g4
  have hn := hF.2.2.1 σ σ' q hq
  omega
theorem lu_runScript {X : zX} (hX2 : zOK2 X) (hL : zOL X) {b L : Nat} {xs : Nat → Int32} (hE : ∀ U, zE X U → va_X b L xs U U.heap) (hb : b < X.2.2.2.1) (hLm : L ≤ 3072) {nu : CS → Nat} (hF : zvF nu) {i : Int} (hi : 0 ≤ i ∧ i + 6 ≤ (L : Int)) {A : Nat → Nat} {S : Nat → va_E} {σ : CS} {m : CV} {f : Nat → Int64} (hR : zRR σ m) (hS : zvLs X A m f S) {kc ks r : Nat} (hr : zvR kc ks (r + 1) (nu σ)) (nxt : ∀ (kc' ks' : Nat) (A' : Nat → Nat) (S' : Nat → va_E) (σ' : CS) (m' : CV) (f' : Nat → Int64), zRR σ' m' → zvLs X A' m' f' S' → zvAk A A' → zvR kc' ks' r (nu σ') → G X mL_law (zLP X b) kc' ks' 3056 (zvLv b A' i) [] (zWs A' 113 (zSt X A' σ' S'))) : G X mL_law (zLP X b) kc ks 480 (zvLv b A i) [] (zWs A 113 (zSt X A σ S)) := by
  have h1 := zNd_1 (V := σ 7) (B := σ 4)
  have h2 := zNt_1 (V := σ 10) (B := σ 4)
  unfold zvR at hr
  refine lc_runScript hX2 hL hE hb hLm hi hR hS ⟨by omega, by omega⟩ (fun A' S' σ' m' f' g1 g2 g3 g4 => nxt _ _ A' S' σ' m' f' g1 g2 g3 ?_)
  unfold zvR
  obtain ⟨q, hq⟩ := g4
  have hn := hF.2.2.2.1 σ σ' q hq
  omega
theorem lu_setting {X : zX} (hX2 : zOK2 X) (hL : zOL X) {b L : Nat} {xs : Nat → Int32} (hE : ∀ U, zE X U → va_X b L xs U U.heap) (hb : b < X.2.2.2.1) (hLm : L ≤ 3072) {nu : CS → Nat} (hF : zvF nu) {i : Int} (hi : 0 ≤ i ∧ i + 6 ≤ (L : Int)) {A : Nat → Nat} {S : Nat → va_E} {σ : CS} {m : CV} {f : Nat → Int64} (hR : zRR σ m) (hS : zvLs X A m f S) {kc ks r : Nat} (hr : zvR kc ks (r + 1) (nu σ)) (nxt : ∀ (kc' ks' : Nat) (A' : Nat → Nat) (S' : Nat → va_E) (σ' : CS) (m' : CV) (f' : Nat → Int64), zRR σ' m' → zvLs X A' m' f' S' → zvAk A A' → zvR kc' ks' r (nu σ') → G X mL_law (zLP X b) kc' ks' 3056 (zvLv b A' i) [] (zWs A' 113 (zSt X A' σ' S'))) : G X mL_law (zLP X b) kc ks 550 (zvLv b A i) [] (zWs A 113 (zSt X A σ S)) := by
  have h1 := zNd_1 (V := σ 7) (B := σ 4)
  have h2 := zNt_1 (V := σ 10) (B := σ 4)
  unfold zvR at hr
  refine lc_setting hX2 hL hE hb hLm hi hR hS ⟨by omega, by omega⟩ (fun A' S' σ' m' f' g1 g2 g3 g4 => nxt _ _ A' S' σ' m' f' g1 g2 g3 ?_)
  unfold zvR
  rw [g4]
  omega
theorem lu_row {X : zX} (hX2 : zOK2 X) (hL : zOL X) {b L : Nat} {xs : Nat → Int32} (hE : ∀ U, zE X U → va_X b L xs U U.heap) (hb : b < X.2.2.2.1) (hLm : L ≤ 3072) {nu : CS → Nat} (hF : zvF nu) {i : Int} (hi : 0 ≤ i ∧ i + 6 ≤ (L : Int)) {A : Nat → Nat} {S : Nat → va_E} {σ : CS} {m : CV} {f : Nat → Int64} (hR : zRR σ m) (hS : zvLs X A m f S) {kc ks r : Nat} (hr : zvR kc ks (r + 1) (nu σ)) (nxt : ∀ (kc' ks' : Nat) (A' : Nat → Nat) (S' : Nat → va_E) (σ' : CS) (m' : CV) (f' : Nat → Int64), zRR σ' m' → zvLs X A' m' f' S' → zvAk A A' → zvR kc' ks' r (nu σ') → G X mL_law (zLP X b) kc' ks' 3056 (zvLv b A' i) [] (zWs A' 113 (zSt X A' σ' S'))) : G X mL_law (zLP X b) kc ks 606 (zvLv b A i) [] (zWs A 113 (zSt X A σ S)) := by
  have h1 := zNd_1 (V := σ 7) (B := σ 4)
  have h2 := zNt_1 (V := σ 10) (B := σ 4)
  unfold zvR at hr
  refine lc_row hX2 hL hE hb hLm hi hR hS ⟨by omega, by omega⟩ (fun A' S' σ' m' f' g1 g2 g3 g4 => nxt _ _ A' S' σ' m' f' g1 g2 g3 ?_)
  unfold zvR
  rw [g4]
  omega
theorem lu_letter {X : zX} (hX2 : zOK2 X) (hL : zOL X) {b L : Nat} {xs : Nat → Int32} (hE : ∀ U, zE X U → va_X b L xs U U.heap) (hb : b < X.2.2.2.1) (hLm : L ≤ 3072) {nu : CS → Nat} (hF : zvF nu) {i : Int} (hi : 0 ≤ i ∧ i + 6 ≤ (L : Int)) {A : Nat → Nat} {S : Nat → va_E} {σ : CS} {m : CV} {f : Nat → Int64} (hR : zRR σ m) (hS : zvLs X A m f S) {kc ks r : Nat} (hr : zvR kc ks (r + 1) (nu σ)) (nxt : ∀ (kc' ks' : Nat) (A' : Nat → Nat) (S' : Nat → va_E) (σ' : CS) (m' : CV) (f' : Nat → Int64), zRR σ' m' → zvLs X A' m' f' S' → zvAk A A' → zvR kc' ks' r (nu σ') → G X mL_law (zLP X b) kc' ks' 3056 (zvLv b A' i) [] (zWs A' 113 (zSt X A' σ' S'))) : G X mL_law (zLP X b) kc ks 674 (zvLv b A i) [] (zWs A 113 (zSt X A σ S)) := by
  have h1 := zNd_1 (V := σ 7) (B := σ 4)
  have h2 := zNt_1 (V := σ 10) (B := σ 4)
  unfold zvR at hr
  refine lc_letter hX2 hL hE hb hLm hi hR hS ⟨by omega, by omega⟩ (fun A' S' σ' m' f' g1 g2 g3 g4 => nxt _ _ A' S' σ' m' f' g1 g2 g3 ?_)
  unfold zvR
  rw [g4]
  omega
theorem lu_wordAt {X : zX} (hX2 : zOK2 X) (hL : zOL X) {b L : Nat} {xs : Nat → Int32} (hE : ∀ U, zE X U → va_X b L xs U U.heap) (hb : b < X.2.2.2.1) (hLm : L ≤ 3072) {nu : CS → Nat} (hF : zvF nu) {i : Int} (hi : 0 ≤ i ∧ i + 6 ≤ (L : Int)) {A : Nat → Nat} {S : Nat → va_E} {σ : CS} {m : CV} {f : Nat → Int64} (hR : zRR σ m) (hS : zvLs X A m f S) {kc ks r : Nat} (hr : zvR kc ks (r + 1) (nu σ)) (nxt : ∀ (kc' ks' : Nat) (A' : Nat → Nat) (S' : Nat → va_E) (σ' : CS) (m' : CV) (f' : Nat → Int64), zRR σ' m' → zvLs X A' m' f' S' → zvAk A A' → zvR kc' ks' r (nu σ') → G X mL_law (zLP X b) kc' ks' 3056 (zvLv b A' i) [] (zWs A' 113 (zSt X A' σ' S'))) : G X mL_law (zLP X b) kc ks 742 (zvLv b A i) [] (zWs A 113 (zSt X A σ S)) := by
  have h1 := zNd_1 (V := σ 7) (B := σ 4)
  have h2 := zNt_1 (V := σ 10) (B := σ 4)
  unfold zvR at hr
  refine lc_wordAt hX2 hL hE hb hLm hi hR hS ⟨by omega, by omega⟩ (fun A' S' σ' m' f' g1 g2 g3 g4 => nxt _ _ A' S' σ' m' f' g1 g2 g3 ?_)
  unfold zvR
  rw [g4]
  omega
theorem lu_differ {X : zX} (hX2 : zOK2 X) (hL : zOL X) {b L : Nat} {xs : Nat → Int32} (hE : ∀ U, zE X U → va_X b L xs U U.heap) (hb : b < X.2.2.2.1) (hLm : L ≤ 3072) {nu : CS → Nat} (hF : zvF nu) {i : Int} (hi : 0 ≤ i ∧ i + 6 ≤ (L : Int)) {A : Nat → Nat} {S : Nat → va_E} {σ : CS} {m : CV} {f : Nat → Int64} (hR : zRR σ m) (hS : zvLs X A m f S) {kc ks r : Nat} (hr : zvR kc ks (r + 1) (nu σ)) (nxt : ∀ (kc' ks' : Nat) (A' : Nat → Nat) (S' : Nat → va_E) (σ' : CS) (m' : CV) (f' : Nat → Int64), zRR σ' m' → zvLs X A' m' f' S' → zvAk A A' → zvR kc' ks' r (nu σ') → G X mL_law (zLP X b) kc' ks' 3056 (zvLv b A' i) [] (zWs A' 113 (zSt X A' σ' S'))) : G X mL_law (zLP X b) kc ks 810 (zvLv b A i) [] (zWs A 113 (zSt X A σ S)) := by
  have h1 := zNd_1 (V := σ 7) (B := σ 4)
  have h2 := zNt_1 (V := σ 10) (B := σ 4)
  unfold zvR at hr
  refine lc_differ hX2 hL hE hb hLm hi hR hS ⟨by omega, by omega⟩ (fun A' S' σ' m' f' g1 g2 g3 g4 => nxt _ _ A' S' σ' m' f' g1 g2 g3 ?_)
  unfold zvR
  rw [g4]
  omega
theorem lu_distance {X : zX} (hX2 : zOK2 X) (hL : zOL X) {b L : Nat} {xs : Nat → Int32} (hE : ∀ U, zE X U → va_X b L xs U U.heap) (hb : b < X.2.2.2.1) (hLm : L ≤ 3072) {nu : CS → Nat} (hF : zvF nu) {i : Int} (hi : 0 ≤ i ∧ i + 6 ≤ (L : Int)) {A : Nat → Nat} {S : Nat → va_E} {σ : CS} {m : CV} {f : Nat → Int64} (hR : zRR σ m) (hS : zvLs X A m f S) {kc ks r : Nat} (hr : zvR kc ks (r + 1) (nu σ)) (nxt : ∀ (kc' ks' : Nat) (A' : Nat → Nat) (S' : Nat → va_E) (σ' : CS) (m' : CV) (f' : Nat → Int64), zRR σ' m' → zvLs X A' m' f' S' → zvAk A A' → zvR kc' ks' r (nu σ') → G X mL_law (zLP X b) kc' ks' 3056 (zvLv b A' i) [] (zWs A' 113 (zSt X A' σ' S'))) : G X mL_law (zLP X b) kc ks 878 (zvLv b A i) [] (zWs A 113 (zSt X A σ S)) := by
  have h1 := zNd_1 (V := σ 7) (B := σ 4)
  have h2 := zNt_1 (V := σ 10) (B := σ 4)
  unfold zvR at hr
  refine lc_distance hX2 hL hE hb hLm hi hR hS ⟨by omega, by omega⟩ (fun A' S' σ' m' f' g1 g2 g3 g4 => nxt _ _ A' S' σ' m' f' g1 g2 g3 ?_)
  unfold zvR
  rw [g4]
  omega
theorem lu_score {X : zX} (hX2 : zOK2 X) (hL : zOL X) {b L : Nat} {xs : Nat → Int32} (hE : ∀ U, zE X U → va_X b L xs U U.heap) (hb : b < X.2.2.2.1) (hLm : L ≤ 3072) {nu : CS → Nat} (hF : zvF nu) {i : Int} (hi : 0 ≤ i ∧ i + 6 ≤ (L : Int)) {A : Nat → Nat} {S : Nat → va_E} {σ : CS} {m : CV} {f : Nat → Int64} (hR : zRR σ m) (hS : zvLs X A m f S) {kc ks r : Nat} (hr : zvR kc ks (r + 1) (nu σ)) (nxt : ∀ (kc' ks' : Nat) (A' : Nat → Nat) (S' : Nat → va_E) (σ' : CS) (m' : CV) (f' : Nat → Int64), zRR σ' m' → zvLs X A' m' f' S' → zvAk A A' → zvR kc' ks' r (nu σ') → G X mL_law (zLP X b) kc' ks' 3056 (zvLv b A' i) [] (zWs A' 113 (zSt X A' σ' S'))) : G X mL_law (zLP X b) kc ks 946 (zvLv b A i) [] (zWs A 113 (zSt X A σ S)) := by
  have h1 := zNd_1 (V := σ 7) (B := σ 4)
  have h2 := zNt_1 (V := σ 10) (B := σ 4)
  unfold zvR at hr
  refine lc_score hX2 hL hE hb hLm hi hR hS ⟨by omega, by omega⟩ (fun A' S' σ' m' f' g1 g2 g3 g4 => nxt _ _ A' S' σ' m' f' g1 g2 g3 ?_)
  unfold zvR
  rw [g4]
  omega
theorem lu_having {X : zX} (hX2 : zOK2 X) (hL : zOL X) {b L : Nat} {xs : Nat → Int32} (hE : ∀ U, zE X U → va_X b L xs U U.heap) (hb : b < X.2.2.2.1) (hLm : L ≤ 3072) {nu : CS → Nat} (hF : zvF nu) {i : Int} (hi : 0 ≤ i ∧ i + 6 ≤ (L : Int)) {A : Nat → Nat} {S : Nat → va_E} {σ : CS} {m : CV} {f : Nat → Int64} (hR : zRR σ m) (hS : zvLs X A m f S) {kc ks r : Nat} (hr : zvR kc ks (r + 1) (nu σ)) (nxt : ∀ (kc' ks' : Nat) (A' : Nat → Nat) (S' : Nat → va_E) (σ' : CS) (m' : CV) (f' : Nat → Int64), zRR σ' m' → zvLs X A' m' f' S' → zvAk A A' → zvR kc' ks' r (nu σ') → G X mL_law (zLP X b) kc' ks' 3056 (zvLv b A' i) [] (zWs A' 113 (zSt X A' σ' S'))) : G X mL_law (zLP X b) kc ks 1002 (zvLv b A i) [] (zWs A 113 (zSt X A σ S)) := by
  have h1 := zNd_1 (V := σ 7) (B := σ 4)
  have h2 := zNt_1 (V := σ 10) (B := σ 4)
  unfold zvR at hr
  refine lc_having hX2 hL hE hb hLm hi hR hS ⟨by omega, by omega⟩ (fun A' S' σ' m' f' g1 g2 g3 g4 => nxt _ _ A' S' σ' m' f' g1 g2 g3 ?_)
  unfold zvR
  rw [g4]
  omega
theorem lu_closest {X : zX} (hX2 : zOK2 X) (hL : zOL X) {b L : Nat} {xs : Nat → Int32} (hE : ∀ U, zE X U → va_X b L xs U U.heap) (hb : b < X.2.2.2.1) (hLm : L ≤ 3072) {nu : CS → Nat} (hF : zvF nu) {i : Int} (hi : 0 ≤ i ∧ i + 6 ≤ (L : Int)) {A : Nat → Nat} {S : Nat → va_E} {σ : CS} {m : CV} {f : Nat → Int64} (hR : zRR σ m) (hS : zvLs X A m f S) {kc ks r : Nat} (hr : zvR kc ks (r + 1) (nu σ)) (nxt : ∀ (kc' ks' : Nat) (A' : Nat → Nat) (S' : Nat → va_E) (σ' : CS) (m' : CV) (f' : Nat → Int64), zRR σ' m' → zvLs X A' m' f' S' → zvAk A A' → zvR kc' ks' r (nu σ') → G X mL_law (zLP X b) kc' ks' 3056 (zvLv b A' i) [] (zWs A' 113 (zSt X A' σ' S'))) : G X mL_law (zLP X b) kc ks 1058 (zvLv b A i) [] (zWs A 113 (zSt X A σ S)) := by
  have h1 := zNd_1 (V := σ 7) (B := σ 4)
  have h2 := zNt_1 (V := σ 10) (B := σ 4)
  unfold zvR at hr
  refine lc_closest hX2 hL hE hb hLm hi hR hS ⟨by omega, by omega⟩ (fun A' S' σ' m' f' g1 g2 g3 g4 => nxt _ _ A' S' σ' m' f' g1 g2 g3 ?_)
  unfold zvR
  rw [g4]
  omega
theorem lu_spread {X : zX} (hX2 : zOK2 X) (hL : zOL X) {b L : Nat} {xs : Nat → Int32} (hE : ∀ U, zE X U → va_X b L xs U U.heap) (hb : b < X.2.2.2.1) (hLm : L ≤ 3072) {nu : CS → Nat} (hF : zvF nu) {i : Int} (hi : 0 ≤ i ∧ i + 6 ≤ (L : Int)) {A : Nat → Nat} {S : Nat → va_E} {σ : CS} {m : CV} {f : Nat → Int64} (hR : zRR σ m) (hS : zvLs X A m f S) {kc ks r : Nat} (hr : zvR kc ks (r + 1) (nu σ)) (nxt : ∀ (kc' ks' : Nat) (A' : Nat → Nat) (S' : Nat → va_E) (σ' : CS) (m' : CV) (f' : Nat → Int64), zRR σ' m' → zvLs X A' m' f' S' → zvAk A A' → zvR kc' ks' r (nu σ') → G X mL_law (zLP X b) kc' ks' 3056 (zvLv b A' i) [] (zWs A' 113 (zSt X A' σ' S'))) : G X mL_law (zLP X b) kc ks 1126 (zvLv b A i) [] (zWs A 113 (zSt X A σ S)) := by
  have h1 := zNd_1 (V := σ 7) (B := σ 4)
  have h2 := zNt_1 (V := σ 10) (B := σ 4)
  unfold zvR at hr
  refine lc_spread hX2 hL hE hb hLm hi hR hS ⟨by omega, by omega⟩ (fun A' S' σ' m' f' g1 g2 g3 g4 => nxt _ _ A' S' σ' m' f' g1 g2 g3 ?_)
  unfold zvR
  rw [g4]
  omega
theorem lu_shared {X : zX} (hX2 : zOK2 X) (hL : zOL X) {b L : Nat} {xs : Nat → Int32} (hE : ∀ U, zE X U → va_X b L xs U U.heap) (hb : b < X.2.2.2.1) (hLm : L ≤ 3072) {nu : CS → Nat} (hF : zvF nu) {i : Int} (hi : 0 ≤ i ∧ i + 6 ≤ (L : Int)) {A : Nat → Nat} {S : Nat → va_E} {σ : CS} {m : CV} {f : Nat → Int64} (hR : zRR σ m) (hS : zvLs X A m f S) {kc ks r : Nat} (hr : zvR kc ks (r + 1) (nu σ)) (nxt : ∀ (kc' ks' : Nat) (A' : Nat → Nat) (S' : Nat → va_E) (σ' : CS) (m' : CV) (f' : Nat → Int64), zRR σ' m' → zvLs X A' m' f' S' → zvAk A A' → zvR kc' ks' r (nu σ') → G X mL_law (zLP X b) kc' ks' 3056 (zvLv b A' i) [] (zWs A' 113 (zSt X A' σ' S'))) : G X mL_law (zLP X b) kc ks 1182 (zvLv b A i) [] (zWs A 113 (zSt X A σ S)) := by
  have h1 := zNd_1 (V := σ 7) (B := σ 4)
  have h2 := zNt_1 (V := σ 10) (B := σ 4)
  unfold zvR at hr
  refine lc_shared hX2 hL hE hb hLm hi hR hS ⟨by omega, by omega⟩ (fun A' S' σ' m' f' g1 g2 g3 g4 => nxt _ _ A' S' σ' m' f' g1 g2 g3 ?_)
  unfold zvR
  obtain ⟨q, hq⟩ := g4
  have hn := hF.2.2.2.2.1 σ _ _ σ' q hq
  omega
theorem lu_sharedAt {X : zX} (hX2 : zOK2 X) (hL : zOL X) {b L : Nat} {xs : Nat → Int32} (hE : ∀ U, zE X U → va_X b L xs U U.heap) (hb : b < X.2.2.2.1) (hLm : L ≤ 3072) {nu : CS → Nat} (hF : zvF nu) {i : Int} (hi : 0 ≤ i ∧ i + 6 ≤ (L : Int)) {A : Nat → Nat} {S : Nat → va_E} {σ : CS} {m : CV} {f : Nat → Int64} (hR : zRR σ m) (hS : zvLs X A m f S) {kc ks r : Nat} (hr : zvR kc ks (r + 1) (nu σ)) (nxt : ∀ (kc' ks' : Nat) (A' : Nat → Nat) (S' : Nat → va_E) (σ' : CS) (m' : CV) (f' : Nat → Int64), zRR σ' m' → zvLs X A' m' f' S' → zvAk A A' → zvR kc' ks' r (nu σ') → G X mL_law (zLP X b) kc' ks' 3056 (zvLv b A' i) [] (zWs A' 113 (zSt X A' σ' S'))) : G X mL_law (zLP X b) kc ks 1250 (zvLv b A i) [] (zWs A 113 (zSt X A σ S)) := by
  have h1 := zNd_1 (V := σ 7) (B := σ 4)
  have h2 := zNt_1 (V := σ 10) (B := σ 4)
  unfold zvR at hr
  refine lc_sharedAt hX2 hL hE hb hLm hi hR hS ⟨by omega, by omega⟩ (fun A' S' σ' m' f' g1 g2 g3 g4 => nxt _ _ A' S' σ' m' f' g1 g2 g3 ?_)
  unfold zvR
  obtain ⟨q, hq⟩ := g4
  have hn := hF.2.2.2.2.2.1 σ _ _ _ σ' q hq
  omega
theorem lu_hits {X : zX} (hX2 : zOK2 X) (hL : zOL X) {b L : Nat} {xs : Nat → Int32} (hE : ∀ U, zE X U → va_X b L xs U U.heap) (hb : b < X.2.2.2.1) (hLm : L ≤ 3072) {nu : CS → Nat} (hF : zvF nu) {i : Int} (hi : 0 ≤ i ∧ i + 6 ≤ (L : Int)) {A : Nat → Nat} {S : Nat → va_E} {σ : CS} {m : CV} {f : Nat → Int64} (hR : zRR σ m) (hS : zvLs X A m f S) {kc ks r : Nat} (hr : zvR kc ks (r + 1) (nu σ)) (nxt : ∀ (kc' ks' : Nat) (A' : Nat → Nat) (S' : Nat → va_E) (σ' : CS) (m' : CV) (f' : Nat → Int64), zRR σ' m' → zvLs X A' m' f' S' → zvAk A A' → zvR kc' ks' r (nu σ') → G X mL_law (zLP X b) kc' ks' 3056 (zvLv b A' i) [] (zWs A' 113 (zSt X A' σ' S'))) : G X mL_law (zLP X b) kc ks 1330 (zvLv b A i) [] (zWs A 113 (zSt X A σ S)) := by
  have h1 := zNd_1 (V := σ 7) (B := σ 4)
  have h2 := zNt_1 (V := σ 10) (B := σ 4)
  unfold zvR at hr
  refine lc_hits hX2 hL hE hb hLm hi hR hS ⟨by omega, by omega⟩ (fun A' S' σ' m' f' g1 g2 g3 g4 => nxt _ _ A' S' σ' m' f' g1 g2 g3 ?_)
  unfold zvR
  rw [g4]
  omega
theorem lu_hit {X : zX} (hX2 : zOK2 X) (hL : zOL X) {b L : Nat} {xs : Nat → Int32} (hE : ∀ U, zE X U → va_X b L xs U U.heap) (hb : b < X.2.2.2.1) (hLm : L ≤ 3072) {nu : CS → Nat} (hF : zvF nu) {i : Int} (hi : 0 ≤ i ∧ i + 6 ≤ (L : Int)) {A : Nat → Nat} {S : Nat → va_E} {σ : CS} {m : CV} {f : Nat → Int64} (hR : zRR σ m) (hS : zvLs X A m f S) {kc ks r : Nat} (hr : zvR kc ks (r + 1) (nu σ)) (nxt : ∀ (kc' ks' : Nat) (A' : Nat → Nat) (S' : Nat → va_E) (σ' : CS) (m' : CV) (f' : Nat → Int64), zRR σ' m' → zvLs X A' m' f' S' → zvAk A A' → zvR kc' ks' r (nu σ') → G X mL_law (zLP X b) kc' ks' 3056 (zvLv b A' i) [] (zWs A' 113 (zSt X A' σ' S'))) : G X mL_law (zLP X b) kc ks 1386 (zvLv b A i) [] (zWs A 113 (zSt X A σ S)) := by
  have h1 := zNd_1 (V := σ 7) (B := σ 4)
  have h2 := zNt_1 (V := σ 10) (B := σ 4)
  unfold zvR at hr
  refine lc_hit hX2 hL hE hb hLm hi hR hS ⟨by omega, by omega⟩ (fun A' S' σ' m' f' g1 g2 g3 g4 => nxt _ _ A' S' σ' m' f' g1 g2 g3 ?_)
  unfold zvR
  rw [g4]
  omega
theorem lu_timesOf {X : zX} (hX2 : zOK2 X) (hL : zOL X) {b L : Nat} {xs : Nat → Int32} (hE : ∀ U, zE X U → va_X b L xs U U.heap) (hb : b < X.2.2.2.1) (hLm : L ≤ 3072) {nu : CS → Nat} (hF : zvF nu) {i : Int} (hi : 0 ≤ i ∧ i + 6 ≤ (L : Int)) {A : Nat → Nat} {S : Nat → va_E} {σ : CS} {m : CV} {f : Nat → Int64} (hR : zRR σ m) (hS : zvLs X A m f S) {kc ks r : Nat} (hr : zvR kc ks (r + 1) (nu σ)) (nxt : ∀ (kc' ks' : Nat) (A' : Nat → Nat) (S' : Nat → va_E) (σ' : CS) (m' : CV) (f' : Nat → Int64), zRR σ' m' → zvLs X A' m' f' S' → zvAk A A' → zvR kc' ks' r (nu σ') → G X mL_law (zLP X b) kc' ks' 3056 (zvLv b A' i) [] (zWs A' 113 (zSt X A' σ' S'))) : G X mL_law (zLP X b) kc ks 1479 (zvLv b A i) [] (zWs A 113 (zSt X A σ S)) := by
  have h1 := zNd_1 (V := σ 7) (B := σ 4)
  have h2 := zNt_1 (V := σ 10) (B := σ 4)
  unfold zvR at hr
  refine lc_timesOf hX2 hL hE hb hLm hi hR hS ⟨by omega, by omega⟩ (fun A' S' σ' m' f' g1 g2 g3 g4 => nxt _ _ A' S' σ' m' f' g1 g2 g3 ?_)
  unfold zvR
  obtain ⟨q, hq⟩ := g4
  have hn := hF.2.2.2.2.2.2.1 σ _ σ' q hq
  omega
theorem lu_best {X : zX} (hX2 : zOK2 X) (hL : zOL X) {b L : Nat} {xs : Nat → Int32} (hE : ∀ U, zE X U → va_X b L xs U U.heap) (hb : b < X.2.2.2.1) (hLm : L ≤ 3072) {nu : CS → Nat} (hF : zvF nu) {i : Int} (hi : 0 ≤ i ∧ i + 6 ≤ (L : Int)) {A : Nat → Nat} {S : Nat → va_E} {σ : CS} {m : CV} {f : Nat → Int64} (hR : zRR σ m) (hS : zvLs X A m f S) {kc ks r : Nat} (hr : zvR kc ks (r + 1) (nu σ)) (nxt : ∀ (kc' ks' : Nat) (A' : Nat → Nat) (S' : Nat → va_E) (σ' : CS) (m' : CV) (f' : Nat → Int64), zRR σ' m' → zvLs X A' m' f' S' → zvAk A A' → zvR kc' ks' r (nu σ') → G X mL_law (zLP X b) kc' ks' 3056 (zvLv b A' i) [] (zWs A' 113 (zSt X A' σ' S'))) : G X mL_law (zLP X b) kc ks 1548 (zvLv b A i) [] (zWs A 113 (zSt X A σ S)) := by
  have h1 := zNd_1 (V := σ 7) (B := σ 4)
  have h2 := zNt_1 (V := σ 10) (B := σ 4)
  unfold zvR at hr
  refine lc_best hX2 hL hE hb hLm hi hR hS ⟨by omega, by omega⟩ (fun A' S' σ' m' f' g1 g2 g3 g4 => nxt _ _ A' S' σ' m' f' g1 g2 g3 ?_)
  unfold zvR
  obtain ⟨q, hq⟩ := g4
  have hn := hF.2.2.2.2.2.2.2.1 σ _ σ' q hq
  omega
theorem lu_bound {X : zX} (hX2 : zOK2 X) (hL : zOL X) {b L : Nat} {xs : Nat → Int32} (hE : ∀ U, zE X U → va_X b L xs U U.heap) (hb : b < X.2.2.2.1) (hLm : L ≤ 3072) {nu : CS → Nat} (hF : zvF nu) {i : Int} (hi : 0 ≤ i ∧ i + 6 ≤ (L : Int)) {A : Nat → Nat} {S : Nat → va_E} {σ : CS} {m : CV} {f : Nat → Int64} (hR : zRR σ m) (hS : zvLs X A m f S) {kc ks r : Nat} (hr : zvR kc ks (r + 1) (nu σ)) (nxt : ∀ (kc' ks' : Nat) (A' : Nat → Nat) (S' : Nat → va_E) (σ' : CS) (m' : CV) (f' : Nat → Int64), zRR σ' m' → zvLs X A' m' f' S' → zvAk A A' → zvR kc' ks' r (nu σ') → G X mL_law (zLP X b) kc' ks' 3056 (zvLv b A' i) [] (zWs A' 113 (zSt X A' σ' S'))) : G X mL_law (zLP X b) kc ks 1604 (zvLv b A i) [] (zWs A 113 (zSt X A σ S)) := by
  have h1 := zNd_1 (V := σ 7) (B := σ 4)
  have h2 := zNt_1 (V := σ 10) (B := σ 4)
  unfold zvR at hr
  refine lc_bound hX2 hL hE hb hLm hi hR hS ⟨by omega, by omega⟩ (fun A' S' σ' m' f' g1 g2 g3 g4 => nxt _ _ A' S' σ' m' f' g1 g2 g3 ?_)
  unfold zvR
  rw [g4]
  omega
theorem lu_mostHad {X : zX} (hX2 : zOK2 X) (hL : zOL X) {b L : Nat} {xs : Nat → Int32} (hE : ∀ U, zE X U → va_X b L xs U U.heap) (hb : b < X.2.2.2.1) (hLm : L ≤ 3072) {nu : CS → Nat} (hF : zvF nu) {i : Int} (hi : 0 ≤ i ∧ i + 6 ≤ (L : Int)) {A : Nat → Nat} {S : Nat → va_E} {σ : CS} {m : CV} {f : Nat → Int64} (hR : zRR σ m) (hS : zvLs X A m f S) {kc ks r : Nat} (hr : zvR kc ks (r + 1) (nu σ)) (nxt : ∀ (kc' ks' : Nat) (A' : Nat → Nat) (S' : Nat → va_E) (σ' : CS) (m' : CV) (f' : Nat → Int64), zRR σ' m' → zvLs X A' m' f' S' → zvAk A A' → zvR kc' ks' r (nu σ') → G X mL_law (zLP X b) kc' ks' 3056 (zvLv b A' i) [] (zWs A' 113 (zSt X A' σ' S'))) : G X mL_law (zLP X b) kc ks 1672 (zvLv b A i) [] (zWs A 113 (zSt X A σ S)) := by
  have h1 := zNd_1 (V := σ 7) (B := σ 4)
  have h2 := zNt_1 (V := σ 10) (B := σ 4)
  unfold zvR at hr
  refine lc_mostHad hX2 hL hE hb hLm hi hR hS ⟨by omega, by omega⟩ (fun A' S' σ' m' f' g1 g2 g3 g4 => nxt _ _ A' S' σ' m' f' g1 g2 g3 ?_)
  unfold zvR
  obtain ⟨q, hq⟩ := g4
  have hn := hF.2.2.2.2.2.2.2.2.1 σ _ σ' q hq
  omega
theorem lu_scoreWithout {X : zX} (hX2 : zOK2 X) (hL : zOL X) {b L : Nat} {xs : Nat → Int32} (hE : ∀ U, zE X U → va_X b L xs U U.heap) (hb : b < X.2.2.2.1) (hLm : L ≤ 3072) {nu : CS → Nat} (hF : zvF nu) {i : Int} (hi : 0 ≤ i ∧ i + 6 ≤ (L : Int)) {A : Nat → Nat} {S : Nat → va_E} {σ : CS} {m : CV} {f : Nat → Int64} (hR : zRR σ m) (hS : zvLs X A m f S) {kc ks r : Nat} (hr : zvR kc ks (r + 1) (nu σ)) (nxt : ∀ (kc' ks' : Nat) (A' : Nat → Nat) (S' : Nat → va_E) (σ' : CS) (m' : CV) (f' : Nat → Int64), zRR σ' m' → zvLs X A' m' f' S' → zvAk A A' → zvR kc' ks' r (nu σ') → G X mL_law (zLP X b) kc' ks' 3056 (zvLv b A' i) [] (zWs A' 113 (zSt X A' σ' S'))) : G X mL_law (zLP X b) kc ks 1728 (zvLv b A i) [] (zWs A 113 (zSt X A σ S)) := by
  have h1 := zNd_1 (V := σ 7) (B := σ 4)
  have h2 := zNt_1 (V := σ 10) (B := σ 4)
  unfold zvR at hr
  refine lc_scoreWithout hX2 hL hE hb hLm hi hR hS ⟨by omega, by omega⟩ (fun A' S' σ' m' f' g1 g2 g3 g4 => nxt _ _ A' S' σ' m' f' g1 g2 g3 ?_)
  unfold zvR
  obtain ⟨q, hq⟩ := g4
  have hn := hF.2.2.2.2.2.2.2.2.2.1 σ _ σ' q hq
  omega
theorem lu_rankOf {X : zX} (hX2 : zOK2 X) (hL : zOL X) {b L : Nat} {xs : Nat → Int32} (hE : ∀ U, zE X U → va_X b L xs U U.heap) (hb : b < X.2.2.2.1) (hLm : L ≤ 3072) {nu : CS → Nat} (hF : zvF nu) {i : Int} (hi : 0 ≤ i ∧ i + 6 ≤ (L : Int)) {A : Nat → Nat} {S : Nat → va_E} {σ : CS} {m : CV} {f : Nat → Int64} (hR : zRR σ m) (hS : zvLs X A m f S) {kc ks r : Nat} (hr : zvR kc ks (r + 1) (nu σ)) (nxt : ∀ (kc' ks' : Nat) (A' : Nat → Nat) (S' : Nat → va_E) (σ' : CS) (m' : CV) (f' : Nat → Int64), zRR σ' m' → zvLs X A' m' f' S' → zvAk A A' → zvR kc' ks' r (nu σ') → G X mL_law (zLP X b) kc' ks' 3056 (zvLv b A' i) [] (zWs A' 113 (zSt X A' σ' S'))) : G X mL_law (zLP X b) kc ks 1822 (zvLv b A i) [] (zWs A 113 (zSt X A σ S)) := by
  have h1 := zNd_1 (V := σ 7) (B := σ 4)
  have h2 := zNt_1 (V := σ 10) (B := σ 4)
  unfold zvR at hr
  refine lc_rankOf hX2 hL hE hb hLm hi hR hS ⟨by omega, by omega⟩ (fun A' S' σ' m' f' g1 g2 g3 g4 => nxt _ _ A' S' σ' m' f' g1 g2 g3 ?_)
  unfold zvR
  obtain ⟨q, hq⟩ := g4
  have hn := hF.2.2.2.2.2.2.2.2.2.2.1 σ _ σ' q hq
  omega
theorem lu_second {X : zX} (hX2 : zOK2 X) (hL : zOL X) {b L : Nat} {xs : Nat → Int32} (hE : ∀ U, zE X U → va_X b L xs U U.heap) (hb : b < X.2.2.2.1) (hLm : L ≤ 3072) {nu : CS → Nat} (hF : zvF nu) {i : Int} (hi : 0 ≤ i ∧ i + 6 ≤ (L : Int)) {A : Nat → Nat} {S : Nat → va_E} {σ : CS} {m : CV} {f : Nat → Int64} (hR : zRR σ m) (hS : zvLs X A m f S) {kc ks r : Nat} (hr : zvR kc ks (r + 1) (nu σ)) (nxt : ∀ (kc' ks' : Nat) (A' : Nat → Nat) (S' : Nat → va_E) (σ' : CS) (m' : CV) (f' : Nat → Int64), zRR σ' m' → zvLs X A' m' f' S' → zvAk A A' → zvR kc' ks' r (nu σ') → G X mL_law (zLP X b) kc' ks' 3056 (zvLv b A' i) [] (zWs A' 113 (zSt X A' σ' S'))) : G X mL_law (zLP X b) kc ks 1878 (zvLv b A i) [] (zWs A 113 (zSt X A σ S)) := by
  have h1 := zNd_1 (V := σ 7) (B := σ 4)
  have h2 := zNt_1 (V := σ 10) (B := σ 4)
  unfold zvR at hr
  have hz := hF.2.2.2.2.2.2.2.2.2.2.2.2.2.2.2.2.2.2.2.2.2.2.2.2.2.2.2.2.2.2.2.2.2.2.2.2.2 σ m (zvXs xs (i + 1)) hR
  refine lc_second hX2 hL hE hb hLm hi hR hS ⟨by omega, by omega⟩ (fun A' S' σ' m' f' g1 g2 g3 g4 => nxt _ _ A' S' σ' m' f' g1 g2 g3 ?_)
  unfold zvR
  obtain ⟨q, hq⟩ := g4
  have hn := hF.2.2.2.2.2.2.2.2.2.2.2.1 σ m _ σ' q hR hq
  omega
theorem lu_count {X : zX} (hX2 : zOK2 X) (hL : zOL X) {b L : Nat} {xs : Nat → Int32} (hE : ∀ U, zE X U → va_X b L xs U U.heap) (hb : b < X.2.2.2.1) (hLm : L ≤ 3072) {nu : CS → Nat} (hF : zvF nu) {i : Int} (hi : 0 ≤ i ∧ i + 6 ≤ (L : Int)) {A : Nat → Nat} {S : Nat → va_E} {σ : CS} {m : CV} {f : Nat → Int64} (hR : zRR σ m) (hS : zvLs X A m f S) {kc ks r : Nat} (hr : zvR kc ks (r + 1) (nu σ)) (nxt : ∀ (kc' ks' : Nat) (A' : Nat → Nat) (S' : Nat → va_E) (σ' : CS) (m' : CV) (f' : Nat → Int64), zRR σ' m' → zvLs X A' m' f' S' → zvAk A A' → zvR kc' ks' r (nu σ') → G X mL_law (zLP X b) kc' ks' 3056 (zvLv b A' i) [] (zWs A' 113 (zSt X A' σ' S'))) : G X mL_law (zLP X b) kc ks 1934 (zvLv b A i) [] (zWs A 113 (zSt X A σ S)) := by
  have h1 := zNd_1 (V := σ 7) (B := σ 4)
  have h2 := zNt_1 (V := σ 10) (B := σ 4)
  unfold zvR at hr
  refine lc_count hX2 hL hE hb hLm hi hR hS ⟨by omega, by omega⟩ (fun A' S' σ' m' f' g1 g2 g3 g4 => nxt _ _ A' S' σ' m' f' g1 g2 g3 ?_)
  unfold zvR
  obtain ⟨q, hq⟩ := g4
  have hn := hF.2.2.2.2.2.2.2.2.2.2.2.2.1 σ _ _ σ' q hq
  omega
theorem lu_weight {X : zX} (hX2 : zOK2 X) (hL : zOL X) {b L : Nat} {xs : Nat → Int32} (hE : ∀ U, zE X U → va_X b L xs U U.heap) (hb : b < X.2.2.2.1) (hLm : L ≤ 3072) {nu : CS → Nat} (hF : zvF nu) {i : Int} (hi : 0 ≤ i ∧ i + 6 ≤ (L : Int)) {A : Nat → Nat} {S : Nat → va_E} {σ : CS} {m : CV} {f : Nat → Int64} (hR : zRR σ m) (hS : zvLs X A m f S) {kc ks r : Nat} (hr : zvR kc ks (r + 1) (nu σ)) (nxt : ∀ (kc' ks' : Nat) (A' : Nat → Nat) (S' : Nat → va_E) (σ' : CS) (m' : CV) (f' : Nat → Int64), zRR σ' m' → zvLs X A' m' f' S' → zvAk A A' → zvR kc' ks' r (nu σ') → G X mL_law (zLP X b) kc' ks' 3056 (zvLv b A' i) [] (zWs A' 113 (zSt X A' σ' S'))) : G X mL_law (zLP X b) kc ks 2028 (zvLv b A i) [] (zWs A 113 (zSt X A σ S)) := by
  have h1 := zNd_1 (V := σ 7) (B := σ 4)
  have h2 := zNt_1 (V := σ 10) (B := σ 4)
  unfold zvR at hr
  refine lc_weight hX2 hL hE hb hLm hi hR hS ⟨by omega, by omega⟩ (fun A' S' σ' m' f' g1 g2 g3 g4 => nxt _ _ A' S' σ' m' f' g1 g2 g3 ?_)
  unfold zvR
  obtain ⟨q, hq⟩ := g4
  have hn := hF.2.2.2.2.2.2.2.2.2.2.2.2.2.1 σ _ _ σ' q hq
  omega
theorem lu_tryFrom {X : zX} (hX2 : zOK2 X) (hL : zOL X) {b L : Nat} {xs : Nat → Int32} (hE : ∀ U, zE X U → va_X b L xs U U.heap) (hb : b < X.2.2.2.1) (hLm : L ≤ 3072) {nu : CS → Nat} (hF : zvF nu) {i : Int} (hi : 0 ≤ i ∧ i + 6 ≤ (L : Int)) {A : Nat → Nat} {S : Nat → va_E} {σ : CS} {m : CV} {f : Nat → Int64} (hR : zRR σ m) (hS : zvLs X A m f S) {kc ks r : Nat} (hr : zvR kc ks (r + 1) (nu σ)) (nxt : ∀ (kc' ks' : Nat) (A' : Nat → Nat) (S' : Nat → va_E) (σ' : CS) (m' : CV) (f' : Nat → Int64), zRR σ' m' → zvLs X A' m' f' S' → zvAk A A' → zvR kc' ks' r (nu σ') → G X mL_law (zLP X b) kc' ks' 3056 (zvLv b A' i) [] (zWs A' 113 (zSt X A' σ' S'))) : G X mL_law (zLP X b) kc ks 2096 (zvLv b A i) [] (zWs A 113 (zSt X A σ S)) := by
  have h1 := zNd_1 (V := σ 7) (B := σ 4)
  have h2 := zNt_1 (V := σ 10) (B := σ 4)
  unfold zvR at hr
  refine lc_tryFrom hX2 hL hE hb hLm hi hR hS ⟨by omega, by omega⟩ (fun A' S' σ' m' f' g1 g2 g3 g4 => nxt _ _ A' S' σ' m' f' g1 g2 g3 ?_)
  unfold zvR
  obtain ⟨q, hq⟩ := g4
  have hn := hF.2.2.2.2.2.2.2.2.2.2.2.2.2.2.1 σ _ _ σ' q hq
  omega
theorem lu_bestStart {X : zX} (hX2 : zOK2 X) (hL : zOL X) {b L : Nat} {xs : Nat → Int32} (hE : ∀ U, zE X U → va_X b L xs U U.heap) (hb : b < X.2.2.2.1) (hLm : L ≤ 3072) {nu : CS → Nat} (hF : zvF nu) {i : Int} (hi : 0 ≤ i ∧ i + 6 ≤ (L : Int)) {A : Nat → Nat} {S : Nat → va_E} {σ : CS} {m : CV} {f : Nat → Int64} (hR : zRR σ m) (hS : zvLs X A m f S) {kc ks r : Nat} (hr : zvR kc ks (r + 1) (nu σ)) (nxt : ∀ (kc' ks' : Nat) (A' : Nat → Nat) (S' : Nat → va_E) (σ' : CS) (m' : CV) (f' : Nat → Int64), zRR σ' m' → zvLs X A' m' f' S' → zvAk A A' → zvR kc' ks' r (nu σ') → G X mL_law (zLP X b) kc' ks' 3056 (zvLv b A' i) [] (zWs A' 113 (zSt X A' σ' S'))) : G X mL_law (zLP X b) kc ks 2164 (zvLv b A i) [] (zWs A 113 (zSt X A σ S)) := by
  have h1 := zNd_1 (V := σ 7) (B := σ 4)
  have h2 := zNt_1 (V := σ 10) (B := σ 4)
  unfold zvR at hr
  refine lc_bestStart hX2 hL hE hb hLm hi hR hS ⟨by omega, by omega⟩ (fun A' S' σ' m' f' g1 g2 g3 g4 => nxt _ _ A' S' σ' m' f' g1 g2 g3 ?_)
  unfold zvR
  obtain ⟨q, hq⟩ := g4
  have hn := hF.2.2.2.2.2.2.2.2.2.2.2.2.2.2.2.1 σ _ σ' q hq
  omega
theorem lu_improvesToEnd {X : zX} (hX2 : zOK2 X) (hL : zOL X) {b L : Nat} {xs : Nat → Int32} (hE : ∀ U, zE X U → va_X b L xs U U.heap) (hb : b < X.2.2.2.1) (hLm : L ≤ 3072) {nu : CS → Nat} (hF : zvF nu) {i : Int} (hi : 0 ≤ i ∧ i + 6 ≤ (L : Int)) {A : Nat → Nat} {S : Nat → va_E} {σ : CS} {m : CV} {f : Nat → Int64} (hR : zRR σ m) (hS : zvLs X A m f S) {kc ks r : Nat} (hr : zvR kc ks (r + 1) (nu σ)) (nxt : ∀ (kc' ks' : Nat) (A' : Nat → Nat) (S' : Nat → va_E) (σ' : CS) (m' : CV) (f' : Nat → Int64), zRR σ' m' → zvLs X A' m' f' S' → zvAk A A' → zvR kc' ks' r (nu σ') → G X mL_law (zLP X b) kc' ks' 3056 (zvLv b A' i) [] (zWs A' 113 (zSt X A' σ' S'))) : G X mL_law (zLP X b) kc ks 2304 (zvLv b A i) [] (zWs A 113 (zSt X A σ S)) := by
  have h1 := zNd_1 (V := σ 7) (B := σ 4)
  have h2 := zNt_1 (V := σ 10) (B := σ 4)
  unfold zvR at hr
  refine lc_improvesToEnd hX2 hL hE hb hLm hi hR hS ⟨by omega, by omega⟩ (fun A' S' σ' m' f' g1 g2 g3 g4 => nxt _ _ A' S' σ' m' f' g1 g2 g3 ?_)
  unfold zvR
  obtain ⟨q, hq⟩ := g4
  have hn := hF.2.2.2.2.2.2.2.2.2.2.2.2.2.2.2.2.1 σ _ σ' q hq
  omega
theorem lu_choose {X : zX} (hX2 : zOK2 X) (hL : zOL X) {b L : Nat} {xs : Nat → Int32} (hE : ∀ U, zE X U → va_X b L xs U U.heap) (hb : b < X.2.2.2.1) (hLm : L ≤ 3072) {nu : CS → Nat} (hF : zvF nu) {i : Int} (hi : 0 ≤ i ∧ i + 6 ≤ (L : Int)) {A : Nat → Nat} {S : Nat → va_E} {σ : CS} {m : CV} {f : Nat → Int64} (hR : zRR σ m) (hS : zvLs X A m f S) {kc ks r : Nat} (hr : zvR kc ks (r + 1) (nu σ)) (nxt : ∀ (kc' ks' : Nat) (A' : Nat → Nat) (S' : Nat → va_E) (σ' : CS) (m' : CV) (f' : Nat → Int64), zRR σ' m' → zvLs X A' m' f' S' → zvAk A A' → zvR kc' ks' r (nu σ') → G X mL_law (zLP X b) kc' ks' 3056 (zvLv b A' i) [] (zWs A' 113 (zSt X A' σ' S'))) : G X mL_law (zLP X b) kc ks 2360 (zvLv b A i) [] (zWs A 113 (zSt X A σ S)) := by
  have h1 := zNd_1 (V := σ 7) (B := σ 4)
  have h2 := zNt_1 (V := σ 10) (B := σ 4)
  unfold zvR at hr
  refine lc_choose hX2 hL hE hb hLm hi hR hS ⟨by omega, by omega⟩ (fun A' S' σ' m' f' g1 g2 g3 g4 => nxt _ _ A' S' σ' m' f' g1 g2 g3 ?_)
  unfold zvR
  obtain ⟨q, hq⟩ := g4
  have hn := hF.2.2.2.2.2.2.2.2.2.2.2.2.2.2.2.2.2.1 σ _ _ σ' q hq
  omega
theorem lu_clear {X : zX} (hX2 : zOK2 X) (hL : zOL X) {b L : Nat} {xs : Nat → Int32} (hE : ∀ U, zE X U → va_X b L xs U U.heap) (hb : b < X.2.2.2.1) (hLm : L ≤ 3072) {nu : CS → Nat} (hF : zvF nu) {i : Int} (hi : 0 ≤ i ∧ i + 6 ≤ (L : Int)) {A : Nat → Nat} {S : Nat → va_E} {σ : CS} {m : CV} {f : Nat → Int64} (hR : zRR σ m) (hS : zvLs X A m f S) {kc ks r : Nat} (hr : zvR kc ks (r + 1) (nu σ)) (nxt : ∀ (kc' ks' : Nat) (A' : Nat → Nat) (S' : Nat → va_E) (σ' : CS) (m' : CV) (f' : Nat → Int64), zRR σ' m' → zvLs X A' m' f' S' → zvAk A A' → zvR kc' ks' r (nu σ') → G X mL_law (zLP X b) kc' ks' 3056 (zvLv b A' i) [] (zWs A' 113 (zSt X A' σ' S'))) : G X mL_law (zLP X b) kc ks 2428 (zvLv b A i) [] (zWs A 113 (zSt X A σ S)) := by
  have h1 := zNd_1 (V := σ 7) (B := σ 4)
  have h2 := zNt_1 (V := σ 10) (B := σ 4)
  unfold zvR at hr
  refine lc_clear hX2 hL hE hb hLm hi hR hS ⟨by omega, by omega⟩ (fun A' S' σ' m' f' g1 g2 g3 g4 => nxt _ _ A' S' σ' m' f' g1 g2 g3 ?_)
  unfold zvR
  obtain ⟨q, hq⟩ := g4
  have hn := hF.2.2.2.2.2.2.2.2.2.2.2.2.2.2.2.2.2.2.1 σ _ σ' q hq
  omega
theorem lu_better {X : zX} (hX2 : zOK2 X) (hL : zOL X) {b L : Nat} {xs : Nat → Int32} (hE : ∀ U, zE X U → va_X b L xs U U.heap) (hb : b < X.2.2.2.1) (hLm : L ≤ 3072) {nu : CS → Nat} (hF : zvF nu) {i : Int} (hi : 0 ≤ i ∧ i + 6 ≤ (L : Int)) {A : Nat → Nat} {S : Nat → va_E} {σ : CS} {m : CV} {f : Nat → Int64} (hR : zRR σ m) (hS : zvLs X A m f S) {kc ks r : Nat} (hr : zvR kc ks (r + 1) (nu σ)) (nxt : ∀ (kc' ks' : Nat) (A' : Nat → Nat) (S' : Nat → va_E) (σ' : CS) (m' : CV) (f' : Nat → Int64), zRR σ' m' → zvLs X A' m' f' S' → zvAk A A' → zvR kc' ks' r (nu σ') → G X mL_law (zLP X b) kc' ks' 3056 (zvLv b A' i) [] (zWs A' 113 (zSt X A' σ' S'))) : G X mL_law (zLP X b) kc ks 2484 (zvLv b A i) [] (zWs A 113 (zSt X A σ S)) := by
  have h1 := zNd_1 (V := σ 7) (B := σ 4)
  have h2 := zNt_1 (V := σ 10) (B := σ 4)
  unfold zvR at hr
  refine lc_better hX2 hL hE hb hLm hi hR hS ⟨by omega, by omega⟩ (fun A' S' σ' m' f' g1 g2 g3 g4 => nxt _ _ A' S' σ' m' f' g1 g2 g3 ?_)
  unfold zvR
  obtain ⟨q, hq⟩ := g4
  have hn := hF.2.2.2.2.2.2.2.2.2.2.2.2.2.2.2.2.2.2.2.1 σ _ σ' q hq
  omega
theorem lu_improve {X : zX} (hX2 : zOK2 X) (hL : zOL X) {b L : Nat} {xs : Nat → Int32} (hE : ∀ U, zE X U → va_X b L xs U U.heap) (hb : b < X.2.2.2.1) (hLm : L ≤ 3072) {nu : CS → Nat} (hF : zvF nu) {i : Int} (hi : 0 ≤ i ∧ i + 6 ≤ (L : Int)) {A : Nat → Nat} {S : Nat → va_E} {σ : CS} {m : CV} {f : Nat → Int64} (hR : zRR σ m) (hS : zvLs X A m f S) {kc ks r : Nat} (hr : zvR kc ks (r + 1) (nu σ)) (nxt : ∀ (kc' ks' : Nat) (A' : Nat → Nat) (S' : Nat → va_E) (σ' : CS) (m' : CV) (f' : Nat → Int64), zRR σ' m' → zvLs X A' m' f' S' → zvAk A A' → zvR kc' ks' r (nu σ') → G X mL_law (zLP X b) kc' ks' 3056 (zvLv b A' i) [] (zWs A' 113 (zSt X A' σ' S'))) : G X mL_law (zLP X b) kc ks 2540 (zvLv b A i) [] (zWs A 113 (zSt X A σ S)) := by
  have h1 := zNd_1 (V := σ 7) (B := σ 4)
  have h2 := zNt_1 (V := σ 10) (B := σ 4)
  unfold zvR at hr
  refine lc_improve hX2 hL hE hb hLm hi hR hS ⟨by omega, by omega⟩ (fun A' S' σ' m' f' g1 g2 g3 g4 => nxt _ _ A' S' σ' m' f' g1 g2 g3 ?_)
  unfold zvR
  obtain ⟨q, hq⟩ := g4
  have hn := hF.2.2.2.2.2.2.2.2.2.2.2.2.2.2.2.2.2.2.2.2.1 σ _ σ' q hq
  omega
theorem lu_take {X : zX} (hX2 : zOK2 X) (hL : zOL X) {b L : Nat} {xs : Nat → Int32} (hE : ∀ U, zE X U → va_X b L xs U U.heap) (hb : b < X.2.2.2.1) (hLm : L ≤ 3072) {nu : CS → Nat} (hF : zvF nu) {i : Int} (hi : 0 ≤ i ∧ i + 6 ≤ (L : Int)) {A : Nat → Nat} {S : Nat → va_E} {σ : CS} {m : CV} {f : Nat → Int64} (hR : zRR σ m) (hS : zvLs X A m f S) {kc ks r : Nat} (hr : zvR kc ks (r + 1) (nu σ)) (nxt : ∀ (kc' ks' : Nat) (A' : Nat → Nat) (S' : Nat → va_E) (σ' : CS) (m' : CV) (f' : Nat → Int64), zRR σ' m' → zvLs X A' m' f' S' → zvAk A A' → zvR kc' ks' r (nu σ') → G X mL_law (zLP X b) kc' ks' 3056 (zvLv b A' i) [] (zWs A' 113 (zSt X A' σ' S'))) : G X mL_law (zLP X b) kc ks 2596 (zvLv b A i) [] (zWs A 113 (zSt X A σ S)) := by
  have h1 := zNd_1 (V := σ 7) (B := σ 4)
  have h2 := zNt_1 (V := σ 10) (B := σ 4)
  unfold zvR at hr
  refine lc_take hX2 hL hE hb hLm hi hR hS ⟨by omega, by omega⟩ (fun A' S' σ' m' f' g1 g2 g3 g4 => nxt _ _ A' S' σ' m' f' g1 g2 g3 ?_)
  unfold zvR
  obtain ⟨q, hq⟩ := g4
  have hn := hF.2.2.2.2.2.2.2.2.2.2.2.2.2.2.2.2.2.2.2.2.2.1 σ _ σ' q hq
  omega
theorem lu_takeBest {X : zX} (hX2 : zOK2 X) (hL : zOL X) {b L : Nat} {xs : Nat → Int32} (hE : ∀ U, zE X U → va_X b L xs U U.heap) (hb : b < X.2.2.2.1) (hLm : L ≤ 3072) {nu : CS → Nat} (hF : zvF nu) {i : Int} (hi : 0 ≤ i ∧ i + 6 ≤ (L : Int)) {A : Nat → Nat} {S : Nat → va_E} {σ : CS} {m : CV} {f : Nat → Int64} (hR : zRR σ m) (hS : zvLs X A m f S) {kc ks r : Nat} (hr : zvR kc ks (r + 1) (nu σ)) (nxt : ∀ (kc' ks' : Nat) (A' : Nat → Nat) (S' : Nat → va_E) (σ' : CS) (m' : CV) (f' : Nat → Int64), zRR σ' m' → zvLs X A' m' f' S' → zvAk A A' → zvR kc' ks' r (nu σ') → G X mL_law (zLP X b) kc' ks' 3056 (zvLv b A' i) [] (zWs A' 113 (zSt X A' σ' S'))) : G X mL_law (zLP X b) kc ks 2652 (zvLv b A i) [] (zWs A 113 (zSt X A σ S)) := by
  have h1 := zNd_1 (V := σ 7) (B := σ 4)
  have h2 := zNt_1 (V := σ 10) (B := σ 4)
  unfold zvR at hr
  refine lc_takeBest hX2 hL hE hb hLm hi hR hS ⟨by omega, by omega⟩ (fun A' S' σ' m' f' g1 g2 g3 g4 => nxt _ _ A' S' σ' m' f' g1 g2 g3 ?_)
  unfold zvR
  obtain ⟨q, hq⟩ := g4
  have hn := hF.2.2.2.2.2.2.2.2.2.2.2.2.2.2.2.2.2.2.2.2.2.2.1 σ σ' q hq
  omega
theorem lu_whyNotTake {X : zX} (hX2 : zOK2 X) (hL : zOL X) {b L : Nat} {xs : Nat → Int32} (hE : ∀ U, zE X U → va_X b L xs U U.heap) (hb : b < X.2.2.2.1) (hLm : L ≤ 3072) {nu : CS → Nat} (hF : zvF nu) {i : Int} (hi : 0 ≤ i ∧ i + 6 ≤ (L : Int)) {A : Nat → Nat} {S : Nat → va_E} {σ : CS} {m : CV} {f : Nat → Int64} (hR : zRR σ m) (hS : zvLs X A m f S) {kc ks r : Nat} (hr : zvR kc ks (r + 1) (nu σ)) (nxt : ∀ (kc' ks' : Nat) (A' : Nat → Nat) (S' : Nat → va_E) (σ' : CS) (m' : CV) (f' : Nat → Int64), zRR σ' m' → zvLs X A' m' f' S' → zvAk A A' → zvR kc' ks' r (nu σ') → G X mL_law (zLP X b) kc' ks' 3056 (zvLv b A' i) [] (zWs A' 113 (zSt X A' σ' S'))) : G X mL_law (zLP X b) kc ks 2696 (zvLv b A i) [] (zWs A 113 (zSt X A σ S)) := by
  have h1 := zNd_1 (V := σ 7) (B := σ 4)
  have h2 := zNt_1 (V := σ 10) (B := σ 4)
  unfold zvR at hr
  refine lc_whyNotTake hX2 hL hE hb hLm hi hR hS ⟨by omega, by omega⟩ (fun A' S' σ' m' f' g1 g2 g3 g4 => nxt _ _ A' S' σ' m' f' g1 g2 g3 ?_)
  unfold zvR
  rw [g4]
  omega
theorem lu_setOut {X : zX} (hX2 : zOK2 X) (hL : zOL X) {b L : Nat} {xs : Nat → Int32} (hE : ∀ U, zE X U → va_X b L xs U U.heap) (hb : b < X.2.2.2.1) (hLm : L ≤ 3072) {nu : CS → Nat} (hF : zvF nu) {i : Int} (hi : 0 ≤ i ∧ i + 6 ≤ (L : Int)) {A : Nat → Nat} {S : Nat → va_E} {σ : CS} {m : CV} {f : Nat → Int64} (hR : zRR σ m) (hS : zvLs X A m f S) {kc ks r : Nat} (hr : zvR kc ks (r + 1) (nu σ)) (nxt : ∀ (kc' ks' : Nat) (A' : Nat → Nat) (S' : Nat → va_E) (σ' : CS) (m' : CV) (f' : Nat → Int64), zRR σ' m' → zvLs X A' m' f' S' → zvAk A A' → zvR kc' ks' r (nu σ') → G X mL_law (zLP X b) kc' ks' 3056 (zvLv b A' i) [] (zWs A' 113 (zSt X A' σ' S'))) : G X mL_law (zLP X b) kc ks 2777 (zvLv b A i) [] (zWs A 113 (zSt X A σ S)) := by
  have h1 := zNd_1 (V := σ 7) (B := σ 4)
  have h2 := zNt_1 (V := σ 10) (B := σ 4)
  unfold zvR at hr
  refine lc_setOut hX2 hL hE hb hLm hi hR hS ⟨by omega, by omega⟩ (fun A' S' σ' m' f' g1 g2 g3 g4 => nxt _ _ A' S' σ' m' f' g1 g2 g3 ?_)
  unfold zvR
  obtain ⟨q, hq⟩ := g4
  have hn := hF.2.2.2.2.2.2.2.2.2.2.2.2.2.2.2.2.2.2.2.2.2.2.2.1 σ _ _ σ' q hq
  omega
theorem lu_setChanges {X : zX} (hX2 : zOK2 X) (hL : zOL X) {b L : Nat} {xs : Nat → Int32} (hE : ∀ U, zE X U → va_X b L xs U U.heap) (hb : b < X.2.2.2.1) (hLm : L ≤ 3072) {nu : CS → Nat} (hF : zvF nu) {i : Int} (hi : 0 ≤ i ∧ i + 6 ≤ (L : Int)) {A : Nat → Nat} {S : Nat → va_E} {σ : CS} {m : CV} {f : Nat → Int64} (hR : zRR σ m) (hS : zvLs X A m f S) {kc ks r : Nat} (hr : zvR kc ks (r + 1) (nu σ)) (nxt : ∀ (kc' ks' : Nat) (A' : Nat → Nat) (S' : Nat → va_E) (σ' : CS) (m' : CV) (f' : Nat → Int64), zRR σ' m' → zvLs X A' m' f' S' → zvAk A A' → zvR kc' ks' r (nu σ') → G X mL_law (zLP X b) kc' ks' 3056 (zvLv b A' i) [] (zWs A' 113 (zSt X A' σ' S'))) : G X mL_law (zLP X b) kc ks 2861 (zvLv b A i) [] (zWs A 113 (zSt X A σ S)) := by
  have h1 := zNd_1 (V := σ 7) (B := σ 4)
  have h2 := zNt_1 (V := σ 10) (B := σ 4)
  unfold zvR at hr
  refine lc_setChanges hX2 hL hE hb hLm hi hR hS ⟨by omega, by omega⟩ (fun A' S' σ' m' f' g1 g2 g3 g4 => nxt _ _ A' S' σ' m' f' g1 g2 g3 ?_)
  unfold zvR
  obtain ⟨q, hq⟩ := g4
  have hn := hF.2.2.2.2.2.2.2.2.2.2.2.2.2.2.2.2.2.2.2.2.2.2.2.2.1 σ _ σ' q hq
  omega
theorem lu_reportByte {X : zX} (hX2 : zOK2 X) (hL : zOL X) {b L : Nat} {xs : Nat → Int32} (hE : ∀ U, zE X U → va_X b L xs U U.heap) (hb : b < X.2.2.2.1) (hLm : L ≤ 3072) {nu : CS → Nat} (hF : zvF nu) {i : Int} (hi : 0 ≤ i ∧ i + 6 ≤ (L : Int)) {A : Nat → Nat} {S : Nat → va_E} {σ : CS} {m : CV} {f : Nat → Int64} (hR : zRR σ m) (hS : zvLs X A m f S) {kc ks r : Nat} (hr : zvR kc ks (r + 1) (nu σ)) (nxt : ∀ (kc' ks' : Nat) (A' : Nat → Nat) (S' : Nat → va_E) (σ' : CS) (m' : CV) (f' : Nat → Int64), zRR σ' m' → zvLs X A' m' f' S' → zvAk A A' → zvR kc' ks' r (nu σ') → G X mL_law (zLP X b) kc' ks' 3056 (zvLv b A' i) [] (zWs A' 113 (zSt X A' σ' S'))) : G X mL_law (zLP X b) kc ks 2930 (zvLv b A i) [] (zWs A 113 (zSt X A σ S)) := by
  have h1 := zNd_1 (V := σ 7) (B := σ 4)
  have h2 := zNt_1 (V := σ 10) (B := σ 4)
  unfold zvR at hr
  refine lc_reportByte hX2 hL hE hb hLm hi hR hS ⟨by omega, by omega⟩ (fun A' S' σ' m' f' g1 g2 g3 g4 => nxt _ _ A' S' σ' m' f' g1 g2 g3 ?_)
  unfold zvR
  rw [g4]
  omega
theorem lu_restore {X : zX} (hX2 : zOK2 X) (hL : zOL X) {b L : Nat} {xs : Nat → Int32} (hE : ∀ U, zE X U → va_X b L xs U U.heap) (hb : b < X.2.2.2.1) (hLm : L ≤ 3072) {nu : CS → Nat} (hF : zvF nu) {i : Int} (hi : 0 ≤ i ∧ i + 6 ≤ (L : Int)) {A : Nat → Nat} {S : Nat → va_E} {σ : CS} {m : CV} {f : Nat → Int64} (hR : zRR σ m) (hS : zvLs X A m f S) {kc ks r : Nat} (hr : zvR kc ks (r + 1) (nu σ)) (nxt : ∀ (kc' ks' : Nat) (A' : Nat → Nat) (S' : Nat → va_E) (σ' : CS) (m' : CV) (f' : Nat → Int64), zRR σ' m' → zvLs X A' m' f' S' → zvAk A A' → zvR kc' ks' r (nu σ') → G X mL_law (zLP X b) kc' ks' 3056 (zvLv b A' i) [] (zWs A' 113 (zSt X A' σ' S'))) : G X mL_law (zLP X b) kc ks 3012 (zvLv b A i) [] (zWs A 113 (zSt X A σ S)) := by
  have h1 := zNd_1 (V := σ 7) (B := σ 4)
  have h2 := zNt_1 (V := σ 10) (B := σ 4)
  unfold zvR at hr
  refine lc_restore hX2 hL hE hb hLm hi hR hS ⟨by omega, by omega⟩ (fun A' S' σ' m' f' g1 g2 g3 g4 => nxt _ _ A' S' σ' m' f' g1 g2 g3 ?_)
  unfold zvR
  obtain ⟨q, hq⟩ := g4
  have hn := hF.2.2.2.2.2.2.2.2.2.2.2.2.2.2.2.2.2.2.2.2.2.2.2.2.2.1 σ σ' q hq
  omega
theorem lu_errorCode {X : zX} (hX2 : zOK2 X) (hL : zOL X) {b L : Nat} {xs : Nat → Int32} (hE : ∀ U, zE X U → va_X b L xs U U.heap) (hb : b < X.2.2.2.1) (hLm : L ≤ 3072) {nu : CS → Nat} (hF : zvF nu) {i : Int} (hi : 0 ≤ i ∧ i + 6 ≤ (L : Int)) {A : Nat → Nat} {S : Nat → va_E} {σ : CS} {m : CV} {f : Nat → Int64} (hR : zRR σ m) (hS : zvLs X A m f S) {kc ks r : Nat} (hr : zvR kc ks (r + 1) (nu σ)) (nxt : ∀ (kc' ks' : Nat) (A' : Nat → Nat) (S' : Nat → va_E) (σ' : CS) (m' : CV) (f' : Nat → Int64), zRR σ' m' → zvLs X A' m' f' S' → zvAk A A' → zvR kc' ks' r (nu σ') → G X mL_law (zLP X b) kc' ks' 3056 (zvLv b A' i) [] (zWs A' 113 (zSt X A' σ' S'))) : G X mL_law (zLP X b) kc ks 524 (zvLv b A i) [] (zWs A 113 (zSt X A σ S)) := by
  have h1 := zNd_1 (V := σ 7) (B := σ 4)
  have h2 := zNt_1 (V := σ 10) (B := σ 4)
  unfold zvR at hr
  refine lc_errorCode hX2 hL hE hb hLm hi hR hS ⟨by omega, by omega⟩ (fun A' S' σ' m' f' g1 g2 g3 g4 => nxt _ _ A' S' σ' m' f' g1 g2 g3 ?_)
  unfold zvR
  rw [g4]
  omega
theorem lu_errorPosition {X : zX} (hX2 : zOK2 X) (hL : zOL X) {b L : Nat} {xs : Nat → Int32} (hE : ∀ U, zE X U → va_X b L xs U U.heap) (hb : b < X.2.2.2.1) (hLm : L ≤ 3072) {nu : CS → Nat} (hF : zvF nu) {i : Int} (hi : 0 ≤ i ∧ i + 6 ≤ (L : Int)) {A : Nat → Nat} {S : Nat → va_E} {σ : CS} {m : CV} {f : Nat → Int64} (hR : zRR σ m) (hS : zvLs X A m f S) {kc ks r : Nat} (hr : zvR kc ks (r + 1) (nu σ)) (nxt : ∀ (kc' ks' : Nat) (A' : Nat → Nat) (S' : Nat → va_E) (σ' : CS) (m' : CV) (f' : Nat → Int64), zRR σ' m' → zvLs X A' m' f' S' → zvAk A A' → zvR kc' ks' r (nu σ') → G X mL_law (zLP X b) kc' ks' 3056 (zvLv b A' i) [] (zWs A' 113 (zSt X A' σ' S'))) : G X mL_law (zLP X b) kc ks 537 (zvLv b A i) [] (zWs A 113 (zSt X A σ S)) := by
  have h1 := zNd_1 (V := σ 7) (B := σ 4)
  have h2 := zNt_1 (V := σ 10) (B := σ 4)
  unfold zvR at hr
  refine lc_errorPosition hX2 hL hE hb hLm hi hR hS ⟨by omega, by omega⟩ (fun A' S' σ' m' f' g1 g2 g3 g4 => nxt _ _ A' S' σ' m' f' g1 g2 g3 ?_)
  unfold zvR
  rw [g4]
  omega
theorem lu_kinds {X : zX} (hX2 : zOK2 X) (hL : zOL X) {b L : Nat} {xs : Nat → Int32} (hE : ∀ U, zE X U → va_X b L xs U U.heap) (hb : b < X.2.2.2.1) (hLm : L ≤ 3072) {nu : CS → Nat} (hF : zvF nu) {i : Int} (hi : 0 ≤ i ∧ i + 6 ≤ (L : Int)) {A : Nat → Nat} {S : Nat → va_E} {σ : CS} {m : CV} {f : Nat → Int64} (hR : zRR σ m) (hS : zvLs X A m f S) {kc ks r : Nat} (hr : zvR kc ks (r + 1) (nu σ)) (nxt : ∀ (kc' ks' : Nat) (A' : Nat → Nat) (S' : Nat → va_E) (σ' : CS) (m' : CV) (f' : Nat → Int64), zRR σ' m' → zvLs X A' m' f' S' → zvAk A A' → zvR kc' ks' r (nu σ') → G X mL_law (zLP X b) kc' ks' 3056 (zvLv b A' i) [] (zWs A' 113 (zSt X A' σ' S'))) : G X mL_law (zLP X b) kc ks 1466 (zvLv b A i) [] (zWs A 113 (zSt X A σ S)) := by
  have h1 := zNd_1 (V := σ 7) (B := σ 4)
  have h2 := zNt_1 (V := σ 10) (B := σ 4)
  unfold zvR at hr
  refine lc_kinds hX2 hL hE hb hLm hi hR hS ⟨by omega, by omega⟩ (fun A' S' σ' m' f' g1 g2 g3 g4 => nxt _ _ A' S' σ' m' f' g1 g2 g3 ?_)
  unfold zvR
  obtain ⟨q, hq⟩ := g4
  have hn := hF.2.2.2.2.2.2.2.2.2.2.2.2.2.2.2.2.2.2.2.2.2.2.2.2.2.2.1 σ σ' q hq
  omega
theorem lu_commonest {X : zX} (hX2 : zOK2 X) (hL : zOL X) {b L : Nat} {xs : Nat → Int32} (hE : ∀ U, zE X U → va_X b L xs U U.heap) (hb : b < X.2.2.2.1) (hLm : L ≤ 3072) {nu : CS → Nat} (hF : zvF nu) {i : Int} (hi : 0 ≤ i ∧ i + 6 ≤ (L : Int)) {A : Nat → Nat} {S : Nat → va_E} {σ : CS} {m : CV} {f : Nat → Int64} (hR : zRR σ m) (hS : zvLs X A m f S) {kc ks r : Nat} (hr : zvR kc ks (r + 1) (nu σ)) (nxt : ∀ (kc' ks' : Nat) (A' : Nat → Nat) (S' : Nat → va_E) (σ' : CS) (m' : CV) (f' : Nat → Int64), zRR σ' m' → zvLs X A' m' f' S' → zvAk A A' → zvR kc' ks' r (nu σ') → G X mL_law (zLP X b) kc' ks' 3056 (zvLv b A' i) [] (zWs A' 113 (zSt X A' σ' S'))) : G X mL_law (zLP X b) kc ks 1535 (zvLv b A i) [] (zWs A 113 (zSt X A σ S)) := by
  have h1 := zNd_1 (V := σ 7) (B := σ 4)
  have h2 := zNt_1 (V := σ 10) (B := σ 4)
  unfold zvR at hr
  refine lc_commonest hX2 hL hE hb hLm hi hR hS ⟨by omega, by omega⟩ (fun A' S' σ' m' f' g1 g2 g3 g4 => nxt _ _ A' S' σ' m' f' g1 g2 g3 ?_)
  unfold zvR
  obtain ⟨q, hq⟩ := g4
  have hn := hF.2.2.2.2.2.2.2.2.2.2.2.2.2.2.2.2.2.2.2.2.2.2.2.2.2.2.2.1 σ σ' q hq
  omega
theorem lu_outlier {X : zX} (hX2 : zOK2 X) (hL : zOL X) {b L : Nat} {xs : Nat → Int32} (hE : ∀ U, zE X U → va_X b L xs U U.heap) (hb : b < X.2.2.2.1) (hLm : L ≤ 3072) {nu : CS → Nat} (hF : zvF nu) {i : Int} (hi : 0 ≤ i ∧ i + 6 ≤ (L : Int)) {A : Nat → Nat} {S : Nat → va_E} {σ : CS} {m : CV} {f : Nat → Int64} (hR : zRR σ m) (hS : zvLs X A m f S) {kc ks r : Nat} (hr : zvR kc ks (r + 1) (nu σ)) (nxt : ∀ (kc' ks' : Nat) (A' : Nat → Nat) (S' : Nat → va_E) (σ' : CS) (m' : CV) (f' : Nat → Int64), zRR σ' m' → zvLs X A' m' f' S' → zvAk A A' → zvR kc' ks' r (nu σ') → G X mL_law (zLP X b) kc' ks' 3056 (zvLv b A' i) [] (zWs A' 113 (zSt X A' σ' S'))) : G X mL_law (zLP X b) kc ks 1784 (zvLv b A i) [] (zWs A 113 (zSt X A σ S)) := by
  have h1 := zNd_1 (V := σ 7) (B := σ 4)
  have h2 := zNt_1 (V := σ 10) (B := σ 4)
  unfold zvR at hr
  refine lc_outlier hX2 hL hE hb hLm hi hR hS ⟨by omega, by omega⟩ (fun A' S' σ' m' f' g1 g2 g3 g4 => nxt _ _ A' S' σ' m' f' g1 g2 g3 ?_)
  unfold zvR
  obtain ⟨q, hq⟩ := g4
  have hn := hF.2.2.2.2.2.2.2.2.2.2.2.2.2.2.2.2.2.2.2.2.2.2.2.2.2.2.2.2.1 σ σ' q hq
  omega
theorem lu_ranked {X : zX} (hX2 : zOK2 X) (hL : zOL X) {b L : Nat} {xs : Nat → Int32} (hE : ∀ U, zE X U → va_X b L xs U U.heap) (hb : b < X.2.2.2.1) (hLm : L ≤ 3072) {nu : CS → Nat} (hF : zvF nu) {i : Int} (hi : 0 ≤ i ∧ i + 6 ≤ (L : Int)) {A : Nat → Nat} {S : Nat → va_E} {σ : CS} {m : CV} {f : Nat → Int64} (hR : zRR σ m) (hS : zvLs X A m f S) {kc ks r : Nat} (hr : zvR kc ks (r + 1) (nu σ)) (nxt : ∀ (kc' ks' : Nat) (A' : Nat → Nat) (S' : Nat → va_E) (σ' : CS) (m' : CV) (f' : Nat → Int64), zRR σ' m' → zvLs X A' m' f' S' → zvAk A A' → zvR kc' ks' r (nu σ') → G X mL_law (zLP X b) kc' ks' 3056 (zvLv b A' i) [] (zWs A' 113 (zSt X A' σ' S'))) : G X mL_law (zLP X b) kc ks 1797 (zvLv b A i) [] (zWs A 113 (zSt X A σ S)) := by
  have h1 := zNd_1 (V := σ 7) (B := σ 4)
  have h2 := zNt_1 (V := σ 10) (B := σ 4)
  unfold zvR at hr
  refine lc_ranked hX2 hL hE hb hLm hi hR hS ⟨by omega, by omega⟩ (fun A' S' σ' m' f' g1 g2 g3 g4 => nxt _ _ A' S' σ' m' f' g1 g2 g3 ?_)
  unfold zvR
  obtain ⟨q, hq⟩ := g4
  have hn := hF.2.2.2.2.2.2.2.2.2.2.2.2.2.2.2.2.2.2.2.2.2.2.2.2.2.2.2.2.2.1 σ _ σ' q hq
  omega
theorem lu_common {X : zX} (hX2 : zOK2 X) (hL : zOL X) {b L : Nat} {xs : Nat → Int32} (hE : ∀ U, zE X U → va_X b L xs U U.heap) (hb : b < X.2.2.2.1) (hLm : L ≤ 3072) {nu : CS → Nat} (hF : zvF nu) {i : Int} (hi : 0 ≤ i ∧ i + 6 ≤ (L : Int)) {A : Nat → Nat} {S : Nat → va_E} {σ : CS} {m : CV} {f : Nat → Int64} (hR : zRR σ m) (hS : zvLs X A m f S) {kc ks r : Nat} (hr : zvR kc ks (r + 1) (nu σ)) (nxt : ∀ (kc' ks' : Nat) (A' : Nat → Nat) (S' : Nat → va_E) (σ' : CS) (m' : CV) (f' : Nat → Int64), zRR σ' m' → zvLs X A' m' f' S' → zvAk A A' → zvR kc' ks' r (nu σ') → G X mL_law (zLP X b) kc' ks' 3056 (zvLv b A' i) [] (zWs A' 113 (zSt X A' σ' S'))) : G X mL_law (zLP X b) kc ks 2002 (zvLv b A i) [] (zWs A 113 (zSt X A σ S)) := by
  have h1 := zNd_1 (V := σ 7) (B := σ 4)
  have h2 := zNt_1 (V := σ 10) (B := σ 4)
  unfold zvR at hr
  refine lc_common hX2 hL hE hb hLm hi hR hS ⟨by omega, by omega⟩ (fun A' S' σ' m' f' g1 g2 g3 g4 => nxt _ _ A' S' σ' m' f' g1 g2 g3 ?_)
  unfold zvR
  obtain ⟨q, hq⟩ := g4
  have hn := hF.2.2.2.2.2.2.2.2.2.2.2.2.2.2.2.2.2.2.2.2.2.2.2.2.2.2.2.2.2.2.1 σ σ' q hq
  omega
theorem lu_agreement {X : zX} (hX2 : zOK2 X) (hL : zOL X) {b L : Nat} {xs : Nat → Int32} (hE : ∀ U, zE X U → va_X b L xs U U.heap) (hb : b < X.2.2.2.1) (hLm : L ≤ 3072) {nu : CS → Nat} (hF : zvF nu) {i : Int} (hi : 0 ≤ i ∧ i + 6 ≤ (L : Int)) {A : Nat → Nat} {S : Nat → va_E} {σ : CS} {m : CV} {f : Nat → Int64} (hR : zRR σ m) (hS : zvLs X A m f S) {kc ks r : Nat} (hr : zvR kc ks (r + 1) (nu σ)) (nxt : ∀ (kc' ks' : Nat) (A' : Nat → Nat) (S' : Nat → va_E) (σ' : CS) (m' : CV) (f' : Nat → Int64), zRR σ' m' → zvLs X A' m' f' S' → zvAk A A' → zvR kc' ks' r (nu σ') → G X mL_law (zLP X b) kc' ks' 3056 (zvLv b A' i) [] (zWs A' 113 (zSt X A' σ' S'))) : G X mL_law (zLP X b) kc ks 2015 (zvLv b A i) [] (zWs A 113 (zSt X A σ S)) := by
  have h1 := zNd_1 (V := σ 7) (B := σ 4)
  have h2 := zNt_1 (V := σ 10) (B := σ 4)
  unfold zvR at hr
  refine lc_agreement hX2 hL hE hb hLm hi hR hS ⟨by omega, by omega⟩ (fun A' S' σ' m' f' g1 g2 g3 g4 => nxt _ _ A' S' σ' m' f' g1 g2 g3 ?_)
  unfold zvR
  obtain ⟨q, hq⟩ := g4
  have hn := hF.2.2.2.2.2.2.2.2.2.2.2.2.2.2.2.2.2.2.2.2.2.2.2.2.2.2.2.2.2.2.2.1 σ σ' q hq
  omega
theorem lu_taken {X : zX} (hX2 : zOK2 X) (hL : zOL X) {b L : Nat} {xs : Nat → Int32} (hE : ∀ U, zE X U → va_X b L xs U U.heap) (hb : b < X.2.2.2.1) (hLm : L ≤ 3072) {nu : CS → Nat} (hF : zvF nu) {i : Int} (hi : 0 ≤ i ∧ i + 6 ≤ (L : Int)) {A : Nat → Nat} {S : Nat → va_E} {σ : CS} {m : CV} {f : Nat → Int64} (hR : zRR σ m) (hS : zvLs X A m f S) {kc ks r : Nat} (hr : zvR kc ks (r + 1) (nu σ)) (nxt : ∀ (kc' ks' : Nat) (A' : Nat → Nat) (S' : Nat → va_E) (σ' : CS) (m' : CV) (f' : Nat → Int64), zRR σ' m' → zvLs X A' m' f' S' → zvAk A A' → zvR kc' ks' r (nu σ') → G X mL_law (zLP X b) kc' ks' 3056 (zvLv b A' i) [] (zWs A' 113 (zSt X A' σ' S'))) : G X mL_law (zLP X b) kc ks 2752 (zvLv b A i) [] (zWs A 113 (zSt X A σ S)) := by
  have h1 := zNd_1 (V := σ 7) (B := σ 4)
  have h2 := zNt_1 (V := σ 10) (B := σ 4)
  unfold zvR at hr
  refine lc_taken hX2 hL hE hb hLm hi hR hS ⟨by omega, by omega⟩ (fun A' S' σ' m' f' g1 g2 g3 g4 => nxt _ _ A' S' σ' m' f' g1 g2 g3 ?_)
  unfold zvR
  rw [g4]
  omega
theorem lu_report {X : zX} (hX2 : zOK2 X) (hL : zOL X) {b L : Nat} {xs : Nat → Int32} (hE : ∀ U, zE X U → va_X b L xs U U.heap) (hb : b < X.2.2.2.1) (hLm : L ≤ 3072) {nu : CS → Nat} (hF : zvF nu) {i : Int} (hi : 0 ≤ i ∧ i + 6 ≤ (L : Int)) {A : Nat → Nat} {S : Nat → va_E} {σ : CS} {m : CV} {f : Nat → Int64} (hR : zRR σ m) (hS : zvLs X A m f S) {kc ks r : Nat} (hr : zvR kc ks (r + 1) (nu σ)) (nxt : ∀ (kc' ks' : Nat) (A' : Nat → Nat) (S' : Nat → va_E) (σ' : CS) (m' : CV) (f' : Nat → Int64), zRR σ' m' → zvLs X A' m' f' S' → zvAk A A' → zvR kc' ks' r (nu σ') → G X mL_law (zLP X b) kc' ks' 3056 (zvLv b A' i) [] (zWs A' 113 (zSt X A' σ' S'))) : G X mL_law (zLP X b) kc ks 2917 (zvLv b A i) [] (zWs A 113 (zSt X A σ S)) := by
  have h1 := zNd_1 (V := σ 7) (B := σ 4)
  have h2 := zNt_1 (V := σ 10) (B := σ 4)
  unfold zvR at hr
  refine lc_report hX2 hL hE hb hLm hi hR hS ⟨by omega, by omega⟩ (fun A' S' σ' m' f' g1 g2 g3 g4 => nxt _ _ A' S' σ' m' f' g1 g2 g3 ?_)
  unfold zvR
  obtain ⟨q, hq⟩ := g4
  have hn := hF.2.2.2.2.2.2.2.2.2.2.2.2.2.2.2.2.2.2.2.2.2.2.2.2.2.2.2.2.2.2.2.2.1 σ σ' q hq
  omega
theorem lu_undo {X : zX} (hX2 : zOK2 X) (hL : zOL X) {b L : Nat} {xs : Nat → Int32} (hE : ∀ U, zE X U → va_X b L xs U U.heap) (hb : b < X.2.2.2.1) (hLm : L ≤ 3072) {nu : CS → Nat} (hF : zvF nu) {i : Int} (hi : 0 ≤ i ∧ i + 6 ≤ (L : Int)) {A : Nat → Nat} {S : Nat → va_E} {σ : CS} {m : CV} {f : Nat → Int64} (hR : zRR σ m) (hS : zvLs X A m f S) {kc ks r : Nat} (hr : zvR kc ks (r + 1) (nu σ)) (nxt : ∀ (kc' ks' : Nat) (A' : Nat → Nat) (S' : Nat → va_E) (σ' : CS) (m' : CV) (f' : Nat → Int64), zRR σ' m' → zvLs X A' m' f' S' → zvAk A A' → zvR kc' ks' r (nu σ') → G X mL_law (zLP X b) kc' ks' 3056 (zvLv b A' i) [] (zWs A' 113 (zSt X A' σ' S'))) : G X mL_law (zLP X b) kc ks 2986 (zvLv b A i) [] (zWs A 113 (zSt X A σ S)) := by
  have h1 := zNd_1 (V := σ 7) (B := σ 4)
  have h2 := zNt_1 (V := σ 10) (B := σ 4)
  unfold zvR at hr
  refine lc_undo hX2 hL hE hb hLm hi hR hS ⟨by omega, by omega⟩ (fun A' S' σ' m' f' g1 g2 g3 g4 => nxt _ _ A' S' σ' m' f' g1 g2 g3 ?_)
  unfold zvR
  obtain ⟨q, hq⟩ := g4
  have hn := hF.2.2.2.2.2.2.2.2.2.2.2.2.2.2.2.2.2.2.2.2.2.2.2.2.2.2.2.2.2.2.2.2.2.1 σ σ' q hq
  omega
theorem lu_save {X : zX} (hX2 : zOK2 X) (hL : zOL X) {b L : Nat} {xs : Nat → Int32} (hE : ∀ U, zE X U → va_X b L xs U U.heap) (hb : b < X.2.2.2.1) (hLm : L ≤ 3072) {nu : CS → Nat} (hF : zvF nu) {i : Int} (hi : 0 ≤ i ∧ i + 6 ≤ (L : Int)) {A : Nat → Nat} {S : Nat → va_E} {σ : CS} {m : CV} {f : Nat → Int64} (hR : zRR σ m) (hS : zvLs X A m f S) {kc ks r : Nat} (hr : zvR kc ks (r + 1) (nu σ)) (nxt : ∀ (kc' ks' : Nat) (A' : Nat → Nat) (S' : Nat → va_E) (σ' : CS) (m' : CV) (f' : Nat → Int64), zRR σ' m' → zvLs X A' m' f' S' → zvAk A A' → zvR kc' ks' r (nu σ') → G X mL_law (zLP X b) kc' ks' 3056 (zvLv b A' i) [] (zWs A' 113 (zSt X A' σ' S'))) : G X mL_law (zLP X b) kc ks 2999 (zvLv b A i) [] (zWs A 113 (zSt X A σ S)) := by
  have h1 := zNd_1 (V := σ 7) (B := σ 4)
  have h2 := zNt_1 (V := σ 10) (B := σ 4)
  unfold zvR at hr
  refine lc_save hX2 hL hE hb hLm hi hR hS ⟨by omega, by omega⟩ (fun A' S' σ' m' f' g1 g2 g3 g4 => nxt _ _ A' S' σ' m' f' g1 g2 g3 ?_)
  unfold zvR
  obtain ⟨q, hq⟩ := g4
  have hn := hF.2.2.2.2.2.2.2.2.2.2.2.2.2.2.2.2.2.2.2.2.2.2.2.2.2.2.2.2.2.2.2.2.2.2.1 σ σ' q hq
  omega
theorem lu_agreementShare {X : zX} (hX2 : zOK2 X) (hL : zOL X) {b L : Nat} {xs : Nat → Int32} (hE : ∀ U, zE X U → va_X b L xs U U.heap) (hb : b < X.2.2.2.1) (hLm : L ≤ 3072) {nu : CS → Nat} (hF : zvF nu) {i : Int} (hi : 0 ≤ i ∧ i + 6 ≤ (L : Int)) {A : Nat → Nat} {S : Nat → va_E} {σ : CS} {m : CV} {f : Nat → Int64} (hR : zRR σ m) (hS : zvLs X A m f S) {kc ks r : Nat} (hr : zvR kc ks (r + 1) (nu σ)) (nxt : ∀ (kc' ks' : Nat) (A' : Nat → Nat) (S' : Nat → va_E) (σ' : CS) (m' : CV) (f' : Nat → Int64), zRR σ' m' → zvLs X A' m' f' S' → zvAk A A' → zvR kc' ks' r (nu σ') → G X mL_law (zLP X b) kc' ks' 3056 (zvLv b A' i) [] (zWs A' 113 (zSt X A' σ' S'))) : G X mL_law (zLP X b) kc ks 2220 (zvLv b A i) [] (zWs A 113 (zSt X A σ S)) := by
  have h1 := zNd_1 (V := σ 7) (B := σ 4)
  have h2 := zNt_1 (V := σ 10) (B := σ 4)
  unfold zvR at hr
  refine lc_agreementShare hX2 hR hS ⟨by omega, by omega⟩ (fun A' S' σ' m' f' g1 g2 g3 g4 => nxt _ _ A' S' σ' m' f' g1 g2 g3 ?_)
  unfold zvR
  obtain ⟨q, hq⟩ := g4
  have hn := hF.2.2.2.2.2.2.2.2.2.2.2.2.2.2.2.2.2.2.2.2.2.2.2.2.2.2.2.2.2.2.2.2.2.2.2.1 σ σ' q hq
  omega
theorem lu_meanDistance {X : zX} (hX2 : zOK2 X) (hL : zOL X) {b L : Nat} {xs : Nat → Int32} (hE : ∀ U, zE X U → va_X b L xs U U.heap) (hb : b < X.2.2.2.1) (hLm : L ≤ 3072) {nu : CS → Nat} (hF : zvF nu) {i : Int} (hi : 0 ≤ i ∧ i + 6 ≤ (L : Int)) {A : Nat → Nat} {S : Nat → va_E} {σ : CS} {m : CV} {f : Nat → Int64} (hR : zRR σ m) (hS : zvLs X A m f S) {kc ks r : Nat} (hr : zvR kc ks (r + 1) (nu σ)) (nxt : ∀ (kc' ks' : Nat) (A' : Nat → Nat) (S' : Nat → va_E) (σ' : CS) (m' : CV) (f' : Nat → Int64), zRR σ' m' → zvLs X A' m' f' S' → zvAk A A' → zvR kc' ks' r (nu σ') → G X mL_law (zLP X b) kc' ks' 3056 (zvLv b A' i) [] (zWs A' 113 (zSt X A' σ' S'))) : G X mL_law (zLP X b) kc ks 2263 (zvLv b A i) [] (zWs A 113 (zSt X A σ S)) := by
  have h1 := zNd_1 (V := σ 7) (B := σ 4)
  have h2 := zNt_1 (V := σ 10) (B := σ 4)
  unfold zvR at hr
  refine lc_meanDistance hX2 hR hS ⟨by omega, by omega⟩ (fun A' S' σ' m' f' g1 g2 g3 g4 => nxt _ _ A' S' σ' m' f' g1 g2 g3 ?_)
  unfold zvR
  obtain ⟨q, hq⟩ := g4
  have hn := hF.2.2.2.2.2.2.2.2.2.2.2.2.2.2.2.2.2.2.2.2.2.2.2.2.2.2.2.2.2.2.2.2.2.2.2.2.1 σ σ' q hq
  omega
theorem l_step {X : zX} (hX2 : zOK2 X) (hL : zOL X) {b L : Nat} {xs : Nat → Int32} (hE : ∀ U, zE X U → va_X b L xs U U.heap) (hb : b < X.2.2.2.1) (hLm : L ≤ 3072) {nu : CS → Nat} (hF : zvF nu) {i : Int} (hi : 0 ≤ i ∧ i + 6 ≤ (L : Int)) {A : Nat → Nat} {S : Nat → va_E} {σ : CS} {m : CV} {f : Nat → Int64} (hR : zRR σ m) (hS : zvLs X A m f S) {kc ks r : Nat} (hr : zvR kc ks (r + 1) (nu σ)) (nxt : ∀ (kc' ks' : Nat) (A' : Nat → Nat) (S' : Nat → va_E) (σ' : CS) (m' : CV) (f' : Nat → Int64), zRR σ' m' → zvLs X A' m' f' S' → zvAk A A' → zvR kc' ks' r (nu σ') → G X mL_law (zLP X b) kc' ks' 3056 (zvLv b A' i) [] (zWs A' 113 (zSt X A' σ' S'))) : G X mL_law (zLP X b) kc ks 40 (zvLv b A i) [.int (iI (zvXs xs i % 64))] (zWs A 113 (zSt X A σ S)) := by
  have hv0 : 0 ≤ zvXs xs i % 64 := Int.emod_nonneg _ (by decide)
  have hv1 : zvXs xs i % 64 < 64 := Int.emod_lt_of_pos _ (by decide)
  generalize zvXs xs i % 64 = v at hv0 hv1 ⊢
  have hv : iR v := ⟨by omega, by omega⟩
  by_cases hd : v ≤ 54
  rotate_left
  · exact g_tableOut (M := mL_law) (tgt := 3056) dL_law_40 (iI_tout hv (Or.inr (by omega))) (by decide) (nxt kc ks A S σ m f hR hS (fun _ _ => rfl) (by unfold zvR at hr ⊢; omega))
  have lo := iI_tlo hv hv0
  have hi2 := iI_thi hv hd
  have hc : v = 0 ∨ v = 1 ∨ v = 2 ∨ v = 3 ∨ v = 4 ∨ v = 5 ∨ v = 6 ∨ v = 7 ∨ v = 8 ∨ v = 9 ∨ v = 10 ∨ v = 11 ∨ v = 12 ∨ v = 13 ∨ v = 14 ∨ v = 15 ∨ v = 16 ∨ v = 17 ∨ v = 18 ∨ v = 19 ∨ v = 20 ∨ v = 21 ∨ v = 22 ∨ v = 23 ∨ v = 24 ∨ v = 25 ∨ v = 26 ∨ v = 27 ∨ v = 28 ∨ v = 29 ∨ v = 30 ∨ v = 31 ∨ v = 32 ∨ v = 33 ∨ v = 34 ∨ v = 35 ∨ v = 36 ∨ v = 37 ∨ v = 38 ∨ v = 39 ∨ v = 40 ∨ v = 41 ∨ v = 42 ∨ v = 43 ∨ v = 44 ∨ v = 45 ∨ v = 46 ∨ v = 47 ∨ v = 48 ∨ v = 49 ∨ v = 50 ∨ v = 51 ∨ v = 52 ∨ v = 53 ∨ v = 54 := by omega
  clear hd hv0 hv1
  rcases hc with c | c | c | c | c | c | c | c | c | c | c | c | c | c | c | c | c | c | c | c | c | c | c | c | c | c | c | c | c | c | c | c | c | c | c | c | c | c | c | c | c | c | c | c | c | c | c | c | c | c | c | c | c | c | c
  · exact g_tableIn (M := mL_law) (tgt := 276) dL_law_40 lo hi2 (iI_tat hv c rfl) (by decide) (lu_feed hX2 hL hE hb hLm hF hi hR hS hr nxt)
  · exact g_tableIn (M := mL_law) (tgt := 380) dL_law_40 lo hi2 (iI_tat hv c rfl) (by decide) (lu_truncate hX2 hL hE hb hLm hF hi hR hS hr nxt)
  · exact g_tableIn (M := mL_law) (tgt := 436) dL_law_40 lo hi2 (iI_tat hv c rfl) (by decide) (lu_readText hX2 hL hE hb hLm hF hi hR hS hr nxt)
  · exact g_tableIn (M := mL_law) (tgt := 480) dL_law_40 lo hi2 (iI_tat hv c rfl) (by decide) (lu_runScript hX2 hL hE hb hLm hF hi hR hS hr nxt)
  · exact g_tableIn (M := mL_law) (tgt := 524) dL_law_40 lo hi2 (iI_tat hv c rfl) (by decide) (lu_errorCode hX2 hL hE hb hLm hF hi hR hS hr nxt)
  · exact g_tableIn (M := mL_law) (tgt := 537) dL_law_40 lo hi2 (iI_tat hv c rfl) (by decide) (lu_errorPosition hX2 hL hE hb hLm hF hi hR hS hr nxt)
  · exact g_tableIn (M := mL_law) (tgt := 550) dL_law_40 lo hi2 (iI_tat hv c rfl) (by decide) (lu_setting hX2 hL hE hb hLm hF hi hR hS hr nxt)
  · exact g_tableIn (M := mL_law) (tgt := 606) dL_law_40 lo hi2 (iI_tat hv c rfl) (by decide) (lu_row hX2 hL hE hb hLm hF hi hR hS hr nxt)
  · exact g_tableIn (M := mL_law) (tgt := 674) dL_law_40 lo hi2 (iI_tat hv c rfl) (by decide) (lu_letter hX2 hL hE hb hLm hF hi hR hS hr nxt)
  · exact g_tableIn (M := mL_law) (tgt := 742) dL_law_40 lo hi2 (iI_tat hv c rfl) (by decide) (lu_wordAt hX2 hL hE hb hLm hF hi hR hS hr nxt)
  · exact g_tableIn (M := mL_law) (tgt := 810) dL_law_40 lo hi2 (iI_tat hv c rfl) (by decide) (lu_differ hX2 hL hE hb hLm hF hi hR hS hr nxt)
  · exact g_tableIn (M := mL_law) (tgt := 878) dL_law_40 lo hi2 (iI_tat hv c rfl) (by decide) (lu_distance hX2 hL hE hb hLm hF hi hR hS hr nxt)
  · exact g_tableIn (M := mL_law) (tgt := 946) dL_law_40 lo hi2 (iI_tat hv c rfl) (by decide) (lu_score hX2 hL hE hb hLm hF hi hR hS hr nxt)
  · exact g_tableIn (M := mL_law) (tgt := 1002) dL_law_40 lo hi2 (iI_tat hv c rfl) (by decide) (lu_having hX2 hL hE hb hLm hF hi hR hS hr nxt)
  · exact g_tableIn (M := mL_law) (tgt := 1058) dL_law_40 lo hi2 (iI_tat hv c rfl) (by decide) (lu_closest hX2 hL hE hb hLm hF hi hR hS hr nxt)
  · exact g_tableIn (M := mL_law) (tgt := 1126) dL_law_40 lo hi2 (iI_tat hv c rfl) (by decide) (lu_spread hX2 hL hE hb hLm hF hi hR hS hr nxt)
  · exact g_tableIn (M := mL_law) (tgt := 1182) dL_law_40 lo hi2 (iI_tat hv c rfl) (by decide) (lu_shared hX2 hL hE hb hLm hF hi hR hS hr nxt)
  · exact g_tableIn (M := mL_law) (tgt := 1250) dL_law_40 lo hi2 (iI_tat hv c rfl) (by decide) (lu_sharedAt hX2 hL hE hb hLm hF hi hR hS hr nxt)
  · exact g_tableIn (M := mL_law) (tgt := 1330) dL_law_40 lo hi2 (iI_tat hv c rfl) (by decide) (lu_hits hX2 hL hE hb hLm hF hi hR hS hr nxt)
  · exact g_tableIn (M := mL_law) (tgt := 1386) dL_law_40 lo hi2 (iI_tat hv c rfl) (by decide) (lu_hit hX2 hL hE hb hLm hF hi hR hS hr nxt)
  · exact g_tableIn (M := mL_law) (tgt := 1466) dL_law_40 lo hi2 (iI_tat hv c rfl) (by decide) (lu_kinds hX2 hL hE hb hLm hF hi hR hS hr nxt)
  · exact g_tableIn (M := mL_law) (tgt := 1479) dL_law_40 lo hi2 (iI_tat hv c rfl) (by decide) (lu_timesOf hX2 hL hE hb hLm hF hi hR hS hr nxt)
  · exact g_tableIn (M := mL_law) (tgt := 1535) dL_law_40 lo hi2 (iI_tat hv c rfl) (by decide) (lu_commonest hX2 hL hE hb hLm hF hi hR hS hr nxt)
  · exact g_tableIn (M := mL_law) (tgt := 1548) dL_law_40 lo hi2 (iI_tat hv c rfl) (by decide) (lu_best hX2 hL hE hb hLm hF hi hR hS hr nxt)
  · exact g_tableIn (M := mL_law) (tgt := 1604) dL_law_40 lo hi2 (iI_tat hv c rfl) (by decide) (lu_bound hX2 hL hE hb hLm hF hi hR hS hr nxt)
  · exact g_tableIn (M := mL_law) (tgt := 1672) dL_law_40 lo hi2 (iI_tat hv c rfl) (by decide) (lu_mostHad hX2 hL hE hb hLm hF hi hR hS hr nxt)
  · exact g_tableIn (M := mL_law) (tgt := 1728) dL_law_40 lo hi2 (iI_tat hv c rfl) (by decide) (lu_scoreWithout hX2 hL hE hb hLm hF hi hR hS hr nxt)
  · exact g_tableIn (M := mL_law) (tgt := 1784) dL_law_40 lo hi2 (iI_tat hv c rfl) (by decide) (lu_outlier hX2 hL hE hb hLm hF hi hR hS hr nxt)
  · exact g_tableIn (M := mL_law) (tgt := 1797) dL_law_40 lo hi2 (iI_tat hv c rfl) (by decide) (lu_ranked hX2 hL hE hb hLm hF hi hR hS hr nxt)
  · exact g_tableIn (M := mL_law) (tgt := 1822) dL_law_40 lo hi2 (iI_tat hv c rfl) (by decide) (lu_rankOf hX2 hL hE hb hLm hF hi hR hS hr nxt)
  · exact g_tableIn (M := mL_law) (tgt := 1878) dL_law_40 lo hi2 (iI_tat hv c rfl) (by decide) (lu_second hX2 hL hE hb hLm hF hi hR hS hr nxt)
  · exact g_tableIn (M := mL_law) (tgt := 1934) dL_law_40 lo hi2 (iI_tat hv c rfl) (by decide) (lu_count hX2 hL hE hb hLm hF hi hR hS hr nxt)
  · exact g_tableIn (M := mL_law) (tgt := 2002) dL_law_40 lo hi2 (iI_tat hv c rfl) (by decide) (lu_common hX2 hL hE hb hLm hF hi hR hS hr nxt)
  · exact g_tableIn (M := mL_law) (tgt := 2015) dL_law_40 lo hi2 (iI_tat hv c rfl) (by decide) (lu_agreement hX2 hL hE hb hLm hF hi hR hS hr nxt)
  · exact g_tableIn (M := mL_law) (tgt := 2028) dL_law_40 lo hi2 (iI_tat hv c rfl) (by decide) (lu_weight hX2 hL hE hb hLm hF hi hR hS hr nxt)
  · exact g_tableIn (M := mL_law) (tgt := 2096) dL_law_40 lo hi2 (iI_tat hv c rfl) (by decide) (lu_tryFrom hX2 hL hE hb hLm hF hi hR hS hr nxt)
  · exact g_tableIn (M := mL_law) (tgt := 2164) dL_law_40 lo hi2 (iI_tat hv c rfl) (by decide) (lu_bestStart hX2 hL hE hb hLm hF hi hR hS hr nxt)
  · exact g_tableIn (M := mL_law) (tgt := 2220) dL_law_40 lo hi2 (iI_tat hv c rfl) (by decide) (lu_agreementShare hX2 hL hE hb hLm hF hi hR hS hr nxt)
  · exact g_tableIn (M := mL_law) (tgt := 2263) dL_law_40 lo hi2 (iI_tat hv c rfl) (by decide) (lu_meanDistance hX2 hL hE hb hLm hF hi hR hS hr nxt)
  · exact g_tableIn (M := mL_law) (tgt := 2304) dL_law_40 lo hi2 (iI_tat hv c rfl) (by decide) (lu_improvesToEnd hX2 hL hE hb hLm hF hi hR hS hr nxt)
  · exact g_tableIn (M := mL_law) (tgt := 2360) dL_law_40 lo hi2 (iI_tat hv c rfl) (by decide) (lu_choose hX2 hL hE hb hLm hF hi hR hS hr nxt)
  · exact g_tableIn (M := mL_law) (tgt := 2428) dL_law_40 lo hi2 (iI_tat hv c rfl) (by decide) (lu_clear hX2 hL hE hb hLm hF hi hR hS hr nxt)
  · exact g_tableIn (M := mL_law) (tgt := 2484) dL_law_40 lo hi2 (iI_tat hv c rfl) (by decide) (lu_better hX2 hL hE hb hLm hF hi hR hS hr nxt)
  · exact g_tableIn (M := mL_law) (tgt := 2540) dL_law_40 lo hi2 (iI_tat hv c rfl) (by decide) (lu_improve hX2 hL hE hb hLm hF hi hR hS hr nxt)
  · exact g_tableIn (M := mL_law) (tgt := 2596) dL_law_40 lo hi2 (iI_tat hv c rfl) (by decide) (lu_take hX2 hL hE hb hLm hF hi hR hS hr nxt)
  · exact g_tableIn (M := mL_law) (tgt := 2652) dL_law_40 lo hi2 (iI_tat hv c rfl) (by decide) (lu_takeBest hX2 hL hE hb hLm hF hi hR hS hr nxt)
  · exact g_tableIn (M := mL_law) (tgt := 2696) dL_law_40 lo hi2 (iI_tat hv c rfl) (by decide) (lu_whyNotTake hX2 hL hE hb hLm hF hi hR hS hr nxt)
  · exact g_tableIn (M := mL_law) (tgt := 2752) dL_law_40 lo hi2 (iI_tat hv c rfl) (by decide) (lu_taken hX2 hL hE hb hLm hF hi hR hS hr nxt)
  · exact g_tableIn (M := mL_law) (tgt := 2777) dL_law_40 lo hi2 (iI_tat hv c rfl) (by decide) (lu_setOut hX2 hL hE hb hLm hF hi hR hS hr nxt)
  · exact g_tableIn (M := mL_law) (tgt := 2861) dL_law_40 lo hi2 (iI_tat hv c rfl) (by decide) (lu_setChanges hX2 hL hE hb hLm hF hi hR hS hr nxt)
  · exact g_tableIn (M := mL_law) (tgt := 2917) dL_law_40 lo hi2 (iI_tat hv c rfl) (by decide) (lu_report hX2 hL hE hb hLm hF hi hR hS hr nxt)
  · exact g_tableIn (M := mL_law) (tgt := 2930) dL_law_40 lo hi2 (iI_tat hv c rfl) (by decide) (lu_reportByte hX2 hL hE hb hLm hF hi hR hS hr nxt)
  · exact g_tableIn (M := mL_law) (tgt := 2986) dL_law_40 lo hi2 (iI_tat hv c rfl) (by decide) (lu_undo hX2 hL hE hb hLm hF hi hR hS hr nxt)
  · exact g_tableIn (M := mL_law) (tgt := 2999) dL_law_40 lo hi2 (iI_tat hv c rfl) (by decide) (lu_save hX2 hL hE hb hLm hF hi hR hS hr nxt)
  · exact g_tableIn (M := mL_law) (tgt := 3012) dL_law_40 lo hi2 (iI_tat hv c rfl) (by decide) (lu_restore hX2 hL hE hb hLm hF hi hR hS hr nxt)
theorem l_loop {X : zX} (hX2 : zOK2 X) (hL : zOL X) {b L : Nat} {xs : Nat → Int32} (hE : ∀ U, zE X U → va_X b L xs U U.heap) (hb : b < X.2.2.2.1) (hLm : L ≤ 3072) {nu : CS → Nat} (hF : zvF nu) : ∀ (r : Nat) (i : Int) (A : Nat → Nat) (S : Nat → va_E) (σ : CS) (m : CV) (f : Nat → Int64) (kc ks : Nat), 0 ≤ i ∧ i ≤ 4000 → (L : Int) < i + 6 * (r : Int) + 6 → zRR σ m → zvLs X A m f S → zvR kc ks r (nu σ) → G X mL_law (zLP X b) kc ks 23 (zvLv b A i) [] (zWs A 113 (zSt X A σ S)) := by
  intro r
  induction r with
  | zero =>
    intro i A S σ m f kc ks hi hl hR hS hr
    unfold zvR at hr
    exact l_head hE hb hLm hi (by omega) (by omega) (fun z => absurd z (by omega))
  | succ r ih =>
    intro i A S σ m f kc ks hi hl hR hS hr
    have hr2 := hr
    unfold zvR at hr2
    refine l_head hE hb hLm hi (by omega) (by omega) (fun z => ?_)
    exact l_step hX2 hL hE hb hLm hF ⟨hi.1, z⟩ hR hS hr (fun kc' ks' A' S' σ' m' f' h1 h2 h3 h4 => l_tail (ih (i + 6) A' S' σ' m' f' kc' ks' (by omega) (by omega) h1 h2 h4))
end ZLU
