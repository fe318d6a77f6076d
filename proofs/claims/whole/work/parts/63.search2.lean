section ZSI
variable {s : Int → Int}
def zMx (old : Int → Int) (L step b : Int) : Int := zFd (fun x v => zMin v (old (b + x * step))) L.toNat (old b)
theorem zMx_p {old : Int → Int} {L step b : Int} (hL : 1 ≤ L) : (∀ x, 0 ≤ x → x < L → zMx old L step b ≤ old (b + x * step)) ∧ ∃ x, (0 ≤ x ∧ x < L) ∧ zMx old L step b = old (b + x * step) := by
  have key := zFd_I (f := fun x v => zMin v (old (b + x * step))) (a := old b) (fun k v => (∀ x, 0 ≤ x → x < k → v ≤ old (b + x * step)) ∧ ∃ x, (0 ≤ x ∧ x < L) ∧ v = old (b + x * step)) ⟨fun x h0 h1 => by omega, 0, ⟨by omega, by omega⟩, by rw [Int.zero_mul, Int.add_zero]⟩ L.toNat (fun k v hk hk2 hv => by
    show (∀ x, 0 ≤ x → x < k + 1 → zMin v (old (b + k * step)) ≤ old (b + x * step)) ∧ ∃ x, (0 ≤ x ∧ x < L) ∧ zMin v (old (b + k * step)) = old (b + x * step)
    have hmin : zMin v (old (b + k * step)) ≤ v ∧ zMin v (old (b + k * step)) ≤ old (b + k * step) ∧ (zMin v (old (b + k * step)) = v ∨ zMin v (old (b + k * step)) = old (b + k * step)) := by
      unfold zMin
      split <;> omega
    generalize zMin v (old (b + k * step)) = y at hmin
    refine ⟨fun x h0 h1 => ?_, ?_⟩
    · by_cases e : x = k
      · rw [e]; exact hmin.2.1
      · have := hv.1 x h0 (by omega)
        omega
    · rcases hmin.2.2 with e | e
      · obtain ⟨x, hx, e2⟩ := hv.2
        exact ⟨x, hx, e.trans e2⟩
      · exact ⟨k, ⟨hk, by omega⟩, e⟩)
  refine ⟨fun x h0 h1 => key.1 x h0 (by omega), key.2⟩
theorem zDn_ext {u v v' : Int → Int} {n : Int} (h : ∀ j, 0 ≤ j → j < n → v j = v' j) : zDn u v n = zDn u v' n := by
  unfold zDn
  refine zFd_eq _ (fun i x h0 h1 => ?_)
  show x + (if u i = v i then 0 else 1) = x + (if u i = v' i then 0 else 1)
  rw [h i h0 (by omega)]
/-- letters of words of one group -/
theorem zGr (hW : zWf s) {a x c k : Int} (ha : 0 ≤ a) (hx : 0 ≤ x ∧ x < s 1) (hk : 0 ≤ k) (hk2 : k < s 2) (hc : 0 ≤ c ∧ c < zPw (s 1) k) : zDb s (s 2) ((a * s 1 + x) * zPw (s 1) k + c) (s 2 - 1 - k) = x ∧ ∀ x', (0 ≤ x' ∧ x' < s 1) → ∀ j, 0 ≤ j → j < s 2 → j ≠ s 2 - 1 - k → zDb s (s 2) ((a * s 1 + x) * zPw (s 1) k + c) j = zDb s (s 2) ((a * s 1 + x') * zPw (s 1) k + c) j := by
  refine ⟨by rw [zDb_3 hW ha hx hk hc (by omega) (by omega), if_pos rfl], fun x' hx' j j0 j1 j2 => ?_⟩
  rw [zDb_3 hW ha hx hk hc j0 j1, zDb_3 hW ha hx' hk hc j0 j1, if_neg j2, if_neg j2]
/-- one letter more -/
theorem zNk1_s (hW : zWf s) {r k : Int} (h0 : 0 ≤ r) (h1 : r < s 0) (hk : 0 ≤ k) (hk2 : k < s 2) {old : Int → Int} (ho : ∀ w, 0 ≤ w → w < zWords s → zNk1 s r k w (old w)) {a x c : Int} (ha : 0 ≤ a) (hx : 0 ≤ x ∧ x < s 1) (hc : 0 ≤ c ∧ c < zPw (s 1) k)
    (hw : ∀ x', (0 ≤ x' ∧ x' < s 1) → (a * s 1 + x') * zPw (s 1) k + c < zWords s) : zNk1 s r (k + 1) ((a * s 1 + x) * zPw (s 1) k + c) (zMin (zMx old (s 1) (zPw (s 1) k) (a * s 1 * zPw (s 1) k + c) + 1) (old ((a * s 1 + x) * zPw (s 1) k + c))) := by
  have hL := hW.2.1
  have w2 := hW.2.2.1
  have pk := zPw_pos (b := s 1) (by omega) k
  have hnn : ∀ x', (0 ≤ x' ∧ x' < s 1) → 0 ≤ (a * s 1 + x') * zPw (s 1) k + c := fun x' hx' => by
    have : 0 ≤ a * s 1 := Int.mul_nonneg ha (by omega)
    have := Int.mul_nonneg (show 0 ≤ a * s 1 + x' by omega) (show 0 ≤ zPw (s 1) k by omega)
    omega
  have heq : ∀ x', a * s 1 * zPw (s 1) k + c + x' * zPw (s 1) k = (a * s 1 + x') * zPw (s 1) k + c := fun x' => by
    rw [Int.add_mul]; omega
  obtain ⟨hm1, x1, hx1, hm2⟩ := zMx_p (old := old) (L := s 1) (step := zPw (s 1) k) (b := a * s 1 * zPw (s 1) k + c) (by omega)
  rw [heq] at hm2
  have hm1' : ∀ x', (0 ≤ x' ∧ x' < s 1) → zMx old (s 1) (zPw (s 1) k) (a * s 1 * zPw (s 1) k + c) ≤ old ((a * s 1 + x') * zPw (s 1) k + c) := fun x' h => by rw [← heq]; exact hm1 x' h.1 h.2
  generalize zMx old (s 1) (zPw (s 1) k) (a * s 1 * zPw (s 1) k + c) = mx at hm2 hm1'
  -- distances of words of the group
  have hD : ∀ i x', (0 ≤ x' ∧ x' < s 1) → zDf s r i (zDb s (s 2) ((a * s 1 + x) * zPw (s 1) k + c)) (s 2) + (if zl s r (i + (s 2 - 1 - k)) ≠ x' then 1 else 0) = zDf s r i (zDb s (s 2) ((a * s 1 + x') * zPw (s 1) k + c)) (s 2) + (if zl s r (i + (s 2 - 1 - k)) ≠ x then 1 else 0) := fun i x' hx' => by
    have g := zGr hW ha hx hk hk2 hc
    have g' := zGr hW ha hx' hk hk2 hc
    have e := zDn_one (u := fun j => zl s r (i + j)) (v := zDb s (s 2) ((a * s 1 + x) * zPw (s 1) k + c)) (v' := fun j => if j = s 2 - 1 - k then x' else zDb s (s 2) ((a * s 1 + x) * zPw (s 1) k + c) j) (q := s 2 - 1 - k) (by omega) (fun j hj => by show _ = (if j = s 2 - 1 - k then x' else _); rw [if_neg hj]) (s 2).toNat
    rw [show (((s 2).toNat : Nat) : Int) = s 2 by omega] at e
    have e2 : zDn (fun j => zl s r (i + j)) (fun j => if j = s 2 - 1 - k then x' else zDb s (s 2) ((a * s 1 + x) * zPw (s 1) k + c) j) (s 2) = zDf s r i (zDb s (s 2) ((a * s 1 + x') * zPw (s 1) k + c)) (s 2) := zDn_ext (fun j j0 j1 => by
      show (if j = s 2 - 1 - k then x' else _) = _
      by_cases ej : j = s 2 - 1 - k
      · rw [if_pos ej, ej, g'.1]
      · rw [if_neg ej]; exact g.2 x' hx' j j0 j1 ej)
    rw [e2] at e
    rw [if_pos rfl, g.1] at e
    have hlt : s 2 - 1 - k < s 2 := by omega
    simp only [hlt, true_and] at e
    exact e
  have hA := ho _ (hnn x hx) (hw x hx)
  have hB := fun x' hx' => ho _ (hnn x' hx') (hw x' hx')
  have hmin : ∀ p q : Int, zMin p q ≤ p ∧ zMin p q ≤ q ∧ (zMin p q = q ∨ (zMin p q = p ∧ p ≤ q)) := fun p q => by
    unfold zMin
    split <;> omega
  have hv := hmin (mx + 1) (old ((a * s 1 + x) * zPw (s 1) k + c))
  generalize zMin (mx + 1) (old ((a * s 1 + x) * zPw (s 1) k + c)) = v at hv
  have hA1 := hA.1
  refine ⟨by omega, fun i hi => ?_, ?_⟩
  · show v ≤ zDf s r i _ (s 2)
    obtain ⟨⟨a1, a2⟩, _, _, _, a5, _⟩ := hW.row h0 h1
    have hl := a5 (i + (s 2 - 1 - k)) (by have := hi.1.2.1; omega) (by have := hi.1.2.2.1; omega)
    have hd := hD i (zl s r (i + (s 2 - 1 - k))) hl
    rw [if_neg (fun z => z rfl)] at hd
    have hag : zPlP s r i ∧ ∀ j, 0 ≤ j → j < s 2 - k → zl s r (i + j) = zDb s (s 2) ((a * s 1 + zl s r (i + (s 2 - 1 - k))) * zPw (s 1) k + c) j := ⟨hi.1, fun j j0 j1 => by
      by_cases ej : j = s 2 - 1 - k
      · rw [ej, (zGr hW ha hl hk hk2 hc).1]
      · rw [hi.2 j j0 (by omega)]
        exact (zGr hW ha hx hk hk2 hc).2 _ hl j j0 (by omega) ej⟩
    have hb := (hB _ hl).2.1 i hag
    have hm := hm1' _ hl
    have hb' : old ((a * s 1 + zl s r (i + (s 2 - 1 - k))) * zPw (s 1) k + c) ≤ zDf s r i (zDb s (s 2) ((a * s 1 + zl s r (i + (s 2 - 1 - k))) * zPw (s 1) k + c)) (s 2) := hb
    by_cases e : zl s r (i + (s 2 - 1 - k)) = x
    · rw [e] at hb'
      omega
    · rw [if_pos e] at hd
      omega
  · rcases hv.2.2 with e | ⟨e, hle⟩
    · rcases hA.2.2 with e2 | ⟨i, hi, e2⟩
      · exact Or.inl (e.trans e2)
      · exact Or.inr ⟨i, ⟨hi.1, fun j j0 j1 => hi.2 j j0 (by omega)⟩, e.trans e2⟩
    · have hb := hB x1 hx1
      have hb1 := hb.1
      rcases hb.2.2 with e2 | ⟨i, hi, e2⟩
      · omega
      · have e2' : old ((a * s 1 + x1) * zPw (s 1) k + c) = zDf s r i (zDb s (s 2) ((a * s 1 + x1) * zPw (s 1) k + c)) (s 2) := e2
        have hlq := hi.2 (s 2 - 1 - k) (by omega) (by omega)
        rw [(zGr hW ha hx1 hk hk2 hc).1] at hlq
        have hd := hD i x1 hx1
        rw [if_neg (fun z => z hlq)] at hd
        by_cases ex : x1 = x
        · rw [ex] at hm2
          omega
        · rw [if_pos (fun z => ex (hlq.symm.trans z))] at hd
          refine Or.inr ⟨i, ⟨hi.1, fun j j0 j1 => ?_⟩, ?_⟩
          · rw [hi.2 j j0 (by omega)]
            exact (zGr hW ha hx1 hk hk2 hc).2 _ hx j j0 (by omega) (by omega)
          · show v = zDf s r i _ (s 2)
            omega
end ZSI
