section ZSJ
variable {s : Int → Int}
theorem c_nearestOf {T : CV} {first step : Int} (hL : 1 ≤ T.1 5 ∧ T.1 5 ≤ 4) (h100 : T.1 100 ≤ 2147483647) (hin : ∀ x, 0 ≤ x → x < T.1 5 → (0 ≤ first + x * step ∧ first + x * step < T.1 100) ∧ (0 ≤ T.2 1 (first + x * step) ∧ T.2 1 (first + x * step) ≤ 1000)) : fX3_nearestOf T first step = some (zMx (T.2 1) (T.1 5) step first) := by
  apply zok_q
  unfold fX3_nearestOf
  have h0 := hin 0 (by omega) (by omega)
  rw [Int.zero_mul, Int.add_zero] at h0
  (repeat (first | (with_reducible refine zok_g ?_ ?_; focus omega) | with_reducible refine zok_j ?_ | (with_reducible refine zok_t ?_ ?_; focus omega) | (with_reducible refine zok_f ?_ ?_; focus omega)))
  refine zok_Fc 1 (mk := fun a i => (a, i)) (T.1 5) (fun i a => (0 ≤ a ∧ a ≤ 1000) ∧ a = zFd (fun x v => zMin v (T.2 1 (first + x * step))) i.toNat (T.2 1 first)) rfl (by omega) (by omega) ⟨h0.2, ?_⟩ (fun i a hi hi2 hI => ?_) (fun i a hi hi2 hi3 hi4 hI => ?_)
  · show T.2 1 first = zMin (T.2 1 first) (T.2 1 (first + ((0 : Nat) : Int) * step))
    rw [show ((0 : Nat) : Int) = 0 by rfl, Int.zero_mul, Int.add_zero]
    unfold zMin
    split <;> rfl
  · have h := hin i (by omega) hi2
    dsimp only
    (repeat (first | (with_reducible refine zok_g ?_ ?_; focus omega) | with_reducible refine zok_j ?_ | (with_reducible refine zok_t ?_ ?_; focus omega) | (with_reducible refine zok_f ?_ ?_; focus omega)))
    refine zok_sl ⟨_, rfl, zMin_r hI.1 h.2, ?_⟩
    rw [zFd_s (by omega), ← hI.2]
  · dsimp only
    (repeat (first | (with_reducible refine zok_g ?_ ?_; focus omega) | with_reducible refine zok_j ?_ | (with_reducible refine zok_t ?_ ?_; focus omega) | (with_reducible refine zok_f ?_ ?_; focus omega)))
    refine zok_sr (zok_s ?_)
    rw [hI.2, hi3 (by omega)]
    rfl
theorem zW3_inj {L P a x c a' x' c' : Int} (hx : 0 ≤ x ∧ x < L) (hc : 0 ≤ c ∧ c < P) (hx' : 0 ≤ x' ∧ x' < L) (hc' : 0 ≤ c' ∧ c' < P) (h : (a * L + x) * P + c = (a' * L + x') * P + c') : a = a' ∧ x = x' ∧ c = c' := by
  have e1 : ((a * L + x) * P + c) / P = a * L + x := by
    rw [Int.add_comm, Int.add_mul_ediv_right _ _ (by omega), Int.ediv_eq_zero_of_lt hc.1 hc.2, Int.zero_add]
  have e2 : ((a' * L + x') * P + c') / P = a' * L + x' := by
    rw [Int.add_comm, Int.add_mul_ediv_right _ _ (by omega), Int.ediv_eq_zero_of_lt hc'.1 hc'.2, Int.zero_add]
  rw [h, e2] at e1
  have e3 : (a * L + x) / L = a := by
    rw [Int.add_comm, Int.add_mul_ediv_right _ _ (by omega), Int.ediv_eq_zero_of_lt hx.1 hx.2, Int.zero_add]
  have e4 : (a' * L + x') / L = a' := by
    rw [Int.add_comm, Int.add_mul_ediv_right _ _ (by omega), Int.ediv_eq_zero_of_lt hx'.1 hx'.2, Int.zero_add]
  rw [← e1, e4] at e3
  subst e3
  have e5 : x = x' := by omega
  subst e5
  exact ⟨rfl, rfl, by omega⟩
theorem zW3_lt {L P A a x c : Int} (ha : 0 ≤ a ∧ a < A) (hx : 0 ≤ x ∧ x < L) (hc : 0 ≤ c ∧ c < P) : 0 ≤ (a * L + x) * P + c ∧ (a * L + x) * P + c < A * L * P := by
  have h1 : 0 ≤ a * L := Int.mul_nonneg ha.1 (by omega)
  have h2 : (a + 1) * L ≤ A * L := Int.mul_le_mul_of_nonneg_right (by omega) (by omega)
  rw [Int.add_mul, Int.one_mul] at h2
  have h3 := Int.mul_nonneg (show 0 ≤ a * L + x by omega) (show 0 ≤ P by omega)
  have h4 : (a * L + x + 1) * P ≤ A * L * P := Int.mul_le_mul_of_nonneg_right (by omega) (by omega)
  rw [Int.add_mul, Int.one_mul] at h4
  omega
def zNew (old : Int → Int) (L P a x c : Int) : Int := zMin (zMx old L P (a * L * P + c) + 1) (old ((a * L + x) * P + c))
theorem c_changeOneLetter {T : CV} {L P A W : Int} (hT5 : T.1 5 = L) (hT7 : T.1 7 = W) (hL : 2 ≤ L ∧ L ≤ 4) (hP : 1 ≤ P) (hA : 1 ≤ A) (hW : W = A * L * P) (hW2 : W ≤ 4096) (h100 : W ≤ T.1 100 ∧ T.1 100 ≤ 2147483647) (hin : ∀ w, 0 ≤ w → w < W → 0 ≤ T.2 1 w ∧ T.2 1 w ≤ 999) :
    zOk (fX3_changeOneLetter T P) (fun t => zEx [] [1] T t ∧ ∀ a x c, (0 ≤ a ∧ a < A) → (0 ≤ x ∧ x < L) → (0 ≤ c ∧ c < P) → t.2 1 ((a * L + x) * P + c) = zNew (T.2 1) L P a x c) := by
  unfold fX3_changeOneLetter
  have hidx : ∀ a x c, (0 ≤ a ∧ a < A) → (0 ≤ x ∧ x < L) → (0 ≤ c ∧ c < P) → 0 ≤ (a * L + x) * P + c ∧ (a * L + x) * P + c < W := fun a x c ha hx hc => by rw [hW]; exact zW3_lt ha hx hc
  have hLP : 1 ≤ L * P := by
    have := Int.mul_le_mul (show 1 ≤ L by omega) hP (by omega) (show 0 ≤ L by omega)
    omega
  have hPle : P ≤ L * P := by
    have := Int.mul_le_mul_of_nonneg_right (show 1 ≤ L by omega) (show 0 ≤ P by omega)
    omega
  have hAle : ∀ a, a ≤ A → a * L * P ≤ W := fun a h => by
    rw [hW]
    exact Int.mul_le_mul_of_nonneg_right (Int.mul_le_mul_of_nonneg_right h (by omega)) (by omega)
  have hstep : ∀ a, (a + 1) * L * P = a * L * P + L * P := fun a => by rw [Int.add_mul, Int.one_mul, Int.add_mul]
  have hLW : L * P ≤ W := by
    have h := hAle 1 hA
    rw [Int.one_mul] at h
    exact h
  have hblk : zMax 1 (P * T.1 5) = L * P := by
    rw [hT5, Int.mul_comm P]
    unfold zMax
    split <;> omega
  have hblr : iR (P * T.1 5) := by
    rw [hT5, Int.mul_comm P]
    exact ⟨by omega, by omega⟩
  refine zok_g hblr ?_
  rw [hblk]
  refine zok_L (I := fun z => ∃ a, (0 ≤ a ∧ a ≤ A) ∧ z.1 = a * L * P ∧ zEx [] [1] T z.2 ∧ ∀ a' x c, (0 ≤ a' ∧ a' < A) → (0 ≤ x ∧ x < L) → (0 ≤ c ∧ c < P) → z.2.2 1 ((a' * L + x) * P + c) = if a' < a then zNew (T.2 1) L P a' x c else T.2 1 ((a' * L + x) * P + c)) (μ := fun z => (W - z.1).toNat) ⟨0, ⟨by omega, by omega⟩, by show (0 : Int) = 0 * L * P; rw [Int.zero_mul, Int.zero_mul], zEx_0, fun a' x c h _ _ => by rw [if_neg (by omega)]⟩ (by show (W - 0).toNat < 100000; omega) ?_
  rintro ⟨hi, U⟩ ⟨a, ha, hhi, hE, hU⟩
  dsimp only at hhi hE hU ⊢
  have e7 : U.1 7 = W := (hE.1 7 (by decide)).trans hT7
  rw [e7]
  have hi0 : 0 ≤ hi := by rw [hhi]; exact Int.mul_nonneg (Int.mul_nonneg ha.1 (by omega)) (by omega)
  have hi1 := hAle a ha.2
  (repeat (first | (with_reducible refine zok_g ?_ ?_; focus omega) | with_reducible refine zok_j ?_ | (with_reducible refine zok_t ?_ ?_; focus omega) | (with_reducible refine zok_f ?_ ?_; focus omega)))
  refine zok_i (fun c => zok_sr (zok_s ⟨hE, fun a' x c' h1 h2 h3 => ?_⟩)) (fun c => ?_)
  · have haA : ¬ a < A := fun h => by
      have := hAle (a + 1) (by omega)
      rw [hstep] at this
      omega
    rw [hU a' x c' h1 h2 h3, if_pos (by omega)]
  have haA : a < A := by
    by_cases h : a < A
    · exact h
    · have : a = A := by omega
      rw [this, ← hW] at hhi
      omega
  have hi2 := hAle (a + 1) (by omega)
  rw [hstep] at hi2
  refine zok_Fc hi (mk := fun U i => (i, U)) (hi + P) (fun low U => zEx [] [1] T U ∧ ∀ a' x c', (0 ≤ a' ∧ a' < A) → (0 ≤ x ∧ x < L) → (0 ≤ c' ∧ c' < P) → U.2 1 ((a' * L + x) * P + c') = if a' < a ∨ (a' = a ∧ c' < low - hi) then zNew (T.2 1) L P a' x c' else T.2 1 ((a' * L + x) * P + c')) rfl (by omega) hi0 ⟨hE, fun a' x c' h1 h2 h3 => ?_⟩ (fun low U hl hl2 hV => ?_) (fun low U hl hl2 hl3 hl4 hV => ?_)
  · rw [hU a' x c' h1 h2 h3]
    by_cases e : a' < a
    · rw [if_pos e, if_pos (Or.inl e)]
    · rw [if_neg e, if_neg (by omega)]
  · obtain ⟨hE2, hU2⟩ := hV
    dsimp only
    have e5 : U.1 5 = L := (hE2.1 5 (by decide)).trans hT5
    have e100 : U.1 100 = T.1 100 := hE2.1 100 (by decide)
    have hgrp : ∀ x, low + x * P = (a * L + x) * P + (low - hi) := fun x => by rw [Int.add_mul, hhi]; omega
    have hold : ∀ x, (0 ≤ x ∧ x < L) → U.2 1 (low + x * P) = T.2 1 (low + x * P) := fun x hx => by
      rw [hgrp, hU2 a x (low - hi) ⟨ha.1, haA⟩ hx ⟨by omega, by omega⟩, if_neg (by omega)]
    have hin2 : ∀ x, (0 ≤ x ∧ x < L) → 0 ≤ low + x * P ∧ low + x * P < W := fun x hx => by
      rw [hgrp]; exact hidx a x (low - hi) ⟨ha.1, haA⟩ hx ⟨by omega, by omega⟩
    (repeat (first | (with_reducible refine zok_g ?_ ?_; focus omega) | with_reducible refine zok_j ?_ | (with_reducible refine zok_t ?_ ?_; focus omega) | (with_reducible refine zok_f ?_ ?_; focus omega)))
    refine zok_e (c_nearestOf (by rw [e5]; omega) (by rw [e100]; omega) (fun x x0 x1 => ?_)) ?_
    · rw [e5] at x1
      have h1 := hin2 x ⟨x0, x1⟩
      have h2 := hin _ h1.1 h1.2
      rw [hold x ⟨x0, x1⟩, e100]
      exact ⟨⟨h1.1, by omega⟩, h2.1, by omega⟩
    have hmx : zMx (U.2 1) (U.1 5) P low = zMx (T.2 1) L P (a * L * P + (low - hi)) := by
      rw [e5, ← hhi, show hi + (low - hi) = low by omega]
      unfold zMx
      have h0 := hold 0 ⟨by omega, by omega⟩
      rw [Int.zero_mul, Int.add_zero] at h0
      rw [h0]
      refine zFd_eq _ (fun x v x0 x1 => ?_)
      show zMin v (U.2 1 (low + x * P)) = zMin v (T.2 1 (low + x * P))
      rw [hold x ⟨x0, by omega⟩]
    rw [hmx]
    have hmr : 0 ≤ zMx (T.2 1) L P (a * L * P + (low - hi)) ∧ zMx (T.2 1) L P (a * L * P + (low - hi)) ≤ 999 := by
      obtain ⟨_, x, hx, e⟩ := zMx_p (old := T.2 1) (L := L) (step := P) (b := a * L * P + (low - hi)) (by omega)
      rw [e, ← hhi, show hi + (low - hi) = low by omega]
      have := hin2 x hx
      exact hin _ this.1 this.2
    generalize hmxe : zMx (T.2 1) L P (a * L * P + (low - hi)) = mx at hmr
    refine zok_F (mk := fun U i => (i, U)) L (fun x U => zEx [] [1] T U ∧ ∀ a' x' c', (0 ≤ a' ∧ a' < A) → (0 ≤ x' ∧ x' < L) → (0 ≤ c' ∧ c' < P) → U.2 1 ((a' * L + x') * P + c') = if a' < a ∨ (a' = a ∧ (c' < low - hi ∨ (c' = low - hi ∧ x' < x))) then zNew (T.2 1) L P a' x' c' else T.2 1 ((a' * L + x') * P + c')) rfl (by omega) ⟨hE2, fun a' x' c' h1 h2 h3 => ?_⟩ (fun x U hx hx2 hY => ?_) (fun x U hx hx2 hx3 hx4 hY => ?_)
    · rw [hU2 a' x' c' h1 h2 h3]
      by_cases e : a' < a ∨ (a' = a ∧ c' < low - hi)
      · rw [if_pos e, if_pos (by omega)]
      · rw [if_neg e, if_neg (by omega)]
    · obtain ⟨hE3, hU3⟩ := hY
      dsimp only
      have e5 : U.1 5 = L := (hE3.1 5 (by decide)).trans hT5
      have e100 : U.1 100 = T.1 100 := hE3.1 100 (by decide)
      have h1 := hin2 x ⟨hx, hx2⟩
      have h2 := hin _ h1.1 h1.2
      have hcur : U.2 1 (low + x * P) = T.2 1 (low + x * P) := by
        rw [hgrp, hU3 a x (low - hi) ⟨ha.1, haA⟩ ⟨hx, hx2⟩ ⟨by omega, by omega⟩, if_neg (by omega)]
      rw [e5, e100, hcur]
      (repeat (first | (with_reducible refine zok_g ?_ ?_; focus omega) | with_reducible refine zok_j ?_ | (with_reducible refine zok_t ?_ ?_; focus omega) | (with_reducible refine zok_f ?_ ?_; focus omega)))
      refine zok_sl ⟨_, rfl, zEx_a hE3 (by decide), fun a' x' c' g1 g2 g3 => ?_⟩
      rw [zPa_s]
      by_cases e : (a' * L + x') * P + c' = low + x * P
      · rw [e, zup_s]
        rw [hgrp] at e
        obtain ⟨ea, ex, ec⟩ := zW3_inj g2 g3 ⟨hx, hx2⟩ ⟨by omega, by omega⟩ e
        rw [if_pos (by omega)]
        unfold zNew
        rw [ea, ex, ec, hmxe, ← hgrp]
      · rw [zup_n e, hU3 a' x' c' g1 g2 g3]
        have hne : ¬ (a' = a ∧ c' = low - hi ∧ x' = x) := fun z => e (by rw [z.1, z.2.1, z.2.2, ← hgrp])
        by_cases e2 : a' < a ∨ (a' = a ∧ (c' < low - hi ∨ (c' = low - hi ∧ x' < x)))
        · rw [if_pos e2, if_pos (by omega)]
        · rw [if_neg e2, if_neg (by omega)]
    · obtain ⟨hE3, hU3⟩ := hY
      dsimp only
      have e5 : U.1 5 = L := (hE3.1 5 (by decide)).trans hT5
      rw [e5]
      (repeat (first | (with_reducible refine zok_g ?_ ?_; focus omega) | with_reducible refine zok_j ?_ | (with_reducible refine zok_t ?_ ?_; focus omega) | (with_reducible refine zok_f ?_ ?_; focus omega)))
      refine zok_sr (zok_sl ⟨_, rfl, hE3, fun a' x' c' g1 g2 g3 => ?_⟩)
      rw [hU3 a' x' c' g1 g2 g3]
      by_cases e2 : a' < a ∨ (a' = a ∧ c' < low + 1 - hi)
      · rw [if_pos e2, if_pos (by omega)]
      · rw [if_neg e2, if_neg (by omega)]
  · obtain ⟨hE2, hU2⟩ := hV
    dsimp only
    have e5 : U.1 5 = L := (hE2.1 5 (by decide)).trans hT5
    have elow := hl3 (by omega)
    (repeat (first | (with_reducible refine zok_g ?_ ?_; focus omega) | with_reducible refine zok_j ?_ | (with_reducible refine zok_t ?_ ?_; focus omega) | (with_reducible refine zok_f ?_ ?_; focus omega)))
    refine zok_sr (zok_sl ⟨⟨a + 1, ⟨by omega, by omega⟩, ?_, hE2, fun a' x' c' g1 g2 g3 => ?_⟩, ?_⟩)
    · show hi + L * P = (a + 1) * L * P
      rw [hstep, hhi]
    · show U.2 1 _ = _
      rw [hU2 a' x' c' g1 g2 g3]
      by_cases e2 : a' < a + 1
      · rw [if_pos e2, if_pos (by omega)]
      · rw [if_neg e2, if_neg (by omega)]
    · show (W - (hi + L * P)).toNat < (W - hi).toNat
      omega
end ZSJ
