section ZSL2
variable {s : Int → Int}
/-- where the bounds of m letters start -/
def zLv (s : Int → Int) (m : Int) : Int := zFd (fun j a => a + zPw (s 1) (j + 1)) (m - 1).toNat 0
theorem zLv_1 : zLv s 1 = 0 := rfl
theorem zLv_s {m : Int} (h : 1 ≤ m) : zLv s (m + 1) = zLv s m + zPw (s 1) m := by
  unfold zLv
  have := zFd_s (f := fun j a => a + zPw (s 1) (j + 1)) (a := (0 : Int)) (i := m - 1) (by omega)
  rw [show m - 1 + 1 = m + 1 - 1 by omega] at this
  rw [this, show m + 1 - 1 = m by omega]
theorem zLv_le (hW : zWf s) {m m' : Int} (h : 1 ≤ m) (h2 : m ≤ m') : zLv s m ≤ zLv s m' := by
  have hL := hW.2.1
  obtain ⟨d, rfl⟩ : ∃ d : Nat, m' = m + d := ⟨(m' - m).toNat, by omega⟩
  clear h2
  induction d with
  | zero => rw [show m + ((0 : Nat) : Int) = m by omega]; exact Int.le_refl _
  | succ d ih =>
    rw [show m + ((d + 1 : Nat) : Int) = (m + d) + 1 by omega, zLv_s (by omega)]
    have := zPw_pos (b := s 1) (by omega) (m + d)
    omega
theorem zLv_0 (hW : zWf s) {m : Int} (h : 1 ≤ m) : 0 ≤ zLv s m := by
  have := zLv_le hW (m := 1) (m' := m) (by omega) h
  rw [zLv_1] at this
  exact this
theorem zLv_inj (hW : zWf s) {m m' b b' : Int} (h : 1 ≤ m) (h' : 1 ≤ m') (hb : 0 ≤ b ∧ b < zPw (s 1) m) (hb' : 0 ≤ b' ∧ b' < zPw (s 1) m') (e : zLv s m + b = zLv s m' + b') : m = m' ∧ b = b' := by
  have e1 := zLv_s (s := s) h
  have e2 := zLv_s (s := s) h'
  by_cases c : m < m'
  · have := zLv_le hW (m := m + 1) (m' := m') (by omega) (by omega)
    omega
  · by_cases c2 : m' < m
    · have := zLv_le hW (m := m' + 1) (m' := m) (by omega) (by omega)
      omega
    · have : m = m' := by omega
      subst this
      exact ⟨rfl, by omega⟩
theorem c_addBounds {T : CV} (hW : zWf s) {r ch : Int} (h0 : 0 ≤ r) (h1 : r < s 0) (hch : iR ch) (hT5 : T.1 5 = s 1) (hT6 : T.1 6 = s 2) (hT7 : T.1 7 = zWords s) (h100 : zWords s ≤ T.1 100 ∧ T.1 100 ≤ 2147483647) (h101 : zLv s (s 2 + 1) ≤ T.1 101 ∧ T.1 101 ≤ 2147483647) (h102 : zWords s ≤ T.1 102 ∧ T.1 102 ≤ 2147483647)
    (hlv : ∀ m, 1 ≤ m → m ≤ s 2 → T.2 4 m = zLv s m) (hN : ∀ w, 0 ≤ w → w < zWords s → T.2 1 w = zNr s r (zDg s w) (s 2)) :
    zOk (fX3_addBounds T ch) (fun t => zEx [] [1, 2, 3] T t ∧ (∀ m b, 1 ≤ m → m ≤ s 2 → 0 ≤ b → b < zPw (s 1) m → t.2 2 (zLv s m + b) = T.2 2 (zLv s m + b) + zNr s r (zDb s m b) m) ∧ ∀ w, 0 ≤ w → w < zWords s → t.2 3 w = T.2 3 w + (if zNr s r (zDg s w) (s 2) ≤ ch then 1 else 0)) := by
  unfold fX3_addBounds
  have w0 := hW.1
  have w1 := hW.2.1
  have w2 := hW.2.2.1
  have hw := zWords_r hW
  have hWp : zPw (s 1) (s 2) = zWords s := rfl
  have hlvs := zLv_s (s := s) (m := s 2) (by omega)
  have hlv0 := zLv_0 hW (m := s 2) (by omega)
  have hNr : ∀ u m, 0 ≤ m → m ≤ s 2 → 0 ≤ zNr s r u m ∧ zNr s r u m ≤ 6 := fun u m a b => by
    have := zNr_r (s := s) (r := r) (u := u) a
    omega
  refine zok_F (mk := fun a i => (i, a)) (zWords s) (fun i U => zEx [] [2, 3] T U ∧ (∀ m b, 1 ≤ m → m ≤ s 2 → 0 ≤ b → b < zPw (s 1) m → U.2 2 (zLv s m + b) = if m = s 2 ∧ b < i then T.2 2 (zLv s m + b) + zNr s r (zDb s m b) m else T.2 2 (zLv s m + b)) ∧ ∀ w, 0 ≤ w → w < zWords s → U.2 3 w = if w < i then T.2 3 w + (if zNr s r (zDg s w) (s 2) ≤ ch then 1 else 0) else T.2 3 w) rfl (by omega) ⟨zEx_0, fun m b _ _ _ _ => by rw [if_neg (by omega)], fun w _ _ => by rw [if_neg (by omega)]⟩ (fun i U hi hi2 hI => ?_) (fun i U hi hi2 hi3 hi4 hI => ?_)
  · obtain ⟨hE, hB, hC⟩ := hI
    dsimp only
    have hnear : U.2 1 i = zNr s r (zDg s i) (s 2) := by rw [hE.2 1 (by decide)]; exact hN i hi hi2
    have e4 : U.2 4 (s 2) = zLv s (s 2) := by rw [hE.2 4 (by decide)]; exact hlv _ (by omega) (Int.le_refl _)
    have nr := hNr (zDg s i) (s 2) (by omega) (Int.le_refl _)
    rw [hE.1 7 (by decide), hE.1 6 (by decide), hE.1 100 (by decide), hE.1 101 (by decide), hE.1 102 (by decide), hT7, hT6, e4, hnear]
    have hnb : ∀ m b, 1 ≤ m → m ≤ s 2 → 0 ≤ b → b < zPw (s 1) m → zup (U.2 2) (zLv s (s 2) + i) (U.2 2 (zLv s (s 2) + i) + zNr s r (zDg s i) (s 2)) (zLv s m + b) = if m = s 2 ∧ b < i + 1 then T.2 2 (zLv s m + b) + zNr s r (zDb s m b) m else T.2 2 (zLv s m + b) := fun m b q1 q2 q3 q4 => by
      by_cases e : zLv s m + b = zLv s (s 2) + i
      · obtain ⟨e1, e2⟩ := zLv_inj hW q1 (by omega) ⟨q3, q4⟩ ⟨hi, by omega⟩ e
        subst e1
        subst e2
        rw [zup_s, hB _ b (by omega) (by omega) q3 q4, if_neg (by omega), if_pos ⟨rfl, by omega⟩]
        rfl
      · rw [zup_n e, hB m b q1 q2 q3 q4]
        by_cases c : m = s 2 ∧ b < i
        · rw [if_pos c, if_pos ⟨c.1, by omega⟩]
        · rw [if_neg c, if_neg (fun z => c ⟨z.1, by
            have := z.2
            by_cases eb : b = i
            · exact absurd (by rw [z.1, eb]) e
            · omega⟩)]
    (repeat (first | (with_reducible refine zok_g ?_ ?_; focus omega) | with_reducible refine zok_j ?_ | (with_reducible refine zok_t ?_ ?_; focus omega) | (with_reducible refine zok_f ?_ ?_; focus omega)))
    refine zok_i (fun c => zok_sl ⟨_, rfl, zEx_a hE (by decide), ?_, fun w q0 q1 => ?_⟩) (fun c => ?_)
    · rw [zPa_s]; exact hnb
    · rw [zPa_n (by decide), hC w q0 q1]
      by_cases e : w = i
      · subst e
        rw [if_neg (by omega), if_pos (by omega), if_neg (by omega), Int.add_zero]
      · by_cases l : w < i
        · have l2 : w < i + 1 := by omega
          rw [if_pos l, if_pos l2]
        · have l2 : ¬ w < i + 1 := by omega
          rw [if_neg l, if_neg l2]
    · (repeat (first | (with_reducible refine zok_g ?_ ?_; focus omega) | with_reducible refine zok_j ?_ | (with_reducible refine zok_t ?_ ?_; focus omega) | (with_reducible refine zok_f ?_ ?_; focus omega)))
      refine zok_sl ⟨_, rfl, zEx_a (zEx_a hE (by decide)) (by decide), ?_, fun w q0 q1 => ?_⟩
      · rw [zPa_n (by decide), zPa_s]; exact hnb
      · rw [zPa_s]
        by_cases e : w = i
        · subst e
          rw [zup_s, hC w q0 q1, if_neg (by omega), if_pos (by omega), if_pos (by omega)]
        · rw [zup_n e, zPa_n (by decide), hC w q0 q1]
          by_cases l : w < i
          · have l2 : w < i + 1 := by omega
            rw [if_pos l, if_pos l2]
          · have l2 : ¬ w < i + 1 := by omega
            rw [if_neg l, if_neg l2]
  · obtain ⟨hE, hB, hC⟩ := hI
    have ei := hi3 (by omega)
    subst ei
    dsimp only
    rw [hE.1 7 (by decide), hT7]
    (repeat (first | (with_reducible refine zok_g ?_ ?_; focus omega) | with_reducible refine zok_j ?_ | (with_reducible refine zok_t ?_ ?_; focus omega) | (with_reducible refine zok_f ?_ ?_; focus omega)))
    refine zok_sr ?_
    dsimp only
    rw [hE.1 7 (by decide), hE.1 6 (by decide), hT7, hT6]
    have hE' : zEx [] [1, 2, 3] T U := zEx_w hE (fun _ h => h) (by decide)
    refine zok_L (I := fun z => (0 ≤ z.2.1 ∧ z.2.1 ≤ s 2 - 1) ∧ z.1 = zPw (s 1) (z.2.1 + 1) ∧ zEx [] [1, 2, 3] T z.2.2 ∧ (∀ b, 0 ≤ b → b < zPw (s 1) (z.2.1 + 1) → z.2.2.2 1 b = zNr s r (zDb s (z.2.1 + 1) b) (z.2.1 + 1)) ∧ (∀ m b, 1 ≤ m → m ≤ s 2 → 0 ≤ b → b < zPw (s 1) m → z.2.2.2 2 (zLv s m + b) = if z.2.1 < m then T.2 2 (zLv s m + b) + zNr s r (zDb s m b) m else T.2 2 (zLv s m + b)) ∧ ∀ w, 0 ≤ w → w < zWords s → z.2.2.2 3 w = T.2 3 w + (if zNr s r (zDg s w) (s 2) ≤ ch then 1 else 0)) (μ := fun z => z.2.1.toNat) ?_ ?_ ?_
    · dsimp only
      refine ⟨⟨by omega, by omega⟩, by rw [show s 2 - 1 + 1 = s 2 by omega]; rfl, hE', fun b q0 q1 => ?_, fun m b q1 q2 q3 q4 => ?_, fun w q0 q1 => ?_⟩
      · rw [show s 2 - 1 + 1 = s 2 by omega] at q1 ⊢
        rw [hE.2 1 (by decide)]
        exact hN b q0 q1
      · rw [hB m b q1 q2 q3 q4]
        by_cases c : m = s 2
        · subst c
          rw [if_pos ⟨rfl, q4⟩, if_pos (by omega)]
        · rw [if_neg (fun z => c z.1), if_neg (by omega)]
      · rw [hC w q0 q1, if_pos q1]
    · show (s 2 - 1).toNat < 100000
      omega
    · rintro ⟨bg, m, Y⟩ ⟨hm, hbg, hE2, hnear, hB2, hC2⟩
      dsimp only at hm hbg hE2 hnear hB2 hC2 ⊢
      by_cases c : m < 1
      · (repeat (first | (with_reducible refine zok_g ?_ ?_; focus omega) | with_reducible refine zok_j ?_ | (with_reducible refine zok_t ?_ ?_; focus omega) | (with_reducible refine zok_f ?_ ?_; focus omega)))
        refine zok_sr (zok_s ⟨hE2, fun m' b q1 q2 q3 q4 => ?_, hC2⟩)
        rw [hB2 m' b q1 q2 q3 q4, if_pos (by omega)]
      · have e5 : Y.1 5 = s 1 := (hE2.1 5 (by decide)).trans hT5
        have hmx : zMax 2 (s 1) = s 1 := by unfold zMax; split <;> omega
        have hpm := zPw_pos (b := s 1) (by omega) m
        have hps := zPw_s (b := s 1) (k := m) (by omega)
        have hpl : zPw (s 1) (m + 1) ≤ zWords s := zPw_le (by omega) (by omega) (by omega)
        have hdiv : bg / s 1 = zPw (s 1) m := by rw [hbg, hps]; exact Int.mul_ediv_cancel _ (by omega)
        have hpl2 : zPw (s 1) m ≤ zWords s := zPw_le (by omega) (by omega) (by omega)
        rw [e5, hmx]
        have hbg0 : 0 ≤ bg := by rw [hbg]; have := zPw_pos (b := s 1) (by omega) (m + 1); omega
        have hbg1 : bg ≤ 4096 := by omega
        (repeat (first | (with_reducible refine zok_g ?_ ?_; focus omega) | with_reducible refine zok_j ?_ | (with_reducible refine zok_t ?_ ?_; focus omega) | (with_reducible refine zok_f ?_ ?_; focus omega)))
        rw [hdiv]
        refine zok_F (mk := fun a i => (i, a)) (zPw (s 1) m) (fun b Y => zEx [] [1, 2, 3] T Y ∧ (∀ y, 0 ≤ y → y < b → Y.2 1 y = zNr s r (zDb s m y) m) ∧ (∀ y, b ≤ y → y < zPw (s 1) (m + 1) → Y.2 1 y = zNr s r (zDb s (m + 1) y) (m + 1)) ∧ (∀ m' b', 1 ≤ m' → m' ≤ s 2 → 0 ≤ b' → b' < zPw (s 1) m' → Y.2 2 (zLv s m' + b') = if m < m' ∨ (m' = m ∧ b' < b) then T.2 2 (zLv s m' + b') + zNr s r (zDb s m' b') m' else T.2 2 (zLv s m' + b')) ∧ ∀ w, 0 ≤ w → w < zWords s → Y.2 3 w = T.2 3 w + (if zNr s r (zDg s w) (s 2) ≤ ch then 1 else 0)) rfl (by omega) ⟨hE2, fun y _ _ => by omega, fun y y0 y1 => hnear y y0 y1, fun m' b' q1 q2 q3 q4 => ?_, hC2⟩ (fun b Y hb hb2 hY => ?_) (fun b Y hb hb2 hb3 hb4 hY => ?_)
        · rw [hB2 m' b' q1 q2 q3 q4]
          by_cases l : m < m'
          · rw [if_pos l, if_pos (Or.inl l)]
          · rw [if_neg l, if_neg (by omega)]
        · obtain ⟨hE3, hlo, hhi, hB3, hC3⟩ := hY
          have e5 : Y.1 5 = s 1 := (hE3.1 5 (by decide)).trans hT5
          have e4 : Y.2 4 m = zLv s m := by rw [hE3.2 4 (by decide)]; exact hlv _ (by omega) (by omega)
          have e100 : Y.1 100 = T.1 100 := hE3.1 100 (by decide)
          have hbL : b ≤ b * s 1 := by
            have := Int.mul_le_mul_of_nonneg_left (show 1 ≤ s 1 by omega) hb
            omega
          have hbL2 : ∀ x, x < s 1 → b * s 1 + x < zPw (s 1) (m + 1) := fun x hx => by
            have := Int.mul_le_mul_of_nonneg_right (show b + 1 ≤ zPw (s 1) m by omega) (show 0 ≤ s 1 by omega)
            rw [Int.add_mul, Int.one_mul] at this
            omega
          have hf : ∀ x, 0 ≤ x → x < s 1 → Y.2 1 (b * s 1 + x * 1) = zNr s r (zDb s (m + 1) (b * s 1 + x)) (m + 1) := fun x x0 x1 => by
            rw [Int.mul_one]
            exact hhi _ (by omega) (hbL2 x x1)
          dsimp only
          rw [e5]
          (repeat (first | (with_reducible refine zok_g ?_ ?_; focus omega) | with_reducible refine zok_j ?_ | (with_reducible refine zok_t ?_ ?_; focus omega) | (with_reducible refine zok_f ?_ ?_; focus omega)))
          refine zok_e (c_nearestOf (by rw [e5]; omega) (by rw [e100]; omega) (fun x x0 x1 => ?_)) ?_
          · rw [e5] at x1
            have := hNr (zDb s (m + 1) (b * s 1 + x)) (m + 1) (by omega) (by omega)
            have := hbL2 x x1
            rw [hf x x0 x1, e100]
            omega
          have hup := zNr_up hW h0 h1 (m := m) (by omega) (by omega) hb hf
          obtain ⟨_, x1, hx1, hxe⟩ := zMx_p (old := Y.2 1) (L := s 1) (step := 1) (b := b * s 1) (by omega)
          have hr1 := hNr (zDb s (m + 1) (b * s 1 + x1)) (m + 1) (by omega) (by omega)
          rw [hf x1 hx1.1 hx1.2] at hxe
          rw [e5, e100, hE3.1 101 (by decide), e4, hup]
          have hlm := zLv_0 hW (m := m) (by omega)
          have hlm2 := zLv_s (s := s) (m := m) (by omega)
          have hlm3 := zLv_le hW (m := m + 1) (m' := s 2 + 1) (by omega) (by omega)
          (repeat (first | (with_reducible refine zok_g ?_ ?_; focus omega) | with_reducible refine zok_j ?_ | (with_reducible refine zok_t ?_ ?_; focus omega) | (with_reducible refine zok_f ?_ ?_; focus omega)))
          refine zok_sl ⟨_, rfl, zEx_a (zEx_a hE3 (by decide)) (by decide), fun y y0 y1 => ?_, fun y y0 y1 => ?_, fun m' b' q1 q2 q3 q4 => ?_, fun w q0 q1 => ?_⟩
          · rw [zPa_n (by decide), zPa_s]
            by_cases e : y = b
            · rw [e, zup_s]
            · rw [zup_n e]; exact hlo y y0 (by omega)
          · rw [zPa_n (by decide), zPa_s, zup_n (by omega)]
            exact hhi y (by omega) y1
          · rw [zPa_s, zPa_n (by decide)]
            by_cases e : zLv s m' + b' = zLv s m + b
            · obtain ⟨e1, e2⟩ := zLv_inj hW q1 (by omega) ⟨q3, q4⟩ ⟨hb, hb2⟩ e
              subst e1
              subst e2
              rw [zup_s, hB3 _ b' q1 q2 q3 q4, if_neg (by omega), if_pos (by omega), zup_s]
            · rw [zup_n e, hB3 m' b' q1 q2 q3 q4]
              by_cases c1 : m < m' ∨ (m' = m ∧ b' < b)
              · rw [if_pos c1, if_pos (by omega)]
              · rw [if_neg c1, if_neg (fun z => c1 (by
                  rcases z with z | ⟨z1, z2⟩
                  · exact Or.inl z
                  · refine Or.inr ⟨z1, ?_⟩
                    by_cases eb : b' = b
                    · exact absurd (by rw [z1, eb]) e
                    · omega))]
          · rw [zPa_n (by decide), zPa_n (by decide)]
            exact hC3 w q0 q1
        · obtain ⟨hE3, hlo, hhi, hB3, hC3⟩ := hY
          have eb := hb3 (by omega)
          subst eb
          dsimp only
          (repeat (first | (with_reducible refine zok_g ?_ ?_; focus omega) | with_reducible refine zok_j ?_ | (with_reducible refine zok_t ?_ ?_; focus omega) | (with_reducible refine zok_f ?_ ?_; focus omega)))
          refine zok_sr (zok_sl ⟨⟨⟨by show 0 ≤ m + -1; omega, by show m + -1 ≤ s 2 - 1; omega⟩, ?_, hE3, fun y y0 y1 => ?_, fun m' b' q1 q2 q3 q4 => ?_, hC3⟩, by show (m + -1).toNat < m.toNat; omega⟩)
          · show zPw (s 1) m = zPw (s 1) (m + -1 + 1)
            rw [show m + -1 + 1 = m by omega]
          · dsimp only at y1 ⊢
            rw [show m + -1 + 1 = m by omega] at y1 ⊢
            exact hlo y y0 y1
          · show Y.2 2 _ = _
            rw [hB3 m' b' q1 q2 q3 q4]
            show _ = if m + -1 < m' then _ else _
            by_cases l : m + -1 < m'
            · rw [if_pos l, if_pos (by by_cases em : m' = m
                                       · right; subst em; exact ⟨rfl, q4⟩
                                       · left; omega)]
            · rw [if_neg l, if_neg (by omega)]
end ZSL2
