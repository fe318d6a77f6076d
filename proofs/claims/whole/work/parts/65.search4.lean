section ZSK
variable {s : Int → Int}
theorem zDf_0 {r i m : Int} {u : Int → Int} (h : ∀ j, 0 ≤ j → j < m → zl s r (i + j) = u j) (hm : 0 ≤ m) : zDf s r i u m = 0 := by
  obtain ⟨n, rfl⟩ : ∃ n : Nat, m = n := ⟨m.toNat, by omega⟩
  exact zDn_all h
theorem zNk1_r {r k w v : Int} (hn : 0 ≤ s 2) (h : zNk1 s r k w v) : 0 ≤ v ∧ v ≤ s 2 := by
  refine ⟨?_, h.1⟩
  rcases h.2.2 with e | ⟨i, _, e⟩
  · omega
  · have := (zDf_r (s := s) (r := r) (i := i) (u := zDb s (s 2) w) (m := s 2) hn).1
    have e' : v = zDf s r i (zDb s (s 2) w) (s 2) := e
    omega
theorem c_fillNear {T V : CV} (hW : zWf s) (hR : zRB V s) {r : Int} (h0 : 0 ≤ r) (h1 : r < s 0) (hT5 : T.1 5 = s 1) (hT6 : T.1 6 = s 2) (hT7 : T.1 7 = zWords s) (h100 : zWords s ≤ T.1 100 ∧ T.1 100 ≤ 2147483647) :
    zOk (fX3_fillNear T V r) (fun t => zEx [] [1] T t ∧ ∀ w, 0 ≤ w → w < zWords s → t.2 1 w = zNr s r (zDg s w) (s 2)) := by
  unfold fX3_fillNear
  have w0 := hW.1
  have w1 := hW.2.1
  have w2 := hW.2.2.1
  have hw := zWords_r hW
  obtain ⟨⟨a1, a2⟩, _, _, _, a5, _⟩ := hW.row h0 h1
  refine zok_F (mk := fun a i => (i, a)) (zWords s) (fun i U => zEx [] [1] T U ∧ ∀ w, 0 ≤ w → w < i → U.2 1 w = s 2) rfl (by omega) ⟨zEx_0, fun w _ _ => by omega⟩ (fun i U hi hi2 hI => ?_) (fun i U hi hi2 hi3 hi4 hI => ?_)
  · dsimp only
    rw [hI.1.1 7 (by decide), hI.1.1 100 (by decide), hI.1.1 6 (by decide), hT7, hT6]
    (repeat (first | (with_reducible refine zok_g ?_ ?_; focus omega) | with_reducible refine zok_j ?_ | (with_reducible refine zok_t ?_ ?_; focus omega) | (with_reducible refine zok_f ?_ ?_; focus omega)))
    refine zok_sl ⟨_, rfl, zEx_a hI.1 (by decide), fun w q0 q1 => ?_⟩
    rw [zPa_s]
    by_cases e : w = i
    · rw [e, zup_s]
    · rw [zup_n e]; exact hI.2 w q0 (by omega)
  · dsimp only
    rw [hI.1.1 7 (by decide), hT7]
    (repeat (first | (with_reducible refine zok_g ?_ ?_; focus omega) | with_reducible refine zok_j ?_ | (with_reducible refine zok_t ?_ ?_; focus omega) | (with_reducible refine zok_f ?_ ?_; focus omega)))
    have ei := hi3 (by omega)
    subst ei
    refine zok_sr ?_
    dsimp only
    refine zok_F (mk := fun a i => (i, a)) (zf s r 0 - s 2 + 1) (fun st U => zEx [] [1] T U ∧ ∀ w, 0 ≤ w → w < zWords s → zMn (s 2) (fun i => (zPlP s r i ∧ ∀ j, 0 ≤ j → j < s 2 - 0 → zl s r (i + j) = zDb s (s 2) w j) ∧ i < st) (fun i => zDf s r i (zDb s (s 2) w) (s 2)) (U.2 1 w)) rfl (by omega) ⟨hI.1, fun w q0 q1 => ?_⟩ (fun st U hst hst2 hJ => ?_) (fun st U hst hst2 hst3 hst4 hJ => ?_)
    · rw [hI.2 w q0 q1]
      exact ⟨Int.le_refl _, fun i hi => by have := hi.1.1.2.1; have := hi.2; omega, Or.inl rfl⟩
    · obtain ⟨hE, hU⟩ := hJ
      refine zok_e (b_lastStart hW hR h0 h1) ?_
      dsimp only
      (repeat (first | (with_reducible refine zok_g ?_ ?_; focus omega) | with_reducible refine zok_j ?_ | (with_reducible refine zok_t ?_ ?_; focus omega) | (with_reducible refine zok_f ?_ ?_; focus omega)))
      refine zok_e (b_isPlace hW hR h0 h1 ⟨by omega, by omega⟩) ?_
      have hskip : ∀ w, 0 ≤ w → w < zWords s → ¬ (zPlP s r st ∧ ∀ j, 0 ≤ j → j < s 2 - 0 → zl s r (st + j) = zDb s (s 2) w j) → zMn (s 2) (fun i => (zPlP s r i ∧ ∀ j, 0 ≤ j → j < s 2 - 0 → zl s r (i + j) = zDb s (s 2) w j) ∧ i < st + 1) (fun i => zDf s r i (zDb s (s 2) w) (s 2)) (U.2 1 w) := fun w q0 q1 hn => by
        refine zMn_e (hU w q0 q1) (fun i => ⟨fun h => ⟨h.1, by have := h.2; omega⟩, fun h => ⟨h.1, ?_⟩⟩) (fun _ _ => rfl)
        have h2 := h.2
        by_cases e : i = st
        · rw [e] at h; exact absurd h.1 hn
        · omega
      refine zok_i (fun hp => ?_) (fun hp => zok_sl ⟨_, rfl, hE, fun w q0 q1 => hskip w q0 q1 (fun z => hp (zPl_t.mpr z.1))⟩)
      have hP := zPl_t.mp hp
      have hlet : ∀ j, 0 ≤ j → j < s 2 → 0 ≤ zl s r (st + j) ∧ zl s r (st + j) < s 1 := fun j j0 j1 => a5 (st + j) (by omega) (by omega)
      refine zok_b (b_codeAt hW hR h0 h1 hst (by omega)) (fun cd hcd => ?_)
      refine zok_e (b_wordOf hW hR hcd) ?_
      have hpn := zNb_r hW (u := fun j => zl s r (st + j)) (s 2).toNat (fun j _ j1 => hlet (j : Int) (by omega) (by omega))
      rw [show (((s 2).toNat : Nat) : Int) = s 2 by omega] at hpn
      have hpw : zPw (s 1) (s 2) = zWords s := rfl
      rw [hE.1 100 (by decide)]
      (repeat (first | (with_reducible refine zok_g ?_ ?_; focus omega) | with_reducible refine zok_j ?_ | (with_reducible refine zok_t ?_ ?_; focus omega) | (with_reducible refine zok_f ?_ ?_; focus omega)))
      refine zok_sl ⟨_, rfl, zEx_a hE (by decide), fun w q0 q1 => ?_⟩
      rw [zPa_s]
      by_cases e : w = zNb s (fun j => zl s r (st + j)) (s 2)
      · rw [← e, zup_s]
        have hag : ∀ j, 0 ≤ j → j < s 2 - 0 → zl s r (st + j) = zDb s (s 2) w j := fun j j0 j1 => by
          rw [e]
          exact (zDg_nb hW hlet j0 (by omega)).symm
        refine ⟨by omega, fun i _ => (zDf_r (by omega)).1, Or.inr ⟨st, ⟨⟨hP, hag⟩, by omega⟩, (zDf_0 (fun j j0 j1 => hag j j0 (by omega)) (by omega)).symm⟩⟩
      · rw [zup_n e]
        refine hskip w q0 q1 (fun z => e ?_)
        rw [← zNb_w hW q0 q1]
        exact zNb_ext (fun j j0 j1 => (z.2 j j0 (by omega)).symm)
    · obtain ⟨hE, hU⟩ := hJ
      refine zok_e (b_lastStart hW hR h0 h1) ?_
      dsimp only
      (repeat (first | (with_reducible refine zok_g ?_ ?_; focus omega) | with_reducible refine zok_j ?_ | (with_reducible refine zok_t ?_ ?_; focus omega) | (with_reducible refine zok_f ?_ ?_; focus omega)))
      refine zok_sr ?_
      dsimp only
      have hU0 : ∀ w, 0 ≤ w → w < zWords s → zNk1 s r 0 w (U.2 1 w) := fun w q0 q1 => zMn_e (hU w q0 q1) (fun i => ⟨fun h => h.1, fun h => ⟨h, by have := h.1.2.1; have := h.1.2.2.1; omega⟩⟩) (fun _ _ => rfl)
      refine zok_F (mk := fun (a : Int × CV) i => (a.1, i, a.2)) (a0 := (1, U)) (s 2) (fun i a => a.1 = zPw (s 1) i ∧ zEx [] [1] T a.2 ∧ ∀ w, 0 ≤ w → w < zWords s → zNk1 s r i w (a.2.2 1 w)) rfl (by omega) ⟨zPw_0.symm, hE, hU0⟩ (fun k a hk hk2 hK => ?_) (fun k a hk hk2 hk3 hk4 hK => ?_)
      · obtain ⟨st', Y⟩ := a
        obtain ⟨hs', hE', hY⟩ := hK
        dsimp only at hs' hE' hY ⊢
        have e5 : Y.1 5 = s 1 := (hE'.1 5 (by decide)).trans hT5
        have e6 : Y.1 6 = s 2 := (hE'.1 6 (by decide)).trans hT6
        have e7 : Y.1 7 = zWords s := (hE'.1 7 (by decide)).trans hT7
        have e100 : Y.1 100 = T.1 100 := hE'.1 100 (by decide)
        rw [e6]
        (repeat (first | (with_reducible refine zok_g ?_ ?_; focus omega) | with_reducible refine zok_j ?_ | (with_reducible refine zok_t ?_ ?_; focus omega) | (with_reducible refine zok_f ?_ ?_; focus omega)))
        have pk := zPw_pos (b := s 1) (by omega) k
        have pA := zPw_pos (b := s 1) (by omega) (s 2 - 1 - k)
        have hWA : zWords s = zPw (s 1) (s 2 - 1 - k) * s 1 * zPw (s 1) k := by
          unfold zWords
          rw [← zPw_s (by omega), ← zPw_add (by omega) (by omega), show s 2 - 1 - k + 1 + k = s 2 by omega]
        subst hs'
        refine zok_b (c_changeOneLetter (A := zPw (s 1) (s 2 - 1 - k)) e5 e7 w1 pk pA hWA (by omega) (by rw [e100]; exact h100) (fun w q0 q1 => ?_)) (fun t ht => ?_)
        · have := zNk1_r (by omega) (hY w q0 q1)
          omega
        have e5t : t.1 5 = s 1 := (ht.1.1 5 (by decide)).trans e5
        refine zok_sl ⟨(zPw (s 1) k * t.1 5, t), rfl, ?_, zEx_t hE' ht.1, fun w q0 q1 => ?_⟩
        · show zPw (s 1) k * t.1 5 = _
          rw [e5t, zPw_s hk]
        · obtain ⟨a, x, c, ew, ha, hx, hc⟩ := zIn3 hW hk q0
          have haA : a < zPw (s 1) (s 2 - 1 - k) := by
            by_cases h : a < zPw (s 1) (s 2 - 1 - k)
            · exact h
            · have g1 : zPw (s 1) (s 2 - 1 - k) * s 1 ≤ a * s 1 := Int.mul_le_mul_of_nonneg_right (by omega) (by omega)
              have g2 : zPw (s 1) (s 2 - 1 - k) * s 1 * zPw (s 1) k ≤ (a * s 1 + x) * zPw (s 1) k := Int.mul_le_mul_of_nonneg_right (by omega) (by omega)
              omega
          show zNk1 s r (k + 1) w (t.2 1 w)
          rw [ew, ht.2 a x c ⟨ha, haA⟩ hx hc]
          exact zNk1_s hW h0 h1 hk hk2 hY ha hx hc (fun x' hx' => by rw [hWA]; exact (zW3_lt ⟨ha, haA⟩ hx' hc).2)
      · obtain ⟨st', Y⟩ := a
        obtain ⟨hs', hE', hY⟩ := hK
        dsimp only at hs' hE' hY ⊢
        have e6 : Y.1 6 = s 2 := (hE'.1 6 (by decide)).trans hT6
        rw [e6]
        (repeat (first | (with_reducible refine zok_g ?_ ?_; focus omega) | with_reducible refine zok_j ?_ | (with_reducible refine zok_t ?_ ?_; focus omega) | (with_reducible refine zok_f ?_ ?_; focus omega)))
        refine zok_sr (zok_s ⟨hE', fun w q0 q1 => ?_⟩)
        have ek := hk3 (by omega)
        subst ek
        refine zMn_u (hY w q0 q1) (zMn_e (zNr_min hW h0 h1 (by omega) (u := zDg s w)) (fun i => ⟨fun h => ⟨h, fun j j0 j1 => by omega⟩, fun h => h.1⟩) (fun _ _ => rfl))
/-- a beginning is as near as the nearest that goes on with it -/
theorem zNr_up (hW : zWf s) {r m b : Int} (h0 : 0 ≤ r) (h1 : r < s 0) (hm : 1 ≤ m) (hm2 : m < s 2) (hb : 0 ≤ b) {f : Int → Int} (hf : ∀ x, 0 ≤ x → x < s 1 → f (b * s 1 + x * 1) = zNr s r (zDb s (m + 1) (b * s 1 + x)) (m + 1)) : zMin m (zMx f (s 1) 1 (b * s 1)) = zNr s r (zDb s m b) m := by
  have w1 := hW.2.1
  have w2 := hW.2.2.1
  obtain ⟨⟨a1, a2⟩, _, _, _, a5, _⟩ := hW.row h0 h1
  obtain ⟨hm1, x1, hx1, hmx⟩ := zMx_p (old := f) (L := s 1) (step := 1) (b := b * s 1) (by omega)
  have hmin : ∀ p q : Int, zMin p q ≤ p ∧ zMin p q ≤ q ∧ (zMin p q = q ∨ zMin p q = p) := fun p q => by
    unfold zMin
    split <;> omega
  have hv := hmin m (zMx f (s 1) 1 (b * s 1))
  have hD : ∀ i x, (0 ≤ x ∧ x < s 1) → zDf s r i (zDb s (m + 1) (b * s 1 + x)) (m + 1) = zDf s r i (zDb s m b) m + (if zl s r (i + m) = x then 0 else 1) := fun i x hx => by
    have e1 : zDf s r i (zDb s (m + 1) (b * s 1 + x)) (m + 1) = zDn (fun j => zl s r (i + j)) (zDb s (m + 1) (b * s 1 + x)) m + (if zl s r (i + m) = zDb s (m + 1) (b * s 1 + x) m then 0 else 1) := zDn_s (by omega)
    rw [e1, zDb_on hW hb hx (by omega) (Int.le_refl m), if_pos rfl]
    have e2 : zDn (fun j => zl s r (i + j)) (zDb s (m + 1) (b * s 1 + x)) m = zDf s r i (zDb s m b) m := zDn_ext (fun j j0 j1 => by rw [zDb_on hW hb hx j0 (by omega), if_neg (by omega)])
    rw [e2]
  have hN : ∀ x, (0 ≤ x ∧ x < s 1) → zMn (m + 1) (fun i => zPlP s r i) (fun i => zDf s r i (zDb s (m + 1) (b * s 1 + x)) (m + 1)) (f (b * s 1 + x * 1)) := fun x hx => by
    rw [hf x hx.1 hx.2]
    exact zNr_min hW h0 h1 (by omega)
  generalize zMin m (zMx f (s 1) 1 (b * s 1)) = v at hv
  generalize zMx f (s 1) 1 (b * s 1) = mx at hv hm1 hmx
  have hle : ∀ i, zPlP s r i → v ≤ zDf s r i (zDb s m b) m := fun i hi => by
    have hl := a5 (i + m) (by have := hi.2.1; omega) (by have := hi.2.2.1; omega)
    have g1 := hm1 _ hl.1 hl.2
    have g2 := (hN _ hl).2.1 i hi
    have g3 := hD i _ hl
    rw [if_pos rfl] at g3
    have g2' : f (b * s 1 + zl s r (i + m) * 1) ≤ zDf s r i (zDb s (m + 1) (b * s 1 + zl s r (i + m))) (m + 1) := g2
    omega
  refine zMn_u (⟨by omega, hle, ?_⟩ : zMn m (fun i => zPlP s r i) (fun i => zDf s r i (zDb s m b) m) v) (zNr_min hW h0 h1 (by omega))
  rcases hv.2.2 with e | e
  · rcases (hN x1 hx1).2.2 with e2 | ⟨i, hi, e2⟩
    · left; omega
    · right
      refine ⟨i, hi, ?_⟩
      have g := hle i hi
      have g3 := hD i x1 hx1
      have e2' : f (b * s 1 + x1 * 1) = zDf s r i (zDb s (m + 1) (b * s 1 + x1)) (m + 1) := e2
      show v = zDf s r i (zDb s m b) m
      split at g3 <;> omega
  · exact Or.inl e
end ZSK
