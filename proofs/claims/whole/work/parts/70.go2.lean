section ZGP
variable {s : Int → Int}
/-- how many of the first n words have score x -/
noncomputable def zScc (s : Int → Int) (x : Int) (n : Nat) : Int := zFd (fun w a => if zFb s (s 2) w = x then a + 1 else a) n 0
theorem zScc_s {x w : Int} (h : 0 ≤ w) : zScc s x (w + 1).toNat = if zFb s (s 2) w = x then zScc s x w.toNat + 1 else zScc s x w.toNat := zFd_s h
/-- how many rows have word w -/
noncomputable def zHc (s : Int → Int) (w : Int) : Int := zFd (fun r a => if zf s r 2 = 1 then a else a + (if zNr s r (zDg s w) (s 2) ≤ s 3 then 1 else 0)) (s 0).toNat 0
def zSoT (T : CV) (s : Int → Int) : Prop := zSB T s ∧ (∀ w, 0 ≤ w → w < zWords s → T.2 3 w = zHc s w) ∧ (∀ x, 0 ≤ x → x < 61 → T.2 5 x = zScc s x (zWords s).toNat) ∧ zSq T = zSr s
theorem c_scoreOf (hW : zWf s) {T : CV} (h : zSB T s) {w : Int} (h0 : 0 ≤ w) (h1 : w < zWords s) : fX3_scoreOf T w = some (zFb s (s 2) w) := by
  apply zok_q
  unfold fX3_scoreOf
  have w2 := hW.2.2.1
  have hpw : zPw (s 1) (s 2) = zWords s := rfl
  obtain ⟨e, g1, g2⟩ := h.at hW (m := s 2) (b := w) (by omega) (Int.le_refl _) h0 (by omega)
  have h101 := h.2.2.2.2.1
  rw [h.2.1]
  (repeat (first | (with_reducible refine zok_g ?_ ?_; focus omega) | with_reducible refine zok_j ?_ | (with_reducible refine zok_t ?_ ?_; focus omega) | (with_reducible refine zok_f ?_ ?_; focus omega)))
  exact zok_s e
theorem c_countScores (hW : zWf s) {T : CV} (h : zSB T s) : zOk (fX3_countScores T) (fun t => zEx [] [5] T t ∧ ∀ x, 0 ≤ x → x < 61 → t.2 5 x = zScc s x (zWords s).toNat) := by
  unfold fX3_countScores
  have w2 := hW.2.2.1
  have hw := zWords_r hW
  refine zok_F (mk := fun a i => (i, a)) 61 (fun i U => zEx [] [5] T U ∧ ∀ x, 0 ≤ x → x < i → U.2 5 x = 0) rfl (by omega) ⟨zEx_0, fun x _ _ => by omega⟩ (fun i U hi hi2 hI => ?_) (fun i U hi hi2 hi3 hi4 hI => ?_)
  · dsimp only
    (repeat (first | (with_reducible refine zok_g ?_ ?_; focus omega) | with_reducible refine zok_j ?_ | (with_reducible refine zok_t ?_ ?_; focus omega) | (with_reducible refine zok_f ?_ ?_; focus omega)))
    refine zok_sl ⟨_, rfl, zEx_a hI.1 (by decide), fun x x0 x1 => ?_⟩
    rw [zPa_s]
    by_cases e : x = i
    · rw [e, zup_s]
    · rw [zup_n e]; exact hI.2 x x0 (by omega)
  · have ei := hi3 (by omega)
    subst ei
    dsimp only
    (repeat (first | (with_reducible refine zok_g ?_ ?_; focus omega) | with_reducible refine zok_j ?_ | (with_reducible refine zok_t ?_ ?_; focus omega) | (with_reducible refine zok_f ?_ ?_; focus omega)))
    refine zok_sr ?_
    dsimp only
    refine zok_F (mk := fun a i => (i, a)) (zWords s) (fun w U => zEx [] [5] T U ∧ ∀ x, 0 ≤ x → x < 61 → U.2 5 x = zScc s x w.toNat) rfl (by omega) ⟨hI.1, hI.2⟩ (fun w U hw0 hw1 hJ => ?_) (fun w U hw0 hw1 hw2 hw3 hJ => ?_)
    · obtain ⟨hE, hU⟩ := hJ
      have hB : zSB U s := by
        unfold zSB at h ⊢
        rw [hE.1 5 (by decide), hE.1 6 (by decide), hE.1 7 (by decide), hE.1 100 (by decide), hE.1 101 (by decide), hE.1 102 (by decide), hE.2 4 (by decide), hE.2 2 (by decide)]
        exact h
      dsimp only
      rw [hB.2.2.1]
      (repeat (first | (with_reducible refine zok_g ?_ ?_; focus omega) | with_reducible refine zok_j ?_ | (with_reducible refine zok_t ?_ ?_; focus omega) | (with_reducible refine zok_f ?_ ?_; focus omega)))
      refine zok_e (c_scoreOf hW hB hw0 hw1) ?_
      have hF := zFb_r hW (m := s 2) (b := w) (by omega) (Int.le_refl _)
      (repeat (first | (with_reducible refine zok_g ?_ ?_; focus omega) | with_reducible refine zok_j ?_ | (with_reducible refine zok_t ?_ ?_; focus omega) | (with_reducible refine zok_f ?_ ?_; focus omega)))
      refine zok_sl ⟨_, rfl, zEx_a hE (by decide), fun x x0 x1 => ?_⟩
      rw [zPa_s, zScc_s hw0]
      by_cases e : x = zFb s (s 2) w
      · rw [if_pos e.symm, e, zup_s, hU _ (by omega) (by omega)]
      · rw [if_neg (fun z => e z.symm), zup_n e, hU x x0 x1]
    · obtain ⟨hE, hU⟩ := hJ
      have ew := hw2 (by omega)
      subst ew
      dsimp only
      rw [hE.1 7 (by decide), h.2.2.1]
      (repeat (first | (with_reducible refine zok_g ?_ ?_; focus omega) | with_reducible refine zok_j ?_ | (with_reducible refine zok_t ?_ ?_; focus omega) | (with_reducible refine zok_f ?_ ?_; focus omega)))
      exact zok_sr (zok_s ⟨hE, hU⟩)
theorem zSr_r (hW : zWf s) : zQr (zSr s) := by
  have hL := hW.2.1
  have w2 := hW.2.2.1
  have e1 : zPw (s 1) 1 = s 1 := by
    have := zPw_s (b := s 1) (k := 0) (by omega)
    rw [zPw_0, Int.one_mul] at this
    exact this
  exact zFd_I (f := fun x q => zAk (zFb s) (s 2) (s 1) 6 1 x q) (fun _ q => zQr q) ⟨⟨by decide, by decide⟩, ⟨by decide, by decide⟩⟩ (s 1).toNat (fun x q hx hx2 hq => zAk_r hW 6 _ _ _ (by omega) (by omega) hx (by omega) hq)
theorem c_go {T V : CV} (hW : zWf s) (hR : zRB V s) (hC : zCap T) (hD : T.1 8 = 0 ∨ (T.1 8 = 1 ∧ zSoT T s)) : zOk (fX3_go T V) (fun t => t.1 8 = 1 ∧ zSoT t s ∧ zCap t ∧ t.1 100 = zMax (T.1 100) (zWords s) ∧ t.1 101 = zMax (T.1 101) (zLv s (s 2 + 1))) := by
  unfold fX3_go
  have w0 := hW.1
  have w1 := hW.2.1
  have w2 := hW.2.2.1
  have w3 := hW.2.2.2.1
  have hw := zWords_r hW
  have e1 : zPw (s 1) 1 = s 1 := by
    have := zPw_s (b := s 1) (k := 0) (by omega)
    rw [zPw_0, Int.one_mul] at this
    exact this
  rcases hD with hD | ⟨hD, hSO⟩
  · rw [hD]
    (repeat (first | (with_reducible refine zok_g ?_ ?_; focus omega) | with_reducible refine zok_j ?_ | (with_reducible refine zok_t ?_ ?_; focus omega) | (with_reducible refine zok_f ?_ ?_; focus omega)))
    refine zok_b (c_makeRoom hW hR.1 hR.2.1 hC) (fun t ht => ?_)
    obtain ⟨⟨t5, t6, t7⟩, tl, tb, th, tc, tm1, tm2⟩ := ht
    rw [hR.2.2.2.1, hR.2.2.1]
    have hsz : (zWords s ≤ t.1 100 ∧ t.1 100 ≤ 2147483647) ∧ (zLv s (s 2 + 1) ≤ t.1 101 ∧ t.1 101 ≤ 2147483647) ∧ (zWords s ≤ t.1 102 ∧ t.1 102 ≤ 2147483647) := by
      have h1 := tc.1
      have h2 := tc.2.1
      have h3 := tc.2.2
      have : zWords s ≤ t.1 100 := by rw [tm1]; unfold zMax; split <;> omega
      have : zLv s (s 2 + 1) ≤ t.1 101 := by rw [tm2]; unfold zMax; split <;> omega
      omega
    refine zok_F (mk := fun a i => (i, a)) (s 0) (fun r U => zEx [] [1, 2, 3] t U ∧ (∀ m b, 1 ≤ m → m ≤ s 2 → 0 ≤ b → b < zPw (s 1) m → U.2 2 (zLv s m + b) = zFd (fun r a => if zf s r 2 = 1 then a else a + zNr s r (zDb s m b) m) r.toNat 0) ∧ ∀ w, 0 ≤ w → w < zWords s → U.2 3 w = zFd (fun r a => if zf s r 2 = 1 then a else a + (if zNr s r (zDg s w) (s 2) ≤ s 3 then 1 else 0)) r.toNat 0) rfl (by omega) ⟨zEx_0, fun m b m0 m1 b0 b1 => ?_, th⟩ (fun r U hr hr2 hU => ?_) (fun r U hr hr2 hr3 hr4 hU => ?_)
    · have g0 := zLv_0 hW m0
      have g1 := zLv_s (s := s) m0
      have g2 := zLv_le hW (m := m + 1) (m' := s 2 + 1) (by omega) (by omega)
      exact tb _ (by omega) (by omega)
    · obtain ⟨hE, hB, hH⟩ := hU
      dsimp only
      (repeat (first | (with_reducible refine zok_g ?_ ?_; focus omega) | with_reducible refine zok_j ?_ | (with_reducible refine zok_t ?_ ?_; focus omega) | (with_reducible refine zok_f ?_ ?_; focus omega)))
      refine zok_e (b_isOut hW hR hr hr2) ?_
      refine zok_i (fun c => zok_sl ⟨_, rfl, hE, fun m b m0 m1 b0 b1 => ?_, fun w q0 q1 => ?_⟩) (fun c => ?_)
      · rw [zFd_s hr, if_pos (of_decide_eq_true c)]; exact hB m b m0 m1 b0 b1
      · rw [zFd_s hr, if_pos (of_decide_eq_true c)]; exact hH w q0 q1
      · have u5 : U.1 5 = s 1 := (hE.1 5 (by decide)).trans t5
        have u6 : U.1 6 = s 2 := (hE.1 6 (by decide)).trans t6
        have u7 : U.1 7 = zWords s := (hE.1 7 (by decide)).trans t7
        have u100 : U.1 100 = t.1 100 := hE.1 100 (by decide)
        refine zok_b (c_fillNear hW hR hr hr2 u5 u6 u7 (by rw [u100]; exact hsz.1)) (fun a ha => ?_)
        obtain ⟨aE, aN⟩ := ha
        refine zok_b (c_addBounds hW hr hr2 ⟨by omega, by omega⟩ ((aE.1 5 (by decide)).trans u5) ((aE.1 6 (by decide)).trans u6) ((aE.1 7 (by decide)).trans u7) (by rw [aE.1 100 (by decide), hE.1 100 (by decide)]; exact hsz.1) (by rw [aE.1 101 (by decide), hE.1 101 (by decide)]; exact hsz.2.1) (by rw [aE.1 102 (by decide), hE.1 102 (by decide)]; exact hsz.2.2) (fun m m0 m1 => by rw [aE.2 4 (by decide), hE.2 4 (by decide)]; exact tl m m0 m1) aN) (fun y hy => zok_sl ⟨_, rfl, zEx_t hE (zEx_t (zEx_w aE (fun _ h => h) (by decide)) hy.1), fun m b m0 m1 b0 b1 => ?_, fun w q0 q1 => ?_⟩)
        · rw [hy.2.1 m b m0 m1 b0 b1, zFd_s hr, if_neg (fun z => c (decide_eq_true z)), aE.2 2 (by decide), hB m b m0 m1 b0 b1]
        · rw [hy.2.2 w q0 q1, zFd_s hr, if_neg (fun z => c (decide_eq_true z)), aE.2 3 (by decide), hH w q0 q1]
    · obtain ⟨hE, hB, hH⟩ := hU
      have er := hr3 (by omega)
      subst er
      dsimp only
      (repeat (first | (with_reducible refine zok_g ?_ ?_; focus omega) | with_reducible refine zok_j ?_ | (with_reducible refine zok_t ?_ ?_; focus omega) | (with_reducible refine zok_f ?_ ?_; focus omega)))
      refine zok_sr ?_
      dsimp only
      have hSB : zSB U s := ⟨(hE.1 5 (by decide)).trans t5, (hE.1 6 (by decide)).trans t6, (hE.1 7 (by decide)).trans t7, by rw [hE.1 100 (by decide)]; exact hsz.1, by rw [hE.1 101 (by decide)]; exact hsz.2.1, by rw [hE.1 102 (by decide)]; exact hsz.2.2, fun m m0 m1 => by rw [hE.2 4 (by decide)]; exact tl m m0 m1, hB⟩
      refine zok_b (c_countScores hW hSB) (fun y hy => ?_)
      obtain ⟨yE, yC⟩ := hy
      have hE2 : zEx [] [1, 2, 3, 5] t y := zEx_t (zEx_w hE (fun _ h => h) (by decide)) (zEx_w yE (fun _ h => h) (by decide))
      have hSB2 : zSB (zPu (zPu (zPu (zPu y 9 (-1)) 10 0) 11 0) 12 0) s := by
        have h5 : zEx [9, 10, 11, 12] [5] U (zPu (zPu (zPu (zPu y 9 (-1)) 10 0) 11 0) 12 0) := zEx_u (zEx_u (zEx_u (zEx_u (zEx_w yE (by decide) (fun _ h => h)) (by decide)) (by decide)) (by decide)) (by decide)
        unfold zSB at hSB ⊢
        rw [h5.1 5 (by decide), h5.1 6 (by decide), h5.1 7 (by decide), h5.1 100 (by decide), h5.1 101 (by decide), h5.1 102 (by decide), h5.2 4 (by decide), h5.2 2 (by decide)]
        exact hSB
      refine zok_F (mk := fun a i => (i, a)) (s 1) (fun x Z => zEx [9, 10, 11, 12] [] (zPu (zPu (zPu (zPu y 9 (-1)) 10 0) 11 0) 12 0) Z ∧ zQr (zSq Z) ∧ zSq Z = zFd (fun x q => zAk (zFb s) (s 2) (s 1) 6 1 x q) x.toNat (-1, 0, 0, 0)) rfl (by omega) ⟨zEx_0, ⟨⟨by show (-1 : Int) ≤ -1; omega, by show (-1 : Int) < 4096; omega⟩, ⟨by show (0 : Int) ≤ 0; omega, by show (0 : Int) ≤ 60; omega⟩⟩, rfl⟩ (fun x Z hx hx2 hZ => ?_) (fun x Z hx hx2 hx3 hx4 hZ => ?_)
      · obtain ⟨zE, zR1, zQ1⟩ := hZ
        have hBZ := hSB2.ex zE
        dsimp only
        rw [hBZ.1]
        (repeat (first | (with_reducible refine zok_g ?_ ?_; focus omega) | with_reducible refine zok_j ?_ | (with_reducible refine zok_t ?_ ?_; focus omega) | (with_reducible refine zok_f ?_ ?_; focus omega)))
        refine zok_b (c_ask hW 6 Z 1 x hBZ (by omega) (by omega) (by omega) hx (by omega) zR1) (fun k hk => zok_sl ⟨_, rfl, zEx_t zE hk.1, ?_, ?_⟩)
        · rw [hk.2]
          exact zAk_r hW 6 _ _ _ (by omega) (by omega) hx (by omega) zR1
        · rw [zFd_s hx, ← zQ1]
          exact hk.2
      · obtain ⟨zE, zR1, zQ1⟩ := hZ
        have hBZ := hSB2.ex zE
        have ex := hx3 (by omega)
        subst ex
        dsimp only
        rw [hBZ.1]
        (repeat (first | (with_reducible refine zok_g ?_ ?_; focus omega) | with_reducible refine zok_j ?_ | (with_reducible refine zok_t ?_ ?_; focus omega) | (with_reducible refine zok_f ?_ ?_; focus omega)))
        refine zok_sr ?_
        dsimp only
        have hcap : ∀ k, k ∉ [9, 10, 11, 12] → Z.1 k = t.1 k := fun k hk => by
          rw [zE.1 k hk]
          have h6 : zEx [9, 10, 11, 12] [1, 2, 3, 5] t (zPu (zPu (zPu (zPu y 9 (-1)) 10 0) 11 0) 12 0) := zEx_u (zEx_u (zEx_u (zEx_u (zEx_w hE2 (by decide) (fun _ h => h)) (by decide)) (by decide)) (by decide)) (by decide)
          exact h6.1 k hk
        (repeat (first | (with_reducible refine zok_g ?_ ?_; focus omega) | with_reducible refine zok_j ?_ | (with_reducible refine zok_t ?_ ?_; focus omega) | (with_reducible refine zok_f ?_ ?_; focus omega)))
        refine zok_s ⟨rfl, ⟨?_, fun w q0 q1 => ?_, fun x x0 x1 => ?_, ?_⟩, ?_, ?_, ?_⟩
        · exact hBZ
        · show Z.2 3 w = _
          rw [zE.2 3 (by decide)]
          show y.2 3 w = _
          rw [yE.2 3 (by decide)]
          exact hH w q0 q1
        · show Z.2 5 x = _
          rw [zE.2 5 (by decide)]
          exact yC x x0 x1
        · exact zQ1
        · show (0 ≤ Z.1 100 ∧ Z.1 100 ≤ 4096) ∧ Z.1 102 = Z.1 100 ∧ (0 ≤ Z.1 101 ∧ Z.1 101 ≤ 5460)
          rw [hcap 100 (by decide), hcap 101 (by decide), hcap 102 (by decide)]
          exact tc
        · show Z.1 100 = _
          rw [hcap 100 (by decide)]; exact tm1
        · show Z.1 101 = _
          rw [hcap 101 (by decide)]; exact tm2
  · rw [hD]
    (repeat (first | (with_reducible refine zok_g ?_ ?_; focus omega) | with_reducible refine zok_j ?_ | (with_reducible refine zok_t ?_ ?_; focus omega) | (with_reducible refine zok_f ?_ ?_; focus omega)))
    have h1 := hSO.1.2.2.2.1.1
    have h2 := hSO.1.2.2.2.2.1.1
    refine zok_s ⟨hD, hSO, hC, ?_, ?_⟩
    · unfold zMax; rw [if_neg (by omega)]
    · unfold zMax; rw [if_neg (by omega)]
end ZGP
