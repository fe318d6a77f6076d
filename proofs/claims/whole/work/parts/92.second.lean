section ZSC
variable {σ : CS} {m : CV} {s : Int → Int}
theorem zNd_0 (hW : zWf s) {T V : CV} (hC : zCap T) (h1 : V.1 0 = s 1) (h2 : V.1 1 = s 2) (h100 : zWords s ≤ T.1 100) (h101 : zLv s (s 2 + 1) ≤ T.1 101) : zNd T V = 0 := by
  rw [zNd_e hW hC h1 h2, if_pos ⟨h100, h101⟩]
theorem x_bsw (h : zRR σ m) (h8 : (σ 7).1 8 = 1) (hS : zSoT (σ 7) (m.2 2)) (hC : zCap (σ 7)) {r : Int} (r0 : 0 ≤ r) (r1 : r < m.2 2 0) (ho : zf (m.2 2) r 2 ≠ 1) : zOk (fX3_bestScoreWithout (σ 7) (σ 4) r) (fun x => x.2 = zWo (m.2 2) r ∧ zEx [] [1] (σ 7) x.1 ∧ zRR (zSu σ 7 x.1) m ∧ zSoT x.1 (m.2 2)) := by
  refine zok_w (c_bestScoreWithout h.W h.B hS.1 r0 r1 ho) (fun x hx => ?_)
  have hS2 : zSoT x.1 (m.2 2) := by
    refine ⟨hS.1.ex1 hx.1, ?_, ?_, ?_⟩
    · rw [hx.1.2 3 (by decide)]; exact hS.2.1
    · rw [hx.1.2 5 (by decide)]; exact hS.2.2.1
    · unfold zSq
      rw [hx.1.1 9 (by decide), hx.1.1 10 (by decide), hx.1.1 11 (by decide), hx.1.1 12 (by decide)]
      exact hS.2.2.2
  refine ⟨hx.2, hx.1, ?_, hS2⟩
  obtain ⟨q1, q2, q3, q4, q5, q6, q7⟩ := h
  have e : ∀ k, k ≠ 7 → zSu σ 7 x.1 k = σ k := fun k hk => zSu_n hk
  refine ⟨by rw [e 1 (by decide)]; exact q1, by rw [e 4 (by decide)]; exact q2, by rw [e 0 (by decide), e 5 (by decide)]; exact q3, ⟨by rw [e 0 (by decide)]; exact q4.1, q4.2.1, fun p p0 p1 => by rw [e _ (by omega)]; exact q4.2.2 p p0 p1⟩, ⟨⟨?_, Or.inr ⟨?_, ?_⟩⟩, by rw [e 8 (by decide)]; exact q5.2⟩, by rw [e 10 (by decide)]; exact q6, by rw [e 0 (by decide)]; exact q7⟩
  · rw [zSu_s]
    unfold zCap at hC ⊢
    rw [hx.1.1 100 (by decide), hx.1.1 101 (by decide), hx.1.1 102 (by decide)]
    exact hC
  · rw [zSu_s, hx.1.1 8 (by decide)]; exact h8
  · rw [zSu_s]; exact hS2
theorem zSoT_nd (hW : zWf s) {T V : CV} (hS : zSoT T s) (hC : zCap T) (h1 : V.1 0 = s 1) (h2 : V.1 1 = s 2) : zNd T V = 0 := zNd_0 hW hC h1 h2 hS.1.2.2.2.1.1 hS.1.2.2.2.2.1.1
noncomputable def zOf (s : Int → Int) (r : Int) (p : Int × Int) : Int × Int := if zf s r 2 = 1 then p else if p.1 = -1 ∨ zWo s r < p.2 then (r, zWo s r) else p
theorem zOf_i (hW : zWf s) (n : Nat) (hn : (n : Int) ≤ s 0) : (-1 ≤ (zFd (zOf s) n (-1, 0)).1 ∧ (zFd (zOf s) n (-1, 0)).1 < n) ∧ (0 ≤ (zFd (zOf s) n (-1, 0)).2 ∧ (zFd (zOf s) n (-1, 0)).2 ≤ 60) :=
  zFd_I (f := zOf s) (fun i p => (-1 ≤ p.1 ∧ p.1 < i) ∧ (0 ≤ p.2 ∧ p.2 ≤ 60)) ⟨⟨by decide, by decide⟩, ⟨by decide, by decide⟩⟩ n (fun i p hi hi2 hp => by
    have hw := zWo_r hW hi (by omega)
    unfold zOf
    split
    · exact ⟨⟨hp.1.1, by have := hp.1.2; omega⟩, hp.2⟩
    · split
      · exact ⟨⟨by show -1 ≤ i; omega, by show i < i + 1; omega⟩, hw⟩
      · exact ⟨⟨hp.1.1, by have := hp.1.2; omega⟩, hp.2⟩)
theorem zOf_e {r : Int} {p : Int × Int} : zOf s r p = if zf s r 2 = 1 then p else if p.1 = -1 ∨ zWo s r < p.2 then (r, zWo s r) else p := rfl
theorem s_outlier (h : zRR σ m) : zOk (fX7_outlier σ) (fun t => zOk (fX8_outlier m) (fun u => zRR t.1 u.1 ∧ t.2 = u.2 ∧ iR t.2)) := by
  unfold fX7_outlier fX8_outlier
  have w0 := h.W.1
  have hr := h.B.2.2.2.1
  refine zok_F (mk := fun (q : (Int × Int) × CS) i => (q.1.1, q.1.2, i, q.2)) (a0 := ((-1, 0), σ)) (m.2 2 0) (fun i q => q.1 = zFd (zOf (m.2 2)) i.toNat (-1, 0) ∧ zRR q.2 m ∧ (∀ k, k ≠ 7 → q.2 k = σ k) ∧ zNd (q.2 7) (q.2 4) ≤ zNd (σ 7) (σ 4)) rfl (by omega) ⟨rfl, h, fun _ _ => rfl, Nat.le_refl _⟩ (fun i q hi hi2 hI => ?_) (fun i q hi hi2 hi3 hi4 hI => ?_)
  · obtain ⟨p, τ⟩ := q
    obtain ⟨hp, hτ, hk, hn⟩ := hI
    dsimp only at hp hτ hk hn ⊢
    have hv := zOf_i h.W i.toNat (by omega)
    rw [← hp] at hv
    rw [hτ.B.2.2.2.1]
    (repeat (first | (with_reducible refine zok_g ?_ ?_; focus omega) | with_reducible refine zok_j ?_ | (with_reducible refine zok_t ?_ ?_; focus omega) | (with_reducible refine zok_f ?_ ?_; focus omega)))
    refine zok_e (b_isOut h.W hτ.B hi hi2) ?_
    refine zok_i (fun c => zok_sl ⟨(p, τ), rfl, ?_, hτ, hk, hn⟩) (fun c => ?_)
    · dsimp only
      rw [zFd_s hi, ← hp, zOf_e, if_pos (of_decide_eq_true c)]
    · have ho : zf (m.2 2) i 2 ≠ 1 := fun z => c (decide_eq_true z)
      (repeat (first | (with_reducible refine zok_g ?_ ?_; focus omega) | with_reducible refine zok_j ?_ | (with_reducible refine zok_t ?_ ?_; focus omega) | (with_reducible refine zok_f ?_ ?_; focus omega)))
      refine zok_b (x_searched hτ) (fun ρ hρ => ?_)
      obtain ⟨ρk, ρ8, ρS, ρC, _, _, hρ⟩ := hρ
      have n0 : zNd (ρ 7) (ρ 4) = 0 := zSoT_nd h.W ρS ρC hρ.B.1 hρ.B.2.1
      rw [n0]
      (repeat (first | (with_reducible refine zok_g ?_ ?_; focus omega) | with_reducible refine zok_j ?_ | (with_reducible refine zok_t ?_ ?_; focus omega) | (with_reducible refine zok_f ?_ ?_; focus omega)))
      refine zok_b (x_bsw hρ ρ8 ρS ρC hi hi2 ho) (fun x hx => ?_)
      obtain ⟨xv, xE, xR, xS⟩ := hx
      have xC : zCap x.1 := by
        unfold zCap at ρC ⊢
        rw [xE.1 100 (by decide), xE.1 101 (by decide), xE.1 102 (by decide)]
        exact ρC
      have n1 : zNd (zSu ρ 7 x.1 7) (zSu ρ 7 x.1 4) = 0 := by
        rw [zSu_s, zSu_n (by decide)]
        exact zSoT_nd h.W xS xC hρ.B.1 hρ.B.2.1
      have kk : ∀ k, k ≠ 7 → zSu ρ 7 x.1 k = σ k := fun k k7 => by rw [zSu_n k7, ρk k k7, hk k k7]
      have hw := zWo_r h.W hi hi2
      rw [xv]
      (repeat (first | (with_reducible refine zok_g ?_ ?_; focus omega) | with_reducible refine zok_j ?_ | (with_reducible refine zok_t ?_ ?_; focus omega) | (with_reducible refine zok_f ?_ ?_; focus omega)))
      refine zok_i (fun c1 => ?_) (fun c1 => ?_)
      · rw [n1]
        (repeat (first | (with_reducible refine zok_g ?_ ?_; focus omega) | with_reducible refine zok_j ?_ | (with_reducible refine zok_t ?_ ?_; focus omega) | (with_reducible refine zok_f ?_ ?_; focus omega)))
        refine zok_sl ⟨((i, zWo (m.2 2) i), zSu ρ 7 x.1), rfl, ?_, xR, kk, by dsimp only; rw [n1]; exact Nat.zero_le _⟩
        dsimp only
        rw [zFd_s hi, ← hp, zOf_e, if_neg ho, if_pos (Or.inl c1)]
      · (repeat (first | (with_reducible refine zok_g ?_ ?_; focus omega) | with_reducible refine zok_j ?_ | (with_reducible refine zok_t ?_ ?_; focus omega) | (with_reducible refine zok_f ?_ ?_; focus omega)))
        refine zok_i (fun c2 => ?_) (fun c2 => ?_)
        · rw [n1]
          (repeat (first | (with_reducible refine zok_g ?_ ?_; focus omega) | with_reducible refine zok_j ?_ | (with_reducible refine zok_t ?_ ?_; focus omega) | (with_reducible refine zok_f ?_ ?_; focus omega)))
          refine zok_sl ⟨(p, zSu ρ 7 x.1), rfl, ?_, xR, kk, by dsimp only; rw [n1]; exact Nat.zero_le _⟩
          dsimp only
          rw [zFd_s hi, ← hp, zOf_e, if_neg ho, if_neg (by omega)]
        · rw [n1]
          (repeat (first | (with_reducible refine zok_g ?_ ?_; focus omega) | with_reducible refine zok_j ?_ | (with_reducible refine zok_t ?_ ?_; focus omega) | (with_reducible refine zok_f ?_ ?_; focus omega)))
          refine zok_sl ⟨((i, zWo (m.2 2) i), zSu ρ 7 x.1), rfl, ?_, xR, kk, by dsimp only; rw [n1]; exact Nat.zero_le _⟩
          dsimp only
          rw [zFd_s hi, ← hp, zOf_e, if_neg ho, if_pos (Or.inr (by omega))]
  · obtain ⟨p, τ⟩ := q
    obtain ⟨hp, hτ, hk, hn⟩ := hI
    have ei := hi3 (by omega)
    subst ei
    dsimp only at hp hτ hk hn ⊢
    have hv := zOf_i h.W (m.2 2 0).toNat (by omega)
    rw [← hp] at hv
    rw [hτ.B.2.2.2.1]
    (repeat (first | (with_reducible refine zok_g ?_ ?_; focus omega) | with_reducible refine zok_j ?_ | (with_reducible refine zok_t ?_ ?_; focus omega) | (with_reducible refine zok_f ?_ ?_; focus omega)))
    refine zok_sr ?_
    dsimp only
    (repeat (first | (with_reducible refine zok_g ?_ ?_; focus omega) | with_reducible refine zok_j ?_ | (with_reducible refine zok_t ?_ ?_; focus omega) | (with_reducible refine zok_f ?_ ?_; focus omega)))
    refine zok_s ?_
    refine zok_F (mk := fun (q : (Int × Int) × CV) i => (q.1.1, q.1.2, i, q.2)) (a0 := ((-1, 0), zPu m 0 0)) (m.2 2 0) (fun i q => q.1 = zFd (zOf (m.2 2)) i.toNat (-1, 0) ∧ zEx [31, 32, 33, 34] [10] (zPu m 0 0) q.2) rfl (by omega) ⟨rfl, zEx_0⟩ (fun i q hi hi2 hI => ?_) (fun i q hi hi2 hi3 hi4 hI => ?_)
    · obtain ⟨p', y⟩ := q
      obtain ⟨y1, yE⟩ := hI
      dsimp only at y1 yE ⊢
      have ys : y.2 2 = m.2 2 := yE.2 2 (by decide)
      have hv' := zOf_i h.W i.toNat (by omega)
      rw [← y1] at hv'
      rw [ys]
      (repeat (first | (with_reducible refine zok_g ?_ ?_; focus omega) | with_reducible refine zok_j ?_ | (with_reducible refine zok_t ?_ ?_; focus omega) | (with_reducible refine zok_f ?_ ?_; focus omega)))
      refine zok_e (m_isOut ys h.W hi hi2) ?_
      refine zok_i (fun c => zok_sl ⟨(p', y), rfl, ?_, yE⟩) (fun c => ?_)
      · dsimp only
        rw [zFd_s hi, ← y1, zOf_e, if_pos (of_decide_eq_true c)]
      · have ho : zf (m.2 2) i 2 ≠ 1 := fun z => c (decide_eq_true z)
        refine zok_b (m_without ys h.W hi hi2) (fun x hx => ?_)
        have xE := zEx_t yE hx.1
        have hw := zWo_r h.W hi hi2
        rw [hx.2]
        (repeat (first | (with_reducible refine zok_g ?_ ?_; focus omega) | with_reducible refine zok_j ?_ | (with_reducible refine zok_t ?_ ?_; focus omega) | (with_reducible refine zok_f ?_ ?_; focus omega)))
        refine zok_i (fun c1 => zok_sl ⟨((i, zWo (m.2 2) i), x.1), rfl, ?_, xE⟩) (fun c1 => ?_)
        · dsimp only
          rw [zFd_s hi, ← y1, zOf_e, if_neg ho, if_pos (Or.inl c1)]
        · (repeat (first | (with_reducible refine zok_g ?_ ?_; focus omega) | with_reducible refine zok_j ?_ | (with_reducible refine zok_t ?_ ?_; focus omega) | (with_reducible refine zok_f ?_ ?_; focus omega)))
          refine zok_i (fun c2 => zok_sl ⟨((i, zWo (m.2 2) i), x.1), rfl, ?_, xE⟩) (fun c2 => zok_sl ⟨(p', x.1), rfl, ?_, xE⟩)
          · dsimp only
            rw [zFd_s hi, ← y1, zOf_e, if_neg ho, if_pos (Or.inr c2)]
          · dsimp only
            rw [zFd_s hi, ← y1, zOf_e, if_neg ho, if_neg (by omega)]
    · obtain ⟨p', y⟩ := q
      obtain ⟨y1, yE⟩ := hI
      have ei := hi3 (by omega)
      subst ei
      dsimp only at y1 yE ⊢
      have ys : y.2 2 = m.2 2 := yE.2 2 (by decide)
      rw [ys]
      (repeat (first | (with_reducible refine zok_g ?_ ?_; focus omega) | with_reducible refine zok_j ?_ | (with_reducible refine zok_t ?_ ?_; focus omega) | (with_reducible refine zok_f ?_ ?_; focus omega)))
      refine zok_sr (zok_s ⟨zRR_x hτ yE (by decide) (by decide), ?_, ?_⟩)
      · show p.1 = p'.1
        rw [hp, y1]
      · show iR p.1
        exact ⟨by omega, by omega⟩
theorem zTk_o (hW : zWf s) {w j : Int} (hj : j < 0 ∨ 351 ≤ j) : zTk s w j = s j := by
  have w0 := hW.1
  have w4 := hW.2.2.2.2.1
  unfold zTk
  rw [zup_n (by omega), zup_n (by omega)]
  exact zFd_I (f := zTr (zDg s w) (zHv s (zDg s w))) (fun _ t => t j = s j) rfl (s 0).toNat (fun i t hi hi2 ht => by
    have e1 : zTc t (zDg s w) (zHv s (zDg s w)) i j = t j := by
      unfold zTc
      split
      · rfl
      · exact zup_n (by omega)
    unfold zTr
    split
    · show zSet _ i 1 (-1) j = _
      unfold zSet
      rw [zup_n (by omega), e1]; exact ht
    · rw [e1]; exact ht)
theorem zTk_12 (hW : zWf s) {w : Int} : zTk s w 1 = s 1 ∧ zTk s w 2 = s 2 := by
  have w0 := hW.1
  have w4 := hW.2.2.2.2.1
  have h := (zTn_W hW (u := zDg s w) (set := zHv s (zDg s w)) (s 0).toNat (by omega)).2
  unfold zTk
  rw [zup_n (by omega), zup_n (by omega), zup_n (by omega), zup_n (by omega)]
  exact ⟨h 1 (by omega), h 2 (by omega)⟩
theorem s_second (h : zRR σ m) {w : Int} (hw : iR w) : zCl [zIA] (fX7_second σ w) (fX8_second m w) := by
  unfold zCl fX7_second fX8_second
  have hin := m_isIn (a := w) (lo := 0) (hi := 1) ⟨by omega, by omega⟩ (by decide) (by decide)
  have hy := zWy_c (s := m.2 2) (w := (zSr (m.2 2)).1)
  have ⟨v0, v1⟩ := zSr_w h.W
  by_cases c : 0 ≤ w ∧ w ≤ 1
  · rw [decide_eq_true c] at hin
    obtain ⟨ρ, eρ, ρk, ρ8, ρS, ρC, _, _, hρ⟩ := x_searched h
    have e9 := (zSq_p ρS.2.2.2).1
    have hra := b_reasonAgainst hρ.W hρ.B v0 v1
    (repeat (first | (with_reducible refine zok_g ?_ ?_; focus omega) | with_reducible refine zok_j ?_ | (with_reducible refine zok_t ?_ ?_; focus omega) | (with_reducible refine zok_f ?_ ?_; focus omega)))
    refine zok_e eρ ?_
    rw [e9]
    refine zok_e hra ?_
    (repeat (first | (with_reducible refine zok_g ?_ ?_; focus omega) | with_reducible refine zok_j ?_ | (with_reducible refine zok_t ?_ ?_; focus omega) | (with_reducible refine zok_f ?_ ?_; focus omega)))
    refine zok_i (fun cy => ?_) (fun cy => zok_s ?_)
    · have h46 := (zHas h.W cy).1
      have hzb : zSb σ w = zNd (σ 8) (σ 4) := by
        unfold zSb
        rw [eρ]
        show (if (0 ≤ w ∧ w ≤ 1) ∧ fX0_reasonAgainst (ρ 4) ((ρ 7).1 9) = some 0 then _ else _) = _
        rw [e9, hra, cy, if_pos ⟨c, rfl⟩]
      refine zok_b (b_copyB hρ.2.1) (fun V hV => ?_)
      refine zok_b (c_cover h.W hV.2.1 v0 v1) (fun x hx => ?_)
      rw [if_pos cy] at hx
      have hT : zB1 x.1 (zTk (m.2 2) (zSr (m.2 2)).1) (m.2 7) := zB1_tk hV v0 v1 cy hx.1 hx.2.2
      have e12 := zTk_12 h.W (w := (zSr (m.2 2)).1)
      have e8 : ρ 8 = σ 8 := ρk 8 (by decide)
      have hcap8 := h.2.2.2.2.1.2
      have hnd : zNd (ρ 8) x.1 = zNd (σ 8) (σ 4) := by
        rw [e8, zNd_e h.W hcap8.1 (hT.2.1.1.trans e12.1) (hT.2.1.2.1.trans e12.2), zNd_e h.W hcap8.1 h.B.1 h.B.2.1]
      rw [hnd, hzb]
      (repeat (first | (with_reducible refine zok_g ?_ ?_; focus omega) | with_reducible refine zok_j ?_ | (with_reducible refine zok_t ?_ ?_; focus omega) | (with_reducible refine zok_f ?_ ?_; focus omega)))
      refine zok_b (c_go hT.1 hT.2.1 (by rw [e8]; exact hcap8.1) (by rw [e8]; exact hcap8.2)) (fun T hTT => ?_)
      obtain ⟨T8, TS, TC, _, _⟩ := hTT
      have hσ' : zRR (zSu (zSu (zSu ρ 6 V) 6 x.1) 8 T) m := by
        obtain ⟨q1, q2, q3, q4, q5, q6, q7⟩ := hρ
        have e : ∀ k, k ≠ 6 → k ≠ 8 → zSu (zSu (zSu ρ 6 V) 6 x.1) 8 T k = ρ k := fun k k6 k8 => by rw [zSu_n k8, zSu_n k6, zSu_n k6]
        refine ⟨by rw [e 1 (by decide) (by decide)]; exact q1, by rw [e 4 (by decide) (by decide)]; exact q2, by rw [e 0 (by decide) (by decide), e 5 (by decide) (by decide)]; exact q3, ⟨by rw [e 0 (by decide) (by decide)]; exact q4.1, q4.2.1, fun p p0 p1 => by rw [e _ (by omega) (by omega)]; exact q4.2.2 p p0 p1⟩, ⟨by rw [e 7 (by decide) (by decide)]; exact q5.1, ?_⟩, by rw [e 10 (by decide) (by decide)]; exact q6, by rw [e 0 (by decide) (by decide)]; exact q7⟩
        rw [zSu_s]
        exact ⟨TC, Or.inr ⟨T8, TS⟩⟩
      have hWt := hT.1
      have mod : ∀ t : CS × (Int ⊕ String), zRR t.1 m → ((w = 0 ∧ t.2 = .inl (zSr (zTk (m.2 2) (zSr (m.2 2)).1)).1) ∨ (w = 1 ∧ t.2 = .inl (zSr (zTk (m.2 2) (zSr (m.2 2)).1)).2.1)) → zOk (fX8_second m w) (fun u => zRR t.1 u.1 ∧ zAn [zIA] t.2 (u.1.1 0) u.2) := by
        intro t ht hc
        unfold fX8_second
        (repeat (first | (with_reducible refine zok_g ?_ ?_; focus omega) | with_reducible refine zok_j ?_ | (with_reducible refine zok_t ?_ ?_; focus omega) | (with_reducible refine zok_f ?_ ?_; focus omega)))
        refine zok_e hin ?_
        refine zok_e m_go1 ?_
        refine zok_t rfl ?_
        refine zok_b (m_searches (m := zPu m 0 0) (s := m.2 2) h.W rfl) (fun g hg => ?_)
        obtain ⟨g31, _, _, _⟩ := zM_p hg.2
        have gs : g.2 2 = m.2 2 := hg.1.2 2 (by decide)
        rw [g31]
        refine zok_b (m_whyTake gs h.W v0 v1) (fun q hq => ?_)
        obtain ⟨qE, qv⟩ := hq
        rw [qv, cy]
        (repeat (first | (with_reducible refine zok_g ?_ ?_; focus omega) | with_reducible refine zok_j ?_ | (with_reducible refine zok_t ?_ ?_; focus omega) | (with_reducible refine zok_f ?_ ?_; focus omega)))
        have qs : q.1.2 2 = m.2 2 := (qE.2 2 (by decide)).trans gs
        refine zok_b m_thinks (fun a ha => ?_)
        obtain ⟨aE, aA⟩ := ha
        have as : a.2 2 = m.2 2 := (aE.2 2 (by decide)).trans qs
        have a31 : a.1 31 = (zSr (m.2 2)).1 := by rw [aE.1 31 (by decide), qE.1 31 (by decide)]; exact g31
        rw [a31]
        refine zok_b (m_takes as h.W v0 v1 h46) (fun b hb => ?_)
        obtain ⟨bE, b2, _⟩ := hb
        refine zok_b (m_searches hWt b2) (fun d hd => ?_)
        obtain ⟨d31, d32, _, _⟩ := zM_p hd.2
        have d2 : d.2 2 = zTk (m.2 2) (zSr (m.2 2)).1 := (hd.1.2 2 (by decide)).trans b2
        have d6 : d.2 6 = a.2 6 := by rw [hd.1.2 6 (by decide), bE.2 6 (by decide)]
        refine zok_b (m_thinksNoMore (s := m.2 2) (by rw [d6, ← qs]; exact aA) (fun j hj => by rw [d2]; exact zTk_o h.W hj)) (fun f hf => ?_)
        have fE : zEx [31, 32, 33, 34] [2, 6, 10] (zPu m 0 0) f := zEx_t (zEx_t (zEx_t (zEx_t (zEx_t (zEx_w hg.1 (fun _ h => h) (by decide)) (zEx_w qE (by decide) (by decide))) (zEx_w aE (by decide) (by decide))) (zEx_w bE (by decide) (by decide))) (zEx_w hd.1 (fun _ h => h) (by decide))) (zEx_w hf.1 (by decide) (by decide))
        have fE2 : zEx [31, 32, 33, 34] [6, 10] (zPu m 0 0) f := ⟨fE.1, fun k hk => by
          by_cases c2 : k = 2
          · rw [c2]; exact hf.2
          · exact fE.2 k (by simp only [List.mem_cons, List.mem_nil_iff, or_false] at hk ⊢; omega)⟩
        have f31 : f.1 31 = (zSr (zTk (m.2 2) (zSr (m.2 2)).1)).1 := by rw [hf.1.1 31 (by decide)]; exact d31
        have f32 : f.1 32 = (zSr (zTk (m.2 2) (zSr (m.2 2)).1)).2.1 := by rw [hf.1.1 32 (by decide)]; exact d32
        have hrr := zSr_r hWt
        have hR := zRR_x ht fE2 (by decide) (by decide)
        have h0 := zCode0 fE2 (by decide)
        rcases hc with ⟨c1, e⟩ | ⟨c1, e⟩
        · (repeat (first | (with_reducible refine zok_g ?_ ?_; focus omega) | with_reducible refine zok_j ?_ | (with_reducible refine zok_t ?_ ?_; focus omega) | (with_reducible refine zok_f ?_ ?_; focus omega)))
          rw [e]
          exact zok_s ⟨hR, zAn_v h0 f31.symm ⟨by have := hrr.1; omega, by have := hrr.1; omega⟩⟩
        · (repeat (first | (with_reducible refine zok_g ?_ ?_; focus omega) | with_reducible refine zok_j ?_ | (with_reducible refine zok_t ?_ ?_; focus omega) | (with_reducible refine zok_f ?_ ?_; focus omega)))
          rw [e]
          exact zok_s ⟨hR, zAn_v h0 f32.symm ⟨by have := hrr.2; omega, by have := hrr.2; omega⟩⟩
      obtain ⟨T9, T10, _, _⟩ := zSq_p TS.2.2.2
      refine zok_i (fun c0 => zok_s (mod _ hσ' (Or.inl ⟨c0, by rw [T9]⟩))) (fun c0 => zok_s (mod _ hσ' (Or.inr ⟨by omega, by rw [T10]⟩)))
    · (repeat (first | (with_reducible refine zok_g ?_ ?_; focus omega) | with_reducible refine zok_j ?_ | (with_reducible refine zok_t ?_ ?_; focus omega) | (with_reducible refine zok_f ?_ ?_; focus omega)))
      refine zok_e hin ?_
      refine zok_e m_go1 ?_
      refine zok_t rfl ?_
      refine zok_b (m_searches (m := zPu m 0 0) (s := m.2 2) h.W rfl) (fun g hg => ?_)
      obtain ⟨g31, _, _, _⟩ := zM_p hg.2
      have gs : g.2 2 = m.2 2 := hg.1.2 2 (by decide)
      rw [g31]
      refine zok_b (m_whyTake gs h.W v0 v1) (fun q hq => ?_)
      obtain ⟨qE, qv⟩ := hq
      rw [qv]
      (repeat (first | (with_reducible refine zok_g ?_ ?_; focus omega) | with_reducible refine zok_j ?_ | (with_reducible refine zok_t ?_ ?_; focus omega) | (with_reducible refine zok_f ?_ ?_; focus omega)))
      have qE2 : zEx [31, 32, 33, 34] [10] (zPu m 0 0) q.1 := zEx_t hg.1 (zEx_w qE (by decide) (fun _ h => h))
      exact zok_s ⟨zRR_x hρ qE2 (by decide) (by decide), zAn_v (zCode0 qE2 (by decide)) rfl (by decide)⟩
  · rw [decide_eq_false c] at hin
    have e : zOk (some (σ, (Sum.inr zIA : Int ⊕ String))) (fun t => zOk (fX8_second m w) (fun u => zRR t.1 u.1 ∧ zAn [zIA] t.2 (u.1.1 0) u.2)) := by
      refine zok_s ?_
      unfold fX8_second
      (repeat (first | (with_reducible refine zok_g ?_ ?_; focus omega) | with_reducible refine zok_j ?_ | (with_reducible refine zok_t ?_ ?_; focus omega) | (with_reducible refine zok_f ?_ ?_; focus omega)))
      refine zok_e hin ?_
      refine zok_e m_go0 ?_
      refine zok_f Bool.false_ne_true ?_
      exact zok_s ⟨zRR_0 h, zAn_e 0 rfl rfl⟩
    by_cases c1 : w < 0
    · (repeat (first | (with_reducible refine zok_g ?_ ?_; focus omega) | with_reducible refine zok_j ?_ | (with_reducible refine zok_t ?_ ?_; focus omega) | (with_reducible refine zok_f ?_ ?_; focus omega)))
      exact e
    · (repeat (first | (with_reducible refine zok_g ?_ ?_; focus omega) | with_reducible refine zok_j ?_ | (with_reducible refine zok_t ?_ ?_; focus omega) | (with_reducible refine zok_f ?_ ?_; focus omega)))
      exact e
end ZSC
