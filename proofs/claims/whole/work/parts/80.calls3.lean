section ZCD
variable {σ : CS} {m : CV}
theorem x_searched (h : zRR σ m) : zOk (fX7_searched σ) (fun t => (∀ k, k ≠ 7 → t k = σ k) ∧ (t 7).1 8 = 1 ∧ zSoT (t 7) (m.2 2) ∧ zCap (t 7) ∧ (t 7).1 100 = zMax ((σ 7).1 100) (zWords (m.2 2)) ∧ (t 7).1 101 = zMax ((σ 7).1 101) (zLv (m.2 2) (m.2 2 2 + 1)) ∧ zRR t m) := by
  unfold fX7_searched
  obtain ⟨⟨c1, d1⟩, c2⟩ := h.2.2.2.2.1
  (repeat (first | (with_reducible refine zok_g ?_ ?_; focus omega) | with_reducible refine zok_j ?_ | (with_reducible refine zok_t ?_ ?_; focus omega) | (with_reducible refine zok_f ?_ ?_; focus omega)))
  refine zok_b (c_go h.W h.B c1 d1) (fun T hT => zok_s ?_)
  obtain ⟨t8, tS, tC, t100, t101⟩ := hT
  have e : ∀ k, k ≠ 7 → zSu σ 7 T k = σ k := fun k hk => zSu_n hk
  refine ⟨e, by rw [zSu_s]; exact t8, by rw [zSu_s]; exact tS, by rw [zSu_s]; exact tC, by rw [zSu_s]; exact t100, by rw [zSu_s]; exact t101, ?_⟩
  obtain ⟨r1, r2, r3, r4, r5, r6, r7⟩ := h
  refine ⟨by rw [e 1 (by decide)]; exact r1, by rw [e 4 (by decide)]; exact r2, by rw [e 0 (by decide), e 5 (by decide)]; exact r3, ⟨by rw [e 0 (by decide)]; exact r4.1, r4.2.1, fun p p0 p1 => by rw [e _ (by omega)]; exact r4.2.2 p p0 p1⟩, ⟨⟨by rw [zSu_s]; exact tC, Or.inr ⟨by rw [zSu_s]; exact t8, by rw [zSu_s]; exact tS⟩⟩, by rw [e 8 (by decide)]; exact c2⟩, by rw [e 10 (by decide)]; exact r6, by rw [e 0 (by decide)]; exact r7⟩
theorem zTk_0 {s : Int → Int} (hW : zWf s) {w : Int} : zTk s w 0 = s 0 := by
  have w0 := hW.1
  have w4 := hW.2.2.2.2.1
  unfold zTk
  rw [zup_n (by omega), zup_n (by omega)]
  exact (zTn_W hW _ (by omega)).2 0 (by omega)
theorem zB1_tk {V V' : CV} {s nm : Int → Int} (hB : zB1 V s nm) {w : Int} (w0 : 0 ≤ w) (w1 : w < zWords s) (hy : zWy s w = 0) (hR : zRB V' (zTk s w)) (hn : V'.2 1 = V.2 1) : zB1 V' (zTk s w) nm := by
  refine ⟨zTk_W hB.1 w0 w1 (zHas hB.1 hy).1, hR, fun r r0 r1 => ?_⟩
  rw [zTk_0 hB.1] at r1
  rw [hn]
  exact hB.2.2 r r0 r1
theorem zWy_c {s : Int → Int} {w : Int} : zWy s w = 0 ∨ zWy s w = 1 ∨ zWy s w = 2 := by
  unfold zWy
  split
  · omega
  · split <;> omega
theorem x_forget : fX7_forgetSearches σ = some (zSu (zSu σ 7 (zPu (σ 7) 8 0)) 8 (zPu (σ 8) 8 0)) := rfl
theorem s_take (h : zRR σ m) {w : Int} (hw : iR w) : zCl [zIO, zIS] (fX7_take σ w) (fX8_take m w) := by
  refine zWord_c h hw (fun w0 w1 a b => ?_) (fun a b => ?_)
  · unfold zCl fX7_take fX8_take
    refine zok_el a ?_
    refine zok_e (b_reasonAgainst h.W h.B w0 w1) ?_
    have hy := zWy_c (s := m.2 2) (w := w)
    (repeat (first | (with_reducible refine zok_g ?_ ?_; focus omega) | with_reducible refine zok_j ?_ | (with_reducible refine zok_t ?_ ?_; focus omega) | (with_reducible refine zok_f ?_ ?_; focus omega)))
    refine zok_i (fun c => ?_) (fun c => zok_s ?_)
    · have h46 := (zHas h.W c).1
      refine zok_b (x_keepPast h) (fun τ hτ => ?_)
      have e4 : τ 4 = σ 4 := hτ.1 4 (by decide) (by omega)
      refine zok_e x_forget ?_
      rw [zSu_n (by decide), zSu_n (by decide), e4]
      refine zok_b (c_cover h.W h.B w0 w1) (fun x hx => zok_s ?_)
      rw [if_pos c] at hx
      refine zok_e b ?_
      (repeat (first | (with_reducible refine zok_g ?_ ?_; focus omega) | with_reducible refine zok_j ?_ | (with_reducible refine zok_t ?_ ?_; focus omega) | (with_reducible refine zok_f ?_ ?_; focus omega)))
      refine zok_t rfl ?_
      refine zok_b (m_whyTake (m := m) rfl h.W w0 w1) (fun q hq => ?_)
      obtain ⟨qE, qv⟩ := hq
      rw [qv, c]
      (repeat (first | (with_reducible refine zok_g ?_ ?_; focus omega) | with_reducible refine zok_j ?_ | (with_reducible refine zok_t ?_ ?_; focus omega) | (with_reducible refine zok_f ?_ ?_; focus omega)))
      refine zok_e (m_goesBoth true true) ?_
      refine zok_t rfl ?_
      have hq0 : zRR σ q.1 := zRR_m h qE (by decide) (by decide)
      have q2 : q.1.2 2 = m.2 2 := qE.2 2 (by decide)
      refine m_aside (m := q.1) (p := True) (fun t tE t0 tA => ?_)
      have ts : t.2 2 = m.2 2 := (tE.2 2 (by decide)).trans q2
      refine zok_b (m_takes ts h.W w0 w1 h46) (fun y hy2 => ?_)
      obtain ⟨yE, y2, yv⟩ := hy2
      have tE2 : zEx [0] [5, 10] m t := zEx_t (zEx_w qE (by decide) (by decide)) (zEx_w tE (fun _ h => h) (by decide))
      have yE2 : zEx [0] [2, 5, 10] m y.1 := zEx_t (zEx_w tE2 (fun _ h => h) (by decide)) (zEx_w yE (by decide) (by decide))
      have tA2 : zAgr (m.2 2) (t.2 5) := by rw [← q2]; exact tA
      refine m_kept (by rw [yE2.1 22 (by decide)]; exact h.2.2.2.1.2.1) (fun u uE u22 uP => ⟨?_, ?_⟩)
      · refine zRR_k2 h hτ (fun k k4 k7 k8 k9 => ?_) ?_ ?_ yE2 (by decide) y2 (by rw [yE.2 5 (by decide)]; exact tA2) ?_ (zTk_0 h.W) uE u22 uP
        · dsimp only
          rw [zSu_n k4, zSu_n k8, zSu_n k7]
        · dsimp only
          rw [zSu_n (by decide), zSu_n (by decide), zSu_s]
        · dsimp only
          rw [zSu_n (by decide), zSu_s]
        · dsimp only
          rw [zSu_s]
          exact zB1_tk h.2.1 w0 w1 c hx.1 hx.2.2
      · refine zAn_v ((uE.1 0 (by decide)).trans ((yE.1 0 (by decide)).trans t0)) (hx.2.1.trans yv.symm) ?_
        rw [hx.2.1]
        have hh := zHv_1024 h.W (u := zDg (m.2 2) w)
        have hb : 0 ≤ zPop (zHv (m.2 2) (zDg (m.2 2) w)) ∧ zPop (zHv (m.2 2) (zDg (m.2 2) w)) ≤ 30 := by
          rw [zPop_10 hh.1 hh.2]
          exact zFd_I (f := fun i a => a + zHv (m.2 2) (zDg (m.2 2) w) / zP2 i % 2) (a := (0 : Int)) (fun i a => 0 ≤ a ∧ a ≤ i) ⟨Int.le_refl 0, Int.le_refl 0⟩ 30 (fun i a _ _ ha => by
            show 0 ≤ a + _ % 2 ∧ a + _ % 2 ≤ i + 1
            omega)
        exact ⟨by omega, by omega⟩
    · refine zok_e b ?_
      (repeat (first | (with_reducible refine zok_g ?_ ?_; focus omega) | with_reducible refine zok_j ?_ | (with_reducible refine zok_t ?_ ?_; focus omega) | (with_reducible refine zok_f ?_ ?_; focus omega)))
      refine zok_t rfl ?_
      refine zok_b (m_whyTake (m := m) rfl h.W w0 w1) (fun q hq => ?_)
      rw [hq.2]
      (repeat (first | (with_reducible refine zok_g ?_ ?_; focus omega) | with_reducible refine zok_j ?_ | (with_reducible refine zok_t ?_ ?_; focus omega) | (with_reducible refine zok_f ?_ ?_; focus omega)))
      refine zok_e (m_goesBoth true false) ?_
      refine zok_f Bool.false_ne_true ?_
      exact zok_s ⟨zRR_0 (zRR_m h hq.1 (by decide) (by decide)), zAn_e 1 rfl rfl⟩
  · unfold zCl fX7_take fX8_take
    refine zok_er a (zok_s ?_)
    refine zok_e b ?_
    (repeat (first | (with_reducible refine zok_g ?_ ?_; focus omega) | with_reducible refine zok_j ?_ | (with_reducible refine zok_t ?_ ?_; focus omega) | (with_reducible refine zok_f ?_ ?_; focus omega)))
    refine zok_f Bool.false_ne_true ?_
    refine zok_e (m_goesBoth false false) ?_
    refine zok_f Bool.false_ne_true ?_
    exact zok_s ⟨zRR_0 h, zAn_e 0 rfl rfl⟩
theorem zAk_w {s : Int → Int} (hW : zWf s) : ∀ (d : Nat) (m b : Int) (q : zQ), 1 ≤ m → m ≤ s 2 → 0 ≤ b → b < zPw (s 1) m → (q.1 = -1 ∨ (0 ≤ q.1 ∧ q.1 < zWords s)) → ((zAk (zFb s) (s 2) (s 1) d m b q).1 = -1 ∨ (0 ≤ (zAk (zFb s) (s 2) (s 1) d m b q).1 ∧ (zAk (zFb s) (s 2) (s 1) d m b q).1 < zWords s)) := by
  have w1 := hW.2.1
  intro d
  induction d with
  | zero => intro m b q _ _ _ _ h; exact h
  | succ d ih =>
    intro m b q h1 h2 h3 h4 hq
    rw [zAk_s]
    split
    · exact hq
    · split
      · have e : m = s 2 := by omega
        subst e
        exact Or.inr ⟨h3, h4⟩
      · refine zFd_I (f := fun x q => zAk (zFb s) (s 2) (s 1) d (m + 1) (b * s 1 + x) q) (a := (q.1, q.2.1, q.2.2.1 + 1, q.2.2.2)) (fun _ q => (q.1 = -1 ∨ (0 ≤ q.1 ∧ q.1 < zWords s))) hq (s 1).toNat (fun x q hx hx2 hq => ?_)
        have h6 := Int.mul_le_mul_of_nonneg_right (show b + 1 ≤ zPw (s 1) m by omega) (show 0 ≤ s 1 by omega)
        rw [Int.add_mul, Int.one_mul, ← zPw_s (by omega)] at h6
        have h7 : 0 ≤ b * s 1 := Int.mul_nonneg h3 (by omega)
        exact ih (m + 1) (b * s 1 + x) q (by omega) (by omega) (by omega) (by omega) hq
theorem zSr_w {s : Int → Int} (hW : zWf s) : 0 ≤ (zSr s).1 ∧ (zSr s).1 < zWords s := by
  have hL := hW.2.1
  have w2 := hW.2.2.1
  have e1 : zPw (s 1) 1 = s 1 := by
    have := zPw_s (b := s 1) (k := 0) (by omega)
    rw [zPw_0, Int.one_mul] at this
    exact this
  have h := (zFd_I (f := fun x q => zAk (zFb s) (s 2) (s 1) 6 1 x q) (a := (-1, 0, 0, 0)) (fun _ (q : zQ) => (q.1 = -1 ∨ (0 ≤ q.1 ∧ q.1 < zWords s))) (Or.inl rfl) (s 1).toNat (fun x q hx hx2 hq => zAk_w hW 6 1 x q (by omega) (by omega) hx (by omega) hq))
  have h2 := (zSr_min hW.k).1
  rcases h with h | h
  · exact absurd h h2
  · exact h
end ZCD
