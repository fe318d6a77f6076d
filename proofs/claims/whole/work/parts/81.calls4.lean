section ZCE
variable {σ : CS} {m : CV}
theorem zSq_p {T : CV} {q : zQ} (h : zSq T = q) : T.1 9 = q.1 ∧ T.1 10 = q.2.1 ∧ T.1 11 = q.2.2.1 ∧ T.1 12 = q.2.2.2 := by rw [← h]; exact ⟨rfl, rfl, rfl, rfl⟩
theorem zM_p {t : CV} {q : zQ} (h : (t.1 31, t.1 32, t.1 33, t.1 34) = q) : t.1 31 = q.1 ∧ t.1 32 = q.2.1 ∧ t.1 33 = q.2.2.1 ∧ t.1 34 = q.2.2.2 := by rw [← h]; exact ⟨rfl, rfl, rfl, rfl⟩
theorem s_takeBest (h : zRR σ m) : zCl [zIS] (fX7_takeBest σ) (fX8_takeBest m) := by
  unfold zCl fX7_takeBest fX8_takeBest
  have ⟨w0, w1⟩ := zSr_w h.W
  (repeat (first | (with_reducible refine zok_g ?_ ?_; focus omega) | with_reducible refine zok_j ?_ | (with_reducible refine zok_t ?_ ?_; focus omega) | (with_reducible refine zok_f ?_ ?_; focus omega)))
  refine zok_b (x_searched h) (fun ρ hρ => ?_)
  obtain ⟨ρk, ρ8, ρS, ρC, _, _, hρ⟩ := hρ
  have e9 := (zSq_p ρS.2.2.2).1
  have e4ρ : ρ 4 = σ 4 := ρk 4 (by decide)
  rw [e9]
  refine zok_e (b_reasonAgainst hρ.W hρ.B w0 w1) ?_
  have hy := zWy_c (s := m.2 2) (w := (zSr (m.2 2)).1)
  (repeat (first | (with_reducible refine zok_g ?_ ?_; focus omega) | with_reducible refine zok_j ?_ | (with_reducible refine zok_t ?_ ?_; focus omega) | (with_reducible refine zok_f ?_ ?_; focus omega)))
  have mod : ∀ (Q : CV × Int → Prop), (∀ g : CV, zEx [31, 32, 33, 34] [10] m g → g.1 31 = (zSr (m.2 2)).1 → zOk ((fX8_whyTake g (zSr (m.2 2)).1).bind fun t3 => zJn (σ := Int) (ρ := CV × Int) (fun x7 => (fX8_goes t3.1 x7).bind fun t8 => if t8.2 = true then ((fX8_laysAside t8.1).bind fun t11 => (fX8_takes t11 (zSr (m.2 2)).1).bind fun t13 => (fX8_kept t13.1 (zSr (m.2 2)).1).bind fun t15 => some (t15.1, t15.2)) else (some (t8.1, 0))) (fun j7 => zG (iR t3.2) <| if t3.2 = 0 then (j7 1) else (j7 0))) Q) → zOk ((fX8_searches m).bind fun t1 => (fX8_whyTake t1 (t1.1 31)).bind fun t3 => zJn (σ := Int) (ρ := CV × Int) (fun x7 => (fX8_goes t3.1 x7).bind fun t8 => if t8.2 = true then ((fX8_laysAside t8.1).bind fun t11 => (fX8_takes t11 (t1.1 31)).bind fun t13 => (fX8_kept t13.1 (t1.1 31)).bind fun t15 => some (t15.1, t15.2)) else (some (t8.1, 0))) (fun j7 => zG (iR t3.2) <| if t3.2 = 0 then (j7 1) else (j7 0))) Q := by
    intro Q hQ
    refine zok_b (m_searches h.W rfl) (fun g hg => ?_)
    have e31 := (zM_p hg.2).1
    rw [e31]
    exact hQ g hg.1 e31
  refine zok_i (fun c => ?_) (fun c => zok_s ?_)
  · have h46 := (zHas h.W c).1
    refine zok_b (x_keepPast hρ) (fun τ hτ => ?_)
    have e4 : τ 4 = ρ 4 := hτ.1 4 (by decide) (by omega)
    refine zok_e x_forget ?_
    rw [zSu_n (by decide), zSu_n (by decide), e4]
    refine zok_b (c_cover hρ.W hρ.B w0 w1) (fun x hx => zok_s ?_)
    rw [if_pos c] at hx
    refine mod _ (fun g gE g31 => ?_)
    have g2 : g.2 2 = m.2 2 := gE.2 2 (by decide)
    refine zok_b (m_whyTake g2 h.W w0 w1) (fun q hq => ?_)
    obtain ⟨qE, qv⟩ := hq
    rw [qv, c]
    (repeat (first | (with_reducible refine zok_g ?_ ?_; focus omega) | with_reducible refine zok_j ?_ | (with_reducible refine zok_t ?_ ?_; focus omega) | (with_reducible refine zok_f ?_ ?_; focus omega)))
    refine zok_e m_go1 ?_
    refine zok_t rfl ?_
    have qE2 : zEx [31, 32, 33, 34] [10] m q.1 := zEx_t gE (zEx_w qE (by decide) (fun _ h => h))
    have q2 : q.1.2 2 = m.2 2 := qE2.2 2 (by decide)
    have hρq : zRR ρ q.1 := zRR_m hρ qE2 (by decide) (by decide)
    have hτq : zKd ρ τ q.1 := by
      unfold zKd zPt at hτ ⊢
      rw [qE2.1 22 (by decide), qE2.2 4 (by decide), qE2.2 7 (by decide), q2]
      exact hτ
    refine m_aside (m := q.1) (p := True) (fun t tE t0 tA => ?_)
    have ts : t.2 2 = m.2 2 := (tE.2 2 (by decide)).trans q2
    refine zok_b (m_takes ts h.W w0 w1 h46) (fun y hy2 => ?_)
    obtain ⟨yE, y2, yv⟩ := hy2
    have yE2 : zEx [0] [2, 5, 10] q.1 y.1 := zEx_t (zEx_w tE (fun _ h => h) (by decide)) (zEx_w yE (by decide) (by decide))
    refine m_kept (by rw [yE2.1 22 (by decide)]; exact hρq.2.2.2.1.2.1) (fun u uE u22 uP => ⟨?_, ?_⟩)
    · refine zRR_k2 hρq hτq (fun k k4 k7 k8 k9 => ?_) ?_ ?_ yE2 (by decide) y2 (by rw [yE.2 5 (by decide)]; exact tA) ?_ (by rw [q2]; exact zTk_0 h.W) uE u22 uP
      · dsimp only
        rw [zSu_n k4, zSu_n k8, zSu_n k7]
      · dsimp only
        rw [zSu_n (by decide), zSu_n (by decide), zSu_s]
      · dsimp only
        rw [zSu_n (by decide), zSu_s]
      · dsimp only
        rw [zSu_s, qE2.2 7 (by decide)]
        exact zB1_tk hρ.2.1 w0 w1 c hx.1 hx.2.2
    · refine zAn_v ((uE.1 0 (by decide)).trans ((yE.1 0 (by decide)).trans t0)) rfl ?_
      have := zWords_r h.W
      exact ⟨by omega, by omega⟩
  · refine mod _ (fun g gE g31 => ?_)
    have g2 : g.2 2 = m.2 2 := gE.2 2 (by decide)
    refine zok_b (m_whyTake g2 h.W w0 w1) (fun q hq => ?_)
    obtain ⟨qE, qv⟩ := hq
    rw [qv]
    (repeat (first | (with_reducible refine zok_g ?_ ?_; focus omega) | with_reducible refine zok_j ?_ | (with_reducible refine zok_t ?_ ?_; focus omega) | (with_reducible refine zok_f ?_ ?_; focus omega)))
    refine zok_e m_go0 ?_
    refine zok_f Bool.false_ne_true ?_
    have qE2 : zEx [31, 32, 33, 34] [10] m q.1 := zEx_t gE (zEx_w qE (by decide) (fun _ h => h))
    exact zok_s ⟨zRR_0 (zRR_m hρ qE2 (by decide) (by decide)), zAn_e 0 rfl rfl⟩
theorem zAk_c (hW : zWf (m.2 2)) : ∀ (d : Nat) (k b : Int) (q : zQ), (0 ≤ q.2.2.1 ∧ 0 ≤ q.2.2.2 ∧ q.2.2.2 ≤ q.2.2.1) → (q.2.2.1 ≤ (zAk (zFb (m.2 2)) (m.2 2 2) (m.2 2 1) d k b q).2.2.1 ∧ 3 * (zAk (zFb (m.2 2)) (m.2 2 2) (m.2 2 1) d k b q).2.2.1 + 1 ≤ 3 * q.2.2.1 + ((4 ^ d : Nat) : Int)) ∧ (0 ≤ (zAk (zFb (m.2 2)) (m.2 2 2) (m.2 2 1) d k b q).2.2.2 ∧ (zAk (zFb (m.2 2)) (m.2 2 2) (m.2 2 1) d k b q).2.2.2 ≤ (zAk (zFb (m.2 2)) (m.2 2 2) (m.2 2 1) d k b q).2.2.1) := by
  have hL := hW.2.1
  intro d
  induction d with
  | zero => intro k b q h; exact ⟨⟨Int.le_refl _, by show 3 * q.2.2.1 + 1 ≤ 3 * q.2.2.1 + 1; omega⟩, h.2.1, h.2.2⟩
  | succ d ih =>
    intro k b q h
    rw [zAk_s]
    obtain ⟨P, hP⟩ : ∃ P : Nat, P = 4 ^ d := ⟨_, rfl⟩
    have hP1 : 1 ≤ P := by rw [hP]; exact Nat.one_le_pow _ _ (by omega)
    have hP4 : 4 ^ (d + 1) = P * 4 := by rw [hP, Nat.pow_succ]
    rw [hP4]
    rw [← hP] at ih
    split
    · exact ⟨⟨by show q.2.2.1 ≤ q.2.2.1 + 1; omega, by show 3 * (q.2.2.1 + 1) + 1 ≤ 3 * q.2.2.1 + _; omega⟩, by show 0 ≤ q.2.2.2 + 1; omega, by show q.2.2.2 + 1 ≤ q.2.2.1 + 1; omega⟩
    · split
      · exact ⟨⟨by show q.2.2.1 ≤ q.2.2.1 + 1; omega, by show 3 * (q.2.2.1 + 1) + 1 ≤ 3 * q.2.2.1 + _; omega⟩, by show 0 ≤ q.2.2.2; omega, by show q.2.2.2 ≤ q.2.2.1 + 1; omega⟩
      · have key := zFd_I (f := fun x q => zAk (zFb (m.2 2)) (m.2 2 2) (m.2 2 1) d (k + 1) (b * m.2 2 1 + x) q) (a := (q.1, q.2.1, q.2.2.1 + 1, q.2.2.2)) (fun x (q' : zQ) => (q.2.2.1 + 1 ≤ q'.2.2.1 ∧ 3 * q'.2.2.1 ≤ 3 * (q.2.2.1 + 1) + x * ((P : Int) - 1)) ∧ (0 ≤ q'.2.2.2 ∧ q'.2.2.2 ≤ q'.2.2.1)) ⟨⟨Int.le_refl _, by show 3 * (q.2.2.1 + 1) ≤ _; rw [Int.zero_mul]; omega⟩, by show 0 ≤ q.2.2.2; omega, by show q.2.2.2 ≤ q.2.2.1 + 1; omega⟩ (m.2 2 1).toNat (fun x q' hx hx2 hq' => by
          have hi := ih (k + 1) (b * m.2 2 1 + x) q' ⟨by omega, hq'.2⟩
          refine ⟨⟨by omega, ?_⟩, hi.2⟩
          rw [Int.add_mul, Int.one_mul]
          omega)
        have hb : (((m.2 2 1).toNat : Nat) : Int) * ((P : Int) - 1) ≤ 4 * ((P : Int) - 1) := Int.mul_le_mul_of_nonneg_right (by omega) (by omega)
        have fin : ∀ Z : zQ, ((q.2.2.1 + 1 ≤ Z.2.2.1 ∧ 3 * Z.2.2.1 ≤ 3 * (q.2.2.1 + 1) + (((m.2 2 1).toNat : Nat) : Int) * ((P : Int) - 1)) ∧ (0 ≤ Z.2.2.2 ∧ Z.2.2.2 ≤ Z.2.2.1)) → ((q.2.2.1 ≤ Z.2.2.1 ∧ 3 * Z.2.2.1 + 1 ≤ 3 * q.2.2.1 + ((P * 4 : Nat) : Int)) ∧ (0 ≤ Z.2.2.2 ∧ Z.2.2.2 ≤ Z.2.2.1)) := by
          intro Z hk
          clear hP hP4 key ih
          rw [Int.natCast_mul]
          omega
        exact fin _ key
theorem zSr_c (hW : zWf (m.2 2)) : iR (zSr (m.2 2)).2.2.1 ∧ iR (zSr (m.2 2)).2.2.2 := by
  have hL := hW.2.1
  have key := zFd_I (f := fun x q => zAk (zFb (m.2 2)) (m.2 2 2) (m.2 2 1) 6 1 x q) (a := (-1, 0, 0, 0)) (fun x (q' : zQ) => (0 ≤ q'.2.2.1 ∧ q'.2.2.1 ≤ 1365 * x) ∧ (0 ≤ q'.2.2.2 ∧ q'.2.2.2 ≤ q'.2.2.1)) ⟨⟨Int.le_refl 0, by decide⟩, Int.le_refl 0, Int.le_refl 0⟩ (m.2 2 1).toNat (fun x q' hx hx2 hq' => by
    have hi := zAk_c hW 6 1 x q' ⟨hq'.1.1, hq'.2⟩
    have e : ((4 ^ 6 : Nat) : Int) = 4096 := rfl
    rw [e] at hi
    exact ⟨⟨by omega, by omega⟩, hi.2⟩)
  obtain ⟨⟨k1, k2⟩, k3, k4⟩ := key
  have e : zSr (m.2 2) = zFd (fun x q => zAk (zFb (m.2 2)) (m.2 2 2) (m.2 2 1) 6 1 x q) (m.2 2 1).toNat (-1, 0, 0, 0) := rfl
  rw [← e] at k1 k2 k3 k4
  exact ⟨⟨by omega, by omega⟩, by omega, by omega⟩
theorem s_best (h : zRR σ m) {w : Int} (hw : iR w) : zCl [zIA] (fX7_best σ w) (fX8_best m w) := by
  unfold zCl fX7_best fX8_best
  have hr := zSr_r h.W
  have hc := zSr_c h.W
  have hin := m_isIn (a := w) (lo := 0) (hi := 3) ⟨by omega, by omega⟩ (by decide) (by decide)
  have mod : 0 ≤ w ∧ w ≤ 3 → ∀ t : CS × (Int ⊕ String), zRR t.1 m → (∃ v, t.2 = .inl v ∧ iR v ∧ ((w = 0 ∧ v = (zSr (m.2 2)).1) ∨ (w = 1 ∧ v = (zSr (m.2 2)).2.1) ∨ (w = 2 ∧ v = (zSr (m.2 2)).2.2.1) ∨ (w = 3 ∧ v = (zSr (m.2 2)).2.2.2))) → zOk (zG (iR w) <| (fX8_isIn w 0 3).bind fun t2 => (fX8_goes m (b2 t2)).bind fun t4 => if t4.2 = true then ((fX8_searches t4.1).bind fun t7 => if w = 0 then (some (t7, t7.1 31)) else (if w = 1 then (some (t7, t7.1 32)) else (if w = 2 then (some (t7, t7.1 33)) else (some (t7, t7.1 34))))) else (some (t4.1, 0))) (fun u => zRR t.1 u.1 ∧ zAn [zIA] t.2 (u.1.1 0) u.2) := by
    intro hw1 t ht ⟨v, ev, hv, hcase⟩
    rw [decide_eq_true hw1] at hin
    (repeat (first | (with_reducible refine zok_g ?_ ?_; focus omega) | with_reducible refine zok_j ?_ | (with_reducible refine zok_t ?_ ?_; focus omega) | (with_reducible refine zok_f ?_ ?_; focus omega)))
    refine zok_e hin ?_
    refine zok_e m_go1 ?_
    refine zok_t rfl ?_
    refine zok_b (m_searches (m := zPu m 0 0) (s := m.2 2) h.W rfl) (fun g hg => ?_)
    obtain ⟨g1, g2, g3, g4⟩ := zM_p hg.2
    have hR := zRR_x ht hg.1 (by decide) (by decide)
    have h0 := zCode0 hg.1 (by decide)
    rw [ev, g1, g2, g3, g4]
    rcases hcase with ⟨a, b⟩ | ⟨a, b⟩ | ⟨a, b⟩ | ⟨a, b⟩
    · (repeat (first | (with_reducible refine zok_g ?_ ?_; focus omega) | with_reducible refine zok_j ?_ | (with_reducible refine zok_t ?_ ?_; focus omega) | (with_reducible refine zok_f ?_ ?_; focus omega))); exact zok_s ⟨hR, zAn_v h0 b hv⟩
    · (repeat (first | (with_reducible refine zok_g ?_ ?_; focus omega) | with_reducible refine zok_j ?_ | (with_reducible refine zok_t ?_ ?_; focus omega) | (with_reducible refine zok_f ?_ ?_; focus omega))); exact zok_s ⟨hR, zAn_v h0 b hv⟩
    · (repeat (first | (with_reducible refine zok_g ?_ ?_; focus omega) | with_reducible refine zok_j ?_ | (with_reducible refine zok_t ?_ ?_; focus omega) | (with_reducible refine zok_f ?_ ?_; focus omega))); exact zok_s ⟨hR, zAn_v h0 b hv⟩
    · (repeat (first | (with_reducible refine zok_g ?_ ?_; focus omega) | with_reducible refine zok_j ?_ | (with_reducible refine zok_t ?_ ?_; focus omega) | (with_reducible refine zok_f ?_ ?_; focus omega))); exact zok_s ⟨hR, zAn_v h0 b hv⟩
  (repeat (first | (with_reducible refine zok_g ?_ ?_; focus omega) | with_reducible refine zok_j ?_ | (with_reducible refine zok_t ?_ ?_; focus omega) | (with_reducible refine zok_f ?_ ?_; focus omega)))
  refine zok_i (fun c => ?_) (fun c => ?_)
  · (repeat (first | (with_reducible refine zok_g ?_ ?_; focus omega) | with_reducible refine zok_j ?_ | (with_reducible refine zok_t ?_ ?_; focus omega) | (with_reducible refine zok_f ?_ ?_; focus omega)))
    refine zok_b (x_searched h) (fun ρ hρ => zok_s ?_)
    obtain ⟨p1, p2, p3, p4⟩ := zSq_p hρ.2.2.1.2.2.2
    exact mod (by omega) _ hρ.2.2.2.2.2.2 ⟨_, rfl, by rw [p1]; exact ⟨by have := hr.1; omega, by have := hr.1; omega⟩, Or.inl ⟨c, p1⟩⟩
  refine zok_i (fun c => ?_) (fun c => ?_)
  · (repeat (first | (with_reducible refine zok_g ?_ ?_; focus omega) | with_reducible refine zok_j ?_ | (with_reducible refine zok_t ?_ ?_; focus omega) | (with_reducible refine zok_f ?_ ?_; focus omega)))
    refine zok_b (x_searched h) (fun ρ hρ => zok_s ?_)
    obtain ⟨p1, p2, p3, p4⟩ := zSq_p hρ.2.2.1.2.2.2
    exact mod (by omega) _ hρ.2.2.2.2.2.2 ⟨_, rfl, by rw [p2]; exact ⟨by have := hr.2; omega, by have := hr.2; omega⟩, Or.inr (Or.inl ⟨c, p2⟩)⟩
  refine zok_i (fun c => ?_) (fun c => ?_)
  · (repeat (first | (with_reducible refine zok_g ?_ ?_; focus omega) | with_reducible refine zok_j ?_ | (with_reducible refine zok_t ?_ ?_; focus omega) | (with_reducible refine zok_f ?_ ?_; focus omega)))
    refine zok_b (x_searched h) (fun ρ hρ => zok_s ?_)
    obtain ⟨p1, p2, p3, p4⟩ := zSq_p hρ.2.2.1.2.2.2
    exact mod (by omega) _ hρ.2.2.2.2.2.2 ⟨_, rfl, by rw [p3]; exact hc.1, Or.inr (Or.inr (Or.inl ⟨c, p3⟩))⟩
  refine zok_i (fun c => ?_) (fun c => zok_s ?_)
  · (repeat (first | (with_reducible refine zok_g ?_ ?_; focus omega) | with_reducible refine zok_j ?_ | (with_reducible refine zok_t ?_ ?_; focus omega) | (with_reducible refine zok_f ?_ ?_; focus omega)))
    refine zok_b (x_searched h) (fun ρ hρ => zok_s ?_)
    obtain ⟨p1, p2, p3, p4⟩ := zSq_p hρ.2.2.1.2.2.2
    exact mod (by omega) _ hρ.2.2.2.2.2.2 ⟨_, rfl, by rw [p4]; exact hc.2, Or.inr (Or.inr (Or.inr ⟨c, p4⟩))⟩
  · (repeat (first | (with_reducible refine zok_g ?_ ?_; focus omega) | with_reducible refine zok_j ?_ | (with_reducible refine zok_t ?_ ?_; focus omega) | (with_reducible refine zok_f ?_ ?_; focus omega)))
    rw [decide_eq_false (by omega)] at hin
    refine zok_e hin ?_
    refine zok_e m_go0 ?_
    refine zok_f Bool.false_ne_true ?_
    exact zok_s ⟨zRR_0 h, zAn_e 0 rfl rfl⟩
end ZCE
