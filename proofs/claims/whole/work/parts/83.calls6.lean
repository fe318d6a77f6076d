section ZCH
variable {σ : CS} {m : CV}
/-- of a class state that changed at 9, 6, 3 alone -/
theorem zRR_9 {P : CV} (h : zRR σ m) : zRR (zSu σ 9 P) m := zRR_c h (fun k _ _ k9 => zSu_n k9)
theorem s_agreement (h : zRR σ m) : zOk (fX7_agreement σ) (fun t => zOk (fX8_agreement m) (fun u => zRR t.1 u.1 ∧ t.2 = u.2 ∧ iR t.2)) := by
  unfold fX7_agreement fX8_agreement
  refine zok_b (c_agreementOf h.W h.B) (fun x hx => zok_s ?_)
  refine zok_b (m_agrees (m := zPu m 0 0) (s := m.2 2) rfl h.W) (fun y hy => zok_s ⟨zRR_9 (zRR_x h hy.1 (by decide) (by decide)), hx.trans hy.2.symm, ?_⟩)
  have := zAg_r h.W
  show iR x.2
  rw [hx]
  exact ⟨by omega, by omega⟩
theorem s_weight (h : zRR σ m) {r i : Int} (hr : iR r) (hi : iR i) : zCl [zIO] (fX7_weight σ r i) (fX8_weight m r i) := by
  have w1 := h.W.2.1
  refine zRow_c h hr (fun r0 r1 a b => ?_) (fun a b => ?_)
  · unfold zCl fX7_weight fX8_weight
    have hrow := h.W.row r0 r1
    have hsz := hrow.1
    refine zok_el a ?_
    refine zok_e (b_isPlace h.W h.B r0 r1 hi) ?_
    have hw := zWg_r h.W (but := r) (u := fun j => zl (m.2 2) r (i + j))
    rcases zPl_c (s := m.2 2) (r := r) (i := i) with ⟨hp, hP⟩ | ⟨hp, hP⟩
    · refine zok_t hp ?_
      refine zok_b (c_fill h.W h.B hr) (fun x hx => ?_)
      refine zok_b (b_codeAt h.W h.B r0 r1 hP.2.1 hP.2.2.1) (fun cd hcd => ?_)
      refine zok_e (c_weightOf h.W hx.2.1 hx.2.2 hcd (fun j j0 j1 => by have := hrow.2.2.2.2.1 (i + j) (by have := hP.2.1; omega) (by have := hP.2.2.1; omega); omega)) (zok_s ?_)
      refine zok_e b ?_
      refine zok_e m_go1 ?_
      refine zok_t rfl ?_
      refine zok_b (m_laysProfile (m := zPu m 0 0) (s := m.2 2) rfl h.W hr) (fun y hy => ?_)
      have y2 : y.2 2 = m.2 2 := hy.1.2 2 (by decide)
      refine zok_e (m_isPlace y2 h.W r0 r1 hi) ?_
      refine zok_t hp ?_
      refine zok_e (m_weighs y2 h.W hy.2 r0 r1 hP.2.1 hP.2.2.1) (zok_s ⟨zRR_9 (zRR_x h hy.1 (by decide) (by decide)), zAn_v (zCode0 hy.1 (by decide)) rfl ⟨by omega, by omega⟩⟩)
    · refine zok_f (by rw [hp]; decide) (zok_s ?_)
      refine zok_e b ?_
      refine zok_e m_go1 ?_
      refine zok_t rfl ?_
      refine zok_b (m_laysProfile (m := zPu m 0 0) (s := m.2 2) rfl h.W hr) (fun y hy => ?_)
      have y2 : y.2 2 = m.2 2 := hy.1.2 2 (by decide)
      refine zok_e (m_isPlace y2 h.W r0 r1 hi) ?_
      refine zok_f (by rw [hp]; decide) (zok_s ⟨zRR_x h hy.1 (by decide) (by decide), zAn_v (zCode0 hy.1 (by decide)) rfl (by decide)⟩)
  · unfold zCl fX7_weight fX8_weight
    refine zok_er a (zok_s ?_)
    refine zok_e b ?_
    refine zok_e m_go0 ?_
    refine zok_f Bool.false_ne_true ?_
    exact zok_s ⟨zRR_0 h, zAn_e 0 rfl rfl⟩
theorem s_setChanges (h : zRR σ m) {n : Int} (hn : iR n) : zCl [zIA] (fX7_setChanges σ n) (fX8_setChanges m n) := by
  unfold zCl fX7_setChanges fX8_setChanges
  have w3 := h.W.2.2.2.1
  have hc : fX7_isCountOfChanges n = some (decide (0 ≤ n ∧ n ≤ 3)) := by
    apply zok_q
    unfold fX7_isCountOfChanges
    (repeat (first | (with_reducible refine zok_g ?_ ?_; focus omega) | with_reducible refine zok_j ?_ | (with_reducible refine zok_t ?_ ?_; focus omega) | (with_reducible refine zok_f ?_ ?_; focus omega)))
    refine zok_i (fun c => zok_s (decide_eq_false (by omega)).symm) (fun c => ?_)
    (repeat (first | (with_reducible refine zok_g ?_ ?_; focus omega) | with_reducible refine zok_j ?_ | (with_reducible refine zok_t ?_ ?_; focus omega) | (with_reducible refine zok_f ?_ ?_; focus omega)))
    exact zok_i (fun c2 => zok_s (decide_eq_false (by omega)).symm) (fun c2 => zok_s (decide_eq_true (by omega)).symm)
  have hin := m_isIn (a := n) (lo := 0) (hi := 3) ⟨by omega, by omega⟩ (by decide) (by decide)
  refine zok_e hc ?_
  refine zok_i (fun c => ?_) (fun c => zok_s ?_)
  · have c1 := of_decide_eq_true c
    refine zok_b (x_keepPast h) (fun τ hτ => ?_)
    have e4 : τ 4 = σ 4 := hτ.1 4 (by decide) (by omega)
    unfold fX7_putChanges
    refine zok_e (t := zSu (zSu (zSu τ 7 (zPu (τ 7) 8 0)) 8 (zPu (τ 8) 8 0)) 4 (zPu (τ 4) 2 n)) ?_ (zok_s ?_)
    · apply zok_q
      refine zok_e x_forget (zok_s ?_)
      rw [zSu_n (by decide), zSu_n (by decide)]
    (repeat (first | (with_reducible refine zok_g ?_ ?_; focus omega) | with_reducible refine zok_j ?_ | (with_reducible refine zok_t ?_ ?_; focus omega) | (with_reducible refine zok_f ?_ ?_; focus omega)))
    rw [decide_eq_true c1] at hin
    refine zok_e hin ?_
    refine zok_e m_go1 ?_
    refine zok_t rfl ?_
    refine m_aside (p := True) (fun t tE t0 tA => ?_)
    have ts : t.2 2 = m.2 2 := tE.2 2 (by decide)
    unfold fX8_setsChanges
    refine zok_e rfl ?_
    have hE : zEx [0] [2, 5] m (zPa t 2 3 n) := zEx_a (zEx_w tE (fun _ h => h) (by decide)) (by decide)
    refine m_kept (by rw [hE.1 22 (by decide)]; exact h.2.2.2.1.2.1) (fun u uE u22 uP => ⟨?_, ?_⟩)
    · have z2 : (zPa t 2 3 n).2 2 = zup (m.2 2) 3 n := by rw [zPa_s, ts]
      refine zRR_k2 h hτ (fun k k4 k7 k8 k9 => ?_) ?_ ?_ hE (by decide) z2 (by rw [zPa_n (by decide)]; exact tA) ?_ (zup_n (by omega)) uE u22 uP
      · dsimp only
        rw [zSu_n k4, zSu_n k8, zSu_n k7]
      · dsimp only
        rw [zSu_n (by decide), zSu_n (by decide), zSu_s]
      · dsimp only
        rw [zSu_n (by decide), zSu_s]
      · dsimp only
        rw [zSu_s, e4]
        have e : ∀ k, k ≠ 3 → zup (m.2 2) 3 n k = m.2 2 k := fun k hk => zup_n hk
        have ef : ∀ r k, 0 ≤ r → 0 ≤ k → zf (zup (m.2 2) 3 n) r k = zf (m.2 2) r k := fun r k a b => e _ (by omega)
        have el : ∀ r k, 0 ≤ r → 0 ≤ k → zl (zup (m.2 2) 3 n) r k = zl (m.2 2) r k := fun r k a b => e _ (by omega)
        obtain ⟨⟨w0, w1, w2, _, w4, w5, w6⟩, ⟨g0, g1, g2, g3, g4, g5, g6, g7⟩, hnm⟩ := h.2.1
        refine ⟨⟨by rw [e 0 (by omega)]; exact w0, by rw [e 1 (by omega)]; exact w1, by rw [e 2 (by omega)]; exact w2, by rw [zup_s]; exact c1, by rw [e 4 (by omega)]; exact w4, fun k k0 k1 => ?_, fun r r0 r1 => ?_⟩, ⟨by rw [e 1 (by omega)]; exact g0, by rw [e 2 (by omega)]; exact g1, by rw [zup_s, zPu_s], by rw [e 0 (by omega)]; exact g3, by rw [e 4 (by omega)]; exact g4, fun k k0 k1 => ?_, by rw [e 0 (by omega)]; exact g6, fun r r0 r1 => ?_⟩, fun r r0 r1 => ?_⟩
        · unfold zWords
          rw [e 4 (by omega)] at k1
          rw [e (5 + k) (by omega), e 1 (by omega), e 2 (by omega)]
          exact w5 k k0 k1
        · rw [e 0 (by omega)] at r1
          obtain ⟨a0, a1, a2, a3, a4, a5⟩ := w6 r r0 r1
          unfold zRw zPlP
          rw [ef r 0 r0 (by omega), ef r 1 r0 (by omega), ef r 2 r0 (by omega), ef r 3 r0 (by omega), e 1 (by omega), e 2 (by omega)]
          exact ⟨a0, a1, a2, a3, fun i i0 i1 => by rw [el r i r0 i0]; exact a4 i i0 i1, a5⟩
        · rw [e 4 (by omega)] at k1
          rw [e (5 + k) (by omega)]
          exact g5 k k0 k1
        · rw [e 0 (by omega)] at r1
          obtain ⟨a0, a1, a2, a3, a4⟩ := g7 r r0 r1
          rw [ef r 0 r0 (by omega), ef r 1 r0 (by omega), ef r 2 r0 (by omega), ef r 3 r0 (by omega)]
          exact ⟨a0, a1, a2, a3, a4.ext (fun j j0 _ => (el r j r0 j0).symm)⟩
        · rw [e 0 (by omega)] at r1
          exact hnm r r0 r1
    · refine zAn_v ((uE.1 0 (by decide)).trans t0) ?_ ?_
      · show (τ 4).1 2 = t.2 2 3
        rw [e4, h.B.2.2.1, ts]
      · show iR ((τ 4).1 2)
        rw [e4, h.B.2.2.1]
        exact ⟨by omega, by omega⟩
  · (repeat (first | (with_reducible refine zok_g ?_ ?_; focus omega) | with_reducible refine zok_j ?_ | (with_reducible refine zok_t ?_ ?_; focus omega) | (with_reducible refine zok_f ?_ ?_; focus omega)))
    rw [decide_eq_false (fun z => c (decide_eq_true z))] at hin
    refine zok_e hin ?_
    refine zok_e m_go0 ?_
    refine zok_f Bool.false_ne_true ?_
    exact zok_s ⟨zRR_0 h, zAn_e 0 rfl rfl⟩
theorem zRR_t {T' m' : CV} {ns js : List Nat} (h : zRR σ m) (e : zEx ns js m m') (h1 : ∀ k ∈ [22, 23, 47, 48], k ∉ ns) (h2 : ∀ k ∈ [2, 3, 4, 7, 8, 20], k ∉ js) (hT : zRt T' m') : zRR (zSu σ 1 T') m' := by
  obtain ⟨r1, r2, r3, r4, r5, r6, r7⟩ := h
  have a := fun k hk => e.1 k (h1 k hk)
  have b := fun k hk => e.2 k (h2 k hk)
  refine ⟨?_, ?_, ?_, ⟨?_, ?_, fun p q0 q1 => ?_⟩, ?_, ?_, ?_⟩
  · rw [zSu_s]; exact hT
  · rw [zSu_n (by decide), b 2 (by decide), b 7 (by decide)]; exact r2
  · unfold zRs at r3 ⊢
    rw [zSu_n (by decide), zSu_n (by decide), a 23 (by decide), b 3 (by decide), b 8 (by decide)]; exact r3
  · rw [zSu_n (by decide), a 22 (by decide)]; exact r4.1
  · rw [a 22 (by decide)]; exact r4.2.1
  · rw [a 22 (by decide)] at q1
    have e1 : zPt m' p = zPt m p := by unfold zPt; rw [b 4 (by decide)]
    rw [zSu_n (by omega), e1, b 7 (by decide), b 2 (by decide)]; exact r4.2.2 p q0 q1
  · rw [zSu_n (by decide), zSu_n (by decide), b 2 (by decide)]; exact r5
  · rw [zSu_n (by decide)]; exact r6
  · unfold zRr at r7 ⊢
    rw [zSu_n (by decide), a 47 (by decide), a 48 (by decide), b 20 (by decide)]; exact r7
theorem s_truncate (h : zRR σ m) {n : Int} (hn : iR n) : zCl [zIA] (fX7_truncate σ n) (fX8_truncate m n) := by
  unfold zCl fX7_truncate fX8_truncate
  obtain ⟨r1, r2, r3, r4, r5, r6, r7⟩ := id h
  have hf := r1.1
  have hin := m_isIn (a := n) (lo := 0) (hi := m.1 2) ⟨by omega, by omega⟩ (by decide) ⟨by omega, by omega⟩
  rw [hf.1]
  by_cases c : 0 ≤ n ∧ n ≤ m.1 2
  · rw [decide_eq_true c] at hin
    (repeat (first | (with_reducible refine zok_g ?_ ?_; focus omega) | with_reducible refine zok_j ?_ | (with_reducible refine zok_t ?_ ?_; focus omega) | (with_reducible refine zok_f ?_ ?_; focus omega)))
    refine zok_s ?_
    (repeat (first | (with_reducible refine zok_g ?_ ?_; focus omega) | with_reducible refine zok_j ?_ | (with_reducible refine zok_t ?_ ?_; focus omega) | (with_reducible refine zok_f ?_ ?_; focus omega)))
    refine zok_e hin ?_
    refine zok_e m_go1 ?_
    obtain ⟨_, b, d, e⟩ := r1
    exact zok_t rfl (zok_s ⟨zRR_t (ns := [0, 2]) (js := []) h (zEx_u (zEx_u zEx_0 (by decide)) (by decide)) (by decide) (by decide) ⟨⟨rfl, c.1, by show n ≤ 600; omega⟩, fun k k0 k1 => b k k0 (by have : k < n := k1; omega), d, e⟩, zAn_v rfl rfl hn⟩)
  · rw [decide_eq_false c] at hin
    have e : zOk (some (σ, (Sum.inr zIA : Int ⊕ String))) (fun t => zOk (zG (iR n) <| zG (iR (m.1 2)) <| (fX8_isIn n 0 (m.1 2)).bind fun t3 => (fX8_goes m (b2 t3)).bind fun t5 => if t5.2 = true then (some ((zPu t5.1 2 n), n)) else (some (t5.1, 0))) (fun u => zRR t.1 u.1 ∧ zAn [zIA] t.2 (u.1.1 0) u.2)) := by
      refine zok_s ?_
      (repeat (first | (with_reducible refine zok_g ?_ ?_; focus omega) | with_reducible refine zok_j ?_ | (with_reducible refine zok_t ?_ ?_; focus omega) | (with_reducible refine zok_f ?_ ?_; focus omega)))
      refine zok_e hin ?_
      refine zok_e m_go0 ?_
      refine zok_f Bool.false_ne_true ?_
      exact zok_s ⟨zRR_0 h, zAn_e 0 rfl rfl⟩
    by_cases c1 : n < 0
    · (repeat (first | (with_reducible refine zok_g ?_ ?_; focus omega) | with_reducible refine zok_j ?_ | (with_reducible refine zok_t ?_ ?_; focus omega) | (with_reducible refine zok_f ?_ ?_; focus omega)))
      exact e
    · (repeat (first | (with_reducible refine zok_g ?_ ?_; focus omega) | with_reducible refine zok_j ?_ | (with_reducible refine zok_t ?_ ?_; focus omega) | (with_reducible refine zok_f ?_ ?_; focus omega)))
      exact e
end ZCH
