section ZCG
variable {σ : CS} {m : CV}
/-- another board stands now, and the searches are forgotten -/
theorem x_replaceBoard {τ : CS} {U : CV} {s nm : Int → Int} (hB : zB1 U s nm) : zOk (fX7_replaceBoard τ U) (fun t => (∀ k, k ≠ 4 → k ≠ 7 → k ≠ 8 → t k = τ k) ∧ zB1 (t 4) s nm ∧ t 7 = zPu (τ 7) 8 0 ∧ t 8 = zPu (τ 8) 8 0) := by
  unfold fX7_replaceBoard
  refine zok_b (b_copyB hB) (fun V hV => ?_)
  refine zok_e x_forget (zok_s ⟨fun k k4 k7 k8 => ?_, ?_, ?_, ?_⟩)
  · rw [zSu_n k8, zSu_n k7, zSu_n k4]
  · rw [zSu_n (by decide), zSu_n (by decide), zSu_s]; exact hV
  · rw [zSu_n (by decide), zSu_s, zSu_n (by decide)]
  · rw [zSu_s, zSu_n (by decide)]
theorem s_undo (h : zRR σ m) : zOk (fX7_undo σ) (fun t => zOk (fX8_undo m) (fun u => zRR t.1 u.1 ∧ t.2 = u.2 ∧ iR t.2)) := by
  unfold fX7_undo fX8_undo
  obtain ⟨r1, r2, r3, ⟨p1, p2, p3⟩, r5, r6, r7⟩ := id h
  rw [p1]
  (repeat (first | (with_reducible refine zok_g ?_ ?_; focus omega) | with_reducible refine zok_j ?_ | (with_reducible refine zok_t ?_ ?_; focus omega) | (with_reducible refine zok_f ?_ ?_; focus omega)))
  refine zok_i (fun c => zok_s ?_) (fun c => ?_)
  · (repeat (first | (with_reducible refine zok_g ?_ ?_; focus omega) | with_reducible refine zok_j ?_ | (with_reducible refine zok_t ?_ ?_; focus omega) | (with_reducible refine zok_f ?_ ?_; focus omega)))
    exact zok_s ⟨zRR_0 h, rfl, (show iR (-1) by decide)⟩
  · (repeat (first | (with_reducible refine zok_g ?_ ?_; focus omega) | with_reducible refine zok_j ?_ | (with_reducible refine zok_t ?_ ?_; focus omega) | (with_reducible refine zok_f ?_ ?_; focus omega)))
    have hb := p3 (m.1 22 - 1) (by omega) (by omega)
    rw [zSu_n (by omega)]
    refine zok_b (x_replaceBoard hb.1) (fun t ht => zok_s ?_)
    obtain ⟨tk, t4, t7, t8⟩ := ht
    (repeat (first | (with_reducible refine zok_g ?_ ?_; focus omega) | with_reducible refine zok_j ?_ | (with_reducible refine zok_t ?_ ?_; focus omega) | (with_reducible refine zok_f ?_ ?_; focus omega)))
    refine zok_F (mk := fun a i => (i, a)) 351 (fun i (y : CV) => zEx [0, 22] [2] m y ∧ y.1 22 = m.1 22 - 1 ∧ ∀ j, 0 ≤ j → j < i → y.2 2 j = zPt m (m.1 22 - 1) j) rfl (by omega) ⟨zEx_u (zEx_u zEx_0 (by decide)) (by decide), rfl, fun j _ _ => by omega⟩ (fun i y hi hi2 hI => ?_) (fun i y hi hi2 hi3 hi4 hI => ?_)
    · dsimp only
      rw [hI.2.1, hI.1.2 4 (by decide)]
      (repeat (first | (with_reducible refine zok_g ?_ ?_; focus omega) | with_reducible refine zok_j ?_ | (with_reducible refine zok_t ?_ ?_; focus omega) | (with_reducible refine zok_f ?_ ?_; focus omega)))
      refine zok_sl ⟨_, rfl, zEx_a hI.1 (by decide), hI.2.1, fun j j0 j1 => ?_⟩
      rw [zPa_s]
      by_cases e : j = i
      · rw [e, zup_s]; rfl
      · rw [zup_n e]; exact hI.2.2 j j0 (by omega)
    · have ei := hi3 (by omega)
      subst ei
      obtain ⟨yE, y22, yA⟩ := hI
      dsimp only
      (repeat (first | (with_reducible refine zok_g ?_ ?_; focus omega) | with_reducible refine zok_j ?_ | (with_reducible refine zok_t ?_ ?_; focus omega) | (with_reducible refine zok_f ?_ ?_; focus omega)))
      have hag : zAgr (zPt m (m.1 22 - 1)) (y.2 2) := fun j j0 j1 => (yA j j0 j1).symm
      refine zok_sr (zok_s ⟨⟨?_, ?_, ?_, ⟨?_, ?_, fun p q0 q1 => ?_⟩, ?_, ?_, ?_⟩, ?_, ?_⟩)
      · unfold zRt at r1 ⊢
        rw [tk 1 (by decide) (by decide) (by decide), zSu_n (by decide), yE.1 2 (by decide), yE.1 11 (by decide), yE.1 12 (by decide), yE.2 1 (by decide)]
        exact r1
      · rw [yE.2 7 (by decide)]
        exact hag.b1 (fun _ _ _ => rfl) t4
      · unfold zRs at r3 ⊢
        rw [tk 0 (by decide) (by decide) (by decide), tk 5 (by decide) (by decide) (by decide), zSu_s, zSu_n (by decide), zPu_n (by decide), yE.1 23 (by decide), yE.2 3 (by decide), yE.2 8 (by decide)]
        exact r3
      · rw [tk 0 (by decide) (by decide) (by decide), zSu_s, zPu_s, y22]
      · rw [y22]; omega
      · rw [y22] at q1
        rw [tk _ (by omega) (by omega) (by omega), zSu_n (by omega), yE.2 7 (by decide)]
        have e1 : zPt y p = zPt m p := by unfold zPt; rw [yE.2 4 (by decide)]
        rw [e1]
        have e2 := p3 p q0 (by omega)
        exact ⟨e2.1, by rw [e2.2, ← hb.2]; exact hag 0 (by omega) (by omega)⟩
      · rw [t7, t8, zSu_n (by decide), zSu_n (by decide)]
        exact zRe_f r5.1.1 r5.2.1
      · rw [tk 10 (by decide) (by decide) (by decide), zSu_n (by decide)]; exact r6
      · unfold zRr at r7 ⊢
        rw [tk 0 (by decide) (by decide) (by decide), zSu_s, zPu_n (by decide), zPu_2, yE.1 47 (by decide), yE.1 48 (by decide), yE.2 20 (by decide)]
        exact r7
      · show (t 0).1 13 = y.1 22
        rw [tk 0 (by decide) (by decide) (by decide), zSu_s, zPu_s, y22]
      · show iR ((t 0).1 13)
        rw [tk 0 (by decide) (by decide) (by decide), zSu_s, zPu_s]
        exact ⟨by omega, by omega⟩
theorem s_save (h : zRR σ m) : zOk (fX7_save σ) (fun t => zOk (fX8_save m) (fun u => zRR t.1 u.1 ∧ t.2 = u.2 ∧ iR t.2)) := by
  unfold fX7_save fX8_save
  obtain ⟨r1, r2, r3, r4, r5, r6, r7⟩ := id h
  refine zok_b (b_copyB r2) (fun V hV => zok_s ?_)
  refine zok_F (mk := fun a i => (i, a)) 351 (fun i (y : CV) => zEx [0] [3] m y ∧ ∀ j, 0 ≤ j → j < i → m.2 2 j = y.2 3 j) rfl (by omega) ⟨zEx_u zEx_0 (by decide), fun j _ _ => by omega⟩ (fun i y hi hi2 hI => ?_) (fun i y hi hi2 hi3 hi4 hI => ?_)
  · dsimp only
    rw [hI.1.2 2 (by decide)]
    (repeat (first | (with_reducible refine zok_g ?_ ?_; focus omega) | with_reducible refine zok_j ?_ | (with_reducible refine zok_t ?_ ?_; focus omega) | (with_reducible refine zok_f ?_ ?_; focus omega)))
    refine zok_sl ⟨_, rfl, zEx_a hI.1 (by decide), fun j j0 j1 => ?_⟩
    rw [zPa_s]
    by_cases e : j = i
    · rw [e, zup_s]
    · rw [zup_n e]; exact hI.2 j j0 (by omega)
  · have ei := hi3 (by omega)
    subst ei
    obtain ⟨yE, yA⟩ := hI
    dsimp only
    (repeat (first | (with_reducible refine zok_g ?_ ?_; focus omega) | with_reducible refine zok_j ?_ | (with_reducible refine zok_t ?_ ?_; focus omega) | (with_reducible refine zok_f ?_ ?_; focus omega)))
    refine zok_sr ?_
    dsimp only
    refine zok_F (mk := fun a i => (i, a)) 10 (fun i (z : CV) => zEx [] [8] y z ∧ ∀ j, 0 ≤ j → j < i → m.2 7 j = z.2 8 j) rfl (by omega) ⟨zEx_0, fun j _ _ => by omega⟩ (fun i z hi hi2 hI => ?_) (fun i z hi hi2 hi3 hi4 hI => ?_)
    · dsimp only
      rw [hI.1.2 7 (by decide), yE.2 7 (by decide)]
      (repeat (first | (with_reducible refine zok_g ?_ ?_; focus omega) | with_reducible refine zok_j ?_ | (with_reducible refine zok_t ?_ ?_; focus omega) | (with_reducible refine zok_f ?_ ?_; focus omega)))
      refine zok_sl ⟨_, rfl, zEx_a hI.1 (by decide), fun j j0 j1 => ?_⟩
      rw [zPa_s]
      by_cases e : j = i
      · rw [e, zup_s]
      · rw [zup_n e]; exact hI.2 j j0 (by omega)
    · have ei := hi3 (by omega)
      subst ei
      obtain ⟨zE, zA⟩ := hI
      have hE : zEx [0, 23] [3, 8] m (zPu z 23 1) := zEx_u (zEx_t (zEx_w yE (by decide) (by decide)) (zEx_w zE (by decide) (by decide))) (by decide)
      dsimp only
      (repeat (first | (with_reducible refine zok_g ?_ ?_; focus omega) | with_reducible refine zok_j ?_ | (with_reducible refine zok_t ?_ ?_; focus omega) | (with_reducible refine zok_f ?_ ?_; focus omega)))
      refine zok_sr (zok_s ⟨⟨?_, ?_, ?_, ⟨?_, ?_, fun p q0 q1 => ?_⟩, ?_, ?_, ?_⟩, ?_, ?_⟩)
      · unfold zRt at r1 ⊢
        rw [zSu_n (by decide), zSu_n (by decide), hE.1 2 (by decide), hE.1 11 (by decide), hE.1 12 (by decide), hE.2 1 (by decide)]
        exact r1
      · rw [zSu_n (by decide), zSu_n (by decide), hE.2 2 (by decide), hE.2 7 (by decide)]
        exact r2
      · refine ⟨by rw [zSu_s, zPu_s, zPu_s], Or.inr ⟨by rw [zPu_s], ?_⟩⟩
        rw [zSu_n (by decide), zSu_s]
        show zB1 V (z.2 3) (z.2 8)
        rw [zE.2 3 (by decide)]
        have hag : zAgr (m.2 2) (y.2 3) := yA
        exact hag.b1 (fun r q0 q1 => zA r q0 q1) hV
      · rw [zSu_s, zPu_n (by decide), hE.1 22 (by decide)]; exact r4.1
      · rw [hE.1 22 (by decide)]; exact r4.2.1
      · rw [hE.1 22 (by decide)] at q1
        have e1 : zPt (zPu z 23 1) p = zPt m p := by unfold zPt; rw [hE.2 4 (by decide)]
        rw [zSu_n (by omega), zSu_n (by omega), e1, hE.2 7 (by decide), hE.2 2 (by decide)]
        exact r4.2.2 p q0 q1
      · rw [zSu_n (by decide), zSu_n (by decide), zSu_n (by decide), zSu_n (by decide), hE.2 2 (by decide)]
        exact r5
      · rw [zSu_n (by decide), zSu_n (by decide)]; exact r6
      · unfold zRr at r7 ⊢
        dsimp only
        rw [zSu_s, hE.1 47 (by decide), hE.1 48 (by decide), hE.2 20 (by decide), zPu_n (m := σ 0) (k := 14) (by decide), zPu_2]
        exact r7
      · show (σ 4).1 3 = z.2 2 0
        rw [h.B.2.2.2.1, zE.2 2 (by decide), yE.2 2 (by decide)]
      · show iR ((σ 4).1 3)
        have := h.W.1
        rw [h.B.2.2.2.1]
        exact ⟨by omega, by omega⟩
theorem s_restore (h : zRR σ m) : zCl [zIS] (fX7_restore σ) (fX8_restore m) := by
  unfold zCl fX7_restore fX8_restore
  obtain ⟨r1, r2, r3, r4, r5, r6, r7⟩ := id h
  rw [r3.1]
  rcases r3.2 with c | ⟨c, hS⟩
  · rw [c]
    (repeat (first | (with_reducible refine zok_g ?_ ?_; focus omega) | with_reducible refine zok_j ?_ | (with_reducible refine zok_t ?_ ?_; focus omega) | (with_reducible refine zok_f ?_ ?_; focus omega)))
    refine zok_s ?_
    refine zok_e m_go0 ?_
    refine zok_f Bool.false_ne_true ?_
    exact zok_s ⟨zRR_0 h, zAn_e 0 rfl rfl⟩
  · rw [c]
    (repeat (first | (with_reducible refine zok_g ?_ ?_; focus omega) | with_reducible refine zok_j ?_ | (with_reducible refine zok_t ?_ ?_; focus omega) | (with_reducible refine zok_f ?_ ?_; focus omega)))
    refine zok_b (x_replaceBoard hS) (fun t ht => zok_s ?_)
    obtain ⟨tk, t4, t7, t8⟩ := ht
    refine zok_e m_go1 ?_
    refine zok_t rfl ?_
    refine zok_F (mk := fun a i => (i, a)) 351 (fun i (y : CV) => zEx [0] [2] m y ∧ y.1 0 = 0 ∧ ∀ j, 0 ≤ j → j < i → m.2 3 j = y.2 2 j) rfl (by omega) ⟨zEx_u zEx_0 (by decide), rfl, fun j _ _ => by omega⟩ (fun i y hi hi2 hI => ?_) (fun i y hi hi2 hi3 hi4 hI => ?_)
    · dsimp only
      rw [hI.1.2 3 (by decide)]
      (repeat (first | (with_reducible refine zok_g ?_ ?_; focus omega) | with_reducible refine zok_j ?_ | (with_reducible refine zok_t ?_ ?_; focus omega) | (with_reducible refine zok_f ?_ ?_; focus omega)))
      refine zok_sl ⟨_, rfl, zEx_a hI.1 (by decide), hI.2.1, fun j j0 j1 => ?_⟩
      rw [zPa_s]
      by_cases e : j = i
      · rw [e, zup_s]
      · rw [zup_n e]; exact hI.2.2 j j0 (by omega)
    · have ei := hi3 (by omega)
      subst ei
      obtain ⟨yE, y0, yA⟩ := hI
      dsimp only
      (repeat (first | (with_reducible refine zok_g ?_ ?_; focus omega) | with_reducible refine zok_j ?_ | (with_reducible refine zok_t ?_ ?_; focus omega) | (with_reducible refine zok_f ?_ ?_; focus omega)))
      refine zok_sr ?_
      dsimp only
      refine zok_F (mk := fun a i => (i, a)) 10 (fun i (z : CV) => zEx [] [7] y z ∧ ∀ j, 0 ≤ j → j < i → m.2 8 j = z.2 7 j) rfl (by omega) ⟨zEx_0, fun j _ _ => by omega⟩ (fun i z hi hi2 hI => ?_) (fun i z hi hi2 hi3 hi4 hI => ?_)
      · dsimp only
        rw [hI.1.2 8 (by decide), yE.2 8 (by decide)]
        (repeat (first | (with_reducible refine zok_g ?_ ?_; focus omega) | with_reducible refine zok_j ?_ | (with_reducible refine zok_t ?_ ?_; focus omega) | (with_reducible refine zok_f ?_ ?_; focus omega)))
        refine zok_sl ⟨_, rfl, zEx_a hI.1 (by decide), fun j j0 j1 => ?_⟩
        rw [zPa_s]
        by_cases e : j = i
        · rw [e, zup_s]
        · rw [zup_n e]; exact hI.2 j j0 (by omega)
      · have ei := hi3 (by omega)
        subst ei
        obtain ⟨zE, zA⟩ := hI
        have hE : zEx [0, 22] [2, 7] m (zPu z 22 0) := zEx_u (zEx_t (zEx_w yE (by decide) (by decide)) (zEx_w zE (by decide) (by decide))) (by decide)
        have z2 : (zPu z 22 0).2 2 = y.2 2 := zE.2 2 (by decide)
        have hag : zAgr (m.2 3) (y.2 2) := yA
        have hN : zB1 (t 4) (y.2 2) (z.2 7) := hag.b1 (fun r q0 q1 => zA r q0 q1) t4
        dsimp only
        (repeat (first | (with_reducible refine zok_g ?_ ?_; focus omega) | with_reducible refine zok_j ?_ | (with_reducible refine zok_t ?_ ?_; focus omega) | (with_reducible refine zok_f ?_ ?_; focus omega)))
        refine zok_sr (zok_s ⟨⟨?_, ?_, ?_, ⟨?_, ?_, fun p q0 q1 => ?_⟩, ?_, ?_, ?_⟩, ?_⟩)
        · unfold zRt at r1 ⊢
          rw [zSu_n (by decide), tk 1 (by decide) (by decide) (by decide), hE.1 2 (by decide), hE.1 11 (by decide), hE.1 12 (by decide), hE.2 1 (by decide)]
          exact r1
        · rw [zSu_n (by decide), z2]
          exact hN
        · unfold zRs at r3 ⊢
          rw [zSu_s, zPu_n (by decide), zSu_n (by decide), tk 0 (by decide) (by decide) (by decide), tk 5 (by decide) (by decide) (by decide), hE.1 23 (by decide), hE.2 3 (by decide), hE.2 8 (by decide)]
          exact r3
        · rw [zSu_s, zPu_s, zPu_s]
        · rw [zPu_s]; omega
        · rw [zPu_s] at q1; omega
        · rw [zSu_n (by decide), zSu_n (by decide), t7, t8]
          exact zRe_f r5.1.1 r5.2.1
        · rw [zSu_n (by decide), tk 10 (by decide) (by decide) (by decide)]; exact r6
        · unfold zRr at r7 ⊢
          dsimp only
          rw [zSu_s, tk 0 (by decide) (by decide) (by decide), hE.1 47 (by decide), hE.1 48 (by decide), hE.2 20 (by decide), zPu_n (m := σ 0) (k := 13) (by decide), zPu_2]
          exact r7
        · have e3 : (t 4).1 3 = z.2 2 0 := by
            rw [hN.2.1.2.2.2.1, zE.2 2 (by decide)]
          refine zAn_v ((zE.1 0 (by decide)).trans y0) e3 ?_
          rw [hN.2.1.2.2.2.1]
          have := hN.1.1
          exact ⟨by omega, by omega⟩
theorem s_scoreWithout (h : zRR σ m) {r : Int} (hr : iR r) : zCl [zIO] (fX7_scoreWithout σ r) (fX8_scoreWithout m r) := by
  have w2 := h.W.2.2.1
  refine zRow_c h hr (fun r0 r1 a b => ?_) (fun a b => ?_)
  · unfold zCl fX7_scoreWithout fX8_scoreWithout
    refine zok_el a ?_
    have hw := zWo_r h.W r0 r1
    have mod : ∀ t : CS × (Int ⊕ String), zRR t.1 m → t.2 = .inl (zWo (m.2 2) r) → zOk ((fX8_isRow m r).bind fun t1 => (fX8_goes m (b2 t1)).bind fun t3 => if t3.2 = true then ((fX8_without t3.1 r).bind fun t6 => some (t6.1, t6.2)) else (some (t3.1, 0))) (fun u => zRR t.1 u.1 ∧ zAn [zIO] t.2 (u.1.1 0) u.2) := by
      intro t ht e
      refine zok_e b ?_
      refine zok_e m_go1 ?_
      refine zok_t rfl ?_
      refine zok_b (m_without (m := zPu m 0 0) (s := m.2 2) rfl h.W r0 r1) (fun g hg => zok_s ⟨zRR_x ht hg.1 (by decide) (by decide), ?_⟩)
      rw [e]
      exact zAn_v (zCode0 hg.1 (by decide)) hg.2.symm ⟨by omega, by omega⟩
    refine zok_e (b_isOut h.W h.B r0 r1) ?_
    refine zok_i (fun co => ?_) (fun co => ?_)
    · (repeat (first | (with_reducible refine zok_g ?_ ?_; focus omega) | with_reducible refine zok_j ?_ | (with_reducible refine zok_t ?_ ?_; focus omega) | (with_reducible refine zok_f ?_ ?_; focus omega)))
      refine zok_b (x_searched h) (fun ρ hρ => zok_s ?_)
      obtain ⟨p1, p2, p3, p4⟩ := zSq_p hρ.2.2.1.2.2.2
      exact mod _ hρ.2.2.2.2.2.2 (by rw [p2, zWo_out h.W (of_decide_eq_true co)])
    · (repeat (first | (with_reducible refine zok_g ?_ ?_; focus omega) | with_reducible refine zok_j ?_ | (with_reducible refine zok_t ?_ ?_; focus omega) | (with_reducible refine zok_f ?_ ?_; focus omega)))
      refine zok_b (x_searched h) (fun ρ hρ => ?_)
      obtain ⟨ρk, ρ8, ρS, ρC, _, _, hρ⟩ := hρ
      refine zok_b (c_bestScoreWithout hρ.W hρ.B ρS.1 r0 r1 (fun z => co (decide_eq_true z))) (fun x hx => zok_s ?_)
      refine mod _ ?_ (by rw [hx.2])
      obtain ⟨q1, q2, q3, q4, q5, q6, q7⟩ := hρ
      have e : ∀ k, k ≠ 7 → zSu ρ 7 x.1 k = ρ k := fun k hk => zSu_n hk
      show zRR (zSu ρ 7 x.1) m
      refine ⟨by rw [e 1 (by decide)]; exact q1, by rw [e 4 (by decide)]; exact q2, by rw [e 0 (by decide), e 5 (by decide)]; exact q3, ⟨by rw [e 0 (by decide)]; exact q4.1, q4.2.1, fun p p0 p1 => by rw [e _ (by omega)]; exact q4.2.2 p p0 p1⟩, ⟨⟨?_, Or.inr ⟨?_, ?_⟩⟩, by rw [e 8 (by decide)]; exact q5.2⟩, by rw [e 10 (by decide)]; exact q6, by rw [e 0 (by decide)]; exact q7⟩
      · rw [zSu_s]
        unfold zCap at ρC ⊢
        rw [hx.1.1 100 (by decide), hx.1.1 101 (by decide), hx.1.1 102 (by decide)]
        exact ρC
      · rw [zSu_s, hx.1.1 8 (by decide)]; exact ρ8
      · rw [zSu_s]
        refine ⟨ρS.1.ex1 hx.1, ?_, ?_, ?_⟩
        · rw [hx.1.2 3 (by decide)]; exact ρS.2.1
        · rw [hx.1.2 5 (by decide)]; exact ρS.2.2.1
        · unfold zSq
          rw [hx.1.1 9 (by decide), hx.1.1 10 (by decide), hx.1.1 11 (by decide), hx.1.1 12 (by decide)]
          exact ρS.2.2.2
  · unfold zCl fX7_scoreWithout fX8_scoreWithout
    refine zok_er a ?_
    (repeat (first | (with_reducible refine zok_g ?_ ?_; focus omega) | with_reducible refine zok_j ?_ | (with_reducible refine zok_t ?_ ?_; focus omega) | (with_reducible refine zok_f ?_ ?_; focus omega)))
    refine zok_s ?_
    refine zok_e b ?_
    refine zok_e m_go0 ?_
    refine zok_f Bool.false_ne_true ?_
    exact zok_s ⟨zRR_0 h, zAn_e 0 rfl rfl⟩
end ZCG
