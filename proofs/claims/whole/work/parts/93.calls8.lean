section ZCJ
variable {σ : CS} {m : CV} {s : Int → Int}
theorem s_count (h : zRR σ m) {i x : Int} (hi : iR i) (hx : iR x) : zCl [zIO] (fX7_count σ i x) (fX8_count m i x) := by
  unfold zCl fX7_count fX8_count
  have w1 := h.W.2.1
  have w2 := h.W.2.2.1
  have hin := m_isIn (a := i) (lo := 0) (hi := m.2 2 2 - 1) ⟨by omega, by omega⟩ (by decide) ⟨by omega, by omega⟩
  have hin2 := m_isIn (a := x) (lo := 0) (hi := m.2 2 1 - 1) ⟨by omega, by omega⟩ (by decide) ⟨by omega, by omega⟩
  rw [h.B.1, h.B.2.1]
  refine zok_jP (fun _ => ¬ ((0 ≤ i ∧ i < m.2 2 2) ∧ (0 ≤ x ∧ x < m.2 2 1))) (fun _ hn => zok_s ?_) (fun K hK => ?_)
  · (repeat (first | (with_reducible refine zok_g ?_ ?_; focus omega) | with_reducible refine zok_j ?_ | (with_reducible refine zok_t ?_ ?_; focus omega) | (with_reducible refine zok_f ?_ ?_; focus omega)))
    refine zok_e hin ?_
    (repeat (first | (with_reducible refine zok_g ?_ ?_; focus omega) | with_reducible refine zok_j ?_ | (with_reducible refine zok_t ?_ ?_; focus omega) | (with_reducible refine zok_f ?_ ?_; focus omega)))
    by_cases c : 0 ≤ i ∧ i < m.2 2 2
    · refine zok_t (decide_eq_true (by omega)) ?_
      (repeat (first | (with_reducible refine zok_g ?_ ?_; focus omega) | with_reducible refine zok_j ?_ | (with_reducible refine zok_t ?_ ?_; focus omega) | (with_reducible refine zok_f ?_ ?_; focus omega)))
      refine zok_e hin2 ?_
      refine zok_f (fun z => hn ⟨c, by have := of_decide_eq_true z; omega⟩) ?_
      refine zok_e m_go0 ?_
      refine zok_f Bool.false_ne_true ?_
      exact zok_s ⟨zRR_0 h, zAn_e 0 rfl rfl⟩
    · refine zok_f (fun z => c (by have := of_decide_eq_true z; omega)) ?_
      refine zok_e m_go0 ?_
      refine zok_f Bool.false_ne_true ?_
      exact zok_s ⟨zRR_0 h, zAn_e 0 rfl rfl⟩
  · (repeat (first | (with_reducible refine zok_g ?_ ?_; focus omega) | with_reducible refine zok_j ?_ | (with_reducible refine zok_t ?_ ?_; focus omega) | (with_reducible refine zok_f ?_ ?_; focus omega)))
    refine zok_i (fun c => hK () (by omega)) (fun c => ?_)
    (repeat (first | (with_reducible refine zok_g ?_ ?_; focus omega) | with_reducible refine zok_j ?_ | (with_reducible refine zok_t ?_ ?_; focus omega) | (with_reducible refine zok_f ?_ ?_; focus omega)))
    refine zok_i (fun c2 => hK () (by omega)) (fun c2 => ?_)
    (repeat (first | (with_reducible refine zok_g ?_ ?_; focus omega) | with_reducible refine zok_j ?_ | (with_reducible refine zok_t ?_ ?_; focus omega) | (with_reducible refine zok_f ?_ ?_; focus omega)))
    refine zok_i (fun c3 => hK () (by omega)) (fun c3 => ?_)
    (repeat (first | (with_reducible refine zok_g ?_ ?_; focus omega) | with_reducible refine zok_j ?_ | (with_reducible refine zok_t ?_ ?_; focus omega) | (with_reducible refine zok_f ?_ ?_; focus omega)))
    refine zok_i (fun c4 => ?_) (fun c4 => hK () (by omega))
    refine zok_b (c_fill h.W h.B (by decide)) (fun y hy => ?_)
    refine zok_e (c_countOf hy.2.2 (by omega) (by omega) (by omega) (by omega) (by omega)) (zok_s ?_)
    (repeat (first | (with_reducible refine zok_g ?_ ?_; focus omega) | with_reducible refine zok_j ?_ | (with_reducible refine zok_t ?_ ?_; focus omega) | (with_reducible refine zok_f ?_ ?_; focus omega)))
    refine zok_e hin ?_
    (repeat (first | (with_reducible refine zok_g ?_ ?_; focus omega) | with_reducible refine zok_j ?_ | (with_reducible refine zok_t ?_ ?_; focus omega) | (with_reducible refine zok_f ?_ ?_; focus omega)))
    refine zok_t (decide_eq_true (by omega)) ?_
    (repeat (first | (with_reducible refine zok_g ?_ ?_; focus omega) | with_reducible refine zok_j ?_ | (with_reducible refine zok_t ?_ ?_; focus omega) | (with_reducible refine zok_f ?_ ?_; focus omega)))
    refine zok_e hin2 ?_
    refine zok_t (decide_eq_true (by omega)) ?_
    refine zok_e m_go1 ?_
    refine zok_t rfl ?_
    refine zok_b (m_laysProfile (m := zPu m 0 0) (s := m.2 2) rfl h.W (by decide)) (fun t ht => ?_)
    (repeat (first | (with_reducible refine zok_g ?_ ?_; focus omega) | with_reducible refine zok_j ?_ | (with_reducible refine zok_t ?_ ?_; focus omega) | (with_reducible refine zok_f ?_ ?_; focus omega)))
    have hc := zCt_r h.W (but := -1) (i := i) (x := x)
    refine zok_s ⟨zRR_9 (zRR_x h ht.1 (by decide) (by decide)), zAn_v (zCode0 ht.1 (by decide)) (ht.2 i x (by omega) (by omega) (by omega) (by omega)).symm ⟨by omega, by omega⟩⟩
theorem c_commonCode {P : CV} (hW : zWf s) {but : Int} (hP1 : P.1 1 = s 1) (hP2 : P.1 2 = s 2) (hP : zPr s but (P.2 1)) : zOk (fX1_commonCode P) (fun c => zCd c (s 2) (zCm s but)) := by
  unfold fX1_commonCode
  have w1 := hW.2.1
  have w2 := hW.2.2.1
  rw [hP2]
  refine zok_F (mk := fun a i => (a, i)) (s 2) (fun i c => zCd c i (zCm s but)) rfl (by omega) zCd_0 (fun i c hi hi2 hI => ?_) (fun i c hi hi2 hi3 hi4 hI => ?_)
  · dsimp only
    (repeat (first | (with_reducible refine zok_g ?_ ?_; focus omega) | with_reducible refine zok_j ?_ | (with_reducible refine zok_t ?_ ?_; focus omega) | (with_reducible refine zok_f ?_ ?_; focus omega)))
    refine zok_e (c_commonLetter hW hP1 hP hi hi2) ?_
    have hc := zCm_r hW (but := but) (i := i)
    have hl := hI.2.1
    have h0 := hI.1
    have h12 : zP2 (2 * i) ≤ 1024 := zP2_le (show 2 * i ≤ 10 by omega)
    have p := zP2_pos (2 * i)
    have hm1 : 0 ≤ zCm s but i * zP2 (2 * i) := Int.mul_nonneg hc.1 (by omega)
    have hm2 : zCm s but i * zP2 (2 * i) ≤ 3 * zP2 (2 * i) := Int.mul_le_mul_of_nonneg_right (by omega) (by omega)
    refine zok_e (t := zOr c (zCm s but i * zP2 (2 * i))) ?_ (zok_sl ⟨_, rfl, zCd_snoc hI hi ⟨hc.1, by omega⟩ rfl⟩)
    apply zok_q
    unfold fX0_withLetter
    (repeat (first | (with_reducible refine zok_g ?_ ?_; focus omega) | with_reducible refine zok_j ?_ | (with_reducible refine zok_t ?_ ?_; focus omega) | (with_reducible refine zok_f ?_ ?_; focus omega)))
    exact zok_s rfl
  · dsimp only
    (repeat (first | (with_reducible refine zok_g ?_ ?_; focus omega) | with_reducible refine zok_j ?_ | (with_reducible refine zok_t ?_ ?_; focus omega) | (with_reducible refine zok_f ?_ ?_; focus omega)))
    refine zok_sr ?_
    have h0 := hI.1
    (repeat (first | (with_reducible refine zok_g ?_ ?_; focus omega) | with_reducible refine zok_j ?_ | (with_reducible refine zok_t ?_ ?_; focus omega) | (with_reducible refine zok_f ?_ ?_; focus omega)))
    rw [hi3 (by omega)] at hI
    exact zok_s hI
theorem s_common (h : zRR σ m) : zOk (fX7_common σ) (fun t => zOk (fX8_common m) (fun u => zRR t.1 u.1 ∧ t.2 = u.2 ∧ iR t.2)) := by
  unfold fX7_common fX8_common
  have w1 := h.W.2.1
  have w2 := h.W.2.2.1
  have hch := zCh_r h.W
  refine zok_e (b_chosenRows h.W h.B) ?_
  (repeat (first | (with_reducible refine zok_g ?_ ?_; focus omega) | with_reducible refine zok_j ?_ | (with_reducible refine zok_t ?_ ?_; focus omega) | (with_reducible refine zok_f ?_ ?_; focus omega)))
  refine zok_i (fun c => zok_s ?_) (fun c => ?_)
  · refine zok_e (m_chosen (m := zPu m 0 0) (s := m.2 2) rfl h.W) ?_
    (repeat (first | (with_reducible refine zok_g ?_ ?_; focus omega) | with_reducible refine zok_j ?_ | (with_reducible refine zok_t ?_ ?_; focus omega) | (with_reducible refine zok_f ?_ ?_; focus omega)))
    exact zok_s ⟨zRR_0 h, rfl, (show iR (-1) by decide)⟩
  · refine zok_b (c_fill h.W h.B (by decide)) (fun y hy => ?_)
    refine zok_b (c_commonCode h.W hy.1 hy.2.1 hy.2.2) (fun cd hcd => ?_)
    refine zok_e (b_wordOf h.W h.B hcd) (zok_s ?_)
    refine zok_e (m_chosen (m := zPu m 0 0) (s := m.2 2) rfl h.W) ?_
    (repeat (first | (with_reducible refine zok_g ?_ ?_; focus omega) | with_reducible refine zok_j ?_ | (with_reducible refine zok_t ?_ ?_; focus omega) | (with_reducible refine zok_f ?_ ?_; focus omega)))
    refine zok_b (m_laysProfile (m := zPu m 0 0) (s := m.2 2) rfl h.W (by decide)) (fun t ht => ?_)
    have ts : t.2 2 = m.2 2 := ht.1.2 2 (by decide)
    rw [ts]
    refine zok_F (mk := fun a i => (a, i)) (m.2 2 2) (fun i a => a = zNb (m.2 2) (zCm (m.2 2) (-1)) i) rfl (by omega) rfl (fun i a hi hi2 hI => ?_) (fun i a hi hi2 hi3 hi4 hI => ?_)
    · dsimp only
      (repeat (first | (with_reducible refine zok_g ?_ ?_; focus omega) | with_reducible refine zok_j ?_ | (with_reducible refine zok_t ?_ ?_; focus omega) | (with_reducible refine zok_f ?_ ?_; focus omega)))
      refine zok_e (m_mostAt ts h.W ht.2 hi hi2) (zok_sl ⟨_, rfl, ?_⟩)
      rw [zNb_s hi, hI, Int.mul_comm]
    · dsimp only
      (repeat (first | (with_reducible refine zok_g ?_ ?_; focus omega) | with_reducible refine zok_j ?_ | (with_reducible refine zok_t ?_ ?_; focus omega) | (with_reducible refine zok_f ?_ ?_; focus omega)))
      refine zok_sr (zok_s ⟨zRR_9 (zRR_x h ht.1 (by decide) (by decide)), ?_, ?_⟩)
      · show _ = a
        rw [hI, hi3 (by omega)]
      · have hb := zNb_r h.W (u := zCm (m.2 2) (-1)) (m.2 2 2).toNat (fun j _ _ => zCm_r h.W)
        rw [show (((m.2 2 2).toNat : Nat) : Int) = m.2 2 2 by omega] at hb
        have hw := zWords_r h.W
        have hpw : zPw (m.2 2 1) (m.2 2 2) = zWords (m.2 2) := rfl
        show iR (zNb (m.2 2) (zCm (m.2 2) (-1)) (m.2 2 2))
        exact ⟨by omega, by omega⟩
theorem s_differ (h : zRR σ m) {v w : Int} (hv : iR v) (hw : iR w) : zCp σ [zIO] (fX7_differ σ v w) (fX8_differ m v w) := by
  have w1 := h.W.2.1
  have w2 := h.W.2.2.1
  refine zWord_c h hv (fun v0 v1 a b => ?_) (fun a b => ?_)
  · unfold zCp fX7_differ fX8_differ
    refine zok_el a ?_
    refine zWord_c h hw (fun q0 q1 a2 c2 => ?_) (fun a2 c2 => ?_)
    · refine zok_el a2 ?_
      refine zok_b (b_codeOf h.W h.B v0 v1) (fun cd hcd => ?_)
      refine zok_b (b_codeOf h.W h.B q0 q1) (fun ce hce => ?_)
      refine zok_e (by rw [h.B.2.1]; exact b_differing (m := m.2 2 2) hcd.1 hce.1 (by omega) (by omega) hcd.2.2 hce.2.2) (zok_s ?_)
      refine zok_e b ?_
      (repeat (first | (with_reducible refine zok_g ?_ ?_; focus omega) | with_reducible refine zok_j ?_ | (with_reducible refine zok_t ?_ ?_; focus omega) | (with_reducible refine zok_f ?_ ?_; focus omega)))
      refine zok_t rfl ?_
      refine zok_e c2 ?_
      refine zok_t rfl ?_
      refine zok_e m_go1 ?_
      refine zok_t rfl ?_
      refine zok_b (m_spells (m := zPu m 0 0) (s := m.2 2) rfl h.W q0 q1) (fun t ht => ?_)
      refine zok_F (mk := fun a i => (i, a)) 6 (fun i (y : CV) => zEx [] [11] t y ∧ ∀ j, 0 ≤ j → j < i → y.2 11 j = t.2 10 j) rfl (by omega) ⟨zEx_0, fun j _ _ => by omega⟩ (fun i y hi hi2 hI => ?_) (fun i y hi hi2 hi3 hi4 hI => ?_)
      · dsimp only
        rw [hI.1.2 10 (by decide)]
        (repeat (first | (with_reducible refine zok_g ?_ ?_; focus omega) | with_reducible refine zok_j ?_ | (with_reducible refine zok_t ?_ ?_; focus omega) | (with_reducible refine zok_f ?_ ?_; focus omega)))
        refine zok_sl ⟨_, rfl, zEx_a hI.1 (by decide), fun j j0 j1 => ?_⟩
        rw [zPa_s]
        by_cases e : j = i
        · rw [e, zup_s]
        · rw [zup_n e]; exact hI.2 j j0 (by omega)
      · have ei := hi3 (by omega)
        subst ei
        obtain ⟨yE, yv⟩ := hI
        dsimp only
        (repeat (first | (with_reducible refine zok_g ?_ ?_; focus omega) | with_reducible refine zok_j ?_ | (with_reducible refine zok_t ?_ ?_; focus omega) | (with_reducible refine zok_f ?_ ?_; focus omega)))
        refine zok_sr ?_
        dsimp only
        have ys : y.2 2 = m.2 2 := (yE.2 2 (by decide)).trans (ht.1.2 2 (by decide))
        refine zok_b (m_spells ys h.W v0 v1) (fun z hz => ?_)
        have zs : z.2 2 = m.2 2 := (hz.1.2 2 (by decide)).trans ys
        have zE : zEx [] [10, 11] (zPu m 0 0) z := zEx_t (zEx_t (zEx_w ht.1 (fun _ h => h) (by decide)) (zEx_w yE (fun _ h => h) (by decide))) (zEx_w hz.1 (fun _ h => h) (by decide))
        rw [zs]
        refine zok_F (mk := fun a i => (a, i)) (m.2 2 2) (fun i a => a = zDn (zDg (m.2 2) v) (zDg (m.2 2) w) i) rfl (by omega) rfl (fun i a hi hi2 hI => ?_) (fun i a hi hi2 hi3 hi4 hI => ?_)
        · have e1 : z.2 10 i = zDg (m.2 2) v i := hz.2 i hi hi2
          have e2 : z.2 11 i = zDg (m.2 2) w i := by rw [hz.1.2 11 (by decide), yv i hi (by omega)]; exact ht.2 i hi hi2
          have d1 := zDg_4 h.W (w := v) i
          have d2 := zDg_4 h.W (w := w) i
          dsimp only
          rw [e1, e2]
          (repeat (first | (with_reducible refine zok_g ?_ ?_; focus omega) | with_reducible refine zok_j ?_ | (with_reducible refine zok_t ?_ ?_; focus omega) | (with_reducible refine zok_f ?_ ?_; focus omega)))
          refine zok_i (fun c => ?_) (fun c => ?_)
          · refine zok_e (m_truth (by decide)) (zok_sl ⟨_, rfl, ?_⟩)
            rw [zDn_s hi, if_pos rfl, if_pos c, hI]
          · refine zok_e (m_truth (by decide)) (zok_sl ⟨_, rfl, ?_⟩)
            rw [zDn_s hi, if_neg (by decide), if_neg c, hI]
        · dsimp only
          (repeat (first | (with_reducible refine zok_g ?_ ?_; focus omega) | with_reducible refine zok_j ?_ | (with_reducible refine zok_t ?_ ?_; focus omega) | (with_reducible refine zok_f ?_ ?_; focus omega)))
          refine zok_sr (zok_s ⟨zRR_x h zE (by decide) (by decide), zAn_v (zCode0 zE (by decide)) ?_ ?_⟩)
          · show _ = a
            rw [hI, hi3 (by omega)]
          · have := zDn_r (u := zDg (m.2 2) v) (v := zDg (m.2 2) w) (m.2 2 2).toNat
            rw [show (((m.2 2 2).toNat : Nat) : Int) = m.2 2 2 by omega] at this
            exact ⟨by omega, by omega⟩
    · refine zok_er a2 (zok_s ?_)
      refine zok_e b ?_
      (repeat (first | (with_reducible refine zok_g ?_ ?_; focus omega) | with_reducible refine zok_j ?_ | (with_reducible refine zok_t ?_ ?_; focus omega) | (with_reducible refine zok_f ?_ ?_; focus omega)))
      refine zok_t rfl ?_
      refine zok_e c2 ?_
      refine zok_f Bool.false_ne_true ?_
      refine zok_e m_go0 ?_
      refine zok_f Bool.false_ne_true ?_
      exact zok_s ⟨zRR_0 h, zAn_e 0 rfl rfl⟩
  · unfold zCp fX7_differ fX8_differ
    refine zok_er a (zok_s ?_)
    refine zok_e b ?_
    (repeat (first | (with_reducible refine zok_g ?_ ?_; focus omega) | with_reducible refine zok_j ?_ | (with_reducible refine zok_t ?_ ?_; focus omega) | (with_reducible refine zok_f ?_ ?_; focus omega)))
    refine zok_f Bool.false_ne_true ?_
    refine zok_e m_go0 ?_
    refine zok_f Bool.false_ne_true ?_
    exact zok_s ⟨zRR_0 h, zAn_e 0 rfl rfl⟩
end ZCJ
