section ZCC
variable {σ : CS} {m : CV}
/-- a change behind which the searches stand, or are forgotten -/
theorem zRR_k1 {τ σ2 : CS} {t u : CV} {s' : Int → Int} {js : List Nat} (h : zRR σ m) (hτ : zKd σ τ m) (hσ : ∀ k, k ≠ 4 → k ≠ 9 → σ2 k = τ k) (hE : zEx [0] js m t) (h2 : ∀ k ∈ [1, 3, 4, 7, 8, 20], k ∉ js) (hs : t.2 2 = s') (tA : zAgr (m.2 2) (t.2 5)) (hB : zB1 (σ2 4) s' (m.2 7)) (hS : zSim (m.2 2) s') (uE : zEx [22] [4] t u) (u22 : u.1 22 = (if t.1 22 = 6 then 6 else t.1 22 + 1)) (uP : ∀ p, 0 ≤ p → p < u.1 22 → zAgr (if p = u.1 22 - 1 then t.2 5 else if t.1 22 = 6 then zPt t (p + 1) else zPt t p) (zPt u p)) : zRR σ2 u := by
  refine zRR_k h hτ (fun k _ k4 _ _ _ k9 => hσ k k4 k9) hE (by decide) h2 hs tA hB (hS.c (by omega)).symm ?_ uE u22 uP
  rw [hσ 7 (by decide) (by decide), hσ 8 (by decide) (by decide), hτ.1 7 (by decide) (by omega), hτ.1 8 (by decide) (by omega)]
  exact hS.re h.W h.2.2.2.2.1
theorem zRR_k2 {τ σ2 : CS} {t u : CV} {s' : Int → Int} {js : List Nat} (h : zRR σ m) (hτ : zKd σ τ m) (hσ : ∀ k, k ≠ 4 → k ≠ 7 → k ≠ 8 → k ≠ 9 → σ2 k = τ k) (e7 : σ2 7 = zPu (τ 7) 8 0) (e8 : σ2 8 = zPu (τ 8) 8 0) (hE : zEx [0] js m t) (h2 : ∀ k ∈ [1, 3, 4, 7, 8, 20], k ∉ js) (hs : t.2 2 = s') (tA : zAgr (m.2 2) (t.2 5)) (hB : zB1 (σ2 4) s' (m.2 7)) (h0 : s' 0 = m.2 2 0) (uE : zEx [22] [4] t u) (u22 : u.1 22 = (if t.1 22 = 6 then 6 else t.1 22 + 1)) (uP : ∀ p, 0 ≤ p → p < u.1 22 → zAgr (if p = u.1 22 - 1 then t.2 5 else if t.1 22 = 6 then zPt t (p + 1) else zPt t p) (zPt u p)) : zRR σ2 u := by
  refine zRR_k h hτ (fun k _ k4 _ k7 k8 k9 => hσ k k4 k7 k8 k9) hE (by decide) h2 hs tA hB h0 ?_ uE u22 uP
  rw [e7, e8, hτ.1 7 (by decide) (by omega), hτ.1 8 (by decide) (by omega)]
  exact zRe_f h.2.2.2.2.1.1.1 h.2.2.2.2.1.2.1
theorem zSim_ims {s : Int → Int} (hW : zWf s) : zSim s (zIm s).1 := by
  have w0 := hW.1
  exact (zFd_I (f := zImf) (a := (s, false)) (fun _ p => zSim s p.1) (fun _ _ => rfl) (s 0).toNat (fun i p hi hi2 hp => by
    unfold zImf
    split
    · exact hp
    · exact hp.tr (zSim.set1 hi (by omega))))
theorem zSim_imsN {n : Nat} : ∀ {s : Int → Int}, zWf s → zSim s (zIms n s).1 := by
  induction n with
  | zero => intro s _; exact fun _ _ => rfl
  | succ n ih =>
    intro s hW
    rw [zIms_s]
    split
    · exact (zSim_ims hW).tr (ih (zIm_W hW))
    · exact zSim_ims hW
theorem s_choose (h : zRR σ m) {r i : Int} (hr : iR r) (hi : iR i) : zCl [zIO, zIA] (fX7_choose σ r i) (fX8_choose m r i) := by
  have w0 := h.W.1
  have w2 := h.W.2.2.1
  refine zRow_c h hr (fun r0 r1 a b => ?_) (fun a b => ?_)
  · unfold zCl fX7_choose fX8_choose
    refine zok_el a ?_
    have hrow := h.W.row r0 r1
    have hsz := hrow.1
    refine zok_e (b_isPlace h.W h.B r0 r1 hi) ?_
    rcases zPl_c (s := m.2 2) (r := r) (i := i) with ⟨hp, hP⟩ | ⟨hp, hP⟩
    · refine zok_t hp ?_
      refine zok_b (x_keepPast h) (fun τ hτ => ?_)
      have e4 : τ 4 = σ 4 := hτ.1 4 (by decide) (by omega)
      have hB1 := zB1_1 h.2.1 r0 r1 (Or.inr hP)
      (repeat (first | (with_reducible refine zok_g ?_ ?_; focus omega) | with_reducible refine zok_j ?_ | (with_reducible refine zok_t ?_ ?_; focus omega) | (with_reducible refine zok_f ?_ ?_; focus omega)))
      unfold fX7_agreement
      refine zok_b (P := fun x => (∀ k, k ≠ 4 → k ≠ 9 → x.1 k = τ k) ∧ x.1 4 = zPa (σ 4) 5 r i ∧ x.2 = zAg (zSet (m.2 2) r 1 i)) ?_ (fun x hx => zok_s ?_)
      · rw [zSu_s, e4]
        exact zok_b (c_agreementOf hB1.1 hB1.2.1) (fun y hy => zok_s ⟨fun k k4 k9 => by dsimp only; rw [zSu_n k9, zSu_n k4], by dsimp only; rw [zSu_n (by decide), zSu_s], hy⟩)
      obtain ⟨x1, x2, x3⟩ := hx
      refine zok_e b ?_
      (repeat (first | (with_reducible refine zok_g ?_ ?_; focus omega) | with_reducible refine zok_j ?_ | (with_reducible refine zok_t ?_ ?_; focus omega) | (with_reducible refine zok_f ?_ ?_; focus omega)))
      refine zok_t rfl ?_
      refine zok_e (m_isPlace (m := m) rfl h.W r0 r1 hi) ?_
      refine zok_t hp ?_
      refine zok_e (m_goesBoth true true) ?_
      refine zok_t rfl ?_
      refine m_aside (p := True) (fun t tE t0 tA => ?_)
      have ts : t.2 2 = m.2 2 := tE.2 2 (by decide)
      refine zok_b (P := fun y => zEx [0] [2, 5, 14] m y.1 ∧ y.1.1 0 = 0 ∧ y.1.2 5 = t.2 5 ∧ y.1.2 2 = zSet (m.2 2) r 1 i ∧ y.2 = zAg (zSet (m.2 2) r 1 i)) ?_ (fun y hy => ?_)
      · unfold fX8_chooses
        refine zok_e (m_lays (by omega) (by omega)) ?_
        have hz : (zPa t 2 (11 + 4 * r + 1) i).2 2 = zSet (m.2 2) r 1 i := by rw [zPa_s, ts]; rfl
        refine zok_b (m_agrees hz hB1.1) (fun y hy => zok_s ⟨?_, ?_, ?_, ?_, hy.2⟩)
        · exact zEx_t (zEx_a (zEx_w tE (fun _ h => h) (by decide)) (by decide)) (zEx_w hy.1 (by decide) (by decide))
        · exact (hy.1.1 0 (by decide)).trans t0
        · exact (hy.1.2 5 (by decide)).trans (zPa_n (by decide))
        · exact (hy.1.2 2 (by decide)).trans hz
      · obtain ⟨yE, y0, y5, y2, yv⟩ := hy
        refine m_kept (by rw [yE.1 22 (by decide)]; exact h.2.2.2.1.2.1) (fun u uE u22 uP => ⟨?_, ?_⟩)
        · exact zRR_k1 h hτ x1 yE (by decide) y2 (by rw [y5]; exact tA) (by rw [x2]; exact hB1) (zSim.set1 r0 (by omega)) uE u22 uP
        · refine zAn_v ((uE.1 0 (by decide)).trans y0) (x3.trans yv.symm) ?_
          have := zAg_r hB1.1
          show iR x.2
          rw [x3]
          exact ⟨by omega, by omega⟩
    · refine zok_f (by rw [hp]; decide) (zok_s ?_)
      refine zok_e b ?_
      (repeat (first | (with_reducible refine zok_g ?_ ?_; focus omega) | with_reducible refine zok_j ?_ | (with_reducible refine zok_t ?_ ?_; focus omega) | (with_reducible refine zok_f ?_ ?_; focus omega)))
      refine zok_t rfl ?_
      refine zok_e (m_isPlace (m := m) rfl h.W r0 r1 hi) ?_
      refine zok_f (by rw [hp]; decide) ?_
      refine zok_e (m_goesBoth true false) ?_
      refine zok_f Bool.false_ne_true ?_
      exact zok_s ⟨zRR_0 h, zAn_e 1 rfl rfl⟩
  · unfold zCl fX7_choose fX8_choose
    refine zok_er a (zok_s ?_)
    refine zok_e b ?_
    (repeat (first | (with_reducible refine zok_g ?_ ?_; focus omega) | with_reducible refine zok_j ?_ | (with_reducible refine zok_t ?_ ?_; focus omega) | (with_reducible refine zok_f ?_ ?_; focus omega)))
    refine zok_f Bool.false_ne_true ?_
    refine zok_e (m_goesBoth false false) ?_
    refine zok_f Bool.false_ne_true ?_
    exact zok_s ⟨zRR_0 h, zAn_e 0 rfl rfl⟩
theorem s_better (h : zRR σ m) {r : Int} (hr : iR r) : zCl [zIO, zIS] (fX7_better σ r) (fX8_better m r) := by
  have w0 := h.W.1
  refine zRow_c h hr (fun r0 r1 a b => ?_) (fun a b => ?_)
  · unfold zCl fX7_better fX8_better
    refine zok_el a ?_
    refine zok_e (b_isOut h.W h.B r0 r1) ?_
    refine zok_i (fun co => zok_s ?_) (fun co => ?_)
    · refine zok_e b ?_
      (repeat (first | (with_reducible refine zok_g ?_ ?_; focus omega) | with_reducible refine zok_j ?_ | (with_reducible refine zok_t ?_ ?_; focus omega) | (with_reducible refine zok_f ?_ ?_; focus omega)))
      refine zok_t rfl ?_
      refine zok_e (m_isOut (m := m) rfl h.W r0 r1) ?_
      refine zok_t co ?_
      refine zok_e (m_goesBoth true false) ?_
      refine zok_f Bool.false_ne_true ?_
      exact zok_s ⟨zRR_0 h, zAn_e 1 rfl rfl⟩
    · refine zok_b (x_keepPast h) (fun τ hτ => ?_)
      have e4 : τ 4 = σ 4 := hτ.1 4 (by decide) (by omega)
      have hB1 := zB1_1 h.2.1 r0 r1 (zBs_p h.W (r := r))
      rw [e4]
      refine zok_b (c_betterRow h.W h.B r0 r1) (fun x hx => ?_)
      (repeat (first | (with_reducible refine zok_g ?_ ?_; focus omega) | with_reducible refine zok_j ?_ | (with_reducible refine zok_t ?_ ?_; focus omega) | (with_reducible refine zok_f ?_ ?_; focus omega)))
      refine zok_s ?_
      refine zok_e b ?_
      (repeat (first | (with_reducible refine zok_g ?_ ?_; focus omega) | with_reducible refine zok_j ?_ | (with_reducible refine zok_t ?_ ?_; focus omega) | (with_reducible refine zok_f ?_ ?_; focus omega)))
      refine zok_t rfl ?_
      refine zok_e (m_isOut (m := m) rfl h.W r0 r1) ?_
      refine zok_f co ?_
      refine zok_e (m_goesBoth true true) ?_
      refine zok_t rfl ?_
      refine m_aside (p := True) (fun t tE t0 tA => ?_)
      have ts : t.2 2 = m.2 2 := tE.2 2 (by decide)
      refine zok_b (m_betters ts h.W r0 r1) (fun y hy => ?_)
      obtain ⟨yE, y2, yv⟩ := hy
      have yE2 : zEx [0] [2, 5, 14] m y.1 := zEx_t (zEx_w tE (fun _ h => h) (by decide)) (zEx_w yE (by decide) (by decide))
      refine m_kept (by rw [yE2.1 22 (by decide)]; exact h.2.2.2.1.2.1) (fun u uE u22 uP => ⟨?_, ?_⟩)
      · refine zRR_k1 h hτ (fun k k4 k9 => ?_) yE2 (by decide) y2 (by rw [yE.2 5 (by decide)]; exact tA) ?_ (zSim.set1 r0 (by omega)) uE u22 uP
        · dsimp only
          rw [zSu_n k4, zSu_n k9]
        · dsimp only
          rw [zSu_s, hx.1]
          exact hB1
      · refine zAn_v ((uE.1 0 (by decide)).trans ((yE.1 0 (by decide)).trans t0)) ?_ ?_
        · show x.2.1.2 5 r = y.2
          rw [hx.1, zPa_s, zup_s, yv]
        · rw [hx.1, zPa_s, zup_s]
          have hb := (zBs_i h.W (r := r) (zf (m.2 2) r 0).toNat).1
          have hsz := (h.W.row r0 r1).1
          have e : zBs (m.2 2) r = (zFd (zBsf (m.2 2) r) (zf (m.2 2) r 0).toNat (-1, 0)).1 := rfl
          rw [← e] at hb
          exact ⟨by omega, by omega⟩
  · unfold zCl fX7_better fX8_better
    refine zok_er a (zok_s ?_)
    refine zok_e b ?_
    (repeat (first | (with_reducible refine zok_g ?_ ?_; focus omega) | with_reducible refine zok_j ?_ | (with_reducible refine zok_t ?_ ?_; focus omega) | (with_reducible refine zok_f ?_ ?_; focus omega)))
    refine zok_f Bool.false_ne_true ?_
    refine zok_e (m_goesBoth false false) ?_
    refine zok_f Bool.false_ne_true ?_
    exact zok_s ⟨zRR_0 h, zAn_e 0 rfl rfl⟩
theorem s_improve (h : zRR σ m) {n : Int} (hn : iR n) : zCl [zIA] (fX7_improve σ n) (fX8_improve m n) := by
  unfold zCl fX7_improve fX8_improve
  have hc : fX7_isCountOfImproves n = some (decide (1 ≤ n ∧ n ≤ 50)) := by
    apply zok_q
    unfold fX7_isCountOfImproves
    (repeat (first | (with_reducible refine zok_g ?_ ?_; focus omega) | with_reducible refine zok_j ?_ | (with_reducible refine zok_t ?_ ?_; focus omega) | (with_reducible refine zok_f ?_ ?_; focus omega)))
    refine zok_i (fun c => zok_s (decide_eq_false (by omega)).symm) (fun c => ?_)
    (repeat (first | (with_reducible refine zok_g ?_ ?_; focus omega) | with_reducible refine zok_j ?_ | (with_reducible refine zok_t ?_ ?_; focus omega) | (with_reducible refine zok_f ?_ ?_; focus omega)))
    exact zok_i (fun c2 => zok_s (decide_eq_false (by omega)).symm) (fun c2 => zok_s (decide_eq_true (by omega)).symm)
  refine zok_e hc ?_
  refine zok_i (fun c => ?_) (fun c => zok_s ?_)
  · have c1 := of_decide_eq_true c
    refine zok_b (x_keepPast h) (fun τ hτ => ?_)
    have e4 : τ 4 = σ 4 := hτ.1 4 (by decide) (by omega)
    rw [e4]
    refine zok_b (c_improveAtMost h.W h.B c1.1 (by omega)) (fun x hx => zok_s ?_)
    (repeat (first | (with_reducible refine zok_g ?_ ?_; focus omega) | with_reducible refine zok_j ?_ | (with_reducible refine zok_t ?_ ?_; focus omega) | (with_reducible refine zok_f ?_ ?_; focus omega)))
    refine zok_e (m_isIn ⟨by omega, by omega⟩ (by decide) (by decide)) ?_
    rw [decide_eq_true c1]
    refine zok_e m_go1 ?_
    refine zok_t rfl ?_
    refine m_aside (p := True) (fun t tE t0 tA => ?_)
    have ts : t.2 2 = m.2 2 := tE.2 2 (by decide)
    refine zok_b (m_improves ts h.W (n := n) (by omega) (by omega)) (fun y hy => ?_)
    obtain ⟨yE, y2, yv⟩ := hy
    have hI := zIms_W n.toNat h.W
    have yE2 : zEx [0] [2, 5, 14] m y.1 := zEx_t (zEx_w tE (fun _ h => h) (by decide)) (zEx_w yE (by decide) (by decide))
    refine m_kept (by rw [yE2.1 22 (by decide)]; exact h.2.2.2.1.2.1) (fun u uE u22 uP => ⟨?_, ?_⟩)
    · refine zRR_k1 h hτ (fun k k4 k9 => ?_) yE2 (by decide) y2 (by rw [yE.2 5 (by decide)]; exact tA) ?_ (zSim_imsN h.W) uE u22 uP
      · dsimp only
        rw [zSu_n k4, zSu_n k9]
      · dsimp only
        rw [zSu_s]
        exact ⟨hI.1, hx.1, fun r r0 r1 => by rw [hx.2.2]; rw [hI.2.1] at r1; exact h.2.1.2.2 r r0 r1⟩
    · refine zAn_v ((uE.1 0 (by decide)).trans ((yE.1 0 (by decide)).trans t0)) (hx.2.1.trans yv.symm) ?_
      rw [hx.2.1]
      have := hI.2.2
      exact ⟨by omega, by omega⟩
  · (repeat (first | (with_reducible refine zok_g ?_ ?_; focus omega) | with_reducible refine zok_j ?_ | (with_reducible refine zok_t ?_ ?_; focus omega) | (with_reducible refine zok_f ?_ ?_; focus omega)))
    refine zok_e (m_isIn ⟨by omega, by omega⟩ (by decide) (by decide)) ?_
    rw [decide_eq_false (fun z => c (decide_eq_true z))]
    refine zok_e m_go0 ?_
    refine zok_f Bool.false_ne_true ?_
    exact zok_s ⟨zRR_0 h, zAn_e 0 rfl rfl⟩
end ZCC
