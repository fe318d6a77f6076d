section ZTO
variable {σ : CS} {m : CV} {s : Int → Int}
noncomputable def zCmn (s : Int → Int) (n : Nat) : Int := zFd (fun w b => if zTm s w (s 0).toNat ≤ (if b = -1 then 0 else zTm s b (s 0).toNat) then b else w) n (-1)
theorem zCmn_s {w : Int} (h : 0 ≤ w) : zCmn s (w + 1).toNat = if zTm s w (s 0).toNat ≤ (if zCmn s w.toNat = -1 then 0 else zTm s (zCmn s w.toNat) (s 0).toNat) then zCmn s w.toNat else w := zFd_s h
theorem s_commonest (h : zRR σ m) : zOk (fX7_commonest σ) (fun t => zOk (fX8_commonest m) (fun u => zRR t.1 u.1 ∧ t.2 = u.2 ∧ iR t.2)) := by
  unfold fX7_commonest fX8_commonest
  have hW := h.W
  have w0 := hW.1
  have hw := zWords_r hW
  have hT := zRR_t100 h
  refine zok_g ⟨by omega, by omega⟩ ?_
  refine zok_b (c_addAllPlaces hW h.B hT) (fun t0 ht0 => ?_)
  have h100 := zTy_100 hW hT ht0.1
  have tr := fun w => zTm_r (s := m.2 2) hW (w := w) (m.2 2 0).toNat (by omega)
  refine zok_b (P := fun x => x = zCmn (m.2 2) (zWords (m.2 2)).toNat ∧ iR x) ?_ (fun x hx => zok_s ?_)
  · unfold fX4_mostMarked
    rw [ht0.1.1]
    refine zok_F (mk := fun (a : Int × Int) i => (a.1, a.2, i)) (zWords (m.2 2)) (fun w a => a.1 = zCmn (m.2 2) w.toNat ∧ (-1 ≤ a.1 ∧ a.1 < w) ∧ a.2 = (if a.1 = -1 then 0 else zTm (m.2 2) a.1 (m.2 2 0).toNat)) (a0 := (-1, 0)) rfl (by omega) ⟨rfl, ⟨Int.le_refl _, (show (-1 : Int) < 0 by decide)⟩, rfl⟩ (fun w a q0 q1 hI => ?_) (fun w a q0 q1 q2 q3 hI => ?_)
    · obtain ⟨b, x⟩ := a
      obtain ⟨hb, hr, hx⟩ := hI
      dsimp only at hb hr hx ⊢
      have e := ht0.2 w q0 q1
      have h1 := tr w
      have h2 := tr b
      have h3 : 0 ≤ x ∧ x ≤ 300 := by rw [hx]; split <;> omega
      rw [e]
      have eS := zCmn_s (s := m.2 2) q0
      rw [← hb, ← hx] at eS
      (repeat (first | (with_reducible refine zok_g ?_ ?_; focus omega) | with_reducible refine zok_j ?_ | (with_reducible refine zok_t ?_ ?_; focus omega) | (with_reducible refine zok_f ?_ ?_; focus omega)))
      refine zok_i (fun c => zok_sl ⟨(b, x), rfl, by rw [eS, if_pos c], ⟨hr.1, by show b < _; omega⟩, hx⟩) (fun c => zok_sl ⟨(w, _), rfl, by rw [eS, if_neg c], ⟨by show -1 ≤ w; omega, by show w < _; omega⟩, ?_⟩)
      show _ = if w = -1 then 0 else zTm (m.2 2) w (m.2 2 0).toNat
      rw [if_neg (show ¬ w = -1 by omega)]
      rfl
    · obtain ⟨b, x⟩ := a
      obtain ⟨hb, hr, hx⟩ := hI
      dsimp only at hb hr hx ⊢
      (repeat (first | (with_reducible refine zok_g ?_ ?_; focus omega) | with_reducible refine zok_j ?_ | (with_reducible refine zok_t ?_ ?_; focus omega) | (with_reducible refine zok_f ?_ ?_; focus omega)))
      refine zok_sr (zok_s ⟨?_, by show -2147483648 ≤ b; omega, by show b < 2147483648; omega⟩)
      show b = _
      rw [hb, q2 (by omega)]
  · refine zok_b (m_laysTimes (m := zPu m 0 0) (s := m.2 2) rfl hW) (fun t ht => ?_)
    have ts : t.2 2 = m.2 2 := ht.1.2 2 (by decide)
    have hR := zRR_10 (zRR_x h ht.1 (by decide) (by decide)) (T := t0) (by omega)
    refine zok_F (mk := fun a i => (a, i)) (zWords (m.2 2)) (fun w a => a = zCmn (m.2 2) w.toNat ∧ (-1 ≤ a ∧ a < w)) rfl (by omega) ⟨rfl, Int.le_refl _, (show (-1 : Int) < 0 by decide)⟩ (fun w a q0 q1 hI => ?_) (fun w a q0 q1 q2 q3 hI => ?_)
    · dsimp only
      refine zok_e (m_words ts hW) ?_
      have e := ht.2 w q0 q1
      have h1 := tr w
      have h2 := tr a
      rw [e]
      have eS := zCmn_s (s := m.2 2) q0
      rw [← hI.1] at eS
      by_cases ca : a = -1
      · rw [if_pos ca] at eS
        (repeat (first | (with_reducible refine zok_g ?_ ?_; focus omega) | with_reducible refine zok_j ?_ | (with_reducible refine zok_t ?_ ?_; focus omega) | (with_reducible refine zok_f ?_ ?_; focus omega)))
        refine zok_i (fun c => zok_sl ⟨_, rfl, by rw [eS, if_pos c], hI.2.1, by omega⟩) (fun c => ?_)
        (repeat (first | (with_reducible refine zok_g ?_ ?_; focus omega) | with_reducible refine zok_j ?_ | (with_reducible refine zok_t ?_ ?_; focus omega) | (with_reducible refine zok_f ?_ ?_; focus omega)))
        exact zok_sl ⟨_, rfl, by rw [eS, if_neg c], by omega, by omega⟩
      · rw [if_neg ca] at eS
        have ea := ht.2 a (by omega) (by omega)
        rw [ea]
        (repeat (first | (with_reducible refine zok_g ?_ ?_; focus omega) | with_reducible refine zok_j ?_ | (with_reducible refine zok_t ?_ ?_; focus omega) | (with_reducible refine zok_f ?_ ?_; focus omega)))
        refine zok_i (fun c => zok_sl ⟨_, rfl, by rw [eS, if_pos (by omega)], hI.2.1, by omega⟩) (fun c => ?_)
        (repeat (first | (with_reducible refine zok_g ?_ ?_; focus omega) | with_reducible refine zok_j ?_ | (with_reducible refine zok_t ?_ ?_; focus omega) | (with_reducible refine zok_f ?_ ?_; focus omega)))
        exact zok_i (fun c2 => zok_sl ⟨_, rfl, by rw [eS, if_pos c2], hI.2.1, by omega⟩) (fun c2 => zok_sl ⟨_, rfl, by rw [eS, if_neg c2], by omega, by omega⟩)
    · dsimp only
      refine zok_e (m_words ts hW) ?_
      (repeat (first | (with_reducible refine zok_g ?_ ?_; focus omega) | with_reducible refine zok_j ?_ | (with_reducible refine zok_t ?_ ?_; focus omega) | (with_reducible refine zok_f ?_ ?_; focus omega)))
      refine zok_sr (zok_s ⟨hR, ?_, hx.2⟩)
      show x = a
      rw [hx.1, hI.1, q2 (by omega)]
theorem m_times {w : Int} (hs : m.2 2 = s) (hW : zWf s) (hw : iR w) : fX8_times m w = some (zTm s w (s 0).toNat) := by
  apply zok_q
  unfold fX8_times
  have w0 := hW.1
  have w2 := hW.2.2.1
  rw [hs]
  refine zok_F (mk := fun a i => (a, i)) (s 0) (fun r a => a = zTm s w r.toNat) rfl (by omega) rfl (fun r a hr hr2 hI => ?_) (fun r a hr hr2 hr3 hr4 hI => ?_)
  · dsimp only
    (repeat (first | (with_reducible refine zok_g ?_ ?_; focus omega) | with_reducible refine zok_j ?_ | (with_reducible refine zok_t ?_ ?_; focus omega) | (with_reducible refine zok_f ?_ ?_; focus omega)))
    have hsz := (hW.row hr hr2).1
    refine zok_F (mk := fun a i => (a, i)) (zf s r 0) (fun j b => b = zFd (zTmf s w r) j.toNat a) rfl (by omega) rfl (fun j b hj hj2 hJ => ?_) (fun j b hj hj2 hj3 hj4 hJ => ?_)
    · refine zok_e (m_of hs (by omega) (by omega)) ?_
      dsimp only
      (repeat (first | (with_reducible refine zok_g ?_ ?_; focus omega) | with_reducible refine zok_j ?_ | (with_reducible refine zok_t ?_ ?_; focus omega) | (with_reducible refine zok_f ?_ ?_; focus omega)))
      refine zok_e (m_isPlace hs hW hr hr2 ⟨by omega, by omega⟩) ?_
      have eJ : zFd (zTmf s w r) (j + 1).toNat a = zTmf s w r j (zFd (zTmf s w r) j.toNat a) := zFd_s hj
      rw [← hJ] at eJ
      rcases zPl_c (s := s) (r := r) (i := j) with ⟨hp, hP⟩ | ⟨hp, hP⟩
      · have hwr := zWt_r hW hr hr2 hP
        have hww := zWords_r hW
        refine zok_j ?_
        refine zok_j ?_
        refine zok_t hp ?_
        refine zok_e (show fX8_wordThere m r j = some (zWt s r j) from m_wordThere hs hW hr hr2 hP.2.1 hP.2.2.1) ?_
        refine zok_g ⟨⟨by omega, by omega⟩, hw⟩ ?_
        refine zok_i (fun c => ?_) (fun c => ?_)
        · refine zok_e (m_truth (by decide)) (zok_sl ⟨_, rfl, ?_⟩)
          rw [if_neg (by decide), eJ]
          exact (if_pos ⟨hp, c⟩).symm
        · refine zok_e (m_truth (by decide)) (zok_sl ⟨_, rfl, ?_⟩)
          rw [if_pos rfl, eJ, Int.add_zero]
          exact (if_neg (fun z => c z.2)).symm
      · refine zok_j ?_
        refine zok_j ?_
        refine zok_f (by rw [hp]; decide) ?_
        refine zok_e (m_truth (by decide)) (zok_sl ⟨_, rfl, ?_⟩)
        rw [if_pos rfl, eJ, Int.add_zero]
        exact (if_neg (fun z => by rw [hp] at z; exact Bool.false_ne_true z.1)).symm
    · refine zok_e (m_of hs (by omega) (by omega)) ?_
      dsimp only
      (repeat (first | (with_reducible refine zok_g ?_ ?_; focus omega) | with_reducible refine zok_j ?_ | (with_reducible refine zok_t ?_ ?_; focus omega) | (with_reducible refine zok_f ?_ ?_; focus omega)))
      have ej := hj3 (by omega)
      subst ej
      exact zok_sr (zok_sl ⟨_, rfl, by rw [zTm_s hr, ← hI]; exact hJ⟩)
  · dsimp only
    (repeat (first | (with_reducible refine zok_g ?_ ?_; focus omega) | with_reducible refine zok_j ?_ | (with_reducible refine zok_t ?_ ?_; focus omega) | (with_reducible refine zok_f ?_ ?_; focus omega)))
    refine zok_sr (zok_s ?_)
    rw [hI, hr3 (by omega)]
theorem s_timesOf (h : zRR σ m) {w : Int} (hr : iR w) : zCl [zIO] (fX7_timesOf σ w) (fX8_timesOf m w) := by
  have hW := h.W
  have w0 := hW.1
  have hT := zRR_t100 h
  refine zWord_c h hr (fun q0 q1 a b => ?_) (fun a b => ?_)
  · unfold zCl fX7_timesOf fX8_timesOf
    refine zok_el a ?_
    refine zok_g ⟨by omega, by omega⟩ ?_
    refine zok_b (c_addAllPlaces hW h.B hT) (fun t0 ht0 => ?_)
    have h100 := zTy_100 hW hT ht0.1
    have tr := zTm_r (s := m.2 2) hW (w := w) (m.2 2 0).toNat (by omega)
    have et : fX4_times t0 w = some (zTm (m.2 2) w (m.2 2 0).toNat) := by
      apply zok_q
      unfold fX4_times
      exact zok_g ⟨by omega, by omega, by omega⟩ (zok_s (ht0.2 w q0 q1))
    refine zok_e et (zok_s ?_)
    refine zok_e b ?_
    refine zok_e m_go1 ?_
    refine zok_t rfl ?_
    refine zok_e (m_times (m := zPu m 0 0) (s := m.2 2) rfl hW hr) (zok_s ⟨zRR_10 (zRR_0 h) (by omega), zAn_v rfl rfl ⟨by omega, by omega⟩⟩)
  · unfold zCl fX7_timesOf fX8_timesOf
    refine zok_er a ?_
    refine zok_g ⟨by omega, by omega⟩ (zok_s ?_)
    refine zok_e b ?_
    refine zok_e m_go0 ?_
    refine zok_f Bool.false_ne_true ?_
    exact zok_s ⟨zRR_0 h, zAn_e 0 rfl rfl⟩
end ZTO
