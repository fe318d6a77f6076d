section ZTN
variable {σ : CS} {m : CV} {s : Int → Int}
theorem zRR_10 {T : CV} (h : zRR σ m) (hT : 0 ≤ T.1 100 ∧ T.1 100 ≤ 4096) : zRR (zSu σ 10 T) m := by
  unfold zRR zRp at h ⊢
  rw [zSu_n (show 0 ≠ 10 by decide), zSu_n (show 1 ≠ 10 by decide), zSu_n (show 4 ≠ 10 by decide), zSu_n (show 5 ≠ 10 by decide), zSu_n (show 7 ≠ 10 by decide), zSu_n (show 8 ≠ 10 by decide), zSu_s]
  refine ⟨h.1, h.2.1, h.2.2.1, ⟨h.2.2.2.1.1, h.2.2.2.1.2.1, fun p p0 p1 => ?_⟩, h.2.2.2.2.1, hT, h.2.2.2.2.2.2⟩
  rw [zSu_n (show 11 + p.toNat ≠ 10 by omega)]
  exact h.2.2.2.1.2.2 p p0 p1
theorem zRR_t100 (h : zRR σ m) : 0 ≤ (σ 10).1 100 ∧ (σ 10).1 100 ≤ 4096 := h.2.2.2.2.2.1
theorem m_laysTimes (hs : m.2 2 = s) (hW : zWf s) : zOk (fX8_laysTimes m) (fun t => zEx [] [12] m t ∧ ∀ w, 0 ≤ w → w < zWords s → t.2 12 w = zTm s w (s 0).toNat) := by
  unfold fX8_laysTimes
  have w0 := hW.1
  have w2 := hW.2.2.1
  have hw := zWords_r hW
  refine zok_F (mk := fun a i => (i, a)) (zWords s) (fun i t => zEx [] [12] m t ∧ ∀ w, 0 ≤ w → w < i → t.2 12 w = 0) rfl (by omega) ⟨zEx_0, fun w _ _ => by omega⟩ (fun i t hi hi2 hI => ?_) (fun i t hi hi2 hi3 hi4 hI => ?_)
  · have ts : t.2 2 = s := (hI.1.2 2 (by decide)).trans hs
    refine zok_e (m_words ts hW) ?_
    dsimp only
    (repeat (first | (with_reducible refine zok_g ?_ ?_; focus omega) | with_reducible refine zok_j ?_ | (with_reducible refine zok_t ?_ ?_; focus omega) | (with_reducible refine zok_f ?_ ?_; focus omega)))
    refine zok_sl ⟨_, rfl, zEx_a hI.1 (by decide), fun w q0 q1 => ?_⟩
    rw [zPa_s]
    by_cases e : w = i
    · rw [e, zup_s]
    · rw [zup_n e]; exact hI.2 w q0 (by omega)
  · have ts : t.2 2 = s := (hI.1.2 2 (by decide)).trans hs
    refine zok_e (m_words ts hW) ?_
    dsimp only
    (repeat (first | (with_reducible refine zok_g ?_ ?_; focus omega) | with_reducible refine zok_j ?_ | (with_reducible refine zok_t ?_ ?_; focus omega) | (with_reducible refine zok_f ?_ ?_; focus omega)))
    have ei := hi3 (by omega)
    subst ei
    refine zok_sr ?_
    dsimp only
    refine zok_F (mk := fun a i => (i, a)) (s 0) (fun r t => zEx [] [12] m t ∧ ∀ w, 0 ≤ w → w < zWords s → t.2 12 w = zTm s w r.toNat) rfl (by omega) ⟨hI.1, fun w q0 q1 => hI.2 w q0 q1⟩ (fun r t hr hr2 hI => ?_) (fun r t hr hr2 hr3 hr4 hI => ?_)
    · have ts : t.2 2 = s := (hI.1.2 2 (by decide)).trans hs
      dsimp only
      rw [ts]
      (repeat (first | (with_reducible refine zok_g ?_ ?_; focus omega) | with_reducible refine zok_j ?_ | (with_reducible refine zok_t ?_ ?_; focus omega) | (with_reducible refine zok_f ?_ ?_; focus omega)))
      have hsz := (hW.row hr hr2).1
      refine zok_F (mk := fun a i => (i, a)) (zf s r 0) (fun j t => zEx [] [12] m t ∧ ∀ w, 0 ≤ w → w < zWords s → t.2 12 w = zFd (zTmf s w r) j.toNat (zTm s w r.toNat)) rfl (by omega) ⟨hI.1, fun w q0 q1 => hI.2 w q0 q1⟩ (fun j t hj hj2 hJ => ?_) (fun j t hj hj2 hj3 hj4 hJ => ?_)
      · have ts : t.2 2 = s := (hJ.1.2 2 (by decide)).trans hs
        refine zok_e (m_of ts (by omega) (by omega)) ?_
        dsimp only
        (repeat (first | (with_reducible refine zok_g ?_ ?_; focus omega) | with_reducible refine zok_j ?_ | (with_reducible refine zok_t ?_ ?_; focus omega) | (with_reducible refine zok_f ?_ ?_; focus omega)))
        refine zok_e (m_isPlace ts hW hr hr2 ⟨by omega, by omega⟩) ?_
        have eJ : ∀ w, zFd (zTmf s w r) (j + 1).toNat (zTm s w r.toNat) = zTmf s w r j (zFd (zTmf s w r) j.toNat (zTm s w r.toNat)) := fun w => zFd_s hj
        rcases zPl_c (s := s) (r := r) (i := j) with ⟨hp, hP⟩ | ⟨hp, hP⟩
        · refine zok_t hp ?_
          refine zok_e (show fX8_wordThere t r j = some (zWt s r j) from m_wordThere ts hW hr hr2 hP.2.1 hP.2.2.1) ?_
          have hwr := zWt_r hW hr hr2 hP
          refine zok_g ⟨by omega, by omega⟩ (zok_sl ⟨_, rfl, zEx_a hJ.1 (by decide), fun w q0 q1 => ?_⟩)
          rw [zPa_s, eJ w]
          unfold zTmf
          by_cases e : w = zWt s r j
          · subst e
            rw [zup_s, if_pos ⟨hp, rfl⟩, hJ.2 _ q0 q1]
            rfl
          · rw [zup_n e, if_neg (fun z => e z.2.symm), hJ.2 w q0 q1]
            rfl
        · refine zok_f (by rw [hp]; decide) (zok_sl ⟨_, rfl, hJ.1, fun w q0 q1 => ?_⟩)
          rw [eJ w]
          have ef : ∀ a, zTmf s w r j a = a := fun a => if_neg (fun z => by rw [hp] at z; exact Bool.false_ne_true z.1)
          rw [ef]
          exact hJ.2 w q0 q1
      · have ts : t.2 2 = s := (hJ.1.2 2 (by decide)).trans hs
        refine zok_e (m_of ts (by omega) (by omega)) ?_
        dsimp only
        (repeat (first | (with_reducible refine zok_g ?_ ?_; focus omega) | with_reducible refine zok_j ?_ | (with_reducible refine zok_t ?_ ?_; focus omega) | (with_reducible refine zok_f ?_ ?_; focus omega)))
        have ej := hj3 (by omega)
        subst ej
        exact zok_sr (zok_sl ⟨_, rfl, hJ.1, fun w q0 q1 => by rw [zTm_s hr]; exact hJ.2 w q0 q1⟩)
    · have ts : t.2 2 = s := (hI.1.2 2 (by decide)).trans hs
      dsimp only
      rw [ts]
      (repeat (first | (with_reducible refine zok_g ?_ ?_; focus omega) | with_reducible refine zok_j ?_ | (with_reducible refine zok_t ?_ ?_; focus omega) | (with_reducible refine zok_f ?_ ?_; focus omega)))
      have er := hr3 (by omega)
      subst er
      exact zok_sr (zok_s hI)
noncomputable def zKdn (s : Int → Int) (n : Nat) : Int := zFd (fun w a => if zTm s w (s 0).toNat = 0 then a else a + 1) n 0
theorem zKdn_s {w : Int} (h : 0 ≤ w) : zKdn s (w + 1).toNat = if zTm s w (s 0).toNat = 0 then zKdn s w.toNat else zKdn s w.toNat + 1 := zFd_s h
theorem s_kinds (h : zRR σ m) : zOk (fX7_kinds σ) (fun t => zOk (fX8_kinds m) (fun u => zRR t.1 u.1 ∧ t.2 = u.2 ∧ iR t.2)) := by
  unfold fX7_kinds fX8_kinds
  have hW := h.W
  have w0 := hW.1
  have hw := zWords_r hW
  have hT := zRR_t100 h
  refine zok_g ⟨by omega, by omega⟩ ?_
  refine zok_b (c_addAllPlaces hW h.B hT) (fun t0 ht0 => ?_)
  have h100 := zTy_100 hW hT ht0.1
  have tr := fun w => zTm_r (s := m.2 2) hW (w := w) (m.2 2 0).toNat (by omega)
  refine zok_b (P := fun x => x = zKdn (m.2 2) (zWords (m.2 2)).toNat ∧ iR x) ?_ (fun x hx => zok_s ?_)
  · unfold fX4_marked
    rw [ht0.1.1]
    refine zok_F (mk := fun a i => (a, i)) (zWords (m.2 2)) (fun w a => a = zKdn (m.2 2) w.toNat ∧ 0 ≤ a ∧ a ≤ w) rfl (by omega) ⟨rfl, Int.le_refl 0, Int.le_refl 0⟩ (fun w a q0 q1 hI => ?_) (fun w a q0 q1 q2 q3 hI => ?_)
    · dsimp only
      have e := ht0.2 w q0 q1
      have hr := tr w
      rw [e]
      have eS := zKdn_s (s := m.2 2) q0
      rw [← hI.1] at eS
      (repeat (first | (with_reducible refine zok_g ?_ ?_; focus omega) | with_reducible refine zok_j ?_ | (with_reducible refine zok_t ?_ ?_; focus omega) | (with_reducible refine zok_f ?_ ?_; focus omega)))
      refine zok_i (fun c => zok_sl ⟨_, rfl, by rw [eS, if_pos c], by omega, by omega⟩) (fun c => zok_sl ⟨_, rfl, by rw [eS, if_neg c], by omega, by omega⟩)
    · dsimp only
      (repeat (first | (with_reducible refine zok_g ?_ ?_; focus omega) | with_reducible refine zok_j ?_ | (with_reducible refine zok_t ?_ ?_; focus omega) | (with_reducible refine zok_f ?_ ?_; focus omega)))
      refine zok_sr (zok_s ⟨?_, by omega, by omega⟩)
      rw [hI.1, q2 (by omega)]
  · refine zok_b (m_laysTimes (m := zPu m 0 0) (s := m.2 2) rfl hW) (fun t ht => ?_)
    have ts : t.2 2 = m.2 2 := ht.1.2 2 (by decide)
    have hR := zRR_10 (zRR_x h ht.1 (by decide) (by decide)) (T := t0) (by omega)
    refine zok_F (mk := fun a i => (a, i)) (zWords (m.2 2)) (fun w a => a = zKdn (m.2 2) w.toNat ∧ 0 ≤ a ∧ a ≤ w) rfl (by omega) ⟨rfl, Int.le_refl 0, Int.le_refl 0⟩ (fun w a q0 q1 hI => ?_) (fun w a q0 q1 q2 q3 hI => ?_)
    · dsimp only
      refine zok_e (m_words ts hW) ?_
      have e := ht.2 w q0 q1
      have hr := tr w
      rw [e]
      have eS := zKdn_s (s := m.2 2) q0
      rw [← hI.1] at eS
      (repeat (first | (with_reducible refine zok_g ?_ ?_; focus omega) | with_reducible refine zok_j ?_ | (with_reducible refine zok_t ?_ ?_; focus omega) | (with_reducible refine zok_f ?_ ?_; focus omega)))
      refine zok_i (fun c => ?_) (fun c => ?_)
      · rw [if_pos (show zTm (m.2 2) w (m.2 2 0).toNat = 0 by omega)] at eS
        refine zok_e (m_truth (by decide)) (zok_sl ⟨_, rfl, ?_, ?_⟩)
        · rw [if_pos rfl, eS]; omega
        · rw [if_pos rfl]; omega
      · rw [if_neg (show ¬ zTm (m.2 2) w (m.2 2 0).toNat = 0 by omega)] at eS
        refine zok_e (m_truth (by decide)) (zok_sl ⟨_, rfl, ?_, ?_⟩)
        · rw [if_neg (by decide), eS]
        · rw [if_neg (by decide)]; omega
    · dsimp only
      refine zok_e (m_words ts hW) ?_
      (repeat (first | (with_reducible refine zok_g ?_ ?_; focus omega) | with_reducible refine zok_j ?_ | (with_reducible refine zok_t ?_ ?_; focus omega) | (with_reducible refine zok_f ?_ ?_; focus omega)))
      refine zok_sr (zok_s ⟨hR, ?_, hx.2⟩)
      show x = a
      rw [hx.1, hI.1, q2 (by omega)]
end ZTN
