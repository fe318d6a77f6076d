section ZCI
variable {σ : CS} {m : CV}
theorem m_chosen {s : Int → Int} (hs : m.2 2 = s) (hW : zWf s) : fX8_chosen m = some (zCh s) := by
  apply zok_q
  unfold fX8_chosen
  have w0 := hW.1
  rw [hs]
  refine zok_F (mk := fun a i => (a, i)) (s 0) (fun i a => a = zFd (fun r a => if zf s r 1 = -1 then a else a + 1) i.toNat 0) rfl (by omega) rfl (fun i a hi hi2 hI => ?_) (fun i a hi hi2 hi3 hi4 hI => ?_)
  · have hch := (hW.row hi hi2).2.1
    dsimp only
    (repeat (first | (with_reducible refine zok_g ?_ ?_; focus omega) | with_reducible refine zok_j ?_ | (with_reducible refine zok_t ?_ ?_; focus omega) | (with_reducible refine zok_f ?_ ?_; focus omega)))
    refine zok_e (m_of hs (by omega) (by omega)) ?_
    (repeat (first | (with_reducible refine zok_g ?_ ?_; focus omega) | with_reducible refine zok_j ?_ | (with_reducible refine zok_t ?_ ?_; focus omega) | (with_reducible refine zok_f ?_ ?_; focus omega)))
    refine zok_i (fun hp => ?_) (fun hp => ?_)
    · refine zok_e (m_truth (by decide)) (zok_sl ⟨_, rfl, ?_⟩)
      rw [zFd_s hi, if_pos hp, if_pos rfl, hI, Int.add_zero]
    · refine zok_e (m_truth (by decide)) (zok_sl ⟨_, rfl, ?_⟩)
      rw [zFd_s hi, if_neg hp, if_neg (by decide), hI]
  · dsimp only
    (repeat (first | (with_reducible refine zok_g ?_ ?_; focus omega) | with_reducible refine zok_j ?_ | (with_reducible refine zok_t ?_ ?_; focus omega) | (with_reducible refine zok_f ?_ ?_; focus omega)))
    refine zok_sr (zok_s ?_)
    rw [hI, hi3 (by omega)]
    rfl
theorem zCh_r {s : Int → Int} (hW : zWf s) : 0 ≤ zCh s ∧ zCh s ≤ 10 := by
  have w0 := hW.1
  have h := zFd_I (f := fun r a => if zf s r 1 = -1 then a else a + 1) (a := (0 : Int)) (fun i a => 0 ≤ a ∧ a ≤ i) ⟨Int.le_refl 0, Int.le_refl 0⟩ (s 0).toNat (fun i a _ _ ha => by
    show 0 ≤ (if zf s i 1 = -1 then a else a + 1) ∧ (if zf s i 1 = -1 then a else a + 1) ≤ i + 1
    split <;> omega)
  unfold zCh
  omega
theorem s_row (h : zRR σ m) {r w : Int} (hr : iR r) (hw : iR w) : zCp σ [zIO, zIA] (fX7_row σ r w) (fX8_row m r w) := by
  have w0 := h.W.1
  have hin := m_isIn (a := w) (lo := 0) (hi := 4) ⟨by omega, by omega⟩ (by decide) (by decide)
  refine zRow_c h hr (fun r0 r1 a b => ?_) (fun a b => ?_)
  · unfold zCp fX7_row fX8_row
    obtain ⟨s1, s2, s3, s4, _⟩ := h.W.row r0 r1
    obtain ⟨e1, e2, e3, e4, _⟩ := h.B.row r0 r1
    have mod : ∀ v, 0 ≤ w ∧ w ≤ 4 → iR v → zOk ((if w = 0 then ((fX8_of (zPu m 0 0) r 0).bind fun t10 => some (zPu m 0 0, t10)) else if w = 1 then ((fX8_placesOf (zPu m 0 0) r).bind fun t13 => some (zPu m 0 0, t13)) else if w = 2 then ((fX8_of (zPu m 0 0) r 1).bind fun t16 => some (zPu m 0 0, t16)) else if w = 3 then ((fX8_of (zPu m 0 0) r 2).bind fun t19 => some (zPu m 0 0, t19)) else ((fX8_of (zPu m 0 0) r 3).bind fun t21 => some (zPu m 0 0, t21)) : Option (CV × Int))) (fun u => u.1 = zPu m 0 0 ∧ u.2 = v) → zOk ((fX8_isRow m r).bind fun t1 => zG (iR w) <| (fX8_isIn w 0 4).bind fun t4 => (fX8_goesBoth m (b2 t1) (b2 t4)).bind fun t6 => if t6.2 = true then (if w = 0 then ((fX8_of t6.1 r 0).bind fun t10 => some (t6.1, t10)) else if w = 1 then ((fX8_placesOf t6.1 r).bind fun t13 => some (t6.1, t13)) else if w = 2 then ((fX8_of t6.1 r 1).bind fun t16 => some (t6.1, t16)) else if w = 3 then ((fX8_of t6.1 r 2).bind fun t19 => some (t6.1, t19)) else ((fX8_of t6.1 r 3).bind fun t21 => some (t6.1, t21))) else (some (t6.1, 0))) (fun u => zRR σ u.1 ∧ zAn [zIO, zIA] (.inl v) (u.1.1 0) u.2) := by
      intro v hw4 hv hk
      rw [decide_eq_true hw4] at hin
      refine zok_e b ?_
      (repeat (first | (with_reducible refine zok_g ?_ ?_; focus omega) | with_reducible refine zok_j ?_ | (with_reducible refine zok_t ?_ ?_; focus omega) | (with_reducible refine zok_f ?_ ?_; focus omega)))
      refine zok_e hin ?_
      refine zok_e (m_goesBoth true true) ?_
      refine zok_t rfl ?_
      refine zok_w hk (fun u hu => ?_)
      rw [hu.1]
      exact ⟨zRR_0 h, zAn_v rfl hu.2.symm hv⟩
    have hz : (zPu m 0 0).2 2 = m.2 2 := rfl
    refine zok_el a ?_
    rw [e1, e2, e4]
    (repeat (first | (with_reducible refine zok_g ?_ ?_; focus omega) | with_reducible refine zok_j ?_ | (with_reducible refine zok_t ?_ ?_; focus omega) | (with_reducible refine zok_f ?_ ?_; focus omega)))
    refine zok_i (fun c => ?_) (fun c => ?_)
    · (repeat (first | (with_reducible refine zok_g ?_ ?_; focus omega) | with_reducible refine zok_j ?_ | (with_reducible refine zok_t ?_ ?_; focus omega) | (with_reducible refine zok_f ?_ ?_; focus omega)))
      refine zok_s (mod _ (by omega) ⟨by omega, by omega⟩ ?_)
      (repeat (first | (with_reducible refine zok_g ?_ ?_; focus omega) | with_reducible refine zok_j ?_ | (with_reducible refine zok_t ?_ ?_; focus omega) | (with_reducible refine zok_f ?_ ?_; focus omega)))
      exact zok_e (m_of hz (by omega) (by omega)) (zok_s ⟨rfl, rfl⟩)
    refine zok_i (fun c2 => ?_) (fun c2 => ?_)
    · have hp : 0 ≤ zPs (m.2 2) r ∧ zPs (m.2 2) r ≤ zf (m.2 2) r 0 := by
        have h := zFd_I (f := fun i a => if zPl (m.2 2) r i = true then a + 1 else a) (a := (0 : Int)) (fun i a => 0 ≤ a ∧ a ≤ i) ⟨Int.le_refl 0, Int.le_refl 0⟩ (zf (m.2 2) r 0).toNat (fun i a _ _ ha => by
          show 0 ≤ (if zPl (m.2 2) r i = true then a + 1 else a) ∧ (if zPl (m.2 2) r i = true then a + 1 else a) ≤ i + 1
          split <;> omega)
        unfold zPs
        omega
      refine zok_e (b_placesOf h.W h.B r0 r1) (zok_s (mod _ (by omega) ⟨by omega, by omega⟩ ?_))
      (repeat (first | (with_reducible refine zok_g ?_ ?_; focus omega) | with_reducible refine zok_j ?_ | (with_reducible refine zok_t ?_ ?_; focus omega) | (with_reducible refine zok_f ?_ ?_; focus omega)))
      exact zok_e (m_placesOf hz h.W r0 r1) (zok_s ⟨rfl, rfl⟩)
    refine zok_i (fun c3 => ?_) (fun c3 => ?_)
    · (repeat (first | (with_reducible refine zok_g ?_ ?_; focus omega) | with_reducible refine zok_j ?_ | (with_reducible refine zok_t ?_ ?_; focus omega) | (with_reducible refine zok_f ?_ ?_; focus omega)))
      refine zok_s (mod _ (by omega) ⟨by omega, by omega⟩ ?_)
      (repeat (first | (with_reducible refine zok_g ?_ ?_; focus omega) | with_reducible refine zok_j ?_ | (with_reducible refine zok_t ?_ ?_; focus omega) | (with_reducible refine zok_f ?_ ?_; focus omega)))
      exact zok_e (m_of hz (by omega) (by omega)) (zok_s ⟨rfl, rfl⟩)
    refine zok_i (fun c4 => ?_) (fun c4 => ?_)
    · refine zok_e (b_isOut h.W h.B r0 r1) ?_
      refine zok_i (fun co => zok_s (mod _ (by omega) (by decide) ?_)) (fun co => zok_s (mod _ (by omega) (by decide) ?_))
      · (repeat (first | (with_reducible refine zok_g ?_ ?_; focus omega) | with_reducible refine zok_j ?_ | (with_reducible refine zok_t ?_ ?_; focus omega) | (with_reducible refine zok_f ?_ ?_; focus omega)))
        exact zok_e (m_of hz (by omega) (by omega)) (zok_s ⟨rfl, of_decide_eq_true co⟩)
      · (repeat (first | (with_reducible refine zok_g ?_ ?_; focus omega) | with_reducible refine zok_j ?_ | (with_reducible refine zok_t ?_ ?_; focus omega) | (with_reducible refine zok_f ?_ ?_; focus omega)))
        refine zok_e (m_of hz (by omega) (by omega)) (zok_s ⟨rfl, ?_⟩)
        rcases s3 with s3 | s3
        · exact s3
        · exact absurd (decide_eq_true s3) co
    refine zok_i (fun c5 => ?_) (fun c5 => zok_s ?_)
    · (repeat (first | (with_reducible refine zok_g ?_ ?_; focus omega) | with_reducible refine zok_j ?_ | (with_reducible refine zok_t ?_ ?_; focus omega) | (with_reducible refine zok_f ?_ ?_; focus omega)))
      refine zok_s (mod _ (by omega) ⟨by omega, by omega⟩ ?_)
      (repeat (first | (with_reducible refine zok_g ?_ ?_; focus omega) | with_reducible refine zok_j ?_ | (with_reducible refine zok_t ?_ ?_; focus omega) | (with_reducible refine zok_f ?_ ?_; focus omega)))
      exact zok_e (m_of hz (by omega) (by omega)) (zok_s ⟨rfl, rfl⟩)
    · rw [decide_eq_false (by omega)] at hin
      refine zok_e b ?_
      (repeat (first | (with_reducible refine zok_g ?_ ?_; focus omega) | with_reducible refine zok_j ?_ | (with_reducible refine zok_t ?_ ?_; focus omega) | (with_reducible refine zok_f ?_ ?_; focus omega)))
      refine zok_e hin ?_
      refine zok_e (m_goesBoth true false) ?_
      refine zok_f Bool.false_ne_true ?_
      exact zok_s ⟨zRR_0 h, zAn_e 1 rfl rfl⟩
  · unfold zCp fX7_row fX8_row
    refine zok_er a (zok_s ?_)
    refine zok_e b ?_
    (repeat (first | (with_reducible refine zok_g ?_ ?_; focus omega) | with_reducible refine zok_j ?_ | (with_reducible refine zok_t ?_ ?_; focus omega) | (with_reducible refine zok_f ?_ ?_; focus omega)))
    refine zok_e hin ?_
    refine zok_e (m_goesBoth false _) ?_
    refine zok_f Bool.false_ne_true ?_
    exact zok_s ⟨zRR_0 h, zAn_e 0 rfl rfl⟩
/-- the greatest distance -/
noncomputable def zSpf (s : Int → Int) (u : Int → Int) (r a : Int) : Int := if zf s r 2 = 1 then a else zMax a (zNr s r u (s 2))
theorem s_spread (h : zRR σ m) {w : Int} (hr : iR w) : zCp σ [zIO] (fX7_spread σ w) (fX8_spread m w) := by
  have w2 := h.W.2.2.1
  have w4 := h.W.2.2.2.2.1
  refine zWord_c h hr (fun w0 w1 a b => ?_) (fun a b => ?_)
  · unfold zCp fX7_spread fX8_spread
    refine zok_el a ?_
    refine zok_b (b_codeOf h.W h.B w0 w1) (fun cd hcd => ?_)
    have rw0 := h.W.1
    rw [h.B.2.2.2.1, h.B.2.1]
    refine zok_F (mk := fun a i => (a, i)) (m.2 2 0) (fun i a => (-1 ≤ a ∧ a ≤ 6) ∧ a = zFd (zSpf (m.2 2) (zDg (m.2 2) w)) i.toNat (-1)) rfl (by omega) ⟨⟨by omega, by omega⟩, rfl⟩ (fun i a hi hi2 hI => ?_) (fun i a_1 hi hi2 hi3 hi4 hI => ?_)
    · dsimp only
      (repeat (first | (with_reducible refine zok_g ?_ ?_; focus omega) | with_reducible refine zok_j ?_ | (with_reducible refine zok_t ?_ ?_; focus omega) | (with_reducible refine zok_f ?_ ?_; focus omega)))
      refine zok_e (b_isOut h.W h.B hi hi2) ?_
      refine zok_i (fun co => zok_sl ⟨_, rfl, hI.1, ?_⟩) (fun co => ?_)
      · rw [zFd_s hi, ← hI.2]
        unfold zSpf
        rw [if_pos (of_decide_eq_true co)]
      · refine zok_e (b_nearest h.W h.B hi hi2 (m := m.2 2 2) (by omega) (Int.le_refl _) hcd.1 hcd.2.2) ?_
        have hn := zNr_r (s := m.2 2) (r := i) (u := zDg (m.2 2) w) (m := m.2 2 2) (by omega)
        (repeat (first | (with_reducible refine zok_g ?_ ?_; focus omega) | with_reducible refine zok_j ?_ | (with_reducible refine zok_t ?_ ?_; focus omega) | (with_reducible refine zok_f ?_ ?_; focus omega)))
        refine zok_sl ⟨_, rfl, ?_, ?_⟩
        · unfold zMax
          split <;> omega
        · rw [zFd_s hi, ← hI.2]
          unfold zSpf
          rw [if_neg (fun z => co (decide_eq_true z))]
    dsimp only
    (repeat (first | (with_reducible refine zok_g ?_ ?_; focus omega) | with_reducible refine zok_j ?_ | (with_reducible refine zok_t ?_ ?_; focus omega) | (with_reducible refine zok_f ?_ ?_; focus omega)))
    refine zok_sr (zok_s ?_)
    have ei := hi3 (by omega)
    subst ei
    have hI1 := hI.1
    refine zok_e b ?_
    refine zok_e m_go1 ?_
    refine zok_t rfl ?_
    refine zok_b (m_spells (m := zPu m 0 0) (s := m.2 2) rfl h.W w0 w1) (fun t ht => ?_)
    have ht2 : t.2 2 = m.2 2 := ht.1.2 2 (by decide)
    rw [ht2]
    refine zok_F (mk := fun a i => (a, i)) (m.2 2 0) (fun i a => (-1 ≤ a ∧ a ≤ 6) ∧ a = zFd (zSpf (m.2 2) (zDg (m.2 2) w)) i.toNat (-1)) rfl (by omega) ⟨⟨by omega, by omega⟩, rfl⟩ (fun i a hi hi2 hJ => ?_) (fun i y hi hi2 hi3 hi4 hJ => ?_)
    · dsimp only
      (repeat (first | (with_reducible refine zok_g ?_ ?_; focus omega) | with_reducible refine zok_j ?_ | (with_reducible refine zok_t ?_ ?_; focus omega) | (with_reducible refine zok_f ?_ ?_; focus omega)))
      refine zok_e (m_isOut ht2 h.W hi hi2) ?_
      refine zok_i (fun co => zok_sl ⟨_, rfl, hJ.1, ?_⟩) (fun co => ?_)
      · rw [zFd_s hi, ← hJ.2]
        unfold zSpf
        rw [if_pos (of_decide_eq_true co)]
      · refine zok_e (m_least ht2 h.W hi hi2 (by omega) (Int.le_refl _) ht.2 (zDgs h)) ?_
        have hn := zNr_r (s := m.2 2) (r := i) (u := zDg (m.2 2) w) (m := m.2 2 2) (by omega)
        (repeat (first | (with_reducible refine zok_g ?_ ?_; focus omega) | with_reducible refine zok_j ?_ | (with_reducible refine zok_t ?_ ?_; focus omega) | (with_reducible refine zok_f ?_ ?_; focus omega)))
        refine zok_i (fun c2 => zok_sl ⟨_, rfl, hJ.1, ?_⟩) (fun c2 => zok_sl ⟨_, rfl, ⟨by omega, by omega⟩, ?_⟩)
        · rw [zFd_s hi, ← hJ.2]
          unfold zSpf zMax
          rw [if_neg (fun z => co (decide_eq_true z)), if_neg (by omega)]
        · rw [zFd_s hi, ← hJ.2]
          unfold zSpf zMax
          rw [if_neg (fun z => co (decide_eq_true z)), if_pos (by omega)]
    dsimp only
    (repeat (first | (with_reducible refine zok_g ?_ ?_; focus omega) | with_reducible refine zok_j ?_ | (with_reducible refine zok_t ?_ ?_; focus omega) | (with_reducible refine zok_f ?_ ?_; focus omega)))
    refine zok_sr (zok_s ⟨zRR_x h ht.1 (by decide) (by decide), zAn_v (zCode0 ht.1 (by decide)) ?_ ⟨by omega, by omega⟩⟩)
    show a_1 = y
    rw [hJ.2, hi3 (by omega), hI.2]
  · unfold zCp fX7_spread fX8_spread
    refine zok_er a (zok_s ?_)
    refine zok_e b ?_
    refine zok_e m_go0 ?_
    refine zok_f Bool.false_ne_true ?_
    exact zok_s ⟨zRR_0 h, zAn_e 0 rfl rfl⟩
end ZCI
