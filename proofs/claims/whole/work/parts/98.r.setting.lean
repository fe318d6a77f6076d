section ZSG
variable {s : Int → Int}
theorem zSm30 {f : Int → Int} (n : Nat) (h : ∀ r : Int, 0 ≤ r → r < n → 0 ≤ f r ∧ f r ≤ 30) : 0 ≤ zFd (fun r a => a + f r) n 0 ∧ zFd (fun r a => a + f r) n 0 ≤ 30 * n :=
  zFd_I (f := fun r a => a + f r) (a := (0 : Int)) (fun i x => 0 ≤ x ∧ x ≤ 30 * i) ⟨by omega, by omega⟩ n (fun i x i0 i1 hx => by
    have := h i i0 i1
    show 0 ≤ x + f i ∧ x + f i ≤ 30 * (i + 1)
    omega)
theorem zPop_r {x : Int} (h0 : 0 ≤ x) (h1 : x < 1073741824) : 0 ≤ zPop x ∧ zPop x ≤ 30 := by
  rw [zPop_30 h0 h1]
  exact zFd_I (f := fun i a => a + x / zP2 i % 2) (a := (0 : Int)) (fun i x => 0 ≤ x ∧ x ≤ i) ⟨by omega, by omega⟩ 30 (fun i y i0 i1 hx => by
    show 0 ≤ y + x / zP2 i % 2 ∧ y + x / zP2 i % 2 ≤ i + 1
    omega)
theorem zPs_30 (hW : zWf s) {r : Int} (h0 : 0 ≤ r) (h1 : r < s 0) : 0 ≤ zPs s r ∧ zPs s r ≤ 30 := by
  have hr := (hW.row h0 h1).1
  have h := zFd_I (f := fun i a => if zPl s r i = true then a + 1 else a) (a := (0 : Int)) (fun i x => 0 ≤ x ∧ x ≤ i) ⟨by omega, by omega⟩ (zf s r 0).toNat (fun i y i0 i1 hx => by
    show 0 ≤ (if zPl s r i = true then y + 1 else y) ∧ (if zPl s r i = true then y + 1 else y) ≤ i + 1
    split <;> omega)
  have e : zPs s r = zFd (fun i a => if zPl s r i = true then a + 1 else a) (zf s r 0).toNat 0 := rfl
  rw [← e] at h
  omega
noncomputable def zOutN (s : Int → Int) : Int := zFd (fun r a => a + zf s r 2) (s 0).toNat 0
noncomputable def zCvN (s : Int → Int) : Int := zFd (fun r a => a + zPop (zf s r 3)) (s 0).toNat 0
noncomputable def zStg (s : Int → Int) (a : Int) : Int := if a = 4 then zWords s else if a = 5 then zPsA s else if a = 6 then zOutN s else if a = 7 then zCvN s else if a = 8 then s 4 else if a = 9 then zCh s else s a
theorem b_allCovered {V : CV} (hW : zWf s) (hR : zRB V s) : fX0_allCovered V = some (zCvN s) := by
  apply zok_q
  unfold fX0_allCovered
  have w0 := hW.1
  rw [hR.2.2.2.1]
  refine zok_F (mk := fun a i => (a, i)) (s 0) (fun i a => a = zFd (fun r a => a + zPop (zf s r 3)) i.toNat 0) rfl (by omega) rfl (fun i a hi hi2 hI => ?_) (fun i a hi hi2 hi3 hi4 hI => ?_)
  · dsimp only
    (repeat (first | (with_reducible refine zok_g ?_ ?_; focus omega) | with_reducible refine zok_j ?_ | (with_reducible refine zok_t ?_ ?_; focus omega) | (with_reducible refine zok_f ?_ ?_; focus omega)))
    refine zok_sl ⟨_, rfl, ?_⟩
    rw [zFd_s hi, hI, (hR.row hi hi2).2.2.2.1]
  · dsimp only
    (repeat (first | (with_reducible refine zok_g ?_ ?_; focus omega) | with_reducible refine zok_j ?_ | (with_reducible refine zok_t ?_ ?_; focus omega) | (with_reducible refine zok_f ?_ ?_; focus omega)))
    refine zok_sr (zok_s ?_)
    rw [hI, hi3 (by omega)]
    rfl
theorem zStg_r (hW : zWf s) {a : Int} (h0 : 0 ≤ a) (h1 : a ≤ 9) : 0 ≤ zStg s a ∧ zStg s a ≤ 4096 := by
  have w0 := hW.1
  have w1 := hW.2.1
  have w2 := hW.2.2.1
  have w3 := hW.2.2.2.1
  have w4 := hW.2.2.2.2.1
  have hw := zWords_r hW
  have hc := zCh_r hW
  have p1 : 0 ≤ zPsA s ∧ zPsA s ≤ 30 * ((s 0).toNat : Int) := zSm30 (f := zPs s) (s 0).toNat (fun r r0 r1 => zPs_30 hW r0 (by omega))
  have p2 : 0 ≤ zOutN s ∧ zOutN s ≤ 30 * ((s 0).toNat : Int) := zSm30 (f := fun r => zf s r 2) (s 0).toNat (fun r r0 r1 => by
    have := (hW.row r0 (show r < s 0 by omega)).2.2.1
    show 0 ≤ zf s r 2 ∧ zf s r 2 ≤ 30
    omega)
  have p3 : 0 ≤ zCvN s ∧ zCvN s ≤ 30 * ((s 0).toNat : Int) := zSm30 (f := fun r => zPop (zf s r 3)) (s 0).toNat (fun r r0 r1 => by
    have := (hW.row r0 (show r < s 0 by omega)).2.2.2.1
    exact zPop_r this.1 this.2)
  unfold zStg
  by_cases c4 : a = 4
  · rw [if_pos c4]; omega
  rw [if_neg c4]
  by_cases c5 : a = 5
  · rw [if_pos c5]; omega
  rw [if_neg c5]
  by_cases c6 : a = 6
  · rw [if_pos c6]; omega
  rw [if_neg c6]
  by_cases c7 : a = 7
  · rw [if_pos c7]; omega
  rw [if_neg c7]
  by_cases c8 : a = 8
  · rw [if_pos c8]; omega
  rw [if_neg c8]
  by_cases c9 : a = 9
  · rw [if_pos c9]; omega
  rw [if_neg c9]
  have : a = 0 ∨ a = 1 ∨ a = 2 ∨ a = 3 := by omega
  rcases this with e | e | e | e <;> subst e <;> omega
theorem m_setting {m : CV} (hs : m.2 2 = s) (hW : zWf s) {a : Int} (h0 : 0 ≤ a) (h1 : a ≤ 9) : fX8_setting m a = some (zPu m 0 0, zStg s a) := by
  apply zok_q
  unfold fX8_setting
  have w0 := hW.1
  (repeat (first | (with_reducible refine zok_g ?_ ?_; focus omega) | with_reducible refine zok_j ?_ | (with_reducible refine zok_t ?_ ?_; focus omega) | (with_reducible refine zok_f ?_ ?_; focus omega)))
  have hin := m_isIn (a := a) (lo := 0) (hi := 9) ⟨by omega, by omega⟩ (by decide) (by decide)
  rw [decide_eq_true ⟨h0, h1⟩] at hin
  refine zok_e hin ?_
  refine zok_e m_go1 ?_
  refine zok_t rfl ?_
  dsimp only
  have e2 : (zPu m 0 0).2 2 = s := hs
  rw [e2]
  refine zok_F (β := Int × Int × Int × Int) (mk := fun a i => (a.1, a.2.1, a.2.2.1, a.2.2.2, i)) (s 0) (fun i a => a.1 = zFd (fun r a => a + zPs s r) i.toNat 0 ∧ a.2.1 = zFd (fun r a => a + zf s r 2) i.toNat 0 ∧ a.2.2.1 = zFd (fun r a => a + zPop (zf s r 3)) i.toNat 0 ∧ a.2.2.2 = zFd (fun r a => if zf s r 1 = -1 then a else a + 1) i.toNat 0) (a0 := (0, 0, 0, 0)) rfl (by omega) ⟨rfl, rfl, rfl, rfl⟩ (fun i x hi hi2 hI => ?_) (fun i x hi hi2 hi3 hi4 hI => ?_)
  · dsimp only
    (repeat (first | (with_reducible refine zok_g ?_ ?_; focus omega) | with_reducible refine zok_j ?_ | (with_reducible refine zok_t ?_ ?_; focus omega) | (with_reducible refine zok_f ?_ ?_; focus omega)))
    have hr := hW.row hi hi2
    have hr3 := hr.2.2.2.1
    have hr1 := hr.2.1
    refine zok_e (m_placesOf e2 hW hi hi2) ?_
    refine zok_e (m_of e2 (by omega) (by omega)) ?_
    refine zok_e (m_of e2 (by omega) (by omega)) ?_
    refine zok_e (m_ones ⟨by omega, by omega⟩) ?_
    refine zok_e (m_of e2 (by omega) (by omega)) ?_
    refine zok_jP (fun x => x = if zf s i 1 = -1 then 0 else 1) (fun k hk => ?_) (fun K hK => ?_)
    · have ht : fX8_truth k = some k := by
        rw [hk]
        by_cases c : zf s i 1 = -1
        · rw [if_pos c]; exact m_truth (by decide)
        · rw [if_neg c]; exact m_truth (by decide)
      refine zok_e ht (zok_sl ⟨(x.1 + zPs s i, x.2.1 + zf s i 2, x.2.2.1 + zPop (zf s i 3), x.2.2.2 + k), ?_, ?_⟩)
      · rw [zPop_30 hr3.1 hr3.2]
      · dsimp only
        rw [zFd_s hi, zFd_s hi, zFd_s hi, zFd_s hi, hI.1, hI.2.1, hI.2.2.1, hI.2.2.2, hk]
        refine ⟨rfl, rfl, rfl, ?_⟩
        by_cases c : zf s i 1 = -1
        · rw [if_pos c, if_pos c]; exact Int.add_zero _
        · rw [if_neg c, if_neg c]
    · (repeat (first | (with_reducible refine zok_g ?_ ?_; focus omega) | with_reducible refine zok_j ?_ | (with_reducible refine zok_t ?_ ?_; focus omega) | (with_reducible refine zok_f ?_ ?_; focus omega)))
      refine zok_i (fun hp => hK _ ?_) (fun hp => hK _ ?_)
      · rw [if_pos hp]
      · rw [if_neg hp]
  · dsimp only
    (repeat (first | (with_reducible refine zok_g ?_ ?_; focus omega) | with_reducible refine zok_j ?_ | (with_reducible refine zok_t ?_ ?_; focus omega) | (with_reducible refine zok_f ?_ ?_; focus omega)))
    have hz := hi3 (by omega)
    subst hz
    have g1 : x.1 = zPsA s := hI.1
    have g2 : x.2.1 = zOutN s := hI.2.1
    have g3 : x.2.2.1 = zCvN s := hI.2.2.1
    have g4 : x.2.2.2 = zCh s := hI.2.2.2
    rw [g1, g2, g3, g4]
    refine zok_sr ?_
    unfold zStg
    refine zok_i (fun c => ?_) (fun c => ?_)
    · rw [if_pos c]
      exact zok_e (m_words e2 hW) (zok_s rfl)
    rw [if_neg c]
    refine zok_i (fun c => ?_) (fun c => ?_)
    · rw [if_pos c]; exact zok_s rfl
    rw [if_neg c]
    refine zok_i (fun c => ?_) (fun c => ?_)
    · rw [if_pos c]; exact zok_s rfl
    rw [if_neg c]
    refine zok_i (fun c => ?_) (fun c => ?_)
    · rw [if_pos c]; exact zok_s rfl
    rw [if_neg c]
    refine zok_i (fun c => ?_) (fun c => ?_)
    · rw [if_pos c]; exact zok_s rfl
    rw [if_neg c]
    refine zok_i (fun c => ?_) (fun c => ?_)
    · rw [if_pos c]; exact zok_s rfl
    rw [if_neg c]
    (repeat (first | (with_reducible refine zok_g ?_ ?_; focus omega) | with_reducible refine zok_j ?_ | (with_reducible refine zok_t ?_ ?_; focus omega) | (with_reducible refine zok_f ?_ ?_; focus omega)))
    exact zok_s rfl
theorem s_setting {σ : CS} {m : CV} (h : zRR σ m) {a : Int} (ha : iR a) : zCp σ [zIA] (fX7_setting σ a) (fX8_setting m a) := by
  have hW := h.W
  have hB := h.B
  unfold zCp
  by_cases c : 0 ≤ a ∧ a ≤ 9
  · have hm := m_setting (m := m) rfl hW c.1 c.2
    have hr := zStg_r hW c.1 c.2
    have key : fX7_setting σ a = some (.inl (zStg (m.2 2) a)) := by
      apply zok_q
      unfold fX7_setting zStg
      (repeat (first | (with_reducible refine zok_g ?_ ?_; focus omega) | with_reducible refine zok_j ?_ | (with_reducible refine zok_t ?_ ?_; focus omega) | (with_reducible refine zok_f ?_ ?_; focus omega)))
      have : a = 0 ∨ a = 1 ∨ a = 2 ∨ a = 3 ∨ a = 4 ∨ a = 5 ∨ a = 6 ∨ a = 7 ∨ a = 8 ∨ a = 9 := by omega
      rcases this with e | e | e | e | e | e | e | e | e | e <;> subst e
      · refine zok_t rfl (zok_s ?_)
        rw [if_neg (by decide), if_neg (by decide), if_neg (by decide), if_neg (by decide), if_neg (by decide), if_neg (by decide), hB.2.2.2.1]
      · refine zok_f (by decide) (zok_t rfl (zok_s ?_))
        rw [if_neg (by decide), if_neg (by decide), if_neg (by decide), if_neg (by decide), if_neg (by decide), if_neg (by decide), hB.1]
      · refine zok_f (by decide) (zok_f (by decide) (zok_t rfl (zok_s ?_)))
        rw [if_neg (by decide), if_neg (by decide), if_neg (by decide), if_neg (by decide), if_neg (by decide), if_neg (by decide), hB.2.1]
      · refine zok_f (by decide) (zok_f (by decide) (zok_f (by decide) (zok_t rfl (zok_s ?_))))
        rw [if_neg (by decide), if_neg (by decide), if_neg (by decide), if_neg (by decide), if_neg (by decide), if_neg (by decide), hB.2.2.1]
      · refine zok_f (by decide) (zok_f (by decide) (zok_f (by decide) (zok_f (by decide) (zok_t rfl (zok_e (b_wordCount hW hB) (zok_s ?_))))))
        rw [if_pos (by decide)]
      · refine zok_f (by decide) (zok_f (by decide) (zok_f (by decide) (zok_f (by decide) (zok_f (by decide) (zok_t rfl (zok_e (b_allPlaces hW hB) (zok_s ?_)))))))
        rw [if_neg (by decide), if_pos (by decide)]
      · refine zok_f (by decide) (zok_f (by decide) (zok_f (by decide) (zok_f (by decide) (zok_f (by decide) (zok_f (by decide) (zok_t rfl (zok_s ?_)))))))
        rw [if_neg (by decide), if_neg (by decide), if_pos (by decide), zPop_out hW hB]
        rfl
      · refine zok_f (by decide) (zok_f (by decide) (zok_f (by decide) (zok_f (by decide) (zok_f (by decide) (zok_f (by decide) (zok_f (by decide) (zok_t rfl (zok_e (b_allCovered hW hB) (zok_s ?_)))))))))
        rw [if_neg (by decide), if_neg (by decide), if_neg (by decide), if_pos (by decide)]
      · refine zok_f (by decide) (zok_f (by decide) (zok_f (by decide) (zok_f (by decide) (zok_f (by decide) (zok_f (by decide) (zok_f (by decide) (zok_f (by decide) (zok_t rfl (zok_s ?_)))))))))
        rw [if_neg (by decide), if_neg (by decide), if_neg (by decide), if_neg (by decide), if_pos (by decide), hB.2.2.2.2.1]
      · refine zok_f (by decide) (zok_f (by decide) (zok_f (by decide) (zok_f (by decide) (zok_f (by decide) (zok_f (by decide) (zok_f (by decide) (zok_f (by decide) (zok_f (by decide) (zok_t rfl (zok_e (b_chosenRows hW hB) (zok_s ?_)))))))))))
        rw [if_neg (by decide), if_neg (by decide), if_neg (by decide), if_neg (by decide), if_neg (by decide), if_pos (by decide)]
    exact zok_v key (zok_v hm ⟨zRR_0 h, zAn_v rfl rfl ⟨by omega, by omega⟩⟩)
  · have key : fX7_setting σ a = some (.inr zIA) := by
      apply zok_q
      unfold fX7_setting
      (repeat (first | (with_reducible refine zok_g ?_ ?_; focus omega) | with_reducible refine zok_j ?_ | (with_reducible refine zok_t ?_ ?_; focus omega) | (with_reducible refine zok_f ?_ ?_; focus omega)))
      exact zok_s rfl
    refine zok_v key ?_
    unfold fX8_setting
    (repeat (first | (with_reducible refine zok_g ?_ ?_; focus omega) | with_reducible refine zok_j ?_ | (with_reducible refine zok_t ?_ ?_; focus omega) | (with_reducible refine zok_f ?_ ?_; focus omega)))
    have hin := m_isIn (a := a) (lo := 0) (hi := 9) ⟨by omega, by omega⟩ (by decide) (by decide)
    rw [decide_eq_false c] at hin
    refine zok_e hin ?_
    refine zok_e m_go0 ?_
    refine zok_f Bool.false_ne_true ?_
    exact zok_s ⟨zRR_0 h, zAn_e 0 rfl rfl⟩
end ZSG
