section ZBG
variable {V : CV} {s : Int → Int}
theorem b_letterAt (hW : zWf s) (hR : zRB V s) {r i : Int} (h0 : 0 ≤ r) (h1 : r < s 0) (hi : 0 ≤ i) (hi2 : i < zf s r 0) : fX0_letterAt V r i = some (zl s r i) := by
  apply zok_q
  unfold fX0_letterAt
  have w0 := hW.1
  obtain ⟨⟨a1, a2⟩, _⟩ := hW.row h0 h1
  have hc := (hR.row h0 h1).2.2.2.2
  have hl := hc.2.1
  have hn := hc.1
  have h60 : zP2 (2 * zf s r 0) ≤ 1152921504606846976 := zP2_le (show 2 * zf s r 0 ≤ 60 by omega)
  have p := zP2_pos (2 * i)
  have hd : 0 ≤ V.2 2 r / zP2 (2 * i) := Int.ediv_nonneg hn (by omega)
  (repeat (first | (with_reducible refine zok_g ?_ ?_; focus omega) | with_reducible refine zok_j ?_ | (with_reducible refine zok_t ?_ ?_; focus omega) | (with_reducible refine zok_f ?_ ?_; focus omega)))
  exact zok_s (hc.2.2 i hi hi2)
/-- how many places a row has; all rows -/
noncomputable def zPs (s : Int → Int) (r : Int) : Int := zFd (fun i a => if zPl s r i = true then a + 1 else a) (zf s r 0).toNat 0
noncomputable def zPsA (s : Int → Int) : Int := zFd (fun r a => a + zPs s r) (s 0).toNat 0
theorem b_placesOf (hW : zWf s) (hR : zRB V s) {r : Int} (h0 : 0 ≤ r) (h1 : r < s 0) : fX0_placesOf V r = some (zPs s r) := by
  apply zok_q
  unfold fX0_placesOf
  have w2 := hW.2.2.1
  obtain ⟨⟨a1, a2⟩, _⟩ := hW.row h0 h1
  have e : zPs s r = zFd (fun i a => if zPl s r i = true then a + 1 else a) (zf s r 0 - s 2 + 1).toNat 0 := zFd_pl hW h0 h1 (fun i x h => by rw [h]; rfl)
  refine zok_F (mk := fun a i => (a, i)) (zf s r 0 - s 2 + 1) (fun i a => a = zFd (fun i a => if zPl s r i = true then a + 1 else a) i.toNat 0) rfl (by omega) rfl (fun i a hi hi2 hI => ?_) (fun i a hi hi2 hi3 hi4 hI => ?_)
  · refine zok_e (b_lastStart hW hR h0 h1) ?_
    dsimp only
    (repeat (first | (with_reducible refine zok_g ?_ ?_; focus omega) | with_reducible refine zok_j ?_ | (with_reducible refine zok_t ?_ ?_; focus omega) | (with_reducible refine zok_f ?_ ?_; focus omega)))
    refine zok_e (b_isPlace hW hR h0 h1 ⟨by omega, by omega⟩) ?_
    refine zok_i (fun hp => zok_sl ⟨_, rfl, ?_⟩) (fun hp => zok_sl ⟨_, rfl, ?_⟩)
    · rw [zFd_s hi, if_pos hp, ← hI]
    · rw [zFd_s hi, if_neg hp, ← hI]
  · refine zok_e (b_lastStart hW hR h0 h1) ?_
    dsimp only
    (repeat (first | (with_reducible refine zok_g ?_ ?_; focus omega) | with_reducible refine zok_j ?_ | (with_reducible refine zok_t ?_ ?_; focus omega) | (with_reducible refine zok_f ?_ ?_; focus omega)))
    refine zok_sr (zok_s ?_)
    rw [hI, e]
    have : i.toNat = (zf s r 0 - s 2 + 1).toNat := by omega
    rw [this]
theorem b_allPlaces (hW : zWf s) (hR : zRB V s) : fX0_allPlaces V = some (zPsA s) := by
  apply zok_q
  unfold fX0_allPlaces
  have w0 := hW.1
  have hr := hR.2.2.2.1
  refine zok_F (mk := fun a i => (a, i)) (s 0) (fun i a => a = zFd (fun r a => a + zPs s r) i.toNat 0) rfl (by omega) rfl (fun i a hi hi2 hI => ?_) (fun i a hi hi2 hi3 hi4 hI => ?_)
  · dsimp only
    rw [hr]
    (repeat (first | (with_reducible refine zok_g ?_ ?_; focus omega) | with_reducible refine zok_j ?_ | (with_reducible refine zok_t ?_ ?_; focus omega) | (with_reducible refine zok_f ?_ ?_; focus omega)))
    refine zok_e (b_placesOf hW hR hi hi2) ?_
    exact zok_sl ⟨_, rfl, by rw [zFd_s hi, hI]⟩
  · dsimp only
    rw [hr]
    (repeat (first | (with_reducible refine zok_g ?_ ?_; focus omega) | with_reducible refine zok_j ?_ | (with_reducible refine zok_t ?_ ?_; focus omega) | (with_reducible refine zok_f ?_ ?_; focus omega)))
    refine zok_sr (zok_s ?_)
    rw [hI, hi3 (by omega)]
    rfl
/-- the bound of the first m letters -/
noncomputable def zBd (s : Int → Int) (u : Int → Int) (m : Int) : Int := zFd (fun r a => if zf s r 2 = 1 then a else a + zNr s r u m) (s 0).toNat 0
theorem b_boundOf (hW : zWf s) (hR : zRB V s) {c m : Int} {u : Int → Int} (hm : 0 ≤ m) (hm2 : m ≤ s 2) (hc : 0 ≤ c) (hu : ∀ j, 0 ≤ j → j < m → c / zP2 (2 * j) % 4 = u j) : fX0_boundOf V c m = some (zBd s u m) := by
  apply zok_q
  unfold fX0_boundOf
  have w0 := hW.1
  have hr := hR.2.2.2.1
  refine zok_F (mk := fun a i => (a, i)) (s 0) (fun i a => a = zFd (fun r a => if zf s r 2 = 1 then a else a + zNr s r u m) i.toNat 0) rfl (by omega) rfl (fun i a hi hi2 hI => ?_) (fun i a hi hi2 hi3 hi4 hI => ?_)
  · dsimp only
    rw [hr]
    (repeat (first | (with_reducible refine zok_g ?_ ?_; focus omega) | with_reducible refine zok_j ?_ | (with_reducible refine zok_t ?_ ?_; focus omega) | (with_reducible refine zok_f ?_ ?_; focus omega)))
    refine zok_e (b_isOut hW hR hi hi2) ?_
    refine zok_i (fun hp => zok_sl ⟨_, rfl, ?_⟩) (fun hp => ?_)
    · rw [zFd_s hi, if_pos (of_decide_eq_true hp), hI]
    · refine zok_e (b_nearest hW hR hi hi2 hm hm2 hc hu) (zok_sl ⟨_, rfl, ?_⟩)
      rw [zFd_s hi, if_neg (fun z => hp (decide_eq_true z)), hI]
  · dsimp only
    rw [hr]
    (repeat (first | (with_reducible refine zok_g ?_ ?_; focus omega) | with_reducible refine zok_j ?_ | (with_reducible refine zok_t ?_ ?_; focus omega) | (with_reducible refine zok_f ?_ ?_; focus omega)))
    refine zok_sr (zok_s ?_)
    rw [hI, hi3 (by omega)]
    rfl
def zCh (s : Int → Int) : Int := zFd (fun r a => if zf s r 1 = -1 then a else a + 1) (s 0).toNat 0
theorem b_chosenRows (hW : zWf s) (hR : zRB V s) : fX0_chosenRows V = some (zCh s) := by
  apply zok_q
  unfold fX0_chosenRows
  have w0 := hW.1
  have hr := hR.2.2.2.1
  refine zok_F (mk := fun a i => (a, i)) (s 0) (fun i a => a = zFd (fun r a => if zf s r 1 = -1 then a else a + 1) i.toNat 0) rfl (by omega) rfl (fun i a hi hi2 hI => ?_) (fun i a hi hi2 hi3 hi4 hI => ?_)
  · dsimp only
    rw [hr, (hR.row hi hi2).2.1]
    have hch := (hW.row hi hi2).2.1
    (repeat (first | (with_reducible refine zok_g ?_ ?_; focus omega) | with_reducible refine zok_j ?_ | (with_reducible refine zok_t ?_ ?_; focus omega) | (with_reducible refine zok_f ?_ ?_; focus omega)))
    refine zok_i (fun hp => zok_sl ⟨_, rfl, ?_⟩) (fun hp => zok_sl ⟨_, rfl, ?_⟩)
    · rw [zFd_s hi, if_pos hp, hI]
    · rw [zFd_s hi, if_neg hp, hI]
  · dsimp only
    rw [hr]
    (repeat (first | (with_reducible refine zok_g ?_ ?_; focus omega) | with_reducible refine zok_j ?_ | (with_reducible refine zok_t ?_ ?_; focus omega) | (with_reducible refine zok_f ?_ ?_; focus omega)))
    refine zok_sr (zok_s ?_)
    rw [hI, hi3 (by omega)]
    rfl
/-- the rows that have a word -/
noncomputable def zHv (s : Int → Int) (u : Int → Int) : Int := zFd (fun r a => if zf s r 2 ≠ 1 ∧ zNr s r u (s 2) ≤ s 3 then a + zP2 r else a) (s 0).toNat 0
theorem zHv_i {u : Int → Int} (n : Nat) : 0 ≤ zFd (fun r a => if zf s r 2 ≠ 1 ∧ zNr s r u (s 2) ≤ s 3 then a + zP2 r else a) n 0 ∧ zFd (fun r a => if zf s r 2 ≠ 1 ∧ zNr s r u (s 2) ≤ s 3 then a + zP2 r else a) n 0 < zP2 n :=
  zFd_I (fun i x => 0 ≤ x ∧ x < zP2 i) ⟨Int.le_refl 0, by decide⟩ n (fun i x hi _ hx => by
    have e := zP2_s hi
    have p := zP2_pos i
    show 0 ≤ (if zf s i 2 ≠ 1 ∧ zNr s i u (s 2) ≤ s 3 then x + zP2 i else x) ∧ (if zf s i 2 ≠ 1 ∧ zNr s i u (s 2) ≤ s 3 then x + zP2 i else x) < zP2 (i + 1)
    split <;> omega)
theorem zHv_r (hW : zWf s) {u : Int → Int} : 0 ≤ zHv s u ∧ zHv s u < zP2 (s 0) := by
  have h := zHv_i (s := s) (u := u) (s 0).toNat
  have w0 := hW.1
  rw [show (((s 0).toNat : Nat) : Int) = s 0 by omega] at h
  exact h
theorem zHv_1024 (hW : zWf s) {u : Int → Int} : 0 ≤ zHv s u ∧ zHv s u < 1024 := by
  have h := zHv_r hW (u := u)
  have := zP2_le (a := s 0) (b := 10) hW.1.2
  have e : zP2 10 = 1024 := rfl
  omega
theorem zOr_p {a i : Int} (hi : 0 ≤ i) (h : 0 ≤ a ∧ a < zP2 i) : zOr a (zP2 i) = a + zP2 i := by
  have := zOr_add (c := a) (d := 1) hi h.1 h.2 (by omega)
  rw [Int.one_mul] at this
  exact this
theorem b_rowsHaving (hW : zWf s) (hR : zRB V s) {c : Int} {u : Int → Int} (hc : zCd c (s 2) u) : fX0_rowsHaving V c = some (zHv s u) := by
  apply zok_q
  unfold fX0_rowsHaving
  have w0 := hW.1
  have w2 := hW.2.2.1
  have w3 := hW.2.2.2.1
  have hr := hR.2.2.2.1
  refine zok_F (mk := fun a i => (a, i)) (s 0) (fun i a => a = zFd (fun r a => if zf s r 2 ≠ 1 ∧ zNr s r u (s 2) ≤ s 3 then a + zP2 r else a) i.toNat 0) rfl (by omega) rfl (fun i a hi hi2 hI => ?_) (fun i a hi hi2 hi3 hi4 hI => ?_)
  · dsimp only
    rw [hr]
    (repeat (first | (with_reducible refine zok_g ?_ ?_; focus omega) | with_reducible refine zok_j ?_ | (with_reducible refine zok_t ?_ ?_; focus omega) | (with_reducible refine zok_f ?_ ?_; focus omega)))
    refine zok_e (b_isOut hW hR hi hi2) ?_
    refine zok_i (fun hp => zok_sl ⟨_, rfl, ?_⟩) (fun hp => ?_)
    · rw [zFd_s hi, if_neg (fun z => z.1 (of_decide_eq_true hp)), hI]
    · rw [hR.2.1, hR.2.2.1]
      refine zok_e (b_nearest hW hR hi hi2 (by omega) (Int.le_refl _) hc.1 hc.2.2) ?_
      have hn := zNr_r (s := s) (r := i) (u := u) (m := s 2) (by omega)
      (repeat (first | (with_reducible refine zok_g ?_ ?_; focus omega) | with_reducible refine zok_j ?_ | (with_reducible refine zok_t ?_ ?_; focus omega) | (with_reducible refine zok_f ?_ ?_; focus omega)))
      refine zok_i (fun c2 => zok_sl ⟨_, rfl, ?_⟩) (fun c2 => ?_)
      · rw [zFd_s hi, if_neg (fun z => by have := z.2; omega), hI]
      · have ha := zHv_i (s := s) (u := u) i.toNat
        rw [← hI, show ((i.toNat : Nat) : Int) = i by omega] at ha
        have p := zP2_pos i
        (repeat (first | (with_reducible refine zok_g ?_ ?_; focus omega) | with_reducible refine zok_j ?_ | (with_reducible refine zok_t ?_ ?_; focus omega) | (with_reducible refine zok_f ?_ ?_; focus omega)))
        refine zok_sl ⟨_, rfl, ?_⟩
        rw [zFd_s hi, if_pos ⟨fun z => hp (decide_eq_true z), by omega⟩, ← hI, zOr_p hi ha]
  · dsimp only
    rw [hr]
    (repeat (first | (with_reducible refine zok_g ?_ ?_; focus omega) | with_reducible refine zok_j ?_ | (with_reducible refine zok_t ?_ ?_; focus omega) | (with_reducible refine zok_f ?_ ?_; focus omega)))
    refine zok_sr (zok_s ?_)
    rw [hI, hi3 (by omega)]
    rfl
/-- the place that is closest, and how far -/
noncomputable def zNsf (s : Int → Int) (r : Int) (u : Int → Int) (i : Int) (p : Int × Int) : Int × Int := if zPl s r i = true ∧ (p.1 = -1 ∨ zDf s r i u (s 2) < p.2) then (i, zDf s r i u (s 2)) else p
noncomputable def zNs (s : Int → Int) (r : Int) (u : Int → Int) : Int := (zFd (zNsf s r u) (zf s r 0).toNat (-1, 0)).1
theorem zNs_i (hW : zWf s) {r : Int} {u : Int → Int} (n : Nat) : (-1 ≤ (zFd (zNsf s r u) n (-1, 0)).1 ∧ (zFd (zNsf s r u) n (-1, 0)).1 < n) ∧ (0 ≤ (zFd (zNsf s r u) n (-1, 0)).2 ∧ (zFd (zNsf s r u) n (-1, 0)).2 ≤ s 2) ∧ ((zFd (zNsf s r u) n (-1, 0)).1 ≠ -1 → zPlP s r (zFd (zNsf s r u) n (-1, 0)).1) := by
  have w2 := hW.2.2.1
  refine zFd_I (f := zNsf s r u) (fun i p => (-1 ≤ p.1 ∧ p.1 < i) ∧ (0 ≤ p.2 ∧ p.2 ≤ s 2) ∧ (p.1 ≠ -1 → zPlP s r p.1)) ⟨⟨by decide, by decide⟩, ⟨by show (0 : Int) ≤ 0; omega, by show (0 : Int) ≤ s 2; omega⟩, fun h => absurd rfl h⟩ n (fun i p hi _ hp => ?_)
  have hd := zDf_r (s := s) (r := r) (i := i) (u := u) (m := s 2) (by omega)
  unfold zNsf
  split
  · rename_i h
    exact ⟨⟨by show -1 ≤ i; omega, by show i < i + 1; omega⟩, hd, fun _ => zPl_t.mp h.1⟩
  · exact ⟨⟨hp.1.1, by have := hp.1.2; omega⟩, hp.2⟩
theorem zNs_p (hW : zWf s) {r : Int} {u : Int → Int} (h : zNs s r u ≠ -1) : zPlP s r (zNs s r u) := (zNs_i hW _).2.2 h
theorem b_nearestStart (hW : zWf s) (hR : zRB V s) {r c : Int} {u : Int → Int} (h0 : 0 ≤ r) (h1 : r < s 0) (hc : zCd c (s 2) u) : fX0_nearestStart V r c = some (zNs s r u) := by
  apply zok_q
  unfold fX0_nearestStart
  have w2 := hW.2.2.1
  obtain ⟨⟨a1, a2⟩, _⟩ := hW.row h0 h1
  have e : zFd (zNsf s r u) (zf s r 0).toNat (-1, 0) = zFd (zNsf s r u) (zf s r 0 - s 2 + 1).toNat (-1, 0) := zFd_pl hW h0 h1 (fun i x h => by
    unfold zNsf
    rw [if_neg (fun z => by rw [h] at z; exact absurd z.1 (by decide))])
  refine zok_F (mk := fun (p : Int × Int) i => (p.1, p.2, i)) (a0 := (-1, 0)) (zf s r 0 - s 2 + 1) (fun i p => p = zFd (zNsf s r u) i.toNat (-1, 0)) rfl (by omega) rfl (fun i p hi hi2 hI => ?_) (fun i p hi hi2 hi3 hi4 hI => ?_)
  · refine zok_e (b_lastStart hW hR h0 h1) ?_
    dsimp only
    (repeat (first | (with_reducible refine zok_g ?_ ?_; focus omega) | with_reducible refine zok_j ?_ | (with_reducible refine zok_t ?_ ?_; focus omega) | (with_reducible refine zok_f ?_ ?_; focus omega)))
    refine zok_e (b_isPlace hW hR h0 h1 ⟨by omega, by omega⟩) ?_
    refine zok_i (fun hp => ?_) (fun hp => zok_sl ⟨p, rfl, ?_⟩)
    · refine zok_b (b_codeAt hW hR h0 h1 hi (by omega)) (fun t ht => ?_)
      rw [hR.2.1]
      refine zok_e (b_differing (u := fun j => zl s r (i + j)) (v := u) ht.1 hc.1 (by omega) (by omega) ht.2.2 hc.2.2) ?_
      have hr := zNs_i hW (r := r) (u := u) i.toNat
      rw [← hI] at hr
      have hd := zDf_r (s := s) (r := r) (i := i) (u := u) (m := s 2) (by omega)
      have hdd : zDn (fun j => zl s r (i + j)) u (s 2) = zDf s r i u (s 2) := rfl
      rw [hdd]
      (repeat (first | (with_reducible refine zok_g ?_ ?_; focus omega) | with_reducible refine zok_j ?_ | (with_reducible refine zok_t ?_ ?_; focus omega) | (with_reducible refine zok_f ?_ ?_; focus omega)))
      refine zok_i (fun c1 => zok_sl ⟨(i, zDf s r i u (s 2)), rfl, ?_⟩) (fun c1 => ?_)
      · rw [zFd_s hi, ← hI]
        unfold zNsf
        rw [if_pos ⟨hp, Or.inl c1⟩]
      · (repeat (first | (with_reducible refine zok_g ?_ ?_; focus omega) | with_reducible refine zok_j ?_ | (with_reducible refine zok_t ?_ ?_; focus omega) | (with_reducible refine zok_f ?_ ?_; focus omega)))
        refine zok_i (fun c2 => zok_sl ⟨p, rfl, ?_⟩) (fun c2 => zok_sl ⟨(i, zDf s r i u (s 2)), rfl, ?_⟩)
        · rw [zFd_s hi, ← hI]
          unfold zNsf
          rw [if_neg (fun z => by rcases z.2 with z | z <;> omega)]
        · rw [zFd_s hi, ← hI]
          unfold zNsf
          rw [if_pos ⟨hp, Or.inr (by omega)⟩]
    · rw [zFd_s hi, ← hI]
      unfold zNsf
      rw [if_neg (fun z => hp z.1)]
  · refine zok_e (b_lastStart hW hR h0 h1) ?_
    dsimp only
    (repeat (first | (with_reducible refine zok_g ?_ ?_; focus omega) | with_reducible refine zok_j ?_ | (with_reducible refine zok_t ?_ ?_; focus omega) | (with_reducible refine zok_f ?_ ?_; focus omega)))
    refine zok_sr (zok_s ?_)
    unfold zNs
    rw [hI, e]
    have : i.toNat = (zf s r 0 - s 2 + 1).toNat := by omega
    rw [this]
noncomputable def zWy (s : Int → Int) (w : Int) : Int := if s 4 = 6 then 1 else if zHv s (zDg s w) = 0 then 2 else 0
theorem b_reasonAgainst (hW : zWf s) (hR : zRB V s) {w : Int} (h0 : 0 ≤ w) (h1 : w < zWords s) : fX0_reasonAgainst V w = some (zWy s w) := by
  apply zok_q
  unfold fX0_reasonAgainst zWy
  have w4 := hW.2.2.2.2.1
  rw [hR.2.2.2.2.1]
  (repeat (first | (with_reducible refine zok_g ?_ ?_; focus omega) | with_reducible refine zok_j ?_ | (with_reducible refine zok_t ?_ ?_; focus omega) | (with_reducible refine zok_f ?_ ?_; focus omega)))
  refine zok_i (fun c => ?_) (fun c => zok_s (by rw [if_pos (by omega)]))
  rw [if_neg (by omega)]
  refine zok_b (b_codeOf hW hR h0 h1) (fun t ht => ?_)
  refine zok_e (b_rowsHaving hW hR ht) ?_
  have hh := zHv_1024 hW (u := zDg s w)
  (repeat (first | (with_reducible refine zok_g ?_ ?_; focus omega) | with_reducible refine zok_j ?_ | (with_reducible refine zok_t ?_ ?_; focus omega) | (with_reducible refine zok_f ?_ ?_; focus omega)))
  refine zok_i (fun c2 => zok_s (by rw [if_pos c2])) (fun c2 => zok_s (by rw [if_neg c2]))
theorem b_isHit (hW : zWf s) (hR : zRB V s) {r i c : Int} {u : Int → Int} (h0 : 0 ≤ r) (h1 : r < s 0) (hi : iR i) (hc : zCd c (s 2) u) : fX0_isHit V r i c = some (zPl s r i && decide (zDf s r i u (s 2) ≤ s 3)) := by
  apply zok_q
  unfold fX0_isHit
  have w2 := hW.2.2.1
  have w3 := hW.2.2.2.1
  refine zok_e (b_isPlace hW hR h0 h1 hi) ?_
  refine zok_i (fun hp => ?_) (fun hp => zok_s ?_)
  · have hP := zPl_t.mp hp
    refine zok_b (b_codeAt hW hR h0 h1 hP.2.1 hP.2.2.1) (fun t ht => ?_)
    rw [hR.2.1]
    refine zok_e (b_differing (u := fun j => zl s r (i + j)) (v := u) ht.1 hc.1 (by omega) (by omega) ht.2.2 hc.2.2) ?_
    have hd := zDf_r (s := s) (r := r) (i := i) (u := u) (m := s 2) (by omega)
    have hdd : zDn (fun j => zl s r (i + j)) u (s 2) = zDf s r i u (s 2) := rfl
    rw [hdd, hR.2.2.1, hp]
    (repeat (first | (with_reducible refine zok_g ?_ ?_; focus omega) | with_reducible refine zok_j ?_ | (with_reducible refine zok_t ?_ ?_; focus omega) | (with_reducible refine zok_f ?_ ?_; focus omega)))
    refine zok_i (fun c2 => zok_s ?_) (fun c2 => zok_s ?_)
    · rw [decide_eq_false (by omega)]; rfl
    · rw [decide_eq_true (by omega)]; rfl
  · have : zPl s r i = false := by cases h : zPl s r i with
      | false => rfl
      | true => exact absurd h hp
    rw [this]
    rfl
end ZBG
