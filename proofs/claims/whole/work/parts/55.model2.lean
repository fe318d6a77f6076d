/-- only the numbers out of ns and the arrays out of js are others -/
def zEx (ns js : List Nat) (m t : CV) : Prop := (∀ k, k ∉ ns → t.1 k = m.1 k) ∧ ∀ k, k ∉ js → t.2 k = m.2 k
section ZEX
variable {ns js : List Nat} {m t t2 : CV}
theorem zEx_0 : zEx ns js m m := ⟨fun _ _ => rfl, fun _ _ => rfl⟩
theorem zEx_t (h : zEx ns js m t) (h2 : zEx ns js t t2) : zEx ns js m t2 := ⟨fun k hk => (h2.1 k hk).trans (h.1 k hk), fun k hk => (h2.2 k hk).trans (h.2 k hk)⟩
theorem zEx_w {ns' js' : List Nat} (h : zEx ns js m t) (h1 : ∀ k ∈ ns, k ∈ ns') (h2 : ∀ k ∈ js, k ∈ js') : zEx ns' js' m t := ⟨fun k hk => h.1 k (fun z => hk (h1 k z)), fun k hk => h.2 k (fun z => hk (h2 k z))⟩
theorem zEx_u {k : Nat} {x : Int} (h : zEx ns js m t) (hk : k ∈ ns) : zEx ns js m (zPu t k x) := ⟨fun j hj => by
  show va_up t.1 k x j = _
  unfold va_up
  rw [if_neg (fun (e : j = k) => hj (by rw [e]; exact hk))]
  exact h.1 j hj, h.2⟩
theorem zEx_a {j : Nat} {i v : Int} (h : zEx ns js m t) (hj : j ∈ js) : zEx ns js m (zPa t j i v) := ⟨h.1, fun k hk => by
  show va_up t.2 j _ k = _
  unfold va_up
  rw [if_neg (fun (e : k = j) => hk (by rw [e]; exact hj))]
  exact h.2 k hk⟩
theorem zPu_s {k : Nat} {x : Int} : (zPu m k x).1 k = x := by unfold zPu va_up; exact if_pos rfl
theorem zPu_n {k j : Nat} {x : Int} (h : j ≠ k) : (zPu m k x).1 j = m.1 j := by unfold zPu va_up; exact if_neg h
theorem zPu_2 {k : Nat} {x : Int} : (zPu m k x).2 = m.2 := rfl
theorem zPa_1 {j : Nat} {i v : Int} : (zPa m j i v).1 = m.1 := rfl
theorem zPa_s {j : Nat} {i v : Int} : (zPa m j i v).2 j = zup (m.2 j) i v := by unfold zPa va_up; exact if_pos rfl
theorem zPa_n {j k : Nat} {i v : Int} (h : k ≠ j) : (zPa m j i v).2 k = m.2 k := by unfold zPa va_up; exact if_neg h
end ZEX
section ZM2
variable {m : CV} {s : Int → Int}
theorem m_spells {w : Int} (hs : m.2 2 = s) (hW : zWf s) (h0 : 0 ≤ w) (h1 : w < zWords s) : zOk (fX8_spells m w) (fun t => zEx [] [10] m t ∧ ∀ j, 0 ≤ j → j < s 2 → t.2 10 j = zDg s w j) := by
  unfold fX8_spells
  have w1 := hW.2.1
  have w2 := hW.2.2.1
  have hw := zWords_r hW
  rw [hs]
  refine zok_L (I := fun t => -1 ≤ t.2.1 ∧ t.2.1 ≤ s 2 - 1 ∧ t.1 = w / zPw (s 1) (s 2 - 1 - t.2.1) ∧ zEx [] [10] m t.2.2 ∧ ∀ j, t.2.1 < j → j < s 2 → t.2.2.2 10 j = zDg s w j) (μ := fun t => (t.2.1 + 1).toNat) ?_ ?_ ?_
  · refine ⟨by show -1 ≤ s 2 - 1; omega, Int.le_refl _, ?_, zEx_0, fun j j0 j1 => by have : s 2 - 1 < j := j0; omega⟩
    show w = w / zPw (s 1) (s 2 - 1 - (s 2 - 1))
    rw [show s 2 - 1 - (s 2 - 1) = 0 by omega, zPw_0, Int.ediv_one]
  · show (s 2 - 1 + 1).toNat < 100000
    omega
  · rintro ⟨b, i, t⟩ ⟨hi0, hi1, hb, hE, hd⟩
    dsimp only at hi0 hi1 hb hE hd ⊢
    have hs2 : t.2 2 = s := (hE.2 2 (by decide)).trans hs
    rw [hs2]
    by_cases hi : i < 0
    · (repeat (first | (with_reducible refine zok_g ?_ ?_; focus omega) | with_reducible refine zok_j ?_ | (with_reducible refine zok_t ?_ ?_; focus omega) | (with_reducible refine zok_f ?_ ?_; focus omega)))
      exact zok_sr (zok_s ⟨hE, fun j j0 j1 => hd j (by omega) j1⟩)
    · have hp := zPw_pos (b := s 1) (by omega) (s 2 - 1 - i)
      have hb0 : 0 ≤ b := by rw [hb]; exact Int.ediv_nonneg h0 (by omega)
      have hb1 : b ≤ w := by rw [hb]; exact Int.ediv_le_self _ h0
      have hdg : b % s 1 = zDg s w i := by rw [hb]; rfl
      (repeat (first | (with_reducible refine zok_g ?_ ?_; focus omega) | with_reducible refine zok_j ?_ | (with_reducible refine zok_t ?_ ?_; focus omega) | (with_reducible refine zok_f ?_ ?_; focus omega)))
      refine zok_sl ⟨⟨by show -1 ≤ i + -1; omega, by show i + -1 ≤ s 2 - 1; omega, ?_, zEx_a hE (by decide), fun j j0 j1 => ?_⟩, by show (i + -1 + 1).toNat < (i + 1).toNat; omega⟩
      · show b / s 1 = w / zPw (s 1) (s 2 - 1 - (i + -1))
        rw [show s 2 - 1 - (i + -1) = (s 2 - 1 - i) + 1 by omega, zPw_s (by omega), ← Int.ediv_ediv_of_nonneg (by omega), hb]
      · have j0' : i + -1 < j := j0
        show (zPa t 10 i (b % s 1)).2 10 j = _
        rw [zPa_s]
        by_cases e : j = i
        · subst e
          rw [zup_s, hdg]
        · rw [zup_n e]
          exact hd j (by omega) j1
theorem m_bounds {k : Int} {u : Int → Int} (hs : m.2 2 = s) (hW : zWf s) (hk : 0 ≤ k) (hk2 : k ≤ s 2) (hu : ∀ j, 0 ≤ j → j < k → m.2 10 j = u j) (hur : ∀ j, 0 ≤ j → j < k → 0 ≤ u j ∧ u j < 4) : fX8_bounds m k = some (zBd s u k) := by
  apply zok_q
  unfold fX8_bounds
  have w0 := hW.1
  rw [hs]
  refine zok_F (mk := fun a i => (a, i)) (s 0) (fun i a => a = zFd (fun r a => if zf s r 2 = 1 then a else a + zNr s r u k) i.toNat 0) rfl (by omega) rfl (fun i a hi hi2 hI => ?_) (fun i a hi hi2 hi3 hi4 hI => ?_)
  · dsimp only
    (repeat (first | (with_reducible refine zok_g ?_ ?_; focus omega) | with_reducible refine zok_j ?_ | (with_reducible refine zok_t ?_ ?_; focus omega) | (with_reducible refine zok_f ?_ ?_; focus omega)))
    refine zok_e (m_isOut hs hW hi hi2) ?_
    refine zok_i (fun hp => zok_sl ⟨_, rfl, ?_⟩) (fun hp => ?_)
    · rw [zFd_s hi, if_pos (of_decide_eq_true hp), hI, Int.add_zero]
    · refine zok_e (m_least hs hW hi hi2 hk hk2 hu hur) (zok_sl ⟨_, rfl, ?_⟩)
      rw [zFd_s hi, if_neg (fun z => hp (decide_eq_true z)), hI]
  · dsimp only
    (repeat (first | (with_reducible refine zok_g ?_ ?_; focus omega) | with_reducible refine zok_j ?_ | (with_reducible refine zok_t ?_ ?_; focus omega) | (with_reducible refine zok_f ?_ ?_; focus omega)))
    refine zok_sr (zok_s ?_)
    rw [hI, hi3 (by omega)]
    rfl
theorem zDg_4 (hW : zWf s) {w : Int} : ∀ j, 0 ≤ zDg s w j ∧ zDg s w j < 4 := fun j => by
  have := zDg_r hW (w := w) (i := j)
  have := hW.2.1
  omega
theorem m_scoreOf {w : Int} (hs : m.2 2 = s) (hW : zWf s) (h0 : 0 ≤ w) (h1 : w < zWords s) : zOk (fX8_scoreOf m w) (fun t => (zEx [] [10] m t.1 ∧ ∀ j, 0 ≤ j → j < s 2 → t.1.2 10 j = zDg s w j) ∧ t.2 = zBd s (zDg s w) (s 2)) := by
  unfold fX8_scoreOf
  have w2 := hW.2.2.1
  refine zok_b (m_spells hs hW h0 h1) (fun t ht => ?_)
  have hs2 : t.2 2 = s := (ht.1.2 2 (by decide)).trans hs
  rw [hs2]
  refine zok_e (m_bounds hs2 hW (by omega) (Int.le_refl _) ht.2 (fun j _ _ => zDg_4 hW j)) (zok_s ⟨ht, rfl⟩)
theorem m_haves {u : Int → Int} (hs : m.2 2 = s) (hW : zWf s) (hu : ∀ j, 0 ≤ j → j < s 2 → m.2 10 j = u j) (hur : ∀ j, 0 ≤ j → j < s 2 → 0 ≤ u j ∧ u j < 4) : fX8_haves m = some (zHv s u) := by
  apply zok_q
  unfold fX8_haves
  have w0 := hW.1
  have w2 := hW.2.2.1
  have w3 := hW.2.2.2.1
  rw [hs]
  refine zok_F (mk := fun a i => (a, i)) (s 0) (fun i a => a = zFd (fun r a => if zf s r 2 ≠ 1 ∧ zNr s r u (s 2) ≤ s 3 then a + zP2 r else a) i.toNat 0) rfl (by omega) rfl (fun i a hi hi2 hI => ?_) (fun i a hi hi2 hi3 hi4 hI => ?_)
  · dsimp only
    (repeat (first | (with_reducible refine zok_g ?_ ?_; focus omega) | with_reducible refine zok_j ?_ | (with_reducible refine zok_t ?_ ?_; focus omega) | (with_reducible refine zok_f ?_ ?_; focus omega)))
    have ha := zHv_i (s := s) (u := u) i.toNat
    rw [← hI, show ((i.toNat : Nat) : Int) = i by omega] at ha
    have p := zP2_pos i
    refine zok_e (m_isOut hs hW hi hi2) ?_
    (repeat (first | (with_reducible refine zok_g ?_ ?_; focus omega) | with_reducible refine zok_j ?_ | (with_reducible refine zok_t ?_ ?_; focus omega) | (with_reducible refine zok_f ?_ ?_; focus omega)))
    have no : zf s i 2 = 1 ∨ s 3 < zNr s i u (s 2) → zOk ((fX8_truth 0).bind fun t49 => zG (0 ≤ i ∧ i < 32) <| zG (0 ≤ a ∧ 0 ≤ (t49 * zP2 i)) <| some ((Sum.inl (zOr a (t49 * zP2 i), i + 1) : (Int × Int) ⊕ (Int × Int)))) (Sum.elim (fun s_1 => ∃ a', s_1 = (a', i + 1) ∧ a' = zFd (fun r a => if zf s r 2 ≠ 1 ∧ zNr s r u (s 2) ≤ s 3 then a + zP2 r else a) (i + 1).toNat 0) (fun y => zOk (some y.1) fun y => y = zHv s u)) := by
      intro hno
      refine zok_e (m_truth (by decide)) ?_
      rw [if_pos rfl, Int.zero_mul]
      (repeat (first | (with_reducible refine zok_g ?_ ?_; focus omega) | with_reducible refine zok_j ?_ | (with_reducible refine zok_t ?_ ?_; focus omega) | (with_reducible refine zok_f ?_ ?_; focus omega)))
      refine zok_sl ⟨_, rfl, ?_⟩
      rw [zFd_s hi, if_neg (fun z => by rcases hno with h | h; exact z.1 h; have := z.2; omega), ← hI]
      have := zOr_add (c := a) (d := 0) (k := i) hi ha.1 ha.2 (by omega)
      rw [Int.zero_mul, Int.add_zero] at this
      exact this
    refine zok_i (fun hp => no (Or.inl (of_decide_eq_true hp))) (fun hp => ?_)
    have hn := zNr_r (s := s) (r := i) (u := u) (m := s 2) (by omega)
    refine zok_e (m_least hs hW hi hi2 (by omega) (Int.le_refl _) hu hur) ?_
    (repeat (first | (with_reducible refine zok_g ?_ ?_; focus omega) | with_reducible refine zok_j ?_ | (with_reducible refine zok_t ?_ ?_; focus omega) | (with_reducible refine zok_f ?_ ?_; focus omega)))
    refine zok_i (fun c2 => no (Or.inr c2)) (fun c2 => ?_)
    refine zok_e (m_truth (by decide)) ?_
    rw [if_neg (by decide), Int.one_mul]
    (repeat (first | (with_reducible refine zok_g ?_ ?_; focus omega) | with_reducible refine zok_j ?_ | (with_reducible refine zok_t ?_ ?_; focus omega) | (with_reducible refine zok_f ?_ ?_; focus omega)))
    refine zok_sl ⟨_, rfl, ?_⟩
    rw [zFd_s hi, if_pos ⟨fun z => hp (decide_eq_true z), by omega⟩, ← hI, zOr_p hi ha]
  · dsimp only
    (repeat (first | (with_reducible refine zok_g ?_ ?_; focus omega) | with_reducible refine zok_j ?_ | (with_reducible refine zok_t ?_ ?_; focus omega) | (with_reducible refine zok_f ?_ ?_; focus omega)))
    refine zok_sr (zok_s ?_)
    rw [hI, hi3 (by omega)]
    rfl
theorem m_nearest {r : Int} {u : Int → Int} (hs : m.2 2 = s) (hW : zWf s) (h0 : 0 ≤ r) (h1 : r < s 0) (hu : ∀ j, 0 ≤ j → j < s 2 → m.2 10 j = u j) (hur : ∀ j, 0 ≤ j → j < s 2 → 0 ≤ u j ∧ u j < 4) : fX8_nearest m r = some (zNs s r u) := by
  apply zok_q
  unfold fX8_nearest
  have w0 := hW.1
  have w1 := hW.2.1
  have w2 := hW.2.2.1
  obtain ⟨⟨a1, a2⟩, _, _, _, a5, _⟩ := hW.row h0 h1
  rw [hs]
  refine zok_F (mk := fun (p : Int × Int) i => (p.1, p.2, i)) (a0 := (-1, 0)) (zf s r 0) (fun i p => p = zFd (zNsf s r u) i.toNat (-1, 0)) rfl (by omega) rfl (fun i p hi hi2 hI => ?_) (fun i p hi hi2 hi3 hi4 hI => ?_)
  · refine zok_e (m_of hs (by omega) (by omega)) ?_
    dsimp only
    (repeat (first | (with_reducible refine zok_g ?_ ?_; focus omega) | with_reducible refine zok_j ?_ | (with_reducible refine zok_t ?_ ?_; focus omega) | (with_reducible refine zok_f ?_ ?_; focus omega)))
    refine zok_e (m_isPlace hs hW h0 h1 ⟨by omega, by omega⟩) ?_
    refine zok_i (fun hp => ?_) (fun hp => zok_sl ⟨p, rfl, ?_⟩)
    · have hP := zPl_t.mp hp
      have hP2 := hP.2.2.1
      refine zok_e (m_differsAt hs hu hur (fun j j0 j1 => ?_) h0 (by omega) hi (by omega) (by omega) (by omega)) ?_
      · have := a5 (i + j) (by omega) (by omega)
        omega
      have hr := zNs_i hW (r := r) (u := u) i.toNat
      rw [← hI] at hr
      have hd := zDf_r (s := s) (r := r) (i := i) (u := u) (m := s 2) (by omega)
      (repeat (first | (with_reducible refine zok_g ?_ ?_; focus omega) | with_reducible refine zok_j ?_ | (with_reducible refine zok_t ?_ ?_; focus omega) | (with_reducible refine zok_f ?_ ?_; focus omega)))
      refine zok_i (fun c1 => zok_sl ⟨(i, zDf s r i u (s 2)), rfl, ?_⟩) (fun c1 => ?_)
      · rw [zFd_s hi, ← hI]
        unfold zNsf
        rw [if_pos ⟨hp, Or.inl c1⟩]
      · (repeat (first | (with_reducible refine zok_g ?_ ?_; focus omega) | with_reducible refine zok_j ?_ | (with_reducible refine zok_t ?_ ?_; focus omega) | (with_reducible refine zok_f ?_ ?_; focus omega)))
        refine zok_i (fun c2 => zok_sl ⟨(i, zDf s r i u (s 2)), rfl, ?_⟩) (fun c2 => zok_sl ⟨p, rfl, ?_⟩)
        · rw [zFd_s hi, ← hI]
          unfold zNsf
          rw [if_pos ⟨hp, Or.inr (by omega)⟩]
        · rw [zFd_s hi, ← hI]
          unfold zNsf
          rw [if_neg (fun z => by rcases z.2 with z | z <;> omega)]
    · rw [zFd_s hi, ← hI]
      unfold zNsf
      rw [if_neg (fun z => hp z.1)]
  · refine zok_e (m_of hs (by omega) (by omega)) ?_
    dsimp only
    (repeat (first | (with_reducible refine zok_g ?_ ?_; focus omega) | with_reducible refine zok_j ?_ | (with_reducible refine zok_t ?_ ?_; focus omega) | (with_reducible refine zok_f ?_ ?_; focus omega)))
    refine zok_sr (zok_s ?_)
    unfold zNs
    rw [hI, hi3 (by omega)]
theorem m_wordThere {r i : Int} (hs : m.2 2 = s) (hW : zWf s) (h0 : 0 ≤ r) (h1 : r < s 0) (hi : 0 ≤ i) (hi2 : i ≤ zf s r 0 - s 2) : fX8_wordThere m r i = some (zNb s (fun j => zl s r (i + j)) (s 2)) := by
  apply zok_q
  unfold fX8_wordThere
  have w0 := hW.1
  have w2 := hW.2.2.1
  obtain ⟨⟨a1, a2⟩, _⟩ := hW.row h0 h1
  rw [hs]
  refine zok_F (mk := fun a i => (a, i)) (s 2) (fun k a => a = zNb s (fun j => zl s r (i + j)) k) rfl (by omega) rfl (fun k a hk hk2 hI => ?_) (fun k a hk hk2 hk3 hk4 hI => ?_)
  · dsimp only
    (repeat (first | (with_reducible refine zok_g ?_ ?_; focus omega) | with_reducible refine zok_j ?_ | (with_reducible refine zok_t ?_ ?_; focus omega) | (with_reducible refine zok_f ?_ ?_; focus omega)))
    refine zok_e (m_letterAt hs (by omega) (by omega)) (zok_sl ⟨_, rfl, ?_⟩)
    rw [zNb_s hk, hI, Int.mul_comm]
  · dsimp only
    (repeat (first | (with_reducible refine zok_g ?_ ?_; focus omega) | with_reducible refine zok_j ?_ | (with_reducible refine zok_t ?_ ?_; focus omega) | (with_reducible refine zok_f ?_ ?_; focus omega)))
    refine zok_sr (zok_s ?_)
    rw [hI, hk3 (by omega)]
theorem m_placesOf {r : Int} (hs : m.2 2 = s) (hW : zWf s) (h0 : 0 ≤ r) (h1 : r < s 0) : fX8_placesOf m r = some (zPs s r) := by
  apply zok_q
  unfold fX8_placesOf
  have w0 := hW.1
  obtain ⟨⟨a1, a2⟩, _⟩ := hW.row h0 h1
  refine zok_F (mk := fun a i => (a, i)) (zf s r 0) (fun i a => a = zFd (fun i a => if zPl s r i = true then a + 1 else a) i.toNat 0) rfl (by omega) rfl (fun i a hi hi2 hI => ?_) (fun i a hi hi2 hi3 hi4 hI => ?_)
  · refine zok_e (m_of hs (by omega) (by omega)) ?_
    dsimp only
    (repeat (first | (with_reducible refine zok_g ?_ ?_; focus omega) | with_reducible refine zok_j ?_ | (with_reducible refine zok_t ?_ ?_; focus omega) | (with_reducible refine zok_f ?_ ?_; focus omega)))
    refine zok_e (m_isPlace hs hW h0 h1 ⟨by omega, by omega⟩) ?_
    refine zok_e m_truth_b (zok_sl ⟨_, rfl, ?_⟩)
    rw [zFd_s hi, ← hI]
    by_cases hp : zPl s r i = true
    · rw [if_pos hp, hp]; rfl
    · rw [if_neg hp]
      have : zPl s r i = false := by cases h : zPl s r i with
        | false => rfl
        | true => exact absurd h hp
      rw [this]
      show a + 0 = a
      omega
  · refine zok_e (m_of hs (by omega) (by omega)) ?_
    dsimp only
    (repeat (first | (with_reducible refine zok_g ?_ ?_; focus omega) | with_reducible refine zok_j ?_ | (with_reducible refine zok_t ?_ ?_; focus omega) | (with_reducible refine zok_f ?_ ?_; focus omega)))
    refine zok_sr (zok_s ?_)
    rw [hI, hi3 (by omega)]
    rfl
theorem m_whyTake {w : Int} (hs : m.2 2 = s) (hW : zWf s) (h0 : 0 ≤ w) (h1 : w < zWords s) : zOk (fX8_whyTake m w) (fun t => zEx [] [10] m t.1 ∧ t.2 = zWy s w) := by
  unfold fX8_whyTake zWy
  have w4 := hW.2.2.2.2.1
  rw [hs]
  (repeat (first | (with_reducible refine zok_g ?_ ?_; focus omega) | with_reducible refine zok_j ?_ | (with_reducible refine zok_t ?_ ?_; focus omega) | (with_reducible refine zok_f ?_ ?_; focus omega)))
  refine zok_i (fun c => zok_s ⟨zEx_0, by rw [if_pos c]⟩) (fun c => ?_)
  rw [if_neg c]
  refine zok_b (m_spells hs hW h0 h1) (fun t ht => ?_)
  have hs2 : t.2 2 = s := (ht.1.2 2 (by decide)).trans hs
  refine zok_e (m_haves hs2 hW ht.2 (fun j _ _ => zDg_4 hW j)) ?_
  have hh := zHv_1024 hW (u := zDg s w)
  (repeat (first | (with_reducible refine zok_g ?_ ?_; focus omega) | with_reducible refine zok_j ?_ | (with_reducible refine zok_t ?_ ?_; focus omega) | (with_reducible refine zok_f ?_ ?_; focus omega)))
  exact zok_i (fun c2 => zok_s ⟨ht.1, by rw [if_pos c2]⟩) (fun c2 => zok_s ⟨ht.1, by rw [if_neg c2]⟩)
end ZM2
