/-! THE SAME FOR STATES WHOSE CHOSEN PLACES MAY BE NONE: mkweak.py wrote these out of the parts before -/
section ZWEAK
variable {s : Int → Int} {m : CV}
theorem kzWords_r {s : Int → Int} (hW : zWk s) : 4 ≤ zWords s ∧ zWords s ≤ 4096 := by
  obtain ⟨_, ⟨a1, a2⟩, ⟨b1, b2⟩, _⟩ := hW
  unfold zWords zPw
  have ha : s 1 = 2 ∨ s 1 = 3 ∨ s 1 = 4 := by omega
  have hb : s 2 = 2 ∨ s 2 = 3 ∨ s 2 = 4 ∨ s 2 = 5 ∨ s 2 = 6 := by omega
  rcases ha with h | h | h <;> rcases hb with h2 | h2 | h2 | h2 | h2 <;> rw [h, h2] <;> decide
theorem kzNb_dg (hW : zWk s) {w : Int} (h0 : 0 ≤ w) (n : Nat) (hn : (n : Int) ≤ s 2) : zNb s (zDg s w) n = w / zPw (s 1) (s 2 - n) % zPw (s 1) n := by
  have hL := hW.2.1
  induction n with
  | zero =>
    show (0 : Int) = _ % zPw (s 1) 0
    rw [zPw_0]
    omega
  | succ n ih =>
    have e : ((n + 1 : Nat) : Int) = (n : Int) + 1 := by omega
    rw [e, zNb_s (by omega), ih (by omega)]
    have hq : zPw (s 1) (s 2 - n) = zPw (s 1) (s 2 - (n + 1)) * s 1 := by
      rw [show s 2 - (n : Int) = (s 2 - (n + 1)) + 1 by omega, zPw_s (by omega)]
    have p := zPw_pos (b := s 1) (by omega) (s 2 - (n + 1))
    have hd : zDg s w n = w / zPw (s 1) (s 2 - (n + 1)) % s 1 := by unfold zDg; rw [show s 2 - 1 - (n : Int) = s 2 - (n + 1) by omega]
    rw [hd, hq, ← Int.ediv_ediv_of_nonneg (by omega), zPw_s (by omega)]
    generalize hx : w / zPw (s 1) (s 2 - (n + 1)) = x
    have hx0 : 0 ≤ x := by rw [← hx]; exact Int.ediv_nonneg h0 (by omega)
    have p2 := zPw_pos (b := s 1) (by omega) n
    rw [Int.mul_comm (zPw (s 1) n) (s 1), zEm hx0 (by omega) (by omega), Int.mul_comm (s 1)]
    omega
theorem kzNb_w (hW : zWk s) {w : Int} (h0 : 0 ≤ w) (h1 : w < zWords s) : zNb s (zDg s w) (s 2) = w := by
  have w2 := hW.2.2.1
  obtain ⟨n, hn⟩ : ∃ n : Nat, s 2 = n := ⟨(s 2).toNat, by omega⟩
  have h := kzNb_dg hW h0 n (by omega)
  rw [hn]
  rw [hn] at h
  rw [h, show (n : Int) - n = 0 by omega, zPw_0, Int.ediv_one]
  unfold zWords at h1
  rw [hn] at h1
  exact Int.emod_eq_of_lt h0 h1
theorem km_least {r k : Int} {u : Int → Int} (hs : m.2 2 = s) (hW : zWk s) (h0 : 0 ≤ r) (h1 : r < s 0) (hk : 0 ≤ k) (hk2 : k ≤ s 2) (hu : ∀ j, 0 ≤ j → j < k → m.2 10 j = u j) (hur : ∀ j, 0 ≤ j → j < k → 0 ≤ u j ∧ u j < 4) : fX8_least m r k = some (zNr s r u k) := by
  apply zok_q
  unfold fX8_least
  have w0 := hW.1
  have w1 := hW.2.1
  have w2 := hW.2.2.1
  obtain ⟨⟨a1, a2⟩, _, _, _, a5⟩ := hW.row h0 h1
  refine zok_F (mk := fun a i => (a, i)) (zf s r 0) (fun i a => a = zFd (fun i a => if zPl s r i = true then zMin a (zDf s r i u k) else a) i.toNat k) rfl (by omega) rfl (fun i a hi hi2 hI => ?_) (fun i a hi hi2 hi3 hi4 hI => ?_)
  · refine zok_e (m_of hs (by omega) (by omega)) ?_
    dsimp only
    (repeat (first | (with_reducible refine zok_g ?_ ?_; focus omega) | with_reducible refine zok_j ?_ | (with_reducible refine zok_t ?_ ?_; focus omega) | (with_reducible refine zok_f ?_ ?_; focus omega)))
    refine zok_e (n_isPlace hs hW h0 h1 ⟨by omega, by omega⟩) ?_
    refine zok_i (fun hp => ?_) (fun hp => zok_sl ⟨_, rfl, ?_⟩)
    · have hP := zPl_t.mp hp
      have hP2 := hP.2.2.1
      refine zok_e (m_differsAt hs hu hur (fun j j0 j1 => ?_) h0 (by omega) hi hk (by omega) (by omega)) ?_
      · have := a5 (i + j) (by omega) (by omega)
        omega
      have hr := zNr_i (s := s) (r := r) (u := u) hk i.toNat
      rw [← hI] at hr
      have hd := zDf_r (s := s) (r := r) (i := i) (u := u) hk
      (repeat (first | (with_reducible refine zok_g ?_ ?_; focus omega) | with_reducible refine zok_j ?_ | (with_reducible refine zok_t ?_ ?_; focus omega) | (with_reducible refine zok_f ?_ ?_; focus omega)))
      refine zok_i (fun c => zok_sl ⟨_, rfl, ?_⟩) (fun c => zok_sl ⟨_, rfl, ?_⟩)
      · rw [zFd_s hi, if_pos hp, ← hI]
        unfold zMin
        rw [if_neg (by omega)]
      · rw [zFd_s hi, if_pos hp, ← hI]
        unfold zMin
        rw [if_pos (by omega)]
    · rw [zFd_s hi, if_neg hp, ← hI]
  · refine zok_e (m_of hs (by omega) (by omega)) ?_
    dsimp only
    (repeat (first | (with_reducible refine zok_g ?_ ?_; focus omega) | with_reducible refine zok_j ?_ | (with_reducible refine zok_t ?_ ?_; focus omega) | (with_reducible refine zok_f ?_ ?_; focus omega)))
    refine zok_sr (zok_s ?_)
    rw [hI, hi3 (by omega)]
    rfl
theorem km_bounds {k : Int} {u : Int → Int} (hs : m.2 2 = s) (hW : zWk s) (hk : 0 ≤ k) (hk2 : k ≤ s 2) (hu : ∀ j, 0 ≤ j → j < k → m.2 10 j = u j) (hur : ∀ j, 0 ≤ j → j < k → 0 ≤ u j ∧ u j < 4) : fX8_bounds m k = some (zBd s u k) := by
  apply zok_q
  unfold fX8_bounds
  have w0 := hW.1
  rw [hs]
  refine zok_F (mk := fun a i => (a, i)) (s 0) (fun i a => a = zFd (fun r a => if zf s r 2 = 1 then a else a + zNr s r u k) i.toNat 0) rfl (by omega) rfl (fun i a hi hi2 hI => ?_) (fun i a hi hi2 hi3 hi4 hI => ?_)
  · dsimp only
    (repeat (first | (with_reducible refine zok_g ?_ ?_; focus omega) | with_reducible refine zok_j ?_ | (with_reducible refine zok_t ?_ ?_; focus omega) | (with_reducible refine zok_f ?_ ?_; focus omega)))
    refine zok_e (n_isOut hs hW hi hi2) ?_
    refine zok_i (fun hp => zok_sl ⟨_, rfl, ?_⟩) (fun hp => ?_)
    · rw [zFd_s hi, if_pos (of_decide_eq_true hp), hI, Int.add_zero]
    · refine zok_e (km_least hs hW hi hi2 hk hk2 hu hur) (zok_sl ⟨_, rfl, ?_⟩)
      rw [zFd_s hi, if_neg (fun z => hp (decide_eq_true z)), hI]
  · dsimp only
    (repeat (first | (with_reducible refine zok_g ?_ ?_; focus omega) | with_reducible refine zok_j ?_ | (with_reducible refine zok_t ?_ ?_; focus omega) | (with_reducible refine zok_f ?_ ?_; focus omega)))
    refine zok_sr (zok_s ?_)
    rw [hI, hi3 (by omega)]
    rfl
theorem kzNr_min (hW : zWk s) {r m : Int} {u : Int → Int} (h0 : 0 ≤ r) (h1 : r < s 0) (hm : 0 ≤ m) : zMn m (fun i => zPlP s r i) (fun i => zDf s r i u m) (zNr s r u m) := by
  have w2 := hW.2.2.1
  obtain ⟨⟨a1, a2⟩, _⟩ := hW.row h0 h1
  have key := zFd_I (f := fun i a => if zPl s r i = true then zMin a (zDf s r i u m) else a) (a := m) (fun k v => zMn m (fun i => zPlP s r i ∧ i < k) (fun i => zDf s r i u m) v) ⟨Int.le_refl m, fun i hi => by have := hi.1.2.1; have := hi.2; omega, Or.inl rfl⟩ (zf s r 0).toNat (fun k v hk _ hv => by
    show zMn m (fun i => zPlP s r i ∧ i < k + 1) (fun i => zDf s r i u m) (if zPl s r k = true then zMin v (zDf s r k u m) else v)
    rcases zPl_c (s := s) (r := r) (i := k) with ⟨hp, hP⟩ | ⟨hp, hP⟩
    · rw [if_pos hp]
      have hmin : zMin v (zDf s r k u m) ≤ v ∧ zMin v (zDf s r k u m) ≤ zDf s r k u m ∧ (zMin v (zDf s r k u m) = v ∨ zMin v (zDf s r k u m) = zDf s r k u m) := by
        unfold zMin
        split <;> omega
      generalize zMin v (zDf s r k u m) = x at hmin
      have := hv.1
      refine ⟨by omega, fun i hi => ?_, ?_⟩
      · by_cases e : i = k
        · rw [e]; exact hmin.2.1
        · have := hv.2.1 i ⟨hi.1, by have := hi.2; omega⟩
          have h2 : v ≤ zDf s r i u m := this
          show x ≤ zDf s r i u m
          omega
      · rcases hmin.2.2 with e | e
        · rcases hv.2.2 with e2 | ⟨i, hi, e2⟩
          · exact Or.inl (e.trans e2)
          · exact Or.inr ⟨i, ⟨hi.1, by have := hi.2; omega⟩, e.trans e2⟩
        · exact Or.inr ⟨k, ⟨hP, by omega⟩, e⟩
    · rw [if_neg (by rw [hp]; decide)]
      refine zMn_e hv (fun i => ⟨fun h => ⟨h.1, by have := h.2; omega⟩, fun h => ⟨h.1, ?_⟩⟩) (fun _ _ => rfl)
      have h2 := h.2
      by_cases e : i = k
      · rw [e] at h; exact absurd h.1 hP
      · omega)
  refine zMn_e key (fun i => ⟨fun h => h.1, fun h => ⟨h, ?_⟩⟩) (fun _ _ => rfl)
  have := h.2.2.1
  omega
theorem kzDb_r (hW : zWk s) {m b j : Int} : 0 ≤ zDb s m b j ∧ zDb s m b j < s 1 := by
  have := hW.2.1
  exact ⟨Int.emod_nonneg _ (by omega), Int.emod_lt_of_pos _ (by omega)⟩
theorem kzDb_on (hW : zWk s) {m b x j : Int} (hb : 0 ≤ b) (hx : 0 ≤ x ∧ x < s 1) (hj : 0 ≤ j) (hj2 : j ≤ m) : zDb s (m + 1) (b * s 1 + x) j = if j = m then x else zDb s m b j := by
  have hL := hW.2.1
  unfold zDb
  by_cases e : j = m
  · subst e
    rw [if_pos rfl, show j + 1 - 1 - j = 0 by omega, zPw_0, Int.ediv_one, Int.add_comm, Int.add_mul_emod_self_right]
    exact Int.emod_eq_of_lt hx.1 hx.2
  · rw [if_neg e, show m + 1 - 1 - j = (m - 1 - j) + 1 by omega, zPw_s (by omega), Int.mul_comm (zPw _ _), ← Int.ediv_ediv_of_nonneg (by omega)]
    have : (b * s 1 + x) / s 1 = b := by
      rw [Int.add_comm, Int.add_mul_ediv_right _ _ (by omega), Int.ediv_eq_zero_of_lt hx.1 hx.2]
      omega
    rw [this]
theorem kzNr_up (hW : zWk s) {r m b : Int} (h0 : 0 ≤ r) (h1 : r < s 0) (hm : 1 ≤ m) (hm2 : m < s 2) (hb : 0 ≤ b) {f : Int → Int} (hf : ∀ x, 0 ≤ x → x < s 1 → f (b * s 1 + x * 1) = zNr s r (zDb s (m + 1) (b * s 1 + x)) (m + 1)) : zMin m (zMx f (s 1) 1 (b * s 1)) = zNr s r (zDb s m b) m := by
  have w1 := hW.2.1
  have w2 := hW.2.2.1
  obtain ⟨⟨a1, a2⟩, _, _, _, a5⟩ := hW.row h0 h1
  obtain ⟨hm1, x1, hx1, hmx⟩ := zMx_p (old := f) (L := s 1) (step := 1) (b := b * s 1) (by omega)
  have hmin : ∀ p q : Int, zMin p q ≤ p ∧ zMin p q ≤ q ∧ (zMin p q = q ∨ zMin p q = p) := fun p q => by
    unfold zMin
    split <;> omega
  have hv := hmin m (zMx f (s 1) 1 (b * s 1))
  have hD : ∀ i x, (0 ≤ x ∧ x < s 1) → zDf s r i (zDb s (m + 1) (b * s 1 + x)) (m + 1) = zDf s r i (zDb s m b) m + (if zl s r (i + m) = x then 0 else 1) := fun i x hx => by
    have e1 : zDf s r i (zDb s (m + 1) (b * s 1 + x)) (m + 1) = zDn (fun j => zl s r (i + j)) (zDb s (m + 1) (b * s 1 + x)) m + (if zl s r (i + m) = zDb s (m + 1) (b * s 1 + x) m then 0 else 1) := zDn_s (by omega)
    rw [e1, kzDb_on hW hb hx (by omega) (Int.le_refl m), if_pos rfl]
    have e2 : zDn (fun j => zl s r (i + j)) (zDb s (m + 1) (b * s 1 + x)) m = zDf s r i (zDb s m b) m := zDn_ext (fun j j0 j1 => by rw [kzDb_on hW hb hx j0 (by omega), if_neg (by omega)])
    rw [e2]
  have hN : ∀ x, (0 ≤ x ∧ x < s 1) → zMn (m + 1) (fun i => zPlP s r i) (fun i => zDf s r i (zDb s (m + 1) (b * s 1 + x)) (m + 1)) (f (b * s 1 + x * 1)) := fun x hx => by
    rw [hf x hx.1 hx.2]
    exact kzNr_min hW h0 h1 (by omega)
  generalize zMin m (zMx f (s 1) 1 (b * s 1)) = v at hv
  generalize zMx f (s 1) 1 (b * s 1) = mx at hv hm1 hmx
  have hle : ∀ i, zPlP s r i → v ≤ zDf s r i (zDb s m b) m := fun i hi => by
    have hl := a5 (i + m) (by have := hi.2.1; omega) (by have := hi.2.2.1; omega)
    have g1 := hm1 _ hl.1 hl.2
    have g2 := (hN _ hl).2.1 i hi
    have g3 := hD i _ hl
    rw [if_pos rfl] at g3
    have g2' : f (b * s 1 + zl s r (i + m) * 1) ≤ zDf s r i (zDb s (m + 1) (b * s 1 + zl s r (i + m))) (m + 1) := g2
    omega
  refine zMn_u (⟨by omega, hle, ?_⟩ : zMn m (fun i => zPlP s r i) (fun i => zDf s r i (zDb s m b) m) v) (kzNr_min hW h0 h1 (by omega))
  rcases hv.2.2 with e | e
  · rcases (hN x1 hx1).2.2 with e2 | ⟨i, hi, e2⟩
    · left; omega
    · right
      refine ⟨i, hi, ?_⟩
      have g := hle i hi
      have g3 := hD i x1 hx1
      have e2' : f (b * s 1 + x1 * 1) = zDf s r i (zDb s (m + 1) (b * s 1 + x1)) (m + 1) := e2
      show v = zDf s r i (zDb s m b) m
      split at g3 <;> omega
  · exact Or.inl e
theorem kzDb_up (hW : zWk s) {m b j : Int} (hb : 0 ≤ b) (hj : j < m - 1) : zDb s (m - 1) (b / s 1) j = zDb s m b j := by
  have hL := hW.2.1
  unfold zDb
  rw [Int.ediv_ediv_of_nonneg (by omega), show m - 1 - j = (m - 1 - 1 - j) + 1 by omega, zPw_s (by omega), Int.mul_comm (s 1)]
theorem kzInc (hW : zWk s) {b : Int} (h : b % s 1 ≠ s 1 - 1) : (b + 1) / s 1 = b / s 1 ∧ (b + 1) % s 1 = b % s 1 + 1 := by
  have hL := hW.2.1
  have e := Int.ediv_mul_add_emod b (s 1)
  have r0 := Int.emod_nonneg b (show s 1 ≠ 0 by omega)
  have r1 := Int.emod_lt_of_pos b (show 0 < s 1 by omega)
  have e2 : b + 1 = (b % s 1 + 1) + (b / s 1) * s 1 := by omega
  constructor
  · rw [e2, Int.add_mul_ediv_right _ _ (by omega), Int.ediv_eq_zero_of_lt (by omega) (by omega)]
    omega
  · rw [e2, Int.add_mul_emod_self_right]
    exact Int.emod_eq_of_lt (by omega) (by omega)
theorem km_numberOfSpelt (hW : zWk s) {U : CV} (hU : U.2 2 = s) {b : Int} (h0 : 0 ≤ b) (h1 : b < zWords s) (hd : ∀ j, 0 ≤ j → j < s 2 → U.2 10 j = zDb s (s 2) b j) : fX8_numberOfSpelt U = some b := by
  apply zok_q
  unfold fX8_numberOfSpelt
  have w2 := hW.2.2.1
  rw [hU]
  refine zok_F (mk := fun a i => (a, i)) (s 2) (fun i a => a = zNb s (zDb s (s 2) b) i) rfl (by omega) rfl (fun i a hi hi2 hI => ?_) (fun i a hi hi2 hi3 hi4 hI => ?_)
  · dsimp only
    (repeat (first | (with_reducible refine zok_g ?_ ?_; focus omega) | with_reducible refine zok_j ?_ | (with_reducible refine zok_t ?_ ?_; focus omega) | (with_reducible refine zok_f ?_ ?_; focus omega)))
    exact zok_sl ⟨_, rfl, by rw [zNb_s hi, hI, hd i hi hi2, Int.mul_comm]⟩
  · dsimp only
    (repeat (first | (with_reducible refine zok_g ?_ ?_; focus omega) | with_reducible refine zok_j ?_ | (with_reducible refine zok_t ?_ ?_; focus omega) | (with_reducible refine zok_f ?_ ?_; focus omega)))
    refine zok_sr (zok_s ?_)
    rw [hI, hi3 (by omega)]
    exact kzNb_w hW h0 h1
theorem kzBd_r (hW : zWk s) {u : Int → Int} {m : Int} (hm : 0 ≤ m) (hm2 : m ≤ s 2) : 0 ≤ zBd s u m ∧ zBd s u m ≤ 60 := by
  have w0 := hW.1
  have w2 := hW.2.2.1
  have key := zFd_I (f := fun r a => if zf s r 2 = 1 then a else a + zNr s r u m) (a := (0 : Int)) (fun r x => 0 ≤ x ∧ x ≤ 6 * r) ⟨Int.le_refl 0, by decide⟩ (s 0).toNat (fun r x hr _ hx => by
    have h := zNr_r (s := s) (r := r) (u := u) hm
    show 0 ≤ (if zf s r 2 = 1 then x else x + zNr s r u m) ∧ (if zf s r 2 = 1 then x else x + zNr s r u m) ≤ 6 * (r + 1)
    split <;> omega)
  unfold zBd
  omega
theorem kzFb_r (hW : zWk s) {m b : Int} (hm : 0 ≤ m) (hm2 : m ≤ s 2) : 0 ≤ zFb s m b ∧ zFb s m b ≤ 60 := kzBd_r hW hm hm2
theorem kzAk_r (hW : zWk s) : ∀ (d : Nat) (m b : Int) (q : zQ), 1 ≤ m → m ≤ s 2 → 0 ≤ b → b < zPw (s 1) m → zQr q → zQr (zAk (zFb s) (s 2) (s 1) d m b q) := by
  have w1 := hW.2.1
  have hw := kzWords_r hW
  intro d
  induction d with
  | zero => intro m b q _ _ _ _ h; exact h
  | succ d ih =>
    intro m b q h1 h2 h3 h4 hq
    rw [zAk_s]
    split
    · exact hq
    · split
      · rename_i hm
        have e : m = s 2 := by omega
        subst e
        have h5 : zPw (s 1) (s 2) = zWords s := rfl
        exact ⟨⟨by show -1 ≤ b; omega, by show b < 4096; omega⟩, kzFb_r hW (by omega) (by omega)⟩
      · refine zFd_I (f := fun x q => zAk (zFb s) (s 2) (s 1) d (m + 1) (b * s 1 + x) q) (a := (q.1, q.2.1, q.2.2.1 + 1, q.2.2.2)) (fun _ q => zQr q) ⟨hq.1, hq.2⟩ (s 1).toNat (fun x q hx hx2 hq => ?_)
        have h6 := Int.mul_le_mul_of_nonneg_right (show b + 1 ≤ zPw (s 1) m by omega) (show 0 ≤ s 1 by omega)
        rw [Int.add_mul, Int.one_mul, ← zPw_s (by omega)] at h6
        have h7 : 0 ≤ b * s 1 := Int.mul_nonneg h3 (by omega)
        exact ih (m + 1) (b * s 1 + x) q (by omega) (by omega) (by omega) (by omega) hq
theorem km_adv (hW : zWk s) {M : CV} (hM : M.2 2 = s) {m b : Int} {q : zQ} {U : CV} (h1 : 1 ≤ m) (h2 : m ≤ s 2) (h3 : 0 ≤ b) (h4 : b < zPw (s 1) m) (hE : zEx [31, 32, 33, 34] [10] M U) (hq : (U.1 31, U.1 32, U.1 33, U.1 34) = q) (hd : ∀ j, 0 ≤ j → j < m → U.2 10 j = zDb s m b j) :
    zOk ((zLp (σ := Int) (ρ := (Int)) (fun s93 => zG (iR s93) <| if s93 ≤ 0 then (some (.inr s93)) else (zG (0 ≤ (s93 - 1) ∧ (s93 - 1) < 6) <| zG (iR (U.2 10 (s93 - 1)) ∧ iR ((U.2 2 1) - 1)) <| if (U.2 10 (s93 - 1)) = ((U.2 2 1) - 1) then (some (.inl (s93 + (-1)))) else (some (.inr s93)))) zFu m).bind (fun y93 => zG (iR y93) <| if y93 ≤ 0 then (some (Sum.inl (y93, U))) else (zG (0 ≤ (y93 - 1) ∧ (y93 - 1) < 6) <| some (.inl (y93, (zPa U 10 (y93 - 1) ((U.2 10 (y93 - 1)) + 1)))))))
      (fun (w : (Int × CV) ⊕ (Int × CV)) => ∃ z', w = .inl z' ∧ zGo s M (zNx (s 1) m.toNat b).1 (zNx (s 1) m.toNat b).2 q z') := by
  have hL := hW.2.1
  have w2 := hW.2.2.1
  have e21 : U.2 2 = s := (hE.2 2 (by decide)).trans hM
  rw [e21]
  refine zok_L (I := fun y => ∃ bb, (0 ≤ y ∧ y ≤ m) ∧ (0 ≤ bb ∧ bb < zPw (s 1) y) ∧ zNx (s 1) m.toNat b = zNx (s 1) y.toNat bb ∧ ∀ j, 0 ≤ j → j < y → U.2 10 j = zDb s y bb j) (μ := fun y => y.toNat) ⟨b, ⟨by omega, by omega⟩, ⟨h3, h4⟩, rfl, hd⟩ (by omega) ?_
  rintro y ⟨bb, hy, hbb, hn, hdd⟩
  by_cases c : y ≤ 0
  · have : y = 0 := by omega
    subst this
    (repeat (first | (with_reducible refine zok_g ?_ ?_; focus omega) | with_reducible refine zok_j ?_ | (with_reducible refine zok_t ?_ ?_; focus omega) | (with_reducible refine zok_f ?_ ?_; focus omega)))
    refine zok_sr ?_
    (repeat (first | (with_reducible refine zok_g ?_ ?_; focus omega) | with_reducible refine zok_j ?_ | (with_reducible refine zok_t ?_ ?_; focus omega) | (with_reducible refine zok_f ?_ ?_; focus omega)))
    refine zok_s ⟨_, rfl, ?_⟩
    rw [hn]
    exact ⟨rfl, hE, hq, fun j j0 j1 => by have : j < 0 := j1; omega⟩
  · have hl := hdd (y - 1) (by omega) (by omega)
    rw [zDb_last] at hl
    have r0 := Int.emod_nonneg bb (show s 1 ≠ 0 by omega)
    have r1 := Int.emod_lt_of_pos bb (show 0 < s 1 by omega)
    obtain ⟨k, hk⟩ : ∃ k : Nat, y.toNat = k + 1 := ⟨y.toNat - 1, by omega⟩
    rw [hk] at hn
    have hn2 : zNx (s 1) (k + 1) bb = if bb % s 1 = s 1 - 1 then zNx (s 1) k (bb / s 1) else ((k : Int) + 1, bb + 1) := rfl
    rw [hn2] at hn
    rw [hl]
    (repeat (first | (with_reducible refine zok_g ?_ ?_; focus omega) | with_reducible refine zok_j ?_ | (with_reducible refine zok_t ?_ ?_; focus omega) | (with_reducible refine zok_f ?_ ?_; focus omega)))
    refine zok_i (fun c2 => zok_sl ⟨⟨bb / s 1, ⟨by omega, by omega⟩, ⟨Int.ediv_nonneg hbb.1 (by omega), ?_⟩, ?_, fun j j0 j1 => ?_⟩, by omega⟩) (fun c2 => ?_)
    · have e : zPw (s 1) y = zPw (s 1) (y + -1) * s 1 := by rw [← zPw_s (by omega), show y + -1 + 1 = y by omega]
      exact Int.ediv_lt_of_lt_mul (by omega) (by omega)
    · rw [if_pos c2] at hn
      rw [hn, show (y + -1).toNat = k by omega]
    · rw [hdd j j0 (by omega)]
      have := kzDb_up hW (m := y) (j := j) hbb.1 (by omega)
      rw [show y + -1 = y - 1 by omega]
      exact this.symm
    · refine zok_sr ?_
      rw [if_neg c2] at hn
      obtain ⟨i1, i2⟩ := kzInc hW c2
      rw [hl]
      (repeat (first | (with_reducible refine zok_g ?_ ?_; focus omega) | with_reducible refine zok_j ?_ | (with_reducible refine zok_t ?_ ?_; focus omega) | (with_reducible refine zok_f ?_ ?_; focus omega)))
      refine zok_s ⟨_, rfl, ?_⟩
      rw [hn]
      refine ⟨by show y = (k : Int) + 1; omega, zEx_a hE (by decide), hq, fun j j0 j1 => ?_⟩
      have j1' : j < (k : Int) + 1 := j1
      show (zPa U 10 (y - 1) (bb % s 1 + 1)).2 10 j = zDb s ((k : Int) + 1) (bb + 1) j
      rw [zPa_s, show (k : Int) + 1 = y by omega]
      by_cases e : j = y - 1
      · rw [e, zup_s, zDb_last, i2]
      · rw [zup_n e, hdd j j0 (by omega), ← kzDb_up hW hbb.1 (by omega), ← kzDb_up hW (show 0 ≤ bb + 1 by omega) (by omega), i1]
theorem km_step (hW : zWk s) {M : CV} (hM : M.2 2 = s) {m b : Int} {q : zQ} {z : Int × CV} (h1 : 1 ≤ m) (h2 : m ≤ s 2) (h3 : 0 ≤ b) (h4 : b < zPw (s 1) m) (hr : zQr q) (hz : zGo s M m b q z) :
    zOk (zMst z) (fun w => ∃ z', w = .inl z' ∧ (if q.1 ≠ -1 ∧ q.2.1 ≤ zFb s m b then zGo s M (zNx (s 1) m.toNat b).1 (zNx (s 1) m.toNat b).2 (q.1, q.2.1, q.2.2.1 + 1, q.2.2.2 + 1) z' else if s 2 ≤ m then zGo s M (zNx (s 1) m.toNat b).1 (zNx (s 1) m.toNat b).2 (b, zFb s m b, q.2.2.1 + 1, q.2.2.2) z' else zGo s M (m + 1) (b * s 1) (q.1, q.2.1, q.2.2.1 + 1, q.2.2.2) z')) := by
  obtain ⟨mm, U⟩ := z
  obtain ⟨e1, hE, hq, hd⟩ := hz
  dsimp only at e1 hE hq hd
  subst e1
  have hL := hW.2.1
  have w2 := hW.2.2.1
  have hU2 : U.2 2 = s := (hE.2 2 (by decide)).trans hM
  have q1 : U.1 31 = q.1 := by rw [← hq]
  have q2 : U.1 32 = q.2.1 := by rw [← hq]
  have q3 : U.1 33 = q.2.2.1 := by rw [← hq]
  have q4 : U.1 34 = q.2.2.2 := by rw [← hq]
  have hr1 := hr.1
  have hr2 := hr.2
  have hF := kzFb_r hW (m := mm) (b := b) (by omega) h2
  unfold zMst
  dsimp only
  (repeat (first | (with_reducible refine zok_g ?_ ?_; focus omega) | with_reducible refine zok_j ?_ | (with_reducible refine zok_t ?_ ?_; focus omega) | (with_reducible refine zok_f ?_ ?_; focus omega)))
  have hU3 : (zPu U 33 (U.1 33 + 1)).2 2 = s := hU2
  refine zok_e (km_bounds hU3 hW (by omega) h2 (u := zDb s mm b) (fun j j0 j1 => hd j j0 j1) (fun j j0 j1 => by have := kzDb_r hW (m := mm) (b := b) (j := j); omega)) ?_
  have hFe : zBd s (zDb s mm b) mm = zFb s mm b := rfl
  rw [hFe, hU2, q1, q2, q3, q4]
  generalize zFb s mm b = v at hF
  have hUE : zEx [31, 32, 33, 34] [10] M (zPu U 33 (q.2.2.1 + 1)) := zEx_u hE (by decide)
  have hw := kzWords_r hW
  have c00 : q.1 = -1 ∨ v < q.2.1 ∨ (q.1 ≠ -1 ∧ q.2.1 ≤ v) := by omega
  refine zok_jP (fun x => (x = 0 ∧ ¬ (q.1 ≠ -1 ∧ q.2.1 ≤ v)) ∨ (x = 1 ∧ (q.1 ≠ -1 ∧ q.2.1 ≤ v))) (fun x hx => ?_) (fun K hK => ?_)
  · rcases hx with ⟨ex, hc⟩ | ⟨ex, hc⟩
    · subst ex
      refine zok_e (m_truth (by decide)) ?_
      rw [if_pos rfl]
      refine zok_jP (fun (x86 : CV) => zEx [31, 32, 33, 34] [10] M x86 ∧ (x86.1 31, x86.1 32, x86.1 33, x86.1 34) = (if s 2 ≤ mm then (b, v, q.2.2.1 + 1, q.2.2.2) else (q.1, q.2.1, q.2.2.1 + 1, q.2.2.2)) ∧ ∀ j, 0 ≤ j → j < mm → x86.2 10 j = zDb s mm b j) (fun x86 hx86 => ?_) (fun K hK => ?_)
      · obtain ⟨hE8, hq8, hd8⟩ := hx86
        refine zok_jP (fun _ => s 2 ≤ mm) (fun x92 hx92 => ?_) (fun K hK => ?_)
        · rw [if_pos hx92] at hq8
          refine zok_w (km_adv hW hM h1 h2 h3 h4 hE8 hq8 hd8) (fun w hw => ?_)
          obtain ⟨z', e, hz'⟩ := hw
          refine ⟨z', e, ?_⟩
          rw [if_neg hc, if_pos hx92]
          exact hz'
        · have e82 : x86.2 2 = s := (hE8.2 2 (by decide)).trans hM
          rw [e82]
          (repeat (first | (with_reducible refine zok_g ?_ ?_; focus omega) | with_reducible refine zok_j ?_ | (with_reducible refine zok_t ?_ ?_; focus omega) | (with_reducible refine zok_f ?_ ?_; focus omega)))
          refine zok_i (fun c => hK () c) (fun c => ?_)
          rw [if_neg c] at hq8
          (repeat (first | (with_reducible refine zok_g ?_ ?_; focus omega) | with_reducible refine zok_j ?_ | (with_reducible refine zok_t ?_ ?_; focus omega) | (with_reducible refine zok_f ?_ ?_; focus omega)))
          refine zok_s ⟨_, rfl, ?_⟩
          rw [if_neg hc, if_neg c]
          refine ⟨rfl, zEx_a hE8 (by decide), hq8, fun j j0 j1 => ?_⟩
          show (zPa x86 10 mm 0).2 10 j = _
          have hon := kzDb_on hW (m := mm) (b := b) (x := 0) (j := j) h3 ⟨by omega, by omega⟩ j0 (by have : j < mm + 1 := j1; omega)
          rw [Int.add_zero] at hon
          rw [zPa_s, hon]
          by_cases e : j = mm
          · rw [e, zup_s, if_pos rfl]
          · rw [zup_n e, if_neg e]
            exact hd8 j j0 (by have : j < mm + 1 := j1; omega)
      · (repeat (first | (with_reducible refine zok_g ?_ ?_; focus omega) | with_reducible refine zok_j ?_ | (with_reducible refine zok_t ?_ ?_; focus omega) | (with_reducible refine zok_f ?_ ?_; focus omega)))
        refine zok_i (fun c => ?_) (fun c => hK _ ⟨zEx_u hUE (by decide), ?_, hd⟩)
        · have hpw : zPw (s 1) (s 2) = zWords s := rfl
          rw [c] at h4 hd
          refine zok_e (km_numberOfSpelt hW (show (zPu (zPu U 33 (q.2.2.1 + 1)) 34 (q.2.2.2 + 0)).2 2 = s from hU2) h3 (by omega) hd) ?_
          refine hK _ ⟨zEx_u (zEx_u (zEx_u hUE (by decide)) (by decide)) (by decide), ?_, fun j j0 j1 => by rw [c]; exact hd j j0 (by omega)⟩
          rw [if_pos (by omega)]
          show (b, v, q.2.2.1 + 1, q.2.2.2 + 0) = _
          rw [Int.add_zero]
        · rw [if_neg (by omega)]
          show (U.1 31, U.1 32, q.2.2.1 + 1, q.2.2.2 + 0) = _
          rw [q1, q2, Int.add_zero]
    · subst ex
      refine zok_e (m_truth (by decide)) ?_
      rw [if_neg (by decide)]
      (repeat (first | (with_reducible refine zok_g ?_ ?_; focus omega) | with_reducible refine zok_j ?_ | (with_reducible refine zok_t ?_ ?_; focus omega) | (with_reducible refine zok_f ?_ ?_; focus omega)))
      have hE8 : zEx [31, 32, 33, 34] [10] M (zPu (zPu U 33 (q.2.2.1 + 1)) 34 (q.2.2.2 + 1)) := zEx_u hUE (by decide)
      refine zok_w (km_adv hW hM h1 h2 h3 h4 hE8 (q := (q.1, q.2.1, q.2.2.1 + 1, q.2.2.2 + 1)) ?_ hd) (fun w hw => ?_)
      · show (U.1 31, U.1 32, q.2.2.1 + 1, q.2.2.2 + 1) = _
        rw [q1, q2]
      · obtain ⟨z', e, hz'⟩ := hw
        refine ⟨z', e, ?_⟩
        rw [if_pos hc]
        exact hz'
  · (repeat (first | (with_reducible refine zok_g ?_ ?_; focus omega) | with_reducible refine zok_j ?_ | (with_reducible refine zok_t ?_ ?_; focus omega) | (with_reducible refine zok_f ?_ ?_; focus omega)))
    refine zok_i (fun c => hK 0 (Or.inl ⟨rfl, fun z => z.1 c⟩)) (fun c => ?_)
    (repeat (first | (with_reducible refine zok_g ?_ ?_; focus omega) | with_reducible refine zok_j ?_ | (with_reducible refine zok_t ?_ ?_; focus omega) | (with_reducible refine zok_f ?_ ?_; focus omega)))
    refine zok_i (fun c2 => hK 0 (Or.inl ⟨rfl, fun z => by have := z.2; omega⟩)) (fun c2 => hK 1 (Or.inr ⟨rfl, c, by omega⟩))
theorem km_sub (hW : zWk s) {M : CV} (hM : M.2 2 = s) : ∀ (d : Nat) (m b : Int) (q : zQ) (z : Int × CV), 1 ≤ m → m ≤ s 2 → s 2 < m + d → 0 ≤ b → b < zPw (s 1) m → zQr q → zGo s M m b q z → ∃ (k : Nat) (z' : Int × CV), 3 * k + 1 ≤ 4 ^ ((s 2 - m).toNat + 1) ∧ zRu zMst z z' k ∧ zGo s M (zNx (s 1) m.toNat b).1 (zNx (s 1) m.toNat b).2 (zAk (zFb s) (s 2) (s 1) d m b q) z' := by
  have hL := hW.2.1
  intro d
  induction d with
  | zero => intro m b q z _ _ _ _ _ _ _; omega
  | succ d ih =>
    intro m b q z h1 h2 hd h3 h4 hr hz
    obtain ⟨w, ew, z', ez, hz'⟩ := km_step hW hM h1 h2 h3 h4 hr hz
    rw [ez] at ew
    have hrun := zRu_1 ew
    have h4p : 1 ≤ 4 ^ ((s 2 - m).toNat) := Nat.one_le_pow _ _ (by omega)
    rw [zAk_s]
    by_cases c : q.1 ≠ -1 ∧ q.2.1 ≤ zFb s m b
    · rw [if_pos c] at hz' ⊢
      exact ⟨1, z', by rw [Nat.pow_succ]; omega, hrun, hz'⟩
    · rw [if_neg c] at hz' ⊢
      by_cases c2 : s 2 ≤ m
      · rw [if_pos c2] at hz' ⊢
        exact ⟨1, z', by rw [Nat.pow_succ]; omega, hrun, hz'⟩
      · rw [if_neg c2] at hz' ⊢
        have hpl := zPw_s (b := s 1) (k := m) (by omega)
        have h6 := Int.mul_le_mul_of_nonneg_right (show b + 1 ≤ zPw (s 1) m by omega) (show 0 ≤ s 1 by omega)
        rw [Int.add_mul, Int.one_mul] at h6
        have h7 : 0 ≤ b * s 1 := Int.mul_nonneg h3 (by omega)
        have em : (m + 1).toNat = m.toNat + 1 := by omega
        have e2m : (s 2 - m).toNat = (s 2 - (m + 1)).toNat + 1 := by omega
        obtain ⟨P, hP⟩ : ∃ P : Nat, P = 4 ^ ((s 2 - (m + 1)).toNat + 1) := ⟨_, rfl⟩
        have key : ∀ x : Nat, (x : Int) < s 1 → ∃ (k : Nat) (z'' : Int × CV), 3 * k + x ≤ x * P ∧ zRu zMst z' z'' k ∧ zGo s M (m + 1) (b * s 1 + x) (zFd (fun x q => zAk (zFb s) (s 2) (s 1) d (m + 1) (b * s 1 + x) q) x (q.1, q.2.1, q.2.2.1 + 1, q.2.2.2)) z'' ∧ zQr (zFd (fun x q => zAk (zFb s) (s 2) (s 1) d (m + 1) (b * s 1 + x) q) x (q.1, q.2.1, q.2.2.1 + 1, q.2.2.2)) := by
          intro x
          induction x with
          | zero =>
            intro _
            refine ⟨0, z', by omega, zRu_0, ?_, hr⟩
            rw [show b * s 1 + ((0 : Nat) : Int) = b * s 1 by omega]
            exact hz'
          | succ x ihx =>
            intro hx
            obtain ⟨k, z2, hk, hrun2, hgo, hqr⟩ := ihx (by omega)
            obtain ⟨k2, z3, hk2, hrun3, hgo3⟩ := ih (m + 1) (b * s 1 + x) _ z2 (by omega) (by omega) (by omega) (by omega) (by omega) hqr hgo
            refine ⟨k + k2, z3, ?_, zRu_t hrun2 hrun3, ?_, ?_⟩
            · rw [← hP] at hk2
              rw [Nat.add_mul, Nat.one_mul]
              generalize x * P = y at hk
              clear hgo hgo3 hrun2 hrun3 hqr hP
              omega
            · rw [em, zNx_on (by omega) (by omega) (by omega)] at hgo3
              rw [show b * s 1 + ((x + 1 : Nat) : Int) = b * s 1 + x + 1 by omega]
              have e3 : ((m.toNat : Nat) : Int) + 1 = m + 1 := by rw [Int.toNat_of_nonneg (by omega)]
              rw [e3] at hgo3
              exact hgo3
            · exact kzAk_r hW d _ _ _ (by omega) (by omega) (by omega) (by omega) hqr
        obtain ⟨x, hx⟩ : ∃ x : Nat, s 1 = (x : Int) + 1 := ⟨(s 1 - 1).toNat, by omega⟩
        obtain ⟨k, z2, hk, hrun2, hgo, hqr⟩ := key x (by omega)
        obtain ⟨k2, z3, hk2, hrun3, hgo3⟩ := ih (m + 1) (b * s 1 + x) _ z2 (by omega) (by omega) (by omega) (by omega) (by omega) hqr hgo
        refine ⟨1 + k + k2, z3, ?_, zRu_t (zRu_t hrun hrun2) hrun3, ?_⟩
        · rw [← hP] at hk2
          have hPe : 4 ^ ((s 2 - m).toNat + 1) = P * 4 := by rw [e2m, hP, ← Nat.pow_succ]
          rw [hPe]
          have hx3 : x ≤ 3 := by omega
          have hP1 : 1 ≤ P := by rw [hP]; exact Nat.one_le_pow _ _ (by omega)
          obtain ⟨p, rfl⟩ : ∃ p, P = p + 1 := ⟨P - 1, by omega⟩
          rw [Nat.mul_add, Nat.mul_one] at hk
          have hy := Nat.mul_le_mul_right p hx3
          generalize x * p = y at hk hy
          clear hgo hgo3 hrun2 hrun3 hqr hP hPe key hrun hz'
          omega
        · rw [em] at hgo3
          have e4 : b * s 1 + (x : Int) = b * s 1 + (s 1 - 1) := by omega
          rw [e4, zNx_up (by omega) h3] at hgo3
          have e5 : (s 1).toNat = x + 1 := by omega
          rw [e5]
          show zGo s M _ _ (zAk (zFb s) (s 2) (s 1) d (m + 1) (b * s 1 + x) _) z3
          rw [e4]
          exact hgo3
theorem km_searches (hW : zWk s) {m : CV} (hM : m.2 2 = s) : zOk (fX8_searches m) (fun t => zEx [31, 32, 33, 34] [10] m t ∧ (t.1 31, t.1 32, t.1 33, t.1 34) = zSr s) := by
  have hL := hW.2.1
  have w2 := hW.2.2.1
  rw [m_searches_e]
  have e1 : zPw (s 1) 1 = s 1 := by
    have := zPw_s (b := s 1) (k := 0) (by omega)
    rw [zPw_0, Int.one_mul] at this
    exact this
  have hstart : zGo s m 1 ((0 : Nat) : Int) (-1, 0, 0, 0) (1, (zPa (zPu (zPu (zPu (zPu m 31 (-1)) 32 0) 33 0) 34 0) 10 0 0)) := by
    refine ⟨rfl, zEx_a (zEx_u (zEx_u (zEx_u (zEx_u zEx_0 (by decide)) (by decide)) (by decide)) (by decide)) (by decide), rfl, fun j j0 j1 => ?_⟩
    have : j = 0 := by omega
    subst this
    show (zPa _ 10 0 0).2 10 0 = _
    rw [zPa_s, zup_s]
    unfold zDb
    rw [show (1 : Int) - 1 - 0 = 0 by omega, zPw_0, Int.ediv_one]
    rfl
  have key : ∀ x : Nat, (x : Int) < s 1 → ∃ (k : Nat) (z'' : Int × CV), k ≤ x * 4096 ∧ zRu zMst (1, (zPa (zPu (zPu (zPu (zPu m 31 (-1)) 32 0) 33 0) 34 0) 10 0 0)) z'' k ∧ zGo s m 1 x (zFd (fun x q => zAk (zFb s) (s 2) (s 1) 6 1 x q) x (-1, 0, 0, 0)) z'' ∧ zQr (zFd (fun x q => zAk (zFb s) (s 2) (s 1) 6 1 x q) x (-1, 0, 0, 0)) := by
    intro x
    induction x with
    | zero =>
      intro _
      refine ⟨0, _, by omega, zRu_0, hstart, ?_⟩
      show zQr (-1, 0, 0, 0)
      exact ⟨⟨by decide, by decide⟩, ⟨by decide, by decide⟩⟩
    | succ x ihx =>
      intro hx
      obtain ⟨k, z2, hk, hrun2, hgo, hqr⟩ := ihx (by omega)
      obtain ⟨k2, z3, hk2, hrun3, hgo3⟩ := km_sub hW hM 6 1 x _ z2 (by omega) (by omega) (by omega) (by omega) (by omega) hqr hgo
      have hp : 4 ^ ((s 2 - 1).toNat + 1) ≤ 4 ^ 6 := Nat.pow_le_pow_right (by omega) (by omega)
      refine ⟨k + k2, z3, by omega, zRu_t hrun2 hrun3, ?_, ?_⟩
      · have h := zNx_on (L := s 1) (b := 0) (x := x) (k := 0) (by omega) (by omega) (by omega)
        rw [Int.zero_mul, Int.zero_add] at h
        have e : zNx (s 1) (1 : Int).toNat x = (1, (x : Int) + 1) := h
        rw [e] at hgo3
        exact hgo3
      · exact kzAk_r hW 6 _ _ _ (by omega) (by omega) (by omega) (by omega) hqr
  obtain ⟨x, hx⟩ : ∃ x : Nat, s 1 = (x : Int) + 1 := ⟨(s 1 - 1).toNat, by omega⟩
  obtain ⟨k, z2, hk, hrun2, hgo, hqr⟩ := key x (by omega)
  obtain ⟨k2, z3, hk2, hrun3, hgo3⟩ := km_sub hW hM 6 1 x _ z2 (by omega) (by omega) (by omega) (by omega) (by omega) hqr hgo
  have hp : 4 ^ ((s 2 - 1).toNat + 1) ≤ 4 ^ 6 := Nat.pow_le_pow_right (by omega) (by omega)
  have hrun := zRu_t hrun2 hrun3
  have hxx : x ≤ 3 := by omega
  have hN := hrun (zFu - (k + k2))
  have hle : k + k2 ≤ zFu := by unfold zFu; omega
  rw [Nat.sub_add_cancel hle] at hN
  rw [hN]
  have h := zNx_up (L := s 1) (b := 0) (k := 0) (by omega) (Int.le_refl 0)
  rw [Int.zero_mul, Int.zero_add] at h
  have e : zNx (s 1) (1 : Int).toNat x = (0, 0) := by
    rw [show (x : Int) = s 1 - 1 by omega]
    exact h
  rw [e] at hgo3
  obtain ⟨g1, g2, g3, _⟩ := hgo3
  obtain ⟨n, hn⟩ : ∃ n : Nat, zFu - (k + k2) = n + 1 := ⟨zFu - (k + k2) - 1, by unfold zFu at hle ⊢; omega⟩
  rw [hn]
  have hstep : zMst z3 = some (.inr z3) := by
    apply zok_q
    obtain ⟨zm, zU⟩ := z3
    have hz0 : zm = 0 := g1
    subst hz0
    unfold zMst
    (repeat (first | (with_reducible refine zok_g ?_ ?_; focus omega) | with_reducible refine zok_j ?_ | (with_reducible refine zok_t ?_ ?_; focus omega) | (with_reducible refine zok_f ?_ ?_; focus omega)))
    exact zok_s rfl
  have hend : zLp zMst (n + 1) z3 = some z3 := by
    unfold zLp
    rw [hstep]
  rw [hend]
  refine zok_s ⟨g2, ?_⟩
  have e5 : (s 1).toNat = x + 1 := by omega
  show _ = zFd _ (s 1).toNat _
  rw [e5]
  exact g3
end ZWEAK
