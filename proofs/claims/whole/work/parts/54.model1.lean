/-! THE MODEL'S BOARD: m.2 2 -/
section ZM1
variable {m : CV} {s : Int → Int}
theorem m_of {r w : Int} (hs : m.2 2 = s) (h0 : 0 ≤ 11 + 4 * r + w) (h1 : 11 + 4 * r + w < 351) : fX8_of m r w = some (zf s r w) := by
  apply zok_q
  unfold fX8_of
  (repeat (first | (with_reducible refine zok_g ?_ ?_; focus omega) | with_reducible refine zok_j ?_ | (with_reducible refine zok_t ?_ ?_; focus omega) | (with_reducible refine zok_f ?_ ?_; focus omega)))
  exact zok_s (by rw [hs]; rfl)
theorem m_letterAt {r i : Int} (hs : m.2 2 = s) (h0 : 0 ≤ 51 + 30 * r + i) (h1 : 51 + 30 * r + i < 351) : fX8_letterAt m r i = some (zl s r i) := by
  apply zok_q
  unfold fX8_letterAt
  (repeat (first | (with_reducible refine zok_g ?_ ?_; focus omega) | with_reducible refine zok_j ?_ | (with_reducible refine zok_t ?_ ?_; focus omega) | (with_reducible refine zok_f ?_ ?_; focus omega)))
  exact zok_s (by rw [hs]; rfl)
theorem m_isIn {a lo hi : Int} (h1 : iRL a) (h2 : iRL lo) (h3 : iRL hi) : fX8_isIn a lo hi = some (decide (lo ≤ a ∧ a ≤ hi)) := by
  apply zok_q
  unfold fX8_isIn
  (repeat (first | (with_reducible refine zok_g ?_ ?_; focus omega) | with_reducible refine zok_j ?_ | (with_reducible refine zok_t ?_ ?_; focus omega) | (with_reducible refine zok_f ?_ ?_; focus omega)))
  have e1 : zCmp a lo < 0 ↔ a < lo := by
    unfold zCmp
    split
    · omega
    · split <;> omega
  have e2 : 0 < zCmp a hi ↔ hi < a := by
    unfold zCmp
    split
    · omega
    · split <;> omega
  refine zok_i (fun c => zok_s ?_) (fun c => ?_)
  · rw [e1] at c
    exact (decide_eq_false (by omega)).symm
  · rw [e1] at c
    (repeat (first | (with_reducible refine zok_g ?_ ?_; focus omega) | with_reducible refine zok_j ?_ | (with_reducible refine zok_t ?_ ?_; focus omega) | (with_reducible refine zok_f ?_ ?_; focus omega)))
    refine zok_i (fun c2 => zok_s ?_) (fun c2 => zok_s ?_)
    · rw [e2] at c2
      exact (decide_eq_false (by omega)).symm
    · rw [e2] at c2
      exact (decide_eq_true (by omega)).symm
theorem m_truth {a : Int} (h : iR a) : fX8_truth a = some (if a = 0 then 0 else 1) := by
  apply zok_q
  unfold fX8_truth
  (repeat (first | (with_reducible refine zok_g ?_ ?_; focus omega) | with_reducible refine zok_j ?_ | (with_reducible refine zok_t ?_ ?_; focus omega) | (with_reducible refine zok_f ?_ ?_; focus omega)))
  exact zok_i (fun c => zok_s (by rw [if_pos c])) (fun c => zok_s (by rw [if_neg c]))
theorem m_truth_b {p : Bool} : fX8_truth (b2 p) = some (b2 p) := by
  rw [m_truth (b2_r p)]
  cases p <;> rfl
theorem m_goes (p : Bool) : fX8_goes m (b2 p) = some (zPu m 0 (if p = true then 0 else 1), p) := by
  apply zok_q
  unfold fX8_goes
  cases p
  · refine zok_j ?_
    have e : b2 false = 0 := rfl
    rw [e]
    (repeat (first | (with_reducible refine zok_g ?_ ?_; focus omega) | with_reducible refine zok_j ?_ | (with_reducible refine zok_t ?_ ?_; focus omega) | (with_reducible refine zok_f ?_ ?_; focus omega)))
    refine zok_e (m_truth (by decide)) ?_
    (repeat (first | (with_reducible refine zok_g ?_ ?_; focus omega) | with_reducible refine zok_j ?_ | (with_reducible refine zok_t ?_ ?_; focus omega) | (with_reducible refine zok_f ?_ ?_; focus omega)))
    exact zok_s rfl
  · refine zok_j ?_
    have e : b2 true = 1 := rfl
    rw [e]
    (repeat (first | (with_reducible refine zok_g ?_ ?_; focus omega) | with_reducible refine zok_j ?_ | (with_reducible refine zok_t ?_ ?_; focus omega) | (with_reducible refine zok_f ?_ ?_; focus omega)))
    refine zok_e (m_truth (by decide)) ?_
    (repeat (first | (with_reducible refine zok_g ?_ ?_; focus omega) | with_reducible refine zok_j ?_ | (with_reducible refine zok_t ?_ ?_; focus omega) | (with_reducible refine zok_f ?_ ?_; focus omega)))
    exact zok_s rfl
theorem m_goesBoth (p q : Bool) : fX8_goesBoth m (b2 p) (b2 q) = some (zPu m 0 (if p = false then 1 else if q = false then 2 else 0), p && q) := by
  apply zok_q
  unfold fX8_goesBoth
  refine zok_j ?_
  cases p
  · have e : b2 false = 0 := rfl
    rw [e]
    (repeat (first | (with_reducible refine zok_g ?_ ?_; focus omega) | with_reducible refine zok_j ?_ | (with_reducible refine zok_t ?_ ?_; focus omega) | (with_reducible refine zok_f ?_ ?_; focus omega)))
    exact zok_s rfl
  · have e : b2 true = 1 := rfl
    rw [e]
    (repeat (first | (with_reducible refine zok_g ?_ ?_; focus omega) | with_reducible refine zok_j ?_ | (with_reducible refine zok_t ?_ ?_; focus omega) | (with_reducible refine zok_f ?_ ?_; focus omega)))
    cases q
    · have e : b2 false = 0 := rfl
      rw [e]
      (repeat (first | (with_reducible refine zok_g ?_ ?_; focus omega) | with_reducible refine zok_j ?_ | (with_reducible refine zok_t ?_ ?_; focus omega) | (with_reducible refine zok_f ?_ ?_; focus omega)))
      exact zok_s rfl
    · rw [e]
      (repeat (first | (with_reducible refine zok_g ?_ ?_; focus omega) | with_reducible refine zok_j ?_ | (with_reducible refine zok_t ?_ ?_; focus omega) | (with_reducible refine zok_f ?_ ?_; focus omega)))
      exact zok_s rfl
theorem n_isOut {r : Int} (hs : m.2 2 = s) (hW : zWk s) (h0 : 0 ≤ r) (h1 : r < s 0) : fX8_isOut m r = some (decide (zf s r 2 = 1)) := by
  apply zok_q
  unfold fX8_isOut
  have w0 := hW.1
  have hr := (hW.row h0 h1).2.2.1
  refine zok_e (m_of hs (by omega) (by omega)) ?_
  (repeat (first | (with_reducible refine zok_g ?_ ?_; focus omega) | with_reducible refine zok_j ?_ | (with_reducible refine zok_t ?_ ?_; focus omega) | (with_reducible refine zok_f ?_ ?_; focus omega)))
  refine zok_i (fun c => zok_s ?_) (fun c => zok_s ?_)
  · exact (decide_eq_true c).symm
  · exact (decide_eq_false c).symm
theorem m_isOut {r : Int} (hs : m.2 2 = s) (hW : zWf s) (h0 : 0 ≤ r) (h1 : r < s 0) : fX8_isOut m r = some (decide (zf s r 2 = 1)) := n_isOut hs hW.k h0 h1
theorem m_hasBit {c i : Int} (hc : iR c) (h0 : 0 ≤ i) (h1 : i < 32) : fX8_hasBit c i = some (decide (c / zP2 i % 2 = 1)) := by
  apply zok_q
  unfold fX8_hasBit
  (repeat (first | (with_reducible refine zok_g ?_ ?_; focus omega) | with_reducible refine zok_j ?_ | (with_reducible refine zok_t ?_ ?_; focus omega) | (with_reducible refine zok_f ?_ ?_; focus omega)))
  refine zok_i (fun c => zok_s ?_) (fun c => zok_s ?_)
  · exact (decide_eq_true c).symm
  · exact (decide_eq_false c).symm
theorem n_isPlace {r i : Int} (hs : m.2 2 = s) (hW : zWk s) (h0 : 0 ≤ r) (h1 : r < s 0) (hi : iR i) : fX8_isPlace m r i = some (zPl s r i) := by
  apply zok_q
  unfold fX8_isPlace
  have w0 := hW.1
  have w2 := hW.2.2.1
  obtain ⟨⟨a1, a2⟩, _, a3, a4, _⟩ := hW.row h0 h1
  refine zok_e (n_isOut hs hW h0 h1) ?_
  refine zok_i (fun c => zok_s ?_) (fun c => ?_)
  · exact (zPl_f.mpr (fun h => h.1 (of_decide_eq_true c))).symm
  (repeat (first | (with_reducible refine zok_g ?_ ?_; focus omega) | with_reducible refine zok_j ?_ | (with_reducible refine zok_t ?_ ?_; focus omega) | (with_reducible refine zok_f ?_ ?_; focus omega)))
  refine zok_e (m_of hs (by omega) (by omega)) ?_
  rw [hs]
  (repeat (first | (with_reducible refine zok_g ?_ ?_; focus omega) | with_reducible refine zok_j ?_ | (with_reducible refine zok_t ?_ ?_; focus omega) | (with_reducible refine zok_f ?_ ?_; focus omega)))
  refine zok_e (m_isIn ⟨by omega, by omega⟩ (by decide) ⟨by omega, by omega⟩) ?_
  refine zok_i (fun c2 => ?_) (fun c2 => zok_s ?_)
  · have c3 := of_decide_eq_true c2
    refine zok_F (mk := fun a i => (a, i)) (s 2) (fun k a => (a = 0 ∨ a = 1) ∧ (a = 1 ↔ ∀ j, 0 ≤ j → j < k → zf s r 3 / zP2 (i + j) % 2 ≠ 1)) rfl (by omega) ⟨Or.inr rfl, ⟨fun _ j _ _ => by omega, fun _ => rfl⟩⟩ (fun k a hk hk2 hI => ?_) (fun k a hk hk2 hk3 hk4 hI => ?_)
    · dsimp only
      (repeat (first | (with_reducible refine zok_g ?_ ?_; focus omega) | with_reducible refine zok_j ?_ | (with_reducible refine zok_t ?_ ?_; focus omega) | (with_reducible refine zok_f ?_ ?_; focus omega)))
      refine zok_i (fun ca => zok_sl ⟨_, rfl, Or.inl rfl, ?_⟩) (fun ca => ?_)
      · constructor
        · intro h; omega
        · intro h
          have := hI.2.mpr (fun j j0 j1 => h j j0 (by omega))
          omega
      · have ha : a = 1 := by omega
        refine zok_e (m_of hs (by omega) (by omega)) ?_
        refine zok_e (m_hasBit ⟨by omega, by omega⟩ (by omega) (by omega)) ?_
        refine zok_i (fun cb => zok_sl ⟨_, rfl, Or.inl rfl, ?_⟩) (fun cb => zok_sl ⟨_, rfl, Or.inr rfl, ?_⟩)
        · constructor
          · intro h; omega
          · intro h
            exact absurd (of_decide_eq_true cb) (h k hk (by omega))
        · constructor
          · intro _ j j0 j1
            by_cases e : j = k
            · subst e
              exact fun z => cb (decide_eq_true z)
            · exact hI.2.mp ha j j0 (by omega)
          · intro _; rfl
    · dsimp only
      (repeat (first | (with_reducible refine zok_g ?_ ?_; focus omega) | with_reducible refine zok_j ?_ | (with_reducible refine zok_t ?_ ?_; focus omega) | (with_reducible refine zok_f ?_ ?_; focus omega)))
      refine zok_sr ?_
      have hI1 := hI.1
      (repeat (first | (with_reducible refine zok_g ?_ ?_; focus omega) | with_reducible refine zok_j ?_ | (with_reducible refine zok_t ?_ ?_; focus omega) | (with_reducible refine zok_f ?_ ?_; focus omega)))
      refine zok_s ?_
      have e := hk3 (by omega)
      subst e
      by_cases ca : a = 1
      · rw [decide_eq_true ca]
        exact (zPl_t.mpr ⟨fun z => c (decide_eq_true z), c3.1, c3.2, hI.2.mp ca⟩).symm
      · rw [decide_eq_false ca]
        exact (zPl_f.mpr (fun h => ca (hI.2.mpr h.2.2.2))).symm
  · exact (zPl_f.mpr (fun h => c2 (decide_eq_true ⟨h.2.1, h.2.2.1⟩))).symm
theorem m_isPlace {r i : Int} (hs : m.2 2 = s) (hW : zWf s) (h0 : 0 ≤ r) (h1 : r < s 0) (hi : iR i) : fX8_isPlace m r i = some (zPl s r i) := n_isPlace hs hW.k h0 h1 hi
theorem m_words (hs : m.2 2 = s) (hW : zWf s) : fX8_words m = some (zWords s) := by
  apply zok_q
  unfold fX8_words
  have w2 := hW.2.2.1
  rw [hs]
  refine zok_F (mk := fun a i => (a, i)) (s 2) (fun i a => a = zPw (s 1) i) rfl (by omega) zPw_0.symm (fun i a hi hi2 hI => ?_) (fun i a hi hi2 hi3 hi4 hI => ?_)
  · dsimp only
    (repeat (first | (with_reducible refine zok_g ?_ ?_; focus omega) | with_reducible refine zok_j ?_ | (with_reducible refine zok_t ?_ ?_; focus omega) | (with_reducible refine zok_f ?_ ?_; focus omega)))
    exact zok_sl ⟨_, rfl, by rw [zPw_s hi, hI]⟩
  · dsimp only
    (repeat (first | (with_reducible refine zok_g ?_ ?_; focus omega) | with_reducible refine zok_j ?_ | (with_reducible refine zok_t ?_ ?_; focus omega) | (with_reducible refine zok_f ?_ ?_; focus omega)))
    refine zok_sr (zok_s ?_)
    rw [hI, hi3 (by omega)]
    rfl
theorem m_isRow {r : Int} (hs : m.2 2 = s) (hW : zWf s) (h : iR r) : fX8_isRow m r = some (decide (0 ≤ r ∧ r < s 0)) := by
  apply zok_q
  unfold fX8_isRow
  have w0 := hW.1
  rw [hs]
  (repeat (first | (with_reducible refine zok_g ?_ ?_; focus omega) | with_reducible refine zok_j ?_ | (with_reducible refine zok_t ?_ ?_; focus omega) | (with_reducible refine zok_f ?_ ?_; focus omega)))
  refine zok_e (m_isIn ⟨by omega, by omega⟩ (by decide) ⟨by omega, by omega⟩) (zok_s ?_)
  congr 1
  exact propext ⟨fun h => by omega, fun h => by omega⟩
theorem m_isOne {w : Int} (hs : m.2 2 = s) (hW : zWf s) (h : iR w) : fX8_isOne m w = some (decide (0 ≤ w ∧ w < zWords s)) := by
  apply zok_q
  unfold fX8_isOne
  have w0 := zWords_r hW
  (repeat (first | (with_reducible refine zok_g ?_ ?_; focus omega) | with_reducible refine zok_j ?_ | (with_reducible refine zok_t ?_ ?_; focus omega) | (with_reducible refine zok_f ?_ ?_; focus omega)))
  refine zok_e (m_words hs hW) ?_
  (repeat (first | (with_reducible refine zok_g ?_ ?_; focus omega) | with_reducible refine zok_j ?_ | (with_reducible refine zok_t ?_ ?_; focus omega) | (with_reducible refine zok_f ?_ ?_; focus omega)))
  refine zok_e (m_isIn ⟨by omega, by omega⟩ (by decide) ⟨by omega, by omega⟩) (zok_s ?_)
  congr 1
  exact propext ⟨fun h => by omega, fun h => by omega⟩
theorem m_differsAt {r i k : Int} {u : Int → Int} (hs : m.2 2 = s) (hu : ∀ j, 0 ≤ j → j < k → m.2 10 j = u j) (hur : ∀ j, 0 ≤ j → j < k → 0 ≤ u j ∧ u j < 4) (hl : ∀ j, 0 ≤ j → j < k → 0 ≤ zl s r (i + j) ∧ zl s r (i + j) < 4) (h0 : 0 ≤ r) (h1 : r < 10) (hi : 0 ≤ i) (hk : 0 ≤ k) (hk6 : k ≤ 6) (hik : i + k ≤ 30) : fX8_differsAt m r i k = some (zDf s r i u k) := by
  apply zok_q
  unfold fX8_differsAt
  refine zok_F (mk := fun a i => (a, i)) k (fun j a => a = zDn (fun j => zl s r (i + j)) u j) rfl (by omega) rfl (fun j a hj hj2 hI => ?_) (fun j a hj hj2 hj3 hj4 hI => ?_)
  · dsimp only
    have b1 := hur j hj hj2
    have b2 := hl j hj hj2
    (repeat (first | (with_reducible refine zok_g ?_ ?_; focus omega) | with_reducible refine zok_j ?_ | (with_reducible refine zok_t ?_ ?_; focus omega) | (with_reducible refine zok_f ?_ ?_; focus omega)))
    refine zok_e (m_letterAt hs (by omega) (by omega)) ?_
    rw [hu j hj hj2]
    (repeat (first | (with_reducible refine zok_g ?_ ?_; focus omega) | with_reducible refine zok_j ?_ | (with_reducible refine zok_t ?_ ?_; focus omega) | (with_reducible refine zok_f ?_ ?_; focus omega)))
    refine zok_i (fun c => ?_) (fun c => ?_)
    · refine zok_e (m_truth (by decide)) (zok_sl ⟨_, rfl, ?_⟩)
      rw [zDn_s hj, hI, if_pos rfl, if_pos c.symm]
    · refine zok_e (m_truth (by decide)) (zok_sl ⟨_, rfl, ?_⟩)
      rw [zDn_s hj, hI, if_neg (by decide), if_neg (fun z => c z.symm)]
  · dsimp only
    (repeat (first | (with_reducible refine zok_g ?_ ?_; focus omega) | with_reducible refine zok_j ?_ | (with_reducible refine zok_t ?_ ?_; focus omega) | (with_reducible refine zok_f ?_ ?_; focus omega)))
    refine zok_sr (zok_s ?_)
    rw [hI, hj3 hk]
    rfl
/-- the word that is spelt is u -/
def zSp (m : CV) (u : Int → Int) : Prop := ∀ j, 0 ≤ j → j < m.2 2 2 → m.2 10 j = u j ∧ 0 ≤ u j ∧ u j < m.2 2 1
theorem m_least {r k : Int} {u : Int → Int} (hs : m.2 2 = s) (hW : zWf s) (h0 : 0 ≤ r) (h1 : r < s 0) (hk : 0 ≤ k) (hk2 : k ≤ s 2) (hu : ∀ j, 0 ≤ j → j < k → m.2 10 j = u j) (hur : ∀ j, 0 ≤ j → j < k → 0 ≤ u j ∧ u j < 4) : fX8_least m r k = some (zNr s r u k) := by
  apply zok_q
  unfold fX8_least
  have w0 := hW.1
  have w1 := hW.2.1
  have w2 := hW.2.2.1
  obtain ⟨⟨a1, a2⟩, _, _, _, a5, _⟩ := hW.row h0 h1
  refine zok_F (mk := fun a i => (a, i)) (zf s r 0) (fun i a => a = zFd (fun i a => if zPl s r i = true then zMin a (zDf s r i u k) else a) i.toNat k) rfl (by omega) rfl (fun i a hi hi2 hI => ?_) (fun i a hi hi2 hi3 hi4 hI => ?_)
  · refine zok_e (m_of hs (by omega) (by omega)) ?_
    dsimp only
    (repeat (first | (with_reducible refine zok_g ?_ ?_; focus omega) | with_reducible refine zok_j ?_ | (with_reducible refine zok_t ?_ ?_; focus omega) | (with_reducible refine zok_f ?_ ?_; focus omega)))
    refine zok_e (m_isPlace hs hW h0 h1 ⟨by omega, by omega⟩) ?_
    refine zok_i (fun hp => ?_) (fun hp => zok_sl ⟨_, rfl, ?_⟩)
    · have hP := zPl_t.mp hp
      have hP2 := hP.2.2.1
      refine zok_e (m_differsAt hs hu hur (fun j j0 j1 => ?_) h0 (by omega) hi hk (by omega) (by omega)) ?_
      · have := a5 (i + j) (by omega) (by omega)
        omega
      have hr := zNr_i (s := s) (r := r) (u := u) hk i.toNat
      rw [← hI] at hr
      have hd := zDf_r (s := s) (r := r) (i := i) (u := u) hk
      (repeat (first | (with_reducible refine zok_g ?_ ?_; focus omega) | with_reducible refine zok_j ?_ | (with_reducible refine zok_t ?_ ?_; focus omega) | (with_reducible refine zok_f ?_ ?_; focus omega)))
      refine zok_i (fun c => zok_sl ⟨_, rfl, ?_⟩) (fun c => zok_sl ⟨_, rfl, ?_⟩)
      · rw [zFd_s hi, if_pos hp, ← hI]
        unfold zMin
        rw [if_neg (by omega)]
      · rw [zFd_s hi, if_pos hp, ← hI]
        unfold zMin
        rw [if_pos (by omega)]
    · rw [zFd_s hi, if_neg hp, ← hI]
  · refine zok_e (m_of hs (by omega) (by omega)) ?_
    dsimp only
    (repeat (first | (with_reducible refine zok_g ?_ ?_; focus omega) | with_reducible refine zok_j ?_ | (with_reducible refine zok_t ?_ ?_; focus omega) | (with_reducible refine zok_f ?_ ?_; focus omega)))
    refine zok_sr (zok_s ?_)
    rw [hI, hi3 (by omega)]
    rfl
end ZM1
