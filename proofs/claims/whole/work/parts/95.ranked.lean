section ZRD
variable {σ : CS} {m : CV} {s : Int → Int}
/-- going through the words for one with score x -/
noncomputable def zSkf (s : Int → Int) (x w : Int) (p : Int × Int) : Int × Int := if p.2 ≠ -1 then p else if zFb s (s 2) w = x then (if p.1 = 0 then (p.1, w) else (p.1 + -1, p.2)) else p
theorem zSkf_e {x w : Int} {p : Int × Int} : zSkf s x w p = if p.2 ≠ -1 then p else if zFb s (s 2) w = x then (if p.1 = 0 then (p.1, w) else (p.1 + -1, p.2)) else p := rfl
theorem zSk_n {α : Type} {a : Int} {p q : α} : (if (a, (-1 : Int)).2 ≠ -1 then p else q) = q := if_neg (fun z => z rfl)
noncomputable def zSk (s : Int → Int) (x left : Int) (n : Nat) : Int × Int := zFd (zSkf s x) n (left, -1)
theorem zSk_i {x left : Int} (hl : 0 ≤ left) (n : Nat) : (left < zScc s x n → 0 ≤ (zSk s x left n).2 ∧ (zSk s x left n).2 < n) ∧ (¬ left < zScc s x n → zSk s x left n = (left - zScc s x n, -1)) := by
  induction n with
  | zero => exact ⟨fun h => by have : left < 0 := h; omega, fun _ => by show (left, (-1 : Int)) = (left - 0, -1); rw [Int.sub_zero]⟩
  | succ n ih =>
    have eS : zScc s x (n + 1) = if zFb s (s 2) n = x then zScc s x n + 1 else zScc s x n := rfl
    have eK : zSk s x left (n + 1) = zSkf s x n (zSk s x left n) := rfl
    rw [eS, eK, zSkf_e]
    by_cases c : left < zScc s x n
    · have h := ih.1 c
      have hp : (zSk s x left n).2 ≠ -1 := by omega
      rw [if_pos hp]
      by_cases d : zFb s (s 2) n = x
      · rw [if_pos d]
        exact ⟨fun _ => ⟨h.1, by omega⟩, fun z => by omega⟩
      · rw [if_neg d]
        exact ⟨fun _ => ⟨h.1, by omega⟩, fun z => by omega⟩
    · have h := ih.2 c
      rw [h, zSk_n]
      by_cases d : zFb s (s 2) n = x
      · rw [if_pos d, if_pos d]
        dsimp only
        by_cases e : left - zScc s x n = 0
        · rw [if_pos e]
          exact ⟨fun _ => ⟨by show (0 : Int) ≤ n; omega, by show (n : Int) < ((n + 1 : Nat) : Int); omega⟩, fun z => by omega⟩
        · rw [if_neg e]
          refine ⟨fun z => by omega, fun _ => ?_⟩
          show (left - zScc s x n + -1, (-1 : Int)) = (left - (zScc s x n + 1), -1)
          rw [show left - zScc s x n + -1 = left - (zScc s x n + 1) by omega]
      · rw [if_neg d, if_neg d]
        exact ⟨fun z => absurd z c, fun _ => rfl⟩
theorem zSk_keep {x left : Int} {k : Nat} (h : (zSk s x left k).2 ≠ -1) : ∀ n, k ≤ n → zSk s x left n = zSk s x left k := by
  intro n
  induction n with
  | zero => intro hk; rw [show k = 0 by omega]
  | succ n ih =>
    intro hk
    by_cases e : k = n + 1
    · rw [e]
    · show zSkf s x n (zSk s x left n) = _
      rw [ih (by omega), zSkf_e, if_pos h]
theorem zSk_s {x left w : Int} (h : 0 ≤ w) : zSk s x left (w + 1).toNat = zSkf s x w (zSk s x left w.toNat) := zFd_s h
noncomputable def zRkd (s : Int → Int) : Nat → Int → Int → Int
  | 0, _, _ => -1
  | k + 1, x, left => if (zSk s x left (zWords s).toNat).2 ≠ -1 then (zSk s x left (zWords s).toNat).2 else zRkd s k (x + 1) (zSk s x left (zWords s).toNat).1
theorem zRkd_s {k : Nat} {x left : Int} : zRkd s (k + 1) x left = if (zSk s x left (zWords s).toNat).2 ≠ -1 then (zSk s x left (zWords s).toNat).2 else zRkd s k (x + 1) (zSk s x left (zWords s).toNat).1 := rfl
theorem zRkd_r (hW : zWf s) : ∀ (k : Nat) (x left : Int), 0 ≤ left → -1 ≤ zRkd s k x left ∧ zRkd s k x left < 4096 := by
  have hw := zWords_r hW
  intro k
  induction k with
  | zero => intro x left _; exact ⟨Int.le_refl _, by show (-1 : Int) < 4096; omega⟩
  | succ k ih =>
    intro x left hl
    rw [zRkd_s]
    have hi := zSk_i (s := s) (x := x) hl (zWords s).toNat
    by_cases c : left < zScc s x (zWords s).toNat
    · have := hi.1 c
      rw [if_pos (by omega)]
      omega
    · have e := hi.2 c
      rw [e, zSk_n]
      exact ih (x + 1) _ (by show 0 ≤ left - _; omega)
theorem c_wordOfRank (hW : zWf s) {T : CV} (hT : zSoT T s) {i : Int} (hi : iR i) : fX3_wordOfRank T i = some (if 0 ≤ i ∧ i < zWords s then zRkd s 61 0 i else -1) := by
  apply zok_q
  unfold fX3_wordOfRank
  have w2 := hW.2.2.1
  have hw := zWords_r hW
  rw [hT.1.2.2.1]
  by_cases c : 0 ≤ i ∧ i < zWords s
  · rw [if_pos c]
    (repeat (first | (with_reducible refine zok_g ?_ ?_; focus omega) | with_reducible refine zok_j ?_ | (with_reducible refine zok_t ?_ ?_; focus omega) | (with_reducible refine zok_f ?_ ?_; focus omega)))
    refine zok_L (I := fun (a : Int × Int) => (0 ≤ a.2 ∧ a.2 ≤ 60) ∧ (0 ≤ a.1 ∧ a.1 ≤ i) ∧ zRkd s 61 0 i = zRkd s (61 - a.2).toNat a.2 a.1) (μ := fun a => (60 - a.2).toNat) ⟨⟨Int.le_refl 0, by show (0 : Int) ≤ 60; omega⟩, ⟨c.1, Int.le_refl _⟩, rfl⟩ (by show (60 - 0 : Int).toNat < 100000; omega) ?_
    rintro ⟨rest, x⟩ ⟨hx, hr, e⟩
    dsimp only at hx hr e ⊢
    -- behind the scores
    have out : (x = 60 ∨ rest < zScc s x (zWords s).toNat) → zOk ((zLp (σ := Int × Int) (ρ := ((Int × Int) ⊕ (Int))) (fun s11 => zG (iR s11.2) <| if zWords s ≤ s11.2 then (some (.inr (.inl (s11.1, s11.2)))) else ((fX3_scoreOf T s11.2).bind fun t22 => zG (iR t22 ∧ iR x) <| if t22 = x then (zG (iR s11.1) <| if s11.1 = 0 then (some (.inr (.inr s11.2))) else (some (.inl (s11.1 + (-1), s11.2 + 1)))) else (some (.inl (s11.1, s11.2 + 1))))) zFu (rest, 0)).bind (Sum.elim (fun y11 => some (-1)) (fun r => some r))) (fun y => y = zRkd s 61 0 i) := by
      intro hc
      have fin : (zSk s x rest (zWords s).toNat).2 = zRkd s 61 0 i := by
        rw [e, show (61 - x).toNat = (60 - x).toNat + 1 by omega, zRkd_s]
        by_cases d : rest < zScc s x (zWords s).toNat
        · have := (zSk_i (s := s) (x := x) hr.1 (zWords s).toNat).1 d
          have hp : (zSk s x rest (zWords s).toNat).2 ≠ -1 := by omega
          rw [if_pos hp]
        · have e2 := (zSk_i (s := s) (x := x) hr.1 (zWords s).toNat).2 d
          rw [e2, zSk_n, show (60 - x).toNat = 0 by omega]
          rfl
      refine zok_F (mk := fun a i => (a, i)) (zWords s) (fun w a => (0 ≤ a ∧ a ≤ rest) ∧ zSk s x rest w.toNat = (a, -1)) rfl (by omega) ⟨⟨hr.1, Int.le_refl _⟩, rfl⟩ (fun w a hw0 hw1 hI => ?_) (fun w a hw0 hw1 hw2 hw3 hI => ?_)
      · dsimp only
        (repeat (first | (with_reducible refine zok_g ?_ ?_; focus omega) | with_reducible refine zok_j ?_ | (with_reducible refine zok_t ?_ ?_; focus omega) | (with_reducible refine zok_f ?_ ?_; focus omega)))
        refine zok_e (c_scoreOf hW hT.1 hw0 hw1) ?_
        have hF := zFb_r hW (m := s 2) (b := w) (by omega) (Int.le_refl _)
        have eS := zSk_s (s := s) (x := x) (left := rest) hw0
        rw [hI.2, zSkf_e, zSk_n] at eS
        (repeat (first | (with_reducible refine zok_g ?_ ?_; focus omega) | with_reducible refine zok_j ?_ | (with_reducible refine zok_t ?_ ?_; focus omega) | (with_reducible refine zok_f ?_ ?_; focus omega)))
        refine zok_i (fun c1 => ?_) (fun c1 => zok_sl ⟨_, rfl, hI.1, ?_⟩)
        · rw [if_pos c1] at eS
          (repeat (first | (with_reducible refine zok_g ?_ ?_; focus omega) | with_reducible refine zok_j ?_ | (with_reducible refine zok_t ?_ ?_; focus omega) | (with_reducible refine zok_f ?_ ?_; focus omega)))
          refine zok_i (fun c2 => zok_sr (zok_s ?_)) (fun c2 => zok_sl ⟨_, rfl, ⟨by omega, by omega⟩, ?_⟩)
          · rw [if_pos c2] at eS
            have hk := zSk_keep (s := s) (x := x) (left := rest) (k := (w + 1).toNat) (by rw [eS]; show w ≠ -1; omega) (zWords s).toNat (by omega)
            rw [← fin, hk, eS]
          · rw [if_neg c2] at eS
            exact eS
        · rw [if_neg c1] at eS
          exact eS
      · dsimp only
        (repeat (first | (with_reducible refine zok_g ?_ ?_; focus omega) | with_reducible refine zok_j ?_ | (with_reducible refine zok_t ?_ ?_; focus omega) | (with_reducible refine zok_f ?_ ?_; focus omega)))
        refine zok_sr (zok_s ?_)
        have := hw2 (by omega)
        subst this
        rw [← fin, hI.2]
    by_cases c60 : 60 ≤ x
    · (repeat (first | (with_reducible refine zok_g ?_ ?_; focus omega) | with_reducible refine zok_j ?_ | (with_reducible refine zok_t ?_ ?_; focus omega) | (with_reducible refine zok_f ?_ ?_; focus omega)))
      exact zok_sr (out (Or.inl (by omega)))
    · rw [hT.2.2.1 x hx.1 (by omega)]
      have hcr := zScc_r (s := s) (x := x) (zWords s).toNat
      (repeat (first | (with_reducible refine zok_g ?_ ?_; focus omega) | with_reducible refine zok_j ?_ | (with_reducible refine zok_t ?_ ?_; focus omega) | (with_reducible refine zok_f ?_ ?_; focus omega)))
      refine zok_i (fun d => zok_sr (out (Or.inr d))) (fun d => zok_sl ⟨⟨⟨by show 0 ≤ x + 1; omega, by show x + 1 ≤ 60; omega⟩, ⟨by show 0 ≤ rest - _; omega, by show rest - _ ≤ i; omega⟩, ?_⟩, by show (60 - (x + 1)).toNat < (60 - x).toNat; omega⟩)
      show _ = zRkd s (61 - (x + 1)).toNat (x + 1) (rest - zScc s x (zWords s).toNat)
      have e2 := (zSk_i (s := s) (x := x) hr.1 (zWords s).toNat).2 d
      rw [e, show (61 - x).toNat = (61 - (x + 1)).toNat + 1 by omega, zRkd_s, e2, zSk_n]
  · rw [if_neg c]
    by_cases c1 : i < 0
    · (repeat (first | (with_reducible refine zok_g ?_ ?_; focus omega) | with_reducible refine zok_j ?_ | (with_reducible refine zok_t ?_ ?_; focus omega) | (with_reducible refine zok_f ?_ ?_; focus omega)))
      exact zok_s rfl
    · (repeat (first | (with_reducible refine zok_g ?_ ?_; focus omega) | with_reducible refine zok_j ?_ | (with_reducible refine zok_t ?_ ?_; focus omega) | (with_reducible refine zok_f ?_ ?_; focus omega)))
      exact zok_s rfl
theorem s_ranked (h : zRR σ m) {i : Int} (hi : iR i) : zOk (fX7_ranked σ i) (fun t => zOk (fX8_ranked m i) (fun u => zRR t.1 u.1 ∧ t.2 = u.2 ∧ iR t.2)) := by
  unfold fX7_ranked fX8_ranked
  have hw := zWords_r h.W
  (repeat (first | (with_reducible refine zok_g ?_ ?_; focus omega) | with_reducible refine zok_j ?_ | (with_reducible refine zok_t ?_ ?_; focus omega) | (with_reducible refine zok_f ?_ ?_; focus omega)))
  refine zok_b (x_searched h) (fun ρ hρ => ?_)
  refine zok_e (c_wordOfRank h.W hρ.2.2.1 hi) (zok_s ?_)
  (repeat (first | (with_reducible refine zok_g ?_ ?_; focus omega) | with_reducible refine zok_j ?_ | (with_reducible refine zok_t ?_ ?_; focus omega) | (with_reducible refine zok_f ?_ ?_; focus omega)))
  refine zok_e (m_words (m := zPu m 0 0) (s := m.2 2) rfl h.W) ?_
  (repeat (first | (with_reducible refine zok_g ?_ ?_; focus omega) | with_reducible refine zok_j ?_ | (with_reducible refine zok_t ?_ ?_; focus omega) | (with_reducible refine zok_f ?_ ?_; focus omega)))
  refine zok_e (m_isIn ⟨by omega, by omega⟩ (by decide) ⟨by omega, by omega⟩) ?_
  by_cases c : 0 ≤ i ∧ i < zWords (m.2 2)
  · refine zok_t (decide_eq_true (by omega)) ?_
    rw [if_pos c]
    refine zok_b (m_laysScores (m := zPu m 0 0) (s := m.2 2) rfl h.W) (fun t ht => ?_)
    have ts : t.2 2 = m.2 2 := ht.1.2 2 (by decide)
    have hR := zRR_x hρ.2.2.2.2.2.2 ht.1 (by decide) (by decide)
    have hrr := zRkd_r h.W 61 0 i c.1
    have w2 := h.W.2.2.1
    refine zok_L (I := fun (a : Int × Int) => (0 ≤ a.2 ∧ a.2 ≤ 61) ∧ (0 ≤ a.1 ∧ a.1 ≤ i) ∧ zRkd (m.2 2) 61 0 i = zRkd (m.2 2) (61 - a.2).toNat a.2 a.1) (μ := fun a => (61 - a.2).toNat) ⟨⟨Int.le_refl 0, by show (0 : Int) ≤ 61; omega⟩, ⟨c.1, Int.le_refl _⟩, rfl⟩ (by show (61 - 0 : Int).toNat < 100000; omega) ?_
    rintro ⟨rest, x⟩ ⟨hx, hr, e⟩
    dsimp only at hx hr e ⊢
    by_cases c60 : 60 < x
    · (repeat (first | (with_reducible refine zok_g ?_ ?_; focus omega) | with_reducible refine zok_j ?_ | (with_reducible refine zok_t ?_ ?_; focus omega) | (with_reducible refine zok_f ?_ ?_; focus omega)))
      refine zok_sr (zok_s ⟨hR, ?_, ⟨by omega, by omega⟩⟩)
      rw [e, show (61 - x).toNat = 0 by omega]
      rfl
    · (repeat (first | (with_reducible refine zok_g ?_ ?_; focus omega) | with_reducible refine zok_j ?_ | (with_reducible refine zok_t ?_ ?_; focus omega) | (with_reducible refine zok_f ?_ ?_; focus omega)))
      rw [show (61 - x).toNat = (61 - (x + 1)).toNat + 1 by omega, zRkd_s (k := (61 - (x + 1)).toNat)] at e
      refine zok_F (mk := fun a i => (a, i)) (zWords (m.2 2)) (fun w a => (0 ≤ a ∧ a ≤ rest) ∧ zSk (m.2 2) x rest w.toNat = (a, -1)) rfl (by omega) ⟨⟨hr.1, Int.le_refl _⟩, rfl⟩ (fun w a hw0 hw1 hI => ?_) (fun w a hw0 hw1 hw2 hw3 hI => ?_)
      · refine zok_e (m_words ts h.W) ?_
        dsimp only
        have hF := zFb_r h.W (m := m.2 2 2) (b := w) (by omega) (Int.le_refl _)
        have eS := zSk_s (s := m.2 2) (x := x) (left := rest) hw0
        rw [hI.2, zSkf_e, zSk_n] at eS
        rw [ht.2 w hw0 hw1]
        (repeat (first | (with_reducible refine zok_g ?_ ?_; focus omega) | with_reducible refine zok_j ?_ | (with_reducible refine zok_t ?_ ?_; focus omega) | (with_reducible refine zok_f ?_ ?_; focus omega)))
        refine zok_i (fun c1 => ?_) (fun c1 => zok_sl ⟨_, rfl, hI.1, ?_⟩)
        · rw [if_pos c1] at eS
          (repeat (first | (with_reducible refine zok_g ?_ ?_; focus omega) | with_reducible refine zok_j ?_ | (with_reducible refine zok_t ?_ ?_; focus omega) | (with_reducible refine zok_f ?_ ?_; focus omega)))
          refine zok_i (fun c2 => zok_sr (zok_sr (zok_s ⟨hR, ?_, ⟨by omega, by omega⟩⟩))) (fun c2 => zok_sl ⟨_, rfl, ⟨by omega, by omega⟩, ?_⟩)
          · rw [if_pos c2] at eS
            have hk := zSk_keep (s := m.2 2) (x := x) (left := rest) (k := (w + 1).toNat) (by rw [eS]; show w ≠ -1; omega) (zWords (m.2 2)).toNat (by omega)
            rw [hk, eS, if_pos (by show w ≠ -1; omega)] at e
            exact e
          · rw [if_neg c2] at eS
            exact eS
        · rw [if_neg c1] at eS
          exact eS
      · refine zok_e (m_words ts h.W) ?_
        dsimp only
        (repeat (first | (with_reducible refine zok_g ?_ ?_; focus omega) | with_reducible refine zok_j ?_ | (with_reducible refine zok_t ?_ ?_; focus omega) | (with_reducible refine zok_f ?_ ?_; focus omega)))
        have := hw2 (by omega)
        subst this
        rw [hI.2, zSk_n] at e
        exact zok_sr (zok_sl ⟨⟨⟨by show 0 ≤ x + 1; omega, by show x + 1 ≤ 61; omega⟩, ⟨hI.1.1, by show a ≤ i; omega⟩, e⟩, by show (61 - (x + 1)).toNat < (61 - x).toNat; omega⟩)
  · refine zok_f (fun z => c (by have := of_decide_eq_true z; omega)) ?_
    rw [if_neg c]
    exact zok_s ⟨zRR_0 hρ.2.2.2.2.2.2, rfl, (show iR (-1) by decide)⟩
end ZRD
