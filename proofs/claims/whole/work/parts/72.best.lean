/-! THE SEARCH FINDS THE LEAST SCORE -/
section ZBB
variable {s : Int → Int}
theorem zFd_le {f g : Int → Int → Int} {a : Int} (n : Nat) (h : ∀ (i x y : Int), 0 ≤ i → i < n → x ≤ y → f i x ≤ g i y) : zFd f n a ≤ zFd g n a := by
  induction n with
  | zero => exact Int.le_refl _
  | succ n ih => exact h n _ _ (by omega) (by omega) (ih (fun i x y h0 h1 => h i x y h0 (by omega)))
theorem zNr_on (hW : zWk s) {r m b x : Int} (h0 : 0 ≤ r) (h1 : r < s 0) (hm : 1 ≤ m) (hm2 : m < s 2) (hb : 0 ≤ b) (hx : 0 ≤ x ∧ x < s 1) : zNr s r (zDb s m b) m ≤ zNr s r (zDb s (m + 1) (b * s 1 + x)) (m + 1) := by
  have hL := hW.2.1
  have e := kzNr_up hW h0 h1 hm hm2 hb (f := fun y => zNr s r (zDb s (m + 1) y) (m + 1)) (fun x _ _ => by show zNr s r (zDb s (m + 1) (b * s 1 + x * 1)) (m + 1) = _; rw [Int.mul_one])
  have h2 := (zMx_p (old := fun y => zNr s r (zDb s (m + 1) y) (m + 1)) (L := s 1) (step := 1) (b := b * s 1) (by omega)).1 x hx.1 hx.2
  rw [← e]
  have h3 : zMx (fun y => zNr s r (zDb s (m + 1) y) (m + 1)) (s 1) 1 (b * s 1) ≤ zNr s r (zDb s (m + 1) (b * s 1 + x * 1)) (m + 1) := h2
  rw [Int.mul_one] at h3
  unfold zMin
  split <;> omega
theorem zFb_on (hW : zWk s) {m b x : Int} (hm : 1 ≤ m) (hm2 : m < s 2) (hb : 0 ≤ b) (hx : 0 ≤ x ∧ x < s 1) : zFb s m b ≤ zFb s (m + 1) (b * s 1 + x) := by
  unfold zFb zBd
  refine zFd_le _ (fun r a c hr hr2 hac => ?_)
  have w0 := hW.1
  have h := zNr_on hW hr (show r < s 0 by omega) hm hm2 hb hx
  show (if zf s r 2 = 1 then a else a + _) ≤ (if zf s r 2 = 1 then c else c + _)
  split <;> omega
theorem zFb_le (hW : zWk s) : ∀ (k : Nat) (m b w : Int), 1 ≤ m → m + k = s 2 → 0 ≤ w → w / zPw (s 1) k = b → zFb s m b ≤ zFb s (s 2) w := by
  have hL := hW.2.1
  intro k
  induction k with
  | zero =>
    intro m b w h1 h2 h3 h4
    rw [show ((0 : Nat) : Int) = 0 by rfl, zPw_0, Int.ediv_one] at h4
    rw [h4, show m = s 2 by omega]
    exact Int.le_refl _
  | succ k ih =>
    intro m b w h1 h2 h3 h4
    have p := zPw_pos (b := s 1) (by omega) k
    have e : w / zPw (s 1) k / s 1 = b := by
      rw [Int.ediv_ediv_of_nonneg (by omega), ← zPw_s (by omega)]
      rw [show ((k + 1 : Nat) : Int) = (k : Int) + 1 by omega] at h4
      exact h4
    have hw0 : 0 ≤ w / zPw (s 1) k := Int.ediv_nonneg h3 (by omega)
    have hb : 0 ≤ b := by rw [← e]; exact Int.ediv_nonneg hw0 (by omega)
    have e2 := Int.ediv_mul_add_emod (w / zPw (s 1) k) (s 1)
    rw [e] at e2
    have h5 := ih (m + 1) (w / zPw (s 1) k) w (by omega) (by omega) h3 rfl
    have h6 := zFb_on hW h1 (show m < s 2 by omega) hb (x := w / zPw (s 1) k % s 1) ⟨Int.emod_nonneg _ (by omega), Int.emod_lt_of_pos _ (by omega)⟩
    rw [e2] at h6
    omega
/-- q is best over what was best before and the words of a set -/
def zBq (s : Int → Int) (q q' : zQ) (S : Int → Prop) : Prop := (q.1 ≠ -1 → q'.1 ≠ -1 ∧ q'.2.1 ≤ q.2.1) ∧ (∀ w, 0 ≤ w → w < zWords s → S w → q'.1 ≠ -1 ∧ q'.2.1 ≤ zFb s (s 2) w) ∧ ((q'.1 = q.1 ∧ q'.2.1 = q.2.1) ∨ ∃ w, (0 ≤ w ∧ w < zWords s) ∧ q'.2.1 = zFb s (s 2) w)
theorem zAk_b (hW : zWk s) : ∀ (d : Nat) (m b : Int) (q : zQ), 1 ≤ m → m ≤ s 2 → s 2 < m + d → 0 ≤ b → b < zPw (s 1) m → zBq s q (zAk (zFb s) (s 2) (s 1) d m b q) (fun w => w / zPw (s 1) (s 2 - m) = b) := by
  have hL := hW.2.1
  intro d
  induction d with
  | zero => intro m b q _ _ _ _ _; omega
  | succ d ih =>
    intro m b q h1 h2 hd h3 h4
    rw [zAk_s]
    by_cases c : q.1 ≠ -1 ∧ q.2.1 ≤ zFb s m b
    · rw [if_pos c]
      refine ⟨fun _ => ⟨c.1, Int.le_refl _⟩, fun w w0 w1 hw => ⟨c.1, ?_⟩, Or.inl ⟨rfl, rfl⟩⟩
      have h := zFb_le hW (s 2 - m).toNat m b w h1 (by omega) w0 (by rw [show (((s 2 - m).toNat : Nat) : Int) = s 2 - m by omega]; exact hw)
      have := c.2
      show q.2.1 ≤ _
      omega
    · rw [if_neg c]
      by_cases c2 : s 2 ≤ m
      · rw [if_pos c2]
        have e : m = s 2 := by omega
        subst e
        have hpw : zPw (s 1) (s 2) = zWords s := rfl
        refine ⟨fun hq => ⟨by show b ≠ -1; omega, by show zFb s (s 2) b ≤ q.2.1; by_cases hh : q.2.1 ≤ zFb s (s 2) b; exact absurd ⟨hq, hh⟩ c; omega⟩, fun w w0 w1 hw => ⟨by show b ≠ -1; omega, ?_⟩, Or.inr ⟨b, ⟨h3, by omega⟩, rfl⟩⟩
        rw [show s 2 - s 2 = 0 by omega, zPw_0, Int.ediv_one] at hw
        rw [hw]
        exact Int.le_refl _
      · rw [if_neg c2]
        have hpl := zPw_s (b := s 1) (k := m) (by omega)
        have h6 := Int.mul_le_mul_of_nonneg_right (show b + 1 ≤ zPw (s 1) m by omega) (show 0 ≤ s 1 by omega)
        rw [Int.add_mul, Int.one_mul] at h6
        have h7 : 0 ≤ b * s 1 := Int.mul_nonneg h3 (by omega)
        have key := zFd_I (f := fun x q => zAk (zFb s) (s 2) (s 1) d (m + 1) (b * s 1 + x) q) (a := (q.1, q.2.1, q.2.2.1 + 1, q.2.2.2)) (fun x q' => zBq s q q' (fun w => ∃ x', 0 ≤ x' ∧ x' < x ∧ w / zPw (s 1) (s 2 - (m + 1)) = b * s 1 + x')) ⟨fun h => ⟨h, Int.le_refl _⟩, fun w _ _ ⟨x', x0, x1, _⟩ => by omega, Or.inl ⟨rfl, rfl⟩⟩ (s 1).toNat (fun x q' hx hx2 hq' => by
          have hi := ih (m + 1) (b * s 1 + x) q' (by omega) (by omega) (by omega) (by omega) (by omega)
          refine ⟨fun h => ?_, fun w w0 w1 ⟨x', x0, x1, hw⟩ => ?_, ?_⟩
          · have a := hq'.1 h
            have b := hi.1 a.1
            exact ⟨b.1, Int.le_trans b.2 a.2⟩
          · by_cases e : x' = x
            · subst e
              exact hi.2.1 w w0 w1 hw
            · have a := hq'.2.1 w w0 w1 ⟨x', x0, by omega, hw⟩
              have b := hi.1 a.1
              exact ⟨b.1, Int.le_trans b.2 a.2⟩
          · rcases hi.2.2 with e | e
            · rcases hq'.2.2 with e2 | ⟨w, hw, e2⟩
              · exact Or.inl ⟨e.1.trans e2.1, e.2.trans e2.2⟩
              · exact Or.inr ⟨w, hw, e.2.trans e2⟩
            · exact Or.inr e)
        refine ⟨key.1, fun w w0 w1 hw => key.2.1 w w0 w1 ⟨w / zPw (s 1) (s 2 - (m + 1)) % s 1, Int.emod_nonneg _ (by omega), ?_, ?_⟩, key.2.2⟩
        · have := Int.emod_lt_of_pos (w / zPw (s 1) (s 2 - (m + 1))) (show 0 < s 1 by omega)
          omega
        · have p := zPw_pos (b := s 1) (by omega) (s 2 - (m + 1))
          have e : w / zPw (s 1) (s 2 - (m + 1)) / s 1 = b := by
            rw [Int.ediv_ediv_of_nonneg (by omega), ← zPw_s (by omega), show s 2 - (m + 1) + 1 = s 2 - m by omega]
            exact hw
          have e2 := Int.ediv_mul_add_emod (w / zPw (s 1) (s 2 - (m + 1))) (s 1)
          rw [e] at e2
          exact e2.symm
/-- the best score: not above any word's, and some word's -/
theorem zSr_min (hW : zWk s) : (zSr s).1 ≠ -1 ∧ (∀ w, 0 ≤ w → w < zWords s → (zSr s).2.1 ≤ zFb s (s 2) w) ∧ ∃ w, (0 ≤ w ∧ w < zWords s) ∧ (zSr s).2.1 = zFb s (s 2) w := by
  have hL := hW.2.1
  have w2 := hW.2.2.1
  have hw := kzWords_r hW
  have e1 : zPw (s 1) 1 = s 1 := by
    have := zPw_s (b := s 1) (k := 0) (by omega)
    rw [zPw_0, Int.one_mul] at this
    exact this
  have key := zFd_I (f := fun x q => zAk (zFb s) (s 2) (s 1) 6 1 x q) (a := (-1, 0, 0, 0)) (fun x q' => zBq s (-1, 0, 0, 0) q' (fun w => w / zPw (s 1) (s 2 - 1) < x)) ⟨fun h => absurd rfl h, fun w w0 _ h => by
    have p := zPw_pos (b := s 1) (by omega) (s 2 - 1)
    have h1 : 0 ≤ w / zPw (s 1) (s 2 - 1) := Int.ediv_nonneg w0 (by omega)
    have h2 : w / zPw (s 1) (s 2 - 1) < 0 := h
    omega, Or.inl ⟨rfl, rfl⟩⟩ (s 1).toNat (fun x q' hx hx2 hq' => by
      have hi := zAk_b hW 6 1 x q' (by omega) (by omega) (by omega) hx (by omega)
      refine ⟨fun h => absurd rfl h, fun w w0 w1 h => ?_, ?_⟩
      · by_cases e : w / zPw (s 1) (s 2 - 1) = x
        · exact hi.2.1 w w0 w1 e
        · have h2 : w / zPw (s 1) (s 2 - 1) < x + 1 := h
          have a := hq'.2.1 w w0 w1 (by show w / zPw (s 1) (s 2 - 1) < x; omega)
          have b := hi.1 a.1
          exact ⟨b.1, Int.le_trans b.2 a.2⟩
      · rcases hi.2.2 with e | e
        · rcases hq'.2.2 with e2 | ⟨w, hw, e2⟩
          · exact Or.inl ⟨e.1.trans e2.1, e.2.trans e2.2⟩
          · exact Or.inr ⟨w, hw, e.2.trans e2⟩
        · exact Or.inr e)
  have hall : ∀ w, 0 ≤ w → w < zWords s → (zSr s).1 ≠ -1 ∧ (zSr s).2.1 ≤ zFb s (s 2) w := fun w w0 w1 => key.2.1 w w0 w1 (by
    show w / zPw (s 1) (s 2 - 1) < (((s 1).toNat : Nat) : Int)
    rw [show (((s 1).toNat : Nat) : Int) = s 1 by omega]
    have e : zWords s = s 1 * zPw (s 1) (s 2 - 1) := by
      have := zPw_s (b := s 1) (k := s 2 - 1) (by omega)
      rw [show s 2 - 1 + 1 = s 2 by omega] at this
      rw [Int.mul_comm]
      exact this
    have p := zPw_pos (b := s 1) (by omega) (s 2 - 1)
    exact Int.ediv_lt_of_lt_mul (by omega) (by omega))
  refine ⟨(hall 0 (by omega) (by omega)).1, fun w w0 w1 => (hall w w0 w1).2, ?_⟩
  rcases key.2.2 with e | e
  · exact absurd e.1 (hall 0 (by omega) (by omega)).1
  · exact e
end ZBB
