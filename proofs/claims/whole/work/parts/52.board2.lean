section ZBE
variable {V : CV} {s : Int → Int}
/-! words -/
theorem zEm {x a b : Int} (hx : 0 ≤ x) (ha : 0 < a) (hb : 0 < b) : x % (a * b) = x % a + a * (x / a % b) := by
  obtain ⟨x, rfl⟩ : ∃ k : Nat, x = k := ⟨x.toNat, by omega⟩
  obtain ⟨a, rfl⟩ : ∃ k : Nat, a = k := ⟨a.toNat, by omega⟩
  obtain ⟨b, rfl⟩ : ∃ k : Nat, b = k := ⟨b.toNat, by omega⟩
  rw [← Int.natCast_mul, ← Int.natCast_emod, ← Int.natCast_emod, ← Int.natCast_ediv, ← Int.natCast_emod, ← Int.natCast_mul, ← Int.natCast_add, Nat.mod_mul]
/-- letter i of word w -/
def zDg (s : Int → Int) (w i : Int) : Int := w / zPw (s 1) (s 2 - 1 - i) % s 1
theorem zDg_r (hW : zWf s) {w i : Int} : 0 ≤ zDg s w i ∧ zDg s w i < s 1 := by
  have := hW.2.1
  exact ⟨Int.emod_nonneg _ (by omega), Int.emod_lt_of_pos _ (by omega)⟩
/-- the number of a word of m letters -/
def zNb (s : Int → Int) (u : Int → Int) (m : Int) : Int := zFd (fun i a => a * s 1 + u i) m.toNat 0
theorem zNb_s {u : Int → Int} {m : Int} (h : 0 ≤ m) : zNb s u (m + 1) = zNb s u m * s 1 + u m := zFd_s h
theorem zNb_0 {u : Int → Int} : zNb s u 0 = 0 := rfl
theorem zNb_r (hW : zWf s) {u : Int → Int} (n : Nat) (hu : ∀ j, 0 ≤ j → j < n → 0 ≤ u j ∧ u j < s 1) : 0 ≤ zNb s u n ∧ zNb s u n < zPw (s 1) n := by
  have hL := hW.2.1
  induction n with
  | zero => exact ⟨Int.le_refl 0, by show (0 : Int) < zPw (s 1) 0; rw [zPw_0]; decide⟩
  | succ n ih =>
    have h := ih (fun j a b => hu j a (by omega))
    have e : ((n + 1 : Nat) : Int) = (n : Int) + 1 := by omega
    rw [e, zNb_s (by omega), zPw_s (by omega)]
    have h1 := hu n (by omega) (by omega)
    have h2 : 0 ≤ zNb s u n * s 1 := Int.mul_nonneg h.1 (by omega)
    have h3 : (zNb s u n + 1) * s 1 ≤ zPw (s 1) n * s 1 := Int.mul_le_mul_of_nonneg_right (by omega) (by omega)
    have h4 : (zNb s u n + 1) * s 1 = zNb s u n * s 1 + s 1 := by rw [Int.add_mul]; omega
    omega
theorem b_wordCount (hW : zWf s) (hR : zRB V s) : fX0_wordCount V = some (zWords s) := by
  apply zok_q
  unfold fX0_wordCount
  have w2 := hW.2.2.1
  refine zok_F (mk := fun a i => (a, i)) (s 2) (fun i a => a = zPw (s 1) i) rfl (by omega) zPw_0.symm (fun i a hi hi2 hI => ?_) (fun i a hi hi2 hi3 hi4 hI => ?_)
  · dsimp only
    rw [hR.2.1, hR.1]
    (repeat (first | (with_reducible refine zok_g ?_ ?_; focus omega) | with_reducible refine zok_j ?_ | (with_reducible refine zok_t ?_ ?_; focus omega) | (with_reducible refine zok_f ?_ ?_; focus omega)))
    exact zok_sl ⟨_, rfl, by rw [zPw_s hi, hI]⟩
  · dsimp only
    rw [hR.2.1]
    (repeat (first | (with_reducible refine zok_g ?_ ?_; focus omega) | with_reducible refine zok_j ?_ | (with_reducible refine zok_t ?_ ?_; focus omega) | (with_reducible refine zok_f ?_ ?_; focus omega)))
    refine zok_sr (zok_s ?_)
    rw [hI, hi3 (by omega)]
    rfl
theorem b_letterOf {c n i : Int} {u : Int → Int} (hc : zCd c n u) (hn : n ≤ 6) (hi : 0 ≤ i) (hi2 : i < n) : fX0_letterOf c i = some (u i) := by
  apply zok_q
  unfold fX0_letterOf
  have h1 := hc.1
  have h2 := hc.2.1
  have h3 : zP2 (2 * n) ≤ 4096 := zP2_le (show 2 * n ≤ 12 by omega)
  (repeat (first | (with_reducible refine zok_g ?_ ?_; focus omega) | with_reducible refine zok_j ?_ | (with_reducible refine zok_t ?_ ?_; focus omega) | (with_reducible refine zok_f ?_ ?_; focus omega)))
  exact zok_s (hc.2.2 i hi hi2)
theorem b_wordOf (hW : zWf s) (hR : zRB V s) {c : Int} {u : Int → Int} (hc : zCd c (s 2) u) : fX0_wordOf V c = some (zNb s u (s 2)) := by
  apply zok_q
  unfold fX0_wordOf
  have w2 := hW.2.2.1
  refine zok_F (mk := fun a i => (a, i)) (s 2) (fun i a => a = zNb s u i) rfl (by omega) rfl (fun i a hi hi2 hI => ?_) (fun i a hi hi2 hi3 hi4 hI => ?_)
  · dsimp only
    rw [hR.2.1, hR.1]
    (repeat (first | (with_reducible refine zok_g ?_ ?_; focus omega) | with_reducible refine zok_j ?_ | (with_reducible refine zok_t ?_ ?_; focus omega) | (with_reducible refine zok_f ?_ ?_; focus omega)))
    refine zok_e (b_letterOf hc (by omega) hi hi2) ?_
    exact zok_sl ⟨_, rfl, by rw [zNb_s hi, hI]⟩
  · dsimp only
    rw [hR.2.1]
    (repeat (first | (with_reducible refine zok_g ?_ ?_; focus omega) | with_reducible refine zok_j ?_ | (with_reducible refine zok_t ?_ ?_; focus omega) | (with_reducible refine zok_f ?_ ?_; focus omega)))
    refine zok_sr (zok_s ?_)
    rw [hI, hi3 (by omega)]
/-- the number of a word's letters is the word -/
theorem zNb_dg (hW : zWf s) {w : Int} (h0 : 0 ≤ w) (n : Nat) (hn : (n : Int) ≤ s 2) : zNb s (zDg s w) n = w / zPw (s 1) (s 2 - n) % zPw (s 1) n := by
  have hL := hW.2.1
  induction n with
  | zero =>
    show (0 : Int) = _ % zPw (s 1) 0
    rw [zPw_0]
    omega
  | succ n ih =>
    have e : ((n + 1 : Nat) : Int) = (n : Int) + 1 := by omega
    rw [e, zNb_s (by omega), ih (by omega)]
    have hq : zPw (s 1) (s 2 - n) = zPw (s 1) (s 2 - (n + 1)) * s 1 := by
      rw [show s 2 - (n : Int) = (s 2 - (n + 1)) + 1 by omega, zPw_s (by omega)]
    have p := zPw_pos (b := s 1) (by omega) (s 2 - (n + 1))
    have hd : zDg s w n = w / zPw (s 1) (s 2 - (n + 1)) % s 1 := by unfold zDg; rw [show s 2 - 1 - (n : Int) = s 2 - (n + 1) by omega]
    rw [hd, hq, ← Int.ediv_ediv_of_nonneg (by omega), zPw_s (by omega)]
    generalize hx : w / zPw (s 1) (s 2 - (n + 1)) = x
    have hx0 : 0 ≤ x := by rw [← hx]; exact Int.ediv_nonneg h0 (by omega)
    have p2 := zPw_pos (b := s 1) (by omega) n
    rw [Int.mul_comm (zPw (s 1) n) (s 1), zEm hx0 (by omega) (by omega), Int.mul_comm (s 1)]
    omega
theorem zNb_w (hW : zWf s) {w : Int} (h0 : 0 ≤ w) (h1 : w < zWords s) : zNb s (zDg s w) (s 2) = w := by
  have w2 := hW.2.2.1
  obtain ⟨n, hn⟩ : ∃ n : Nat, s 2 = n := ⟨(s 2).toNat, by omega⟩
  have h := zNb_dg hW h0 n (by omega)
  rw [hn]
  rw [hn] at h
  rw [h, show (n : Int) - n = 0 by omega, zPw_0, Int.ediv_one]
  unfold zWords at h1
  rw [hn] at h1
  exact Int.emod_eq_of_lt h0 h1
theorem zNb_ext {u v : Int → Int} {m : Int} (h : ∀ j, 0 ≤ j → j < m → u j = v j) : zNb s u m = zNb s v m := by
  unfold zNb
  refine zFd_eq _ (fun i x h0 h1 => ?_)
  show x * s 1 + u i = x * s 1 + v i
  rw [h i h0 (by omega)]
/-- the letters of a number -/
theorem zDg_nb (hW : zWf s) {u : Int → Int} (hu : ∀ j, 0 ≤ j → j < s 2 → 0 ≤ u j ∧ u j < s 1) {i : Int} (h0 : 0 ≤ i) (h1 : i < s 2) : zDg s (zNb s u (s 2)) i = u i := by
  have hL := hW.2.1
  have key : ∀ n : Nat, (n : Int) ≤ s 2 → ∀ i : Int, 0 ≤ i → i < n → zNb s u n / zPw (s 1) (n - 1 - i) % s 1 = u i := by
    intro n
    induction n with
    | zero => intro _ i _ _; omega
    | succ n ih =>
      intro hn i h0 h1
      have e : ((n + 1 : Nat) : Int) = (n : Int) + 1 := by omega
      rw [e, zNb_s (by omega)]
      have hun := hu n (by omega) (by omega)
      by_cases hi : i = n
      · subst hi
        rw [show (n : Int) + 1 - 1 - n = 0 by omega, zPw_0, Int.ediv_one, Int.add_comm, Int.add_mul_emod_self_right]
        exact Int.emod_eq_of_lt hun.1 hun.2
      · have h3 := ih (by omega) i h0 (by omega)
        rw [← h3, show (n : Int) + 1 - 1 - i = (n - 1 - i) + 1 by omega, zPw_s (by omega), Int.mul_comm (zPw (s 1) _) (s 1), ← Int.ediv_ediv_of_nonneg (by omega)]
        have : (zNb s u n * s 1 + u n) / s 1 = zNb s u n := by
          rw [Int.add_comm, Int.add_mul_ediv_right _ _ (by omega), Int.ediv_eq_zero_of_lt hun.1 hun.2]
          omega
        rw [this]
  have w2 := hW.2.2.1
  obtain ⟨n, hn⟩ : ∃ n : Nat, s 2 = n := ⟨(s 2).toNat, by omega⟩
  have := key n (by omega) i h0 (by omega)
  unfold zDg
  rw [hn]
  exact this
theorem b_codeOf (hW : zWf s) (hR : zRB V s) {w : Int} (h0 : 0 ≤ w) (h1 : w < zWords s) : zOk (fX0_codeOf V w) (fun c => zCd c (s 2) (zDg s w)) := by
  unfold fX0_codeOf
  have w2 := hW.2.2.1
  have hL := hW.2.1
  have hw := zWords_r hW
  rw [hR.1, hR.2.1]
  have hm : zMax 2 (s 1) = s 1 := by unfold zMax; split <;> omega
  rw [hm]
  (repeat (first | (with_reducible refine zok_g ?_ ?_; focus omega) | with_reducible refine zok_j ?_ | (with_reducible refine zok_t ?_ ?_; focus omega) | (with_reducible refine zok_f ?_ ?_; focus omega)))
  refine zok_L (I := fun t => -1 ≤ t.2.2 ∧ t.2.2 ≤ s 2 - 1 ∧ t.2.1 = w / zPw (s 1) (s 2 - 1 - t.2.2) ∧ ∃ c, t.1 = c * zP2 (2 * (t.2.2 + 1)) ∧ zCd c (s 2 - 1 - t.2.2) (fun j => zDg s w (j + (t.2.2 + 1)))) (μ := fun t => (t.2.2 + 1).toNat) ?_ ?_ ?_
  · refine ⟨by show -1 ≤ s 2 - 1; omega, Int.le_refl _, ?_, 0, by show (0 : Int) = 0 * _; omega, ?_⟩
    · show w = w / zPw (s 1) (s 2 - 1 - (s 2 - 1))
      rw [show s 2 - 1 - (s 2 - 1) = 0 by omega, zPw_0, Int.ediv_one]
    · show zCd 0 (s 2 - 1 - (s 2 - 1)) _
      rw [show s 2 - 1 - (s 2 - 1) = 0 by omega]
      exact zCd_0
  · show (s 2 - 1 + 1).toNat < 100000
    omega
  · rintro ⟨a, b, i⟩ ⟨hi0, hi1, hb, c, ha, hc⟩
    dsimp only at hi0 hi1 hb ha hc ⊢
    by_cases hi : i < 0
    · have hi' : i = -1 := by omega
      subst hi'
      (repeat (first | (with_reducible refine zok_g ?_ ?_; focus omega) | with_reducible refine zok_j ?_ | (with_reducible refine zok_t ?_ ?_; focus omega) | (with_reducible refine zok_f ?_ ?_; focus omega)))
      refine zok_sr (zok_s ?_)
      show zCd a (s 2) (zDg s w)
      rw [show (-1 : Int) + 1 = 0 by omega] at ha hc
      have e : zP2 (2 * 0) = 1 := rfl
      rw [e, Int.mul_one] at ha
      rw [ha]
      rw [show s 2 - 1 - (-1) = s 2 by omega] at hc
      exact hc.ext (fun j _ _ => by show zDg s w (j + 0) = _; rw [Int.add_zero])
    · have hp := zPw_pos (b := s 1) (by omega) (s 2 - 1 - i)
      have hb0 : 0 ≤ b := by rw [hb]; exact Int.ediv_nonneg h0 (by omega)
      have hb1 : b ≤ w := by rw [hb]; exact Int.ediv_le_self _ h0
      have hd : b % s 1 = zDg s w i := by rw [hb]; rfl
      have hdr := zDg_r hW (w := w) (i := i)
      have hq := zP2_pos (2 * i)
      have hq2 := zP2_pos (2 * (i + 1))
      have ha0 : 0 ≤ a := by rw [ha]; exact Int.mul_nonneg hc.1 (by omega)
      have hd0 : 0 ≤ b % s 1 * zP2 (2 * i) := Int.mul_nonneg (by omega) (by omega)
      (repeat (first | (with_reducible refine zok_g ?_ ?_; focus omega) | with_reducible refine zok_j ?_ | (with_reducible refine zok_t ?_ ?_; focus omega) | (with_reducible refine zok_f ?_ ?_; focus omega)))
      refine zok_sl ⟨⟨by show -1 ≤ i + -1; omega, by show i + -1 ≤ s 2 - 1; omega, ?_, 4 * c + b % s 1, ?_, ?_⟩, by show (i + -1 + 1).toNat < (i + 1).toNat; omega⟩
      · show b / s 1 = w / zPw (s 1) (s 2 - 1 - (i + -1))
        rw [show s 2 - 1 - (i + -1) = (s 2 - 1 - i) + 1 by omega, zPw_s (by omega), ← Int.ediv_ediv_of_nonneg (by omega), hb]
      · show zOr a (b % s 1 * zP2 (2 * i)) = (4 * c + b % s 1) * zP2 (2 * (i + -1 + 1))
        rw [show i + -1 + 1 = i by omega, ha, zP2_s2 (by omega), zOr_comm]
        have hlt : b % s 1 * zP2 (2 * i) < zP2 (2 * i + 2) := by
          rw [zP2_add (by omega) (by omega), Int.mul_comm]
          exact Int.mul_lt_mul_of_pos_left (by show b % s 1 < 4; omega) (by omega)
        have h4 : c * (4 * zP2 (2 * i)) = c * zP2 (2 * i + 2) := by
          rw [zP2_add (by omega) (by omega), show zP2 2 = 4 by rfl, Int.mul_comm 4]
        rw [h4, zOr_add (by omega) hd0 hlt hc.1, ← h4, Int.add_mul, Int.mul_assoc, Int.mul_left_comm c 4]
        omega
      · show zCd (4 * c + b % s 1) (s 2 - 1 - (i + -1)) (fun j => zDg s w (j + (i + -1 + 1)))
        rw [show s 2 - 1 - (i + -1) = (s 2 - 1 - i) + 1 by omega, show i + -1 + 1 = i by omega]
        refine zCd_cons (hc.ext (fun j _ _ => ?_)) (by omega) (by omega) ?_
        · show zDg s w (j + (i + 1)) = zDg s w (j + 1 + i)
          rw [show j + (i + 1) = j + 1 + i by omega]
        · show zDg s w (0 + i) = _
          rw [Int.zero_add, hd]
end ZBE
