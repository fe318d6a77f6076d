/-! THE SEARCH: least numbers -/
def zMn (n : Int) (P : Int → Prop) (d : Int → Int) (v : Int) : Prop := v ≤ n ∧ (∀ i, P i → v ≤ d i) ∧ (v = n ∨ ∃ i, P i ∧ v = d i)
theorem zMn_u {n v v' : Int} {P : Int → Prop} {d : Int → Int} (h : zMn n P d v) (h' : zMn n P d v') : v = v' := by
  have a : v ≤ v' := by
    rcases h'.2.2 with e | ⟨i, hi, e⟩
    · rw [e]; exact h.1
    · rw [e]; exact h.2.1 i hi
  have b : v' ≤ v := by
    rcases h.2.2 with e | ⟨i, hi, e⟩
    · rw [e]; exact h'.1
    · rw [e]; exact h'.2.1 i hi
  omega
theorem zMn_e {n v : Int} {P P' : Int → Prop} {d d' : Int → Int} (h : zMn n P d v) (e : ∀ i, P i ↔ P' i) (e2 : ∀ i, P i → d i = d' i) : zMn n P' d' v := by
  refine ⟨h.1, fun i hi => ?_, ?_⟩
  · rw [← e2 i ((e i).mpr hi)]; exact h.2.1 i ((e i).mpr hi)
  · rcases h.2.2 with h | ⟨i, hi, h⟩
    · exact Or.inl h
    · exact Or.inr ⟨i, (e i).mp hi, by rw [← e2 i hi]; exact h⟩
section ZSH
variable {s : Int → Int}
theorem zNr_min (hW : zWf s) {r m : Int} {u : Int → Int} (h0 : 0 ≤ r) (h1 : r < s 0) (hm : 0 ≤ m) : zMn m (fun i => zPlP s r i) (fun i => zDf s r i u m) (zNr s r u m) := by
  have w2 := hW.2.2.1
  obtain ⟨⟨a1, a2⟩, _⟩ := hW.row h0 h1
  have key := zFd_I (f := fun i a => if zPl s r i = true then zMin a (zDf s r i u m) else a) (a := m) (fun k v => zMn m (fun i => zPlP s r i ∧ i < k) (fun i => zDf s r i u m) v) ⟨Int.le_refl m, fun i hi => by have := hi.1.2.1; have := hi.2; omega, Or.inl rfl⟩ (zf s r 0).toNat (fun k v hk _ hv => by
    show zMn m (fun i => zPlP s r i ∧ i < k + 1) (fun i => zDf s r i u m) (if zPl s r k = true then zMin v (zDf s r k u m) else v)
    rcases zPl_c (s := s) (r := r) (i := k) with ⟨hp, hP⟩ | ⟨hp, hP⟩
    · rw [if_pos hp]
      have hmin : zMin v (zDf s r k u m) ≤ v ∧ zMin v (zDf s r k u m) ≤ zDf s r k u m ∧ (zMin v (zDf s r k u m) = v ∨ zMin v (zDf s r k u m) = zDf s r k u m) := by
        unfold zMin
        split <;> omega
      generalize zMin v (zDf s r k u m) = x at hmin
      have := hv.1
      refine ⟨by omega, fun i hi => ?_, ?_⟩
      · by_cases e : i = k
        · rw [e]; exact hmin.2.1
        · have := hv.2.1 i ⟨hi.1, by have := hi.2; omega⟩
          have h2 : v ≤ zDf s r i u m := this
          show x ≤ zDf s r i u m
          omega
      · rcases hmin.2.2 with e | e
        · rcases hv.2.2 with e2 | ⟨i, hi, e2⟩
          · exact Or.inl (e.trans e2)
          · exact Or.inr ⟨i, ⟨hi.1, by have := hi.2; omega⟩, e.trans e2⟩
        · exact Or.inr ⟨k, ⟨hP, by omega⟩, e⟩
    · rw [if_neg (by rw [hp]; decide)]
      refine zMn_e hv (fun i => ⟨fun h => ⟨h.1, by have := h.2; omega⟩, fun h => ⟨h.1, ?_⟩⟩) (fun _ _ => rfl)
      have h2 := h.2
      by_cases e : i = k
      · rw [e] at h; exact absurd h.1 hP
      · omega)
  refine zMn_e key (fun i => ⟨fun h => h.1, fun h => ⟨h, ?_⟩⟩) (fun _ _ => rfl)
  have := h.2.2.1
  omega
/-- letter j of a beginning of m letters -/
def zDb (s : Int → Int) (m b j : Int) : Int := b / zPw (s 1) (m - 1 - j) % s 1
theorem zDb_g {w j : Int} : zDg s w j = zDb s (s 2) w j := rfl
theorem zDb_r (hW : zWf s) {m b j : Int} : 0 ≤ zDb s m b j ∧ zDb s m b j < s 1 := by
  have := hW.2.1
  exact ⟨Int.emod_nonneg _ (by omega), Int.emod_lt_of_pos _ (by omega)⟩
/-- a beginning goes on with a letter -/
theorem zDb_on (hW : zWf s) {m b x j : Int} (hb : 0 ≤ b) (hx : 0 ≤ x ∧ x < s 1) (hj : 0 ≤ j) (hj2 : j ≤ m) : zDb s (m + 1) (b * s 1 + x) j = if j = m then x else zDb s m b j := by
  have hL := hW.2.1
  unfold zDb
  by_cases e : j = m
  · subst e
    rw [if_pos rfl, show j + 1 - 1 - j = 0 by omega, zPw_0, Int.ediv_one, Int.add_comm, Int.add_mul_emod_self_right]
    exact Int.emod_eq_of_lt hx.1 hx.2
  · rw [if_neg e, show m + 1 - 1 - j = (m - 1 - j) + 1 by omega, zPw_s (by omega), Int.mul_comm (zPw _ _), ← Int.ediv_ediv_of_nonneg (by omega)]
    have : (b * s 1 + x) / s 1 = b := by
      rw [Int.add_comm, Int.add_mul_ediv_right _ _ (by omega), Int.ediv_eq_zero_of_lt hx.1 hx.2]
      omega
    rw [this]
/-- a word in three parts: what stands ahead of a letter, the letter, what stands behind it -/
theorem zDb_3 (hW : zWf s) {m a x c k j : Int} (ha : 0 ≤ a) (hx : 0 ≤ x ∧ x < s 1) (hk : 0 ≤ k) (hc : 0 ≤ c ∧ c < zPw (s 1) k) (hj : 0 ≤ j) (hj2 : j < m) : zDb s m ((a * s 1 + x) * zPw (s 1) k + c) j = if j = m - 1 - k then x else if j < m - 1 - k then a / zPw (s 1) (m - 2 - k - j) % s 1 else c / zPw (s 1) (m - 1 - j) % s 1 := by
  have hL := hW.2.1
  have pk := zPw_pos (b := s 1) (by omega) k
  have hq : ((a * s 1 + x) * zPw (s 1) k + c) / zPw (s 1) k = a * s 1 + x := by
    rw [Int.add_comm, Int.add_mul_ediv_right _ _ (by omega), Int.ediv_eq_zero_of_lt hc.1 hc.2, Int.zero_add]
  have hax : (a * s 1 + x) / s 1 = a := by
    rw [Int.add_comm, Int.add_mul_ediv_right _ _ (by omega), Int.ediv_eq_zero_of_lt hx.1 hx.2, Int.zero_add]
  unfold zDb
  by_cases e : j = m - 1 - k
  · rw [if_pos e, show m - 1 - j = k by omega, hq, Int.add_comm, Int.add_mul_emod_self_right]
    exact Int.emod_eq_of_lt hx.1 hx.2
  · rw [if_neg e]
    by_cases l : j < m - 1 - k
    · rw [if_pos l, show m - 1 - j = k + ((m - 2 - k - j) + 1) by omega, zPw_add hk (by omega), ← Int.ediv_ediv_of_nonneg (by omega), hq, zPw_s (by omega), Int.mul_comm (zPw _ _), ← Int.ediv_ediv_of_nonneg (by omega), hax]
    · rw [if_neg l]
      have e2 : zPw (s 1) k = zPw (s 1) (k - 1 - (m - 1 - j)) * s 1 * zPw (s 1) (m - 1 - j) := by
        rw [← zPw_s (by omega), ← zPw_add (by omega) (by omega), show k - 1 - (m - 1 - j) + 1 + (m - 1 - j) = k by omega]
      have pj := zPw_pos (b := s 1) (by omega) (m - 1 - j)
      rw [e2, ← Int.mul_assoc, Int.add_comm, Int.add_mul_ediv_right _ _ (by omega), ← Int.mul_assoc, Int.add_mul_emod_self_right]
/-- every word is such -/
theorem zIn3 (hW : zWf s) {w k : Int} (hk : 0 ≤ k) (hw : 0 ≤ w) : ∃ a x c, w = (a * s 1 + x) * zPw (s 1) k + c ∧ 0 ≤ a ∧ (0 ≤ x ∧ x < s 1) ∧ (0 ≤ c ∧ c < zPw (s 1) k) := by
  have hL := hW.2.1
  have pk := zPw_pos (b := s 1) (by omega) k
  have h1 : 0 ≤ w / zPw (s 1) k := Int.ediv_nonneg hw (by omega)
  refine ⟨w / zPw (s 1) k / s 1, w / zPw (s 1) k % s 1, w % zPw (s 1) k, ?_, Int.ediv_nonneg h1 (by omega), ⟨Int.emod_nonneg _ (by omega), Int.emod_lt_of_pos _ (by omega)⟩, ⟨Int.emod_nonneg _ (by omega), Int.emod_lt_of_pos _ (by omega)⟩⟩
  have e1 := Int.ediv_mul_add_emod (w / zPw (s 1) k) (s 1)
  have e2 := Int.ediv_mul_add_emod w (zPw (s 1) k)
  rw [e1, e2]
/-- what a row's distances are when the last k letters were looked at -/
def zNk1 (s : Int → Int) (r k w v : Int) : Prop := zMn (s 2) (fun i => zPlP s r i ∧ ∀ j, 0 ≤ j → j < s 2 - k → zl s r (i + j) = zDb s (s 2) w j) (fun i => zDf s r i (zDb s (s 2) w) (s 2)) v
theorem zDn_all {u v : Int → Int} {n : Nat} (h : ∀ j, 0 ≤ j → j < (n : Int) → u j = v j) : zDn u v n = 0 := by
  have key := zFd_I (f := fun j a => a + (if u j = v j then 0 else 1)) (a := (0 : Int)) (fun _ x => x = 0) rfl n (fun i x a b hx => by
    show x + (if u i = v i then 0 else 1) = 0
    rw [if_pos (h i a b), hx]
    rfl)
  unfold zDn
  rw [Int.toNat_natCast]
  exact key
/-- two letters rows that differ from a word at one place alone -/
theorem zDn_one {u v v' : Int → Int} {q : Int} (hq : 0 ≤ q) (h : ∀ j, j ≠ q → v j = v' j) (n : Nat) : zDn u v n + (if q < n ∧ u q ≠ v' q then 1 else 0) = zDn u v' n + (if q < n ∧ u q ≠ v q then 1 else 0) := by
  induction n with
  | zero =>
    have e : zDn u v ((0 : Nat) : Int) = 0 := rfl
    have e' : zDn u v' ((0 : Nat) : Int) = 0 := rfl
    rw [e, e', if_neg (fun z => by have := z.1; omega), if_neg (fun z => by have := z.1; omega)]
  | succ n ih =>
    have e : ((n + 1 : Nat) : Int) = (n : Int) + 1 := by omega
    rw [e, zDn_s (by omega), zDn_s (by omega)]
    have z1 : ∀ (p : Prop) [Decidable p] (k : Int), ¬ q < k → (if q < k ∧ p then (1 : Int) else 0) = 0 := fun p _ k hk => if_neg (fun z => hk z.1)
    have z2 : ∀ (k x : Int), q < k → (if q < k ∧ u q ≠ x then (1 : Int) else 0) = if u q = x then 0 else 1 := fun k x hk => by
      by_cases e : u q = x
      · have e2 : ¬ (q < k ∧ u q ≠ x) := fun z => z.2 e
        rw [if_neg e2, if_pos e]
      · have e2 : q < k ∧ u q ≠ x := ⟨hk, e⟩
        rw [if_pos e2, if_neg e]
    by_cases hn : (n : Int) = q
    · rw [z1 _ _ (by omega), z1 _ _ (by omega)] at ih
      rw [z2 _ _ (by omega), z2 _ _ (by omega), hn]
      rw [hn] at ih
      omega
    · have hv : v n = v' n := h n hn
      rw [hv]
      by_cases hl : q < (n : Int)
      · rw [z2 _ _ (by omega), z2 _ _ (by omega)] at ih
        rw [z2 _ _ (by omega), z2 _ _ (by omega)]
        omega
      · rw [z1 _ _ (by omega), z1 _ _ (by omega)] at ih
        rw [z1 _ _ (by omega), z1 _ _ (by omega)]
        omega
end ZSH
