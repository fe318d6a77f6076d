/-! PROFILES -/
section ZPF
variable {s : Int → Int}
def zCf (s : Int → Int) (but i x r a : Int) : Int := if r = but ∨ zf s r 1 = -1 then a else if zl s r (zf s r 1 + i) = x then a + 1 else a
/-- how often letter x stands at place i of the chosen places of all rows but one -/
def zCt (s : Int → Int) (but i x : Int) : Int := zFd (zCf s but i x) (s 0).toNat 0
theorem zCt_i {but i x : Int} (n : Nat) : 0 ≤ zFd (zCf s but i x) n 0 ∧ zFd (zCf s but i x) n 0 ≤ n :=
  zFd_I (fun r a => 0 ≤ a ∧ a ≤ r) ⟨Int.le_refl 0, Int.le_refl 0⟩ n (fun r a _ _ h => by
    unfold zCf
    split
    · omega
    · split <;> omega)
theorem zCt_r (hW : zWf s) {but i x : Int} : 0 ≤ zCt s but i x ∧ zCt s but i x ≤ 10 := by
  have h := zCt_i (s := s) (but := but) (i := i) (x := x) (s 0).toNat
  have := hW.1
  unfold zCt
  omega
/-- an array that holds these counts -/
def zPr (s : Int → Int) (but : Int) (P : Int → Int) : Prop := ∀ i x, 0 ≤ i → i < s 2 → 0 ≤ x → x < 4 → P (4 * i + x) = zCt s but i x
/-- a row's letters are counted one by one -/
def zPrj (s : Int → Int) (but r j : Int) (P : Int → Int) : Prop := ∀ i x, 0 ≤ i → i < s 2 → 0 ≤ x → x < 4 → P (4 * i + x) = zFd (zCf s but i x) r.toNat 0 + (if i < j ∧ zl s r (zf s r 1 + i) = x then 1 else 0)
theorem zPrj_0 {but r : Int} {P : Int → Int} (h : ∀ i x, 0 ≤ i → i < s 2 → 0 ≤ x → x < 4 → P (4 * i + x) = zFd (zCf s but i x) r.toNat 0) : zPrj s but r 0 P := fun i x h0 h1 h2 h3 => by
  rw [h i x h0 h1 h2 h3, if_neg (fun z => by have := z.1; omega), Int.add_zero]
theorem zPrj_s {but r j : Int} {P : Int → Int} (h : zPrj s but r j P) (hj : 0 ≤ j) (hj2 : j < s 2) (hx : 0 ≤ zl s r (zf s r 1 + j) ∧ zl s r (zf s r 1 + j) < 4) : zPrj s but r (j + 1) (zup P (4 * j + zl s r (zf s r 1 + j)) (P (4 * j + zl s r (zf s r 1 + j)) + 1)) := fun i x h0 h1 h2 h3 => by
  have hk := h i x h0 h1 h2 h3
  by_cases e : 4 * i + x = 4 * j + zl s r (zf s r 1 + j)
  · have e1 : i = j := by omega
    subst e1
    have e2 : x = zl s r (zf s r 1 + i) := by omega
    rw [e, zup_s, ← e, hk, if_neg (fun z => by have := z.1; omega), if_pos ⟨by omega, e2.symm⟩]
    omega
  · rw [zup_n e, hk]
    by_cases c : i < j ∧ zl s r (zf s r 1 + i) = x
    · rw [if_pos c, if_pos ⟨by omega, c.2⟩]
    · rw [if_neg c, if_neg (fun z => by
        have h5 := z.1
        by_cases hij : i = j
        · subst hij
          have := z.2
          omega
        · exact c ⟨by omega, z.2⟩)]
theorem zPrj_e {but r : Int} {P : Int → Int} (h : zPrj s but r (s 2) P) (hr : 0 ≤ r) (h1 : r ≠ but) (h2 : zf s r 1 ≠ -1) : ∀ i x, 0 ≤ i → i < s 2 → 0 ≤ x → x < 4 → P (4 * i + x) = zFd (zCf s but i x) (r + 1).toNat 0 := fun i x a b c d => by
  rw [h i x a b c d, zFd_s hr]
  show _ = (if r = but ∨ zf s r 1 = -1 then _ else if zl s r (zf s r 1 + i) = x then _ + 1 else _)
  have hz : ¬ (r = but ∨ zf s r 1 = -1) := fun z => z.elim h1 h2
  rw [if_neg hz]
  by_cases e : zl s r (zf s r 1 + i) = x
  · have h3 : i < s 2 ∧ zl s r (zf s r 1 + i) = x := ⟨b, e⟩
    rw [if_pos h3, if_pos e]
  · have h3 : ¬ (i < s 2 ∧ zl s r (zf s r 1 + i) = x) := fun z => e z.2
    rw [if_neg h3, if_neg e, Int.add_zero]
theorem zPr_skip {but r : Int} {P : Int → Int} (h : ∀ i x, 0 ≤ i → i < s 2 → 0 ≤ x → x < 4 → P (4 * i + x) = zFd (zCf s but i x) r.toNat 0) (hr : 0 ≤ r) (h1 : r = but ∨ zf s r 1 = -1) : ∀ i x, 0 ≤ i → i < s 2 → 0 ≤ x → x < 4 → P (4 * i + x) = zFd (zCf s but i x) (r + 1).toNat 0 := fun i x a b c d => by
  rw [h i x a b c d, zFd_s hr]
  show _ = (if r = but ∨ zf s r 1 = -1 then _ else _)
  rw [if_pos h1]
theorem zWf.ch (hW : zWf s) {r : Int} (h0 : 0 ≤ r) (h1 : r < s 0) (h : zf s r 1 ≠ -1) : zPlP s r (zf s r 1) := (hW.row h0 h1).2.2.2.2.2 h
theorem c_fill {P V : CV} (hW : zWf s) (hR : zRB V s) {but : Int} (hb : iR but) : zOk (fX1_fill P V but) (fun t => t.1 1 = s 1 ∧ t.1 2 = s 2 ∧ zPr s but (t.2 1)) := by
  unfold fX1_fill
  have w0 := hW.1
  have w1 := hW.2.1
  have w2 := hW.2.2.1
  rw [hR.1, hR.2.1, hR.2.2.2.1]
  refine zok_F (mk := fun a i => (i, a)) 24 (fun i (t : CV) => t.1 1 = s 1 ∧ t.1 2 = s 2 ∧ ∀ k, 0 ≤ k → k < i → t.2 1 k = 0) rfl (by omega) ⟨rfl, rfl, fun k _ _ => by omega⟩ (fun i t hi hi2 hI => ?_) (fun i t hi hi2 hi3 hi4 hI => ?_)
  · dsimp only
    (repeat (first | (with_reducible refine zok_g ?_ ?_; focus omega) | with_reducible refine zok_j ?_ | (with_reducible refine zok_t ?_ ?_; focus omega) | (with_reducible refine zok_f ?_ ?_; focus omega)))
    refine zok_sl ⟨_, rfl, hI.1, hI.2.1, fun k k0 k1 => ?_⟩
    rw [zPa_s]
    by_cases e : k = i
    · rw [e, zup_s]
    · rw [zup_n e]; exact hI.2.2 k k0 (by omega)
  · dsimp only
    (repeat (first | (with_reducible refine zok_g ?_ ?_; focus omega) | with_reducible refine zok_j ?_ | (with_reducible refine zok_t ?_ ?_; focus omega) | (with_reducible refine zok_f ?_ ?_; focus omega)))
    refine zok_sr ?_
    dsimp only
    refine zok_F (mk := fun a i => (i, a)) (s 0) (fun r (t : CV) => t.1 1 = s 1 ∧ t.1 2 = s 2 ∧ ∀ i x, 0 ≤ i → i < s 2 → 0 ≤ x → x < 4 → t.2 1 (4 * i + x) = zFd (zCf s but i x) r.toNat 0) rfl (by omega) ⟨hI.1, hI.2.1, fun i x a b c d => hI.2.2 _ (by omega) (by omega)⟩ (fun r t hr hr2 hJ => ?_) (fun r t hr hr2 hr3 hr4 hJ => ?_)
    · dsimp only
      (repeat (first | (with_reducible refine zok_g ?_ ?_; focus omega) | with_reducible refine zok_j ?_ | (with_reducible refine zok_t ?_ ?_; focus omega) | (with_reducible refine zok_f ?_ ?_; focus omega)))
      refine zok_i (fun c1 => zok_sl ⟨_, rfl, hJ.1, hJ.2.1, zPr_skip hJ.2.2 hr (Or.inl c1)⟩) (fun c1 => ?_)
      have hch := (hW.row hr hr2).2.1
      rw [(hR.row hr hr2).2.1]
      (repeat (first | (with_reducible refine zok_g ?_ ?_; focus omega) | with_reducible refine zok_j ?_ | (with_reducible refine zok_t ?_ ?_; focus omega) | (with_reducible refine zok_f ?_ ?_; focus omega)))
      refine zok_i (fun c2 => zok_sl ⟨_, rfl, hJ.1, hJ.2.1, zPr_skip hJ.2.2 hr (Or.inr c2)⟩) (fun c2 => ?_)
      have hP := hW.ch hr hr2 c2
      refine zok_b (b_codeAt hW hR hr hr2 hP.2.1 hP.2.2.1) (fun cd hcd => ?_)
      refine zok_F (mk := fun a i => (i, a)) (s 2) (fun j (t : CV) => t.1 1 = s 1 ∧ t.1 2 = s 2 ∧ zPrj s but r j (t.2 1)) rfl (by omega) ⟨hJ.1, hJ.2.1, zPrj_0 hJ.2.2⟩ (fun j t hj hj2 hK => ?_) (fun j t hj hj2 hj3 hj4 hK => ?_)
      · dsimp only
        rw [hK.2.1]
        (repeat (first | (with_reducible refine zok_g ?_ ?_; focus omega) | with_reducible refine zok_j ?_ | (with_reducible refine zok_t ?_ ?_; focus omega) | (with_reducible refine zok_f ?_ ?_; focus omega)))
        refine zok_e (b_letterOf hcd (by omega) hj hj2) ?_
        have hx := (hW.row hr hr2).2.2.2.2.1 (zf s r 1 + j) (by omega) (by have := hP.2.2.1; omega)
        (repeat (first | (with_reducible refine zok_g ?_ ?_; focus omega) | with_reducible refine zok_j ?_ | (with_reducible refine zok_t ?_ ?_; focus omega) | (with_reducible refine zok_f ?_ ?_; focus omega)))
        refine zok_sl ⟨_, rfl, hK.1, hK.2.1, ?_⟩
        rw [zPa_s]
        exact zPrj_s hK.2.2 hj hj2 (by omega)
      · dsimp only
        rw [hK.2.1]
        (repeat (first | (with_reducible refine zok_g ?_ ?_; focus omega) | with_reducible refine zok_j ?_ | (with_reducible refine zok_t ?_ ?_; focus omega) | (with_reducible refine zok_f ?_ ?_; focus omega)))
        refine zok_sr (zok_sl ⟨_, rfl, hK.1, hK.2.1, ?_⟩)
        have e := hj3 (by omega)
        subst e
        exact zPrj_e hK.2.2 hr c1 c2
    · dsimp only
      (repeat (first | (with_reducible refine zok_g ?_ ?_; focus omega) | with_reducible refine zok_j ?_ | (with_reducible refine zok_t ?_ ?_; focus omega) | (with_reducible refine zok_f ?_ ?_; focus omega)))
      refine zok_sr (zok_s ⟨hJ.1, hJ.2.1, fun i x a b c d => ?_⟩)
      rw [hJ.2.2 i x a b c d, hr3 (by omega)]
      rfl
theorem m_laysProfile {m : CV} (hs : m.2 2 = s) (hW : zWf s) {but : Int} (hb : iR but) : zOk (fX8_laysProfile m but) (fun t => zEx [] [14] m t ∧ zPr s but (t.2 14)) := by
  unfold fX8_laysProfile
  have w0 := hW.1
  have w1 := hW.2.1
  have w2 := hW.2.2.1
  refine zok_F (mk := fun a i => (i, a)) 24 (fun i (t : CV) => zEx [] [14] m t ∧ ∀ k, 0 ≤ k → k < i → t.2 14 k = 0) rfl (by omega) ⟨zEx_0, fun k _ _ => by omega⟩ (fun i t hi hi2 hI => ?_) (fun i t hi hi2 hi3 hi4 hI => ?_)
  · dsimp only
    (repeat (first | (with_reducible refine zok_g ?_ ?_; focus omega) | with_reducible refine zok_j ?_ | (with_reducible refine zok_t ?_ ?_; focus omega) | (with_reducible refine zok_f ?_ ?_; focus omega)))
    refine zok_sl ⟨_, rfl, zEx_a hI.1 (by decide), fun k k0 k1 => ?_⟩
    rw [zPa_s]
    by_cases e : k = i
    · rw [e, zup_s]
    · rw [zup_n e]; exact hI.2 k k0 (by omega)
  · dsimp only
    (repeat (first | (with_reducible refine zok_g ?_ ?_; focus omega) | with_reducible refine zok_j ?_ | (with_reducible refine zok_t ?_ ?_; focus omega) | (with_reducible refine zok_f ?_ ?_; focus omega)))
    refine zok_sr ?_
    dsimp only
    refine zok_F (mk := fun a i => (i, a)) (s 0) (fun r (t : CV) => zEx [] [14] m t ∧ ∀ i x, 0 ≤ i → i < s 2 → 0 ≤ x → x < 4 → t.2 14 (4 * i + x) = zFd (zCf s but i x) r.toNat 0) rfl (by omega) ⟨hI.1, fun i x a b c d => hI.2 _ (by omega) (by omega)⟩ (fun r t hr hr2 hJ => ?_) (fun r t hr hr2 hr3 hr4 hJ => ?_)
    · dsimp only
      have hs2 : t.2 2 = s := (hJ.1.2 2 (by decide)).trans hs
      rw [hs2]
      (repeat (first | (with_reducible refine zok_g ?_ ?_; focus omega) | with_reducible refine zok_j ?_ | (with_reducible refine zok_t ?_ ?_; focus omega) | (with_reducible refine zok_f ?_ ?_; focus omega)))
      refine zok_i (fun c1 => zok_sl ⟨_, rfl, hJ.1, zPr_skip hJ.2 hr (Or.inl c1)⟩) (fun c1 => ?_)
      have hch := (hW.row hr hr2).2.1
      refine zok_e (m_of hs2 (by omega) (by omega)) ?_
      (repeat (first | (with_reducible refine zok_g ?_ ?_; focus omega) | with_reducible refine zok_j ?_ | (with_reducible refine zok_t ?_ ?_; focus omega) | (with_reducible refine zok_f ?_ ?_; focus omega)))
      refine zok_i (fun c2 => zok_sl ⟨_, rfl, hJ.1, zPr_skip hJ.2 hr (Or.inr c2)⟩) (fun c2 => ?_)
      have hP := hW.ch hr hr2 c2
      have hP1 := hP.2.2.1
      have hsz := (hW.row hr hr2).1
      refine zok_F (mk := fun a i => (i, a)) (s 2) (fun j (t : CV) => zEx [] [14] m t ∧ zPrj s but r j (t.2 14)) rfl (by omega) ⟨hJ.1, zPrj_0 hJ.2⟩ (fun j t hj hj2 hK => ?_) (fun j t hj hj2 hj3 hj4 hK => ?_)
      · dsimp only
        have hs3 : t.2 2 = s := (hK.1.2 2 (by decide)).trans hs
        rw [hs3]
        have hx := (hW.row hr hr2).2.2.2.2.1 (zf s r 1 + j) (by omega) (by omega)
        (repeat (first | (with_reducible refine zok_g ?_ ?_; focus omega) | with_reducible refine zok_j ?_ | (with_reducible refine zok_t ?_ ?_; focus omega) | (with_reducible refine zok_f ?_ ?_; focus omega)))
        refine zok_e (m_of hs3 (by omega) (by omega)) ?_
        refine zok_e (m_letterAt hs3 (by omega) (by omega)) ?_
        (repeat (first | (with_reducible refine zok_g ?_ ?_; focus omega) | with_reducible refine zok_j ?_ | (with_reducible refine zok_t ?_ ?_; focus omega) | (with_reducible refine zok_f ?_ ?_; focus omega)))
        refine zok_sl ⟨_, rfl, zEx_a hK.1 (by decide), ?_⟩
        rw [zPa_s]
        exact zPrj_s hK.2 hj hj2 (by omega)
      · dsimp only
        have hs3 : t.2 2 = s := (hK.1.2 2 (by decide)).trans hs
        rw [hs3]
        (repeat (first | (with_reducible refine zok_g ?_ ?_; focus omega) | with_reducible refine zok_j ?_ | (with_reducible refine zok_t ?_ ?_; focus omega) | (with_reducible refine zok_f ?_ ?_; focus omega)))
        refine zok_sr (zok_sl ⟨_, rfl, hK.1, ?_⟩)
        have e := hj3 (by omega)
        subst e
        exact zPrj_e hK.2 hr c1 c2
    · dsimp only
      have hs2 : t.2 2 = s := (hJ.1.2 2 (by decide)).trans hs
      rw [hs2]
      (repeat (first | (with_reducible refine zok_g ?_ ?_; focus omega) | with_reducible refine zok_j ?_ | (with_reducible refine zok_t ?_ ?_; focus omega) | (with_reducible refine zok_f ?_ ?_; focus omega)))
      refine zok_sr (zok_s ⟨hJ.1, fun i x a b c d => ?_⟩)
      rw [hJ.2 i x a b c d, hr3 (by omega)]
      rfl
end ZPF
