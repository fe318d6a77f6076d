section ZYB
theorem zBlk_mo {K R N F P O W : Int → Int} {s0 ws : Int} : ∀ (n D : Nat) (i f k l : Int), zBlk K R N F P O W s0 ws n D i f k l → zBlk K R N F P O W s0 ws (n + 1) D i f k l := by
  intro n
  induction n with
  | zero => intro D i f k l h; exact Or.inl h
  | succ n ih =>
    intro D i f k l h
    rcases h with h | ⟨h1, h2, h3, h4⟩ | ⟨D', h1, b, kb, h2, h3, h4, h5, h6, h7, h8⟩
    · exact Or.inl h
    · exact Or.inr (Or.inl ⟨h1, h2, h3, ih _ _ _ _ _ h4⟩)
    · exact Or.inr (Or.inr ⟨D', h1, b, kb, h2, h3, h4, h5, ih _ _ _ _ _ h6, h7, ih _ _ _ _ _ h8⟩)
theorem zBlk_m2 {K R N F P O W : Int → Int} {s0 ws : Int} {n D : Nat} {i f k l : Int} (a : Nat) (h : zBlk K R N F P O W s0 ws n D i f k l) : zBlk K R N F P O W s0 ws (n + a) D i f k l := by
  induction a with
  | zero => exact h
  | succ a ih => exact zBlk_mo _ _ _ _ _ _ ih
theorem zBlk_ap {K R N F P O W : Int → Int} {s0 ws : Int} : ∀ (n m D : Nat) (i f k l g e : Int), zBlk K R N F P O W s0 ws n D i f k l → zBlk K R N F P O W s0 ws m D f g l e → zBlk K R N F P O W s0 ws (n + m) D i g k e := by
  intro n
  induction n with
  | zero =>
    intro m D i f k l g e h h2
    rw [h.1, h.2, Nat.zero_add]
    exact h2
  | succ n ih =>
    intro m D i f k l g e h h2
    have hle2 := zBlk_le _ _ _ _ _ _ h2
    rw [show n + 1 + m = (n + m) + 1 by omega]
    rcases h with h | ⟨h1, h2', h3, h4⟩ | ⟨D', h1, b, kb, h2', h3, h4, h5, h6, h7, h8⟩
    · rw [h.1, h.2, show (n + m) + 1 = m + (n + 1) by omega]
      exact zBlk_m2 _ h2
    · have hle := zBlk_le _ _ _ _ _ _ h4
      exact Or.inr (Or.inl ⟨by omega, h2', h3, ih _ _ _ _ _ _ _ _ h4 h2⟩)
    · have hle := zBlk_le _ _ _ _ _ _ h8
      exact Or.inr (Or.inr ⟨D', h1, b, kb, h2', by omega, h4, h5, zBlk_m2 m h6, h7, ih _ _ _ _ _ _ _ _ h8 h2⟩)
theorem zBlk_fr {K R N F P O W K' R' N' F' P' O' W' : Int → Int} {s0 ws : Int} : ∀ (n D : Nat) (i f k l : Int), zBlk K R N F P O W s0 ws n D i f k l → (∀ j, i ≤ j → j < f → K' j = K j ∧ R' j = R j ∧ N' j = N j ∧ F' j = F j) → (∀ j, k ≤ j → j < l → P' j = P j ∧ O' j = O j ∧ W' j = W j) → zBlk K' R' N' F' P' O' W' s0 ws n D i f k l := by
  intro n
  induction n with
  | zero => intro D i f k l h _ _; exact h
  | succ n ih =>
    intro D i f k l h e1 e2
    rcases h with h | ⟨h1, h2, h3, h4⟩ | ⟨D', h1, b, kb, h2, h3, h4, h5, h6, h7, h8⟩
    · exact Or.inl h
    · have hle := zBlk_le _ _ _ _ _ _ h4
      obtain ⟨a1, a2, a3, a4⟩ := e1 i (by omega) (by omega)
      obtain ⟨b1, b2, b3⟩ := e2 k (by omega) (by omega)
      refine Or.inr (Or.inl ⟨h1, ?_, by rw [a4]; exact h3, ih _ _ _ _ _ h4 (fun j j0 j1 => e1 j (by omega) j1) (fun j j0 j1 => e2 j (by omega) j1)⟩)
      unfold zCms at h2 ⊢
      rw [a1, a2, a3, b1, b2, b3]
      exact h2
    · have hle := zBlk_le _ _ _ _ _ _ h6
      have hle2 := zBlk_le _ _ _ _ _ _ h8
      obtain ⟨a1, a2, a3, a4⟩ := e1 i (by omega) (by omega)
      obtain ⟨b1, b2, b3⟩ := e2 k (by omega) (by omega)
      refine Or.inr (Or.inr ⟨D', h1, b, kb, h2, h3, by rw [a1, a3, b1, b2]; exact h4, by rw [a4]; exact h5, ih _ _ _ _ _ h6 (fun j j0 j1 => e1 j (by omega) (by omega)) (fun j j0 j1 => e2 j (by omega) (by omega)), ?_, ih _ _ _ _ _ h8 (fun j j0 j1 => e1 j (by omega) j1) (fun j j0 j1 => e2 j (by omega) j1)⟩)
      rw [(e2 kb (by omega) (by omega)).1]
      exact h7
/-- what a repeat's head says -/
def zYr (S m : CV) (r k : Int) : Prop := S.2 1 r = 10 ∧ m.2 15 k = 9 ∧ S.2 3 r = m.2 16 k ∧ (1 ≤ m.2 16 k ∧ m.2 16 k ≤ 20)
noncomputable def zYb (S m : CV) (s0 ws : Int) (D : Nat) (i f k l : Int) : Prop := ∃ n, zBlk (S.2 1) (S.2 2) (S.2 3) (S.2 4) (m.2 15) (m.2 16) (m.2 17) s0 ws n D i f k l
theorem zYb_0 {S m : CV} {s0 ws : Int} {D : Nat} {i k : Int} : zYb S m s0 ws D i i k k := ⟨0, rfl, rfl⟩
theorem zYb_le {S m : CV} {s0 ws : Int} {D : Nat} {i f k l : Int} (h : zYb S m s0 ws D i f k l) : i ≤ f ∧ k ≤ l := zBlk_le _ _ _ _ _ _ h.choose_spec
theorem zYb_ap {S m : CV} {s0 ws : Int} {D : Nat} {i f k l g e : Int} (h : zYb S m s0 ws D i f k l) (h2 : zYb S m s0 ws D f g l e) : zYb S m s0 ws D i g k e := by
  obtain ⟨a, h⟩ := h
  obtain ⟨b, h2⟩ := h2
  exact ⟨a + b, zBlk_ap _ _ _ _ _ _ _ _ _ h h2⟩
theorem zYb_fr {S m S' m' : CV} {s0 ws : Int} {D : Nat} {i f k l : Int} (h : zYb S m s0 ws D i f k l) (e1 : ∀ j, i ≤ j → j < f → S'.2 1 j = S.2 1 j ∧ S'.2 2 j = S.2 2 j ∧ S'.2 3 j = S.2 3 j ∧ S'.2 4 j = S.2 4 j) (e2 : ∀ j, k ≤ j → j < l → m'.2 15 j = m.2 15 j ∧ m'.2 16 j = m.2 16 j ∧ m'.2 17 j = m.2 17 j) : zYb S' m' s0 ws D i f k l := by
  obtain ⟨a, h⟩ := h
  exact ⟨a, zBlk_fr _ _ _ _ _ _ h e1 e2⟩
theorem zYb_1 {S m : CV} {s0 ws : Int} {D : Nat} {i k : Int} (h : zCms (S.2 1) (S.2 2) (S.2 3) (m.2 15) (m.2 16) (m.2 17) s0 ws i k) (hF : 0 ≤ S.2 4 i ∧ S.2 4 i ≤ i + 1) : zYb S m s0 ws D i (i + 1) k (k + 1) := ⟨1, Or.inr (Or.inl ⟨by omega, h, hF, rfl, rfl⟩)⟩
theorem zYb_r {S m : CV} {s0 ws : Int} {D : Nat} {r f k l : Int} (h : zYr S m r k) (hF : S.2 4 r = f) (hf : r + 1 ≤ f) (h0 : 0 ≤ r) (hf2 : f ≤ 30) (hb : zYb S m s0 ws D (r + 1) f (k + 1) l) (hP : m.2 15 l = 10) : zYb S m s0 ws (D + 1) r f k (l + 1) := by
  obtain ⟨a, hb⟩ := hb
  refine ⟨a + 1, Or.inr (Or.inr ⟨D, rfl, f, l, hf, Int.le_refl _, h, ⟨⟨by omega, by omega⟩, ?_⟩, hb, hP, ?_⟩)⟩
  · rw [hF]
    unfold zMax
    split <;> omega
  · exact (zBlk_m2 (n := 0) a ⟨rfl, rfl⟩ : zBlk _ _ _ _ _ _ _ _ _ (0 + a) _ _ _ _ _) |> fun z => by rw [Nat.zero_add] at z; exact z
/-- so many repeats stand open -/
noncomputable def zYp (S m : CV) (s0 ws size scr : Int) : Nat → Nat → Int → Int → Prop
  | 0, D, i, k => zYb S m s0 ws D i size k scr
  | d + 1, D, i, k => ∃ D', D = D' + 1 ∧ ∃ r kr, zYb S m s0 ws D i r k kr ∧ zYr S m r kr ∧ S.2 5 (2 - (D : Int)) = r ∧ zYp S m s0 ws size scr d D' (r + 1) (kr + 1)
theorem zYp_le {S m : CV} {s0 ws size scr : Int} : ∀ (d D : Nat) (i k : Int), zYp S m s0 ws size scr d D i k → i ≤ size ∧ k ≤ scr ∧ i + (d : Int) ≤ size := by
  intro d
  induction d with
  | zero =>
    intro D i k h
    have := zYb_le h
    omega
  | succ d ih =>
    intro D i k h
    obtain ⟨D', _, r, kr, hb, _, _, hp⟩ := h
    have h1 := zYb_le hb
    have h2 := ih _ _ _ hp
    omega
/-- the innermost open repeat -/
theorem zYp_r {S m : CV} {s0 ws size scr : Int} : ∀ (d D : Nat) (i k : Int), zYp S m s0 ws size scr (d + 1) D i k → i ≤ S.2 5 (2 - (D : Int) + d) ∧ S.2 5 (2 - (D : Int) + d) < size := by
  intro d
  induction d with
  | zero =>
    intro D i k h
    obtain ⟨D', _, r, kr, hb, _, hr, hp⟩ := h
    have h1 := zYb_le hb
    have h2 := zYp_le _ _ _ _ hp
    rw [show 2 - (D : Int) + ((0 : Nat) : Int) = 2 - (D : Int) by omega, hr]
    omega
  | succ d ih =>
    intro D i k h
    obtain ⟨D', hD, r, kr, hb, _, hr, hp⟩ := h
    have h1 := zYb_le hb
    have h2 := ih _ _ _ hp
    rw [show 2 - (D' : Int) + (d : Int) = 2 - (D : Int) + ((d + 1 : Nat) : Int) by omega] at h2
    omega
/-- one command more -/
theorem zYp_c {S m S' m' : CV} {s0 ws size scr : Int} : ∀ (d D : Nat) (i k : Int), zYp S m s0 ws size scr d D i k → (∀ j, j < size → S'.2 1 j = S.2 1 j ∧ S'.2 2 j = S.2 2 j ∧ S'.2 3 j = S.2 3 j ∧ S'.2 4 j = S.2 4 j) → (∀ j, j < scr → m'.2 15 j = m.2 15 j ∧ m'.2 16 j = m.2 16 j ∧ m'.2 17 j = m.2 17 j) → S'.2 5 = S.2 5 → zCms (S'.2 1) (S'.2 2) (S'.2 3) (m'.2 15) (m'.2 16) (m'.2 17) s0 ws size scr → 0 ≤ S'.2 4 size ∧ S'.2 4 size ≤ size + 1 → zYp S' m' s0 ws (size + 1) (scr + 1) d D i k := by
  intro d
  induction d with
  | zero =>
    intro D i k h e1 e2 e5 hc hF
    exact zYb_ap (zYb_fr h (fun j _ j1 => e1 j j1) (fun j _ j1 => e2 j j1)) (zYb_1 hc hF)
  | succ d ih =>
    intro D i k h e1 e2 e5 hc hF
    obtain ⟨D', hD, r, kr, hb, hr, h5, hp⟩ := h
    have hle := zYp_le _ _ _ _ hp
    obtain ⟨a1, a2, a3, a4⟩ := e1 r (by omega)
    obtain ⟨b1, b2, b3⟩ := e2 kr (by omega)
    refine ⟨D', hD, r, kr, zYb_fr hb (fun j _ j1 => e1 j (by omega)) (fun j _ j1 => e2 j (by omega)), ?_, by rw [e5]; exact h5, ih _ _ _ hp e1 e2 e5 hc hF⟩
    unfold zYr at hr ⊢
    rw [a1, a3, b1, b2]
    exact hr
/-- one repeat more -/
theorem zYp_o {S m S' m' : CV} {s0 ws size scr : Int} : ∀ (d D : Nat) (i k : Int), zYp S m s0 ws size scr d D i k → d + 1 ≤ D → D ≤ 2 → (∀ j, j < size → S'.2 1 j = S.2 1 j ∧ S'.2 2 j = S.2 2 j ∧ S'.2 3 j = S.2 3 j ∧ S'.2 4 j = S.2 4 j) → (∀ j, j < scr → m'.2 15 j = m.2 15 j ∧ m'.2 16 j = m.2 16 j ∧ m'.2 17 j = m.2 17 j) → S'.2 5 = zup (S.2 5) (2 - (D : Int) + d) size → zYr S' m' size scr → zYp S' m' s0 ws (size + 1) (scr + 1) (d + 1) D i k := by
  intro d
  induction d with
  | zero =>
    intro D i k h hd hd2 e1 e2 e5 hr
    refine ⟨D - 1, by omega, size, scr, zYb_fr h (fun j _ j1 => e1 j j1) (fun j _ j1 => e2 j j1), hr, ?_, zYb_0⟩
    rw [e5, show 2 - (D : Int) + ((0 : Nat) : Int) = 2 - (D : Int) by omega, zup_s]
  | succ d ih =>
    intro D i k h hd hd2 e1 e2 e5 hr2
    obtain ⟨D', hD, r, kr, hb, hr, h5, hp⟩ := h
    have hle := zYp_le _ _ _ _ hp
    obtain ⟨a1, a2, a3, a4⟩ := e1 r (by omega)
    obtain ⟨b1, b2, b3⟩ := e2 kr (by omega)
    refine ⟨D', hD, r, kr, zYb_fr hb (fun j _ j1 => e1 j (by omega)) (fun j _ j1 => e2 j (by omega)), ?_, ?_, ih _ _ _ hp (by omega) (by omega) e1 e2 ?_ hr2⟩
    · unfold zYr at hr ⊢
      rw [a1, a3, b1, b2]
      exact hr
    · rw [e5, zup_n (by omega)]; exact h5
    · rw [e5, show 2 - (D' : Int) + (d : Int) = 2 - (D : Int) + ((d + 1 : Nat) : Int) by omega]
/-- one repeat is closed -/
theorem zYp_x {S m S' m' : CV} {s0 ws size scr : Int} (hs : size ≤ 30) : ∀ (d D : Nat) (i k : Int), zYp S m s0 ws size scr (d + 1) D i k → 0 ≤ i → (S'.2 1 = S.2 1 ∧ S'.2 2 = S.2 2 ∧ S'.2 3 = S.2 3 ∧ S'.2 5 = S.2 5) → S'.2 4 = zup (S.2 4) (S.2 5 (2 - (D : Int) + d)) size → (∀ j, j < scr → m'.2 15 j = m.2 15 j ∧ m'.2 16 j = m.2 16 j ∧ m'.2 17 j = m.2 17 j) → m'.2 15 scr = 10 → zYp S' m' s0 ws size (scr + 1) d D i k := by
  intro d
  induction d with
  | zero =>
    intro D i k h hi e1 e4 e2 hP
    obtain ⟨D', hD, r, kr, hb, hr, h5, hp⟩ := h
    have hle := zYp_le _ _ _ _ hp
    have hle2 := zYb_le hb
    obtain ⟨b1, b2, b3⟩ := e2 kr (by omega)
    rw [show 2 - (D : Int) + ((0 : Nat) : Int) = 2 - (D : Int) by omega, h5] at e4
    have fr : ∀ j, j ≠ r → S'.2 1 j = S.2 1 j ∧ S'.2 2 j = S.2 2 j ∧ S'.2 3 j = S.2 3 j ∧ S'.2 4 j = S.2 4 j := fun j hj => ⟨by rw [e1.1], by rw [e1.2.1], by rw [e1.2.2.1], by rw [e4, zup_n hj]⟩
    have hr' : zYr S' m' r kr := by
      unfold zYr at hr ⊢
      rw [e1.1, e1.2.2.1, b1, b2]
      exact hr
    subst hD
    exact zYb_ap (zYb_fr hb (fun j _ j1 => fr j (by omega)) (fun j _ j1 => e2 j (by omega))) (zYb_r hr' (by rw [e4, zup_s]) (by omega) (by omega) hs (zYb_fr hp (fun j j0 _ => fr j (by omega)) (fun j _ j1 => e2 j (by omega))) hP)
  | succ d ih =>
    intro D i k h hi e1 e4 e2 hP
    obtain ⟨D', hD, r, kr, hb, hr, h5, hp⟩ := h
    have hle := zYp_r _ _ _ _ hp
    have hle3 := zYp_le _ _ _ _ hp
    have hle2 := zYb_le hb
    obtain ⟨b1, b2, b3⟩ := e2 kr (by omega)
    rw [show 2 - (D : Int) + ((d + 1 : Nat) : Int) = 2 - (D' : Int) + (d : Int) by omega] at e4
    refine ⟨D', hD, r, kr, zYb_fr hb (fun j _ j1 => ⟨by rw [e1.1], by rw [e1.2.1], by rw [e1.2.2.1], by rw [e4, zup_n (by omega)]⟩) (fun j _ j1 => e2 j (by omega)), ?_, by rw [e1.2.2.2]; exact h5, ih _ _ _ hp (by omega) e1 e4 e2 hP⟩
    unfold zYr at hr ⊢
    rw [e1.1, e1.2.2.1, b1, b2]
    exact hr
end ZYB
