section ZBR
def zRw0 (V : CV) (s nm : Int → Int) (r : Int) : Prop := (2 ≤ zf s r 0 ∧ zf s r 0 ≤ 30) ∧ zf s r 1 = -1 ∧ zf s r 2 = 0 ∧ zf s r 3 = 0 ∧ (∀ i, 0 ≤ i → i < zf s r 0 → 0 ≤ zl s r i ∧ zl s r i < s 1) ∧ V.2 3 r = zf s r 0 ∧ V.2 5 r = -1 ∧ V.2 4 r = 0 ∧ zCd (V.2 2 r) (zf s r 0) (zl s r) ∧ zNm (V.2 1 r) (nm r) ∧ ∀ q, 0 ≤ q → q < r → nm q ≠ nm r
/-- a board that is being read -/
def zBr (V : CV) (s nm : Int → Int) : Prop := ((0 ≤ s 0 ∧ s 0 ≤ 10) ∧ (2 ≤ s 1 ∧ s 1 ≤ 4) ∧ (2 ≤ s 2 ∧ s 2 ≤ 6) ∧ (0 ≤ s 3 ∧ s 3 ≤ 3) ∧ s 4 = 0) ∧ (V.1 0 = s 1 ∧ V.1 1 = s 2 ∧ V.1 2 = s 3 ∧ V.1 3 = s 0 ∧ V.1 4 = 0 ∧ V.1 5 = 0) ∧ (∀ r, 0 ≤ r → r < s 0 → zRw0 V s nm r) ∧ ∀ r, s 0 ≤ r → r < 10 → zf s r 2 = 0 ∧ zf s r 3 = 0
theorem zBr_1 {V : CV} {s nm : Int → Int} (h : zBr V s nm) : zB1 V s nm := by
  obtain ⟨⟨w0, w1, w2, w3, w4⟩, ⟨v0, v1, v2, v3, v4, v5⟩, hr, hz⟩ := h
  refine ⟨⟨w0, w1, w2, w3, by omega, fun k k0 k1 => by omega, fun r r0 r1 => ?_⟩, ⟨v0, v1, v2, v3, by rw [v5, w4], fun k k0 k1 => by omega, ?_, fun r r0 r1 => ?_⟩, fun r r0 r1 => ?_⟩
  · obtain ⟨a, b, c, d, e, f⟩ := hr r r0 r1
    exact ⟨a, by omega, Or.inl c, by omega, e, fun z => absurd b z⟩
  · rw [v4]
    have := zP2_pos (s 0)
    omega
  · obtain ⟨a, b, c, d, e, f, g, i, j, k⟩ := hr r r0 r1
    refine ⟨f, by rw [g, b], ?_, by rw [i, d], j⟩
    rw [v4, c, Int.zero_ediv]
    rfl
  · obtain ⟨a, b, c, d, e, f, g, i, j, k, l⟩ := hr r r0 r1
    exact ⟨k, l⟩
theorem zup_f {s : Int → Int} {k v r w : Int} (hk : k ≤ 10) (hr : 0 ≤ r) (hw : 0 ≤ w) : zf (zup s k v) r w = zf s r w := zup_n (by omega)
theorem zup_l {s : Int → Int} {k v r i : Int} (hk : k ≤ 10) (hr : 0 ≤ r) (hi : 0 ≤ i) : zl (zup s k v) r i = zl s r i := zup_n (by omega)
theorem zRw0_up {V V' : CV} {s nm : Int → Int} {k v r : Int} (h : zRw0 V s nm r) (hr : 0 ≤ r) (hk : 2 ≤ k ∧ k ≤ 3) (e : V'.2 = V.2) : zRw0 V' (zup s k v) nm r := by
  obtain ⟨a, b, c, d, f, g⟩ := h
  unfold zRw0
  rw [zup_f (w := 0) (by omega) hr (by omega), zup_f (w := 1) (by omega) hr (by omega), zup_f (w := 2) (by omega) hr (by omega), zup_f (w := 3) (by omega) hr (by omega), e, zup_n (f := s) (k := k) (v := v) (j := 1) (by omega)]
  refine ⟨a, b, c, d, fun i i0 i1 => by rw [zup_l (by omega) hr i0]; exact f i i0 i1, g.1, g.2.1, g.2.2.1, g.2.2.2.1.ext (fun j j0 j1 => (zup_l (by omega) hr j0).symm), g.2.2.2.2⟩
theorem zBr_s1 {V : CV} {s nm : Int → Int} (h : zBr V s nm) (h0 : s 0 = 0) {v : Int} (hv : 2 ≤ v ∧ v ≤ 4) : zBr (zPu V 0 v) (zup s 1 v) nm := by
  obtain ⟨⟨w0, w1, w2, w3, w4⟩, ⟨v0, v1, v2, v3, v4, v5⟩, hr, hz⟩ := h
  have e0 : zup s 1 v 0 = s 0 := zup_n (by omega)
  have e1 : zup s 1 v 1 = v := zup_s
  have e2 : zup s 1 v 2 = s 2 := zup_n (by omega)
  have e3 : zup s 1 v 3 = s 3 := zup_n (by omega)
  have e4 : zup s 1 v 4 = s 4 := zup_n (by omega)
  unfold zBr
  rw [e0, e1, e2, e3, e4]
  refine ⟨⟨w0, hv, w2, w3, w4⟩, ⟨zPu_s, v1, v2, v3, v4, v5⟩, fun r r0 r1 => by omega, fun r r0 r1 => ?_⟩
  rw [zup_f (by omega) (by omega) (by omega), zup_f (by omega) (by omega) (by omega)]
  exact hz r r0 r1
theorem zBr_s2 {V : CV} {s nm : Int → Int} (h : zBr V s nm) {v : Int} (hv : 2 ≤ v ∧ v ≤ 6) : zBr (zPu V 1 v) (zup s 2 v) nm := by
  obtain ⟨⟨w0, w1, w2, w3, w4⟩, ⟨v0, v1, v2, v3, v4, v5⟩, hr, hz⟩ := h
  have e0 : zup s 2 v 0 = s 0 := zup_n (by omega)
  have e1 : zup s 2 v 1 = s 1 := zup_n (by omega)
  have e2 : zup s 2 v 2 = v := zup_s
  have e3 : zup s 2 v 3 = s 3 := zup_n (by omega)
  have e4 : zup s 2 v 4 = s 4 := zup_n (by omega)
  unfold zBr
  rw [e0, e1, e2, e3, e4]
  refine ⟨⟨w0, w1, hv, w3, w4⟩, ⟨v0, zPu_s, v2, v3, v4, v5⟩, fun r r0 r1 => zRw0_up (hr r r0 r1) r0 (by omega) rfl, fun r r0 r1 => ?_⟩
  rw [zup_f (by omega) (by omega) (by omega), zup_f (by omega) (by omega) (by omega)]
  exact hz r r0 r1
theorem zBr_s3 {V : CV} {s nm : Int → Int} (h : zBr V s nm) {v : Int} (hv : 0 ≤ v ∧ v ≤ 3) : zBr (zPu V 2 v) (zup s 3 v) nm := by
  obtain ⟨⟨w0, w1, w2, w3, w4⟩, ⟨v0, v1, v2, v3, v4, v5⟩, hr, hz⟩ := h
  have e0 : zup s 3 v 0 = s 0 := zup_n (by omega)
  have e1 : zup s 3 v 1 = s 1 := zup_n (by omega)
  have e2 : zup s 3 v 2 = s 2 := zup_n (by omega)
  have e3 : zup s 3 v 3 = v := zup_s
  have e4 : zup s 3 v 4 = s 4 := zup_n (by omega)
  unfold zBr
  rw [e0, e1, e2, e3, e4]
  refine ⟨⟨w0, w1, w2, hv, w4⟩, ⟨v0, v1, zPu_s, v3, v4, v5⟩, fun r r0 r1 => zRw0_up (hr r r0 r1) r0 (by omega) rfl, fun r r0 r1 => ?_⟩
  rw [zup_f (by omega) (by omega) (by omega), zup_f (by omega) (by omega) (by omega)]
  exact hz r r0 r1
/-- a row is added -/
theorem zBr_row {V : CV} {s nm s' : Int → Int} (h : zBr V s nm) (hk : s 0 < 10) {u : List Int} (hu : zLet u) (hu1 : 1 ≤ u.length ∧ u.length ≤ 8) (hq : ∀ q, 0 ≤ q → q < s 0 → nm q ≠ z5 u) {wide c : Int} {g : Int → Int} (hw : 2 ≤ wide ∧ wide ≤ 30) (hc : zCd c wide g) (hg : ∀ i, 0 ≤ i → i < wide → 0 ≤ g i ∧ g i < s 1)
    (s0 : s' 0 = s 0 + 1) (sa : zf s' (s 0) 0 = wide) (sb : zf s' (s 0) 1 = -1) (sl : ∀ i, 0 ≤ i → i < wide → zl s' (s 0) i = g i) (se : ∀ j, j ≠ 0 → j ≠ 11 + 4 * s 0 → j ≠ 12 + 4 * s 0 → (j < 51 + 30 * s 0 ∨ 51 + 30 * s 0 + wide ≤ j) → s' j = s j) :
    zBr (zPu (zPa (zPa (zPa (zPa (zPa V 1 (s 0) (z8 u)) 2 (s 0) c) 3 (s 0) wide) 4 (s 0) 0) 5 (s 0) (-1)) 3 (s 0 + 1)) s' (zup nm (s 0) (z5 u)) := by
  obtain ⟨⟨w0, w1, w2, w3, w4⟩, ⟨v0, v1, v2, v3, v4, v5⟩, hr, hz⟩ := h
  have e1 : s' 1 = s 1 := se 1 (by omega) (by omega) (by omega) (by omega)
  have e2 : s' 2 = s 2 := se 2 (by omega) (by omega) (by omega) (by omega)
  have e3 : s' 3 = s 3 := se 3 (by omega) (by omega) (by omega) (by omega)
  have e4 : s' 4 = s 4 := se 4 (by omega) (by omega) (by omega) (by omega)
  have ef : ∀ r w, 0 ≤ r → r < 10 → 0 ≤ w → w ≤ 3 → (r ≠ s 0 ∨ 2 ≤ w) → zf s' r w = zf s r w := fun r w a b c d f => se _ (by omega) (by omega) (by omega) (by omega)
  have el : ∀ r i, 0 ≤ r → r < s 0 → 0 ≤ i → i < 30 → zl s' r i = zl s r i := fun r i a b c d => se _ (by omega) (by omega) (by omega) (by omega)
  obtain ⟨k, hkk⟩ : ∃ k, k = s 0 := ⟨_, rfl⟩
  rw [← hkk] at hk hq s0 sa sb sl se ef el hr hz w0 v3 ⊢
  have a1 : ∀ j, (zPu (zPa (zPa (zPa (zPa (zPa V 1 k (z8 u)) 2 k c) 3 k wide) 4 k 0) 5 k (-1)) 3 (k + 1)).2 j = (zPa (zPa (zPa (zPa (zPa V 1 k (z8 u)) 2 k c) 3 k wide) 4 k 0) 5 k (-1)).2 j := fun j => rfl
  have b1 : (zPu (zPa (zPa (zPa (zPa (zPa V 1 k (z8 u)) 2 k c) 3 k wide) 4 k 0) 5 k (-1)) 3 (k + 1)).2 1 = zup (V.2 1) k (z8 u) := rfl
  have b2' : (zPu (zPa (zPa (zPa (zPa (zPa V 1 k (z8 u)) 2 k c) 3 k wide) 4 k 0) 5 k (-1)) 3 (k + 1)).2 2 = zup (V.2 2) k c := rfl
  have b3 : (zPu (zPa (zPa (zPa (zPa (zPa V 1 k (z8 u)) 2 k c) 3 k wide) 4 k 0) 5 k (-1)) 3 (k + 1)).2 3 = zup (V.2 3) k wide := rfl
  have b4 : (zPu (zPa (zPa (zPa (zPa (zPa V 1 k (z8 u)) 2 k c) 3 k wide) 4 k 0) 5 k (-1)) 3 (k + 1)).2 4 = zup (V.2 4) k 0 := rfl
  have b5 : (zPu (zPa (zPa (zPa (zPa (zPa V 1 k (z8 u)) 2 k c) 3 k wide) 4 k 0) 5 k (-1)) 3 (k + 1)).2 5 = zup (V.2 5) k (-1) := rfl
  unfold zBr
  rw [s0, e1, e2, e3, e4]
  refine ⟨⟨by omega, w1, w2, w3, w4⟩, ⟨v0, v1, v2, zPu_s, v4, v5⟩, fun r r0 r1 => ?_, fun r r0 r1 => ?_⟩
  · unfold zRw0
    rw [b1, b2', b3, b4, b5, e1]
    by_cases e : r = k
    · subst e
      have z2 := hz r (by omega) (by omega)
      rw [sa, sb, ef r 2 (by omega) (by omega) (by omega) (by omega) (Or.inr (by omega)), ef r 3 (by omega) (by omega) (by omega) (by omega) (Or.inr (by omega)), zup_s, zup_s, zup_s, zup_s, zup_s, zup_s]
      refine ⟨hw, rfl, z2.1, z2.2, fun i i0 i1 => by rw [sl i i0 i1]; exact hg i i0 i1, rfl, rfl, rfl, hc.ext (fun j j0 j1 => (sl j j0 j1).symm), ⟨u, hu1, hu, rfl, rfl⟩, fun q q0 q1 => ?_⟩
      rw [zup_n (by omega)]
      exact hq q q0 q1
    · obtain ⟨a, b, c', d, f, g', i, j, l, o, p⟩ := hr r r0 (by omega)
      rw [ef r 0 r0 (by omega) (by omega) (by omega) (Or.inl e), ef r 1 r0 (by omega) (by omega) (by omega) (Or.inl e), ef r 2 r0 (by omega) (by omega) (by omega) (Or.inl e), ef r 3 r0 (by omega) (by omega) (by omega) (Or.inl e), zup_n e, zup_n e, zup_n e, zup_n e, zup_n e, zup_n e]
      refine ⟨a, b, c', d, fun i i0 i1 => by rw [el r i r0 (by omega) i0 (by omega)]; exact f i i0 i1, g', i, j, l.ext (fun j j0 j1 => (el r j r0 (by omega) j0 (by omega)).symm), o, fun q q0 q1 => ?_⟩
      rw [zup_n (by omega)]
      exact p q q0 q1
  · rw [ef r 2 (by omega) r1 (by omega) (by omega) (Or.inr (by omega)), ef r 3 (by omega) r1 (by omega) (by omega) (Or.inr (by omega))]
    exact hz r (by omega) r1
end ZBR
