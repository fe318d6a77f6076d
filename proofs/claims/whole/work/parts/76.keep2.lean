/-! WHAT IS KEPT -/
def zAgr (s t : Int → Int) : Prop := ∀ j, 0 ≤ j → j < 351 → s j = t j
section ZKP
theorem zAgr.pl {s t : Int → Int} (h : zAgr s t) {r i : Int} (h0 : 0 ≤ r) (h1 : r < 10) : zPlP s r i ↔ zPlP t r i := by
  unfold zPlP zf
  rw [h (11 + 4 * r + 2) (by omega) (by omega), h (11 + 4 * r + 0) (by omega) (by omega), h (11 + 4 * r + 3) (by omega) (by omega), h 2 (by omega) (by omega)]
theorem zAgr.W {s t : Int → Int} (h : zAgr s t) (hW : zWf s) : zWf t := by
  obtain ⟨w0, w1, w2, w3, w4, w5, w6⟩ := hW
  have e0 := h 0 (by omega) (by omega)
  have e1 := h 1 (by omega) (by omega)
  have e2 := h 2 (by omega) (by omega)
  have e3 := h 3 (by omega) (by omega)
  have e4 := h 4 (by omega) (by omega)
  unfold zWf zWords
  rw [← e0, ← e1, ← e2, ← e3, ← e4]
  refine ⟨w0, w1, w2, w3, w4, fun k k0 k1 => ?_, fun r r0 r1 => ?_⟩
  · rw [← h (5 + k) (by omega) (by omega)]
    exact w5 k k0 k1
  · obtain ⟨a, b, c, d, e, f⟩ := w6 r r0 r1
    unfold zRw
    rw [← h.pl r0 (by omega)]
    unfold zf zl at *
    rw [← h (11 + 4 * r + 0) (by omega) (by omega), ← h (11 + 4 * r + 1) (by omega) (by omega), ← h (11 + 4 * r + 2) (by omega) (by omega), ← h (11 + 4 * r + 3) (by omega) (by omega), ← e1]
    exact ⟨a, b, c, d, fun i i0 i1 => by rw [← h (51 + 30 * r + i) (by omega) (by omega)]; exact e i i0 i1, f⟩
theorem zAgr.B {s t : Int → Int} (h : zAgr s t) (hW : zWf s) {V : CV} (hR : zRB V s) : zRB V t := by
  obtain ⟨g0, g1, g2, g3, g4, g5, g6, g7⟩ := hR
  have w0 := hW.1
  have w4 := hW.2.2.2.2.1
  have e0 := h 0 (by omega) (by omega)
  have e1 := h 1 (by omega) (by omega)
  have e2 := h 2 (by omega) (by omega)
  have e3 := h 3 (by omega) (by omega)
  have e4 := h 4 (by omega) (by omega)
  unfold zRB
  rw [← e0, ← e1, ← e2, ← e3, ← e4]
  refine ⟨g0, g1, g2, g3, g4, fun k k0 k1 => ?_, g6, fun r r0 r1 => ?_⟩
  · rw [← h (5 + k) (by omega) (by omega)]
    exact g5 k k0 k1
  · obtain ⟨a, b, c, d, e⟩ := g7 r r0 r1
    have hsz := (hW.row r0 r1).1
    unfold zf at *
    rw [← h (11 + 4 * r + 0) (by omega) (by omega), ← h (11 + 4 * r + 1) (by omega) (by omega), ← h (11 + 4 * r + 2) (by omega) (by omega), ← h (11 + 4 * r + 3) (by omega) (by omega)]
    exact ⟨a, b, c, d, e.ext (fun j j0 j1 => h (51 + 30 * r + j) (by omega) (by omega))⟩
theorem zAgr.b1 {s t nm nm' : Int → Int} (h : zAgr s t) (hn : ∀ r, 0 ≤ r → r < 10 → nm r = nm' r) {V : CV} (hB : zB1 V s nm) : zB1 V t nm' := by
  have w0 := hB.1.1
  refine ⟨h.W hB.1, h.B hB.1 hB.2.1, fun r r0 r1 => ?_⟩
  rw [← h 0 (by omega) (by omega)] at r1
  obtain ⟨h1, h2⟩ := hB.2.2 r r0 r1
  refine ⟨by rw [← hn r r0 (by omega)]; exact h1, fun q q0 q1 => ?_⟩
  rw [← hn q q0 (by omega), ← hn r r0 (by omega)]
  exact h2 q q0 q1
/-- a copied board -/
theorem b_copyFrom {V U : CV} : zOk (fX0_copyFrom V U) (fun t => (∀ k, k ≤ 5 → t.1 k = U.1 k) ∧ (∀ j, 1 ≤ j → j ≤ 5 → ∀ i, 0 ≤ i → i < 10 → t.2 j i = U.2 j i) ∧ ∀ i, 0 ≤ i → i < 6 → t.2 6 i = U.2 6 i) := by
  unfold fX0_copyFrom
  refine zok_F (mk := fun a i => (i, a)) 10 (fun i (t : CV) => (∀ k, k ≤ 5 → t.1 k = U.1 k) ∧ ∀ j, 1 ≤ j → j ≤ 5 → ∀ i', 0 ≤ i' → i' < i → t.2 j i' = U.2 j i') rfl (by omega) ⟨fun k hk => ?_, fun j _ _ i' _ _ => by omega⟩ (fun i t hi hi2 hI => ?_) (fun i t hi hi2 hi3 hi4 hI => ?_)
  · have e : k = 0 ∨ k = 1 ∨ k = 2 ∨ k = 3 ∨ k = 4 ∨ k = 5 := by omega
    rcases e with e | e | e | e | e | e <;> subst e <;> rfl
  · dsimp only
    (repeat (first | (with_reducible refine zok_g ?_ ?_; focus omega) | with_reducible refine zok_j ?_ | (with_reducible refine zok_t ?_ ?_; focus omega) | (with_reducible refine zok_f ?_ ?_; focus omega)))
    refine zok_sl ⟨_, rfl, hI.1, fun j j0 j1 i' i0 i1 => ?_⟩
    have e : j = 1 ∨ j = 2 ∨ j = 3 ∨ j = 4 ∨ j = 5 := by omega
    have key : ∀ f : Int → Int, (if i' = i then U.2 j i else f i') = U.2 j i' ∨ i' ≠ i := fun f => by
      by_cases c : i' = i
      · left; rw [if_pos c, c]
      · exact Or.inr c
    by_cases c : i' = i
    · subst c
      rcases e with e | e | e | e | e <;> subst e
      · show zup (t.2 1) i' (U.2 1 i') i' = _; exact zup_s
      · show zup (t.2 2) i' (U.2 2 i') i' = _; exact zup_s
      · show zup (t.2 3) i' (U.2 3 i') i' = _; exact zup_s
      · show zup (t.2 4) i' (U.2 4 i') i' = _; exact zup_s
      · show zup (t.2 5) i' (U.2 5 i') i' = _; exact zup_s
    · have h2 := hI.2 j j0 j1 i' i0 (by omega)
      rcases e with e | e | e | e | e <;> subst e
      · show zup (t.2 1) i (U.2 1 i) i' = _; rw [zup_n c]; exact h2
      · show zup (t.2 2) i (U.2 2 i) i' = _; rw [zup_n c]; exact h2
      · show zup (t.2 3) i (U.2 3 i) i' = _; rw [zup_n c]; exact h2
      · show zup (t.2 4) i (U.2 4 i) i' = _; rw [zup_n c]; exact h2
      · show zup (t.2 5) i (U.2 5 i) i' = _; rw [zup_n c]; exact h2
  · have ei := hi3 (by omega)
    subst ei
    dsimp only
    (repeat (first | (with_reducible refine zok_g ?_ ?_; focus omega) | with_reducible refine zok_j ?_ | (with_reducible refine zok_t ?_ ?_; focus omega) | (with_reducible refine zok_f ?_ ?_; focus omega)))
    refine zok_sr ?_
    dsimp only
    refine zok_F (mk := fun a i => (i, a)) 6 (fun i (t : CV) => (∀ k, k ≤ 5 → t.1 k = U.1 k) ∧ (∀ j, 1 ≤ j → j ≤ 5 → ∀ i', 0 ≤ i' → i' < 10 → t.2 j i' = U.2 j i') ∧ ∀ i', 0 ≤ i' → i' < i → t.2 6 i' = U.2 6 i') rfl (by omega) ⟨hI.1, hI.2, fun i' _ _ => by omega⟩ (fun i t hi hi2 hJ => ?_) (fun i t hi hi2 hi3 hi4 hJ => ?_)
    · dsimp only
      (repeat (first | (with_reducible refine zok_g ?_ ?_; focus omega) | with_reducible refine zok_j ?_ | (with_reducible refine zok_t ?_ ?_; focus omega) | (with_reducible refine zok_f ?_ ?_; focus omega)))
      refine zok_sl ⟨_, rfl, hJ.1, fun j j0 j1 i' i0 i1 => ?_, fun i' i0 i1 => ?_⟩
      · rw [zPa_n (by omega)]; exact hJ.2.1 j j0 j1 i' i0 i1
      · rw [zPa_s]
        by_cases c : i' = i
        · rw [c, zup_s]
        · rw [zup_n c]; exact hJ.2.2 i' i0 (by omega)
    · have ei := hi3 (by omega)
      subst ei
      dsimp only
      (repeat (first | (with_reducible refine zok_g ?_ ?_; focus omega) | with_reducible refine zok_j ?_ | (with_reducible refine zok_t ?_ ?_; focus omega) | (with_reducible refine zok_f ?_ ?_; focus omega)))
      exact zok_sr (zok_s hJ)
theorem b_copyB {V U : CV} {s nm : Int → Int} (hB : zB1 U s nm) : zOk (fX0_copyFrom V U) (fun t => zB1 t s nm) := by
  refine zok_w b_copyFrom (fun t ht => ?_)
  obtain ⟨a, b, c⟩ := ht
  obtain ⟨hW, ⟨g0, g1, g2, g3, g4, g5, g6, g7⟩, hn⟩ := hB
  have w0 := hW.1
  have w4 := hW.2.2.2.2.1
  refine ⟨hW, ⟨(a 0 (by omega)).trans g0, (a 1 (by omega)).trans g1, (a 2 (by omega)).trans g2, (a 3 (by omega)).trans g3, (a 5 (by omega)).trans g4, fun k k0 k1 => (c k k0 (by omega)).trans (g5 k k0 k1), by rw [a 4 (by omega)]; exact g6, fun r r0 r1 => ?_⟩, fun r r0 r1 => by rw [b 1 (by omega) (by omega) r r0 (by omega)]; exact hn r r0 r1⟩
  rw [b 2 (by omega) (by omega) r r0 (by omega), b 3 (by omega) (by omega) r r0 (by omega), b 4 (by omega) (by omega) r r0 (by omega), b 5 (by omega) (by omega) r r0 (by omega), a 4 (by omega)]
  exact g7 r r0 r1
/-- the model's copies -/
theorem m_laysAside {m : CV} : zOk (fX8_laysAside m) (fun t => zEx [] [5] m t ∧ zAgr (m.2 2) (t.2 5)) := by
  unfold fX8_laysAside
  refine zok_F (mk := fun a i => (i, a)) 351 (fun i t => zEx [] [5] m t ∧ ∀ j, 0 ≤ j → j < i → m.2 2 j = t.2 5 j) rfl (by omega) ⟨zEx_0, fun j _ _ => by omega⟩ (fun i t hi hi2 hI => ?_) (fun i t hi hi2 hi3 hi4 hI => ?_)
  · dsimp only
    (repeat (first | (with_reducible refine zok_g ?_ ?_; focus omega) | with_reducible refine zok_j ?_ | (with_reducible refine zok_t ?_ ?_; focus omega) | (with_reducible refine zok_f ?_ ?_; focus omega)))
    refine zok_sl ⟨_, rfl, zEx_a hI.1 (by decide), fun j j0 j1 => ?_⟩
    rw [zPa_s]
    by_cases e : j = i
    · rw [e, zup_s, hI.1.2 2 (by decide)]
    · rw [zup_n e]; exact hI.2 j j0 (by omega)
  · have ei := hi3 (by omega)
    subst ei
    dsimp only
    (repeat (first | (with_reducible refine zok_g ?_ ?_; focus omega) | with_reducible refine zok_j ?_ | (with_reducible refine zok_t ?_ ?_; focus omega) | (with_reducible refine zok_f ?_ ?_; focus omega)))
    exact zok_sr (zok_s hI)
theorem m_keeps {m : CV} (h : 0 ≤ m.1 22 ∧ m.1 22 ≤ 6) : zOk (fX8_keeps m) (fun t => zEx [22] [4] m t ∧ t.1 22 = (if m.1 22 = 6 then 6 else m.1 22 + 1) ∧ ∀ p, 0 ≤ p → p < t.1 22 → zAgr (if p = t.1 22 - 1 then m.2 5 else if m.1 22 = 6 then zPt m (p + 1) else zPt m p) (zPt t p)) := by
  unfold fX8_keeps
  refine zok_jP (fun (x : CV) => zEx [22] [4] m x ∧ x.1 22 = (if m.1 22 = 6 then 5 else m.1 22) ∧ ∀ p, 0 ≤ p → p < x.1 22 → zAgr (if m.1 22 = 6 then zPt m (p + 1) else zPt m p) (zPt x p)) (fun x hx => ?_) (fun K hK => ?_)
  · obtain ⟨hE, h22, hp⟩ := hx
    have hb : 0 ≤ x.1 22 ∧ x.1 22 ≤ 5 := by rw [h22]; split <;> omega
    refine zok_F (mk := fun a i => (i, a)) 351 (fun i t => zEx [] [4] x t ∧ (∀ j, j < 351 * x.1 22 → t.2 4 j = x.2 4 j) ∧ ∀ j, 0 ≤ j → j < i → t.2 4 (351 * x.1 22 + j) = m.2 5 j) rfl (by omega) ⟨zEx_0, fun j _ => rfl, fun j _ _ => by omega⟩ (fun i t hi hi2 hI => ?_) (fun i t hi hi2 hi3 hi4 hI => ?_)
    · dsimp only
      rw [hI.1.1 22 (by decide), hI.1.2 5 (by decide), hE.2 5 (by decide)]
      (repeat (first | (with_reducible refine zok_g ?_ ?_; focus omega) | with_reducible refine zok_j ?_ | (with_reducible refine zok_t ?_ ?_; focus omega) | (with_reducible refine zok_f ?_ ?_; focus omega)))
      refine zok_sl ⟨_, rfl, zEx_a hI.1 (by decide), fun j j1 => ?_, fun j j0 j1 => ?_⟩
      · rw [zPa_s, zup_n (by omega)]
        exact hI.2.1 j j1
      · rw [zPa_s]
        by_cases e : j = i
        · rw [e, zup_s]
        · rw [zup_n (by omega)]; exact hI.2.2 j j0 (by omega)
    · have ei := hi3 (by omega)
      subst ei
      dsimp only
      (repeat (first | (with_reducible refine zok_g ?_ ?_; focus omega) | with_reducible refine zok_j ?_ | (with_reducible refine zok_t ?_ ?_; focus omega) | (with_reducible refine zok_f ?_ ?_; focus omega)))
      refine zok_sr (zok_s ⟨zEx_u (zEx_t hE (zEx_w hI.1 (by decide) (fun _ h => h))) (by decide), ?_, fun p p0 p1 => ?_⟩)
      · show t.1 22 + 1 = _
        rw [hI.1.1 22 (by decide), h22]
        split <;> omega
      · have e22 : (zPu t 22 (t.1 22 + 1)).1 22 = x.1 22 + 1 := by rw [zPu_s, hI.1.1 22 (by decide)]
        rw [e22] at p1 ⊢
        intro j j0 j1
        show _ = t.2 4 (351 * p + j)
        by_cases c : p = x.1 22 + 1 - 1
        · rw [if_pos c, c, show x.1 22 + 1 - 1 = x.1 22 by omega]
          exact (hI.2.2 j j0 j1).symm
        · rw [if_neg c, hI.2.1 _ (by omega)]
          exact hp p p0 (by omega) j j0 j1
  · (repeat (first | (with_reducible refine zok_g ?_ ?_; focus omega) | with_reducible refine zok_j ?_ | (with_reducible refine zok_t ?_ ?_; focus omega) | (with_reducible refine zok_f ?_ ?_; focus omega)))
    refine zok_i (fun c => ?_) (fun c => hK m ⟨zEx_0, by rw [if_neg c], fun p _ _ => by rw [if_neg c]; exact fun _ _ _ => rfl⟩)
    have e5 : (zPu m 22 (m.1 22 - 1)).1 22 = 5 := by rw [zPu_s]; omega
    refine zok_F (mk := fun a i => (i, a)) 1755 (fun i t => zEx [22] [4] m t ∧ t.1 22 = 5 ∧ (∀ j, 0 ≤ j → j < i → t.2 4 j = m.2 4 (j + 351)) ∧ ∀ j, i ≤ j → t.2 4 j = m.2 4 j) rfl (by omega) ⟨zEx_u zEx_0 (by decide), e5, fun j _ _ => by omega, fun j _ => rfl⟩ (fun i t hi hi2 hI => ?_) (fun i t hi hi2 hi3 hi4 hI => ?_)
    · dsimp only
      rw [hI.2.1]
      (repeat (first | (with_reducible refine zok_g ?_ ?_; focus omega) | with_reducible refine zok_j ?_ | (with_reducible refine zok_t ?_ ?_; focus omega) | (with_reducible refine zok_f ?_ ?_; focus omega)))
      refine zok_sl ⟨_, rfl, zEx_a hI.1 (by decide), hI.2.1, fun j j0 j1 => ?_, fun j j0 => ?_⟩
      · rw [zPa_s]
        by_cases e : j = i
        · rw [e, zup_s]; exact hI.2.2.2 _ (by omega)
        · rw [zup_n e]; exact hI.2.2.1 j j0 (by omega)
      · rw [zPa_s, zup_n (by omega)]
        exact hI.2.2.2 j (by omega)
    · have ei := hi3 (by omega)
      subst ei
      dsimp only
      rw [hI.2.1]
      (repeat (first | (with_reducible refine zok_g ?_ ?_; focus omega) | with_reducible refine zok_j ?_ | (with_reducible refine zok_t ?_ ?_; focus omega) | (with_reducible refine zok_f ?_ ?_; focus omega)))
      refine zok_sr (hK t ⟨hI.1, by rw [if_pos c]; exact hI.2.1, fun p p0 p1 => ?_⟩)
      rw [hI.2.1] at p1
      rw [if_pos c]
      intro j j0 j1
      show m.2 4 (351 * (p + 1) + j) = t.2 4 (351 * p + j)
      rw [hI.2.2.1 (351 * p + j) (by omega) (by omega), show 351 * (p + 1) + j = 351 * p + j + 351 by omega]
end ZKP
