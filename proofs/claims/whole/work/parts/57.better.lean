/-! A NUMBER OF A ROW IS SET -/
def zSet (s : Int → Int) (r w v : Int) : Int → Int := zup s (11 + 4 * r + w) v
section ZSE
variable {s : Int → Int}
theorem zSet_c {r w v k : Int} (hk : k ≤ 10) (hr : 0 ≤ r) (hw : 0 ≤ w) : zSet s r w v k = s k := zup_n (by omega)
theorem zSet_l {r w v r' i : Int} (hr : r < 10) (hw : w ≤ 3) (hr' : 0 ≤ r') (hi : 0 ≤ i) : zl (zSet s r w v) r' i = zl s r' i := zup_n (by omega)
theorem zSet_s {r w v : Int} : zf (zSet s r w v) r w = v := zup_s
theorem zSet_n {r w v r' w' : Int} (hw : 0 ≤ w ∧ w ≤ 3) (hw' : 0 ≤ w' ∧ w' ≤ 3) (h : r' ≠ r ∨ w' ≠ w) : zf (zSet s r w v) r' w' = zf s r' w' := zup_n (by omega)
/-- places don't hang on what is chosen -/
theorem zSet1_p {r b r' i : Int} (hr : 0 ≤ r) (_hr' : 0 ≤ r') : zPlP (zSet s r 1 b) r' i ↔ zPlP s r' i := by
  unfold zPlP
  rw [zSet_n (by omega) (by omega) (by omega), zSet_n (by omega) (by omega) (by omega), zSet_n (by omega) (by omega) (by omega), zSet_c (by omega) hr (by omega)]
theorem zSet1_W (hW : zWf s) {r b : Int} (h0 : 0 ≤ r) (h1 : r < s 0) (hb : b = -1 ∨ zPlP s r b) : zWf (zSet s r 1 b) := by
  obtain ⟨w0, w1, w2, w3, w4, w5, w6⟩ := hW
  have c := fun k (hk : k ≤ 10) => zSet_c (s := s) (v := b) (k := k) hk h0 (w := 1) (by omega)
  unfold zWf
  rw [c 0 (by omega), c 1 (by omega), c 2 (by omega), c 3 (by omega), c 4 (by omega)]
  refine ⟨w0, w1, w2, w3, w4, fun k hk0 hk1 => ?_, fun r' hr0 hr1 => ?_⟩
  · unfold zWords
    rw [c (5 + k) (by omega), c 1 (by omega), c 2 (by omega)]
    exact w5 k hk0 hk1
  · obtain ⟨g0, g1, g2, g3, g4, g5⟩ := w6 r' hr0 hr1
    unfold zRw
    rw [zSet_n (w := 1) (w' := 0) (by omega) (by omega) (by omega), zSet_n (w := 1) (w' := 2) (by omega) (by omega) (by omega), zSet_n (w := 1) (w' := 3) (by omega) (by omega) (by omega), c 1 (by omega)]
    by_cases e : r' = r
    · subst e
      rw [zSet_s]
      refine ⟨g0, ?_, g2, g3, fun i i0 i1 => ?_, fun hn => ?_⟩
      · rcases hb with hb | hb
        · omega
        · have := hb.2.1; have := hb.2.2.1; omega
      · rw [zSet_l (by omega) (by omega) (by omega) i0]
        exact g4 i i0 i1
      · rw [zSet1_p h0 h0]
        rcases hb with hb | hb
        · exact absurd hb hn
        · exact hb
    · rw [zSet_n (w := 1) (w' := 1) (by omega) (by omega) (by omega)]
      refine ⟨g0, g1, g2, g3, fun i i0 i1 => ?_, fun hn => ?_⟩
      · rw [zSet_l (by omega) (by omega) (by omega) i0]
        exact g4 i i0 i1
      · rw [zSet1_p h0 hr0]
        exact g5 hn
theorem zSet1_R {V : CV} (hW : zWf s) (hR : zRB V s) {r b : Int} (h0 : 0 ≤ r) (h1 : r < s 0) : zRB (zPa V 5 r b) (zSet s r 1 b) := by
  obtain ⟨g0, g1, g2, g3, g4, g5, g6, g7⟩ := hR
  have w0 := hW.1
  have w4 := hW.2.2.2.2.1
  have c := fun k (hk : k ≤ 10) => zSet_c (s := s) (v := b) (k := k) hk h0 (w := 1) (by omega)
  unfold zRB
  rw [c 0 (by omega), c 1 (by omega), c 2 (by omega), c 3 (by omega), c 4 (by omega)]
  refine ⟨g0, g1, g2, g3, g4, fun k hk0 hk1 => ?_, g6, fun r' hr0 hr1 => ?_⟩
  · rw [c (5 + k) (by omega), zPa_n (by decide)]
    exact g5 k hk0 hk1
  · obtain ⟨e0, e1, e2, e3, e4⟩ := g7 r' hr0 hr1
    rw [zSet_n (w := 1) (w' := 0) (by omega) (by omega) (by omega), zSet_n (w := 1) (w' := 2) (by omega) (by omega) (by omega), zSet_n (w := 1) (w' := 3) (by omega) (by omega) (by omega)]
    rw [zPa_n (k := 3) (by decide), zPa_n (k := 4) (by decide), zPa_n (k := 2) (by decide), zPa_s]
    have hsz := (hW.row hr0 hr1).1
    have e4' : zCd (V.2 2 r') (zf s r' 0) (zl (zSet s r 1 b) r') := e4.ext (fun j j0 j1 => (zSet_l (by omega) (by omega) hr0 j0).symm)
    by_cases e : r' = r
    · subst e
      exact ⟨e0, by rw [zup_s, zSet_s], e2, e3, e4'⟩
    · exact ⟨e0, by rw [zup_n e, zSet_n (by omega) (by omega) (by omega)]; exact e1, e2, e3, e4'⟩
end ZSE
/-! WEIGHTS, BETTERING -/
section ZBT
variable {s : Int → Int}
def zWg (s : Int → Int) (but : Int) (u : Int → Int) : Int := zFd (fun j a => a * (1 + zCt s but j (u j))) (s 2).toNat 1
theorem zWg_i (hW : zWf s) {but : Int} {u : Int → Int} (n : Nat) (hn : n ≤ 6) : 1 ≤ zFd (fun j a => a * (1 + zCt s but j (u j))) n 1 ∧ zFd (fun j a => a * (1 + zCt s but j (u j))) n 1 ≤ 1771561 := by
  have h := zFd_I (f := fun j a => a * (1 + zCt s but j (u j))) (a := (1 : Int)) (fun i x => 1 ≤ x ∧ x ≤ zPw 11 i) ⟨Int.le_refl 1, Int.le_refl 1⟩ n (fun i x hi _ hx => by
    have hc := zCt_r hW (but := but) (i := i) (x := u i)
    rw [zPw_s hi]
    constructor
    · show 1 ≤ x * (1 + zCt s but i (u i))
      have := Int.mul_le_mul_of_nonneg_left (show 1 ≤ 1 + zCt s but i (u i) by omega) (show 0 ≤ x by omega)
      omega
    · show x * (1 + zCt s but i (u i)) ≤ zPw 11 i * 11
      exact Int.mul_le_mul hx.2 (by omega) (by omega) (by omega))
  have h2 := zPw_le (b := 11) (j := n) (k := 6) (by omega) (by omega) (by omega)
  have e : zPw 11 6 = 1771561 := by decide
  omega
theorem zWg_r (hW : zWf s) {but : Int} {u : Int → Int} : 1 ≤ zWg s but u ∧ zWg s but u ≤ 1771561 := by
  have := hW.2.2.1
  exact zWg_i hW _ (by omega)
theorem c_weightOf {P : CV} (hW : zWf s) {but c : Int} {u : Int → Int} (hP2 : P.1 2 = s 2) (hP : zPr s but (P.2 1)) (hc : zCd c (s 2) u) (hu : ∀ j, 0 ≤ j → j < s 2 → 0 ≤ u j ∧ u j < 4) : fX1_weightOf P c = some (zWg s but u) := by
  apply zok_q
  unfold fX1_weightOf
  have w2 := hW.2.2.1
  rw [hP2]
  refine zok_F (mk := fun a i => (a, i)) (s 2) (fun i a => a = zFd (fun j a => a * (1 + zCt s but j (u j))) i.toNat 1) rfl (by omega) rfl (fun i a hi hi2 hI => ?_) (fun i a hi hi2 hi3 hi4 hI => ?_)
  · dsimp only
    (repeat (first | (with_reducible refine zok_g ?_ ?_; focus omega) | with_reducible refine zok_j ?_ | (with_reducible refine zok_t ?_ ?_; focus omega) | (with_reducible refine zok_f ?_ ?_; focus omega)))
    refine zok_e (b_letterOf hc (by omega) hi hi2) ?_
    have hui := hu i hi hi2
    have hco : fX1_countOf P i (u i) = some (zCt s but i (u i)) := by
      apply zok_q
      unfold fX1_countOf
      (repeat (first | (with_reducible refine zok_g ?_ ?_; focus omega) | with_reducible refine zok_j ?_ | (with_reducible refine zok_t ?_ ?_; focus omega) | (with_reducible refine zok_f ?_ ?_; focus omega)))
      exact zok_s (hP i (u i) hi hi2 hui.1 hui.2)
    refine zok_e hco (zok_sl ⟨_, rfl, ?_⟩)
    rw [zFd_s hi, ← hI]
  · dsimp only
    (repeat (first | (with_reducible refine zok_g ?_ ?_; focus omega) | with_reducible refine zok_j ?_ | (with_reducible refine zok_t ?_ ?_; focus omega) | (with_reducible refine zok_f ?_ ?_; focus omega)))
    refine zok_sr (zok_s ?_)
    rw [hI, hi3 (by omega)]
    rfl
theorem m_weighs {m : CV} (hs : m.2 2 = s) (hW : zWf s) {but r i : Int} (hP : zPr s but (m.2 14)) (h0 : 0 ≤ r) (h1 : r < s 0) (hi : 0 ≤ i) (hi2 : i ≤ zf s r 0 - s 2) : fX8_weighs m r i = some (zWg s but (fun j => zl s r (i + j))) := by
  apply zok_q
  unfold fX8_weighs
  have w0 := hW.1
  have w1 := hW.2.1
  have w2 := hW.2.2.1
  obtain ⟨⟨a1, a2⟩, _, _, _, a5, _⟩ := hW.row h0 h1
  rw [hs]
  refine zok_F (mk := fun a i => (a, i)) (s 2) (fun k a => a = zFd (fun j a => a * (1 + zCt s but j (zl s r (i + j)))) k.toNat 1) rfl (by omega) rfl (fun k a hk hk2 hI => ?_) (fun k a hk hk2 hk3 hk4 hI => ?_)
  · dsimp only
    (repeat (first | (with_reducible refine zok_g ?_ ?_; focus omega) | with_reducible refine zok_j ?_ | (with_reducible refine zok_t ?_ ?_; focus omega) | (with_reducible refine zok_f ?_ ?_; focus omega)))
    have hx := a5 (i + k) (by omega) (by omega)
    refine zok_e (m_letterAt hs (by omega) (by omega)) ?_
    (repeat (first | (with_reducible refine zok_g ?_ ?_; focus omega) | with_reducible refine zok_j ?_ | (with_reducible refine zok_t ?_ ?_; focus omega) | (with_reducible refine zok_f ?_ ?_; focus omega)))
    refine zok_sl ⟨_, rfl, ?_⟩
    rw [zFd_s hk, ← hI, hP k _ hk hk2 hx.1 (by omega)]
  · dsimp only
    (repeat (first | (with_reducible refine zok_g ?_ ?_; focus omega) | with_reducible refine zok_j ?_ | (with_reducible refine zok_t ?_ ?_; focus omega) | (with_reducible refine zok_f ?_ ?_; focus omega)))
    refine zok_sr (zok_s ?_)
    rw [hI, hk3 (by omega)]
    rfl
/-- the place that weighs most, and what it weighs -/
noncomputable def zBsf (s : Int → Int) (r i : Int) (p : Int × Int) : Int × Int := if zPl s r i = true ∧ (p.1 = -1 ∨ p.2 < zWg s r (fun j => zl s r (i + j))) then (i, zWg s r (fun j => zl s r (i + j))) else p
noncomputable def zBs (s : Int → Int) (r : Int) : Int := (zFd (zBsf s r) (zf s r 0).toNat (-1, 0)).1
theorem zBs_i (hW : zWf s) {r : Int} (n : Nat) : (-1 ≤ (zFd (zBsf s r) n (-1, 0)).1 ∧ (zFd (zBsf s r) n (-1, 0)).1 < n) ∧ (0 ≤ (zFd (zBsf s r) n (-1, 0)).2 ∧ (zFd (zBsf s r) n (-1, 0)).2 ≤ 1771561) ∧ ((zFd (zBsf s r) n (-1, 0)).1 = -1 → (zFd (zBsf s r) n (-1, 0)).2 = 0) ∧ ((zFd (zBsf s r) n (-1, 0)).1 ≠ -1 → zPlP s r (zFd (zBsf s r) n (-1, 0)).1) := by
  refine zFd_I (f := zBsf s r) (fun i p => (-1 ≤ p.1 ∧ p.1 < i) ∧ (0 ≤ p.2 ∧ p.2 ≤ 1771561) ∧ (p.1 = -1 → p.2 = 0) ∧ (p.1 ≠ -1 → zPlP s r p.1)) ⟨⟨by decide, by decide⟩, ⟨by decide, by decide⟩, fun _ => rfl, fun h => absurd rfl h⟩ n (fun i p hi _ hp => ?_)
  have hd := zWg_r hW (but := r) (u := fun j => zl s r (i + j))
  unfold zBsf
  split
  · rename_i h
    exact ⟨⟨by show -1 ≤ i; omega, by show i < i + 1; omega⟩, ⟨by show 0 ≤ zWg s r _; omega, hd.2⟩, fun z => by have : i = -1 := z; omega, fun _ => zPl_t.mp h.1⟩
  · exact ⟨⟨hp.1.1, by have := hp.1.2; omega⟩, hp.2⟩
theorem zBs_p (hW : zWf s) {r : Int} : zBs s r = -1 ∨ zPlP s r (zBs s r) := by
  by_cases h : zBs s r = -1
  · exact Or.inl h
  · exact Or.inr ((zBs_i hW _).2.2.2 h)
theorem c_betterRow {P V : CV} (hW : zWf s) (hR : zRB V s) {r : Int} (h0 : 0 ≤ r) (h1 : r < s 0) : zOk (fX1_betterRow P V r) (fun t => t.2.1 = zPa V 5 r (zBs s r) ∧ t.2.2 = decide (zf s r 1 ≠ zBs s r)) := by
  unfold fX1_betterRow
  have w0 := hW.1
  have w1 := hW.2.1
  have w2 := hW.2.2.1
  obtain ⟨⟨a1, a2⟩, ach, _, _, a5, _⟩ := hW.row h0 h1
  refine zok_b (c_fill hW hR ⟨by omega, by omega⟩) (fun t ht => ?_)
  have e : zFd (zBsf s r) (zf s r 0).toNat (-1, 0) = zFd (zBsf s r) (zf s r 0 - s 2 + 1).toNat (-1, 0) := zFd_pl hW h0 h1 (fun i x h => by
    unfold zBsf
    rw [if_neg (fun z => by rw [h] at z; exact absurd z.1 (by decide))])
  refine zok_F (mk := fun (p : Int × Int) i => (p.1, p.2, i)) (a0 := (-1, 0)) (zf s r 0 - s 2 + 1) (fun i p => p = zFd (zBsf s r) i.toNat (-1, 0)) rfl (by omega) rfl (fun i p hi hi2 hI => ?_) (fun i p hi hi2 hi3 hi4 hI => ?_)
  · refine zok_e (b_lastStart hW hR h0 h1) ?_
    dsimp only
    (repeat (first | (with_reducible refine zok_g ?_ ?_; focus omega) | with_reducible refine zok_j ?_ | (with_reducible refine zok_t ?_ ?_; focus omega) | (with_reducible refine zok_f ?_ ?_; focus omega)))
    refine zok_e (b_isPlace hW hR h0 h1 ⟨by omega, by omega⟩) ?_
    refine zok_i (fun hp => ?_) (fun hp => zok_sl ⟨p, rfl, ?_⟩)
    · refine zok_b (b_codeAt hW hR h0 h1 hi (by omega)) (fun cd hcd => ?_)
      refine zok_e (c_weightOf hW ht.2.1 ht.2.2 hcd (fun j j0 j1 => by have := a5 (i + j) (by omega) (by omega); omega)) ?_
      have hr := zBs_i hW (r := r) i.toNat
      rw [← hI] at hr
      have hw := zWg_r hW (but := r) (u := fun j => zl s r (i + j))
      (repeat (first | (with_reducible refine zok_g ?_ ?_; focus omega) | with_reducible refine zok_j ?_ | (with_reducible refine zok_t ?_ ?_; focus omega) | (with_reducible refine zok_f ?_ ?_; focus omega)))
      refine zok_i (fun c1 => zok_sl ⟨p, rfl, ?_⟩) (fun c1 => zok_sl ⟨(i, zWg s r (fun j => zl s r (i + j))), rfl, ?_⟩)
      · rw [zFd_s hi, ← hI]
        unfold zBsf
        rw [if_neg (fun z => by rcases z.2 with z | z; have := hr.2.2.1 z; omega; omega)]
      · rw [zFd_s hi, ← hI]
        unfold zBsf
        rw [if_pos ⟨hp, Or.inr (by omega)⟩]
    · rw [zFd_s hi, ← hI]
      unfold zBsf
      rw [if_neg (fun z => hp z.1)]
  · refine zok_e (b_lastStart hW hR h0 h1) ?_
    dsimp only
    (repeat (first | (with_reducible refine zok_g ?_ ?_; focus omega) | with_reducible refine zok_j ?_ | (with_reducible refine zok_t ?_ ?_; focus omega) | (with_reducible refine zok_f ?_ ?_; focus omega)))
    refine zok_sr ?_
    have hbs : p.1 = zBs s r := by
      unfold zBs
      rw [e, hI]
      have : i.toNat = (zf s r 0 - s 2 + 1).toNat := by omega
      rw [this]
    dsimp only
    rw [hbs, (hR.row h0 h1).2.1]
    have hbr := zBs_i hW (r := r) (zf s r 0).toNat
    have hb1 : zBs s r = (zFd (zBsf s r) (zf s r 0).toNat (-1, 0)).1 := rfl
    rw [← hb1] at hbr
    (repeat (first | (with_reducible refine zok_g ?_ ?_; focus omega) | with_reducible refine zok_j ?_ | (with_reducible refine zok_t ?_ ?_; focus omega) | (with_reducible refine zok_f ?_ ?_; focus omega)))
    refine zok_i (fun c => zok_s ⟨rfl, ?_⟩) (fun c => zok_s ⟨rfl, ?_⟩)
    · exact (decide_eq_false (fun z => z c)).symm
    · exact (decide_eq_true c).symm
theorem m_betters {m : CV} (hs : m.2 2 = s) (hW : zWf s) {r : Int} (h0 : 0 ≤ r) (h1 : r < s 0) : zOk (fX8_betters m r) (fun t => zEx [] [2, 14] m t.1 ∧ t.1.2 2 = zSet s r 1 (zBs s r) ∧ t.2 = zBs s r) := by
  unfold fX8_betters
  have w0 := hW.1
  have w1 := hW.2.1
  have w2 := hW.2.2.1
  obtain ⟨⟨a1, a2⟩, ach, _, _, a5, _⟩ := hW.row h0 h1
  refine zok_b (m_laysProfile hs hW ⟨by omega, by omega⟩) (fun t ht => ?_)
  have hs2 : t.2 2 = s := (ht.1.2 2 (by decide)).trans hs
  refine zok_F (mk := fun (p : Int × Int) i => (p.1, p.2, i)) (a0 := (-1, 0)) (zf s r 0) (fun i p => p = zFd (zBsf s r) i.toNat (-1, 0)) rfl (by omega) rfl (fun i p hi hi2 hI => ?_) (fun i p hi hi2 hi3 hi4 hI => ?_)
  · refine zok_e (m_of hs2 (by omega) (by omega)) ?_
    dsimp only
    (repeat (first | (with_reducible refine zok_g ?_ ?_; focus omega) | with_reducible refine zok_j ?_ | (with_reducible refine zok_t ?_ ?_; focus omega) | (with_reducible refine zok_f ?_ ?_; focus omega)))
    refine zok_e (m_isPlace hs2 hW h0 h1 ⟨by omega, by omega⟩) ?_
    refine zok_i (fun hp => ?_) (fun hp => zok_sl ⟨p, rfl, ?_⟩)
    · have hP := zPl_t.mp hp
      refine zok_e (m_weighs hs2 hW ht.2 h0 h1 hi hP.2.2.1) ?_
      have hr := zBs_i hW (r := r) i.toNat
      rw [← hI] at hr
      have hw := zWg_r hW (but := r) (u := fun j => zl s r (i + j))
      (repeat (first | (with_reducible refine zok_g ?_ ?_; focus omega) | with_reducible refine zok_j ?_ | (with_reducible refine zok_t ?_ ?_; focus omega) | (with_reducible refine zok_f ?_ ?_; focus omega)))
      refine zok_i (fun c1 => zok_sl ⟨(i, zWg s r (fun j => zl s r (i + j))), rfl, ?_⟩) (fun c1 => ?_)
      · rw [zFd_s hi, ← hI]
        unfold zBsf
        rw [if_pos ⟨hp, Or.inl c1⟩]
      · (repeat (first | (with_reducible refine zok_g ?_ ?_; focus omega) | with_reducible refine zok_j ?_ | (with_reducible refine zok_t ?_ ?_; focus omega) | (with_reducible refine zok_f ?_ ?_; focus omega)))
        refine zok_i (fun c2 => zok_sl ⟨(i, zWg s r (fun j => zl s r (i + j))), rfl, ?_⟩) (fun c2 => zok_sl ⟨p, rfl, ?_⟩)
        · rw [zFd_s hi, ← hI]
          unfold zBsf
          rw [if_pos ⟨hp, Or.inr (by omega)⟩]
        · rw [zFd_s hi, ← hI]
          unfold zBsf
          rw [if_neg (fun z => by rcases z.2 with z | z <;> omega)]
    · rw [zFd_s hi, ← hI]
      unfold zBsf
      rw [if_neg (fun z => hp z.1)]
  · refine zok_e (m_of hs2 (by omega) (by omega)) ?_
    dsimp only
    (repeat (first | (with_reducible refine zok_g ?_ ?_; focus omega) | with_reducible refine zok_j ?_ | (with_reducible refine zok_t ?_ ?_; focus omega) | (with_reducible refine zok_f ?_ ?_; focus omega)))
    refine zok_sr ?_
    have hbs : p.1 = zBs s r := by
      unfold zBs
      rw [hI, hi3 (by omega)]
    dsimp only
    rw [hbs]
    have hl : fX8_lays t r 1 (zBs s r) = some (zPa t 2 (11 + 4 * r + 1) (zBs s r)) := by
      apply zok_q
      unfold fX8_lays
      (repeat (first | (with_reducible refine zok_g ?_ ?_; focus omega) | with_reducible refine zok_j ?_ | (with_reducible refine zok_t ?_ ?_; focus omega) | (with_reducible refine zok_f ?_ ?_; focus omega)))
      exact zok_s rfl
    refine zok_e hl (zok_s ⟨zEx_a (zEx_w ht.1 (fun _ h => h) (by decide)) (by decide), ?_, rfl⟩)
    rw [zPa_s, hs2]
    rfl
end ZBT
