section ZWO
variable {s : Int → Int}
/-- a row less -/
theorem zOut_pl {r r' i : Int} (h : r' ≠ r) (h0 : 0 ≤ r) : zPlP (zSet s r 2 1) r' i ↔ zPlP s r' i := by
  unfold zPlP
  rw [zSet_n (w := 2) (w' := 2) (by omega) (by omega) (Or.inl h), zSet_n (w := 2) (w' := 0) (by omega) (by omega) (by omega), zSet_n (w := 2) (w' := 3) (by omega) (by omega) (by omega), zSet_c (by omega) h0 (by omega)]
theorem zOut_plb {r r' i : Int} (h : r' ≠ r) (h0 : 0 ≤ r) : zPl (zSet s r 2 1) r' i = zPl s r' i := by
  apply zEqB
  rw [zPl_t, zPl_t]
  exact zOut_pl h h0
theorem zOut_nr {r r' m : Int} {u : Int → Int} (h : r' ≠ r) (h0 : 0 ≤ r) (h1 : r < 10) (hr' : 0 ≤ r') : zNr (zSet s r 2 1) r' u m = zNr s r' u m := by
  unfold zNr
  rw [zSet_n (w := 2) (w' := 0) (by omega) (by omega) (by omega)]
  refine zFd_eq _ (fun i x hi _ => ?_)
  show (if zPl (zSet s r 2 1) r' i = true then zMin x (zDf (zSet s r 2 1) r' i u m) else x) = (if zPl s r' i = true then zMin x (zDf s r' i u m) else x)
  rw [zOut_plb h h0]
  have e : zDf (zSet s r 2 1) r' i u m = zDf s r' i u m := by
    unfold zDf zDn
    refine zFd_eq _ (fun j y hj _ => ?_)
    show y + (if zl (zSet s r 2 1) r' (i + j) = u j then 0 else 1) = y + (if zl s r' (i + j) = u j then 0 else 1)
    rw [zSet_l h1 (by omega) hr' (by omega)]
  rw [e]
theorem zOut_k (hW : zWf s) {r : Int} (h0 : 0 ≤ r) (h1 : r < s 0) : zWk (zSet s r 2 1) := by
  have hk := hW.k
  have w0 := hW.1
  have c := fun k (hk : k ≤ 10) => zSet_c (s := s) (v := 1) (k := k) hk h0 (w := 2) (by omega)
  unfold zWk zWords
  rw [c 0 (by omega), c 1 (by omega), c 2 (by omega), c 3 (by omega), c 4 (by omega)]
  refine ⟨hk.1, hk.2.1, hk.2.2.1, hk.2.2.2.1, hk.2.2.2.2.1, fun k k0 k1 => ?_, fun r' hr0 hr1 => ?_⟩
  · have := hk.2.2.2.2.1
    rw [c (5 + k) (by omega)]
    exact hk.2.2.2.2.2.1 k k0 k1
  · obtain ⟨g0, g1, g2, g3, g4⟩ := hk.row hr0 hr1
    unfold zRk
    rw [zSet_n (w := 2) (w' := 0) (by omega) (by omega) (by omega), zSet_n (w := 2) (w' := 1) (by omega) (by omega) (by omega), zSet_n (w := 2) (w' := 3) (by omega) (by omega) (by omega), c 1 (by omega)]
    refine ⟨g0, g1, ?_, g3, fun i i0 i1 => ?_⟩
    · by_cases e : r' = r
      · rw [e, zSet_s]; omega
      · rw [zSet_n (by omega) (by omega) (Or.inl e)]; exact g2
    · rw [zSet_l (by omega) (by omega) hr0 i0]
      exact g4 i i0 i1
theorem zOut_bd (hW : zWf s) {r m : Int} {u : Int → Int} (h0 : 0 ≤ r) (h1 : r < s 0) (ho : zf s r 2 ≠ 1) : zBd (zSet s r 2 1) u m = zBd s u m - zNr s r u m := by
  have w0 := hW.1
  have key : ∀ n : Nat, (n : Int) ≤ s 0 → zFd (fun r' a => if zf (zSet s r 2 1) r' 2 = 1 then a else a + zNr (zSet s r 2 1) r' u m) n 0 + (if r < n then zNr s r u m else 0) = zFd (fun r' a => if zf s r' 2 = 1 then a else a + zNr s r' u m) n 0 := by
    intro n
    induction n with
    | zero => intro _; rw [if_neg (by omega)]; rfl
    | succ n ih =>
      intro hn
      have h := ih (by omega)
      show (if zf (zSet s r 2 1) n 2 = 1 then _ else _ + zNr (zSet s r 2 1) n u m) + _ = (if zf s n 2 = 1 then _ else _ + zNr s n u m)
      by_cases e : (n : Int) = r
      · rw [e, zSet_s, if_pos rfl, if_neg ho, if_pos (by omega)]
        rw [if_neg (by omega), Int.add_zero] at h
        rw [h]
      · rw [zSet_n (by omega) (by omega) (Or.inl e), zOut_nr e h0 (by omega) (by omega)]
        have e2 : (if r < ((n + 1 : Nat) : Int) then zNr s r u m else 0) = (if r < (n : Int) then zNr s r u m else 0) := by
          by_cases l : r < (n : Int)
          · rw [if_pos l, if_pos (by omega)]
          · rw [if_neg l, if_neg (by omega)]
        rw [e2]
        by_cases o : zf s n 2 = 1
        · rw [if_pos o, if_pos o]; exact h
        · rw [if_neg o, if_neg o]; omega
  have h := key (s 0).toNat (by omega)
  rw [if_pos (by omega)] at h
  unfold zBd
  rw [zSet_c (by omega) h0 (by omega)]
  omega
/-- the best score without a row -/
noncomputable def zWo (s : Int → Int) (r : Int) : Int := (zSr (zSet s r 2 1)).2.1
theorem zWo_r (hW : zWf s) {r : Int} (h0 : 0 ≤ r) (h1 : r < s 0) : 0 ≤ zWo s r ∧ zWo s r ≤ 60 := by
  have hk := zOut_k hW h0 h1
  obtain ⟨_, _, w, _, e⟩ := zSr_min hk
  unfold zWo
  rw [e]
  have := hk.2.2.1
  exact kzFb_r hk (by omega) (Int.le_refl _)
theorem zWo_u (hW : zWf s) {r v : Int} (h0 : 0 ≤ r) (h1 : r < s 0) (ho : zf s r 2 ≠ 1) (h2 : ∀ w, 0 ≤ w → w < zWords s → v ≤ zFb s (s 2) w - zNr s r (zDg s w) (s 2)) (h3 : ∃ w, (0 ≤ w ∧ w < zWords s) ∧ v = zFb s (s 2) w - zNr s r (zDg s w) (s 2)) : v = zWo s r := by
  have hk := zOut_k hW h0 h1
  obtain ⟨_, a, w, hw, e⟩ := zSr_min hk
  have e2 : (zSet s r 2 1) 2 = s 2 := zSet_c (by omega) h0 (by omega)
  have eW : zWords (zSet s r 2 1) = zWords s := by
    unfold zWords
    rw [zSet_c (k := 1) (by omega) h0 (by omega), e2]
  have eF : ∀ w, zFb (zSet s r 2 1) (s 2) w = zFb s (s 2) w - zNr s r (zDg s w) (s 2) := fun w => by
    have eD : zDb (zSet s r 2 1) (s 2) w = zDb s (s 2) w := by
      funext j
      unfold zDb
      rw [zSet_c (k := 1) (by omega) h0 (by omega)]
    unfold zFb
    rw [eD]
    exact zOut_bd hW h0 h1 ho
  rw [eW] at hw a
  rw [e2, eF] at e
  obtain ⟨w', hw', e'⟩ := h3
  have a' := a w' hw'.1 hw'.2
  rw [e2, eF] at a'
  have b' := h2 w hw.1 hw.2
  unfold zWo
  omega
theorem zSB.ex1 {T t : CV} (h : zSB T s) (e : zEx [] [1] T t) : zSB t s := by
  unfold zSB at h ⊢
  rw [e.1 5 (by decide), e.1 6 (by decide), e.1 7 (by decide), e.1 100 (by decide), e.1 101 (by decide), e.1 102 (by decide), e.2 4 (by decide), e.2 2 (by decide)]
  exact h
theorem c_bestScoreWithout {T V : CV} (hW : zWf s) (hR : zRB V s) (hT : zSB T s) {r : Int} (h0 : 0 ≤ r) (h1 : r < s 0) (ho : zf s r 2 ≠ 1) : zOk (fX3_bestScoreWithout T V r) (fun t => zEx [] [1] T t.1 ∧ t.2 = zWo s r) := by
  unfold fX3_bestScoreWithout
  have w2 := hW.2.2.1
  have hw := zWords_r hW
  refine zok_b (c_fillNear hW hR h0 h1 hT.1 hT.2.1 hT.2.2.1 hT.2.2.2.1) (fun t ht => ?_)
  have hB := hT.ex1 ht.1
  have h100 := hB.2.2.2.1
  refine zok_F (mk := fun a i => (a, i)) (zWords s) (fun w v => (-6 ≤ v ∧ v ≤ 61) ∧ (∀ w', 0 ≤ w' → w' < w → v ≤ zFb s (s 2) w' - zNr s r (zDg s w') (s 2)) ∧ ((w = 0 ∧ v = 61) ∨ (1 ≤ w ∧ ∃ w', (0 ≤ w' ∧ w' < zWords s) ∧ v = zFb s (s 2) w' - zNr s r (zDg s w') (s 2)))) rfl (by omega) ⟨⟨by omega, by omega⟩, fun w' _ _ => by omega, Or.inl ⟨rfl, rfl⟩⟩ (fun w v q0 q1 hv => ?_) (fun w v q0 q1 q2 q3 hv => ?_)
  · dsimp only
    rw [hB.2.2.1]
    (repeat (first | (with_reducible refine zok_g ?_ ?_; focus omega) | with_reducible refine zok_j ?_ | (with_reducible refine zok_t ?_ ?_; focus omega) | (with_reducible refine zok_f ?_ ?_; focus omega)))
    refine zok_e (c_scoreOf hW hB q0 q1) ?_
    rw [ht.2 w q0 q1]
    have hF := zFb_r hW (m := s 2) (b := w) (by omega) (Int.le_refl _)
    have hN := zNr_r (s := s) (r := r) (u := zDg s w) (m := s 2) (by omega)
    have hmin : ∀ p q : Int, zMin p q ≤ p ∧ zMin p q ≤ q ∧ (zMin p q = q ∨ (zMin p q = p ∧ p ≤ q)) := fun p q => by
      unfold zMin
      split <;> omega
    have hm := hmin v (zFb s (s 2) w - zNr s r (zDg s w) (s 2))
    (repeat (first | (with_reducible refine zok_g ?_ ?_; focus omega) | with_reducible refine zok_j ?_ | (with_reducible refine zok_t ?_ ?_; focus omega) | (with_reducible refine zok_f ?_ ?_; focus omega)))
    refine zok_sl ⟨_, rfl, ⟨by omega, by omega⟩, fun w' a b => ?_, Or.inr ⟨by omega, ?_⟩⟩
    · by_cases e : w' = w
      · rw [e]; exact hm.2.1
      · have := hv.2.1 w' a (by omega)
        omega
    · rcases hm.2.2 with e | ⟨e, e3⟩
      · exact ⟨w, ⟨q0, q1⟩, e⟩
      · rcases hv.2.2 with ⟨_, e2⟩ | ⟨_, w', hw', e2⟩
        · omega
        · exact ⟨w', hw', e.trans e2⟩
  · dsimp only
    rw [hB.2.2.1]
    (repeat (first | (with_reducible refine zok_g ?_ ?_; focus omega) | with_reducible refine zok_j ?_ | (with_reducible refine zok_t ?_ ?_; focus omega) | (with_reducible refine zok_f ?_ ?_; focus omega)))
    have ew := q2 (by omega)
    subst ew
    refine zok_sr (zok_s ⟨ht.1, zWo_u hW h0 h1 ho hv.2.1 ?_⟩)
    rcases hv.2.2 with e | e
    · omega
    · exact e.2
theorem m_without {m : CV} (hs : m.2 2 = s) (hW : zWf s) {r : Int} (h0 : 0 ≤ r) (h1 : r < s 0) : zOk (fX8_without m r) (fun t => zEx [31, 32, 33, 34] [10] m t.1 ∧ t.2 = zWo s r) := by
  unfold fX8_without
  have w0 := hW.1
  have hk := zOut_k hW h0 h1
  refine zok_e (m_of hs (by omega) (by omega)) ?_
  refine zok_e (m_lays (by omega) (by omega)) ?_
  have hs2 : (zPa m 2 (11 + 4 * r + 2) 1).2 2 = zSet s r 2 1 := by rw [zPa_s, hs]; rfl
  refine zok_b (km_searches hk hs2) (fun t ht => ?_)
  refine zok_e (m_lays (by omega) (by omega)) (zok_s ⟨⟨fun k hk => ht.1.1 k hk, fun k hk => ?_⟩, ?_⟩)
  · by_cases e : k = 2
    · subst e
      show (zPa t 2 _ _).2 2 = _
      rw [zPa_s, ht.1.2 2 (by decide), hs2, hs]
      have : zup (zSet s r 2 1) (11 + 4 * r + 2) (zf s r 2) = zSet (zSet s r 2 1) r 2 (zf s r 2) := rfl
      rw [this, zSet_same, zSet_id]
    · show (zPa t 2 _ _).2 k = _
      rw [zPa_n e, ht.1.2 k hk, zPa_n e]
  · show t.1 32 = _
    have := ht.2
    unfold zWo
    rw [← this]
theorem zWo_out (hW : zWf s) {r : Int} (ho : zf s r 2 = 1) : zWo s r = (zSr s).2.1 := by
  unfold zWo
  rw [← ho, zSet_id]
end ZWO
