section ZCV
variable {s : Int → Int}
theorem x5_isPlace {V : CV} {r x r' i : Int} : fX0_isPlace (zPa V 5 r x) r' i = fX0_isPlace V r' i := rfl
theorem zTc_R {V : CV} (hW : zWf s) (hR : zRB V s) {u : Int → Int} {set r : Int} (h0 : 0 ≤ r) (h1 : r < s 0) : zRB (if zTs s u set r = -1 then V else zPa V 4 r (zOr (zf s r 3) (zLt (s 2) (zTs s u set r)))) (zTc s u set r) := by
  unfold zTc
  by_cases h : zTs s u set r = -1
  · rw [if_pos h, if_pos h]; exact hR
  · rw [if_neg h, if_neg h]
    generalize zOr (zf s r 3) (zLt (s 2) (zTs s u set r)) = v
    obtain ⟨g0, g1, g2, g3, g4, g5, g6, g7⟩ := hR
    have w0 := hW.1
    have w4 := hW.2.2.2.2.1
    have c := fun k (hk : k ≤ 10) => zSet_c (s := s) (v := v) (k := k) hk h0 (w := 3) (by omega)
    unfold zRB
    rw [c 0 (by omega), c 1 (by omega), c 2 (by omega), c 3 (by omega), c 4 (by omega)]
    refine ⟨g0, g1, g2, g3, g4, fun k hk0 hk1 => ?_, g6, fun r' hr0 hr1 => ?_⟩
    · rw [c (5 + k) (by omega), zPa_n (by decide)]
      exact g5 k hk0 hk1
    · obtain ⟨e0, e1, e2, e3, e4⟩ := g7 r' hr0 hr1
      rw [zSet_n (w := 3) (w' := 0) (by omega) (by omega) (by omega), zSet_n (w := 3) (w' := 2) (by omega) (by omega) (by omega), zSet_n (w := 3) (w' := 1) (by omega) (by omega) (by omega)]
      rw [zPa_n (k := 3) (by decide), zPa_n (k := 5) (by decide), zPa_n (k := 2) (by decide), zPa_s]
      have e4' : zCd (V.2 2 r') (zf s r' 0) (zl (zSet s r 3 v) r') := e4.ext (fun j j0 j1 => (zSet_l (by omega) (by omega) hr0 j0).symm)
      by_cases e : r' = r
      · subst e
        exact ⟨e0, e1, e2, by rw [zup_s, zSet_s], e4'⟩
      · exact ⟨e0, e1, e2, by rw [zup_n e, zSet_n (by omega) (by omega) (by omega)]; exact e3, e4'⟩
/-- a number is set where only the class's array 5 and the row's number 1 are others -/
theorem zSet1_Rk {V : CV} (hW : zWk s) (hR : zRB V s) {r b : Int} (h0 : 0 ≤ r) (h1 : r < s 0) : zRB (zPa V 5 r b) (zSet s r 1 b) := by
  obtain ⟨g0, g1, g2, g3, g4, g5, g6, g7⟩ := hR
  have w0 := hW.1
  have w4 := hW.2.2.2.2.1
  have c := fun k (hk : k ≤ 10) => zSet_c (s := s) (v := b) (k := k) hk h0 (w := 1) (by omega)
  unfold zRB
  rw [c 0 (by omega), c 1 (by omega), c 2 (by omega), c 3 (by omega), c 4 (by omega)]
  refine ⟨g0, g1, g2, g3, g4, fun k hk0 hk1 => ?_, g6, fun r' hr0 hr1 => ?_⟩
  · rw [c (5 + k) (by omega), zPa_n (by decide)]
    exact g5 k hk0 hk1
  · obtain ⟨e0, e1, e2, e3, e4⟩ := g7 r' hr0 hr1
    rw [zSet_n (w := 1) (w' := 0) (by omega) (by omega) (by omega), zSet_n (w := 1) (w' := 2) (by omega) (by omega) (by omega), zSet_n (w := 1) (w' := 3) (by omega) (by omega) (by omega)]
    rw [zPa_n (k := 3) (by decide), zPa_n (k := 4) (by decide), zPa_n (k := 2) (by decide), zPa_s]
    have e4' : zCd (V.2 2 r') (zf s r' 0) (zl (zSet s r 1 b) r') := e4.ext (fun j j0 j1 => (zSet_l (by omega) (by omega) hr0 j0).symm)
    by_cases e : r' = r
    · subst e
      exact ⟨e0, by rw [zup_s, zSet_s], e2, e3, e4'⟩
    · exact ⟨e0, by rw [zup_n e, zSet_n (by omega) (by omega) (by omega)]; exact e1, e2, e3, e4'⟩
theorem b_lettersFrom {V : CV} (hW : zWf s) (hR : zRB V s) {i : Int} (h0 : 0 ≤ i) (h1 : i < 32) : fX0_lettersFrom V i = some (zLt (s 2) i) := by
  apply zok_q
  unfold fX0_lettersFrom
  have w2 := hW.2.2.1
  rw [hR.2.1]
  (repeat (first | (with_reducible refine zok_g ?_ ?_; focus omega) | with_reducible refine zok_j ?_ | (with_reducible refine zok_t ?_ ?_; focus omega) | (with_reducible refine zok_f ?_ ?_; focus omega)))
  exact zok_s rfl
/-- what is taken stands in a class's board that says the rest -/
def zRT (N : Int → Int) (V : CV) (t : Int → Int) (n w : Int) : Prop := V.2 1 = N ∧ V.1 0 = t 1 ∧ V.1 1 = t 2 ∧ V.1 2 = t 3 ∧ V.1 3 = t 0 ∧ V.1 5 = n + 1 ∧ (∀ k, 0 ≤ k → k < n → V.2 6 k = t (5 + k)) ∧ V.2 6 n = w ∧ (0 ≤ V.1 4 ∧ V.1 4 < zP2 (t 0)) ∧ ∀ r, 0 ≤ r → r < t 0 → V.2 3 r = zf t r 0 ∧ V.2 5 r = zf t r 1 ∧ V.1 4 / zP2 r % 2 = zf t r 2 ∧ V.2 4 r = zf t r 3 ∧ zCd (V.2 2 r) (zf t r 0) (zl t r)
/-- such a board says t, but for what is taken -/
theorem zRT.b {N : Int → Int} {V : CV} {t : Int → Int} {n w : Int} (h : zRT N V t n w) (hn : n = t 4) : zRB (zPu V 5 n) t := by
  obtain ⟨_, g0, g1, g2, g3, g4, g5, _, g6, g7⟩ := h
  exact ⟨g0, g1, g2, g3, hn, fun k k0 k1 => g5 k k0 (by omega), g6, g7⟩
theorem zRT.of {N : Int → Int} {V : CV} {t : Int → Int} {n w : Int} (h : zRB (zPu V 5 n) t) (hn : n = t 4) (h5 : V.1 5 = n + 1) (h6 : V.2 6 n = w) (hN : V.2 1 = N) : zRT N V t n w := by
  obtain ⟨g0, g1, g2, g3, g4, g5, g6, g7⟩ := h
  exact ⟨hN, g0, g1, g2, g3, h5, fun k k0 k1 => g5 k k0 (by omega), h6, g6, g7⟩
theorem y5_isPlace {V : CV} {x r' i : Int} : fX0_isPlace (zPu V 5 x) r' i = fX0_isPlace V r' i := rfl
theorem y5_nearestStart {V : CV} {x r c : Int} : fX0_nearestStart (zPu V 5 x) r c = fX0_nearestStart V r c := rfl
theorem y5_lettersFrom {V : CV} {x i : Int} : fX0_lettersFrom (zPu V 5 x) i = fX0_lettersFrom V i := rfl
theorem c_cover {V : CV} (hW : zWf s) (hR : zRB V s) {w : Int} (h0 : 0 ≤ w) (h1 : w < zWords s) : zOk (fX0_cover V w) (fun t => if zWy s w = 0 then zRB t.1 (zTk s w) ∧ t.2 = zPop (zHv s (zDg s w)) ∧ t.1.2 1 = V.2 1 else t = (V, 0)) := by
  unfold fX0_cover
  have w0 := hW.1
  have w2 := hW.2.2.1
  have w4 := hW.2.2.2.2.1
  have hh := zHv_1024 hW (u := zDg s w)
  refine zok_b (b_codeOf hW hR h0 h1) (fun cd hcd => ?_)
  refine zok_j ?_
  rw [hR.2.2.2.2.1]
  (repeat (first | (with_reducible refine zok_g ?_ ?_; focus omega) | with_reducible refine zok_j ?_ | (with_reducible refine zok_t ?_ ?_; focus omega) | (with_reducible refine zok_f ?_ ?_; focus omega)))
  refine zok_i (fun c6 => ?_) (fun c6 => ?_)
  · (repeat (first | (with_reducible refine zok_g ?_ ?_; focus omega) | with_reducible refine zok_j ?_ | (with_reducible refine zok_t ?_ ?_; focus omega) | (with_reducible refine zok_f ?_ ?_; focus omega)))
    refine zok_s ?_
    unfold zWy
    rw [if_pos (show s 4 = 6 by omega), if_neg (by decide)]
  · have n6 : s 4 ≠ 6 := by omega
    refine zok_e (b_rowsHaving hW hR hcd) ?_
    (repeat (first | (with_reducible refine zok_g ?_ ?_; focus omega) | with_reducible refine zok_j ?_ | (with_reducible refine zok_t ?_ ?_; focus omega) | (with_reducible refine zok_f ?_ ?_; focus omega)))
    refine zok_i (fun cz => zok_s ?_) (fun cz => ?_)
    · unfold zWy
      rw [if_neg n6, if_pos cz, if_neg (by decide)]
    · have hwy : zWy s w = 0 := by
        unfold zWy
        rw [if_neg n6, if_neg cz]
      refine zok_w (P := fun t => zRB t.1 (zTk s w) ∧ t.2 = zPop (zHv s (zDg s w)) ∧ t.1.2 1 = V.2 1) ?_ (fun t ht => by rw [if_pos hwy]; exact ht)
      (repeat (first | (with_reducible refine zok_g ?_ ?_; focus omega) | with_reducible refine zok_j ?_ | (with_reducible refine zok_t ?_ ?_; focus omega) | (with_reducible refine zok_f ?_ ?_; focus omega)))
      refine zok_F (mk := fun a i => (i, a)) (s 0) (fun r U => zRT (V.2 1) U (zTn s (zDg s w) (zHv s (zDg s w)) r.toNat) (s 4) w) rfl (by omega) ?_ (fun r U hr hr2 hU => ?_) (fun r U hr hr2 hr3 hr4 hU => ?_)
      · show zRT (V.2 1) _ s (s 4) w
        obtain ⟨g0, g1, g2, g3, g4, g5, g6, g7⟩ := hR
        refine ⟨rfl, g0, g1, g2, g3, rfl, fun k k0 k1 => ?_, zup_s, g6, g7⟩
        show zup (V.2 6) (s 4) w k = _
        rw [zup_n (by omega)]
        exact g5 k k0 k1
      · obtain ⟨hN, hc⟩ := zTn_W hW (u := zDg s w) (set := zHv s (zDg s w)) r.toNat (by omega)
        generalize hT : zTn s (zDg s w) (zHv s (zDg s w)) r.toNat = t at hN hc hU
        have hB := hU.b (hc 4 (by omega)).symm
        have e0 := hc 0 (by omega)
        have e2 := hc 2 (by omega)
        have e4 := hc 4 (by omega)
        dsimp only
        rw [hU.2.2.2.2.1, e0]
        (repeat (first | (with_reducible refine zok_g ?_ ?_; focus omega) | with_reducible refine zok_j ?_ | (with_reducible refine zok_t ?_ ?_; focus omega) | (with_reducible refine zok_f ?_ ?_; focus omega)))
        have p1 := zP2_pos r
        have hst := zTs_r hN (u := zDg s w) (set := zHv s (zDg s w)) (r := r)
        -- the roads behind the start
        have road : zOk (zJn (σ := CV) (ρ := (Int × CV) ⊕ (Int × CV)) (fun x57 => zG (0 ≤ r ∧ r < 10) <| zG (iR (x57.2 5 r)) <| if (x57.2 5 r) = (-1) then (some (.inl (r + 1, x57))) else ((fX0_isPlace x57 r (x57.2 5 r)).bind fun t61 => if t61 = true then (some (.inl (r + 1, x57))) else (some (.inl (r + 1, (zPa x57 5 r (-1))))))) (fun j57 => zG (iR (zTs t (zDg s w) (zHv s (zDg s w)) r)) <| if (zTs t (zDg s w) (zHv s (zDg s w)) r) = (-1) then (j57 U) else (zG (0 ≤ r ∧ r < 10) <| (fX0_lettersFrom U (zTs t (zDg s w) (zHv s (zDg s w)) r)).bind fun t67 => zG (0 ≤ (U.2 4 r) ∧ 0 ≤ t67) <| j57 (zPa U 4 r (zOr (U.2 4 r) t67)))))
            (Sum.elim (fun s_1 => ∃ a', s_1 = (r + 1, a') ∧ zRT (V.2 1) a' (zTn s (zDg s w) (zHv s (zDg s w)) (r + 1).toNat) (s 4) w) (fun (y : Int × CV) => zOk (some (y.2, zPop (zHv s (zDg s w)))) fun t => zRB t.1 (zTk s w) ∧ t.2 = zPop (zHv s (zDg s w)) ∧ t.1.2 1 = V.2 1)) := by
          refine zok_j ?_
          have hsr : iR (zTs t (zDg s w) (zHv s (zDg s w)) r) := by
            rcases hst with h | h
            · rw [h]; decide
            · have := h.2.1
              have := h.2.2.1
              have := (hN.row hr (by omega)).1
              exact ⟨by omega, by omega⟩
          have hkc := zTc_k hN (u := zDg s w) (set := zHv s (zDg s w)) hr (r := r) (by omega)
          have hRc := zTc_R hN hB (u := zDg s w) (set := zHv s (zDg s w)) hr (r := r) (by omega)
          -- behind the covering
          have tail : ∀ U', U'.2 1 = V.2 1 → U'.1 5 = s 4 + 1 → U'.2 6 (s 4) = w → zRB (zPu U' 5 (s 4)) (zTc t (zDg s w) (zHv s (zDg s w)) r) → zOk (zG (0 ≤ r ∧ r < 10) <| zG (iR (U'.2 5 r)) <| if (U'.2 5 r) = (-1) then ((some (Sum.inl (r + 1, U'))) : Option ((Int × CV) ⊕ (Int × CV))) else ((fX0_isPlace U' r (U'.2 5 r)).bind fun t61 => if t61 = true then (some (.inl (r + 1, U'))) else (some (.inl (r + 1, (zPa U' 5 r (-1)))))))
              (Sum.elim (fun s_1 => ∃ a', s_1 = (r + 1, a') ∧ zRT (V.2 1) a' (zTn s (zDg s w) (zHv s (zDg s w)) (r + 1).toNat) (s 4) w) (fun (y : Int × CV) => zOk (some (y.2, zPop (zHv s (zDg s w)))) fun t => zRB t.1 (zTk s w) ∧ t.2 = zPop (zHv s (zDg s w)) ∧ t.1.2 1 = V.2 1)) := by
            intro U' hN' h5 h6 hB'
            have hc0 := zTc_c (s := t) (u := zDg s w) (set := zHv s (zDg s w)) (r := r) (k := 0) (by omega) hr
            have hc4 := zTc_c (s := t) (u := zDg s w) (set := zHv s (zDg s w)) (r := r) (k := 4) (by omega) hr
            have hch : U'.2 5 r = zf (zTc t (zDg s w) (zHv s (zDg s w)) r) r 1 := (hB'.row hr (by omega)).2.1
            have hcr := (hkc.row hr (by omega)).2.1
            rw [hch]
            (repeat (first | (with_reducible refine zok_g ?_ ?_; focus omega) | with_reducible refine zok_j ?_ | (with_reducible refine zok_t ?_ ?_; focus omega) | (with_reducible refine zok_f ?_ ?_; focus omega)))
            have fin : ∀ U'', U''.2 1 = V.2 1 → U''.1 5 = s 4 + 1 → U''.2 6 (s 4) = w → zRB (zPu U'' 5 (s 4)) (zTr (zDg s w) (zHv s (zDg s w)) r t) → zRT (V.2 1) U'' (zTn s (zDg s w) (zHv s (zDg s w)) (r + 1).toNat) (s 4) w := by
              intro U'' aN a5 a6 aB
              have h4 : zTr (zDg s w) (zHv s (zDg s w)) r t 4 = s 4 := by rw [zTr_c (by omega) hr, e4]
              rw [zTn_s hr, hT]
              exact zRT.of aB h4.symm a5 a6 aN
            refine zok_i (fun cm => zok_sl ⟨U', rfl, fin U' hN' h5 h6 ?_⟩) (fun cm => ?_)
            · unfold zTr
              rw [if_neg (fun z => z.1 cm)]
              exact hB'
            · refine zok_e ((y5_isPlace (x := s 4)).symm.trans (k_isPlace hkc hB' hr (by omega) ⟨by omega, by omega⟩)) ?_
              refine zok_i (fun cp => zok_sl ⟨U', rfl, fin U' hN' h5 h6 ?_⟩) (fun cp => zok_sl ⟨_, rfl, fin _ ?_ ?_ ?_ ?_⟩)
              · unfold zTr
                rw [if_neg (fun z => by rw [cp] at z; exact absurd z.2 (by decide))]
                exact hB'
              · rw [zPa_n (by decide)]; exact hN'
              · exact h5
              · rw [zPa_n (by decide)]; exact h6
              · unfold zTr
                have cp2 : zPl (zTc t (zDg s w) (zHv s (zDg s w)) r) r (zf (zTc t (zDg s w) (zHv s (zDg s w)) r) r 1) = false := by
                  cases h : zPl (zTc t (zDg s w) (zHv s (zDg s w)) r) r (zf (zTc t (zDg s w) (zHv s (zDg s w)) r) r 1) with
                  | false => rfl
                  | true => exact absurd h cp
                rw [if_pos ⟨cm, cp2⟩]
                exact zSet1_Rk hkc hB' hr (by omega)
          have h5 := hU.2.2.2.2.2.1
          have h6 := hU.2.2.2.2.2.2.2.1
          (repeat (first | (with_reducible refine zok_g ?_ ?_; focus omega) | with_reducible refine zok_j ?_ | (with_reducible refine zok_t ?_ ?_; focus omega) | (with_reducible refine zok_f ?_ ?_; focus omega)))
          refine zok_i (fun c1 => ?_) (fun c1 => ?_)
          · rw [if_pos c1] at hRc
            exact tail U hU.1 h5 h6 hRc
          · rw [if_neg c1] at hRc
            rcases hst with h | h
            · exact absurd h c1
            · have q1 := h.2.1
              have q2 := h.2.2.1
              have q3 := (hN.row hr (by omega)).1
              have q4 := (hN.row hr (by omega)).2.2.2.1
              (repeat (first | (with_reducible refine zok_g ?_ ?_; focus omega) | with_reducible refine zok_j ?_ | (with_reducible refine zok_t ?_ ?_; focus omega) | (with_reducible refine zok_f ?_ ?_; focus omega)))
              refine zok_e ((y5_lettersFrom (x := s 4)).symm.trans (b_lettersFrom hN hB q1 (by omega))) ?_
              have h4r : U.2 4 r = zf t r 3 := (hB.row hr (by omega)).2.2.2.1
              have hl0 := zLt_0 (k := t 2) (i := zTs t (zDg s w) (zHv s (zDg s w)) r)
              rw [h4r]
              refine zok_g ⟨q4.1, hl0⟩ ?_
              refine tail (zPa U 4 r (zOr (zf t r 3) (zLt (t 2) (zTs t (zDg s w) (zHv s (zDg s w)) r)))) ?_ h5 ?_ hRc
              · rw [zPa_n (by decide)]; exact hU.1
              · rw [zPa_n (by decide)]
                exact h6
        (repeat (first | (with_reducible refine zok_g ?_ ?_; focus omega) | with_reducible refine zok_j ?_ | (with_reducible refine zok_t ?_ ?_; focus omega) | (with_reducible refine zok_f ?_ ?_; focus omega)))
        have e01 : zHv s (zDg s w) / zP2 r % 2 = 0 ∨ zHv s (zDg s w) / zP2 r % 2 = 1 := by omega
        (repeat (first | (with_reducible refine zok_g ?_ ?_; focus omega) | with_reducible refine zok_j ?_ | (with_reducible refine zok_t ?_ ?_; focus omega) | (with_reducible refine zok_f ?_ ?_; focus omega)))
        refine zok_i (fun cb => ?_) (fun cb => ?_)
        · have hs1 : zTs t (zDg s w) (zHv s (zDg s w)) r = -1 := by
            unfold zTs
            rw [if_neg (by omega)]
          rw [hs1] at road
          exact road
        · have hs1 : zTs t (zDg s w) (zHv s (zDg s w)) r = zNs t r (zDg s w) := by
            unfold zTs
            rw [if_pos (by omega)]
          rw [hs1] at road
          rw [← e2] at hcd
          refine zok_e ((y5_nearestStart (x := s 4)).symm.trans (b_nearestStart hN hB hr (by omega) hcd)) ?_
          exact road
      · obtain ⟨hN, hc⟩ := zTn_W hW (u := zDg s w) (set := zHv s (zDg s w)) r.toNat (by omega)
        have e0 := hc 0 (by omega)
        dsimp only
        rw [hU.2.2.2.2.1, e0]
        (repeat (first | (with_reducible refine zok_g ?_ ?_; focus omega) | with_reducible refine zok_j ?_ | (with_reducible refine zok_t ?_ ?_; focus omega) | (with_reducible refine zok_f ?_ ?_; focus omega)))
        refine zok_sr (zok_s ⟨?_, rfl, hU.1⟩)
        have er : r = s 0 := hr3 (by omega)
        subst er
        obtain ⟨_, g0, g1, g2, g3, g4, g5, g55, g6, g7⟩ := hU
        unfold zTk
        generalize zTn s (zDg s w) (zHv s (zDg s w)) (s 0).toNat = t at *
        have e : ∀ k, k ≠ 4 → k ≠ 5 + s 4 → zup (zup t (5 + s 4) w) 4 (s 4 + 1) k = t k := fun k a b => by rw [zup_n a, zup_n b]
        have e4 : zup (zup t (5 + s 4) w) 4 (s 4 + 1) 4 = s 4 + 1 := zup_s
        have ew : zup (zup t (5 + s 4) w) 4 (s 4 + 1) (5 + s 4) = w := by rw [zup_n (by omega), zup_s]
        generalize hTT : zup (zup t (5 + s 4) w) 4 (s 4 + 1) = T at e e4 ew
        have ef : ∀ r k, 0 ≤ r → 0 ≤ k → zf T r k = zf t r k := fun r k a b => e _ (by omega) (by omega)
        have el : ∀ r k, 0 ≤ r → 0 ≤ k → zl T r k = zl t r k := fun r k a b => e _ (by omega) (by omega)
        refine ⟨by rw [e 1 (by omega) (by omega)]; exact g0, by rw [e 2 (by omega) (by omega)]; exact g1, by rw [e 3 (by omega) (by omega)]; exact g2, by rw [e 0 (by omega) (by omega)]; exact g3, by rw [e4]; exact g4, fun k k0 k1 => ?_, by rw [e 0 (by omega) (by omega)]; exact g6, fun r' r0 r1 => ?_⟩
        · by_cases ek : k = s 4
          · rw [ek, ew]; exact g55
          · rw [e (5 + k) (by omega) (by omega)]
            exact g5 k k0 (by omega)
        · rw [e 0 (by omega) (by omega)] at r1
          obtain ⟨a0, a1, a2, a3, a4⟩ := g7 r' r0 r1
          rw [ef r' 0 r0 (by omega), ef r' 1 r0 (by omega), ef r' 2 r0 (by omega), ef r' 3 r0 (by omega)]
          exact ⟨a0, a1, a2, a3, a4.ext (fun j j0 _ => (el r' j r0 j0).symm)⟩
end ZCV
