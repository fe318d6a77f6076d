section ZTT
variable {s : Int → Int}
theorem m_lays {m : CV} {r w v : Int} (h0 : 0 ≤ 11 + 4 * r + w) (h1 : 11 + 4 * r + w < 351) : fX8_lays m r w v = some (zPa m 2 (11 + 4 * r + w) v) := by
  apply zok_q
  unfold fX8_lays
  (repeat (first | (with_reducible refine zok_g ?_ ?_; focus omega) | with_reducible refine zok_j ?_ | (with_reducible refine zok_t ?_ ?_; focus omega) | (with_reducible refine zok_f ?_ ?_; focus omega)))
  exact zok_s rfl
theorem zSet_same {r w v v' : Int} : zSet (zSet s r w v) r w v' = zSet s r w v' := by
  funext k
  unfold zSet zup
  split <;> rfl
theorem zSet_id {r w : Int} : zSet s r w (zf s r w) = s := by
  funext k
  unfold zSet zup zf
  split
  · rename_i h; rw [h]
  · rfl
/-- counting ones -/
theorem zPop_30a : ∀ a : Fin 32, ∀ b : Fin 32, zPop ((32 * a.val + b.val : Nat) : Int) = zFd (fun i a' => a' + ((32 * a.val + b.val : Nat) : Int) / zP2 i % 2) 10 0 := by decide +kernel
theorem zPop_10 {x : Int} (h0 : 0 ≤ x) (h1 : x < 1024) : zPop x = zFd (fun i a => a + x / zP2 i % 2) 30 0 := by
  obtain ⟨n, rfl⟩ : ∃ n : Nat, x = n := ⟨x.toNat, by omega⟩
  have h := zPop_30a ⟨n / 32, by omega⟩ ⟨n % 32, by omega⟩
  have e : 32 * (n / 32) + n % 32 = n := by omega
  simp only [e] at h
  rw [h]
  refine (zFd_more 10 30 (fun i y hi => ?_) (by omega)).symm
  have := zP2_le (a := 10) (b := i) (by omega)
  have e10 : zP2 10 = 1024 := rfl
  show y + (n : Int) / zP2 i % 2 = y
  rw [Int.ediv_eq_zero_of_lt h0 (by omega)]
  omega
theorem m_ones {x : Int} (h : iR x) : fX8_ones x = some (zFd (fun i a => a + x / zP2 i % 2) 30 0) := by
  apply zok_q
  unfold fX8_ones
  refine zok_F (mk := fun a i => (a, i)) 30 (fun i a => a = zFd (fun i a => a + x / zP2 i % 2) i.toNat 0) rfl (by omega) rfl (fun i a hi hi2 hI => ?_) (fun i a hi hi2 hi3 hi4 hI => ?_)
  · dsimp only
    (repeat (first | (with_reducible refine zok_g ?_ ?_; focus omega) | with_reducible refine zok_j ?_ | (with_reducible refine zok_t ?_ ?_; focus omega) | (with_reducible refine zok_f ?_ ?_; focus omega)))
    exact zok_sl ⟨_, rfl, by rw [zFd_s hi, hI]⟩
  · dsimp only
    (repeat (first | (with_reducible refine zok_g ?_ ?_; focus omega) | with_reducible refine zok_j ?_ | (with_reducible refine zok_t ?_ ?_; focus omega) | (with_reducible refine zok_f ?_ ?_; focus omega)))
    refine zok_sr (zok_s ?_)
    rw [hI, hi3 (by omega)]
    rfl
theorem zHas (hW : zWf s) {w : Int} (h : zWy s w = 0) : s 4 < 6 ∧ zHv s (zDg s w) ≠ 0 := by
  have w4 := hW.2.2.2.2.1
  unfold zWy at h
  split at h
  · omega
  · split at h
    · omega
    · rename_i a b
      exact ⟨by omega, b⟩
theorem m_takes {m : CV} (hs : m.2 2 = s) (hW : zWf s) {w : Int} (h0 : 0 ≤ w) (h1 : w < zWords s) (h4 : s 4 < 6) : zOk (fX8_takes m w) (fun t => zEx [] [2, 10] m t.1 ∧ t.1.2 2 = zTk s w ∧ t.2 = zPop (zHv s (zDg s w))) := by
  unfold fX8_takes
  have w0 := hW.1
  have w1 := hW.2.1
  have w2 := hW.2.2.1
  have w4 := hW.2.2.2.2.1
  have hh := zHv_1024 hW (u := zDg s w)
  have hu4 : ∀ j, 0 ≤ zDg s w j ∧ zDg s w j < 4 := zDg_4 hW
  refine zok_b (m_spells hs hW h0 h1) (fun t1 ht1 => ?_)
  have hs1 : t1.2 2 = s := (ht1.1.2 2 (by decide)).trans hs
  refine zok_e (m_haves hs1 hW ht1.2 (fun j _ _ => hu4 j)) ?_
  have hE1 : zEx [] [2, 10] m t1 := zEx_w ht1.1 (fun _ h => h) (by decide)
  refine zok_F (mk := fun a i => (i, a)) (s 0) (fun r U => zEx [] [2, 10] m U ∧ (∀ j, 0 ≤ j → j < s 2 → U.2 10 j = zDg s w j) ∧ U.2 2 = zTn s (zDg s w) (zHv s (zDg s w)) r.toNat) rfl (by omega) ⟨hE1, ht1.2, hs1⟩ (fun r U hr hr2 hU => ?_) (fun r U hr hr2 hr3 hr4 hU => ?_)
  · obtain ⟨hE, hU10, hU2⟩ := hU
    obtain ⟨hN, hc⟩ := zTn_W hW (u := zDg s w) (set := zHv s (zDg s w)) r.toNat (by omega)
    generalize hT : zTn s (zDg s w) (zHv s (zDg s w)) r.toNat = t at hN hc hU2
    have e0 := hc 0 (by omega)
    have e2 := hc 2 (by omega)
    dsimp only
    rw [hU2, e0]
    (repeat (first | (with_reducible refine zok_g ?_ ?_; focus omega) | with_reducible refine zok_j ?_ | (with_reducible refine zok_t ?_ ?_; focus omega) | (with_reducible refine zok_f ?_ ?_; focus omega)))
    refine zok_e (m_hasBit ⟨by omega, by omega⟩ hr (by omega)) ?_
    have hst := zTs_r hN (u := zDg s w) (set := zHv s (zDg s w)) (r := r)
    have hsz := (hN.row hr (by omega)).1
    have q4 := (hN.row hr (by omega)).2.2.2.1
    refine zok_j ?_
    have road : ∀ x59, x59 = zTs t (zDg s w) (zHv s (zDg s w)) r → zOk ((zLp (σ := Int × CV) (ρ := (Int × CV)) (fun s60 => zG (iR s60.1 ∧ iR (s60.2.2 2 2)) <| if (s60.2.2 2 2) ≤ s60.1 then (some (.inr (s60.1, s60.2))) else (zG (iR x59) <| if x59 = (-1) then (some (.inr (s60.1, s60.2))) else ((fX8_of s60.2 r 3).bind fun t86 => zG (0 ≤ (x59 + s60.1) ∧ (x59 + s60.1) < 32) <| zG (0 ≤ t86 ∧ 0 ≤ (zP2 (x59 + s60.1))) <| (fX8_lays s60.2 r 3 (zOr t86 (zP2 (x59 + s60.1)))).bind fun t90 => some (.inl (s60.1 + 1, t90))))) zFu (0, U)).bind (fun y60 => (fX8_of y60.2 r 1).bind fun t71 => zG (iR t71) <| if t71 = (-1) then ((some (Sum.inl (r + 1, y60.2))) : Option ((Int × CV) ⊕ (Int × CV))) else ((fX8_of y60.2 r 1).bind fun t75 => (fX8_isPlace y60.2 r t75).bind fun t77 => if t77 = true then (some (.inl (r + 1, y60.2))) else ((fX8_lays y60.2 r 1 (-1)).bind fun t80 => some (.inl (r + 1, t80))))))
        (Sum.elim (fun s_1 => ∃ a', s_1 = (r + 1, a') ∧ zEx [] [2, 10] m a' ∧ (∀ j, 0 ≤ j → j < s 2 → a'.2 10 j = zDg s w j) ∧ a'.2 2 = zTn s (zDg s w) (zHv s (zDg s w)) (r + 1).toNat) (fun (_ : Int × CV) => False)) := by
      intro x59 hx
      -- behind the covering
      have hkc := zTc_k hN (u := zDg s w) (set := zHv s (zDg s w)) hr (r := r) (by omega)
      have tail : ∀ U', zEx [] [2, 10] m U' → (∀ j, 0 ≤ j → j < s 2 → U'.2 10 j = zDg s w j) → U'.2 2 = zTc t (zDg s w) (zHv s (zDg s w)) r → zOk ((fX8_of U' r 1).bind fun t71 => zG (iR t71) <| if t71 = (-1) then ((some (Sum.inl (r + 1, U'))) : Option ((Int × CV) ⊕ (Int × CV))) else ((fX8_of U' r 1).bind fun t75 => (fX8_isPlace U' r t75).bind fun t77 => if t77 = true then (some (.inl (r + 1, U'))) else ((fX8_lays U' r 1 (-1)).bind fun t80 => some (.inl (r + 1, t80)))))
          (Sum.elim (fun s_1 => ∃ a', s_1 = (r + 1, a') ∧ zEx [] [2, 10] m a' ∧ (∀ j, 0 ≤ j → j < s 2 → a'.2 10 j = zDg s w j) ∧ a'.2 2 = zTn s (zDg s w) (zHv s (zDg s w)) (r + 1).toNat) (fun (_ : Int × CV) => False)) := by
        intro U' a1 a2 a3
        have hc0 := zTc_c (s := t) (u := zDg s w) (set := zHv s (zDg s w)) (r := r) (k := 0) (by omega) hr
        have hcr := (hkc.row hr (by omega)).2.1
        refine zok_e (m_of a3 (by omega) (by omega)) ?_
        (repeat (first | (with_reducible refine zok_g ?_ ?_; focus omega) | with_reducible refine zok_j ?_ | (with_reducible refine zok_t ?_ ?_; focus omega) | (with_reducible refine zok_f ?_ ?_; focus omega)))
        refine zok_i (fun cm => zok_sl ⟨U', rfl, a1, a2, ?_⟩) (fun cm => ?_)
        · rw [zTn_s hr, hT, a3]
          unfold zTr
          rw [if_neg (fun z => z.1 cm)]
        · refine zok_e (m_of a3 (by omega) (by omega)) ?_
          refine zok_e (n_isPlace a3 hkc hr (by omega) ⟨by omega, by omega⟩) ?_
          refine zok_i (fun cp => zok_sl ⟨U', rfl, a1, a2, ?_⟩) (fun cp => ?_)
          · rw [zTn_s hr, hT, a3]
            unfold zTr
            rw [if_neg (fun z => by rw [cp] at z; exact absurd z.2 (by decide))]
          · refine zok_e (m_lays (by omega) (by omega)) (zok_sl ⟨_, rfl, zEx_a a1 (by decide), ?_, ?_⟩)
            · rw [zPa_n (by decide)]; exact a2
            · rw [zTn_s hr, hT, zPa_s, a3]
              unfold zTr
              have cp2 : zPl (zTc t (zDg s w) (zHv s (zDg s w)) r) r (zf (zTc t (zDg s w) (zHv s (zDg s w)) r) r 1) = false := by
                cases h : zPl (zTc t (zDg s w) (zHv s (zDg s w)) r) r (zf (zTc t (zDg s w) (zHv s (zDg s w)) r) r 1) with
                | false => rfl
                | true => exact absurd h cp
              rw [if_pos ⟨cm, cp2⟩]
              rfl
      have hsr : iR x59 := by
        rw [hx]
        rcases hst with h | h
        · rw [h]; decide
        · have := h.2.1
          have := h.2.2.1
          exact ⟨by omega, by omega⟩
      by_cases c1 : x59 = -1
      · refine zok_L (I := fun a => a = (0, U)) (μ := fun _ => 0) rfl (by decide) ?_
        intro a ha
        subst ha
        dsimp only
        rw [hU2, e2]
        (repeat (first | (with_reducible refine zok_g ?_ ?_; focus omega) | with_reducible refine zok_j ?_ | (with_reducible refine zok_t ?_ ?_; focus omega) | (with_reducible refine zok_f ?_ ?_; focus omega)))
        refine zok_sr ?_
        dsimp only
        refine zok_w (tail U hE hU10 ?_) (fun x h => ?_)
        · rw [hU2]
          unfold zTc
          rw [if_pos (by rw [← hx]; exact c1)]
        · cases x with
          | inl z => exact h
          | inr z => exact absurd h id
      · have hp : zPlP t r x59 := by
          rcases hst with h | h
          · exact absurd (hx.trans h) c1
          · rw [← hx] at h; exact h
        have q1 := hp.2.1
        have q2 := hp.2.2.1
        refine zok_F (mk := fun a i => (i, a)) (s 2) (fun k U' => zEx [] [2, 10] m U' ∧ (∀ j, 0 ≤ j → j < s 2 → U'.2 10 j = zDg s w j) ∧ U'.2 2 = zSet t r 3 (zOr (zf t r 3) (zLt k x59))) rfl (by omega) ⟨hE, hU10, ?_⟩ (fun k U' hk hk2 hV => ?_) (fun k U' hk hk2 hk3 hk4 hV => ?_)
        · have : zLt 0 x59 = 0 := by unfold zLt; rw [zP2_0]; omega
          rw [hU2, this, zOr_0 q4.1, zSet_id]
        · obtain ⟨v1, v2, v3⟩ := hV
          dsimp only
          have e2' : U'.2 2 2 = s 2 := by rw [v3, zSet_c (by omega) hr (by omega)]; exact e2
          rw [e2']
          have p := zP2_pos (x59 + k)
          have z0 := zLt_0 (k := k) (i := x59)
          have o0 : 0 ≤ zOr (zf t r 3) (zLt k x59) := by unfold zOr; omega
          (repeat (first | (with_reducible refine zok_g ?_ ?_; focus omega) | with_reducible refine zok_j ?_ | (with_reducible refine zok_t ?_ ?_; focus omega) | (with_reducible refine zok_f ?_ ?_; focus omega)))
          refine zok_e (m_of v3 (by omega) (by omega)) ?_
          rw [zSet_s]
          (repeat (first | (with_reducible refine zok_g ?_ ?_; focus omega) | with_reducible refine zok_j ?_ | (with_reducible refine zok_t ?_ ?_; focus omega) | (with_reducible refine zok_f ?_ ?_; focus omega)))
          refine zok_e (m_lays (by omega) (by omega)) (zok_sl ⟨_, rfl, zEx_a v1 (by decide), ?_, ?_⟩)
          · rw [zPa_n (by decide)]; exact v2
          · rw [zPa_s, v3, zOr_assoc q4.1 z0 (by omega), zLt_s hk q1]
            exact zSet_same
        · obtain ⟨v1, v2, v3⟩ := hV
          dsimp only
          have e2' : U'.2 2 2 = s 2 := by rw [v3, zSet_c (by omega) hr (by omega)]; exact e2
          rw [e2']
          (repeat (first | (with_reducible refine zok_g ?_ ?_; focus omega) | with_reducible refine zok_j ?_ | (with_reducible refine zok_t ?_ ?_; focus omega) | (with_reducible refine zok_f ?_ ?_; focus omega)))
          refine zok_sr ?_
          dsimp only
          refine zok_w (tail U' v1 v2 ?_) (fun x h => ?_)
          · rw [v3, hk3 (by omega), ← e2]
            unfold zTc
            rw [if_neg (by rw [← hx]; exact c1), ← hx]
          · cases x with
            | inl z => exact h
            | inr z => exact absurd h id
    refine zok_i (fun cb => ?_) (fun cb => ?_)
    · refine zok_e (m_nearest hU2 hN hr (by omega) (fun j j0 j1 => hU10 j j0 (by omega)) (fun j _ _ => hu4 j)) ?_
      refine zok_w (road _ ?_) (fun x h => ?_)
      · unfold zTs
        rw [if_pos (of_decide_eq_true cb)]
      · cases x with
        | inl z => exact h
        | inr z => exact absurd h id
    · refine zok_w (road _ ?_) (fun x h => ?_)
      · unfold zTs
        rw [if_neg (fun z => cb (decide_eq_true z))]
      · cases x with
        | inl z => exact h
        | inr z => exact absurd h id
  · obtain ⟨hE, hU10, hU2⟩ := hU
    obtain ⟨hN, hc⟩ := zTn_W hW (u := zDg s w) (set := zHv s (zDg s w)) r.toNat (by omega)
    have er : r = s 0 := hr3 (by omega)
    dsimp only
    rw [hU2, hc 0 (by omega)]
    (repeat (first | (with_reducible refine zok_g ?_ ?_; focus omega) | with_reducible refine zok_j ?_ | (with_reducible refine zok_t ?_ ?_; focus omega) | (with_reducible refine zok_f ?_ ?_; focus omega)))
    refine zok_sr ?_
    dsimp only
    rw [hU2, hc 4 (by omega)]
    (repeat (first | (with_reducible refine zok_g ?_ ?_; focus omega) | with_reducible refine zok_j ?_ | (with_reducible refine zok_t ?_ ?_; focus omega) | (with_reducible refine zok_f ?_ ?_; focus omega)))
    refine zok_e (m_ones ⟨by omega, by omega⟩) (zok_s ⟨zEx_a (zEx_a hE (by decide)) (by decide), ?_, (zPop_10 hh.1 hh.2).symm⟩)
    rw [zPa_s, zPa_s, hU2, er]
    unfold zTk
    rw [zup_n (by omega)]
    have := hc 4 (by omega)
    rw [er] at this
    rw [this]
end ZTT
