def bPlaces (V : CV) (r : Int) : Int := zFo (fun i s => if bPl V r i = true then s + 1 else s) 0 (bLast V r + 1).toNat
def bAll (V : CV) : Int := zFo (fun r s => s + bPlaces V r) 0 (V.1 3).toNat
def bChosen (V : CV) : Int := zFo (fun r s => if V.2 5 r = -1 then s else s + 1) 0 (V.1 3).toNat
def bWords (V : CV) : Int := zFo (fun _ s => s * V.1 0) 1 (V.1 1).toNat
def bNear (V : CV) (r c m : Int) : Int := zFo (fun i s => if bPl V r i = true then zMin s (bDif (bCode V r i) c m) else s) m (bLast V r + 1).toNat
def bNSg (V : CV) (r c : Int) (i : Int) (p : Int × Int) : Int × Int := if bPl V r i = true then (if p.1 ≠ -1 ∧ p.2 ≤ bDif (bCode V r i) c (V.1 1) then p else (i, bDif (bCode V r i) c (V.1 1))) else p
def bNS (V : CV) (r c : Int) : Int := (zFo (bNSg V r c) (-1, 0) (bLast V r + 1).toNat).1
def bBound (V : CV) (c m : Int) : Int := zFo (fun r s => if bOut V r = true then s else s + bNear V r c m) 0 (V.1 3).toNat
def bHaves (V : CV) (c : Int) : Int := zFo (fun r s => if bOut V r = false ∧ bNear V r c (V.1 1) ≤ V.1 2 then zOr s (zP2 r) else s) 0 (V.1 3).toNat
def bHit (V : CV) (r i c : Int) : Bool := bPl V r i && decide (bDif (bCode V r i) c (V.1 1) ≤ V.1 2)
def bWo (V : CV) (c : Int) : Int := zFo (fun i s => s * V.1 0 + bDig c i) 0 (V.1 1).toNat
def bRest (V : CV) (w : Int) (k : Nat) : Int := zFo (fun _ s => s / V.1 0) w k
def bCdG (V : CV) (w : Int) (k s : Int) : Int := zOr s (bRest V w k.toNat % V.1 0 * zP2 (2 * (V.1 1 - 1 - k)))
def bCd (V : CV) (w : Int) : Int := zFo (bCdG V w) 0 (V.1 1).toNat
def bWhy (V : CV) (w : Int) : Int := if 6 ≤ V.1 5 then 1 else if bHaves V (bCd V w) = 0 then 2 else 0
theorem bRest_r (V : CV) (w : Int) (hL : 2 ≤ V.1 0) (hw : 0 ≤ w) : ∀ k : Nat, 0 ≤ bRest V w k ∧ bRest V w k ≤ w := by
  intro k
  induction k with
  | zero => exact ⟨hw, Int.le_refl _⟩
  | succ k ih =>
    obtain ⟨h1, h2⟩ := ih
    have h3 : bRest V w (k + 1) = bRest V w k / V.1 0 := rfl
    have h4 : bRest V w k / V.1 0 ≤ bRest V w k := Int.ediv_le_self _ h1
    exact ⟨by rw [h3]; exact Int.ediv_nonneg h1 (by omega), by omega⟩
theorem bTerm_r {d i L : Int} (h0 : 0 ≤ d) (h1 : d < L) (h2 : L ≤ 4) (h3 : 0 ≤ i) (h4 : i ≤ 5) : 0 ≤ d * zP2 (2 * i) ∧ d * zP2 (2 * i) < ((2 ^ 12 : Nat) : Int) := by
  have h5 : zP2 (2 * i) ≤ ((2 ^ 10 : Nat) : Int) := zP2_le (by omega)
  have h6 := zP2_pos (2 * i)
  have h7 : ((2 ^ 10 : Nat) : Int) = 1024 := by decide
  have h8 : ((2 ^ 12 : Nat) : Int) = 4096 := by decide
  have h9 : d * zP2 (2 * i) ≤ 3 * 1024 := Int.mul_le_mul (by omega) (by omega) (by omega) (by omega)
  exact ⟨Int.mul_nonneg h0 (by omega), by omega⟩
theorem bCd_p (V : CV) (w : Int) (hL : 2 ≤ V.1 0 ∧ V.1 0 ≤ 4) (hl : V.1 1 ≤ 6) (hw : 0 ≤ w) : ∀ k : Nat, (k : Int) ≤ V.1 1 → 0 ≤ zFo (bCdG V w) 0 k ∧ zFo (bCdG V w) 0 k < ((2 ^ 12 : Nat) : Int) := by
  intro k
  induction k with
  | zero => intro _; exact ⟨Int.le_refl _, by decide⟩
  | succ k ih =>
    intro hk
    have h1 := ih (by omega)
    have h2 := bRest_r V w hL.1 hw k
    have h3 : 0 ≤ bRest V w k % V.1 0 := Int.emod_nonneg _ (by omega)
    have h4 : bRest V w k % V.1 0 < V.1 0 := Int.emod_lt_of_pos _ (by omega)
    exact zOr_r 12 h1.2 (bTerm_r h3 h4 hL.2 (by omega) (by omega)).2
theorem bCd_r (V : CV) (w : Int) (hV : okB V) (hw : 0 ≤ w) : 0 ≤ bCd V w ∧ bCd V w < 4096 := by
  obtain ⟨h0, h1, -⟩ := hV
  exact bCd_p V w h0 h1.2 hw _ (by omega)
theorem iI_div {a b : Int} (h0 : 0 ≤ a) (h1 : a < 2147483648) (h2 : 0 < b) (h3 : b < 2147483648) : iI a / iI b = iI (a / b) := by
  obtain ⟨n, rfl⟩ : ∃ n : Nat, a = n := ⟨a.toNat, by omega⟩
  obtain ⟨m, rfl⟩ : ∃ m : Nat, b = m := ⟨b.toNat, by omega⟩
  exact pk_div (by omega) (by omega) (by omega)
theorem iI_rem {a b : Int} (h0 : 0 ≤ a) (h1 : a < 2147483648) (h2 : 0 < b) (h3 : b < 2147483648) : iI a - iI a / iI b * iI b = iI (a % b) := by
  obtain ⟨n, rfl⟩ : ∃ n : Nat, a = n := ⟨a.toNat, by omega⟩
  obtain ⟨m, rfl⟩ : ∃ m : Nat, b = m := ⟨b.toNat, by omega⟩
  exact pk_rem (by omega) (by omega) (by omega)
theorem iI_ne0 {b : Int} (h2 : 0 < b) (h3 : b < 2147483648) : ¬ iI b = 0 := fun h => by
  have := (iI_eq (a := b) (b := 0) ⟨by omega, by omega⟩ (by decide)).mp h
  omega
set_option maxHeartbeats 4000000 in
set_option maxRecDepth 100000 in
/-- placesOf(r) -/
theorem cX0_placesOf' {X : zX} (hX : zOK X) {A : Nat → Nat} {n : Nat} {S : Nat → va_E} {q : Nat} {V : CV} (hB : isC X A shB q V S) (hq : q + 6 < n) (hV : okB V) {r : Int} (r0 : 0 ≤ r) (r1 : r < 10) : Con X yX0_placesOf mX0_placesOf 2 0 0 [.ref (A q), .int (iI r)] (zWs A n S) (zRet (zWs A n S) (some (.int (iI (bPlaces V r))))) := by
  obtain ⟨⟨v0, v0'⟩, ⟨v1, v1'⟩, ⟨v2, v2'⟩, ⟨v3, v3'⟩, ⟨v4, v4'⟩, ⟨v5, v5'⟩, vr, vc, vt⟩ := id hV
  obtain ⟨⟨s3, s3'⟩, ⟨s4, s4'⟩, ⟨s2, s2'⟩, ⟨s5, s5'⟩⟩ := vr (r) (by omega) (by omega)
  have hb : bLast V r = V.2 3 r - V.1 1 := rfl
  refine con_of (lv := [(0, .ref (A q)), (1, .int (iI r))]) (by decide) rfl (fun h => by cases h) rfl (Nat.le_of_ble_eq_true rfl) rfl ?_
  refine h_iconst (M := mX0_placesOf) dX0_placesOf_0 ?_
  refine g_istore_n (M := mX0_placesOf) (lv' := [(0, .ref (A q)), (1, .int (iI r)), (2, .int (iI 0))]) dX0_placesOf_1 rfl (by decide) rfl ?_
  refine h_iconst (M := mX0_placesOf) dX0_placesOf_2 ?_
  refine g_istore_n (M := mX0_placesOf) (lv' := [(0, .ref (A q)), (1, .int (iI r)), (2, .int (iI 0)), (3, .int (iI 0))]) dX0_placesOf_3 rfl (by decide) rfl ?_
  have loop_4 : ∀ (fuel : Nat) (i : Int) (s : Int) (h0i : 0 ≤ i) (h1i : i = 0 ∨ i ≤ bLast V r + 1) (h2i : i ≤ 31) (hs_s : s = zFo (fun i s => if bPl V r i = true then s + 1 else s) 0 i.toNat) (hm : (31 - i).toNat < fuel), G X mX0_placesOf (zPm X 2 0 0 (zRet (zWs A n S) (some (.int (iI (bPlaces V r)))))) 0 0 4 [(0, .ref (A q)), (1, .int (iI r)), (2, .int (iI s)), (3, .int (iI i))] [] (zWs A n S) := by
    intro fuel
    induction fuel with
    | zero => intro i s h0i h1i h2i hs_s hm; exact absurd hm (Nat.not_lt_zero _)
    | succ fuel ih_4 =>
      intro i s h0i h1i h2i hs_s hm
      refine g_iload_n (M := mX0_placesOf) dX0_placesOf_4 3 rfl rfl ?_
      refine g_aload_n (M := mX0_placesOf) dX0_placesOf_5 0 rfl rfl ?_
      refine g_iload_n (M := mX0_placesOf) dX0_placesOf_6 1 rfl rfl ?_
      refine g_callVr (M := mX0_placesOf) [.int (iI r)] hX dX0_placesOf_7 vX0_lastStart kM_X0_66 (cX0_lastStart' hX hB (by omega) hV (r := r) (by omega) (by omega)) q (zWs_at (by omega) (hB.o)) rfl ⟨Nat.le_of_ble_eq_true rfl, Nat.le_of_ble_eq_true rfl⟩ ⟨Nat.le_of_ble_eq_true rfl, Nat.le_of_ble_eq_true rfl⟩ (Nat.le_of_ble_eq_true rfl) ?_
      refine h_icmp_gt (M := mX0_placesOf) (tgt := 31) dX0_placesOf_10 (by decide) ⟨by omega, by omega⟩ ⟨by omega, by omega⟩ (fun c_10 => ?_) (fun c_10 => ?_)
      · refine g_iload_n (M := mX0_placesOf) dX0_placesOf_31 2 rfl rfl ?_
        exact g_iret (M := mX0_placesOf) dX0_placesOf_32 rfl (by omega) (by omega) ⟨rfl, congrArg (fun z => Sum.inl (some (Value.int (iI z)))) (show (s : Int) = bPlaces V r from by rw [hs_s]; unfold bPlaces; congr 1; omega)⟩
      · refine g_aload_n (M := mX0_placesOf) dX0_placesOf_13 0 rfl rfl ?_
        refine g_iload_n (M := mX0_placesOf) dX0_placesOf_14 1 rfl rfl ?_
        refine g_iload_n (M := mX0_placesOf) dX0_placesOf_15 3 rfl rfl ?_
        refine g_callVr (M := mX0_placesOf) [.int (iI r), .int (iI i)] hX dX0_placesOf_16 vX0_isPlace kM_X0_76 (cX0_isPlace' hX hB (by omega) hV (r := r) (i := i) (by omega) (by omega) ⟨by omega, by omega⟩) q (zWs_at (by omega) (hB.o)) rfl ⟨Nat.le_of_ble_eq_true rfl, Nat.le_of_ble_eq_true rfl⟩ ⟨Nat.le_of_ble_eq_true rfl, Nat.le_of_ble_eq_true rfl⟩ (Nat.le_of_ble_eq_true rfl) ?_
        refine h_beq (M := mX0_placesOf) (tgt := 25) dX0_placesOf_19 (by decide) (fun c_19 => ?_) (fun c_19 => ?_)
        · refine h_iinc (M := mX0_placesOf) (j := 3) (lv' := [(0, .ref (A q)), (1, .int (iI r)), (2, .int (iI s)), (3, .int (iI (i + 1)))]) dX0_placesOf_25 rfl (Nat.le_of_ble_eq_true rfl) rfl ?_
          refine g_goto (M := mX0_placesOf) (tgt := 4) dX0_placesOf_28 (by decide) ?_
          exact ih_4 (i + 1) s (by omega) (by omega) (by omega) (by (rw [zFo_s (by omega), ← hs_s]) <;> (first | rfl | (simp [c_10, c_19]; done) | (simp [b2, c_10, c_19]; omega))) (by omega)
        · refine h_iinc (M := mX0_placesOf) (j := 2) (lv' := [(0, .ref (A q)), (1, .int (iI r)), (2, .int (iI (s + 1))), (3, .int (iI i))]) dX0_placesOf_22 rfl (Nat.le_of_ble_eq_true rfl) rfl ?_
          refine h_iinc (M := mX0_placesOf) (j := 3) (lv' := [(0, .ref (A q)), (1, .int (iI r)), (2, .int (iI (s + 1))), (3, .int (iI (i + 1)))]) dX0_placesOf_25 rfl (Nat.le_of_ble_eq_true rfl) rfl ?_
          refine g_goto (M := mX0_placesOf) (tgt := 4) dX0_placesOf_28 (by decide) ?_
          exact ih_4 (i + 1) (s + 1) (by omega) (by omega) (by omega) (by (rw [zFo_s (by omega), ← hs_s]) <;> (first | rfl | (simp [c_10, c_19]; done) | (simp [b2, c_10, c_19]; omega))) (by omega)
  exact loop_4 _ 0 0 (by omega) (by omega) (by omega) rfl (Nat.lt_succ_self _)
set_option maxHeartbeats 4000000 in
set_option maxRecDepth 100000 in
/-- allPlaces() -/
theorem cX0_allPlaces' {X : zX} (hX : zOK X) {A : Nat → Nat} {n : Nat} {S : Nat → va_E} {q : Nat} {V : CV} (hB : isC X A shB q V S) (hq : q + 6 < n) (hV : okB V) : Con X yX0_allPlaces mX0_allPlaces 3 0 0 [.ref (A q)] (zWs A n S) (zRet (zWs A n S) (some (.int (iI (bAll V))))) := by
  obtain ⟨⟨v0, v0'⟩, ⟨v1, v1'⟩, ⟨v2, v2'⟩, ⟨v3, v3'⟩, ⟨v4, v4'⟩, ⟨v5, v5'⟩, vr, vc, vt⟩ := id hV
  refine con_of (lv := [(0, .ref (A q))]) (by decide) rfl (fun h => by cases h) rfl (Nat.le_of_ble_eq_true rfl) rfl ?_
  refine h_iconst (M := mX0_allPlaces) dX0_allPlaces_0 ?_
  refine g_istore_n (M := mX0_allPlaces) (lv' := [(0, .ref (A q)), (1, .int (iI 0))]) dX0_allPlaces_1 rfl (by decide) rfl ?_
  refine h_iconst (M := mX0_allPlaces) dX0_allPlaces_2 ?_
  refine g_istore_n (M := mX0_allPlaces) (lv' := [(0, .ref (A q)), (1, .int (iI 0)), (2, .int (iI 0))]) dX0_allPlaces_3 rfl (by decide) rfl ?_
  have loop_4 : ∀ (fuel : Nat) (i : Int) (s : Int) (h0i : 0 ≤ i) (h1i : i = 0 ∨ i ≤ V.1 3) (h2i : i ≤ 31) (hs_s : s = zFo (fun r s => s + bPlaces V r) 0 i.toNat) (hm : (31 - i).toNat < fuel), G X mX0_allPlaces (zPm X 3 0 0 (zRet (zWs A n S) (some (.int (iI (bAll V)))))) 0 0 4 [(0, .ref (A q)), (1, .int (iI s)), (2, .int (iI i))] [] (zWs A n S) := by
    intro fuel
    induction fuel with
    | zero => intro i s h0i h1i h2i hs_s hm; exact absurd hm (Nat.not_lt_zero _)
    | succ fuel ih_4 =>
      intro i s h0i h1i h2i hs_s hm
      refine g_iload_n (M := mX0_allPlaces) dX0_allPlaces_4 2 rfl rfl ?_
      refine g_aload_n (M := mX0_allPlaces) dX0_allPlaces_5 0 rfl rfl ?_
      refine k_get (M := mX0_allPlaces) (v := .int (iI (V.1 3))) dX0_allPlaces_6 kF_X0_41.r q (by omega) (hB.o) rfl ?_
      refine h_icmp_ge (M := mX0_allPlaces) (tgt := 26) dX0_allPlaces_9 (by decide) ⟨by omega, by omega⟩ ⟨by omega, by omega⟩ (fun c_9 => ?_) (fun c_9 => ?_)
      · refine g_iload_n (M := mX0_allPlaces) dX0_allPlaces_26 1 rfl rfl ?_
        exact g_iret (M := mX0_allPlaces) dX0_allPlaces_27 rfl (by omega) (by omega) ⟨rfl, congrArg (fun z => Sum.inl (some (Value.int (iI z)))) (show (s : Int) = bAll V from by rw [hs_s]; unfold bAll; congr 1; omega)⟩
      · refine g_iload_n (M := mX0_allPlaces) dX0_allPlaces_12 1 rfl rfl ?_
        refine g_aload_n (M := mX0_allPlaces) dX0_allPlaces_13 0 rfl rfl ?_
        refine g_iload_n (M := mX0_allPlaces) dX0_allPlaces_14 2 rfl rfl ?_
        refine g_callVr (M := mX0_allPlaces) [.int (iI i)] hX dX0_allPlaces_15 vX0_placesOf kM_X0_80 (cX0_placesOf' hX hB (by omega) hV (r := i) (by omega) (by omega)) q (zWs_at (by omega) (hB.o)) rfl ⟨Nat.le_of_ble_eq_true rfl, Nat.le_of_ble_eq_true rfl⟩ ⟨Nat.le_of_ble_eq_true rfl, Nat.le_of_ble_eq_true rfl⟩ (Nat.le_of_ble_eq_true rfl) ?_
        refine h_iadd (M := mX0_allPlaces) dX0_allPlaces_18 ?_
        refine g_istore_n (M := mX0_allPlaces) (lv' := [(0, .ref (A q)), (1, .int (iI (s + (bPlaces V i)))), (2, .int (iI i))]) dX0_allPlaces_19 rfl (by decide) rfl ?_
        refine h_iinc (M := mX0_allPlaces) (j := 2) (lv' := [(0, .ref (A q)), (1, .int (iI (s + (bPlaces V i)))), (2, .int (iI (i + 1)))]) dX0_allPlaces_20 rfl (Nat.le_of_ble_eq_true rfl) rfl ?_
        refine g_goto (M := mX0_allPlaces) (tgt := 4) dX0_allPlaces_23 (by decide) ?_
        exact ih_4 (i + 1) (s + (bPlaces V i)) (by omega) (by omega) (by omega) (by (rw [zFo_s (by omega), ← hs_s]) <;> (first | rfl | (simp [c_9]; done) | (simp [b2, c_9]; omega))) (by omega)
  exact loop_4 _ 0 0 (by omega) (by omega) (by omega) rfl (Nat.lt_succ_self _)
set_option maxHeartbeats 4000000 in
set_option maxRecDepth 100000 in
/-- chosenRows() -/
theorem cX0_chosenRows' {X : zX} (hX : zOK X) {A : Nat → Nat} {n : Nat} {S : Nat → va_E} {q : Nat} {V : CV} (hB : isC X A shB q V S) (hq : q + 6 < n) (hV : okB V) : Con X yX0_chosenRows mX0_chosenRows 0 0 0 [.ref (A q)] (zWs A n S) (zRet (zWs A n S) (some (.int (iI (bChosen V))))) := by
  obtain ⟨⟨v0, v0'⟩, ⟨v1, v1'⟩, ⟨v2, v2'⟩, ⟨v3, v3'⟩, ⟨v4, v4'⟩, ⟨v5, v5'⟩, vr, vc, vt⟩ := id hV
  refine con_of (lv := [(0, .ref (A q))]) (by decide) rfl (fun h => by cases h) rfl (Nat.le_of_ble_eq_true rfl) rfl ?_
  refine h_iconst (M := mX0_chosenRows) dX0_chosenRows_0 ?_
  refine g_istore_n (M := mX0_chosenRows) (lv' := [(0, .ref (A q)), (1, .int (iI 0))]) dX0_chosenRows_1 rfl (by decide) rfl ?_
  refine h_iconst (M := mX0_chosenRows) dX0_chosenRows_2 ?_
  refine g_istore_n (M := mX0_chosenRows) (lv' := [(0, .ref (A q)), (1, .int (iI 0)), (2, .int (iI 0))]) dX0_chosenRows_3 rfl (by decide) rfl ?_
  have loop_4 : ∀ (fuel : Nat) (i : Int) (s : Int) (h0i : 0 ≤ i) (h1i : i = 0 ∨ i ≤ V.1 3) (h2i : i ≤ 31) (hs_s : s = zFo (fun r s => if V.2 5 r = -1 then s else s + 1) 0 i.toNat) (hm : (31 - i).toNat < fuel), G X mX0_chosenRows (zPm X 0 0 0 (zRet (zWs A n S) (some (.int (iI (bChosen V)))))) 0 0 4 [(0, .ref (A q)), (1, .int (iI s)), (2, .int (iI i))] [] (zWs A n S) := by
    intro fuel
    induction fuel with
    | zero => intro i s h0i h1i h2i hs_s hm; exact absurd hm (Nat.not_lt_zero _)
    | succ fuel ih_4 =>
      intro i s h0i h1i h2i hs_s hm
      refine g_iload_n (M := mX0_chosenRows) dX0_chosenRows_4 2 rfl rfl ?_
      refine g_aload_n (M := mX0_chosenRows) dX0_chosenRows_5 0 rfl rfl ?_
      refine k_get (M := mX0_chosenRows) (v := .int (iI (V.1 3))) dX0_chosenRows_6 kF_X0_41.r q (by omega) (hB.o) rfl ?_
      refine h_icmp_ge (M := mX0_chosenRows) (tgt := 31) dX0_chosenRows_9 (by decide) ⟨by omega, by omega⟩ ⟨by omega, by omega⟩ (fun c_9 => ?_) (fun c_9 => ?_)
      · refine g_iload_n (M := mX0_chosenRows) dX0_chosenRows_31 1 rfl rfl ?_
        exact g_iret (M := mX0_chosenRows) dX0_chosenRows_32 rfl (by omega) (by omega) ⟨rfl, congrArg (fun z => Sum.inl (some (Value.int (iI z)))) (show (s : Int) = bChosen V from by rw [hs_s]; unfold bChosen; congr 1; omega)⟩
      · obtain ⟨⟨s3, s3'⟩, ⟨s4, s4'⟩, ⟨s2, s2'⟩, ⟨s5, s5'⟩⟩ := vr (i) (by omega) (by omega)
        refine g_aload_n (M := mX0_chosenRows) dX0_chosenRows_12 0 rfl rfl ?_
        refine k_get (M := mX0_chosenRows) (v := .ref (A (q + 5))) dX0_chosenRows_13 kF_X0_35.r q (by omega) (hB.o) rfl ?_
        refine g_iload_n (M := mX0_chosenRows) dX0_chosenRows_16 2 rfl rfl ?_
        refine k_iald (M := mX0_chosenRows) (len := 10) (f := V.2 5) dX0_chosenRows_17 (q + 5) (by omega) (hB.a (d := (0, 10)) 4 rfl) (Nat.le_of_ble_eq_true rfl) (by omega) (by omega) ?_
        refine h_iconst (M := mX0_chosenRows) dX0_chosenRows_18 ?_
        refine h_icmp_eq (M := mX0_chosenRows) (tgt := 25) dX0_chosenRows_19 (by decide) ⟨by omega, by omega⟩ ⟨by omega, by omega⟩ (fun c_19 => ?_) (fun c_19 => ?_)
        · refine h_iinc (M := mX0_chosenRows) (j := 2) (lv' := [(0, .ref (A q)), (1, .int (iI s)), (2, .int (iI (i + 1)))]) dX0_chosenRows_25 rfl (Nat.le_of_ble_eq_true rfl) rfl ?_
          refine g_goto (M := mX0_chosenRows) (tgt := 4) dX0_chosenRows_28 (by decide) ?_
          exact ih_4 (i + 1) s (by omega) (by omega) (by omega) (by (rw [zFo_s (by omega), ← hs_s]) <;> (first | rfl | (simp [c_9, c_19]; done) | (simp [b2, c_9, c_19]; omega))) (by omega)
        · refine h_iinc (M := mX0_chosenRows) (j := 1) (lv' := [(0, .ref (A q)), (1, .int (iI (s + 1))), (2, .int (iI i))]) dX0_chosenRows_22 rfl (Nat.le_of_ble_eq_true rfl) rfl ?_
          refine h_iinc (M := mX0_chosenRows) (j := 2) (lv' := [(0, .ref (A q)), (1, .int (iI (s + 1))), (2, .int (iI (i + 1)))]) dX0_chosenRows_25 rfl (Nat.le_of_ble_eq_true rfl) rfl ?_
          refine g_goto (M := mX0_chosenRows) (tgt := 4) dX0_chosenRows_28 (by decide) ?_
          exact ih_4 (i + 1) (s + 1) (by omega) (by omega) (by omega) (by (rw [zFo_s (by omega), ← hs_s]) <;> (first | rfl | (simp [c_9, c_19]; done) | (simp [b2, c_9, c_19]; omega))) (by omega)
  exact loop_4 _ 0 0 (by omega) (by omega) (by omega) rfl (Nat.lt_succ_self _)
set_option maxHeartbeats 4000000 in
set_option maxRecDepth 100000 in
/-- wordCount() -/
theorem cX0_wordCount' {X : zX} (hX : zOK X) {A : Nat → Nat} {n : Nat} {S : Nat → va_E} {q : Nat} {V : CV} (hB : isC X A shB q V S) (hq : q + 6 < n) (hV : okB V) : Con X yX0_wordCount mX0_wordCount 0 0 0 [.ref (A q)] (zWs A n S) (zRet (zWs A n S) (some (.int (iI (bWords V))))) := by
  obtain ⟨⟨v0, v0'⟩, ⟨v1, v1'⟩, ⟨v2, v2'⟩, ⟨v3, v3'⟩, ⟨v4, v4'⟩, ⟨v5, v5'⟩, vr, vc, vt⟩ := id hV
  refine con_of (lv := [(0, .ref (A q))]) (by decide) rfl (fun h => by cases h) rfl (Nat.le_of_ble_eq_true rfl) rfl ?_
  refine h_iconst (M := mX0_wordCount) dX0_wordCount_0 ?_
  refine g_istore_n (M := mX0_wordCount) (lv' := [(0, .ref (A q)), (1, .int (iI 1))]) dX0_wordCount_1 rfl (by decide) rfl ?_
  refine h_iconst (M := mX0_wordCount) dX0_wordCount_2 ?_
  refine g_istore_n (M := mX0_wordCount) (lv' := [(0, .ref (A q)), (1, .int (iI 1)), (2, .int (iI 0))]) dX0_wordCount_3 rfl (by decide) rfl ?_
  have loop_4 : ∀ (fuel : Nat) (i : Int) (s : Int) (h0i : 0 ≤ i) (h1i : i = 0 ∨ i ≤ V.1 1) (h2i : i ≤ 31) (hs_s : s = zFo (fun _ s => s * V.1 0) 1 i.toNat) (hm : (31 - i).toNat < fuel), G X mX0_wordCount (zPm X 0 0 0 (zRet (zWs A n S) (some (.int (iI (bWords V)))))) 0 0 4 [(0, .ref (A q)), (1, .int (iI s)), (2, .int (iI i))] [] (zWs A n S) := by
    intro fuel
    induction fuel with
    | zero => intro i s h0i h1i h2i hs_s hm; exact absurd hm (Nat.not_lt_zero _)
    | succ fuel ih_4 =>
      intro i s h0i h1i h2i hs_s hm
      refine g_iload_n (M := mX0_wordCount) dX0_wordCount_4 2 rfl rfl ?_
      refine g_aload_n (M := mX0_wordCount) dX0_wordCount_5 0 rfl rfl ?_
      refine k_get (M := mX0_wordCount) (v := .int (iI (V.1 1))) dX0_wordCount_6 kF_X0_15.r q (by omega) (hB.o) rfl ?_
      refine h_icmp_ge (M := mX0_wordCount) (tgt := 25) dX0_wordCount_9 (by decide) ⟨by omega, by omega⟩ ⟨by omega, by omega⟩ (fun c_9 => ?_) (fun c_9 => ?_)
      · refine g_iload_n (M := mX0_wordCount) dX0_wordCount_25 1 rfl rfl ?_
        exact g_iret (M := mX0_wordCount) dX0_wordCount_26 rfl (by omega) (by omega) ⟨rfl, congrArg (fun z => Sum.inl (some (Value.int (iI z)))) (show (s : Int) = bWords V from by rw [hs_s]; unfold bWords; congr 1; omega)⟩
      · refine g_iload_n (M := mX0_wordCount) dX0_wordCount_12 1 rfl rfl ?_
        refine g_aload_n (M := mX0_wordCount) dX0_wordCount_13 0 rfl rfl ?_
        refine k_get (M := mX0_wordCount) (v := .int (iI (V.1 0))) dX0_wordCount_14 kF_X0_9.r q (by omega) (hB.o) rfl ?_
        refine h_imul (M := mX0_wordCount) dX0_wordCount_17 ?_
        refine g_istore_n (M := mX0_wordCount) (lv' := [(0, .ref (A q)), (1, .int (iI (s * (V.1 0)))), (2, .int (iI i))]) dX0_wordCount_18 rfl (by decide) rfl ?_
        refine h_iinc (M := mX0_wordCount) (j := 2) (lv' := [(0, .ref (A q)), (1, .int (iI (s * (V.1 0)))), (2, .int (iI (i + 1)))]) dX0_wordCount_19 rfl (Nat.le_of_ble_eq_true rfl) rfl ?_
        refine g_goto (M := mX0_wordCount) (tgt := 4) dX0_wordCount_22 (by decide) ?_
        exact ih_4 (i + 1) (s * (V.1 0)) (by omega) (by omega) (by omega) (by (rw [zFo_s (by omega), ← hs_s]) <;> (first | rfl | (simp [c_9]; done) | (simp [b2, c_9]; omega))) (by omega)
  exact loop_4 _ 0 1 (by omega) (by omega) (by omega) rfl (Nat.lt_succ_self _)
