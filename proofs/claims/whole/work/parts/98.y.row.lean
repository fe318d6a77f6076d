section ZRW
variable {bf : Int → Int} {n : Int}
theorem y_mustNameE {m : CV} (h : 1 ≤ m.1 9 ∧ m.1 9 ≤ 6) : fX8_mustName m = some m := by
  apply zok_q
  unfold fX8_mustName
  exact zok_e (y_goodE h) (zok_f Bool.false_ne_true (zok_s rfl))
/-! the class behind an error in a row -/
theorem x_rowC {VB x : CV} {t8 t23 t25 : Int} (h : zTcv bf n x) (h6 : x.1 6 ≠ 0) (hr : iR (x.1 6)) : zOk ((fun x38 => (fX6_next x38).bind fun t39 => zG (iR (t39.1 6)) <| if (t39.1 6) = 0 then ((fX0_addRow VB t8 t25 t23).bind fun t43 => some (t39, t43)) else (some (t39, VB))) x) (fun r => zTX bf n x r.1) := by
  dsimp only
  refine zok_b (x_next h) (fun t ht => ?_)
  have e6 := ht.1.2.1 6 (by decide)
  rw [e6]
  exact zok_g hr (zok_f h6 (zok_s ht.1))
theorem x_rowB {VB x : CV} {t8 : Int} (h : zTcv bf n x) (h6 : x.1 6 ≠ 0) (hr : iR (x.1 6)) (hV : 0 ≤ VB.1 0 ∧ VB.1 0 ≤ 4) : zOk ((fun x20 => (fX6_next x20).bind fun t21 => (fX6_wordSize t21).bind fun t23 => (fX6_wordCode t21 (VB.1 0)).bind fun t25 => zJn (σ := CV) (ρ := CV × CV) (fun x38 => (fX6_next x38).bind fun t39 => zG (iR (t39.1 6)) <| if (t39.1 6) = 0 then ((fX0_addRow VB t8 t25 t23).bind fun t43 => some (t39, t43)) else (some (t39, VB))) (fun j38 => zG (iR t23) <| if t23 = 0 then ((fX6_fail t21 1).bind fun t54 => j38 t54) else (if t23 = 1 then ((fX6_fail t21 2).bind fun t52 => j38 t52) else (zG (iRL t25 ∧ iRL (-1)) <| if (zCmp t25 (-1)) = 0 then ((fX6_fail t21 3).bind fun t50 => j38 t50) else (j38 t21))))) x) (fun r => zTX bf n x r.1) := by
  dsimp only
  refine zok_b (x_next h) (fun t ht => ?_)
  have e6 := ht.1.2.1 6 (by decide)
  have t6 : t.1 6 ≠ 0 := by rw [e6]; exact h6
  have tr : iR (t.1 6) := by rw [e6]; exact hr
  obtain ⟨r1, r2, r3, r4, r5⟩ := ht.1.1.r
  have hsz : 0 ≤ (if t.1 2 = 1 then t.1 5 - t.1 4 else 0) ∧ (if t.1 2 = 1 then t.1 5 - t.1 4 else 0) ≤ 600 := by split <;> omega
  refine zok_e (x_wordSize ht.1.1) ?_
  generalize (if t.1 2 = 1 then t.1 5 - t.1 4 else 0) = sz at hsz ⊢
  refine zok_b (x_wordCode ht.1.1 hV) (fun c hc => ?_)
  refine zok_jP (fun (z : CV) => z = t) (fun z hz => ?_) (fun K hK => ?_)
  · rw [hz]
    exact zok_w (x_rowC ht.1.1 t6 tr) (fun r hr2 => ht.1.t hr2)
  · refine zok_g (by omega) ?_
    refine zok_i (fun _ => zok_e (x_failX t6 tr) (hK _ rfl)) (fun _ => ?_)
    refine zok_i (fun _ => zok_e (x_failX t6 tr) (hK _ rfl)) (fun _ => zok_g ⟨hc.1, by decide⟩ ?_)
    exact zok_i (fun _ => zok_e (x_failX t6 tr) (hK _ rfl)) (fun _ => hK _ rfl)
theorem x_name_r {T : CV} (h : zTcv bf n T) : 0 ≤ (if T.1 2 = 1 ∧ T.1 5 - T.1 4 ≤ 8 then z8 (zwd bf (T.1 4) (T.1 5)) else 0) ∧ (if T.1 2 = 1 ∧ T.1 5 - T.1 4 ≤ 8 then z8 (zwd bf (T.1 4) (T.1 5)) else 0) < 9223372036854775808 := by
  obtain ⟨r1, r2, r3, r4, r5, r6, r7, r8, r9, r10⟩ := h.r
  by_cases c : T.1 2 = 1 ∧ T.1 5 - T.1 4 ≤ 8
  · rw [if_pos c]
    have hl := zwd_l (bf := bf) (p := T.1 4) (q := T.1 5) r3
    exact z8_63 (zwd_w (r8 c.1).2.2) (by omega)
  · rw [if_neg c]; decide
theorem zBr_n {V : CV} {s nm : Int → Int} (h : zB1 V s nm) : (0 ≤ V.1 3 ∧ V.1 3 ≤ 10) ∧ (∀ q, 0 ≤ q → q < V.1 3 → iRL (V.2 1 q)) ∧ ∀ q, 0 ≤ q → q < V.1 3 → iRL (nm q) := by
  have e := h.2.1.2.2.2.1
  have w0 := h.1.1
  rw [e]
  refine ⟨w0, fun q q0 q1 => ?_, fun q q0 q1 => ?_⟩
  · obtain ⟨w, hl, hd, a, b⟩ := (h.2.2 q q0 q1).1
    have := z8_63 hd hl.2
    rw [a]
    exact ⟨by omega, by omega⟩
  · obtain ⟨w, hl, hd, a, b⟩ := (h.2.2 q q0 q1).1
    have := z5_40 hd hl.2
    rw [b]
    exact ⟨by omega, by omega⟩
/-- a name that the class knows the model knows -/
theorem zNm_iff {a b : Int} (h : zNm a b) {u : List Int} (hu : zLet u) : a = z8 u ↔ b = z5 u := by
  obtain ⟨w, hl, hd, e1, e2⟩ := h
  rw [e1, e2]
  exact ⟨fun z => by rw [z8_inj w u hd hu z], fun z => by rw [z5_inj w u hd hu z]⟩
theorem x_rowA {VB x : CV} {s nm : Int → Int} (hB : zB1 VB s nm) (h : zTcv bf n x) (h6 : x.1 6 ≠ 0) (hr : iR (x.1 6)) : zOk ((fun x5 => (fX6_next x5).bind fun t6 => (fX6_nameCode t6).bind fun t8 => zG (iRL t8 ∧ iRL 0) <| zJn (σ := CV) (ρ := CV × CV) (fun x20 => (fX6_next x20).bind fun t21 => (fX6_wordSize t21).bind fun t23 => (fX6_wordCode t21 (VB.1 0)).bind fun t25 => zJn (σ := CV) (ρ := CV × CV) (fun x38 => (fX6_next x38).bind fun t39 => zG (iR (t39.1 6)) <| if (t39.1 6) = 0 then ((fX0_addRow VB t8 t25 t23).bind fun t43 => some (t39, t43)) else (some (t39, VB))) (fun j38 => zG (iR t23) <| if t23 = 0 then ((fX6_fail t21 1).bind fun t54 => j38 t54) else (if t23 = 1 then ((fX6_fail t21 2).bind fun t52 => j38 t52) else (zG (iRL t25 ∧ iRL (-1)) <| if (zCmp t25 (-1)) = 0 then ((fX6_fail t21 3).bind fun t50 => j38 t50) else (j38 t21))))) (fun j20 => if (zCmp t8 0) = 0 then ((fX6_fail t6 1).bind fun t63 => j20 t63) else ((fX0_rowNamed VB t8).bind fun t57 => zG (iR t57) <| if t57 = (-1) then (j20 t6) else ((fX6_fail t6 3).bind fun t61 => j20 t61)))) x) (fun r => zTX bf n x r.1) := by
  dsimp only
  have hn := zBr_n hB
  have hV0 : 0 ≤ VB.1 0 ∧ VB.1 0 ≤ 4 := by
    have e := hB.2.1.1
    have w := hB.1.2.1
    omega
  refine zok_b (x_next h) (fun t ht => ?_)
  have e6 := ht.1.2.1 6 (by decide)
  have t6 : t.1 6 ≠ 0 := by rw [e6]; exact h6
  have tr : iR (t.1 6) := by rw [e6]; exact hr
  have hnr := x_name_r ht.1.1
  refine zok_e (x_nameCode ht.1.1) ?_
  generalize (if t.1 2 = 1 ∧ t.1 5 - t.1 4 ≤ 8 then z8 (zwd bf (t.1 4) (t.1 5)) else 0) = a at hnr ⊢
  refine zok_g ⟨⟨by omega, by omega⟩, by decide⟩ ?_
  refine zok_jP (fun (z : CV) => z = t) (fun z hz => ?_) (fun K hK => ?_)
  · rw [hz]
    exact zok_w (x_rowB ht.1.1 t6 tr hV0) (fun r hr2 => ht.1.t hr2)
  · refine zok_i (fun _ => zok_e (x_failX t6 tr) (hK _ rfl)) (fun _ => ?_)
    refine zok_b (x_rowNamed hn.1 ⟨by omega, by omega⟩ hn.2.1) (fun r hr2 => ?_)
    refine zok_g (by omega) ?_
    exact zok_i (fun _ => hK _ rfl) (fun _ => zok_e (x_failX t6 tr) (hK _ rfl))
/-! the model behind an error in a row -/
theorem y_row59 {VMo x : CV} (h : 1 ≤ x.1 9 ∧ x.1 9 ≤ 6) : (fun x59 => (fX8_isGood x59).bind fun t60 => if t60 = true then ((fX8_lays x59 (VMo.2 2 0) 0 (x59.1 8)).bind fun t63 => (fX8_lays t63 (VMo.2 2 0) 1 (-1)).bind fun t65 => (zLp (σ := Int × CV) (ρ := (Int × CV)) (fun s67 => zG (iR s67.1 ∧ iR (s67.2.1 8)) <| if (s67.2.1 8) ≤ s67.1 then (some (.inr (s67.1, s67.2))) else (zG (0 ≤ ((s67.2.1 5) + s67.1) ∧ ((s67.2.1 5) + s67.1) < 600) <| zG (0 ≤ ((51 + (30 * (VMo.2 2 0))) + s67.1) ∧ ((51 + (30 * (VMo.2 2 0))) + s67.1) < 351) <| some (.inl (s67.1 + 1, (zPa s67.2 2 ((51 + (30 * (VMo.2 2 0))) + s67.1) ((s67.2.2 1 ((s67.2.1 5) + s67.1)) - 97)))))) zFu (0, t65)).bind (fun y67 => (fX8_goOn (zPa y67.2 2 0 ((y67.2.2 2 0) + 1))).bind fun t72 => some t72)) else (some x59)) x = some x := by
  apply zok_q
  dsimp only
  exact zok_e (y_goodE h) (zok_f Bool.false_ne_true (zok_s rfl))
theorem y_row50 {VMo x : CV} (h : 1 ≤ x.1 9 ∧ x.1 9 ≤ 6) : (fun x50 => (fX8_isGood x50).bind fun t51 => zJn (σ := CV) (ρ := CV) (fun x59 => (fX8_isGood x59).bind fun t60 => if t60 = true then ((fX8_lays x59 (VMo.2 2 0) 0 (x59.1 8)).bind fun t63 => (fX8_lays t63 (VMo.2 2 0) 1 (-1)).bind fun t65 => (zLp (σ := Int × CV) (ρ := (Int × CV)) (fun s67 => zG (iR s67.1 ∧ iR (s67.2.1 8)) <| if (s67.2.1 8) ≤ s67.1 then (some (.inr (s67.1, s67.2))) else (zG (0 ≤ ((s67.2.1 5) + s67.1) ∧ ((s67.2.1 5) + s67.1) < 600) <| zG (0 ≤ ((51 + (30 * (VMo.2 2 0))) + s67.1) ∧ ((51 + (30 * (VMo.2 2 0))) + s67.1) < 351) <| some (.inl (s67.1 + 1, (zPa s67.2 2 ((51 + (30 * (VMo.2 2 0))) + s67.1) ((s67.2.2 1 ((s67.2.1 5) + s67.1)) - 97)))))) zFu (0, t65)).bind (fun y67 => (fX8_goOn (zPa y67.2 2 0 ((y67.2.2 2 0) + 1))).bind fun t72 => some t72)) else (some x59)) (fun j59 => if t51 = true then ((fX8_hasLetters x50).bind fun t79 => if t79 = true then (j59 x50) else ((fX8_wrong x50 3).bind fun t82 => j59 t82)) else (j59 x50))) x = some x := by
  apply zok_q
  dsimp only
  refine zok_e (y_goodE h) ?_
  refine zok_jP (fun (z : CV) => z = x) (fun z hz => ?_) (fun K hK => zok_f Bool.false_ne_true (hK _ rfl))
  rw [hz]
  exact zok_v (y_row59 h) rfl
theorem y_row42 {VMo x : CV} (h : 1 ≤ x.1 9 ∧ x.1 9 ≤ 6) : (fun x42 => (fX8_isGood x42).bind fun t43 => zJn (σ := CV) (ρ := CV) (fun x50 => (fX8_isGood x50).bind fun t51 => zJn (σ := CV) (ρ := CV) (fun x59 => (fX8_isGood x59).bind fun t60 => if t60 = true then ((fX8_lays x59 (VMo.2 2 0) 0 (x59.1 8)).bind fun t63 => (fX8_lays t63 (VMo.2 2 0) 1 (-1)).bind fun t65 => (zLp (σ := Int × CV) (ρ := (Int × CV)) (fun s67 => zG (iR s67.1 ∧ iR (s67.2.1 8)) <| if (s67.2.1 8) ≤ s67.1 then (some (.inr (s67.1, s67.2))) else (zG (0 ≤ ((s67.2.1 5) + s67.1) ∧ ((s67.2.1 5) + s67.1) < 600) <| zG (0 ≤ ((51 + (30 * (VMo.2 2 0))) + s67.1) ∧ ((51 + (30 * (VMo.2 2 0))) + s67.1) < 351) <| some (.inl (s67.1 + 1, (zPa s67.2 2 ((51 + (30 * (VMo.2 2 0))) + s67.1) ((s67.2.2 1 ((s67.2.1 5) + s67.1)) - 97)))))) zFu (0, t65)).bind (fun y67 => (fX8_goOn (zPa y67.2 2 0 ((y67.2.2 2 0) + 1))).bind fun t72 => some t72)) else (some x59)) (fun j59 => if t51 = true then ((fX8_hasLetters x50).bind fun t79 => if t79 = true then (j59 x50) else ((fX8_wrong x50 3).bind fun t82 => j59 t82)) else (j59 x50))) (fun j50 => if t43 = true then (zG (iR (x42.1 8)) <| if 2 ≤ (x42.1 8) then (j50 x42) else ((fX8_wrong x42 2).bind fun t87 => j50 t87)) else (j50 x42))) x = some x := by
  apply zok_q
  dsimp only
  refine zok_e (y_goodE h) ?_
  refine zok_jP (fun (z : CV) => z = x) (fun z hz => ?_) (fun K hK => zok_f Bool.false_ne_true (hK _ rfl))
  rw [hz]
  exact zok_v (y_row50 h) rfl
theorem y_row34 {VMo x : CV} (h : 1 ≤ x.1 9 ∧ x.1 9 ≤ 6) : (fun x34 => (fX8_isGood x34).bind fun t35 => zJn (σ := CV) (ρ := CV) (fun x42 => (fX8_isGood x42).bind fun t43 => zJn (σ := CV) (ρ := CV) (fun x50 => (fX8_isGood x50).bind fun t51 => zJn (σ := CV) (ρ := CV) (fun x59 => (fX8_isGood x59).bind fun t60 => if t60 = true then ((fX8_lays x59 (VMo.2 2 0) 0 (x59.1 8)).bind fun t63 => (fX8_lays t63 (VMo.2 2 0) 1 (-1)).bind fun t65 => (zLp (σ := Int × CV) (ρ := (Int × CV)) (fun s67 => zG (iR s67.1 ∧ iR (s67.2.1 8)) <| if (s67.2.1 8) ≤ s67.1 then (some (.inr (s67.1, s67.2))) else (zG (0 ≤ ((s67.2.1 5) + s67.1) ∧ ((s67.2.1 5) + s67.1) < 600) <| zG (0 ≤ ((51 + (30 * (VMo.2 2 0))) + s67.1) ∧ ((51 + (30 * (VMo.2 2 0))) + s67.1) < 351) <| some (.inl (s67.1 + 1, (zPa s67.2 2 ((51 + (30 * (VMo.2 2 0))) + s67.1) ((s67.2.2 1 ((s67.2.1 5) + s67.1)) - 97)))))) zFu (0, t65)).bind (fun y67 => (fX8_goOn (zPa y67.2 2 0 ((y67.2.2 2 0) + 1))).bind fun t72 => some t72)) else (some x59)) (fun j59 => if t51 = true then ((fX8_hasLetters x50).bind fun t79 => if t79 = true then (j59 x50) else ((fX8_wrong x50 3).bind fun t82 => j59 t82)) else (j59 x50))) (fun j50 => if t43 = true then (zG (iR (x42.1 8)) <| if 2 ≤ (x42.1 8) then (j50 x42) else ((fX8_wrong x42 2).bind fun t87 => j50 t87)) else (j50 x42))) (fun j42 => if t35 = true then (zG (iR (x34.1 6)) <| if (x34.1 6) = 1 then (j42 x34) else ((fX8_wrong x34 1).bind fun t92 => j42 t92)) else (j42 x34))) x = some x := by
  apply zok_q
  dsimp only
  refine zok_e (y_goodE h) ?_
  refine zok_jP (fun (z : CV) => z = x) (fun z hz => ?_) (fun K hK => zok_f Bool.false_ne_true (hK _ rfl))
  rw [hz]
  exact zok_v (y_row42 h) rfl
theorem y_row28 {VMo x : CV} (h : 1 ≤ x.1 9 ∧ x.1 9 ≤ 6) : (fun x28 => (fX8_isGood x28).bind fun t29 => zJn (σ := CV) (ρ := CV) (fun x34 => (fX8_isGood x34).bind fun t35 => zJn (σ := CV) (ρ := CV) (fun x42 => (fX8_isGood x42).bind fun t43 => zJn (σ := CV) (ρ := CV) (fun x50 => (fX8_isGood x50).bind fun t51 => zJn (σ := CV) (ρ := CV) (fun x59 => (fX8_isGood x59).bind fun t60 => if t60 = true then ((fX8_lays x59 (VMo.2 2 0) 0 (x59.1 8)).bind fun t63 => (fX8_lays t63 (VMo.2 2 0) 1 (-1)).bind fun t65 => (zLp (σ := Int × CV) (ρ := (Int × CV)) (fun s67 => zG (iR s67.1 ∧ iR (s67.2.1 8)) <| if (s67.2.1 8) ≤ s67.1 then (some (.inr (s67.1, s67.2))) else (zG (0 ≤ ((s67.2.1 5) + s67.1) ∧ ((s67.2.1 5) + s67.1) < 600) <| zG (0 ≤ ((51 + (30 * (VMo.2 2 0))) + s67.1) ∧ ((51 + (30 * (VMo.2 2 0))) + s67.1) < 351) <| some (.inl (s67.1 + 1, (zPa s67.2 2 ((51 + (30 * (VMo.2 2 0))) + s67.1) ((s67.2.2 1 ((s67.2.1 5) + s67.1)) - 97)))))) zFu (0, t65)).bind (fun y67 => (fX8_goOn (zPa y67.2 2 0 ((y67.2.2 2 0) + 1))).bind fun t72 => some t72)) else (some x59)) (fun j59 => if t51 = true then ((fX8_hasLetters x50).bind fun t79 => if t79 = true then (j59 x50) else ((fX8_wrong x50 3).bind fun t82 => j59 t82)) else (j59 x50))) (fun j50 => if t43 = true then (zG (iR (x42.1 8)) <| if 2 ≤ (x42.1 8) then (j50 x42) else ((fX8_wrong x42 2).bind fun t87 => j50 t87)) else (j50 x42))) (fun j42 => if t35 = true then (zG (iR (x34.1 6)) <| if (x34.1 6) = 1 then (j42 x34) else ((fX8_wrong x34 1).bind fun t92 => j42 t92)) else (j42 x34))) (fun j34 => if t29 = true then ((fX8_goOn x28).bind fun t95 => j34 t95) else (j34 x28))) x = some x := by
  apply zok_q
  dsimp only
  refine zok_e (y_goodE h) ?_
  refine zok_jP (fun (z : CV) => z = x) (fun z hz => ?_) (fun K hK => zok_f Bool.false_ne_true (hK _ rfl))
  rw [hz]
  exact zok_v (y_row34 h) rfl
theorem y_row23 {VMo x : CV} (h : 1 ≤ x.1 9 ∧ x.1 9 ≤ 6) : (fun x23 => (fX8_isGood x23).bind fun t24 => zJn (σ := CV) (ρ := CV) (fun x28 => (fX8_isGood x28).bind fun t29 => zJn (σ := CV) (ρ := CV) (fun x34 => (fX8_isGood x34).bind fun t35 => zJn (σ := CV) (ρ := CV) (fun x42 => (fX8_isGood x42).bind fun t43 => zJn (σ := CV) (ρ := CV) (fun x50 => (fX8_isGood x50).bind fun t51 => zJn (σ := CV) (ρ := CV) (fun x59 => (fX8_isGood x59).bind fun t60 => if t60 = true then ((fX8_lays x59 (VMo.2 2 0) 0 (x59.1 8)).bind fun t63 => (fX8_lays t63 (VMo.2 2 0) 1 (-1)).bind fun t65 => (zLp (σ := Int × CV) (ρ := (Int × CV)) (fun s67 => zG (iR s67.1 ∧ iR (s67.2.1 8)) <| if (s67.2.1 8) ≤ s67.1 then (some (.inr (s67.1, s67.2))) else (zG (0 ≤ ((s67.2.1 5) + s67.1) ∧ ((s67.2.1 5) + s67.1) < 600) <| zG (0 ≤ ((51 + (30 * (VMo.2 2 0))) + s67.1) ∧ ((51 + (30 * (VMo.2 2 0))) + s67.1) < 351) <| some (.inl (s67.1 + 1, (zPa s67.2 2 ((51 + (30 * (VMo.2 2 0))) + s67.1) ((s67.2.2 1 ((s67.2.1 5) + s67.1)) - 97)))))) zFu (0, t65)).bind (fun y67 => (fX8_goOn (zPa y67.2 2 0 ((y67.2.2 2 0) + 1))).bind fun t72 => some t72)) else (some x59)) (fun j59 => if t51 = true then ((fX8_hasLetters x50).bind fun t79 => if t79 = true then (j59 x50) else ((fX8_wrong x50 3).bind fun t82 => j59 t82)) else (j59 x50))) (fun j50 => if t43 = true then (zG (iR (x42.1 8)) <| if 2 ≤ (x42.1 8) then (j50 x42) else ((fX8_wrong x42 2).bind fun t87 => j50 t87)) else (j50 x42))) (fun j42 => if t35 = true then (zG (iR (x34.1 6)) <| if (x34.1 6) = 1 then (j42 x34) else ((fX8_wrong x34 1).bind fun t92 => j42 t92)) else (j42 x34))) (fun j34 => if t29 = true then ((fX8_goOn x28).bind fun t95 => j34 t95) else (j34 x28))) (fun j28 => if t24 = true then (zG (0 ≤ (VMo.2 2 0) ∧ (VMo.2 2 0) < 10) <| j28 (zPa x23 7 (VMo.2 2 0) (x23.1 13))) else (j28 x23))) x = some x := by
  apply zok_q
  dsimp only
  refine zok_e (y_goodE h) ?_
  refine zok_jP (fun (z : CV) => z = x) (fun z hz => ?_) (fun K hK => zok_f Bool.false_ne_true (hK _ rfl))
  rw [hz]
  exact zok_v (y_row28 h) rfl
theorem y_row11 {VMo x : CV} (h : 1 ≤ x.1 9 ∧ x.1 9 ≤ 6) : (fun x11 => (fX8_mustName x11).bind fun t12 => (fX8_isGood t12).bind fun t14 => zJn (σ := CV) (ρ := CV) (fun x23 => (fX8_isGood x23).bind fun t24 => zJn (σ := CV) (ρ := CV) (fun x28 => (fX8_isGood x28).bind fun t29 => zJn (σ := CV) (ρ := CV) (fun x34 => (fX8_isGood x34).bind fun t35 => zJn (σ := CV) (ρ := CV) (fun x42 => (fX8_isGood x42).bind fun t43 => zJn (σ := CV) (ρ := CV) (fun x50 => (fX8_isGood x50).bind fun t51 => zJn (σ := CV) (ρ := CV) (fun x59 => (fX8_isGood x59).bind fun t60 => if t60 = true then ((fX8_lays x59 (VMo.2 2 0) 0 (x59.1 8)).bind fun t63 => (fX8_lays t63 (VMo.2 2 0) 1 (-1)).bind fun t65 => (zLp (σ := Int × CV) (ρ := (Int × CV)) (fun s67 => zG (iR s67.1 ∧ iR (s67.2.1 8)) <| if (s67.2.1 8) ≤ s67.1 then (some (.inr (s67.1, s67.2))) else (zG (0 ≤ ((s67.2.1 5) + s67.1) ∧ ((s67.2.1 5) + s67.1) < 600) <| zG (0 ≤ ((51 + (30 * (VMo.2 2 0))) + s67.1) ∧ ((51 + (30 * (VMo.2 2 0))) + s67.1) < 351) <| some (.inl (s67.1 + 1, (zPa s67.2 2 ((51 + (30 * (VMo.2 2 0))) + s67.1) ((s67.2.2 1 ((s67.2.1 5) + s67.1)) - 97)))))) zFu (0, t65)).bind (fun y67 => (fX8_goOn (zPa y67.2 2 0 ((y67.2.2 2 0) + 1))).bind fun t72 => some t72)) else (some x59)) (fun j59 => if t51 = true then ((fX8_hasLetters x50).bind fun t79 => if t79 = true then (j59 x50) else ((fX8_wrong x50 3).bind fun t82 => j59 t82)) else (j59 x50))) (fun j50 => if t43 = true then (zG (iR (x42.1 8)) <| if 2 ≤ (x42.1 8) then (j50 x42) else ((fX8_wrong x42 2).bind fun t87 => j50 t87)) else (j50 x42))) (fun j42 => if t35 = true then (zG (iR (x34.1 6)) <| if (x34.1 6) = 1 then (j42 x34) else ((fX8_wrong x34 1).bind fun t92 => j42 t92)) else (j42 x34))) (fun j34 => if t29 = true then ((fX8_goOn x28).bind fun t95 => j34 t95) else (j34 x28))) (fun j28 => if t24 = true then (zG (0 ≤ (VMo.2 2 0) ∧ (VMo.2 2 0) < 10) <| j28 (zPa x23 7 (VMo.2 2 0) (x23.1 13))) else (j28 x23))) (fun j23 => if t14 = true then ((fX8_named t12).bind fun t100 => zG (iR t100) <| if t100 = (-1) then (j23 t12) else ((fX8_wrong t12 3).bind fun t104 => j23 t104)) else (j23 t12))) x = some x := by
  apply zok_q
  dsimp only
  refine zok_e (y_mustNameE h) ?_
  refine zok_e (y_goodE h) ?_
  refine zok_jP (fun (z : CV) => z = x) (fun z hz => ?_) (fun K hK => zok_f Bool.false_ne_true (hK _ rfl))
  rw [hz]
  exact zok_v (y_row23 h) rfl
theorem y_row5 {VMo x : CV} (h : 1 ≤ x.1 9 ∧ x.1 9 ≤ 6) : (fun x5 => (fX8_isGood x5).bind fun t6 => zJn (σ := CV) (ρ := CV) (fun x11 => (fX8_mustName x11).bind fun t12 => (fX8_isGood t12).bind fun t14 => zJn (σ := CV) (ρ := CV) (fun x23 => (fX8_isGood x23).bind fun t24 => zJn (σ := CV) (ρ := CV) (fun x28 => (fX8_isGood x28).bind fun t29 => zJn (σ := CV) (ρ := CV) (fun x34 => (fX8_isGood x34).bind fun t35 => zJn (σ := CV) (ρ := CV) (fun x42 => (fX8_isGood x42).bind fun t43 => zJn (σ := CV) (ρ := CV) (fun x50 => (fX8_isGood x50).bind fun t51 => zJn (σ := CV) (ρ := CV) (fun x59 => (fX8_isGood x59).bind fun t60 => if t60 = true then ((fX8_lays x59 (VMo.2 2 0) 0 (x59.1 8)).bind fun t63 => (fX8_lays t63 (VMo.2 2 0) 1 (-1)).bind fun t65 => (zLp (σ := Int × CV) (ρ := (Int × CV)) (fun s67 => zG (iR s67.1 ∧ iR (s67.2.1 8)) <| if (s67.2.1 8) ≤ s67.1 then (some (.inr (s67.1, s67.2))) else (zG (0 ≤ ((s67.2.1 5) + s67.1) ∧ ((s67.2.1 5) + s67.1) < 600) <| zG (0 ≤ ((51 + (30 * (VMo.2 2 0))) + s67.1) ∧ ((51 + (30 * (VMo.2 2 0))) + s67.1) < 351) <| some (.inl (s67.1 + 1, (zPa s67.2 2 ((51 + (30 * (VMo.2 2 0))) + s67.1) ((s67.2.2 1 ((s67.2.1 5) + s67.1)) - 97)))))) zFu (0, t65)).bind (fun y67 => (fX8_goOn (zPa y67.2 2 0 ((y67.2.2 2 0) + 1))).bind fun t72 => some t72)) else (some x59)) (fun j59 => if t51 = true then ((fX8_hasLetters x50).bind fun t79 => if t79 = true then (j59 x50) else ((fX8_wrong x50 3).bind fun t82 => j59 t82)) else (j59 x50))) (fun j50 => if t43 = true then (zG (iR (x42.1 8)) <| if 2 ≤ (x42.1 8) then (j50 x42) else ((fX8_wrong x42 2).bind fun t87 => j50 t87)) else (j50 x42))) (fun j42 => if t35 = true then (zG (iR (x34.1 6)) <| if (x34.1 6) = 1 then (j42 x34) else ((fX8_wrong x34 1).bind fun t92 => j42 t92)) else (j42 x34))) (fun j34 => if t29 = true then ((fX8_goOn x28).bind fun t95 => j34 t95) else (j34 x28))) (fun j28 => if t24 = true then (zG (0 ≤ (VMo.2 2 0) ∧ (VMo.2 2 0) < 10) <| j28 (zPa x23 7 (VMo.2 2 0) (x23.1 13))) else (j28 x23))) (fun j23 => if t14 = true then ((fX8_named t12).bind fun t100 => zG (iR t100) <| if t100 = (-1) then (j23 t12) else ((fX8_wrong t12 3).bind fun t104 => j23 t104)) else (j23 t12))) (fun j11 => if t6 = true then ((fX8_goOn x5).bind fun t107 => j11 t107) else (j11 x5))) x = some x := by
  apply zok_q
  dsimp only
  refine zok_e (y_goodE h) ?_
  refine zok_jP (fun (z : CV) => z = x) (fun z hz => ?_) (fun K hK => zok_f Bool.false_ne_true (hK _ rfl))
  rw [hz]
  exact zok_v (y_row11 h) rfl
/-- what the model's reader writes down -/
def zFq (m v : CV) : Prop := zEx [4, 5, 6, 7, 8, 9, 10, 13] [2, 7] m v ∧ (∀ j, j < 0 ∨ 351 ≤ j → v.2 2 j = m.2 2 j) ∧ ∀ j, j < 0 ∨ 10 ≤ j → v.2 7 j = m.2 7 j
theorem zFq_0 {m : CV} : zFq m m := ⟨zEx_0, fun _ _ => rfl, fun _ _ => rfl⟩
theorem zFq_e {m v t : CV} {ns : List Nat} (h : zFq m v) (e : zEx ns [] v t) (hn : ∀ k ∈ ns, k ∈ [4, 5, 6, 7, 8, 9, 10, 13]) : zFq m t := ⟨zEx_t h.1 (zEx_w e hn (fun k hk => absurd hk List.not_mem_nil)), fun j hj => by rw [e.2 2 List.not_mem_nil]; exact h.2.1 j hj, fun j hj => by rw [e.2 7 List.not_mem_nil]; exact h.2.2 j hj⟩
theorem zFq_t {m v t : CV} (h : zFq m v) (h2 : zFq v t) : zFq m t := ⟨zEx_t h.1 h2.1, fun j hj => (h2.2.1 j hj).trans (h.2.1 j hj), fun j hj => (h2.2.2 j hj).trans (h.2.2 j hj)⟩
theorem zFq_2 {m v : CV} {i x : Int} (h : zFq m v) (hi : 0 ≤ i ∧ i < 351) : zFq m (zPa v 2 i x) := ⟨zEx_a h.1 (by decide), fun j hj => by rw [zPa_s, zup_n (by omega)]; exact h.2.1 j hj, fun j hj => by rw [zPa_n (by decide)]; exact h.2.2 j hj⟩
theorem zFq_7 {m v : CV} {i x : Int} (h : zFq m v) (hi : 0 ≤ i ∧ i < 10) : zFq m (zPa v 7 i x) := ⟨zEx_a h.1 (by decide), fun j hj => by rw [zPa_n (by decide)]; exact h.2.1 j hj, fun j hj => by rw [zPa_s, zup_n (by omega)]; exact h.2.2 j hj⟩
/-- how a row ends -/
def zRo (bf : Int → Int) (n : Int) (T m : CV) (r : CV × CV) (u : CV) : Prop := zEx [2, 3, 4, 5, 6, 7] [] T r.1 ∧ zFq m u ∧ ((zTR bf n r.1 u ∧ zBr r.2 (u.2 2) (u.2 7) ∧ T.1 5 ≤ r.1.1 4) ∨ zTE bf n r.1 u)
theorem zRo_e {T m t u : CV} {r : CV × CV} (hT : zEx [2, 3, 4, 5, 6, 7] [] T t) (hm : zFq m u) (hx : zTX bf n t r.1) (h : zTE bf n t u) : zRo bf n T m r u := ⟨zEx_t hT (zEx_w hx.2 (by decide) (by decide)), hm, Or.inr (zTE_X h hx)⟩
/-- the part behind the name: the letters -/
theorem z_rowL {VB VMo T m t x : CV} {u : List Int} {s nm : Int → Int} (hBr : zBr VB s nm) (hk : s 0 < 10) (hu : zLet u) (hu1 : 1 ≤ u.length ∧ u.length ≤ 8) (hqn : ∀ q, 0 ≤ q → q < s 0 → nm q ≠ z5 u)
    (h : zTR bf n t x) (hx2 : x.2 2 = s) (hx7 : x.2 7 = nm) (hx13 : x.1 13 = z5 u) (hV : VMo.2 2 0 = s 0) (hT : zEx [2, 3, 4, 5, 6, 7] [] T t) (hm : zFq m x) (hTt : T.1 5 ≤ t.1 4) :
    zOk ((fun t8 => (fun x20 => (fX6_next x20).bind fun t21 => (fX6_wordSize t21).bind fun t23 => (fX6_wordCode t21 (VB.1 0)).bind fun t25 => zJn (σ := CV) (ρ := CV × CV) (fun x38 => (fX6_next x38).bind fun t39 => zG (iR (t39.1 6)) <| if (t39.1 6) = 0 then ((fX0_addRow VB t8 t25 t23).bind fun t43 => some (t39, t43)) else (some (t39, VB))) (fun j38 => zG (iR t23) <| if t23 = 0 then ((fX6_fail t21 1).bind fun t54 => j38 t54) else (if t23 = 1 then ((fX6_fail t21 2).bind fun t52 => j38 t52) else (zG (iRL t25 ∧ iRL (-1)) <| if (zCmp t25 (-1)) = 0 then ((fX6_fail t21 3).bind fun t50 => j38 t50) else (j38 t21))))) t) (z8 u)) (fun r => zOk ((fun x23 => (fX8_isGood x23).bind fun t24 => zJn (σ := CV) (ρ := CV) (fun x28 => (fX8_isGood x28).bind fun t29 => zJn (σ := CV) (ρ := CV) (fun x34 => (fX8_isGood x34).bind fun t35 => zJn (σ := CV) (ρ := CV) (fun x42 => (fX8_isGood x42).bind fun t43 => zJn (σ := CV) (ρ := CV) (fun x50 => (fX8_isGood x50).bind fun t51 => zJn (σ := CV) (ρ := CV) (fun x59 => (fX8_isGood x59).bind fun t60 => if t60 = true then ((fX8_lays x59 (VMo.2 2 0) 0 (x59.1 8)).bind fun t63 => (fX8_lays t63 (VMo.2 2 0) 1 (-1)).bind fun t65 => (zLp (σ := Int × CV) (ρ := (Int × CV)) (fun s67 => zG (iR s67.1 ∧ iR (s67.2.1 8)) <| if (s67.2.1 8) ≤ s67.1 then (some (.inr (s67.1, s67.2))) else (zG (0 ≤ ((s67.2.1 5) + s67.1) ∧ ((s67.2.1 5) + s67.1) < 600) <| zG (0 ≤ ((51 + (30 * (VMo.2 2 0))) + s67.1) ∧ ((51 + (30 * (VMo.2 2 0))) + s67.1) < 351) <| some (.inl (s67.1 + 1, (zPa s67.2 2 ((51 + (30 * (VMo.2 2 0))) + s67.1) ((s67.2.2 1 ((s67.2.1 5) + s67.1)) - 97)))))) zFu (0, t65)).bind (fun y67 => (fX8_goOn (zPa y67.2 2 0 ((y67.2.2 2 0) + 1))).bind fun t72 => some t72)) else (some x59)) (fun j59 => if t51 = true then ((fX8_hasLetters x50).bind fun t79 => if t79 = true then (j59 x50) else ((fX8_wrong x50 3).bind fun t82 => j59 t82)) else (j59 x50))) (fun j50 => if t43 = true then (zG (iR (x42.1 8)) <| if 2 ≤ (x42.1 8) then (j50 x42) else ((fX8_wrong x42 2).bind fun t87 => j50 t87)) else (j50 x42))) (fun j42 => if t35 = true then (zG (iR (x34.1 6)) <| if (x34.1 6) = 1 then (j42 x34) else ((fX8_wrong x34 1).bind fun t92 => j42 t92)) else (j42 x34))) (fun j34 => if t29 = true then ((fX8_goOn x28).bind fun t95 => j34 t95) else (j34 x28))) (fun j28 => if t24 = true then (zG (0 ≤ (VMo.2 2 0) ∧ (VMo.2 2 0) < 10) <| j28 (zPa x23 7 (VMo.2 2 0) (x23.1 13))) else (j28 x23))) x) (fun v => zRo bf n T m r v)) := by
  have hB := zBr_1 hBr
  have w0 := hB.1.1
  have hV0 : VB.1 0 = s 1 := hB.2.1.1
  have hV3 : VB.1 3 = s 0 := hB.2.1.2.2.2.1
  have w1 := hB.1.2.1
  have hh := h
  obtain ⟨hT0, hM0, ⟨e1, e2, e3⟩, c1, c2, c3, c4⟩ := hh
  have tr := hT0.r
  dsimp only
  refine zok_b (x_next hT0) (fun t2 ht2 => ?_)
  obtain ⟨r1, r2, r3, r4, r5, r6, r7, r8, r9, r10⟩ := ht2.1.1.r
  have hTt2 : zEx [2, 3, 4, 5, 6, 7] [] T t2 := zEx_t hT (zEx_w ht2.1.2 (by decide) (by decide))
  have hmono : t.1 5 ≤ t2.1 4 := ht2.2.1.1
  refine zok_e (x_wordSize ht2.1.1) ?_
  refine zok_b (x_wordCode ht2.1.1 (L := VB.1 0) (by omega)) (fun c hc => ?_)
  -- the model up to the letters
  have hx28 : zTR bf n t (zPa x 7 (VMo.2 2 0) (x.1 13)) := zTR_m (ns := []) (js := [7]) h (zEx_a zEx_0 (by decide)) (by decide) (by decide)
  have hgo := z_nx2 hx28 ht2
  have model : ∀ (r : CV × CV), (∀ y, zTR bf n t2 y → zEx [4, 5, 6, 7, 8, 13] [] (zPa x 7 (VMo.2 2 0) (x.1 13)) y → zOk ((fun x34 => (fX8_isGood x34).bind fun t35 => zJn (σ := CV) (ρ := CV) (fun x42 => (fX8_isGood x42).bind fun t43 => zJn (σ := CV) (ρ := CV) (fun x50 => (fX8_isGood x50).bind fun t51 => zJn (σ := CV) (ρ := CV) (fun x59 => (fX8_isGood x59).bind fun t60 => if t60 = true then ((fX8_lays x59 (VMo.2 2 0) 0 (x59.1 8)).bind fun t63 => (fX8_lays t63 (VMo.2 2 0) 1 (-1)).bind fun t65 => (zLp (σ := Int × CV) (ρ := (Int × CV)) (fun s67 => zG (iR s67.1 ∧ iR (s67.2.1 8)) <| if (s67.2.1 8) ≤ s67.1 then (some (.inr (s67.1, s67.2))) else (zG (0 ≤ ((s67.2.1 5) + s67.1) ∧ ((s67.2.1 5) + s67.1) < 600) <| zG (0 ≤ ((51 + (30 * (VMo.2 2 0))) + s67.1) ∧ ((51 + (30 * (VMo.2 2 0))) + s67.1) < 351) <| some (.inl (s67.1 + 1, (zPa s67.2 2 ((51 + (30 * (VMo.2 2 0))) + s67.1) ((s67.2.2 1 ((s67.2.1 5) + s67.1)) - 97)))))) zFu (0, t65)).bind (fun y67 => (fX8_goOn (zPa y67.2 2 0 ((y67.2.2 2 0) + 1))).bind fun t72 => some t72)) else (some x59)) (fun j59 => if t51 = true then ((fX8_hasLetters x50).bind fun t79 => if t79 = true then (j59 x50) else ((fX8_wrong x50 3).bind fun t82 => j59 t82)) else (j59 x50))) (fun j50 => if t43 = true then (zG (iR (x42.1 8)) <| if 2 ≤ (x42.1 8) then (j50 x42) else ((fX8_wrong x42 2).bind fun t87 => j50 t87)) else (j50 x42))) (fun j42 => if t35 = true then (zG (iR (x34.1 6)) <| if (x34.1 6) = 1 then (j42 x34) else ((fX8_wrong x34 1).bind fun t92 => j42 t92)) else (j42 x34))) y) (fun v => zRo bf n T m r v)) → zOk ((fun x23 => (fX8_isGood x23).bind fun t24 => zJn (σ := CV) (ρ := CV) (fun x28 => (fX8_isGood x28).bind fun t29 => zJn (σ := CV) (ρ := CV) (fun x34 => (fX8_isGood x34).bind fun t35 => zJn (σ := CV) (ρ := CV) (fun x42 => (fX8_isGood x42).bind fun t43 => zJn (σ := CV) (ρ := CV) (fun x50 => (fX8_isGood x50).bind fun t51 => zJn (σ := CV) (ρ := CV) (fun x59 => (fX8_isGood x59).bind fun t60 => if t60 = true then ((fX8_lays x59 (VMo.2 2 0) 0 (x59.1 8)).bind fun t63 => (fX8_lays t63 (VMo.2 2 0) 1 (-1)).bind fun t65 => (zLp (σ := Int × CV) (ρ := (Int × CV)) (fun s67 => zG (iR s67.1 ∧ iR (s67.2.1 8)) <| if (s67.2.1 8) ≤ s67.1 then (some (.inr (s67.1, s67.2))) else (zG (0 ≤ ((s67.2.1 5) + s67.1) ∧ ((s67.2.1 5) + s67.1) < 600) <| zG (0 ≤ ((51 + (30 * (VMo.2 2 0))) + s67.1) ∧ ((51 + (30 * (VMo.2 2 0))) + s67.1) < 351) <| some (.inl (s67.1 + 1, (zPa s67.2 2 ((51 + (30 * (VMo.2 2 0))) + s67.1) ((s67.2.2 1 ((s67.2.1 5) + s67.1)) - 97)))))) zFu (0, t65)).bind (fun y67 => (fX8_goOn (zPa y67.2 2 0 ((y67.2.2 2 0) + 1))).bind fun t72 => some t72)) else (some x59)) (fun j59 => if t51 = true then ((fX8_hasLetters x50).bind fun t79 => if t79 = true then (j59 x50) else ((fX8_wrong x50 3).bind fun t82 => j59 t82)) else (j59 x50))) (fun j50 => if t43 = true then (zG (iR (x42.1 8)) <| if 2 ≤ (x42.1 8) then (j50 x42) else ((fX8_wrong x42 2).bind fun t87 => j50 t87)) else (j50 x42))) (fun j42 => if t35 = true then (zG (iR (x34.1 6)) <| if (x34.1 6) = 1 then (j42 x34) else ((fX8_wrong x34 1).bind fun t92 => j42 t92)) else (j42 x34))) (fun j34 => if t29 = true then ((fX8_goOn x28).bind fun t95 => j34 t95) else (j34 x28))) (fun j28 => if t24 = true then (zG (0 ≤ (VMo.2 2 0) ∧ (VMo.2 2 0) < 10) <| j28 (zPa x23 7 (VMo.2 2 0) (x23.1 13))) else (j28 x23))) x) (fun v => zRo bf n T m r v) := by
    intro r hr
    dsimp only
    refine zok_e (y_good0 c2) ?_
    refine zok_jP (fun (z : CV) => z = zPa x 7 (VMo.2 2 0) (x.1 13)) (fun z hz => ?_) (fun K hK => zok_t rfl (zok_g (by omega) (hK _ rfl)))
    rw [hz]
    refine zok_e (y_good0 hx28.2.2.2.2.1) ?_
    refine zok_jP (fun (y : CV) => zTR bf n t2 y ∧ zEx [4, 5, 6, 7, 8, 13] [] (zPa x 7 (VMo.2 2 0) (x.1 13)) y) (fun y hy => hr y hy.1 hy.2) (fun K hK => zok_t rfl (zok_b hgo (fun y hy => hK _ hy)))
  have frY : ∀ y, zEx [4, 5, 6, 7, 8, 13] [] (zPa x 7 (VMo.2 2 0) (x.1 13)) y → zFq m y := fun y hy => zFq_e (zFq_7 hm (by omega)) hy (by decide)
  by_cases k1 : t2.1 2 = 1
  · have hsz := r8 k1
    rw [if_pos k1]
    by_cases k2 : t2.1 5 - t2.1 4 = 1
    · -- one letter
      refine zok_jP (fun (z : CV) => zOk (fX6_fail t2 2) (fun a => a = z)) (fun z hz => ?_) (fun K hK => ?_)
      · have hz1 := zok_q (zok_w hz (fun a e => e))
        have hz1b := hz1
        rw [x_fail0 (by rw [ht2.1.2.1 6 (by decide)]; exact c1)] at hz1b
        have hz2 := Option.some.inj hz1b
        have z6 : z.1 6 = 2 := by rw [← hz2]; rfl
        have hzc : zTcv bf n z := by rw [← hz2]; exact zTcv_E ht2.1.1 (zEx_u (zEx_u (ns := [6, 7]) (js := []) zEx_0 (by decide)) (by decide)) (by decide) (by decide)
        have hzE : zEx [2, 3, 4, 5, 6, 7] [] T z := by rw [← hz2]; exact zEx_u (zEx_u hTt2 (by decide)) (by decide)
        refine zok_w (x_rowC hzc (by omega) ⟨by omega, by omega⟩) (fun r hr => ?_)
        refine model r (fun y hy hyE => ?_)
        obtain ⟨t', et, v', ev, hv⟩ := z_fail hy (c := 2) (by decide) (fun q => by have := hy.2.2.1.1; omega)
        have hy9 := hy.2.2.2.2.1
        have hy6 : y.1 6 = 1 := by rw [← hy.2.2.1.1]; exact k1
        have hy8 : y.1 8 = 1 := by rw [(hy.2.1.2.2.2.2.1 hy6).1, ← hy.2.2.1.2.1, ← hy.2.2.1.2.2]; exact k2
        have etz : t' = z := Option.some.inj (et.symm.trans hz1)
        rw [etz] at hv
        dsimp only
        refine zok_e (y_good0 hy9) ?_
        refine zok_jP (fun (q : CV) => q = y) (fun q hq => ?_) (fun K hK => zok_t rfl (zok_g (by omega) (zok_t hy6 (hK _ rfl))))
        rw [hq]
        refine zok_e (y_good0 hy9) ?_
        refine zok_jP (fun (q : CV) => q = v') (fun q hq => ?_) (fun K hK => zok_t rfl (zok_g (by omega) (zok_f (by omega) (zok_e ev (hK _ rfl)))))
        rw [hq]
        exact zok_v (y_row50 hv.1.2.1) (zRo_e hzE (zFq_e (frY y hyE) hv.2.2 (by decide)) hr hv.1)
      · refine zok_g (by omega) (zok_f (by omega) (zok_t k2 ?_))
        obtain ⟨a, ea, -⟩ : zOk (fX6_fail t2 2) (fun _ => True) := zok_v (x_fail0 (by rw [ht2.1.2.1 6 (by decide)]; exact c1)) trivial
        exact zok_e ea (hK _ ⟨a, ea, rfl⟩)
    · rcases hc.2.2 k1 with ⟨hall, hcd⟩ | ⟨hall, hcm⟩
      · -- all is well
        have hcn : ¬ zCmp c (-1) = 0 := by rw [zCmp_0]; have := hcd.1; omega
        refine zok_jP (fun (z : CV) => z = t2) (fun z hz => ?_) (fun K hK => zok_g (by omega) (zok_f (by omega) (zok_f k2 (zok_g ⟨hc.1, by decide⟩ (zok_f hcn (hK _ rfl))))))
        rw [hz]
        refine zok_b (x_next ht2.1.1) (fun t3 ht3 => ?_)
        have e6 : t3.1 6 = 0 := by rw [ht3.1.2.1 6 (by decide), ht2.1.2.1 6 (by decide)]; exact c1
        have hTt3 : zEx [2, 3, 4, 5, 6, 7] [] T t3 := zEx_t hTt2 (zEx_w ht3.1.2 (by decide) (by decide))
        rw [e6]
        refine zok_g (by decide) (zok_t rfl ?_)
        have hadd : fX0_addRow VB (z8 u) c (t2.1 5 - t2.1 4) = some (zPu (zPa (zPa (zPa (zPa (zPa VB 1 (s 0) (z8 u)) 2 (s 0) c) 3 (s 0) (t2.1 5 - t2.1 4)) 4 (s 0) 0) 5 (s 0) (-1)) 3 (s 0 + 1)) := by
          apply zok_q
          unfold fX0_addRow
          rw [hV3]
          exact zok_g (by omega) (zok_f (by omega) (zok_g (by omega) (zok_s rfl)))
        refine zok_e hadd (zok_s ?_)
        refine model _ (fun y hy hyE => ?_)
        have hy9 := hy.2.2.2.2.1
        have hy6 : y.1 6 = 1 := by rw [← hy.2.2.1.1]; exact k1
        have hy8 : y.1 8 = t2.1 5 - t2.1 4 := by rw [(hy.2.1.2.2.2.2.1 hy6).1, ← hy.2.2.1.2.1, ← hy.2.2.1.2.2]
        have hy2 : y.2 2 = s := by rw [hyE.2 2 (by decide)]; exact hx2
        have hy7 : y.2 7 = zup nm (s 0) (z5 u) := by
          rw [hyE.2 7 (by decide)]
          show zup (x.2 7) (VMo.2 2 0) (x.1 13) = _
          rw [hx7, hV, hx13]
        dsimp only
        refine zok_e (y_good0 hy9) ?_
        refine zok_jP (fun (q : CV) => q = y) (fun q hq => ?_) (fun K hK => zok_t rfl (zok_g (by omega) (zok_t hy6 (hK _ rfl))))
        rw [hq]
        refine zok_e (y_good0 hy9) ?_
        refine zok_jP (fun (q : CV) => q = y) (fun q hq => ?_) (fun K hK => zok_t rfl (zok_g (by omega) (zok_t (by omega) (hK _ rfl))))
        rw [hq]
        refine zok_e (y_good0 hy9) ?_
        refine zok_jP (fun (q : CV) => q = y) (fun q hq => ?_) (fun K hK => ?_)
        · rw [hq, hV]
          refine zok_e (y_good0 hy9) (zok_t rfl ?_)
          refine zok_e (m_lays (by omega) (by omega)) ?_
          refine zok_e (m_lays (by omega) (by omega)) ?_
          obtain ⟨z0, hz0⟩ : ∃ z, z = zPa (zPa y 2 (11 + 4 * s 0 + 0) (y.1 8)) 2 (11 + 4 * s 0 + 1) (-1) := ⟨_, rfl⟩
          rw [← hz0]
          have z0E : zEx [] [2] y z0 := by rw [hz0]; exact zEx_a (zEx_a zEx_0 (by decide)) (by decide)
          have z02 : z0.2 2 = zup (zup s (11 + 4 * s 0 + 0) (y.1 8)) (11 + 4 * s 0 + 1) (-1) := by
            rw [hz0, zPa_s, zPa_s, hy2]
          have hb := hy.2.1.1
          have hp : y.1 5 = t2.1 4 := hy.2.2.1.2.1.symm
          refine zok_F (β := CV) (mk := fun a i => (i, a)) (t2.1 5 - t2.1 4) (fun i a => zEx [] [2] y a ∧ zFq m a ∧ (∀ j, (j < 51 + 30 * s 0 ∨ 51 + 30 * s 0 + i ≤ j) → a.2 2 j = z0.2 2 j) ∧ ∀ j, 0 ≤ j → j < i → a.2 2 (51 + 30 * s 0 + j) = bf (t2.1 4 + j) - 97) (a0 := z0) rfl (by omega) ⟨z0E, by rw [hz0]; exact zFq_2 (zFq_2 (frY y hyE) (by omega)) (by omega), fun j _ => rfl, fun j _ _ => by omega⟩ (fun i a hi hi2 hI => ?_) (fun i a hi hi2 hi3 hi4 hI => ?_)
          · dsimp only
            have a8 : a.1 8 = t2.1 5 - t2.1 4 := by rw [hI.1.1 8 (by decide)]; exact hy8
            have a5 : a.1 5 = t2.1 4 := by rw [hI.1.1 5 (by decide)]; exact hp
            have a1 : a.2 1 = y.2 1 := hI.1.2 1 (by decide)
            rw [a8, a5, a1]
            refine zok_g (by omega) (zok_f (by omega) (zok_g (by omega) (zok_g (by omega) ?_)))
            have hbb := (hb.2.2 (t2.1 4 + i) (by omega) (by omega)).2
            rw [hbb]
            refine zok_sl ⟨_, rfl, zEx_a hI.1 (by decide), zFq_2 hI.2.1 (by omega), fun j hj => ?_, fun j j0 j1 => ?_⟩
            · rw [zPa_s, zup_n (by omega)]
              exact hI.2.2.1 j (by omega)
            · rw [zPa_s]
              by_cases e : j = i
              · rw [e, zup_s]
              · rw [zup_n (by omega)]
                exact hI.2.2.2 j j0 (by omega)
          · dsimp only
            have a8 : a.1 8 = t2.1 5 - t2.1 4 := by rw [hI.1.1 8 (by decide)]; exact hy8
            rw [a8]
            refine zok_g (by omega) (zok_t (by omega) (zok_sr ?_))
            have ei := hi3 (by omega)
            subst ei
            obtain ⟨f, hf⟩ : ∃ f, f = zPa a 2 0 (a.2 2 0 + 1) := ⟨_, rfl⟩
            rw [← hf]
            have fE : zEx [] [2] y f := by rw [hf]; exact zEx_a hI.1 (by decide)
            have hyf : zTR bf n t2 f := zTR_m hy fE (by decide) (by decide)
            refine zok_b (z_nx2 hyf ht3) (fun v hv => zok_s ⟨hTt3, ?_, Or.inl ⟨hv.1, ?_, ?_⟩⟩)
            · rw [hf] at hv
              exact zFq_e (zFq_2 hI.2.1 (by omega)) hv.2 (by decide)
            · have v2 : v.2 2 = f.2 2 := hv.2.2 2 (by decide)
              have v7 : v.2 7 = zup nm (s 0) (z5 u) := by rw [hv.2.2 7 (by decide), fE.2 7 (by decide), hy7]
              have f2 : f.2 2 = zup (a.2 2) 0 (a.2 2 0 + 1) := by rw [hf, zPa_s]
              rw [v2, v7, f2]
              have a00 : a.2 2 0 = s 0 := by rw [hI.2.2.1 0 (by omega), z02, zup_n (by omega), zup_n (by omega)]
              refine zBr_row hBr hk hu hu1 hqn (by omega) hcd (fun i i0 i1 => ?_) ?_ ?_ ?_ (fun i i0 i1 => ?_) (fun j j1 j2 j3 j4 => ?_)
              · have h1 := hall (t2.1 4 + i) (by omega) (by omega)
                have h2 := hsz.2.2 (t2.1 4 + i) (by omega) (by omega)
                omega
              · rw [zup_s, a00]
              · show zup (a.2 2) 0 _ (11 + 4 * s 0 + 0) = _
                rw [zup_n (by omega), hI.2.2.1 _ (by omega), z02, zup_n (by omega), zup_s, hy8]
              · show zup (a.2 2) 0 _ (11 + 4 * s 0 + 1) = _
                rw [zup_n (by omega), hI.2.2.1 _ (by omega), z02, zup_s]
              · show zup (a.2 2) 0 _ (51 + 30 * s 0 + i) = _
                rw [zup_n (by omega)]
                exact hI.2.2.2 i i0 i1
              · rw [zup_n j1, hI.2.2.1 j (by omega), z02, zup_n (by omega), zup_n (by omega)]
            · have := ht3.2.1.1
              show T.1 5 ≤ t3.1 4
              omega
        · obtain ⟨b, eb, hb⟩ := y_hasLetters hy2 hy.2.1 hy6 (by omega)
          have hbt : b = true := by
            rcases hb with ⟨z, _⟩ | ⟨_, z⟩
            · exact z
            · refine absurd ?_ z
              rw [← hy.2.2.1.2.1, ← hy.2.2.1.2.2, ← hV0]
              exact hall
          rw [hbt] at eb
          exact zok_t rfl (zok_e eb (zok_t rfl (hK _ rfl)))
      · -- a letter that there is not
        refine zok_jP (fun (z : CV) => zOk (fX6_fail t2 3) (fun a => a = z)) (fun z hz => ?_) (fun K hK => ?_)
        · have hz1 := zok_q (zok_w hz (fun a e => e))
          have hz1b := hz1
          rw [x_fail0 (by rw [ht2.1.2.1 6 (by decide)]; exact c1)] at hz1b
          have hz2 := Option.some.inj hz1b
          have z6 : z.1 6 = 3 := by rw [← hz2]; rfl
          have hzc : zTcv bf n z := by rw [← hz2]; exact zTcv_E ht2.1.1 (zEx_u (zEx_u (ns := [6, 7]) (js := []) zEx_0 (by decide)) (by decide)) (by decide) (by decide)
          have hzE : zEx [2, 3, 4, 5, 6, 7] [] T z := by rw [← hz2]; exact zEx_u (zEx_u hTt2 (by decide)) (by decide)
          refine zok_w (x_rowC hzc (by omega) ⟨by omega, by omega⟩) (fun r hr => ?_)
          refine model r (fun y hy hyE => ?_)
          obtain ⟨t', et, v', ev, hv⟩ := z_fail hy (c := 3) (by decide) (fun q => by have := hy.2.2.1.1; omega)
          have hy9 := hy.2.2.2.2.1
          have hy6 : y.1 6 = 1 := by rw [← hy.2.2.1.1]; exact k1
          have hy8 : y.1 8 = t2.1 5 - t2.1 4 := by rw [(hy.2.1.2.2.2.2.1 hy6).1, ← hy.2.2.1.2.1, ← hy.2.2.1.2.2]
          have hy2 : y.2 2 = s := by rw [hyE.2 2 (by decide)]; exact hx2
          have etz : t' = z := Option.some.inj (et.symm.trans hz1)
          rw [etz] at hv
          dsimp only
          refine zok_e (y_good0 hy9) ?_
          refine zok_jP (fun (q : CV) => q = y) (fun q hq => ?_) (fun K hK => zok_t rfl (zok_g (by omega) (zok_t hy6 (hK _ rfl))))
          rw [hq]
          refine zok_e (y_good0 hy9) ?_
          refine zok_jP (fun (q : CV) => q = y) (fun q hq => ?_) (fun K hK => zok_t rfl (zok_g (by omega) (zok_t (by omega) (hK _ rfl))))
          rw [hq]
          refine zok_e (y_good0 hy9) ?_
          refine zok_jP (fun (q : CV) => q = v') (fun q hq => ?_) (fun K hK => ?_)
          · rw [hq]
            exact zok_v (y_row59 hv.1.2.1) (zRo_e hzE (zFq_e (frY y hyE) hv.2.2 (by decide)) hr hv.1)
          · obtain ⟨b, eb, hb⟩ := y_hasLetters hy2 hy.2.1 hy6 (by omega)
            have hbt : b = false := by
              rcases hb with ⟨_, z⟩ | ⟨z, _⟩
              · refine absurd ?_ hall
                rw [hV0, hy.2.2.1.2.1, hy.2.2.1.2.2]
                exact z
              · exact z
            rw [hbt] at eb
            exact zok_t rfl (zok_e eb (zok_f Bool.false_ne_true (zok_e ev (hK _ rfl))))
        · rw [hcm]
          refine zok_g (by omega) (zok_f (by omega) (zok_f k2 (zok_g (by decide) (zok_t (by decide) ?_))))
          obtain ⟨a, ea, -⟩ : zOk (fX6_fail t2 3) (fun _ => True) := zok_v (x_fail0 (by rw [ht2.1.2.1 6 (by decide)]; exact c1)) trivial
          exact zok_e ea (hK _ ⟨a, ea, rfl⟩)
  · -- no word
    rw [if_neg k1]
    refine zok_jP (fun (z : CV) => zOk (fX6_fail t2 1) (fun a => a = z)) (fun z hz => ?_) (fun K hK => ?_)
    · have hz1 := zok_q (zok_w hz (fun a e => e))
      have hz1b := hz1
      rw [x_fail0 (by rw [ht2.1.2.1 6 (by decide)]; exact c1)] at hz1b
      have hz2 := Option.some.inj hz1b
      have z6 : z.1 6 = 1 := by rw [← hz2]; rfl
      have hzc : zTcv bf n z := by rw [← hz2]; exact zTcv_E ht2.1.1 (zEx_u (zEx_u (ns := [6, 7]) (js := []) zEx_0 (by decide)) (by decide)) (by decide) (by decide)
      have hzE : zEx [2, 3, 4, 5, 6, 7] [] T z := by rw [← hz2]; exact zEx_u (zEx_u hTt2 (by decide)) (by decide)
      refine zok_w (x_rowC hzc (by omega) ⟨by omega, by omega⟩) (fun r hr => ?_)
      refine model r (fun y hy hyE => ?_)
      obtain ⟨t', et, v', ev, hv⟩ := z_fail hy (c := 1) (by decide) (fun q => rfl)
      have hy9 := hy.2.2.2.2.1
      have hy6 : ¬ y.1 6 = 1 := by rw [← hy.2.2.1.1]; exact k1
      have hyr := hy.2.1.r
      have etz : t' = z := Option.some.inj (et.symm.trans hz1)
      rw [etz] at hv
      dsimp only
      refine zok_e (y_good0 hy9) ?_
      refine zok_jP (fun (q : CV) => q = v') (fun q hq => ?_) (fun K hK => zok_t rfl (zok_g (by omega) (zok_f hy6 (zok_e ev (hK _ rfl)))))
      rw [hq]
      exact zok_v (y_row42 hv.1.2.1) (zRo_e hzE (zFq_e (frY y hyE) hv.2.2 (by decide)) hr hv.1)
    · refine zok_g (by decide) (zok_t rfl ?_)
      obtain ⟨a, ea, -⟩ : zOk (fX6_fail t2 1) (fun _ => True) := zok_v (x_fail0 (by rw [ht2.1.2.1 6 (by decide)]; exact c1)) trivial
      exact zok_e ea (hK _ ⟨a, ea, rfl⟩)
end ZRW
