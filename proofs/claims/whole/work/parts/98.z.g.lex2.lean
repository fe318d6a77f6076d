section ZLK
variable {bf : Int → Int} {n : Int}
theorem zTx_choose : zTx "choose" = zUpc [3, 8, 15, 15, 19, 5] := by decide +kernel
theorem z5_choose : (109559397 : Int) = z5 [3, 8, 15, 15, 19, 5] := by decide +kernel
theorem zTx_clear : zTx "clear" = zUpc [3, 12, 5, 1, 18] := by decide +kernel
theorem z5_clear : (3544114 : Int) = z5 [3, 12, 5, 1, 18] := by decide +kernel
theorem zTx_better : zTx "better" = zUpc [2, 5, 20, 20, 5, 18] := by decide +kernel
theorem z5_better : (73027762 : Int) = z5 [2, 5, 20, 20, 5, 18] := by decide +kernel
theorem zTx_improve : zTx "improve" = zUpc [9, 13, 16, 18, 15, 22, 5] := by decide +kernel
theorem z5_improve : (10117267141 : Int) = z5 [9, 13, 16, 18, 15, 22, 5] := by decide +kernel
theorem zTx_take : zTx "take" = zUpc [20, 1, 11, 5] := by decide +kernel
theorem z5_take : (656741 : Int) = z5 [20, 1, 11, 5] := by decide +kernel
theorem zTx_best : zTx "best" = zUpc [2, 5, 19, 20] := by decide +kernel
theorem z5_best : (71284 : Int) = z5 [2, 5, 19, 20] := by decide +kernel
theorem zTx_out : zTx "out" = zUpc [15, 21, 20] := by decide +kernel
theorem z5_out : (16052 : Int) = z5 [15, 21, 20] := by decide +kernel
theorem zTx_in : zTx "in" = zUpc [9, 14] := by decide +kernel
theorem z5_in : (302 : Int) = z5 [9, 14] := by decide +kernel
theorem zTx_repeat : zTx "repeat" = zUpc [18, 5, 16, 5, 1, 20] := by decide +kernel
theorem z5_repeat : (609752116 : Int) = z5 [18, 5, 16, 5, 1, 20] := by decide +kernel
/-- the kind of a command -/
theorem z_kind {T m : CV} (h : zTR bf n T m) : ∃ a b : Int, fX2_kindOf T = some a ∧ fX8_commandHere m = some b ∧ ((a = -1 ∧ b = -1) ∨ (a = b + 1 ∧ (0 ≤ b ∧ b ≤ 9) ∧ T.1 2 = 1)) := by
  obtain ⟨b0, x0, y0, k0⟩ := z_isWord h (w := [3, 8, 15, 15, 19, 5]) (by unfold zLet; decide) (by decide)
  rw [← zTx_choose] at x0
  rw [← z5_choose] at y0
  obtain ⟨b1, x1, y1, k1⟩ := z_isWord h (w := [3, 12, 5, 1, 18]) (by unfold zLet; decide) (by decide)
  rw [← zTx_clear] at x1
  rw [← z5_clear] at y1
  obtain ⟨b2, x2, y2, k2⟩ := z_isWord h (w := [2, 5, 20, 20, 5, 18]) (by unfold zLet; decide) (by decide)
  rw [← zTx_better] at x2
  rw [← z5_better] at y2
  obtain ⟨b3, x3, y3, k3⟩ := z_isWord h (w := [9, 13, 16, 18, 15, 22, 5]) (by unfold zLet; decide) (by decide)
  rw [← zTx_improve] at x3
  rw [← z5_improve] at y3
  obtain ⟨b4, x4, y4, k4⟩ := z_isWord h (w := [20, 1, 11, 5]) (by unfold zLet; decide) (by decide)
  rw [← zTx_take] at x4
  rw [← z5_take] at y4
  obtain ⟨b5, x5, y5, k5⟩ := z_isWord h (w := [2, 5, 19, 20]) (by unfold zLet; decide) (by decide)
  rw [← zTx_best] at x5
  rw [← z5_best] at y5
  obtain ⟨b6, x6, y6, k6⟩ := z_isWord h (w := [15, 21, 20]) (by unfold zLet; decide) (by decide)
  rw [← zTx_out] at x6
  rw [← z5_out] at y6
  obtain ⟨b7, x7, y7, k7⟩ := z_isWord h (w := [9, 14]) (by unfold zLet; decide) (by decide)
  rw [← zTx_in] at x7
  rw [← z5_in] at y7
  obtain ⟨b8, x8, y8, k8⟩ := z_isWord h (w := [3, 8, 1, 14, 7, 5, 19]) (by unfold zLet; decide) (by decide)
  rw [← zTx_changes] at x8
  rw [← z5_changes] at y8
  obtain ⟨b9, x9, y9, k9⟩ := z_isWord h (w := [18, 5, 16, 5, 1, 20]) (by unfold zLet; decide) (by decide)
  rw [← zTx_repeat] at x9
  rw [← z5_repeat] at y9
  cases b0 with
  | true =>
    refine ⟨1, 0, zok_q ?_, zok_q ?_, Or.inr ⟨rfl, ⟨by decide, by decide⟩, k0 rfl⟩⟩
    · unfold fX2_kindOf
      exact zok_e x0 (zok_t rfl (zok_s rfl))
    · unfold fX8_commandHere
      exact zok_e y0 (zok_t rfl (zok_s rfl))
  | false =>
    cases b1 with
    | true =>
      refine ⟨2, 1, zok_q ?_, zok_q ?_, Or.inr ⟨rfl, ⟨by decide, by decide⟩, k1 rfl⟩⟩
      · unfold fX2_kindOf
        exact zok_e x0 (zok_f Bool.false_ne_true (zok_e x1 (zok_t rfl (zok_s rfl))))
      · unfold fX8_commandHere
        exact zok_e y0 (zok_f Bool.false_ne_true (zok_e y1 (zok_t rfl (zok_s rfl))))
    | false =>
      cases b2 with
      | true =>
        refine ⟨3, 2, zok_q ?_, zok_q ?_, Or.inr ⟨rfl, ⟨by decide, by decide⟩, k2 rfl⟩⟩
        · unfold fX2_kindOf
          exact zok_e x0 (zok_f Bool.false_ne_true (zok_e x1 (zok_f Bool.false_ne_true (zok_e x2 (zok_t rfl (zok_s rfl))))))
        · unfold fX8_commandHere
          exact zok_e y0 (zok_f Bool.false_ne_true (zok_e y1 (zok_f Bool.false_ne_true (zok_e y2 (zok_t rfl (zok_s rfl))))))
      | false =>
        cases b3 with
        | true =>
          refine ⟨4, 3, zok_q ?_, zok_q ?_, Or.inr ⟨rfl, ⟨by decide, by decide⟩, k3 rfl⟩⟩
          · unfold fX2_kindOf
            exact zok_e x0 (zok_f Bool.false_ne_true (zok_e x1 (zok_f Bool.false_ne_true (zok_e x2 (zok_f Bool.false_ne_true (zok_e x3 (zok_t rfl (zok_s rfl))))))))
          · unfold fX8_commandHere
            exact zok_e y0 (zok_f Bool.false_ne_true (zok_e y1 (zok_f Bool.false_ne_true (zok_e y2 (zok_f Bool.false_ne_true (zok_e y3 (zok_t rfl (zok_s rfl))))))))
        | false =>
          cases b4 with
          | true =>
            refine ⟨5, 4, zok_q ?_, zok_q ?_, Or.inr ⟨rfl, ⟨by decide, by decide⟩, k4 rfl⟩⟩
            · unfold fX2_kindOf
              exact zok_e x0 (zok_f Bool.false_ne_true (zok_e x1 (zok_f Bool.false_ne_true (zok_e x2 (zok_f Bool.false_ne_true (zok_e x3 (zok_f Bool.false_ne_true (zok_e x4 (zok_t rfl (zok_s rfl))))))))))
            · unfold fX8_commandHere
              exact zok_e y0 (zok_f Bool.false_ne_true (zok_e y1 (zok_f Bool.false_ne_true (zok_e y2 (zok_f Bool.false_ne_true (zok_e y3 (zok_f Bool.false_ne_true (zok_e y4 (zok_t rfl (zok_s rfl))))))))))
          | false =>
            cases b5 with
            | true =>
              refine ⟨6, 5, zok_q ?_, zok_q ?_, Or.inr ⟨rfl, ⟨by decide, by decide⟩, k5 rfl⟩⟩
              · unfold fX2_kindOf
                exact zok_e x0 (zok_f Bool.false_ne_true (zok_e x1 (zok_f Bool.false_ne_true (zok_e x2 (zok_f Bool.false_ne_true (zok_e x3 (zok_f Bool.false_ne_true (zok_e x4 (zok_f Bool.false_ne_true (zok_e x5 (zok_t rfl (zok_s rfl))))))))))))
              · unfold fX8_commandHere
                exact zok_e y0 (zok_f Bool.false_ne_true (zok_e y1 (zok_f Bool.false_ne_true (zok_e y2 (zok_f Bool.false_ne_true (zok_e y3 (zok_f Bool.false_ne_true (zok_e y4 (zok_f Bool.false_ne_true (zok_e y5 (zok_t rfl (zok_s rfl))))))))))))
            | false =>
              cases b6 with
              | true =>
                refine ⟨7, 6, zok_q ?_, zok_q ?_, Or.inr ⟨rfl, ⟨by decide, by decide⟩, k6 rfl⟩⟩
                · unfold fX2_kindOf
                  exact zok_e x0 (zok_f Bool.false_ne_true (zok_e x1 (zok_f Bool.false_ne_true (zok_e x2 (zok_f Bool.false_ne_true (zok_e x3 (zok_f Bool.false_ne_true (zok_e x4 (zok_f Bool.false_ne_true (zok_e x5 (zok_f Bool.false_ne_true (zok_e x6 (zok_t rfl (zok_s rfl))))))))))))))
                · unfold fX8_commandHere
                  exact zok_e y0 (zok_f Bool.false_ne_true (zok_e y1 (zok_f Bool.false_ne_true (zok_e y2 (zok_f Bool.false_ne_true (zok_e y3 (zok_f Bool.false_ne_true (zok_e y4 (zok_f Bool.false_ne_true (zok_e y5 (zok_f Bool.false_ne_true (zok_e y6 (zok_t rfl (zok_s rfl))))))))))))))
              | false =>
                cases b7 with
                | true =>
                  refine ⟨8, 7, zok_q ?_, zok_q ?_, Or.inr ⟨rfl, ⟨by decide, by decide⟩, k7 rfl⟩⟩
                  · unfold fX2_kindOf
                    exact zok_e x0 (zok_f Bool.false_ne_true (zok_e x1 (zok_f Bool.false_ne_true (zok_e x2 (zok_f Bool.false_ne_true (zok_e x3 (zok_f Bool.false_ne_true (zok_e x4 (zok_f Bool.false_ne_true (zok_e x5 (zok_f Bool.false_ne_true (zok_e x6 (zok_f Bool.false_ne_true (zok_e x7 (zok_t rfl (zok_s rfl))))))))))))))))
                  · unfold fX8_commandHere
                    exact zok_e y0 (zok_f Bool.false_ne_true (zok_e y1 (zok_f Bool.false_ne_true (zok_e y2 (zok_f Bool.false_ne_true (zok_e y3 (zok_f Bool.false_ne_true (zok_e y4 (zok_f Bool.false_ne_true (zok_e y5 (zok_f Bool.false_ne_true (zok_e y6 (zok_f Bool.false_ne_true (zok_e y7 (zok_t rfl (zok_s rfl))))))))))))))))
                | false =>
                  cases b8 with
                  | true =>
                    refine ⟨9, 8, zok_q ?_, zok_q ?_, Or.inr ⟨rfl, ⟨by decide, by decide⟩, k8 rfl⟩⟩
                    · unfold fX2_kindOf
                      exact zok_e x0 (zok_f Bool.false_ne_true (zok_e x1 (zok_f Bool.false_ne_true (zok_e x2 (zok_f Bool.false_ne_true (zok_e x3 (zok_f Bool.false_ne_true (zok_e x4 (zok_f Bool.false_ne_true (zok_e x5 (zok_f Bool.false_ne_true (zok_e x6 (zok_f Bool.false_ne_true (zok_e x7 (zok_f Bool.false_ne_true (zok_e x8 (zok_t rfl (zok_s rfl))))))))))))))))))
                    · unfold fX8_commandHere
                      exact zok_e y0 (zok_f Bool.false_ne_true (zok_e y1 (zok_f Bool.false_ne_true (zok_e y2 (zok_f Bool.false_ne_true (zok_e y3 (zok_f Bool.false_ne_true (zok_e y4 (zok_f Bool.false_ne_true (zok_e y5 (zok_f Bool.false_ne_true (zok_e y6 (zok_f Bool.false_ne_true (zok_e y7 (zok_f Bool.false_ne_true (zok_e y8 (zok_t rfl (zok_s rfl))))))))))))))))))
                  | false =>
                    cases b9 with
                    | true =>
                      refine ⟨10, 9, zok_q ?_, zok_q ?_, Or.inr ⟨rfl, ⟨by decide, by decide⟩, k9 rfl⟩⟩
                      · unfold fX2_kindOf
                        exact zok_e x0 (zok_f Bool.false_ne_true (zok_e x1 (zok_f Bool.false_ne_true (zok_e x2 (zok_f Bool.false_ne_true (zok_e x3 (zok_f Bool.false_ne_true (zok_e x4 (zok_f Bool.false_ne_true (zok_e x5 (zok_f Bool.false_ne_true (zok_e x6 (zok_f Bool.false_ne_true (zok_e x7 (zok_f Bool.false_ne_true (zok_e x8 (zok_f Bool.false_ne_true (zok_e x9 (zok_t rfl (zok_s rfl))))))))))))))))))))
                      · unfold fX8_commandHere
                        exact zok_e y0 (zok_f Bool.false_ne_true (zok_e y1 (zok_f Bool.false_ne_true (zok_e y2 (zok_f Bool.false_ne_true (zok_e y3 (zok_f Bool.false_ne_true (zok_e y4 (zok_f Bool.false_ne_true (zok_e y5 (zok_f Bool.false_ne_true (zok_e y6 (zok_f Bool.false_ne_true (zok_e y7 (zok_f Bool.false_ne_true (zok_e y8 (zok_f Bool.false_ne_true (zok_e y9 (zok_t rfl (zok_s rfl))))))))))))))))))))
                    | false =>
                      refine ⟨-1, -1, zok_q ?_, zok_q ?_, Or.inl ⟨rfl, rfl⟩⟩
                      · unfold fX2_kindOf
                        exact zok_e x0 (zok_f Bool.false_ne_true (zok_e x1 (zok_f Bool.false_ne_true (zok_e x2 (zok_f Bool.false_ne_true (zok_e x3 (zok_f Bool.false_ne_true (zok_e x4 (zok_f Bool.false_ne_true (zok_e x5 (zok_f Bool.false_ne_true (zok_e x6 (zok_f Bool.false_ne_true (zok_e x7 (zok_f Bool.false_ne_true (zok_e x8 (zok_f Bool.false_ne_true (zok_e x9 (zok_f Bool.false_ne_true (zok_s rfl))))))))))))))))))))
                      · unfold fX8_commandHere
                        exact zok_e y0 (zok_f Bool.false_ne_true (zok_e y1 (zok_f Bool.false_ne_true (zok_e y2 (zok_f Bool.false_ne_true (zok_e y3 (zok_f Bool.false_ne_true (zok_e y4 (zok_f Bool.false_ne_true (zok_e y5 (zok_f Bool.false_ne_true (zok_e y6 (zok_f Bool.false_ne_true (zok_e y7 (zok_f Bool.false_ne_true (zok_e y8 (zok_f Bool.false_ne_true (zok_e y9 (zok_f Bool.false_ne_true (zok_s rfl))))))))))))))))))))
/-- a word that the tables know by its kind alone: at the end none is there -/
theorem x_kind0 {T : CV} (h : T.1 2 = 0) : fX2_kindOf T = some (-1) := by
  have hw : ∀ w, fX6_isWord T w = some false := fun w => by
    apply zok_q
    unfold fX6_isWord
    exact zok_g (by rw [h]; decide) (zok_f (by rw [h]; decide) (zok_s rfl))
  apply zok_q
  unfold fX2_kindOf
  exact zok_e (hw _) (zok_f Bool.false_ne_true (zok_e (hw _) (zok_f Bool.false_ne_true (zok_e (hw _) (zok_f Bool.false_ne_true (zok_e (hw _) (zok_f Bool.false_ne_true (zok_e (hw _) (zok_f Bool.false_ne_true (zok_e (hw _) (zok_f Bool.false_ne_true (zok_e (hw _) (zok_f Bool.false_ne_true (zok_e (hw _) (zok_f Bool.false_ne_true (zok_e (hw _) (zok_f Bool.false_ne_true (zok_e (hw _) (zok_f Bool.false_ne_true (zok_s rfl))))))))))))))))))))
theorem x_passRowX {V T : CV} {s nm : Int → Int} (hB : zB1 V s nm) (h : zTcv bf n T) (h6 : T.1 6 ≠ 0) (hr : iR (T.1 6)) : zOk (fX2_passRow T V) (fun t => zTX bf n T t.1) := by
  have hn := zBr_n hB
  have hnr := x_name_r h
  unfold fX2_passRow
  refine zok_e (x_nameCode h) ?_
  generalize (if T.1 2 = 1 ∧ T.1 5 - T.1 4 ≤ 8 then z8 (zwd bf (T.1 4) (T.1 5)) else 0) = a at hnr ⊢
  refine zok_b (x_rowNamed hn.1 ⟨by omega, by omega⟩ hn.2.1) (fun r hr2 => ?_)
  refine zok_g ⟨⟨by omega, by omega⟩, by decide⟩ ?_
  refine zok_i (fun _ => zok_e (x_failX h6 hr) (zok_s (zTX_0 h))) (fun _ => zok_g (by omega) ?_)
  exact zok_i (fun _ => zok_e (x_failX h6 hr) (zok_s (zTX_0 h))) (fun _ => zok_b (x_next h) (fun t ht => zok_s ht.1))
theorem z_rowT {V T m : CV} (h : zTR bf n T m) (hB : zB1 V (m.2 2) (m.2 7)) : zOk (fX2_passRow T V) (fun t => zOk (fX8_toldRow m) (fun u => zwF T t.1 m u.1 ∧ ((zTR bf n t.1 u.1 ∧ T.1 5 ≤ t.1.1 4 ∧ t.2 = u.2 ∧ (0 ≤ u.2 ∧ u.2 < m.2 2 0)) ∨ zTE bf n t.1 u.1))) := by
  have hn := zBr_n hB
  have w0 := hB.1.1
  have hV3 : V.1 3 = m.2 2 0 := hB.2.1.2.2.2.1
  have hh := h
  obtain ⟨hT, hM, ⟨f1, f2, f3⟩, c1, d2, c3, c4⟩ := hh
  obtain ⟨r1, r2, r3, r4, r5, r6, r7, r8, r9, r10⟩ := hT.r
  have hnr := x_name_r hT
  obtain ⟨kn, ekn, hkn⟩ := y_named (m := m) (s := m.2 2) rfl w0 hM.2.2.2.2.2 (fun q q0 q1 => hn.2.2 q q0 (by omega))
  unfold fX2_passRow
  refine zok_e (x_nameCode hT) ?_
  by_cases k1 : T.1 2 = 1 ∧ T.1 5 - T.1 4 ≤ 8
  · have hw8 := r8 k1.1
    have hu := zwd_w hw8.2.2
    have hul := zwd_l (bf := bf) (p := T.1 4) (q := T.1 5) r3
    obtain ⟨u, hue⟩ : ∃ u, u = zwd bf (T.1 4) (T.1 5) := ⟨_, rfl⟩
    rw [if_pos k1]
    rw [if_pos k1] at hnr
    rw [← hue] at hu hul hnr ⊢
    have hu8 := z8_63 hu (by omega)
    have hup := z8_0 hu (by omega)
    have hy6 : m.1 6 = 1 := by rw [← f1]; exact k1.1
    have hy8 := hM.2.2.2.2.1 hy6
    have hy8' : m.1 8 = T.1 5 - T.1 4 := by rw [hy8.1, ← f2, ← f3]
    have hy13 : m.1 13 = z5 u := by
      rw [hy8.2 (by omega), hue, ← f2, hy8']
      rfl
    rw [hy13] at hkn
    have hmn : fX8_mustName m = some m := by
      apply zok_q
      unfold fX8_mustName
      refine zok_e (y_good0 d2) (zok_t rfl ?_)
      refine zok_jP (fun _ => False) (fun _ z => z.elim) (fun K hK => zok_g (by omega) (zok_t hy6 (zok_g (by omega) (zok_t (by omega) (zok_s rfl)))))
    have hcz : ¬ zCmp (z8 u) 0 = 0 := by rw [zCmp_0]; omega
    obtain ⟨kc, ekc, hkc⟩ := x_rowNamed hn.1 (a := z8 u) ⟨by omega, by omega⟩ hn.2.1
    rw [hV3] at hkc
    refine zok_e ekc ?_
    refine zok_g ⟨⟨by omega, by omega⟩, by decide⟩ (zok_f hcz ?_)
    by_cases kk : kc = -1
    · have hq : ∀ q, 0 ≤ q → q < m.2 2 0 → m.2 7 q ≠ z5 u := fun q q0 q1 z => by
        have e := (zNm_iff (hB.2.2 q q0 q1).1 hu).mpr z
        rcases hkc with ⟨_, a⟩ | ⟨a, _⟩
        · exact a q q0 q1 e
        · omega
      have hkn1 : kn = -1 := by
        rcases hkn with ⟨a, _⟩ | ⟨a, b, c⟩
        · exact a
        · exact absurd c (hq kn a b)
      refine zok_g (by omega) (zok_t kk ?_)
      refine zok_b (z_fail h (c := 3) (by decide) (fun q => by omega)) (fun t ht => zok_s ?_)
      obtain ⟨v, ev, hv⟩ := ht
      unfold fX8_toldRow
      refine zok_e hmn (zok_e ekn (zok_e (y_good0 d2) ?_))
      refine zok_jP (fun (q : CV) => q = v) (fun q hq => ?_) (fun K hK => zok_t rfl (zok_g (by omega) (zok_t hkn1 (zok_e ev (hK _ rfl)))))
      rw [hq]
      exact zok_e (y_goodE hv.1.2.1) (zok_f Bool.false_ne_true (zok_s ⟨⟨zEx_w hv.2.1 (by decide) (by decide), zEx_w hv.2.2 (by decide) (by decide)⟩, Or.inr hv.1⟩))
    · have hkk : 0 ≤ kc ∧ kc < m.2 2 0 ∧ m.2 7 kc = z5 u := by
        rcases hkc with ⟨a, _⟩ | ⟨a, b, c⟩
        · exact absurd a kk
        · exact ⟨a, b, (zNm_iff (hB.2.2 kc a b).1 hu).mp c⟩
      have hknk : kn = kc := by
        rcases hkn with ⟨_, a2⟩ | ⟨a2, b2, c2⟩
        · exact absurd hkk.2.2 (a2 kc hkk.1 hkk.2.1)
        · by_cases q1 : kn < kc
          · exact absurd (c2.trans hkk.2.2.symm) ((hB.2.2 kc hkk.1 hkk.2.1).2 kn a2 q1)
          · by_cases q2 : kc < kn
            · exact absurd (hkk.2.2.trans c2.symm) ((hB.2.2 kn a2 b2).2 kc hkk.1 q2)
            · omega
      refine zok_g (by omega) (zok_f kk ?_)
      refine zok_b (z_next h) (fun t ht => zok_s ?_)
      unfold fX8_toldRow
      refine zok_e hmn (zok_e ekn (zok_e (y_good0 d2) ?_))
      refine zok_jP (fun (q : CV) => q = m) (fun q hq => ?_) (fun K hK => zok_t rfl (zok_g (by omega) (zok_f (by omega) (hK _ rfl))))
      rw [hq]
      refine zok_e (y_good0 d2) (zok_t rfl (zok_b ht (fun v hv => zok_s ⟨⟨zEx_w hv.2.1 (by decide) (by decide), zEx_w hv.2.2.1 (by decide) (by decide)⟩, Or.inl ⟨hv.1, hv.2.2.2, hknk.symm, ?_⟩⟩)))
      show 0 ≤ kn ∧ kn < m.2 2 0
      omega
  · rw [if_neg k1]
    obtain ⟨kc, ekc, hkc⟩ := x_rowNamed hn.1 (a := 0) (by decide) hn.2.1
    refine zok_e ekc (zok_g (by decide) (zok_t (by decide) ?_))
    refine zok_b (z_fail h (c := 1) (by decide) (fun q => rfl)) (fun t ht => zok_s ?_)
    obtain ⟨v, ev, hv⟩ := ht
    have hmn : fX8_mustName m = some v := by
      have hyr := hM.r
      apply zok_q
      unfold fX8_mustName
      refine zok_e (y_good0 d2) (zok_t rfl ?_)
      refine zok_jP (fun _ => True) (fun _ _ => zok_e ev (zok_s rfl)) (fun K hK => zok_g (by omega) ?_)
      by_cases k2 : m.1 6 = 1
      · have hy8 := (hM.2.2.2.2.1 k2).1
        have hsz := r8 (by rw [f1]; exact k2)
        refine zok_t k2 (zok_g (by omega) (zok_f (fun z => k1 ⟨by omega, by omega⟩) (hK () trivial)))
      · exact zok_f k2 (hK () trivial)
    have hEv : zEx [9, 10] [] m v := hv.2.2
    obtain ⟨kn2, ekn2, -⟩ := y_named (m := v) (s := v.2 2) rfl (by rw [hEv.2 2 (by decide)]; exact w0) (by rw [hEv.1 13 (by decide)]; exact hM.2.2.2.2.2) (fun q q0 q1 => by
      rw [hEv.2 2 (by decide)] at q1
      rw [hEv.2 7 (by decide)]
      exact hn.2.2 q q0 (by omega))
    unfold fX8_toldRow
    refine zok_e hmn (zok_e ekn2 (zok_e (y_goodE hv.1.2.1) ?_))
    refine zok_jP (fun (q : CV) => q = v) (fun q hq => ?_) (fun K hK => zok_f Bool.false_ne_true (hK _ rfl))
    rw [hq]
    exact zok_e (y_goodE hv.1.2.1) (zok_f Bool.false_ne_true (zok_s ⟨⟨zEx_w hv.2.1 (by decide) (by decide), zEx_w hv.2.2 (by decide) (by decide)⟩, Or.inr hv.1⟩))
theorem x_wordOfS {V : CV} {c : Int} (hc : 0 ≤ c ∧ c < 4294967296) (hL : 0 ≤ V.1 1 ∧ V.1 1 ≤ 6) : zOk (fX0_wordOf V c) (fun _ => True) := by
  unfold fX0_wordOf
  refine zok_F (β := Int) (mk := fun a i => (a, i)) (V.1 1) (fun _ _ => True) rfl (by omega) trivial (fun i a hi hi2 hI => ?_) (fun i a hi hi2 hi3 hi4 hI => ?_)
  · dsimp only
    have hl : fX0_letterOf c i = some (c / zP2 (2 * i) % 4) := by
      apply zok_q
      unfold fX0_letterOf
      exact zok_g (by omega) (zok_s rfl)
    exact zok_g (by omega) (zok_f (by omega) (zok_e hl (zok_sl ⟨_, rfl, trivial⟩)))
  · dsimp only
    exact zok_g (by omega) (zok_t (by omega) (zok_sr (zok_s trivial)))
theorem z_wordT {V T m : CV} (h : zTR bf n T m) (hB : zB1 V (m.2 2) (m.2 7)) : zOk (fX2_passWord T V) (fun t => zOk (fX8_toldWord m) (fun u => zwF T t.1 m u.1 ∧ ((zTR bf n t.1 u.1 ∧ T.1 5 ≤ t.1.1 4 ∧ t.2 = u.2 ∧ (0 ≤ u.2 ∧ u.2 < zWords (m.2 2))) ∨ zTE bf n t.1 u.1))) := by
  have w1 := hB.1.2.1
  have w2 := hB.1.2.2.1
  have hV0 : V.1 0 = m.2 2 1 := hB.2.1.1
  have hV1 : V.1 1 = m.2 2 2 := hB.2.1.2.1
  have hh := h
  obtain ⟨hT, hM, ⟨f1, f2, f3⟩, c1, d2, c3, c4⟩ := hh
  obtain ⟨r1, r2, r3, r4, r5, r6, r7, r8, r9, r10⟩ := hT.r
  unfold fX2_passWord
  refine zok_b (x_wordCode hT (L := V.1 0) (by omega)) (fun c hc => ?_)
  obtain ⟨vw, evw, -⟩ := x_wordOfS (V := V) (c := c % 4294967296) ⟨Int.emod_nonneg _ (by decide), Int.emod_lt_of_pos _ (by decide)⟩ (by omega)
  -- what the model makes of an error
  have bad : ∀ (t v : CV), fX8_wrong m 3 = some v → zTE bf n t v → zEx [6, 7] [] T t → zEx [9, 10] [] m v → T.1 2 = 1 → ¬ (T.1 5 - T.1 4 = m.2 2 2 ∧ zAll bf (T.1 4) (T.1 5) (m.2 2 1)) → zOk (fX8_toldWord m) (fun u => zwF T t m u.1 ∧ ((zTR bf n t u.1 ∧ T.1 5 ≤ t.1 4 ∧ vw = u.2 ∧ (0 ≤ u.2 ∧ u.2 < zWords (m.2 2))) ∨ zTE bf n t u.1)) := by
    intro t v ev hE hTE hME k1 hno
    have hy6 : m.1 6 = 1 := by rw [← f1]; exact k1
    have hy8 : m.1 8 = T.1 5 - T.1 4 := by rw [(hM.2.2.2.2.1 hy6).1, ← f2, ← f3]
    unfold fX8_toldWord
    refine zok_e (y_good0 d2) ?_
    refine zok_jP (fun (q : CV) => q = m) (fun q hq => ?_) (fun K hK => zok_t rfl (zok_g (by omega) (zok_t hy6 (hK _ rfl))))
    rw [hq]
    refine zok_e (y_good0 d2) ?_
    refine zok_jP (fun (q : CV) => q = v) (fun q hq => ?_) (fun K hK => zok_t rfl ?_)
    · rw [hq]
      have hg := hE.2.1
      have v22 : v.2 2 = m.2 2 := hME.2 2 (by decide)
      refine zok_L (I := fun (z : Int × Int) => z.2 = 0) (μ := fun _ => 0) rfl (by decide) (fun z hz => ?_)
      rw [hz, v22]
      refine zok_g (by omega) (zok_f (by omega) (zok_e (y_goodE hg) (zok_f Bool.false_ne_true (zok_sr ?_))))
      exact zok_e (y_goodE hg) (zok_f Bool.false_ne_true (zok_s ⟨⟨zEx_w hTE (by decide) (by decide), zEx_w hME (by decide) (by decide)⟩, Or.inr hE⟩))
    · refine zok_jP (fun _ => True) (fun _ _ => zok_e ev (hK _ rfl)) (fun J hJ => ?_)
      refine zok_g (by omega) ?_
      refine zok_i (fun q => ?_) (fun q => hJ () trivial)
      obtain ⟨b, eb, hb⟩ := y_hasLetters (m := m) (s := m.2 2) rfl hM hy6 (by omega)
      have hbt : b = false := by
        rcases hb with ⟨_, z⟩ | ⟨z, _⟩
        · refine absurd ⟨by omega, ?_⟩ hno
          rw [f2, f3]; exact z
        · exact z
      rw [hbt] at eb
      exact zok_e eb (zok_f Bool.false_ne_true (hJ () trivial))
  refine zok_jP (fun (x : CV) => zOk (fX8_toldWord m) (fun u => zwF T x m u.1 ∧ ((zTR bf n x u.1 ∧ T.1 5 ≤ x.1 4 ∧ vw = u.2 ∧ (0 ≤ u.2 ∧ u.2 < zWords (m.2 2))) ∨ zTE bf n x u.1))) (fun x hx => zok_e evw (zok_s hx)) (fun K hK => ?_)
  refine zok_g (by omega) ?_
  by_cases k1 : T.1 2 = 1
  · have hsz := r8 k1
    have hws := x_wordSize hT
    rw [if_pos k1] at hws
    refine zok_t k1 (zok_e hws ?_)
    have hy6 : m.1 6 = 1 := by rw [← f1]; exact k1
    have hy8 : m.1 8 = T.1 5 - T.1 4 := by rw [(hM.2.2.2.2.1 hy6).1, ← f2, ← f3]
    refine zok_jP (fun _ => ¬ (T.1 5 - T.1 4 = m.2 2 2 ∧ zAll bf (T.1 4) (T.1 5) (m.2 2 1))) (fun _ hno => ?_) (fun J hJ => ?_)
    · refine zok_b (z_fail h (c := 3) (by decide) (fun q => by omega)) (fun t ht => ?_)
      obtain ⟨v, ev, hv⟩ := ht
      exact hK _ (bad t v ev hv.1 hv.2.1 hv.2.2 k1 hno)
    · refine zok_g ⟨⟨by omega, by omega⟩, ⟨by omega, by omega⟩⟩ ?_
      refine zok_i (fun q1 => zok_g ⟨hc.1, by decide⟩ ?_) (fun q1 => hJ () (fun z => q1 (by omega)))
      rcases hc.2.2 k1 with ⟨hall, hcd⟩ | ⟨hall, hcm⟩
      · have hcn : ¬ zCmp c (-1) = 0 := by rw [zCmp_0]; have := hcd.1; omega
        refine zok_f hcn ?_
        refine zok_b (z_next h) (fun t ht => hK _ ?_)
        have hcd2 : zCd c (m.2 2 2) (fun j => bf (T.1 4 + j) - 97) := by
          rw [show T.1 5 - T.1 4 = m.2 2 2 by omega] at hcd
          exact hcd
        have hc12 : c < 4294967296 := by
          have h1 := hcd2.2.1
          have h2 : zP2 (2 * m.2 2 2) ≤ zP2 12 := zP2_le (by omega)
          have h3 : zP2 12 = 4096 := by decide
          omega
        have hvw : vw = zNb (m.2 2) (fun j => bf (T.1 4 + j) - 97) (m.2 2 2) := by
          rw [Int.emod_eq_of_lt hcd2.1 hc12, b_wordOf hB.1 hB.2.1 hcd2] at evw
          exact (Option.some.inj evw).symm
        have hlt : ∀ j, 0 ≤ j → j < m.2 2 2 → 0 ≤ bf (T.1 4 + j) - 97 ∧ bf (T.1 4 + j) - 97 < m.2 2 1 := fun j j0 j1 => by
          have h1 := hsz.2.2 (T.1 4 + j) (by omega) (by omega)
          have h2 := hall (T.1 4 + j) (by omega) (by omega)
          omega
        have hr := zNb_r hB.1 (u := fun j => bf (T.1 4 + j) - 97) (m.2 2 2).toNat (fun j j0 j1 => hlt (j : Int) (by omega) (by omega))
        rw [show (((m.2 2 2).toNat : Nat) : Int) = m.2 2 2 by omega] at hr
        unfold fX8_toldWord
        refine zok_e (y_good0 d2) ?_
        refine zok_jP (fun (q : CV) => q = m) (fun q hq => ?_) (fun K hK => zok_t rfl (zok_g (by omega) (zok_t hy6 (hK _ rfl))))
        rw [hq]
        refine zok_e (y_good0 d2) ?_
        refine zok_jP (fun (q : CV) => q = m) (fun q hq => ?_) (fun K hK => zok_t rfl ?_)
        · rw [hq]
          refine zok_F (β := Int) (mk := fun a i => (a, i)) (m.2 2 2) (fun i a => a = zNb (m.2 2) (fun j => bf (T.1 4 + j) - 97) i) (a0 := 0) rfl (by omega) rfl (fun i a hi hi2 hI => ?_) (fun i a hi hi2 hi3 hi4 hI => ?_)
          · dsimp only
            refine zok_g (by omega) (zok_f (by omega) (zok_e (y_good0 d2) (zok_t rfl (zok_g (by omega) (zok_sl ⟨_, rfl, ?_⟩)))))
            rw [zNb_s hi, hI, (hM.1.2.2 (m.1 5 + i) (by omega) (by omega)).2, ← f2, Int.mul_comm (m.2 2 1)]
            omega
          · dsimp only
            refine zok_g (by omega) (zok_t (by omega) (zok_sr (zok_e (y_good0 d2) (zok_t rfl (zok_b ht (fun u hu => zok_s ⟨⟨zEx_w hu.2.1 (by decide) (by decide), zEx_w hu.2.2.1 (by decide) (by decide)⟩, Or.inl ⟨hu.1, hu.2.2.2, ?_, ?_⟩⟩))))))
            · show vw = a
              rw [hI, hi3 (by omega), hvw]
            · show 0 ≤ a ∧ a < zWords (m.2 2)
              rw [hI, hi3 (by omega)]
              exact hr
        · refine zok_jP (fun _ => False) (fun _ z => z.elim) (fun J2 hJ2 => ?_)
          obtain ⟨b, eb, hb⟩ := y_hasLetters (m := m) (s := m.2 2) rfl hM hy6 (by omega)
          have hbt : b = true := by
            rcases hb with ⟨z, _⟩ | ⟨_, z⟩
            · exact z
            · refine absurd ?_ z
              rw [← f2, ← f3, ← hV0]
              exact hall
          rw [hbt] at eb
          exact zok_g (by omega) (zok_t (by omega) (zok_e eb (zok_t rfl (hK _ rfl))))
      · rw [hcm]
        refine zok_t (by decide) (hJ () (fun z => hall ?_))
        rw [hV0]; exact z.2
  · refine zok_f k1 ?_
    have hy6 : ¬ m.1 6 = 1 := by rw [← f1]; exact k1
    have hyr := hM.r
    refine zok_b (z_fail h (c := 1) (by decide) (fun q => rfl)) (fun t ht => hK _ ?_)
    obtain ⟨v, ev, hv⟩ := ht
    have hg := hv.1.2.1
    have v22 : v.2 2 = m.2 2 := hv.2.2.2 2 (by decide)
    unfold fX8_toldWord
    refine zok_e (y_good0 d2) ?_
    refine zok_jP (fun (q : CV) => q = v) (fun q hq => ?_) (fun K hK => zok_t rfl (zok_g (by omega) (zok_f hy6 (zok_e ev (hK _ rfl)))))
    rw [hq]
    refine zok_e (y_goodE hg) ?_
    refine zok_jP (fun (q : CV) => q = v) (fun q hq => ?_) (fun K hK => zok_f Bool.false_ne_true (hK _ rfl))
    rw [hq]
    refine zok_L (I := fun (z : Int × Int) => z.2 = 0) (μ := fun _ => 0) rfl (by decide) (fun z hz => ?_)
    rw [hz, v22]
    refine zok_g (by omega) (zok_f (by omega) (zok_e (y_goodE hg) (zok_f Bool.false_ne_true (zok_sr ?_))))
    exact zok_e (y_goodE hg) (zok_f Bool.false_ne_true (zok_s ⟨⟨zEx_w hv.2.1 (by decide) (by decide), zEx_w hv.2.2 (by decide) (by decide)⟩, Or.inr hv.1⟩))
theorem x_passWordX {V T : CV} {s nm : Int → Int} (hB : zB1 V s nm) (h : zTcv bf n T) (h6 : T.1 6 ≠ 0) (hr : iR (T.1 6)) : zOk (fX2_passWord T V) (fun t => zTX bf n T t.1) := by
  have w1 := hB.1.2.1
  have w2 := hB.1.2.2.1
  have hV0 : V.1 0 = s 1 := hB.2.1.1
  have hV1 : V.1 1 = s 2 := hB.2.1.2.1
  obtain ⟨r1, r2, r3, r4, r5, r6, r7, r8, r9, r10⟩ := h.r
  unfold fX2_passWord
  refine zok_b (x_wordCode h (L := V.1 0) (by omega)) (fun c hc => ?_)
  obtain ⟨vw, evw, -⟩ := x_wordOfS (V := V) (c := c % 4294967296) ⟨Int.emod_nonneg _ (by decide), Int.emod_lt_of_pos _ (by decide)⟩ (by omega)
  refine zok_jP (fun (x : CV) => zTX bf n T x) (fun x hx => zok_e evw (zok_s hx)) (fun K hK => ?_)
  refine zok_g (by omega) ?_
  have hsz : 0 ≤ (if T.1 2 = 1 then T.1 5 - T.1 4 else 0) ∧ (if T.1 2 = 1 then T.1 5 - T.1 4 else 0) ≤ 600 := by split <;> omega
  refine zok_i (fun k1 => zok_e (x_wordSize h) ?_) (fun k1 => zok_e (x_failX h6 hr) (hK _ (zTX_0 h)))
  generalize (if T.1 2 = 1 then T.1 5 - T.1 4 else 0) = sz at hsz ⊢
  refine zok_jP (fun _ => True) (fun _ _ => zok_e (x_failX h6 hr) (hK _ (zTX_0 h))) (fun J hJ => ?_)
  refine zok_g ⟨⟨by omega, by omega⟩, ⟨by omega, by omega⟩⟩ ?_
  refine zok_i (fun _ => zok_g ⟨hc.1, by decide⟩ ?_) (fun _ => hJ () trivial)
  exact zok_i (fun _ => hJ () trivial) (fun _ => zok_b (x_next h) (fun t ht => hK _ ht.1))
end ZLK
