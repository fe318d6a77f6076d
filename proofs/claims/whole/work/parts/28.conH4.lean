set_option maxHeartbeats 4000000 in
set_option maxRecDepth 100000 in
theorem wX7_spread {X : zX} (hX : zOK X) {A : Nat → Nat} {n : Nat} {S : Nat → va_E} {σ : CS} (bn : 91 ≤ n) {a1 : Int} {res : (Int ⊕ String)} (h : fX7_spread σ a1 = some res) : Con X yX7_spread mX7_spread 7 1 6 [.ref (A 0), .int (iI a1)] (zWs A n (zSt X A σ S)) (zRx (zWs A n (zSt X A σ S)) (zoI res)) := by
  refine con_of (lv := [(0, .ref (A 0)), (1, .int (iI a1))]) (by decide) rfl (fun h => by cases h) rfl (Nat.le_of_ble_eq_true rfl) rfl ?_
  unfold fX7_spread at h
  refine g_aload_n (M := mX7_spread) dX7_spread_0 0 rfl rfl ?_
  refine g_iload_n (M := mX7_spread) dX7_spread_1 1 rfl rfl ?_
  obtain ⟨t1, u2, h⟩ := zbi h
  rcases o3 : t1 with vt1 | Et1
  · have h := zslo o3 h
    refine g_callVx (M := mX7_spread) [.int (iI a1)] hX dX7_spread_2 vX7_requireWord kM_X7_208 (wX7_requireWord hX bn  u2) (congrArg zoV o3) 0 (zWs_at (by omega) ((zSt_c 0 rfl (show σ 0 = (σ 0) from rfl))).o) rfl ⟨(Nat.le_of_ble_eq_true rfl), (Nat.le_of_ble_eq_true rfl)⟩ ⟨(Nat.le_of_ble_eq_true rfl), (Nat.le_of_ble_eq_true rfl)⟩ (Nat.le_of_ble_eq_true rfl) ?_
    refine g_aload_n (M := mX7_spread) dX7_spread_5 0 rfl rfl ?_
    refine k_get (M := mX7_spread) (v := .ref (A 12)) dX7_spread_6 kF_X7_33.r 0 (by omega) ((zSt_c 0 rfl (show σ 0 = (σ 0) from rfl))).o rfl ?_
    refine g_iload_n (M := mX7_spread) dX7_spread_9 1 rfl rfl ?_
    obtain ⟨t4, u5, h⟩ := zbi h
    refine g_callVr (M := mX7_spread) [.int (iI a1)] hX dX7_spread_10 vX0_codeOf kM_X7_211 (wX0_codeOf hX (zSt_c 4 rfl (show σ 4 = (σ 4) from rfl)) (by omega)  u5) 12 (zWs_at (by omega) ((zSt_c 4 rfl (show σ 4 = (σ 4) from rfl))).o) rfl ⟨(Nat.le_of_ble_eq_true rfl), (Nat.le_of_ble_eq_true rfl)⟩ ⟨(Nat.le_of_ble_eq_true rfl), (Nat.le_of_ble_eq_true rfl)⟩ (Nat.le_of_ble_eq_true rfl) ?_
    refine g_istore_n (M := mX7_spread) (lv' := [(0, .ref (A 0)), (1, .int (iI a1)), (2, .int (iI t4))]) dX7_spread_13 rfl (by decide) rfl ?_
    refine h_iconst (M := mX7_spread) dX7_spread_14 ?_
    refine g_istore_n (M := mX7_spread) (lv' := [(0, .ref (A 0)), (1, .int (iI a1)), (2, .int (iI t4)), (3, .int (iI (-1)))]) dX7_spread_15 rfl (by decide) rfl ?_
    refine h_iconst (M := mX7_spread) dX7_spread_16 ?_
    refine g_istore (M := mX7_spread) (lv' := [(0, .ref (A 0)), (1, .int (iI a1)), (2, .int (iI t4)), (3, .int (iI (-1))), (4, .int (iI 0))]) dX7_spread_17 (by decide) rfl ?_
    obtain ⟨x6, l6, h⟩ := zbi h
    have r6 : ∀ y6, y6 = x6 → G X mX7_spread (zPm X 7 1 6 (zRx (zWs A n (zSt X A σ S)) (zoI res))) 1 6 71 [(3, .int (iI y6.1))] [] (zWs A n (zSt X A σ S)) := by
      intro y6 ey
      rw [← ey] at h
      refine g_iload_n (M := mX7_spread) dX7_spread_71 0 rfl rfl ?_
      have e := (Option.some.inj h)
      subst e
      exact g_iret (M := mX7_spread) dX7_spread_72 rfl (Nat.le_of_ble_eq_true rfl) (Nat.le_of_ble_eq_true rfl) ⟨rfl, rfl⟩
    refine g_lv (M := mX7_spread) [0, 2, 3, 4] rfl ?_
    refine zLp_J (J := fun s6 => G X mX7_spread (zPm X 7 1 6 (zRx (zWs A n (zSt X A σ S)) (zoI res))) 1 6 19 [(0, .ref (A 0)), (2, .int (iI t4)), (3, .int (iI s6.1)), (4, .int (iI s6.2))] [] (zWs A n (zSt X A σ S))) (fun s6 w6 h6 b6 e6 => ?_) _ _ l6
    refine g_iload (M := mX7_spread) dX7_spread_19 3 rfl ?_
    refine g_aload_n (M := mX7_spread) dX7_spread_21 0 rfl rfl ?_
    refine k_get (M := mX7_spread) (v := .ref (A 12)) dX7_spread_22 kF_X7_33.r 0 (by omega) ((zSt_c 0 rfl (show σ 0 = (σ 0) from rfl))).o rfl ?_
    refine k_get (M := mX7_spread) (v := .int (iI ((σ 4).1 3))) dX7_spread_25 kF_X7_108.r 12 (by omega) ((zSt_c 4 rfl (show σ 4 = (σ 4) from rfl))).o rfl ?_
    obtain ⟨g16, h6⟩ := zgi h6
    refine h_icmp_ge (M := mX7_spread) (tgt := 71) dX7_spread_28 (by decide) g16.1 g16.2 (fun c15 => ?_) (fun c15 => ?_)
    · have h6 := zti c15 h6
      refine g_lv (M := mX7_spread) [2] rfl ?_
      exact r6 _ (e6 _ (Option.some.inj h6).symm)
    · have h6 := zfi (Int.not_le.mpr c15) h6
      refine g_aload_n (M := mX7_spread) dX7_spread_31 0 rfl rfl ?_
      refine k_get (M := mX7_spread) (v := .ref (A 12)) dX7_spread_32 kF_X7_33.r 0 (by omega) ((zSt_c 0 rfl (show σ 0 = (σ 0) from rfl))).o rfl ?_
      refine g_iload (M := mX7_spread) dX7_spread_35 3 rfl ?_
      obtain ⟨t17, u18, h6⟩ := zbi h6
      refine g_callVr (M := mX7_spread) [.int (iI s6.2)] hX dX7_spread_37 vX0_isOut kM_X7_180 (wX0_isOut hX (zSt_c 4 rfl (show σ 4 = (σ 4) from rfl)) (by omega)  u18) 12 (zWs_at (by omega) ((zSt_c 4 rfl (show σ 4 = (σ 4) from rfl))).o) rfl ⟨(Nat.le_of_ble_eq_true rfl), (Nat.le_of_ble_eq_true rfl)⟩ ⟨(Nat.le_of_ble_eq_true rfl), (Nat.le_of_ble_eq_true rfl)⟩ (Nat.le_of_ble_eq_true rfl) ?_
      refine h_bne (M := mX7_spread) (tgt := 65) dX7_spread_40 (by decide) (fun c19 => ?_) (fun c19 => ?_)
      · have h6 := zti c19 h6
        refine h_iinc (M := mX7_spread) (j := 3) (lv' := [(0, .ref (A 0)), (2, .int (iI t4)), (3, .int (iI s6.1)), (4, .int (iI (s6.2 + 1)))]) dX7_spread_65 rfl (Nat.le_of_ble_eq_true rfl) rfl ?_
        refine g_goto (M := mX7_spread) (tgt := 19) dX7_spread_68 (by decide) ?_
        exact b6 _ (Option.some.inj h6).symm
      · have h6 := zfi (zbf c19) h6
        refine g_iload_n (M := mX7_spread) dX7_spread_43 2 rfl rfl ?_
        refine g_aload_n (M := mX7_spread) dX7_spread_44 0 rfl rfl ?_
        refine k_get (M := mX7_spread) (v := .ref (A 12)) dX7_spread_45 kF_X7_33.r 0 (by omega) ((zSt_c 0 rfl (show σ 0 = (σ 0) from rfl))).o rfl ?_
        refine g_iload (M := mX7_spread) dX7_spread_48 3 rfl ?_
        refine g_iload_n (M := mX7_spread) dX7_spread_50 1 rfl rfl ?_
        refine g_aload_n (M := mX7_spread) dX7_spread_51 0 rfl rfl ?_
        refine k_get (M := mX7_spread) (v := .ref (A 12)) dX7_spread_52 kF_X7_33.r 0 (by omega) ((zSt_c 0 rfl (show σ 0 = (σ 0) from rfl))).o rfl ?_
        refine k_get (M := mX7_spread) (v := .int (iI ((σ 4).1 1))) dX7_spread_55 kF_X7_134.r 12 (by omega) ((zSt_c 4 rfl (show σ 4 = (σ 4) from rfl))).o rfl ?_
        obtain ⟨t20, u21, h6⟩ := zbi h6
        refine g_callVr (M := mX7_spread) [.int (iI s6.2), .int (iI t4), .int (iI ((σ 4).1 1))] hX dX7_spread_58 vX0_nearest kM_X7_218 (wX0_nearest hX (zSt_c 4 rfl (show σ 4 = (σ 4) from rfl)) (by omega)  u21) 12 (zWs_at (by omega) ((zSt_c 4 rfl (show σ 4 = (σ 4) from rfl))).o) rfl ⟨(Nat.le_of_ble_eq_true rfl), (Nat.le_of_ble_eq_true rfl)⟩ ⟨(Nat.le_of_ble_eq_true rfl), (Nat.le_of_ble_eq_true rfl)⟩ (Nat.le_of_ble_eq_true rfl) ?_
        obtain ⟨g22, h6⟩ := zgi h6
        refine h_max (M := mX7_spread) dX7_spread_61 kM_X7_230 g22.1 g22.2 (Nat.le_of_ble_eq_true rfl) (Nat.le_of_ble_eq_true rfl) (Nat.le_of_ble_eq_true rfl) (Nat.le_of_ble_eq_true rfl) ?_
        refine g_istore_n (M := mX7_spread) (lv' := [(0, .ref (A 0)), (2, .int (iI t4)), (3, .int (iI (zMax s6.1 t20))), (4, .int (iI s6.2))]) dX7_spread_64 rfl (by decide) rfl ?_
        refine h_iinc (M := mX7_spread) (j := 3) (lv' := [(0, .ref (A 0)), (2, .int (iI t4)), (3, .int (iI (zMax s6.1 t20))), (4, .int (iI (s6.2 + 1)))]) dX7_spread_65 rfl (Nat.le_of_ble_eq_true rfl) rfl ?_
        refine g_goto (M := mX7_spread) (tgt := 19) dX7_spread_68 (by decide) ?_
        exact b6 _ (Option.some.inj h6).symm
  · have h := zsro o3 h
    have e := (Option.some.inj h)
    subst e
    exact g_callVe (M := mX7_spread) [.int (iI a1)] hX dX7_spread_2 vX7_requireWord kM_X7_208 (wX7_requireWord hX bn  u2) (congrArg zoV o3) 0 (zWs_at (by omega) ((zSt_c 0 rfl (show σ 0 = (σ 0) from rfl))).o) rfl ⟨(Nat.le_of_ble_eq_true rfl), (Nat.le_of_ble_eq_true rfl)⟩ ⟨(Nat.le_of_ble_eq_true rfl), (Nat.le_of_ble_eq_true rfl)⟩ (Nat.le_of_ble_eq_true rfl) (gx_out rfl (Nat.le_of_ble_eq_true rfl) (Nat.le_of_ble_eq_true rfl) ⟨rfl, rfl⟩)
set_option maxHeartbeats 4000000 in
set_option maxRecDepth 100000 in
theorem wX7_take {X : zX} (hX : zOK X) {A : Nat → Nat} {n : Nat} {S : Nat → va_E} {σ : CS} (bn : 91 ≤ n) {a1 : Int} {res : CS × (Int ⊕ String)} (h : fX7_take σ a1 = some res) : Con X yX7_take mX7_take 7 2 12 [.ref (A 0), .int (iI a1)] (zWs A n (zSt X A σ S)) (zRA A (fun k => 1 ≤ k ∧ k < 91) (fun A' => (zWs A' n (zSt X A' res.1 S))) (fun A' => zoI res.2)) := by
  refine con_of (lv := [(0, .ref (A 0)), (1, .int (iI a1))]) (by decide) rfl (fun h => by cases h) rfl (Nat.le_of_ble_eq_true rfl) rfl ?_
  unfold fX7_take at h
  refine g_aload_n (M := mX7_take) dX7_take_0 0 rfl rfl ?_
  refine g_iload_n (M := mX7_take) dX7_take_1 1 rfl rfl ?_
  obtain ⟨t1, u2, h⟩ := zbi h
  rcases o3 : t1 with vt1 | Et1
  · have h := zslo o3 h
    refine g_callVx (M := mX7_take) [.int (iI a1)] hX dX7_take_2 vX7_requireWord kM_X7_208 (wX7_requireWord hX bn  u2) (congrArg zoV o3) 0 (zWs_at (by omega) ((zSt_c 0 rfl (show σ 0 = (σ 0) from rfl))).o) rfl ⟨(Nat.le_of_ble_eq_true rfl), (Nat.le_of_ble_eq_true rfl)⟩ ⟨(Nat.le_of_ble_eq_true rfl), (Nat.le_of_ble_eq_true rfl)⟩ (Nat.le_of_ble_eq_true rfl) ?_
    refine g_aload_n (M := mX7_take) dX7_take_5 0 rfl rfl ?_
    refine k_get (M := mX7_take) (v := .ref (A 12)) dX7_take_6 kF_X7_33.r 0 (by omega) ((zSt_c 0 rfl (show σ 0 = (σ 0) from rfl))).o rfl ?_
    refine g_iload_n (M := mX7_take) dX7_take_9 1 rfl rfl ?_
    obtain ⟨t4, u5, h⟩ := zbi h
    refine g_callVr (M := mX7_take) [.int (iI a1)] hX dX7_take_10 vX0_reasonAgainst kM_X7_302 (wX0_reasonAgainst hX (zSt_c 4 rfl (show σ 4 = (σ 4) from rfl)) (by omega)  u5) 12 (zWs_at (by omega) ((zSt_c 4 rfl (show σ 4 = (σ 4) from rfl))).o) rfl ⟨(Nat.le_of_ble_eq_true rfl), (Nat.le_of_ble_eq_true rfl)⟩ ⟨(Nat.le_of_ble_eq_true rfl), (Nat.le_of_ble_eq_true rfl)⟩ (Nat.le_of_ble_eq_true rfl) ?_
    obtain ⟨g7, h⟩ := zgi h
    refine h_if_eq (M := mX7_take) (tgt := 27) dX7_take_13 (by decide) g7 (fun c6 => ?_) (fun c6 => ?_)
    · have h := zti c6 h
      refine g_aload_n (M := mX7_take) dX7_take_27 0 rfl rfl ?_
      obtain ⟨t8, u9, h⟩ := zbi h
      refine g_callVA (M := mX7_take) [] hX dX7_take_28 vX7_keepPast kM_X7_114 (wX7_keepPast hX bn  u9) (fun _ => rfl) 0 (zWs_at (by omega) ((zSt_c 0 rfl (show σ 0 = (σ 0) from rfl))).o) rfl ⟨(Nat.le_of_ble_eq_true rfl), (Nat.le_of_ble_eq_true rfl)⟩ ⟨(Nat.le_of_ble_eq_true rfl), (Nat.le_of_ble_eq_true rfl)⟩ (Nat.le_of_ble_eq_true rfl) (fun A10 hnA10 => ?_)
      have hAc11 : ∀ k, ¬ (fun k => 1 ≤ k ∧ k < 91) k → A10 k = A k := fun k hk => (hnA10 k (by omega)).trans (rfl)
      refine g_lvc (M := mX7_take) (lv' := [(0, .ref (A10 0)), (1, .int (iI a1))]) (by rw [hnA10 0 (by omega)]) ?_
      refine g_aload_n (M := mX7_take) dX7_take_31 0 rfl rfl ?_
      obtain ⟨t12, u13, h⟩ := zbi h
      refine g_callVA (M := mX7_take) [] hX dX7_take_32 vX7_forgetSearches kM_X7_365 (wX7_forgetSearches hX bn  u13) (fun _ => rfl) 0 (zWs_at (by omega) ((zSt_c 0 rfl (show t8 0 = (t8 0) from rfl))).o) rfl ⟨(Nat.le_of_ble_eq_true rfl), (Nat.le_of_ble_eq_true rfl)⟩ ⟨(Nat.le_of_ble_eq_true rfl), (Nat.le_of_ble_eq_true rfl)⟩ (Nat.le_of_ble_eq_true rfl) (fun A14 hnA14 => ?_)
      have hAc15 : ∀ k, ¬ (fun k => 1 ≤ k ∧ k < 91) k → A14 k = A k := fun k hk => (hnA14 k (by omega)).trans (hAc11 k hk)
      refine g_lvc (M := mX7_take) (lv' := [(0, .ref (A14 0)), (1, .int (iI a1))]) (by rw [hnA14 0 (by omega)]) ?_
      refine g_aload_n (M := mX7_take) dX7_take_35 0 rfl rfl ?_
      refine k_get (M := mX7_take) (v := .ref (A14 12)) dX7_take_36 kF_X7_33.r 0 (by omega) ((zSt_c 0 rfl (show t12 0 = (t12 0) from rfl))).o rfl ?_
      refine g_iload_n (M := mX7_take) dX7_take_39 1 rfl rfl ?_
      obtain ⟨t16, u17, h⟩ := zbi h
      refine g_callVr (M := mX7_take) [.int (iI a1)] hX dX7_take_40 vX0_cover kM_X7_308 (wX0_cover hX (zSt_c 4 rfl (show t12 4 = (t12 4) from rfl)) (by omega)  u17) 12 (zWs_at (by omega) ((zSt_c 4 rfl (show t12 4 = (t12 4) from rfl))).o) rfl ⟨(Nat.le_of_ble_eq_true rfl), (Nat.le_of_ble_eq_true rfl)⟩ ⟨(Nat.le_of_ble_eq_true rfl), (Nat.le_of_ble_eq_true rfl)⟩ (Nat.le_of_ble_eq_true rfl) ?_
      refine g_ws (M := mX7_take) (congrArg (fun z => zWs A14 n (z)) (zSt_p 4 rfl)) ?_
      have e := (Option.some.inj h)
      subst e
      exact g_iret (M := mX7_take) dX7_take_43 rfl (Nat.le_of_ble_eq_true rfl) (Nat.le_of_ble_eq_true rfl) ⟨_, hAc15, rfl, rfl⟩
    · have h := zfi c6 h
      have e := (Option.some.inj h)
      subst e
      exact g_throwW (M := mX7_take) hX rfl rfl tT_X7_79_363_83 dX7_take_16 dX7_take_19 dX7_take_20 dX7_take_23 dX7_take_26 (Nat.le_of_ble_eq_true rfl) (Nat.le_of_ble_eq_true rfl) (Nat.le_of_ble_eq_true rfl) (Nat.le_of_ble_eq_true rfl) ⟨_, (fun _ _ => rfl), rfl, rfl⟩
  · have h := zsro o3 h
    have e := (Option.some.inj h)
    subst e
    exact g_callVe (M := mX7_take) [.int (iI a1)] hX dX7_take_2 vX7_requireWord kM_X7_208 (wX7_requireWord hX bn  u2) (congrArg zoV o3) 0 (zWs_at (by omega) ((zSt_c 0 rfl (show σ 0 = (σ 0) from rfl))).o) rfl ⟨(Nat.le_of_ble_eq_true rfl), (Nat.le_of_ble_eq_true rfl)⟩ ⟨(Nat.le_of_ble_eq_true rfl), (Nat.le_of_ble_eq_true rfl)⟩ (Nat.le_of_ble_eq_true rfl) (gx_out rfl (Nat.le_of_ble_eq_true rfl) (Nat.le_of_ble_eq_true rfl) ⟨_, (fun _ _ => rfl), rfl, rfl⟩)
set_option maxHeartbeats 4000000 in
set_option maxRecDepth 100000 in
theorem wX7_takeBest {X : zX} (hX : zOK X) {A : Nat → Nat} {n : Nat} {S : Nat → va_E} {σ : CS} (bn : 91 ≤ n) {res : CS × (Int ⊕ String)} (h : fX7_takeBest σ = some res) : Con X yX7_takeBest mX7_takeBest 9 (2 + 3 * zNd (σ 7) (σ 4)) (12 + 13652 * zNd (σ 7) (σ 4)) [.ref (A 0)] (zWs A n (zSt X A σ S)) (zRA A (fun k => 1 ≤ k ∧ k < 91) (fun A' => (zWs A' n (zSt X A' res.1 S))) (fun A' => zoI res.2)) := by
  refine con_of (lv := [(0, .ref (A 0))]) (by decide) rfl (fun h => by cases h) rfl (Nat.le_of_ble_eq_true rfl) rfl ?_
  unfold fX7_takeBest at h
  refine g_aload_n (M := mX7_takeBest) dX7_takeBest_0 0 rfl rfl ?_
  obtain ⟨g1, h⟩ := zgi h
  obtain ⟨t2, u3, h⟩ := zbi h
  refine g_callVA (M := mX7_takeBest) [] hX dX7_takeBest_1 vX7_searched kM_X7_267 (wX7_searched hX bn  u3) (fun _ => rfl) 0 (zWs_at (by omega) ((zSt_c 0 rfl (show σ 0 = (σ 0) from rfl))).o) rfl ⟨(Nat.le_of_ble_eq_true rfl), (Nat.le_of_ble_eq_true rfl)⟩ ⟨g1.1, g1.2⟩ (Nat.le_of_ble_eq_true rfl) (fun A4 hnA4 => ?_)
  have hAc5 : ∀ k, ¬ (fun k => 1 ≤ k ∧ k < 91) k → A4 k = A k := fun k hk => (hnA4 k (by omega)).trans (rfl)
  refine g_lvc (M := mX7_takeBest) (lv' := [(0, .ref (A4 0))]) (by rw [hnA4 0 (by omega)]) ?_
  refine k_get (M := mX7_takeBest) (v := .int (iI ((t2 7).1 9))) dX7_takeBest_4 kF_X7_271.r 33 (by omega) ((zSt_c 7 rfl (show t2 7 = (t2 7) from rfl))).o rfl ?_
  refine g_istore_n (M := mX7_takeBest) (lv' := [(0, .ref (A4 0)), (1, .int (iI ((t2 7).1 9)))]) dX7_takeBest_7 rfl (by decide) rfl ?_
  refine g_aload_n (M := mX7_takeBest) dX7_takeBest_8 0 rfl rfl ?_
  refine k_get (M := mX7_takeBest) (v := .ref (A4 12)) dX7_takeBest_9 kF_X7_33.r 0 (by omega) ((zSt_c 0 rfl (show t2 0 = (t2 0) from rfl))).o rfl ?_
  refine g_iload_n (M := mX7_takeBest) dX7_takeBest_12 1 rfl rfl ?_
  obtain ⟨t6, u7, h⟩ := zbi h
  refine g_callVr (M := mX7_takeBest) [.int (iI ((t2 7).1 9))] hX dX7_takeBest_13 vX0_reasonAgainst kM_X7_302 (wX0_reasonAgainst hX (zSt_c 4 rfl (show t2 4 = (t2 4) from rfl)) (by omega)  u7) 12 (zWs_at (by omega) ((zSt_c 4 rfl (show t2 4 = (t2 4) from rfl))).o) rfl ⟨(Nat.le_of_ble_eq_true rfl), (Nat.le_of_ble_eq_true rfl)⟩ ⟨(show 0 + (3 * zNd (σ 7) (σ 4)) + 0 ≤ 2 + 3 * zNd (σ 7) (σ 4) by omega), (show 0 + (13652 * zNd (σ 7) (σ 4)) + 0 ≤ 12 + 13652 * zNd (σ 7) (σ 4) by omega)⟩ (Nat.le_of_ble_eq_true rfl) ?_
  obtain ⟨g9, h⟩ := zgi h
  refine h_if_eq (M := mX7_takeBest) (tgt := 30) dX7_takeBest_16 (by decide) g9 (fun c8 => ?_) (fun c8 => ?_)
  · have h := zti c8 h
    refine g_aload_n (M := mX7_takeBest) dX7_takeBest_30 0 rfl rfl ?_
    obtain ⟨t10, u11, h⟩ := zbi h
    refine g_callVA (M := mX7_takeBest) [] hX dX7_takeBest_31 vX7_keepPast kM_X7_114 (wX7_keepPast hX bn  u11) (fun _ => rfl) 0 (zWs_at (by omega) ((zSt_c 0 rfl (show t2 0 = (t2 0) from rfl))).o) rfl ⟨(Nat.le_of_ble_eq_true rfl), (Nat.le_of_ble_eq_true rfl)⟩ ⟨(show 0 + (3 * zNd (σ 7) (σ 4)) + 0 ≤ 2 + 3 * zNd (σ 7) (σ 4) by omega), (show 0 + (13652 * zNd (σ 7) (σ 4)) + 0 ≤ 12 + 13652 * zNd (σ 7) (σ 4) by omega)⟩ (Nat.le_of_ble_eq_true rfl) (fun A12 hnA12 => ?_)
    have hAc13 : ∀ k, ¬ (fun k => 1 ≤ k ∧ k < 91) k → A12 k = A k := fun k hk => (hnA12 k (by omega)).trans (hAc5 k hk)
    refine g_lvc (M := mX7_takeBest) (lv' := [(0, .ref (A12 0)), (1, .int (iI ((t2 7).1 9)))]) (by rw [hnA12 0 (by omega)]) ?_
    refine g_aload_n (M := mX7_takeBest) dX7_takeBest_34 0 rfl rfl ?_
    obtain ⟨t14, u15, h⟩ := zbi h
    refine g_callVA (M := mX7_takeBest) [] hX dX7_takeBest_35 vX7_forgetSearches kM_X7_365 (wX7_forgetSearches hX bn  u15) (fun _ => rfl) 0 (zWs_at (by omega) ((zSt_c 0 rfl (show t10 0 = (t10 0) from rfl))).o) rfl ⟨(Nat.le_of_ble_eq_true rfl), (Nat.le_of_ble_eq_true rfl)⟩ ⟨(show 0 + (3 * zNd (σ 7) (σ 4)) + 0 ≤ 2 + 3 * zNd (σ 7) (σ 4) by omega), (show 0 + (13652 * zNd (σ 7) (σ 4)) + 0 ≤ 12 + 13652 * zNd (σ 7) (σ 4) by omega)⟩ (Nat.le_of_ble_eq_true rfl) (fun A16 hnA16 => ?_)
    have hAc17 : ∀ k, ¬ (fun k => 1 ≤ k ∧ k < 91) k → A16 k = A k := fun k hk => (hnA16 k (by omega)).trans (hAc13 k hk)
    refine g_lvc (M := mX7_takeBest) (lv' := [(0, .ref (A16 0)), (1, .int (iI ((t2 7).1 9)))]) (by rw [hnA16 0 (by omega)]) ?_
    refine g_aload_n (M := mX7_takeBest) dX7_takeBest_38 0 rfl rfl ?_
    refine k_get (M := mX7_takeBest) (v := .ref (A16 12)) dX7_takeBest_39 kF_X7_33.r 0 (by omega) ((zSt_c 0 rfl (show t14 0 = (t14 0) from rfl))).o rfl ?_
    refine g_iload_n (M := mX7_takeBest) dX7_takeBest_42 1 rfl rfl ?_
    obtain ⟨t18, u19, h⟩ := zbi h
    refine g_callVr (M := mX7_takeBest) [.int (iI ((t2 7).1 9))] hX dX7_takeBest_43 vX0_cover kM_X7_308 (wX0_cover hX (zSt_c 4 rfl (show t14 4 = (t14 4) from rfl)) (by omega)  u19) 12 (zWs_at (by omega) ((zSt_c 4 rfl (show t14 4 = (t14 4) from rfl))).o) rfl ⟨(Nat.le_of_ble_eq_true rfl), (Nat.le_of_ble_eq_true rfl)⟩ ⟨(show 0 + (3 * zNd (σ 7) (σ 4)) + 0 ≤ 2 + 3 * zNd (σ 7) (σ 4) by omega), (show 0 + (13652 * zNd (σ 7) (σ 4)) + 0 ≤ 12 + 13652 * zNd (σ 7) (σ 4) by omega)⟩ (Nat.le_of_ble_eq_true rfl) ?_
    refine g_ws (M := mX7_takeBest) (congrArg (fun z => zWs A16 n (z)) (zSt_p 4 rfl)) ?_
    refine g_pop (M := mX7_takeBest) dX7_takeBest_46 rfl ?_
    refine g_iload_n (M := mX7_takeBest) dX7_takeBest_47 1 rfl rfl ?_
    have e := (Option.some.inj h)
    subst e
    exact g_iret (M := mX7_takeBest) dX7_takeBest_48 rfl (by simpa using g1.1) (by simpa using g1.2) ⟨_, hAc17, rfl, rfl⟩
  · have h := zfi c8 h
    have e := (Option.some.inj h)
    subst e
    exact g_throwW (M := mX7_takeBest) hX rfl rfl tT_X7_79_368_83 dX7_takeBest_19 dX7_takeBest_22 dX7_takeBest_23 dX7_takeBest_26 dX7_takeBest_29 (Nat.le_of_ble_eq_true rfl) (Nat.le_of_ble_eq_true rfl) (show 0 + (3 * zNd (σ 7) (σ 4)) + 1 ≤ 2 + 3 * zNd (σ 7) (σ 4) by omega) (show 0 + (13652 * zNd (σ 7) (σ 4)) + 6 ≤ 12 + 13652 * zNd (σ 7) (σ 4) by omega) ⟨_, hAc5, rfl, rfl⟩
set_option maxHeartbeats 4000000 in
set_option maxRecDepth 100000 in
theorem wX7_taken {X : zX} (hX : zOK X) {A : Nat → Nat} {n : Nat} {S : Nat → va_E} {σ : CS} (bn : 91 ≤ n) {a1 : Int} {res : Int} (h : fX7_taken σ a1 = some res) : Con X yX7_taken mX7_taken 0 0 0 [.ref (A 0), .int (iI a1)] (zWs A n (zSt X A σ S)) (zRet (zWs A n (zSt X A σ S)) (some (.int (iI res)))) := by
  refine con_of (lv := [(0, .ref (A 0)), (1, .int (iI a1))]) (by decide) rfl (fun h => by cases h) rfl (Nat.le_of_ble_eq_true rfl) rfl ?_
  unfold fX7_taken at h
  refine g_iload_n (M := mX7_taken) dX7_taken_0 1 rfl rfl ?_
  obtain ⟨g2, h⟩ := zgi h
  refine h_if_lt (M := mX7_taken) (tgt := 27) dX7_taken_1 (by decide) g2 (fun c1 => ?_) (fun c1 => ?_)
  · have h := zti c1 h
    refine h_iconst (M := mX7_taken) dX7_taken_27 ?_
    have e := (Option.some.inj h)
    subst e
    exact g_iret (M := mX7_taken) dX7_taken_28 rfl (Nat.le_of_ble_eq_true rfl) (Nat.le_of_ble_eq_true rfl) ⟨rfl, rfl⟩
  · have h := zfi (Int.not_lt.mpr c1) h
    refine g_iload_n (M := mX7_taken) dX7_taken_4 1 rfl rfl ?_
    refine g_aload_n (M := mX7_taken) dX7_taken_5 0 rfl rfl ?_
    refine k_get (M := mX7_taken) (v := .ref (A 12)) dX7_taken_6 kF_X7_33.r 0 (by omega) ((zSt_c 0 rfl (show σ 0 = (σ 0) from rfl))).o rfl ?_
    refine k_get (M := mX7_taken) (v := .int (iI ((σ 4).1 5))) dX7_taken_9 kF_X7_159.r 12 (by omega) ((zSt_c 4 rfl (show σ 4 = (σ 4) from rfl))).o rfl ?_
    obtain ⟨g4, h⟩ := zgi h
    refine h_icmp_ge (M := mX7_taken) (tgt := 27) dX7_taken_12 (by decide) g2 g4 (fun c3 => ?_) (fun c3 => ?_)
    · have h := zti c3 h
      refine h_iconst (M := mX7_taken) dX7_taken_27 ?_
      have e := (Option.some.inj h)
      subst e
      exact g_iret (M := mX7_taken) dX7_taken_28 rfl (Nat.le_of_ble_eq_true rfl) (Nat.le_of_ble_eq_true rfl) ⟨rfl, rfl⟩
    · have h := zfi (Int.not_le.mpr c3) h
      refine g_aload_n (M := mX7_taken) dX7_taken_15 0 rfl rfl ?_
      refine k_get (M := mX7_taken) (v := .ref (A 12)) dX7_taken_16 kF_X7_33.r 0 (by omega) ((zSt_c 0 rfl (show σ 0 = (σ 0) from rfl))).o rfl ?_
      refine k_get (M := mX7_taken) (v := .ref (A (12 + 6))) dX7_taken_19 kF_X7_370 12 (by omega) ((zSt_c 4 rfl (show σ 4 = (σ 4) from rfl))).o rfl ?_
      refine g_iload_n (M := mX7_taken) dX7_taken_22 1 rfl rfl ?_
      obtain ⟨g5, h⟩ := zgi h
      refine k_iald (M := mX7_taken) (len := 6) (f := (σ 4).2 6) dX7_taken_23 (12 + 6) (by omega) (((zSt_c 4 rfl (show σ 4 = (σ 4) from rfl))).a (d := (0, 6)) 5 rfl) (Nat.le_of_ble_eq_true rfl) g5.1 g5.2 ?_
      refine g_goto (M := mX7_taken) (tgt := 28) dX7_taken_24 (by decide) ?_
      have e := (Option.some.inj h)
      subst e
      exact g_iret (M := mX7_taken) dX7_taken_28 rfl (Nat.le_of_ble_eq_true rfl) (Nat.le_of_ble_eq_true rfl) ⟨rfl, rfl⟩
set_option maxHeartbeats 4000000 in
set_option maxRecDepth 100000 in
theorem wX7_timesOf {X : zX} (hX : zOK X) {A : Nat → Nat} {n : Nat} {S : Nat → va_E} {σ : CS} (bn : 91 ≤ n) {a1 : Int} {res : CS × (Int ⊕ String)} (h : fX7_timesOf σ a1 = some res) : Con X yX7_timesOf mX7_timesOf 7 (3 + zNt (σ 10) (σ 4)) (18 + 4096 * zNt (σ 10) (σ 4)) [.ref (A 0), .int (iI a1)] (zWs A n (zSt X A σ S)) (zRA A (fun k => 1 ≤ k ∧ k < 91) (fun A' => (zWs A' n (zSt X A' res.1 S))) (fun A' => zoI res.2)) := by
  refine con_of (lv := [(0, .ref (A 0)), (1, .int (iI a1))]) (by decide) rfl (fun h => by cases h) rfl (Nat.le_of_ble_eq_true rfl) rfl ?_
  unfold fX7_timesOf at h
  refine g_aload_n (M := mX7_timesOf) dX7_timesOf_0 0 rfl rfl ?_
  refine g_iload_n (M := mX7_timesOf) dX7_timesOf_1 1 rfl rfl ?_
  obtain ⟨t1, u2, h⟩ := zbi h
  rcases o3 : t1 with vt1 | Et1
  · have h := zslo o3 h
    refine g_callVx (M := mX7_timesOf) [.int (iI a1)] hX dX7_timesOf_2 vX7_requireWord kM_X7_208 (wX7_requireWord hX bn  u2) (congrArg zoV o3) 0 (zWs_at (by omega) ((zSt_c 0 rfl (show σ 0 = (σ 0) from rfl))).o) rfl ⟨(Nat.le_of_ble_eq_true rfl), (Nat.le_of_ble_eq_true rfl)⟩ ⟨(show 0 + 1 ≤ 3 + zNt (σ 10) (σ 4) by omega), (show 0 + 6 ≤ 18 + 4096 * zNt (σ 10) (σ 4) by omega)⟩ (Nat.le_of_ble_eq_true rfl) ?_
    refine g_aload_n (M := mX7_timesOf) dX7_timesOf_5 0 rfl rfl ?_
    refine k_get (M := mX7_timesOf) (v := .ref (A 47)) dX7_timesOf_6 kF_X7_67.r 0 (by omega) ((zSt_c 0 rfl (show σ 0 = (σ 0) from rfl))).o rfl ?_
    refine g_aload_n (M := mX7_timesOf) dX7_timesOf_9 0 rfl rfl ?_
    refine k_get (M := mX7_timesOf) (v := .ref (A 12)) dX7_timesOf_10 kF_X7_33.r 0 (by omega) ((zSt_c 0 rfl (show σ 0 = (σ 0) from rfl))).o rfl ?_
    obtain ⟨g4, h⟩ := zgi h
    obtain ⟨t5, u6, h⟩ := zbi h
    refine g_callVA (M := mX7_timesOf) [.ref (A 12)] hX dX7_timesOf_13 vX4_addAllPlaces kM_X7_258 (wX4_addAllPlaces hX (zSt_c 10 rfl (show σ 10 = (σ 10) from rfl)) (by omega) (zSt_c 4 rfl (show σ 4 = (σ 4) from rfl)) (by omega) (by omega) u6) (fun _ => rfl) 47 (zWs_at (by omega) ((zSt_c 10 rfl (show σ 10 = (σ 10) from rfl))).o) rfl ⟨(Nat.le_of_ble_eq_true rfl), (Nat.le_of_ble_eq_true rfl)⟩ ⟨g4.1, g4.2⟩ (Nat.le_of_ble_eq_true rfl) (fun A7 hnA7 => ?_)
    refine g_ws (M := mX7_timesOf) (congrArg (zWs A7 n) (zSt_pa (A := A) 10 rfl (by decide) (by decide) (fun k hk => hnA7 k hk))) ?_
    have hAc8 : ∀ k, ¬ (fun k => 1 ≤ k ∧ k < 91) k → A7 k = A k := fun k hk => (hnA7 k (by omega)).trans (rfl)
    refine g_lvc (M := mX7_timesOf) (lv' := [(0, .ref (A7 0)), (1, .int (iI a1))]) (by rw [hnA7 0 (by omega)]) ?_
    refine g_aload_n (M := mX7_timesOf) dX7_timesOf_16 0 rfl rfl ?_
    refine k_get (M := mX7_timesOf) (v := .ref (A7 47)) dX7_timesOf_17 kF_X7_67.r 0 (by omega) ((zSt_c 0 rfl (show (zSu σ 10 t5) 0 = (σ 0) from rfl))).o rfl ?_
    refine g_iload_n (M := mX7_timesOf) dX7_timesOf_20 1 rfl rfl ?_
    obtain ⟨t9, u10, h⟩ := zbi h
    refine g_callVr (M := mX7_timesOf) [.int (iI a1)] hX dX7_timesOf_21 vX4_times kM_X7_261 (wX4_times hX (zSt_c 10 rfl (show (zSu σ 10 t5) 10 = t5 from rfl)) (by omega)  u10) 47 (zWs_at (by omega) ((zSt_c 10 rfl (show (zSu σ 10 t5) 10 = t5 from rfl))).o) rfl ⟨(Nat.le_of_ble_eq_true rfl), (Nat.le_of_ble_eq_true rfl)⟩ ⟨(show 1 + (1 * zNt (σ 10) (σ 4)) + 0 ≤ 3 + zNt (σ 10) (σ 4) by omega), (show 6 + (4096 * zNt (σ 10) (σ 4)) + 0 ≤ 18 + 4096 * zNt (σ 10) (σ 4) by omega)⟩ (Nat.le_of_ble_eq_true rfl) ?_
    have e := (Option.some.inj h)
    subst e
    exact g_iret (M := mX7_timesOf) dX7_timesOf_24 rfl (by simpa using g4.1) (by simpa using g4.2) ⟨_, hAc8, rfl, rfl⟩
  · have h := zsro o3 h
    obtain ⟨g11, h⟩ := zgi h
    have e := (Option.some.inj h)
    subst e
    exact g_callVe (M := mX7_timesOf) [.int (iI a1)] hX dX7_timesOf_2 vX7_requireWord kM_X7_208 (wX7_requireWord hX bn  u2) (congrArg zoV o3) 0 (zWs_at (by omega) ((zSt_c 0 rfl (show σ 0 = (σ 0) from rfl))).o) rfl ⟨(Nat.le_of_ble_eq_true rfl), (Nat.le_of_ble_eq_true rfl)⟩ ⟨(show 0 + 1 ≤ 3 + zNt (σ 10) (σ 4) by omega), (show 0 + 6 ≤ 18 + 4096 * zNt (σ 10) (σ 4) by omega)⟩ (Nat.le_of_ble_eq_true rfl) (gx_out rfl (by simpa using g11.1) (by simpa using g11.2) ⟨_, (fun _ _ => rfl), rfl, rfl⟩)
set_option maxHeartbeats 4000000 in
set_option maxRecDepth 100000 in
theorem wX7_truncate {X : zX} (hX : zOK X) {A : Nat → Nat} {n : Nat} {S : Nat → va_E} {σ : CS} (bn : 91 ≤ n) {a1 : Int} {res : CS × (Int ⊕ String)} (h : fX7_truncate σ a1 = some res) : Con X yX7_truncate mX7_truncate 6 1 6 [.ref (A 0), .int (iI a1)] (zWs A n (zSt X A σ S)) (zRA A (fun k => 1 ≤ k ∧ k < 91) (fun A' => (zWs A' n (zSt X A' res.1 S))) (fun A' => zoI res.2)) := by
  refine con_of (lv := [(0, .ref (A 0)), (1, .int (iI a1))]) (by decide) rfl (fun h => by cases h) rfl (Nat.le_of_ble_eq_true rfl) rfl ?_
  unfold fX7_truncate at h
  refine g_iload_n (M := mX7_truncate) dX7_truncate_0 1 rfl rfl ?_
  refine zJn_J (J := fun x5 => ∀ (Aj5 : Nat → Nat), (∀ k, ¬ (fun k => 1 ≤ k ∧ k < 91) k → Aj5 k = A k) → G X mX7_truncate (zPm X 6 1 6 (zRA A (fun k => 1 ≤ k ∧ k < 91) (fun A' => (zWs A' n (zSt X A' res.1 S))) (fun A' => zoI res.2))) 0 0 15 [] [] (zWs Aj5 n (zSt X Aj5 σ S))) h (fun x5 h => ?_) (fun j5 h => ?_)
  · intro Aj5 hAj5
    have e := (Option.some.inj h)
    subst e
    exact g_throw (M := mX7_truncate) hX rfl rfl tT_X7_90_92_94 dX7_truncate_15 dX7_truncate_18 dX7_truncate_19 dX7_truncate_21 dX7_truncate_24 (Nat.le_of_ble_eq_true rfl) (Nat.le_of_ble_eq_true rfl) (Nat.le_of_ble_eq_true rfl) (Nat.le_of_ble_eq_true rfl) ⟨_, hAj5, rfl, rfl⟩
  · obtain ⟨g7, h⟩ := zgi h
    refine h_if_lt (M := mX7_truncate) (tgt := 15) dX7_truncate_1 (by decide) g7 (fun c6 => ?_) (fun c6 => ?_)
    · have h := zti c6 h
      refine g_lv (M := mX7_truncate) [] rfl ?_
      exact j5 () h A (fun _ _ => rfl)
    · have h := zfi (Int.not_lt.mpr c6) h
      refine g_iload_n (M := mX7_truncate) dX7_truncate_4 1 rfl rfl ?_
      refine g_aload_n (M := mX7_truncate) dX7_truncate_5 0 rfl rfl ?_
      refine k_get (M := mX7_truncate) (v := .ref (A 3)) dX7_truncate_6 kF_X7_12.r 0 (by omega) ((zSt_c 0 rfl (show σ 0 = (σ 0) from rfl))).o rfl ?_
      refine k_get (M := mX7_truncate) (v := .int (iI ((σ 1).1 1))) dX7_truncate_9 kF_X7_75.r 3 (by omega) ((zSt_c 1 rfl (show σ 1 = (σ 1) from rfl))).o rfl ?_
      obtain ⟨g9, h⟩ := zgi h
      refine h_icmp_le (M := mX7_truncate) (tgt := 25) dX7_truncate_12 (by decide) g7 g9 (fun c8 => ?_) (fun c8 => ?_)
      · have h := zti c8 h
        refine g_aload_n (M := mX7_truncate) dX7_truncate_25 0 rfl rfl ?_
        refine k_get (M := mX7_truncate) (v := .ref (A 3)) dX7_truncate_26 kF_X7_12.r 0 (by omega) ((zSt_c 0 rfl (show σ 0 = (σ 0) from rfl))).o rfl ?_
        refine g_iload_n (M := mX7_truncate) dX7_truncate_29 1 rfl rfl ?_
        refine g_ws (M := mX7_truncate) (congrArg (zWs A n) (zSt_c 1 rfl (show σ 1 = (σ 1) from rfl)).symm) ?_
        refine c_put (M := mX7_truncate) (k := 1) dX7_truncate_30 kF_X7_75 (by omega) rfl rfl (by decide) rfl rfl ?_
        refine g_ws (M := mX7_truncate) (congrArg (zWs A n) (zSt_p 1 rfl)) ?_
        refine g_iload_n (M := mX7_truncate) dX7_truncate_33 1 rfl rfl ?_
        have e := (Option.some.inj h)
        subst e
        exact g_iret (M := mX7_truncate) dX7_truncate_34 rfl (Nat.le_of_ble_eq_true rfl) (Nat.le_of_ble_eq_true rfl) ⟨_, (fun _ _ => rfl), rfl, rfl⟩
      · have h := zfi (Int.not_le.mpr c8) h
        refine g_lv (M := mX7_truncate) [] rfl ?_
        exact j5 () h A (fun _ _ => rfl)
set_option maxHeartbeats 4000000 in
set_option maxRecDepth 100000 in
theorem wX7_tryFrom {X : zX} (hX : zOK X) {A : Nat → Nat} {n : Nat} {S : Nat → va_E} {σ : CS} (bn : 91 ≤ n) {a1 : Int} {a2 : Int} {res : CS × (Int ⊕ String)} (h : fX7_tryFrom σ a1 a2 = some res) : Con X yX7_tryFrom mX7_tryFrom 7 1 6 [.ref (A 0), .int (iI a1), .int (iI a2)] (zWs A n (zSt X A σ S)) (zRA A (fun k => 1 ≤ k ∧ k < 91) (fun A' => (zWs A' n (zSt X A' res.1 S))) (fun A' => zoI res.2)) := by
  refine con_of (lv := [(0, .ref (A 0)), (1, .int (iI a1)), (2, .int (iI a2))]) (by decide) rfl (fun h => by cases h) rfl (Nat.le_of_ble_eq_true rfl) rfl ?_
  unfold fX7_tryFrom at h
  refine g_aload_n (M := mX7_tryFrom) dX7_tryFrom_0 0 rfl rfl ?_
  refine g_iload_n (M := mX7_tryFrom) dX7_tryFrom_1 1 rfl rfl ?_
  obtain ⟨t1, u2, h⟩ := zbi h
  rcases o3 : t1 with vt1 | Et1
  · have h := zslo o3 h
    refine g_callVx (M := mX7_tryFrom) [.int (iI a1)] hX dX7_tryFrom_2 vX7_requireRow kM_X7_167 (wX7_requireRow hX bn  u2) (congrArg zoV o3) 0 (zWs_at (by omega) ((zSt_c 0 rfl (show σ 0 = (σ 0) from rfl))).o) rfl ⟨(Nat.le_of_ble_eq_true rfl), (Nat.le_of_ble_eq_true rfl)⟩ ⟨(Nat.le_of_ble_eq_true rfl), (Nat.le_of_ble_eq_true rfl)⟩ (Nat.le_of_ble_eq_true rfl) ?_
    refine g_aload_n (M := mX7_tryFrom) dX7_tryFrom_5 0 rfl rfl ?_
    refine k_get (M := mX7_tryFrom) (v := .ref (A 12)) dX7_tryFrom_6 kF_X7_33.r 0 (by omega) ((zSt_c 0 rfl (show σ 0 = (σ 0) from rfl))).o rfl ?_
    refine g_iload_n (M := mX7_tryFrom) dX7_tryFrom_9 1 rfl rfl ?_
    refine g_iload_n (M := mX7_tryFrom) dX7_tryFrom_10 2 rfl rfl ?_
    obtain ⟨t4, u5, h⟩ := zbi h
    refine g_callVr (M := mX7_tryFrom) [.int (iI a1), .int (iI a2)] hX dX7_tryFrom_11 vX0_isPlace kM_X7_198 (wX0_isPlace hX (zSt_c 4 rfl (show σ 4 = (σ 4) from rfl)) (by omega)  u5) 12 (zWs_at (by omega) ((zSt_c 4 rfl (show σ 4 = (σ 4) from rfl))).o) rfl ⟨(Nat.le_of_ble_eq_true rfl), (Nat.le_of_ble_eq_true rfl)⟩ ⟨(Nat.le_of_ble_eq_true rfl), (Nat.le_of_ble_eq_true rfl)⟩ (Nat.le_of_ble_eq_true rfl) ?_
    refine h_beq (M := mX7_tryFrom) (tgt := 26) dX7_tryFrom_14 (by decide) (fun c6 => ?_) (fun c6 => ?_)
    · have h := zfi (zbf c6) h
      refine h_iconst (M := mX7_tryFrom) dX7_tryFrom_26 ?_
      have e := (Option.some.inj h)
      subst e
      exact g_iret (M := mX7_tryFrom) dX7_tryFrom_27 rfl (Nat.le_of_ble_eq_true rfl) (Nat.le_of_ble_eq_true rfl) ⟨_, (fun _ _ => rfl), rfl, rfl⟩
    · have h := zti c6 h
      refine g_aload_n (M := mX7_tryFrom) dX7_tryFrom_17 0 rfl rfl ?_
      refine g_iload_n (M := mX7_tryFrom) dX7_tryFrom_18 1 rfl rfl ?_
      refine g_iload_n (M := mX7_tryFrom) dX7_tryFrom_19 2 rfl rfl ?_
      obtain ⟨t7, u8, h⟩ := zbi h
      refine g_callVA (M := mX7_tryFrom) [.int (iI a1), .int (iI a2)] hX dX7_tryFrom_20 vX7_agreementFrom kM_X7_333 (wX7_agreementFrom hX bn  u8) (fun _ => rfl) 0 (zWs_at (by omega) ((zSt_c 0 rfl (show σ 0 = (σ 0) from rfl))).o) rfl ⟨(Nat.le_of_ble_eq_true rfl), (Nat.le_of_ble_eq_true rfl)⟩ ⟨(Nat.le_of_ble_eq_true rfl), (Nat.le_of_ble_eq_true rfl)⟩ (Nat.le_of_ble_eq_true rfl) (fun A9 hnA9 => ?_)
      have hAc10 : ∀ k, ¬ (fun k => 1 ≤ k ∧ k < 91) k → A9 k = A k := fun k hk => (hnA9 k (by omega)).trans (rfl)
      refine g_lvc (M := mX7_tryFrom) (lv' := [(0, .ref (A9 0)), (1, .int (iI a1)), (2, .int (iI a2))]) (by rw [hnA9 0 (by omega)]) ?_
      refine g_goto (M := mX7_tryFrom) (tgt := 27) dX7_tryFrom_23 (by decide) ?_
      have e := (Option.some.inj h)
      subst e
      exact g_iret (M := mX7_tryFrom) dX7_tryFrom_27 rfl (Nat.le_of_ble_eq_true rfl) (Nat.le_of_ble_eq_true rfl) ⟨_, hAc10, rfl, rfl⟩
  · have h := zsro o3 h
    have e := (Option.some.inj h)
    subst e
    exact g_callVe (M := mX7_tryFrom) [.int (iI a1)] hX dX7_tryFrom_2 vX7_requireRow kM_X7_167 (wX7_requireRow hX bn  u2) (congrArg zoV o3) 0 (zWs_at (by omega) ((zSt_c 0 rfl (show σ 0 = (σ 0) from rfl))).o) rfl ⟨(Nat.le_of_ble_eq_true rfl), (Nat.le_of_ble_eq_true rfl)⟩ ⟨(Nat.le_of_ble_eq_true rfl), (Nat.le_of_ble_eq_true rfl)⟩ (Nat.le_of_ble_eq_true rfl) (gx_out rfl (Nat.le_of_ble_eq_true rfl) (Nat.le_of_ble_eq_true rfl) ⟨_, (fun _ _ => rfl), rfl, rfl⟩)
set_option maxHeartbeats 4000000 in
set_option maxRecDepth 100000 in
theorem wX7_undo {X : zX} (hX : zOK X) {A : Nat → Nat} {n : Nat} {S : Nat → va_E} {σ : CS} (bn : 91 ≤ n) {res : CS × Int} (h : fX7_undo σ = some res) : Con X yX7_undo mX7_undo 3 0 0 [.ref (A 0)] (zWs A n (zSt X A σ S)) (zRA A (fun k => 1 ≤ k ∧ k < 91) (fun A' => (zWs A' n (zSt X A' res.1 S))) (fun A' => .inl (some (.int (iI res.2))))) := by
  refine con_of (lv := [(0, .ref (A 0))]) (by decide) rfl (fun h => by cases h) rfl (Nat.le_of_ble_eq_true rfl) rfl ?_
  unfold fX7_undo at h
  refine g_aload_n (M := mX7_undo) dX7_undo_0 0 rfl rfl ?_
  refine k_get (M := mX7_undo) (v := .int (iI ((σ 0).1 13))) dX7_undo_1 kF_X7_105.r 0 (by omega) ((zSt_c 0 rfl (show σ 0 = (σ 0) from rfl))).o rfl ?_
  obtain ⟨g2, h⟩ := zgi h
  refine h_if_ne (M := mX7_undo) (tgt := 9) dX7_undo_4 (by decide) g2 (fun c1 => ?_) (fun c1 => ?_)
  · have h := zfi c1 h
    refine g_aload_n (M := mX7_undo) dX7_undo_9 0 rfl rfl ?_
    refine g_dup (M := mX7_undo) dX7_undo_10 rfl ?_
    refine k_get (M := mX7_undo) (v := .int (iI ((σ 0).1 13))) dX7_undo_11 kF_X7_105.r 0 (by omega) ((zSt_c 0 rfl (show σ 0 = (σ 0) from rfl))).o rfl ?_
    refine h_iconst (M := mX7_undo) dX7_undo_14 ?_
    refine h_isub (M := mX7_undo) dX7_undo_15 ?_
    refine g_ws (M := mX7_undo) (congrArg (zWs A n) (zSt_c 0 rfl (show σ 0 = (σ 0) from rfl)).symm) ?_
    refine c_put (M := mX7_undo) (k := 13) dX7_undo_16 kF_X7_105 (by omega) rfl rfl (by decide) rfl rfl ?_
    refine g_ws (M := mX7_undo) (congrArg (zWs A n) (zSt_p 0 rfl)) ?_
    refine g_aload_n (M := mX7_undo) dX7_undo_19 0 rfl rfl ?_
    refine g_aload_n (M := mX7_undo) dX7_undo_20 0 rfl rfl ?_
    refine k_get (M := mX7_undo) (v := .ref (A 2)) dX7_undo_21 kF_X7_43.r 0 (by omega) ((zSt_c 0 rfl (show (zSu σ 0 (zPu (σ 0) 13 (((σ 0).1 13) - 1))) 0 = (zPu (σ 0) 13 (((σ 0).1 13) - 1)) from rfl))).o rfl ?_
    refine g_aload_n (M := mX7_undo) dX7_undo_24 0 rfl rfl ?_
    refine k_get (M := mX7_undo) (v := .int (iI (((σ 0).1 13) - 1))) dX7_undo_25 kF_X7_105.r 0 (by omega) ((zSt_c 0 rfl (show (zSu σ 0 (zPu (σ 0) 13 (((σ 0).1 13) - 1))) 0 = (zPu (σ 0) 13 (((σ 0).1 13) - 1)) from rfl))).o rfl ?_
    obtain ⟨g3, h⟩ := zgi h
    refine k_past (M := mX7_undo) dX7_undo_28 (by omega) g3.1 g3.2 ?_
    obtain ⟨t5, u6, h⟩ := zbi h
    refine g_callVA (M := mX7_undo) [.ref (A (49 + 7 * (((σ 0).1 13) - 1).toNat))] hX dX7_undo_29 vX7_replaceBoard kM_X7_101 (wX7_replaceBoard hX bn (zSt_past g3.1 g3.2) (by omega) (by omega) u6) (fun _ => rfl) 0 (zWs_at (by omega) ((zSt_c 0 rfl (show (zSu σ 0 (zPu (σ 0) 13 (((σ 0).1 13) - 1))) 0 = (zPu (σ 0) 13 (((σ 0).1 13) - 1)) from rfl))).o) rfl ⟨(Nat.le_of_ble_eq_true rfl), (Nat.le_of_ble_eq_true rfl)⟩ ⟨(Nat.le_of_ble_eq_true rfl), (Nat.le_of_ble_eq_true rfl)⟩ (Nat.le_of_ble_eq_true rfl) (fun A7 hnA7 => ?_)
    have hAc8 : ∀ k, ¬ (fun k => 1 ≤ k ∧ k < 91) k → A7 k = A k := fun k hk => (hnA7 k (by omega)).trans (rfl)
    refine g_lvc (M := mX7_undo) (lv' := [(0, .ref (A7 0))]) (by rw [hnA7 0 (by omega)]) ?_
    refine g_aload_n (M := mX7_undo) dX7_undo_32 0 rfl rfl ?_
    refine k_get (M := mX7_undo) (v := .int (iI ((t5 0).1 13))) dX7_undo_33 kF_X7_105.r 0 (by omega) ((zSt_c 0 rfl (show t5 0 = (t5 0) from rfl))).o rfl ?_
    have e := (Option.some.inj h)
    subst e
    exact g_iret (M := mX7_undo) dX7_undo_36 rfl (Nat.le_of_ble_eq_true rfl) (Nat.le_of_ble_eq_true rfl) ⟨_, hAc8, rfl, rfl⟩
  · have h := zti c1 h
    refine h_iconst (M := mX7_undo) dX7_undo_7 ?_
    have e := (Option.some.inj h)
    subst e
    exact g_iret (M := mX7_undo) dX7_undo_8 rfl (Nat.le_of_ble_eq_true rfl) (Nat.le_of_ble_eq_true rfl) ⟨_, (fun _ _ => rfl), rfl, rfl⟩
set_option maxHeartbeats 4000000 in
set_option maxRecDepth 100000 in
theorem wX7_weight {X : zX} (hX : zOK X) {A : Nat → Nat} {n : Nat} {S : Nat → va_E} {σ : CS} (bn : 91 ≤ n) {a1 : Int} {a2 : Int} {res : CS × (Int ⊕ String)} (h : fX7_weight σ a1 a2 = some res) : Con X yX7_weight mX7_weight 7 1 6 [.ref (A 0), .int (iI a1), .int (iI a2)] (zWs A n (zSt X A σ S)) (zRA A (fun k => 1 ≤ k ∧ k < 91) (fun A' => (zWs A' n (zSt X A' res.1 S))) (fun A' => zoI res.2)) := by
  refine con_of (lv := [(0, .ref (A 0)), (1, .int (iI a1)), (2, .int (iI a2))]) (by decide) rfl (fun h => by cases h) rfl (Nat.le_of_ble_eq_true rfl) rfl ?_
  unfold fX7_weight at h
  refine g_aload_n (M := mX7_weight) dX7_weight_0 0 rfl rfl ?_
  refine g_iload_n (M := mX7_weight) dX7_weight_1 1 rfl rfl ?_
  obtain ⟨t1, u2, h⟩ := zbi h
  rcases o3 : t1 with vt1 | Et1
  · have h := zslo o3 h
    refine g_callVx (M := mX7_weight) [.int (iI a1)] hX dX7_weight_2 vX7_requireRow kM_X7_167 (wX7_requireRow hX bn  u2) (congrArg zoV o3) 0 (zWs_at (by omega) ((zSt_c 0 rfl (show σ 0 = (σ 0) from rfl))).o) rfl ⟨(Nat.le_of_ble_eq_true rfl), (Nat.le_of_ble_eq_true rfl)⟩ ⟨(Nat.le_of_ble_eq_true rfl), (Nat.le_of_ble_eq_true rfl)⟩ (Nat.le_of_ble_eq_true rfl) ?_
    refine g_aload_n (M := mX7_weight) dX7_weight_5 0 rfl rfl ?_
    refine k_get (M := mX7_weight) (v := .ref (A 12)) dX7_weight_6 kF_X7_33.r 0 (by omega) ((zSt_c 0 rfl (show σ 0 = (σ 0) from rfl))).o rfl ?_
    refine g_iload_n (M := mX7_weight) dX7_weight_9 1 rfl rfl ?_
    refine g_iload_n (M := mX7_weight) dX7_weight_10 2 rfl rfl ?_
    obtain ⟨t4, u5, h⟩ := zbi h
    refine g_callVr (M := mX7_weight) [.int (iI a1), .int (iI a2)] hX dX7_weight_11 vX0_isPlace kM_X7_198 (wX0_isPlace hX (zSt_c 4 rfl (show σ 4 = (σ 4) from rfl)) (by omega)  u5) 12 (zWs_at (by omega) ((zSt_c 4 rfl (show σ 4 = (σ 4) from rfl))).o) rfl ⟨(Nat.le_of_ble_eq_true rfl), (Nat.le_of_ble_eq_true rfl)⟩ ⟨(Nat.le_of_ble_eq_true rfl), (Nat.le_of_ble_eq_true rfl)⟩ (Nat.le_of_ble_eq_true rfl) ?_
    refine h_bne (M := mX7_weight) (tgt := 19) dX7_weight_14 (by decide) (fun c6 => ?_) (fun c6 => ?_)
    · have h := zti c6 h
      refine g_aload_n (M := mX7_weight) dX7_weight_19 0 rfl rfl ?_
      refine k_get (M := mX7_weight) (v := .ref (A 45)) dX7_weight_20 kF_X7_60.r 0 (by omega) ((zSt_c 0 rfl (show σ 0 = (σ 0) from rfl))).o rfl ?_
      refine g_aload_n (M := mX7_weight) dX7_weight_23 0 rfl rfl ?_
      refine k_get (M := mX7_weight) (v := .ref (A 12)) dX7_weight_24 kF_X7_33.r 0 (by omega) ((zSt_c 0 rfl (show σ 0 = (σ 0) from rfl))).o rfl ?_
      refine g_iload_n (M := mX7_weight) dX7_weight_27 1 rfl rfl ?_
      obtain ⟨t7, u8, h⟩ := zbi h
      refine g_callVr (M := mX7_weight) [.ref (A 12), .int (iI a1)] hX dX7_weight_28 vX1_fill kM_X7_316 (wX1_fill hX (zSt_c 9 rfl (show σ 9 = (σ 9) from rfl)) (by omega) (zSt_c 4 rfl (show σ 4 = (σ 4) from rfl)) (by omega) (by omega) u8) 45 (zWs_at (by omega) ((zSt_c 9 rfl (show σ 9 = (σ 9) from rfl))).o) rfl ⟨(Nat.le_of_ble_eq_true rfl), (Nat.le_of_ble_eq_true rfl)⟩ ⟨(Nat.le_of_ble_eq_true rfl), (Nat.le_of_ble_eq_true rfl)⟩ (Nat.le_of_ble_eq_true rfl) ?_
      refine g_ws (M := mX7_weight) (congrArg (fun z => zWs A n (z)) (zSt_p 9 rfl)) ?_
      refine g_aload_n (M := mX7_weight) dX7_weight_31 0 rfl rfl ?_
      refine k_get (M := mX7_weight) (v := .ref (A 45)) dX7_weight_32 kF_X7_60.r 0 (by omega) ((zSt_c 0 rfl (show (zSu σ 9 t7) 0 = (σ 0) from rfl))).o rfl ?_
      refine g_aload_n (M := mX7_weight) dX7_weight_35 0 rfl rfl ?_
      refine k_get (M := mX7_weight) (v := .ref (A 12)) dX7_weight_36 kF_X7_33.r 0 (by omega) ((zSt_c 0 rfl (show (zSu σ 9 t7) 0 = (σ 0) from rfl))).o rfl ?_
      refine g_iload_n (M := mX7_weight) dX7_weight_39 1 rfl rfl ?_
      refine g_iload_n (M := mX7_weight) dX7_weight_40 2 rfl rfl ?_
      obtain ⟨t9, u10, h⟩ := zbi h
      refine g_callVr (M := mX7_weight) [.int (iI a1), .int (iI a2)] hX dX7_weight_41 vX0_codeAt kM_X7_202 (wX0_codeAt hX (zSt_c 4 rfl (show (zSu σ 9 t7) 4 = (σ 4) from rfl)) (by omega)  u10) 12 (zWs_at (by omega) ((zSt_c 4 rfl (show (zSu σ 9 t7) 4 = (σ 4) from rfl))).o) rfl ⟨(Nat.le_of_ble_eq_true rfl), (Nat.le_of_ble_eq_true rfl)⟩ ⟨(Nat.le_of_ble_eq_true rfl), (Nat.le_of_ble_eq_true rfl)⟩ (Nat.le_of_ble_eq_true rfl) ?_
      obtain ⟨t11, u12, h⟩ := zbi h
      refine g_callVr (M := mX7_weight) [.int (iI t9)] hX dX7_weight_44 vX1_weightOf kM_X7_330 (wX1_weightOf hX (zSt_c 9 rfl (show (zSu σ 9 t7) 9 = t7 from rfl)) (by omega)  u12) 45 (zWs_at (by omega) ((zSt_c 9 rfl (show (zSu σ 9 t7) 9 = t7 from rfl))).o) rfl ⟨(Nat.le_of_ble_eq_true rfl), (Nat.le_of_ble_eq_true rfl)⟩ ⟨(Nat.le_of_ble_eq_true rfl), (Nat.le_of_ble_eq_true rfl)⟩ (Nat.le_of_ble_eq_true rfl) ?_
      have e := (Option.some.inj h)
      subst e
      exact g_iret (M := mX7_weight) dX7_weight_47 rfl (Nat.le_of_ble_eq_true rfl) (Nat.le_of_ble_eq_true rfl) ⟨_, (fun _ _ => rfl), rfl, rfl⟩
    · have h := zfi (zbf c6) h
      refine h_iconst (M := mX7_weight) dX7_weight_17 ?_
      have e := (Option.some.inj h)
      subst e
      exact g_iret (M := mX7_weight) dX7_weight_18 rfl (Nat.le_of_ble_eq_true rfl) (Nat.le_of_ble_eq_true rfl) ⟨_, (fun _ _ => rfl), rfl, rfl⟩
  · have h := zsro o3 h
    have e := (Option.some.inj h)
    subst e
    exact g_callVe (M := mX7_weight) [.int (iI a1)] hX dX7_weight_2 vX7_requireRow kM_X7_167 (wX7_requireRow hX bn  u2) (congrArg zoV o3) 0 (zWs_at (by omega) ((zSt_c 0 rfl (show σ 0 = (σ 0) from rfl))).o) rfl ⟨(Nat.le_of_ble_eq_true rfl), (Nat.le_of_ble_eq_true rfl)⟩ ⟨(Nat.le_of_ble_eq_true rfl), (Nat.le_of_ble_eq_true rfl)⟩ (Nat.le_of_ble_eq_true rfl) (gx_out rfl (Nat.le_of_ble_eq_true rfl) (Nat.le_of_ble_eq_true rfl) ⟨_, (fun _ _ => rfl), rfl, rfl⟩)
set_option maxHeartbeats 4000000 in
set_option maxRecDepth 100000 in
theorem wX7_whyNotTake {X : zX} (hX : zOK X) {A : Nat → Nat} {n : Nat} {S : Nat → va_E} {σ : CS} (bn : 91 ≤ n) {a1 : Int} {res : (Int ⊕ String)} (h : fX7_whyNotTake σ a1 = some res) : Con X yX7_whyNotTake mX7_whyNotTake 7 1 6 [.ref (A 0), .int (iI a1)] (zWs A n (zSt X A σ S)) (zRx (zWs A n (zSt X A σ S)) (zoI res)) := by
  refine con_of (lv := [(0, .ref (A 0)), (1, .int (iI a1))]) (by decide) rfl (fun h => by cases h) rfl (Nat.le_of_ble_eq_true rfl) rfl ?_
  unfold fX7_whyNotTake at h
  refine g_aload_n (M := mX7_whyNotTake) dX7_whyNotTake_0 0 rfl rfl ?_
  refine g_iload_n (M := mX7_whyNotTake) dX7_whyNotTake_1 1 rfl rfl ?_
  obtain ⟨t1, u2, h⟩ := zbi h
  rcases o3 : t1 with vt1 | Et1
  · have h := zslo o3 h
    refine g_callVx (M := mX7_whyNotTake) [.int (iI a1)] hX dX7_whyNotTake_2 vX7_requireWord kM_X7_208 (wX7_requireWord hX bn  u2) (congrArg zoV o3) 0 (zWs_at (by omega) ((zSt_c 0 rfl (show σ 0 = (σ 0) from rfl))).o) rfl ⟨(Nat.le_of_ble_eq_true rfl), (Nat.le_of_ble_eq_true rfl)⟩ ⟨(Nat.le_of_ble_eq_true rfl), (Nat.le_of_ble_eq_true rfl)⟩ (Nat.le_of_ble_eq_true rfl) ?_
    refine g_aload_n (M := mX7_whyNotTake) dX7_whyNotTake_5 0 rfl rfl ?_
    refine k_get (M := mX7_whyNotTake) (v := .ref (A 12)) dX7_whyNotTake_6 kF_X7_33.r 0 (by omega) ((zSt_c 0 rfl (show σ 0 = (σ 0) from rfl))).o rfl ?_
    refine g_iload_n (M := mX7_whyNotTake) dX7_whyNotTake_9 1 rfl rfl ?_
    obtain ⟨t4, u5, h⟩ := zbi h
    refine g_callVr (M := mX7_whyNotTake) [.int (iI a1)] hX dX7_whyNotTake_10 vX0_reasonAgainst kM_X7_302 (wX0_reasonAgainst hX (zSt_c 4 rfl (show σ 4 = (σ 4) from rfl)) (by omega)  u5) 12 (zWs_at (by omega) ((zSt_c 4 rfl (show σ 4 = (σ 4) from rfl))).o) rfl ⟨(Nat.le_of_ble_eq_true rfl), (Nat.le_of_ble_eq_true rfl)⟩ ⟨(Nat.le_of_ble_eq_true rfl), (Nat.le_of_ble_eq_true rfl)⟩ (Nat.le_of_ble_eq_true rfl) ?_
    have e := (Option.some.inj h)
    subst e
    exact g_iret (M := mX7_whyNotTake) dX7_whyNotTake_13 rfl (Nat.le_of_ble_eq_true rfl) (Nat.le_of_ble_eq_true rfl) ⟨rfl, rfl⟩
  · have h := zsro o3 h
    have e := (Option.some.inj h)
    subst e
    exact g_callVe (M := mX7_whyNotTake) [.int (iI a1)] hX dX7_whyNotTake_2 vX7_requireWord kM_X7_208 (wX7_requireWord hX bn  u2) (congrArg zoV o3) 0 (zWs_at (by omega) ((zSt_c 0 rfl (show σ 0 = (σ 0) from rfl))).o) rfl ⟨(Nat.le_of_ble_eq_true rfl), (Nat.le_of_ble_eq_true rfl)⟩ ⟨(Nat.le_of_ble_eq_true rfl), (Nat.le_of_ble_eq_true rfl)⟩ (Nat.le_of_ble_eq_true rfl) (gx_out rfl (Nat.le_of_ble_eq_true rfl) (Nat.le_of_ble_eq_true rfl) ⟨rfl, rfl⟩)
set_option maxHeartbeats 4000000 in
set_option maxRecDepth 100000 in
theorem wX7_wordAt {X : zX} (hX : zOK X) {A : Nat → Nat} {n : Nat} {S : Nat → va_E} {σ : CS} (bn : 91 ≤ n) {a1 : Int} {a2 : Int} {res : (Int ⊕ String)} (h : fX7_wordAt σ a1 a2 = some res) : Con X yX7_wordAt mX7_wordAt 7 1 6 [.ref (A 0), .int (iI a1), .int (iI a2)] (zWs A n (zSt X A σ S)) (zRx (zWs A n (zSt X A σ S)) (zoI res)) := by
  refine con_of (lv := [(0, .ref (A 0)), (1, .int (iI a1)), (2, .int (iI a2))]) (by decide) rfl (fun h => by cases h) rfl (Nat.le_of_ble_eq_true rfl) rfl ?_
  unfold fX7_wordAt at h
  refine g_aload_n (M := mX7_wordAt) dX7_wordAt_0 0 rfl rfl ?_
  refine g_iload_n (M := mX7_wordAt) dX7_wordAt_1 1 rfl rfl ?_
  obtain ⟨t1, u2, h⟩ := zbi h
  rcases o3 : t1 with vt1 | Et1
  · have h := zslo o3 h
    refine g_callVx (M := mX7_wordAt) [.int (iI a1)] hX dX7_wordAt_2 vX7_requireRow kM_X7_167 (wX7_requireRow hX bn  u2) (congrArg zoV o3) 0 (zWs_at (by omega) ((zSt_c 0 rfl (show σ 0 = (σ 0) from rfl))).o) rfl ⟨(Nat.le_of_ble_eq_true rfl), (Nat.le_of_ble_eq_true rfl)⟩ ⟨(Nat.le_of_ble_eq_true rfl), (Nat.le_of_ble_eq_true rfl)⟩ (Nat.le_of_ble_eq_true rfl) ?_
    refine g_aload_n (M := mX7_wordAt) dX7_wordAt_5 0 rfl rfl ?_
    refine k_get (M := mX7_wordAt) (v := .ref (A 12)) dX7_wordAt_6 kF_X7_33.r 0 (by omega) ((zSt_c 0 rfl (show σ 0 = (σ 0) from rfl))).o rfl ?_
    refine g_iload_n (M := mX7_wordAt) dX7_wordAt_9 1 rfl rfl ?_
    refine g_iload_n (M := mX7_wordAt) dX7_wordAt_10 2 rfl rfl ?_
    obtain ⟨t4, u5, h⟩ := zbi h
    refine g_callVr (M := mX7_wordAt) [.int (iI a1), .int (iI a2)] hX dX7_wordAt_11 vX0_isPlace kM_X7_198 (wX0_isPlace hX (zSt_c 4 rfl (show σ 4 = (σ 4) from rfl)) (by omega)  u5) 12 (zWs_at (by omega) ((zSt_c 4 rfl (show σ 4 = (σ 4) from rfl))).o) rfl ⟨(Nat.le_of_ble_eq_true rfl), (Nat.le_of_ble_eq_true rfl)⟩ ⟨(Nat.le_of_ble_eq_true rfl), (Nat.le_of_ble_eq_true rfl)⟩ (Nat.le_of_ble_eq_true rfl) ?_
    refine h_beq (M := mX7_wordAt) (tgt := 36) dX7_wordAt_14 (by decide) (fun c6 => ?_) (fun c6 => ?_)
    · have h := zfi (zbf c6) h
      refine h_iconst (M := mX7_wordAt) dX7_wordAt_36 ?_
      have e := (Option.some.inj h)
      subst e
      exact g_iret (M := mX7_wordAt) dX7_wordAt_37 rfl (Nat.le_of_ble_eq_true rfl) (Nat.le_of_ble_eq_true rfl) ⟨rfl, rfl⟩
    · have h := zti c6 h
      refine g_aload_n (M := mX7_wordAt) dX7_wordAt_17 0 rfl rfl ?_
      refine k_get (M := mX7_wordAt) (v := .ref (A 12)) dX7_wordAt_18 kF_X7_33.r 0 (by omega) ((zSt_c 0 rfl (show σ 0 = (σ 0) from rfl))).o rfl ?_
      refine g_aload_n (M := mX7_wordAt) dX7_wordAt_21 0 rfl rfl ?_
      refine k_get (M := mX7_wordAt) (v := .ref (A 12)) dX7_wordAt_22 kF_X7_33.r 0 (by omega) ((zSt_c 0 rfl (show σ 0 = (σ 0) from rfl))).o rfl ?_
      refine g_iload_n (M := mX7_wordAt) dX7_wordAt_25 1 rfl rfl ?_
      refine g_iload_n (M := mX7_wordAt) dX7_wordAt_26 2 rfl rfl ?_
      obtain ⟨t7, u8, h⟩ := zbi h
      refine g_callVr (M := mX7_wordAt) [.int (iI a1), .int (iI a2)] hX dX7_wordAt_27 vX0_codeAt kM_X7_202 (wX0_codeAt hX (zSt_c 4 rfl (show σ 4 = (σ 4) from rfl)) (by omega)  u8) 12 (zWs_at (by omega) ((zSt_c 4 rfl (show σ 4 = (σ 4) from rfl))).o) rfl ⟨(Nat.le_of_ble_eq_true rfl), (Nat.le_of_ble_eq_true rfl)⟩ ⟨(Nat.le_of_ble_eq_true rfl), (Nat.le_of_ble_eq_true rfl)⟩ (Nat.le_of_ble_eq_true rfl) ?_
      obtain ⟨t9, u10, h⟩ := zbi h
      refine g_callVr (M := mX7_wordAt) [.int (iI t7)] hX dX7_wordAt_30 vX0_wordOf kM_X7_205 (wX0_wordOf hX (zSt_c 4 rfl (show σ 4 = (σ 4) from rfl)) (by omega)  u10) 12 (zWs_at (by omega) ((zSt_c 4 rfl (show σ 4 = (σ 4) from rfl))).o) rfl ⟨(Nat.le_of_ble_eq_true rfl), (Nat.le_of_ble_eq_true rfl)⟩ ⟨(Nat.le_of_ble_eq_true rfl), (Nat.le_of_ble_eq_true rfl)⟩ (Nat.le_of_ble_eq_true rfl) ?_
      refine g_goto (M := mX7_wordAt) (tgt := 37) dX7_wordAt_33 (by decide) ?_
      have e := (Option.some.inj h)
      subst e
      exact g_iret (M := mX7_wordAt) dX7_wordAt_37 rfl (Nat.le_of_ble_eq_true rfl) (Nat.le_of_ble_eq_true rfl) ⟨rfl, rfl⟩
  · have h := zsro o3 h
    have e := (Option.some.inj h)
    subst e
    exact g_callVe (M := mX7_wordAt) [.int (iI a1)] hX dX7_wordAt_2 vX7_requireRow kM_X7_167 (wX7_requireRow hX bn  u2) (congrArg zoV o3) 0 (zWs_at (by omega) ((zSt_c 0 rfl (show σ 0 = (σ 0) from rfl))).o) rfl ⟨(Nat.le_of_ble_eq_true rfl), (Nat.le_of_ble_eq_true rfl)⟩ ⟨(Nat.le_of_ble_eq_true rfl), (Nat.le_of_ble_eq_true rfl)⟩ (Nat.le_of_ble_eq_true rfl) (gx_out rfl (Nat.le_of_ble_eq_true rfl) (Nat.le_of_ble_eq_true rfl) ⟨rfl, rfl⟩)
