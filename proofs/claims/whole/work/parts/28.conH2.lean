set_option maxHeartbeats 4000000 in
set_option maxRecDepth 100000 in
theorem wX7_hit {X : zX} (hX : zOK X) {A : Nat → Nat} {n : Nat} {S : Nat → va_E} {σ : CS} (bn : 91 ≤ n) {a1 : Int} {a2 : Int} {a3 : Int} {res : (Int ⊕ String)} (h : fX7_hit σ a1 a2 a3 = some res) : Con X yX7_hit mX7_hit 7 2 12 [.ref (A 0), .int (iI a1), .int (iI a2), .int (iI a3)] (zWs A n (zSt X A σ S)) (zRx (zWs A n (zSt X A σ S)) (zoI res)) := by
  refine con_of (lv := [(0, .ref (A 0)), (1, .int (iI a1)), (2, .int (iI a2)), (3, .int (iI a3))]) (by decide) rfl (fun h => by cases h) rfl (Nat.le_of_ble_eq_true rfl) rfl ?_
  unfold fX7_hit at h
  refine g_aload_n (M := mX7_hit) dX7_hit_0 0 rfl rfl ?_
  refine g_iload_n (M := mX7_hit) dX7_hit_1 1 rfl rfl ?_
  obtain ⟨t1, u2, h⟩ := zbi h
  rcases o3 : t1 with vt1 | Et1
  · have h := zslo o3 h
    refine g_callVx (M := mX7_hit) [.int (iI a1)] hX dX7_hit_2 vX7_requireWord kM_X7_208 (wX7_requireWord hX bn  u2) (congrArg zoV o3) 0 (zWs_at (by omega) ((zSt_c 0 rfl (show σ 0 = (σ 0) from rfl))).o) rfl ⟨(Nat.le_of_ble_eq_true rfl), (Nat.le_of_ble_eq_true rfl)⟩ ⟨(Nat.le_of_ble_eq_true rfl), (Nat.le_of_ble_eq_true rfl)⟩ (Nat.le_of_ble_eq_true rfl) ?_
    refine g_aload_n (M := mX7_hit) dX7_hit_5 0 rfl rfl ?_
    refine k_get (M := mX7_hit) (v := .ref (A 12)) dX7_hit_6 kF_X7_33.r 0 (by omega) ((zSt_c 0 rfl (show σ 0 = (σ 0) from rfl))).o rfl ?_
    refine g_iload_n (M := mX7_hit) dX7_hit_9 1 rfl rfl ?_
    obtain ⟨t4, u5, h⟩ := zbi h
    refine g_callVr (M := mX7_hit) [.int (iI a1)] hX dX7_hit_10 vX0_codeOf kM_X7_211 (wX0_codeOf hX (zSt_c 4 rfl (show σ 4 = (σ 4) from rfl)) (by omega)  u5) 12 (zWs_at (by omega) ((zSt_c 4 rfl (show σ 4 = (σ 4) from rfl))).o) rfl ⟨(Nat.le_of_ble_eq_true rfl), (Nat.le_of_ble_eq_true rfl)⟩ ⟨(Nat.le_of_ble_eq_true rfl), (Nat.le_of_ble_eq_true rfl)⟩ (Nat.le_of_ble_eq_true rfl) ?_
    refine g_istore (M := mX7_hit) (lv' := [(0, .ref (A 0)), (1, .int (iI a1)), (2, .int (iI a2)), (3, .int (iI a3)), (4, .int (iI t4))]) dX7_hit_13 (by decide) rfl ?_
    refine g_aload_n (M := mX7_hit) dX7_hit_15 0 rfl rfl ?_
    refine k_get (M := mX7_hit) (v := .ref (A 12)) dX7_hit_16 kF_X7_33.r 0 (by omega) ((zSt_c 0 rfl (show σ 0 = (σ 0) from rfl))).o rfl ?_
    refine g_iload (M := mX7_hit) dX7_hit_19 4 rfl ?_
    refine g_iload_n (M := mX7_hit) dX7_hit_21 2 rfl rfl ?_
    obtain ⟨t6, u7, h⟩ := zbi h
    refine g_callVr (M := mX7_hit) [.int (iI t4), .int (iI a2)] hX dX7_hit_22 vX0_hitNumber kM_X7_251 (wX0_hitNumber hX (zSt_c 4 rfl (show σ 4 = (σ 4) from rfl)) (by omega)  u7) 12 (zWs_at (by omega) ((zSt_c 4 rfl (show σ 4 = (σ 4) from rfl))).o) rfl ⟨(Nat.le_of_ble_eq_true rfl), (Nat.le_of_ble_eq_true rfl)⟩ ⟨(Nat.le_of_ble_eq_true rfl), (Nat.le_of_ble_eq_true rfl)⟩ (Nat.le_of_ble_eq_true rfl) ?_
    refine g_istore (M := mX7_hit) (lv' := [(0, .ref (A 0)), (1, .int (iI a1)), (2, .int (iI a2)), (3, .int (iI a3)), (4, .int (iI t4)), (5, .int (iI t6))]) dX7_hit_25 (by decide) rfl ?_
    refine g_iload (M := mX7_hit) dX7_hit_27 5 rfl ?_
    refine h_iconst (M := mX7_hit) dX7_hit_29 ?_
    obtain ⟨g9, h⟩ := zgi h
    refine h_icmp_ne (M := mX7_hit) (tgt := 43) dX7_hit_30 (by decide) g9 (by decide) (fun c8 => ?_) (fun c8 => ?_)
    · have h := zfi c8 h
      refine g_iload (M := mX7_hit) dX7_hit_43 5 rfl ?_
      refine h_bipush (M := mX7_hit) dX7_hit_45 rfl ?_
      obtain ⟨g10, h⟩ := zgi h
      refine g_idiv (M := mX7_hit) dX7_hit_47 (iI_ne0 (show (0 : Int) < (30 : Int) ∧ (30 : Int) < (2147483648 : Int) from by decide).1 (show (0 : Int) < (30 : Int) ∧ (30 : Int) < (2147483648 : Int) from by decide).2) ?_
      refine h_topx (M := mX7_hit) (b := t6 / 30) (iI_div g10.1 g10.2 (show (0 : Int) < (30 : Int) ∧ (30 : Int) < (2147483648 : Int) from by decide).1 (show (0 : Int) < (30 : Int) ∧ (30 : Int) < (2147483648 : Int) from by decide).2) ?_
      refine g_istore (M := mX7_hit) (lv' := [(0, .ref (A 0)), (1, .int (iI a1)), (2, .int (iI a2)), (3, .int (iI a3)), (4, .int (iI t4)), (5, .int (iI t6)), (6, .int (iI (t6 / 30)))]) dX7_hit_48 (by decide) rfl ?_
      refine g_iload (M := mX7_hit) dX7_hit_50 5 rfl ?_
      refine h_bipush (M := mX7_hit) dX7_hit_52 rfl ?_
      refine g_irem (M := mX7_hit) dX7_hit_54 (iI_ne0 (show (0 : Int) < (30 : Int) ∧ (30 : Int) < (2147483648 : Int) from by decide).1 (show (0 : Int) < (30 : Int) ∧ (30 : Int) < (2147483648 : Int) from by decide).2) ?_
      refine h_topx (M := mX7_hit) (b := t6 % 30) (iI_rem g10.1 g10.2 (show (0 : Int) < (30 : Int) ∧ (30 : Int) < (2147483648 : Int) from by decide).1 (show (0 : Int) < (30 : Int) ∧ (30 : Int) < (2147483648 : Int) from by decide).2) ?_
      refine g_istore (M := mX7_hit) (lv' := [(0, .ref (A 0)), (1, .int (iI a1)), (2, .int (iI a2)), (3, .int (iI a3)), (4, .int (iI t4)), (5, .int (iI t6)), (6, .int (iI (t6 / 30))), (7, .int (iI (t6 % 30)))]) dX7_hit_55 (by decide) rfl ?_
      refine g_iload_n (M := mX7_hit) dX7_hit_57 3 rfl rfl ?_
      obtain ⟨g11, h⟩ := zgi h
      by_cases c12 : a3 = 0
      · have h := zti c12 h
        refine g_tableIn (M := mX7_hit) (off := 26) (tgt := 84) dX7_hit_58 (iI_tlo g11 (by omega)) (iI_thi g11 (by omega)) (iI_tat g11 c12 rfl) (by decide) ?_
        refine g_iload (M := mX7_hit) dX7_hit_84 6 rfl ?_
        have e := (Option.some.inj h)
        subst e
        exact g_iret (M := mX7_hit) dX7_hit_86 rfl (Nat.le_of_ble_eq_true rfl) (Nat.le_of_ble_eq_true rfl) ⟨rfl, rfl⟩
      have h := zfi c12 h
      by_cases c13 : a3 = 1
      · have h := zti c13 h
        refine g_tableIn (M := mX7_hit) (off := 29) (tgt := 87) dX7_hit_58 (iI_tlo g11 (by omega)) (iI_thi g11 (by omega)) (iI_tat g11 c13 rfl) (by decide) ?_
        refine g_iload (M := mX7_hit) dX7_hit_87 7 rfl ?_
        have e := (Option.some.inj h)
        subst e
        exact g_iret (M := mX7_hit) dX7_hit_89 rfl (Nat.le_of_ble_eq_true rfl) (Nat.le_of_ble_eq_true rfl) ⟨rfl, rfl⟩
      have h := zfi c13 h
      by_cases c14 : a3 = 2
      · have h := zti c14 h
        refine g_tableIn (M := mX7_hit) (off := 32) (tgt := 90) dX7_hit_58 (iI_tlo g11 (by omega)) (iI_thi g11 (by omega)) (iI_tat g11 c14 rfl) (by decide) ?_
        refine g_aload_n (M := mX7_hit) dX7_hit_90 0 rfl rfl ?_
        refine k_get (M := mX7_hit) (v := .ref (A 12)) dX7_hit_91 kF_X7_33.r 0 (by omega) ((zSt_c 0 rfl (show σ 0 = (σ 0) from rfl))).o rfl ?_
        refine g_iload (M := mX7_hit) dX7_hit_94 6 rfl ?_
        refine g_iload (M := mX7_hit) dX7_hit_96 7 rfl ?_
        obtain ⟨t15, u16, h⟩ := zbi h
        refine g_callVr (M := mX7_hit) [.int (iI (t6 / 30)), .int (iI (t6 % 30))] hX dX7_hit_98 vX0_codeAt kM_X7_202 (wX0_codeAt hX (zSt_c 4 rfl (show σ 4 = (σ 4) from rfl)) (by omega)  u16) 12 (zWs_at (by omega) ((zSt_c 4 rfl (show σ 4 = (σ 4) from rfl))).o) rfl ⟨(Nat.le_of_ble_eq_true rfl), (Nat.le_of_ble_eq_true rfl)⟩ ⟨(Nat.le_of_ble_eq_true rfl), (Nat.le_of_ble_eq_true rfl)⟩ (Nat.le_of_ble_eq_true rfl) ?_
        refine g_iload (M := mX7_hit) dX7_hit_101 4 rfl ?_
        refine g_aload_n (M := mX7_hit) dX7_hit_103 0 rfl rfl ?_
        refine k_get (M := mX7_hit) (v := .ref (A 12)) dX7_hit_104 kF_X7_33.r 0 (by omega) ((zSt_c 0 rfl (show σ 0 = (σ 0) from rfl))).o rfl ?_
        refine k_get (M := mX7_hit) (v := .int (iI ((σ 4).1 1))) dX7_hit_107 kF_X7_134.r 12 (by omega) ((zSt_c 4 rfl (show σ 4 = (σ 4) from rfl))).o rfl ?_
        obtain ⟨t17, u18, h⟩ := zbi h
        refine g_callSr (M := mX7_hit) [.int (iI t15), .int (iI t4), .int (iI ((σ 4).1 1))] hX dX7_hit_110 vX0_differing kM_X7_214 (wX0_differing hX   u18) rfl ⟨(Nat.le_of_ble_eq_true rfl), (Nat.le_of_ble_eq_true rfl)⟩ ⟨(Nat.le_of_ble_eq_true rfl), (Nat.le_of_ble_eq_true rfl)⟩ (Nat.le_of_ble_eq_true rfl) ?_
        have e := (Option.some.inj h)
        subst e
        exact g_iret (M := mX7_hit) dX7_hit_113 rfl (Nat.le_of_ble_eq_true rfl) (Nat.le_of_ble_eq_true rfl) ⟨rfl, rfl⟩
      have h := zfi c14 h
      refine g_tableOut (M := mX7_hit) (tgt := 114) dX7_hit_58 (iI_tout g11 (by omega)) (by decide) ?_
      have e := (Option.some.inj h)
      subst e
      exact g_throwW (M := mX7_hit) hX rfl rfl tT_X7_90_256_94 dX7_hit_114 dX7_hit_117 dX7_hit_118 dX7_hit_121 dX7_hit_124 (Nat.le_of_ble_eq_true rfl) (Nat.le_of_ble_eq_true rfl) (Nat.le_of_ble_eq_true rfl) (Nat.le_of_ble_eq_true rfl) ⟨rfl, rfl⟩
    · have h := zti c8 h
      have e := (Option.some.inj h)
      subst e
      exact g_throw (M := mX7_hit) hX rfl rfl tT_X7_189_254_193 dX7_hit_33 dX7_hit_36 dX7_hit_37 dX7_hit_39 dX7_hit_42 (Nat.le_of_ble_eq_true rfl) (Nat.le_of_ble_eq_true rfl) (Nat.le_of_ble_eq_true rfl) (Nat.le_of_ble_eq_true rfl) ⟨rfl, rfl⟩
  · have h := zsro o3 h
    have e := (Option.some.inj h)
    subst e
    exact g_callVe (M := mX7_hit) [.int (iI a1)] hX dX7_hit_2 vX7_requireWord kM_X7_208 (wX7_requireWord hX bn  u2) (congrArg zoV o3) 0 (zWs_at (by omega) ((zSt_c 0 rfl (show σ 0 = (σ 0) from rfl))).o) rfl ⟨(Nat.le_of_ble_eq_true rfl), (Nat.le_of_ble_eq_true rfl)⟩ ⟨(Nat.le_of_ble_eq_true rfl), (Nat.le_of_ble_eq_true rfl)⟩ (Nat.le_of_ble_eq_true rfl) (gx_out rfl (Nat.le_of_ble_eq_true rfl) (Nat.le_of_ble_eq_true rfl) ⟨rfl, rfl⟩)
set_option maxHeartbeats 4000000 in
set_option maxRecDepth 100000 in
theorem wX7_hits {X : zX} (hX : zOK X) {A : Nat → Nat} {n : Nat} {S : Nat → va_E} {σ : CS} (bn : 91 ≤ n) {a1 : Int} {res : (Int ⊕ String)} (h : fX7_hits σ a1 = some res) : Con X yX7_hits mX7_hits 7 1 6 [.ref (A 0), .int (iI a1)] (zWs A n (zSt X A σ S)) (zRx (zWs A n (zSt X A σ S)) (zoI res)) := by
  refine con_of (lv := [(0, .ref (A 0)), (1, .int (iI a1))]) (by decide) rfl (fun h => by cases h) rfl (Nat.le_of_ble_eq_true rfl) rfl ?_
  unfold fX7_hits at h
  refine g_aload_n (M := mX7_hits) dX7_hits_0 0 rfl rfl ?_
  refine g_iload_n (M := mX7_hits) dX7_hits_1 1 rfl rfl ?_
  obtain ⟨t1, u2, h⟩ := zbi h
  rcases o3 : t1 with vt1 | Et1
  · have h := zslo o3 h
    refine g_callVx (M := mX7_hits) [.int (iI a1)] hX dX7_hits_2 vX7_requireWord kM_X7_208 (wX7_requireWord hX bn  u2) (congrArg zoV o3) 0 (zWs_at (by omega) ((zSt_c 0 rfl (show σ 0 = (σ 0) from rfl))).o) rfl ⟨(Nat.le_of_ble_eq_true rfl), (Nat.le_of_ble_eq_true rfl)⟩ ⟨(Nat.le_of_ble_eq_true rfl), (Nat.le_of_ble_eq_true rfl)⟩ (Nat.le_of_ble_eq_true rfl) ?_
    refine g_aload_n (M := mX7_hits) dX7_hits_5 0 rfl rfl ?_
    refine k_get (M := mX7_hits) (v := .ref (A 12)) dX7_hits_6 kF_X7_33.r 0 (by omega) ((zSt_c 0 rfl (show σ 0 = (σ 0) from rfl))).o rfl ?_
    refine g_iload_n (M := mX7_hits) dX7_hits_9 1 rfl rfl ?_
    obtain ⟨t4, u5, h⟩ := zbi h
    refine g_callVr (M := mX7_hits) [.int (iI a1)] hX dX7_hits_10 vX0_codeOf kM_X7_211 (wX0_codeOf hX (zSt_c 4 rfl (show σ 4 = (σ 4) from rfl)) (by omega)  u5) 12 (zWs_at (by omega) ((zSt_c 4 rfl (show σ 4 = (σ 4) from rfl))).o) rfl ⟨(Nat.le_of_ble_eq_true rfl), (Nat.le_of_ble_eq_true rfl)⟩ ⟨(Nat.le_of_ble_eq_true rfl), (Nat.le_of_ble_eq_true rfl)⟩ (Nat.le_of_ble_eq_true rfl) ?_
    refine g_istore_n (M := mX7_hits) (lv' := [(0, .ref (A 0)), (1, .int (iI a1)), (2, .int (iI t4))]) dX7_hits_13 rfl (by decide) rfl ?_
    refine h_iconst (M := mX7_hits) dX7_hits_14 ?_
    refine g_istore_n (M := mX7_hits) (lv' := [(0, .ref (A 0)), (1, .int (iI a1)), (2, .int (iI t4)), (3, .int (iI 0))]) dX7_hits_15 rfl (by decide) rfl ?_
    refine h_iconst (M := mX7_hits) dX7_hits_16 ?_
    refine g_istore (M := mX7_hits) (lv' := [(0, .ref (A 0)), (1, .int (iI a1)), (2, .int (iI t4)), (3, .int (iI 0)), (4, .int (iI 0))]) dX7_hits_17 (by decide) rfl ?_
    obtain ⟨x6, l6, h⟩ := zbi h
    have r6 : ∀ y6, y6 = x6 → G X mX7_hits (zPm X 7 1 6 (zRx (zWs A n (zSt X A σ S)) (zoI res))) 1 6 78 [(3, .int (iI y6.1))] [] (zWs A n (zSt X A σ S)) := by
      intro y6 ey
      rw [← ey] at h
      refine g_iload_n (M := mX7_hits) dX7_hits_78 0 rfl rfl ?_
      have e := (Option.some.inj h)
      subst e
      exact g_iret (M := mX7_hits) dX7_hits_79 rfl (Nat.le_of_ble_eq_true rfl) (Nat.le_of_ble_eq_true rfl) ⟨rfl, rfl⟩
    refine g_lv (M := mX7_hits) [0, 2, 3, 4] rfl ?_
    refine zLp_J (J := fun s6 => G X mX7_hits (zPm X 7 1 6 (zRx (zWs A n (zSt X A σ S)) (zoI res))) 1 6 19 [(0, .ref (A 0)), (2, .int (iI t4)), (3, .int (iI s6.1)), (4, .int (iI s6.2))] [] (zWs A n (zSt X A σ S))) (fun s6 w6 h6 b6 e6 => ?_) _ _ l6
    refine g_iload (M := mX7_hits) dX7_hits_19 3 rfl ?_
    refine g_aload_n (M := mX7_hits) dX7_hits_21 0 rfl rfl ?_
    refine k_get (M := mX7_hits) (v := .ref (A 12)) dX7_hits_22 kF_X7_33.r 0 (by omega) ((zSt_c 0 rfl (show σ 0 = (σ 0) from rfl))).o rfl ?_
    refine k_get (M := mX7_hits) (v := .int (iI ((σ 4).1 3))) dX7_hits_25 kF_X7_108.r 12 (by omega) ((zSt_c 4 rfl (show σ 4 = (σ 4) from rfl))).o rfl ?_
    obtain ⟨g25, h6⟩ := zgi h6
    refine h_icmp_ge (M := mX7_hits) (tgt := 78) dX7_hits_28 (by decide) g25.1 g25.2 (fun c24 => ?_) (fun c24 => ?_)
    · have h6 := zti c24 h6
      refine g_lv (M := mX7_hits) [2] rfl ?_
      exact r6 _ (e6 _ (Option.some.inj h6).symm)
    · have h6 := zfi (Int.not_le.mpr c24) h6
      refine h_iconst (M := mX7_hits) dX7_hits_31 ?_
      refine g_istore (M := mX7_hits) (lv' := [(0, .ref (A 0)), (2, .int (iI t4)), (3, .int (iI s6.1)), (4, .int (iI s6.2)), (5, .int (iI 0))]) dX7_hits_32 (by decide) rfl ?_
      obtain ⟨x26, l26, h6⟩ := zbi h6
      have r26 : ∀ y26, y26 = x26 → G X mX7_hits (zPm X 7 1 6 (zRx (zWs A n (zSt X A σ S)) (zoI res))) 1 6 72 [(0, .ref (A 0)), (2, .int (iI t4)), (3, .int (iI y26.1)), (4, .int (iI s6.2))] [] (zWs A n (zSt X A σ S)) := by
        intro y26 ey
        rw [← ey] at h6
        refine h_iinc (M := mX7_hits) (j := 3) (lv' := [(0, .ref (A 0)), (2, .int (iI t4)), (3, .int (iI y26.1)), (4, .int (iI (s6.2 + 1)))]) dX7_hits_72 rfl (Nat.le_of_ble_eq_true rfl) rfl ?_
        refine g_goto (M := mX7_hits) (tgt := 19) dX7_hits_75 (by decide) ?_
        exact b6 _ (Option.some.inj h6).symm
      refine zLp_J (J := fun s26 => G X mX7_hits (zPm X 7 1 6 (zRx (zWs A n (zSt X A σ S)) (zoI res))) 1 6 34 [(0, .ref (A 0)), (2, .int (iI t4)), (3, .int (iI s26.1)), (4, .int (iI s6.2)), (5, .int (iI s26.2))] [] (zWs A n (zSt X A σ S))) (fun s26 w26 h26 b26 e26 => ?_) _ _ l26
      refine g_iload (M := mX7_hits) dX7_hits_34 4 rfl ?_
      refine g_aload_n (M := mX7_hits) dX7_hits_36 0 rfl rfl ?_
      refine k_get (M := mX7_hits) (v := .ref (A 12)) dX7_hits_37 kF_X7_33.r 0 (by omega) ((zSt_c 0 rfl (show σ 0 = (σ 0) from rfl))).o rfl ?_
      refine g_iload (M := mX7_hits) dX7_hits_40 3 rfl ?_
      obtain ⟨t34, u35, h26⟩ := zbi h26
      refine g_callVr (M := mX7_hits) [.int (iI s6.2)] hX dX7_hits_42 vX0_lastStart kM_X7_245 (wX0_lastStart hX (zSt_c 4 rfl (show σ 4 = (σ 4) from rfl)) (by omega)  u35) 12 (zWs_at (by omega) ((zSt_c 4 rfl (show σ 4 = (σ 4) from rfl))).o) rfl ⟨(Nat.le_of_ble_eq_true rfl), (Nat.le_of_ble_eq_true rfl)⟩ ⟨(Nat.le_of_ble_eq_true rfl), (Nat.le_of_ble_eq_true rfl)⟩ (Nat.le_of_ble_eq_true rfl) ?_
      obtain ⟨g37, h26⟩ := zgi h26
      refine h_icmp_gt (M := mX7_hits) (tgt := 72) dX7_hits_45 (by decide) g37.1 g37.2 (fun c36 => ?_) (fun c36 => ?_)
      · have h26 := zti c36 h26
        refine g_lv (M := mX7_hits) [0, 1, 2, 3] rfl ?_
        exact r26 _ (e26 _ (Option.some.inj h26).symm)
      · have h26 := zfi (Int.not_lt.mpr c36) h26
        refine g_aload_n (M := mX7_hits) dX7_hits_48 0 rfl rfl ?_
        refine k_get (M := mX7_hits) (v := .ref (A 12)) dX7_hits_49 kF_X7_33.r 0 (by omega) ((zSt_c 0 rfl (show σ 0 = (σ 0) from rfl))).o rfl ?_
        refine g_iload (M := mX7_hits) dX7_hits_52 3 rfl ?_
        refine g_iload (M := mX7_hits) dX7_hits_54 4 rfl ?_
        refine g_iload_n (M := mX7_hits) dX7_hits_56 1 rfl rfl ?_
        obtain ⟨t38, u39, h26⟩ := zbi h26
        refine g_callVr (M := mX7_hits) [.int (iI s6.2), .int (iI s26.2), .int (iI t4)] hX dX7_hits_57 vX0_isHit kM_X7_248 (wX0_isHit hX (zSt_c 4 rfl (show σ 4 = (σ 4) from rfl)) (by omega)  u39) 12 (zWs_at (by omega) ((zSt_c 4 rfl (show σ 4 = (σ 4) from rfl))).o) rfl ⟨(Nat.le_of_ble_eq_true rfl), (Nat.le_of_ble_eq_true rfl)⟩ ⟨(Nat.le_of_ble_eq_true rfl), (Nat.le_of_ble_eq_true rfl)⟩ (Nat.le_of_ble_eq_true rfl) ?_
        refine h_beq (M := mX7_hits) (tgt := 66) dX7_hits_60 (by decide) (fun c40 => ?_) (fun c40 => ?_)
        · have h26 := zfi (zbf c40) h26
          refine h_iinc (M := mX7_hits) (j := 4) (lv' := [(0, .ref (A 0)), (2, .int (iI t4)), (3, .int (iI s26.1)), (4, .int (iI s6.2)), (5, .int (iI (s26.2 + 1)))]) dX7_hits_66 rfl (Nat.le_of_ble_eq_true rfl) rfl ?_
          refine g_goto (M := mX7_hits) (tgt := 34) dX7_hits_69 (by decide) ?_
          exact b26 _ (Option.some.inj h26).symm
        · have h26 := zti c40 h26
          refine h_iinc (M := mX7_hits) (j := 2) (lv' := [(0, .ref (A 0)), (2, .int (iI t4)), (3, .int (iI (s26.1 + 1))), (4, .int (iI s6.2)), (5, .int (iI s26.2))]) dX7_hits_63 rfl (Nat.le_of_ble_eq_true rfl) rfl ?_
          refine h_iinc (M := mX7_hits) (j := 4) (lv' := [(0, .ref (A 0)), (2, .int (iI t4)), (3, .int (iI (s26.1 + 1))), (4, .int (iI s6.2)), (5, .int (iI (s26.2 + 1)))]) dX7_hits_66 rfl (Nat.le_of_ble_eq_true rfl) rfl ?_
          refine g_goto (M := mX7_hits) (tgt := 34) dX7_hits_69 (by decide) ?_
          exact b26 _ (Option.some.inj h26).symm
  · have h := zsro o3 h
    have e := (Option.some.inj h)
    subst e
    exact g_callVe (M := mX7_hits) [.int (iI a1)] hX dX7_hits_2 vX7_requireWord kM_X7_208 (wX7_requireWord hX bn  u2) (congrArg zoV o3) 0 (zWs_at (by omega) ((zSt_c 0 rfl (show σ 0 = (σ 0) from rfl))).o) rfl ⟨(Nat.le_of_ble_eq_true rfl), (Nat.le_of_ble_eq_true rfl)⟩ ⟨(Nat.le_of_ble_eq_true rfl), (Nat.le_of_ble_eq_true rfl)⟩ (Nat.le_of_ble_eq_true rfl) (gx_out rfl (Nat.le_of_ble_eq_true rfl) (Nat.le_of_ble_eq_true rfl) ⟨rfl, rfl⟩)
set_option maxHeartbeats 4000000 in
set_option maxRecDepth 100000 in
theorem wX7_isCountOfImproves {X : zX} (hX : zOK X) {A : Nat → Nat} {n : Nat} {S : Nat → va_E} {a1 : Int} {res : Bool} (h : fX7_isCountOfImproves a1 = some res) : Con X yX7_isCountOfImproves mX7_isCountOfImproves 0 0 0 [.int (iI a1)] (zWs A n S) (zRet (zWs A n S) (some (.int (iI (b2 res))))) := by
  refine con_of (lv := [(0, .int (iI a1))]) (by decide) rfl (fun h => by cases h) rfl (Nat.le_of_ble_eq_true rfl) rfl ?_
  unfold fX7_isCountOfImproves at h
  refine g_iload_n (M := mX7_isCountOfImproves) dX7_isCountOfImproves_0 0 rfl rfl ?_
  refine h_iconst (M := mX7_isCountOfImproves) dX7_isCountOfImproves_1 ?_
  obtain ⟨g2, h⟩ := zgi h
  refine h_icmp_lt (M := mX7_isCountOfImproves) (tgt := 15) dX7_isCountOfImproves_2 (by decide) g2 (by decide) (fun c1 => ?_) (fun c1 => ?_)
  · have h := zti c1 h
    refine h_iconst (M := mX7_isCountOfImproves) dX7_isCountOfImproves_15 ?_
    have e := (Option.some.inj h)
    subst e
    exact g_zret (M := mX7_isCountOfImproves) .boolean dX7_isCountOfImproves_16 rfl rfl (Nat.le_of_ble_eq_true rfl) (Nat.le_of_ble_eq_true rfl) ⟨rfl, rfl⟩
  · have h := zfi (Int.not_lt.mpr c1) h
    refine g_iload_n (M := mX7_isCountOfImproves) dX7_isCountOfImproves_5 0 rfl rfl ?_
    refine h_bipush (M := mX7_isCountOfImproves) dX7_isCountOfImproves_6 rfl ?_
    refine h_icmp_gt (M := mX7_isCountOfImproves) (tgt := 15) dX7_isCountOfImproves_8 (by decide) g2 (by decide) (fun c3 => ?_) (fun c3 => ?_)
    · have h := zti c3 h
      refine h_iconst (M := mX7_isCountOfImproves) dX7_isCountOfImproves_15 ?_
      have e := (Option.some.inj h)
      subst e
      exact g_zret (M := mX7_isCountOfImproves) .boolean dX7_isCountOfImproves_16 rfl rfl (Nat.le_of_ble_eq_true rfl) (Nat.le_of_ble_eq_true rfl) ⟨rfl, rfl⟩
    · have h := zfi (Int.not_lt.mpr c3) h
      refine h_iconst (M := mX7_isCountOfImproves) dX7_isCountOfImproves_11 ?_
      refine g_goto (M := mX7_isCountOfImproves) (tgt := 16) dX7_isCountOfImproves_12 (by decide) ?_
      have e := (Option.some.inj h)
      subst e
      exact g_zret (M := mX7_isCountOfImproves) .boolean dX7_isCountOfImproves_16 rfl rfl (Nat.le_of_ble_eq_true rfl) (Nat.le_of_ble_eq_true rfl) ⟨rfl, rfl⟩
set_option maxHeartbeats 4000000 in
set_option maxRecDepth 100000 in
theorem wX7_improve {X : zX} (hX : zOK X) {A : Nat → Nat} {n : Nat} {S : Nat → va_E} {σ : CS} (bn : 91 ≤ n) {a1 : Int} {res : CS × (Int ⊕ String)} (h : fX7_improve σ a1 = some res) : Con X yX7_improve mX7_improve 6 1 6 [.ref (A 0), .int (iI a1)] (zWs A n (zSt X A σ S)) (zRA A (fun k => 1 ≤ k ∧ k < 91) (fun A' => (zWs A' n (zSt X A' res.1 S))) (fun A' => zoI res.2)) := by
  refine con_of (lv := [(0, .ref (A 0)), (1, .int (iI a1))]) (by decide) rfl (fun h => by cases h) rfl (Nat.le_of_ble_eq_true rfl) rfl ?_
  unfold fX7_improve at h
  refine g_iload_n (M := mX7_improve) dX7_improve_0 1 rfl rfl ?_
  obtain ⟨t1, u2, h⟩ := zbi h
  refine g_callSr (M := mX7_improve) [.int (iI a1)] hX dX7_improve_1 vX7_isCountOfImproves kM_X7_355 (wX7_isCountOfImproves hX   u2) rfl ⟨(Nat.le_of_ble_eq_true rfl), (Nat.le_of_ble_eq_true rfl)⟩ ⟨(Nat.le_of_ble_eq_true rfl), (Nat.le_of_ble_eq_true rfl)⟩ (Nat.le_of_ble_eq_true rfl) ?_
  refine h_bne (M := mX7_improve) (tgt := 18) dX7_improve_4 (by decide) (fun c3 => ?_) (fun c3 => ?_)
  · have h := zti c3 h
    refine g_aload_n (M := mX7_improve) dX7_improve_18 0 rfl rfl ?_
    obtain ⟨t4, u5, h⟩ := zbi h
    refine g_callVA (M := mX7_improve) [] hX dX7_improve_19 vX7_keepPast kM_X7_114 (wX7_keepPast hX bn  u5) (fun _ => rfl) 0 (zWs_at (by omega) ((zSt_c 0 rfl (show σ 0 = (σ 0) from rfl))).o) rfl ⟨(Nat.le_of_ble_eq_true rfl), (Nat.le_of_ble_eq_true rfl)⟩ ⟨(Nat.le_of_ble_eq_true rfl), (Nat.le_of_ble_eq_true rfl)⟩ (Nat.le_of_ble_eq_true rfl) (fun A6 hnA6 => ?_)
    have hAc7 : ∀ k, ¬ (fun k => 1 ≤ k ∧ k < 91) k → A6 k = A k := fun k hk => (hnA6 k (by omega)).trans (rfl)
    refine g_lvc (M := mX7_improve) (lv' := [(0, .ref (A6 0)), (1, .int (iI a1))]) (by rw [hnA6 0 (by omega)]) ?_
    refine g_aload_n (M := mX7_improve) dX7_improve_22 0 rfl rfl ?_
    refine k_get (M := mX7_improve) (v := .ref (A6 45)) dX7_improve_23 kF_X7_60.r 0 (by omega) ((zSt_c 0 rfl (show t4 0 = (t4 0) from rfl))).o rfl ?_
    refine g_aload_n (M := mX7_improve) dX7_improve_26 0 rfl rfl ?_
    refine k_get (M := mX7_improve) (v := .ref (A6 12)) dX7_improve_27 kF_X7_33.r 0 (by omega) ((zSt_c 0 rfl (show t4 0 = (t4 0) from rfl))).o rfl ?_
    refine g_iload_n (M := mX7_improve) dX7_improve_30 1 rfl rfl ?_
    obtain ⟨t8, u9, h⟩ := zbi h
    refine g_callVr (M := mX7_improve) [.ref (A6 12), .int (iI a1)] hX dX7_improve_31 vX1_improveAtMost kM_X7_360 (wX1_improveAtMost hX (zSt_c 9 rfl (show t4 9 = (t4 9) from rfl)) (by omega) (zSt_c 4 rfl (show t4 4 = (t4 4) from rfl)) (by omega) (by omega) u9) 45 (zWs_at (by omega) ((zSt_c 9 rfl (show t4 9 = (t4 9) from rfl))).o) rfl ⟨(Nat.le_of_ble_eq_true rfl), (Nat.le_of_ble_eq_true rfl)⟩ ⟨(Nat.le_of_ble_eq_true rfl), (Nat.le_of_ble_eq_true rfl)⟩ (Nat.le_of_ble_eq_true rfl) ?_
    refine g_ws (M := mX7_improve) (congrArg (fun z => zWs A6 n (zC X A6 shB 12 t8.2.1 (z))) (zSt_p 9 rfl)) ?_
    refine g_ws (M := mX7_improve) (congrArg (fun z => zWs A6 n (z)) (zSt_p 4 rfl)) ?_
    have e := (Option.some.inj h)
    subst e
    exact g_iret (M := mX7_improve) dX7_improve_34 rfl (Nat.le_of_ble_eq_true rfl) (Nat.le_of_ble_eq_true rfl) ⟨_, hAc7, rfl, rfl⟩
  · have h := zfi (zbf c3) h
    have e := (Option.some.inj h)
    subst e
    exact g_throwW (M := mX7_improve) hX rfl rfl tT_X7_90_358_94 dX7_improve_7 dX7_improve_10 dX7_improve_11 dX7_improve_14 dX7_improve_17 (Nat.le_of_ble_eq_true rfl) (Nat.le_of_ble_eq_true rfl) (Nat.le_of_ble_eq_true rfl) (Nat.le_of_ble_eq_true rfl) ⟨_, (fun _ _ => rfl), rfl, rfl⟩
set_option maxHeartbeats 4000000 in
set_option maxRecDepth 100000 in
theorem wX7_improvesToEnd {X : zX} (hX : zOK X) {A : Nat → Nat} {n : Nat} {S : Nat → va_E} {σ : CS} (bn : 91 ≤ n) {a1 : Int} {res : CS × (Int ⊕ String)} (h : fX7_improvesToEnd σ a1 = some res) : Con X yX7_improvesToEnd mX7_improvesToEnd 6 1 6 [.ref (A 0), .int (iI a1)] (zWs A n (zSt X A σ S)) (zRA A (fun k => 1 ≤ k ∧ k < 91) (fun A' => (zWs A' n (zSt X A' res.1 S))) (fun A' => zoI res.2)) := by
  refine con_of (lv := [(0, .ref (A 0)), (1, .int (iI a1))]) (by decide) rfl (fun h => by cases h) rfl (Nat.le_of_ble_eq_true rfl) rfl ?_
  unfold fX7_improvesToEnd at h
  refine g_iload_n (M := mX7_improvesToEnd) dX7_improvesToEnd_0 1 rfl rfl ?_
  refine zJn_J (J := fun x17 => ∀ (Aj17 : Nat → Nat), (∀ k, ¬ (fun k => 1 ≤ k ∧ k < 91) k → Aj17 k = A k) → G X mX7_improvesToEnd (zPm X 6 1 6 (zRA A (fun k => 1 ≤ k ∧ k < 91) (fun A' => (zWs A' n (zSt X A' res.1 S))) (fun A' => zoI res.2))) 0 0 10 [] [] (zWs Aj17 n (zSt X Aj17 σ S))) h (fun x17 h => ?_) (fun j17 h => ?_)
  · intro Aj17 hAj17
    have e := (Option.some.inj h)
    subst e
    exact g_throwW (M := mX7_improvesToEnd) hX rfl rfl tT_X7_90_339_94 dX7_improvesToEnd_10 dX7_improvesToEnd_13 dX7_improvesToEnd_14 dX7_improvesToEnd_17 dX7_improvesToEnd_20 (Nat.le_of_ble_eq_true rfl) (Nat.le_of_ble_eq_true rfl) (Nat.le_of_ble_eq_true rfl) (Nat.le_of_ble_eq_true rfl) ⟨_, hAj17, rfl, rfl⟩
  · obtain ⟨g19, h⟩ := zgi h
    refine h_if_lt (M := mX7_improvesToEnd) (tgt := 10) dX7_improvesToEnd_1 (by decide) g19 (fun c18 => ?_) (fun c18 => ?_)
    · have h := zti c18 h
      refine g_lv (M := mX7_improvesToEnd) [] rfl ?_
      exact j17 () h A (fun _ _ => rfl)
    · have h := zfi (Int.not_lt.mpr c18) h
      refine g_iload_n (M := mX7_improvesToEnd) dX7_improvesToEnd_4 1 rfl rfl ?_
      refine h_bipush (M := mX7_improvesToEnd) dX7_improvesToEnd_5 rfl ?_
      refine h_icmp_le (M := mX7_improvesToEnd) (tgt := 21) dX7_improvesToEnd_7 (by decide) g19 (by decide) (fun c20 => ?_) (fun c20 => ?_)
      · have h := zti c20 h
        refine g_aload_n (M := mX7_improvesToEnd) dX7_improvesToEnd_21 0 rfl rfl ?_
        refine k_get (M := mX7_improvesToEnd) (v := .ref (A 26)) dX7_improvesToEnd_22 kF_X7_40.r 0 (by omega) ((zSt_c 0 rfl (show σ 0 = (σ 0) from rfl))).o rfl ?_
        refine g_aload_n (M := mX7_improvesToEnd) dX7_improvesToEnd_25 0 rfl rfl ?_
        refine k_get (M := mX7_improvesToEnd) (v := .ref (A 12)) dX7_improvesToEnd_26 kF_X7_33.r 0 (by omega) ((zSt_c 0 rfl (show σ 0 = (σ 0) from rfl))).o rfl ?_
        obtain ⟨t21, u22, h⟩ := zbi h
        refine g_callVr (M := mX7_improvesToEnd) [.ref (A 12)] hX dX7_improvesToEnd_29 vX0_copyFrom kM_X7_305 (wX0_copyFrom hX (zSt_c 6 rfl (show σ 6 = (σ 6) from rfl)) (by omega) (zSt_c 4 rfl (show σ 4 = (σ 4) from rfl)) (by omega) (by omega) u22) 26 (zWs_at (by omega) ((zSt_c 6 rfl (show σ 6 = (σ 6) from rfl))).o) rfl ⟨(Nat.le_of_ble_eq_true rfl), (Nat.le_of_ble_eq_true rfl)⟩ ⟨(Nat.le_of_ble_eq_true rfl), (Nat.le_of_ble_eq_true rfl)⟩ (Nat.le_of_ble_eq_true rfl) ?_
        refine g_ws (M := mX7_improvesToEnd) (congrArg (fun z => zWs A n (z)) (zSt_p 6 rfl)) ?_
        refine h_iconst (M := mX7_improvesToEnd) dX7_improvesToEnd_32 ?_
        refine g_istore_n (M := mX7_improvesToEnd) (lv' := [(0, .ref (A 0)), (1, .int (iI a1)), (2, .int (iI 0))]) dX7_improvesToEnd_33 rfl (by decide) rfl ?_
        obtain ⟨x23, l23, h⟩ := zbi h
        have r23 : ∀ y23, .inl y23 = x23 → ∀ (Ar23 : Nat → Nat), (∀ k, ¬ (fun k => 1 ≤ k ∧ k < 91) k → Ar23 k = A k) → G X mX7_improvesToEnd (zPm X 6 1 6 (zRA A (fun k => 1 ≤ k ∧ k < 91) (fun A' => (zWs A' n (zSt X A' res.1 S))) (fun A' => zoI res.2))) 0 0 61 [] [] (zWs Ar23 n (zSt X Ar23 y23.2 S)) := by
          intro y23 ey
          intro Ar23 hAr23
          rw [← ey] at h
          have h := zsl h
          refine h_iconst (M := mX7_improvesToEnd) dX7_improvesToEnd_61 ?_
          have e := (Option.some.inj h)
          subst e
          exact g_iret (M := mX7_improvesToEnd) dX7_improvesToEnd_62 rfl (Nat.le_of_ble_eq_true rfl) (Nat.le_of_ble_eq_true rfl) ⟨_, hAr23, rfl, rfl⟩
        have q23 : ∀ r, .inr r = x23 → r = res := by
          intro r er
          rw [← er] at h
          exact Option.some.inj h
        refine zLp_J (J := fun s23 => ∀ (Al23 : Nat → Nat), (∀ k, ¬ (fun k => 1 ≤ k ∧ k < 91) k → Al23 k = A k) → G X mX7_improvesToEnd (zPm X 6 1 6 (zRA A (fun k => 1 ≤ k ∧ k < 91) (fun A' => (zWs A' n (zSt X A' res.1 S))) (fun A' => zoI res.2))) 0 0 34 [(0, .ref (Al23 0)), (1, .int (iI a1)), (2, .int (iI s23.1))] [] (zWs Al23 n (zSt X Al23 s23.2 S))) (fun s23 w23 h23 b23 e23 => ?_) _ _ l23 A (fun _ _ => rfl)
        intro Al23 hAl23
        refine g_iload_n (M := mX7_improvesToEnd) dX7_improvesToEnd_34 2 rfl rfl ?_
        refine g_iload_n (M := mX7_improvesToEnd) dX7_improvesToEnd_35 1 rfl rfl ?_
        obtain ⟨g30, h23⟩ := zgi h23
        refine h_icmp_gt (M := mX7_improvesToEnd) (tgt := 61) dX7_improvesToEnd_36 (by decide) g30 g19 (fun c29 => ?_) (fun c29 => ?_)
        · have h23 := zti c29 h23
          refine g_lv (M := mX7_improvesToEnd) [] rfl ?_
          exact r23 _ (e23 _ (Option.some.inj h23).symm) Al23 hAl23
        · have h23 := zfi (Int.not_lt.mpr c29) h23
          refine g_aload_n (M := mX7_improvesToEnd) dX7_improvesToEnd_39 0 rfl rfl ?_
          refine k_get (M := mX7_improvesToEnd) (v := .ref (Al23 45)) dX7_improvesToEnd_40 kF_X7_60.r 0 (by omega) ((zSt_c 0 rfl (show s23.2 0 = (s23.2 0) from rfl))).o rfl ?_
          refine g_aload_n (M := mX7_improvesToEnd) dX7_improvesToEnd_43 0 rfl rfl ?_
          refine k_get (M := mX7_improvesToEnd) (v := .ref (Al23 26)) dX7_improvesToEnd_44 kF_X7_40.r 0 (by omega) ((zSt_c 0 rfl (show s23.2 0 = (s23.2 0) from rfl))).o rfl ?_
          obtain ⟨t31, u32, h23⟩ := zbi h23
          refine g_callVr (M := mX7_improvesToEnd) [.ref (Al23 26)] hX dX7_improvesToEnd_47 vX1_improveOnce kM_X7_341 (wX1_improveOnce hX (zSt_c 9 rfl (show s23.2 9 = (s23.2 9) from rfl)) (by omega) (zSt_c 6 rfl (show s23.2 6 = (s23.2 6) from rfl)) (by omega) (by omega) u32) 45 (zWs_at (by omega) ((zSt_c 9 rfl (show s23.2 9 = (s23.2 9) from rfl))).o) rfl ⟨(Nat.le_of_ble_eq_true rfl), (Nat.le_of_ble_eq_true rfl)⟩ ⟨(Nat.le_of_ble_eq_true rfl), (Nat.le_of_ble_eq_true rfl)⟩ (Nat.le_of_ble_eq_true rfl) ?_
          refine g_ws (M := mX7_improvesToEnd) (congrArg (fun z => zWs Al23 n (zC X Al23 shB 26 t31.2.1 (z))) (zSt_p 9 rfl)) ?_
          refine g_ws (M := mX7_improvesToEnd) (congrArg (fun z => zWs Al23 n (z)) (zSt_p 6 rfl)) ?_
          refine h_bne (M := mX7_improvesToEnd) (tgt := 55) dX7_improvesToEnd_50 (by decide) (fun c33 => ?_) (fun c33 => ?_)
          · have h23 := zti c33 h23
            refine h_iinc (M := mX7_improvesToEnd) (j := 2) (lv' := [(0, .ref (Al23 0)), (1, .int (iI a1)), (2, .int (iI (s23.1 + 1)))]) dX7_improvesToEnd_55 rfl (Nat.le_of_ble_eq_true rfl) rfl ?_
            refine g_goto (M := mX7_improvesToEnd) (tgt := 34) dX7_improvesToEnd_58 (by decide) ?_
            exact b23 _ (Option.some.inj h23).symm Al23 hAl23
          · have h23 := zfi (zbf c33) h23
            refine g_iload_n (M := mX7_improvesToEnd) dX7_improvesToEnd_53 2 rfl rfl ?_
            have e := (q23 _ (e23 _ (Option.some.inj h23).symm))
            subst e
            exact g_iret (M := mX7_improvesToEnd) dX7_improvesToEnd_54 rfl (Nat.le_of_ble_eq_true rfl) (Nat.le_of_ble_eq_true rfl) ⟨_, hAl23, rfl, rfl⟩
      · have h := zfi (Int.not_le.mpr c20) h
        refine g_lv (M := mX7_improvesToEnd) [] rfl ?_
        exact j17 () h A (fun _ _ => rfl)
set_option maxHeartbeats 4000000 in
set_option maxRecDepth 100000 in
theorem wX7_isCountOfChanges {X : zX} (hX : zOK X) {A : Nat → Nat} {n : Nat} {S : Nat → va_E} {a1 : Int} {res : Bool} (h : fX7_isCountOfChanges a1 = some res) : Con X yX7_isCountOfChanges mX7_isCountOfChanges 0 0 0 [.int (iI a1)] (zWs A n S) (zRet (zWs A n S) (some (.int (iI (b2 res))))) := by
  refine con_of (lv := [(0, .int (iI a1))]) (by decide) rfl (fun h => by cases h) rfl (Nat.le_of_ble_eq_true rfl) rfl ?_
  unfold fX7_isCountOfChanges at h
  refine g_iload_n (M := mX7_isCountOfChanges) dX7_isCountOfChanges_0 0 rfl rfl ?_
  obtain ⟨g2, h⟩ := zgi h
  refine h_if_lt (M := mX7_isCountOfChanges) (tgt := 13) dX7_isCountOfChanges_1 (by decide) g2 (fun c1 => ?_) (fun c1 => ?_)
  · have h := zti c1 h
    refine h_iconst (M := mX7_isCountOfChanges) dX7_isCountOfChanges_13 ?_
    have e := (Option.some.inj h)
    subst e
    exact g_zret (M := mX7_isCountOfChanges) .boolean dX7_isCountOfChanges_14 rfl rfl (Nat.le_of_ble_eq_true rfl) (Nat.le_of_ble_eq_true rfl) ⟨rfl, rfl⟩
  · have h := zfi (Int.not_lt.mpr c1) h
    refine g_iload_n (M := mX7_isCountOfChanges) dX7_isCountOfChanges_4 0 rfl rfl ?_
    refine h_iconst (M := mX7_isCountOfChanges) dX7_isCountOfChanges_5 ?_
    refine h_icmp_gt (M := mX7_isCountOfChanges) (tgt := 13) dX7_isCountOfChanges_6 (by decide) g2 (by decide) (fun c3 => ?_) (fun c3 => ?_)
    · have h := zti c3 h
      refine h_iconst (M := mX7_isCountOfChanges) dX7_isCountOfChanges_13 ?_
      have e := (Option.some.inj h)
      subst e
      exact g_zret (M := mX7_isCountOfChanges) .boolean dX7_isCountOfChanges_14 rfl rfl (Nat.le_of_ble_eq_true rfl) (Nat.le_of_ble_eq_true rfl) ⟨rfl, rfl⟩
    · have h := zfi (Int.not_lt.mpr c3) h
      refine h_iconst (M := mX7_isCountOfChanges) dX7_isCountOfChanges_9 ?_
      refine g_goto (M := mX7_isCountOfChanges) (tgt := 14) dX7_isCountOfChanges_10 (by decide) ?_
      have e := (Option.some.inj h)
      subst e
      exact g_zret (M := mX7_isCountOfChanges) .boolean dX7_isCountOfChanges_14 rfl rfl (Nat.le_of_ble_eq_true rfl) (Nat.le_of_ble_eq_true rfl) ⟨rfl, rfl⟩
set_option maxHeartbeats 4000000 in
set_option maxRecDepth 100000 in
theorem wX7_kinds {X : zX} (hX : zOK X) {A : Nat → Nat} {n : Nat} {S : Nat → va_E} {σ : CS} (bn : 91 ≤ n) {res : CS × Int} (h : fX7_kinds σ = some res) : Con X yX7_kinds mX7_kinds 3 (3 + zNt (σ 10) (σ 4)) (18 + 4096 * zNt (σ 10) (σ 4)) [.ref (A 0)] (zWs A n (zSt X A σ S)) (zRA A (fun k => 1 ≤ k ∧ k < 91) (fun A' => (zWs A' n (zSt X A' res.1 S))) (fun A' => .inl (some (.int (iI res.2))))) := by
  refine con_of (lv := [(0, .ref (A 0))]) (by decide) rfl (fun h => by cases h) rfl (Nat.le_of_ble_eq_true rfl) rfl ?_
  unfold fX7_kinds at h
  refine g_aload_n (M := mX7_kinds) dX7_kinds_0 0 rfl rfl ?_
  refine k_get (M := mX7_kinds) (v := .ref (A 47)) dX7_kinds_1 kF_X7_67.r 0 (by omega) ((zSt_c 0 rfl (show σ 0 = (σ 0) from rfl))).o rfl ?_
  refine g_aload_n (M := mX7_kinds) dX7_kinds_4 0 rfl rfl ?_
  refine k_get (M := mX7_kinds) (v := .ref (A 12)) dX7_kinds_5 kF_X7_33.r 0 (by omega) ((zSt_c 0 rfl (show σ 0 = (σ 0) from rfl))).o rfl ?_
  obtain ⟨g1, h⟩ := zgi h
  obtain ⟨t2, u3, h⟩ := zbi h
  refine g_callVA (M := mX7_kinds) [.ref (A 12)] hX dX7_kinds_8 vX4_addAllPlaces kM_X7_258 (wX4_addAllPlaces hX (zSt_c 10 rfl (show σ 10 = (σ 10) from rfl)) (by omega) (zSt_c 4 rfl (show σ 4 = (σ 4) from rfl)) (by omega) (by omega) u3) (fun _ => rfl) 47 (zWs_at (by omega) ((zSt_c 10 rfl (show σ 10 = (σ 10) from rfl))).o) rfl ⟨(Nat.le_of_ble_eq_true rfl), (Nat.le_of_ble_eq_true rfl)⟩ ⟨g1.1, g1.2⟩ (Nat.le_of_ble_eq_true rfl) (fun A4 hnA4 => ?_)
  refine g_ws (M := mX7_kinds) (congrArg (zWs A4 n) (zSt_pa (A := A) 10 rfl (by decide) (by decide) (fun k hk => hnA4 k hk))) ?_
  have hAc5 : ∀ k, ¬ (fun k => 1 ≤ k ∧ k < 91) k → A4 k = A k := fun k hk => (hnA4 k (by omega)).trans (rfl)
  refine g_lvc (M := mX7_kinds) (lv' := [(0, .ref (A4 0))]) (by rw [hnA4 0 (by omega)]) ?_
  refine g_aload_n (M := mX7_kinds) dX7_kinds_11 0 rfl rfl ?_
  refine k_get (M := mX7_kinds) (v := .ref (A4 47)) dX7_kinds_12 kF_X7_67.r 0 (by omega) ((zSt_c 0 rfl (show (zSu σ 10 t2) 0 = (σ 0) from rfl))).o rfl ?_
  obtain ⟨t6, u7, h⟩ := zbi h
  refine g_callVr (M := mX7_kinds) [] hX dX7_kinds_15 vX4_marked kM_X7_239 (wX4_marked hX (zSt_c 10 rfl (show (zSu σ 10 t2) 10 = t2 from rfl)) (by omega)  u7) 47 (zWs_at (by omega) ((zSt_c 10 rfl (show (zSu σ 10 t2) 10 = t2 from rfl))).o) rfl ⟨(Nat.le_of_ble_eq_true rfl), (Nat.le_of_ble_eq_true rfl)⟩ ⟨(show 0 + (1 * zNt (σ 10) (σ 4)) + 0 ≤ 3 + zNt (σ 10) (σ 4) by omega), (show 0 + (4096 * zNt (σ 10) (σ 4)) + 0 ≤ 18 + 4096 * zNt (σ 10) (σ 4) by omega)⟩ (Nat.le_of_ble_eq_true rfl) ?_
  have e := (Option.some.inj h)
  subst e
  exact g_iret (M := mX7_kinds) dX7_kinds_18 rfl (by simpa using g1.1) (by simpa using g1.2) ⟨_, hAc5, rfl, rfl⟩
set_option maxHeartbeats 4000000 in
set_option maxRecDepth 100000 in
theorem wX7_letter {X : zX} (hX : zOK X) {A : Nat → Nat} {n : Nat} {S : Nat → va_E} {σ : CS} (bn : 91 ≤ n) {a1 : Int} {a2 : Int} {res : (Int ⊕ String)} (h : fX7_letter σ a1 a2 = some res) : Con X yX7_letter mX7_letter 7 2 12 [.ref (A 0), .int (iI a1), .int (iI a2)] (zWs A n (zSt X A σ S)) (zRx (zWs A n (zSt X A σ S)) (zoI res)) := by
  refine con_of (lv := [(0, .ref (A 0)), (1, .int (iI a1)), (2, .int (iI a2))]) (by decide) rfl (fun h => by cases h) rfl (Nat.le_of_ble_eq_true rfl) rfl ?_
  unfold fX7_letter at h
  refine g_aload_n (M := mX7_letter) dX7_letter_0 0 rfl rfl ?_
  refine g_iload_n (M := mX7_letter) dX7_letter_1 1 rfl rfl ?_
  obtain ⟨t1, u2, h⟩ := zbi h
  rcases o3 : t1 with vt1 | Et1
  · have h := zslo o3 h
    refine g_callVx (M := mX7_letter) [.int (iI a1)] hX dX7_letter_2 vX7_requireRow kM_X7_167 (wX7_requireRow hX bn  u2) (congrArg zoV o3) 0 (zWs_at (by omega) ((zSt_c 0 rfl (show σ 0 = (σ 0) from rfl))).o) rfl ⟨(Nat.le_of_ble_eq_true rfl), (Nat.le_of_ble_eq_true rfl)⟩ ⟨(Nat.le_of_ble_eq_true rfl), (Nat.le_of_ble_eq_true rfl)⟩ (Nat.le_of_ble_eq_true rfl) ?_
    refine g_iload_n (M := mX7_letter) dX7_letter_5 2 rfl rfl ?_
    refine zJn_J (J := fun x11 => G X mX7_letter (zPm X 7 2 12 (zRx (zWs A n (zSt X A σ S)) (zoI res))) 1 6 22 [] [] (zWs A n (zSt X A σ S))) h (fun x11 h => ?_) (fun j11 h => ?_)
    · have e := (Option.some.inj h)
      subst e
      exact g_throw (M := mX7_letter) hX rfl rfl tT_X7_189_191_193 dX7_letter_22 dX7_letter_25 dX7_letter_26 dX7_letter_28 dX7_letter_31 (Nat.le_of_ble_eq_true rfl) (Nat.le_of_ble_eq_true rfl) (Nat.le_of_ble_eq_true rfl) (Nat.le_of_ble_eq_true rfl) ⟨rfl, rfl⟩
    · obtain ⟨g13, h⟩ := zgi h
      refine h_if_lt (M := mX7_letter) (tgt := 22) dX7_letter_6 (by decide) g13 (fun c12 => ?_) (fun c12 => ?_)
      · have h := zti c12 h
        refine g_lv (M := mX7_letter) [] rfl ?_
        exact j11 () h
      · have h := zfi (Int.not_lt.mpr c12) h
        refine g_iload_n (M := mX7_letter) dX7_letter_9 2 rfl rfl ?_
        refine g_aload_n (M := mX7_letter) dX7_letter_10 0 rfl rfl ?_
        refine k_get (M := mX7_letter) (v := .ref (A 12)) dX7_letter_11 kF_X7_33.r 0 (by omega) ((zSt_c 0 rfl (show σ 0 = (σ 0) from rfl))).o rfl ?_
        refine k_get (M := mX7_letter) (v := .ref (A (12 + 3))) dX7_letter_14 kF_X7_170 12 (by omega) ((zSt_c 4 rfl (show σ 4 = (σ 4) from rfl))).o rfl ?_
        refine g_iload_n (M := mX7_letter) dX7_letter_17 1 rfl rfl ?_
        obtain ⟨g14, h⟩ := zgi h
        refine k_iald (M := mX7_letter) (len := 10) (f := (σ 4).2 3) dX7_letter_18 (12 + 3) (by omega) (((zSt_c 4 rfl (show σ 4 = (σ 4) from rfl))).a (d := (0, 10)) 2 rfl) (Nat.le_of_ble_eq_true rfl) g14.1 g14.2 ?_
        obtain ⟨g16, h⟩ := zgi h
        refine h_icmp_lt (M := mX7_letter) (tgt := 32) dX7_letter_19 (by decide) g13 g16 (fun c15 => ?_) (fun c15 => ?_)
        · have h := zti c15 h
          refine g_aload_n (M := mX7_letter) dX7_letter_32 0 rfl rfl ?_
          refine k_get (M := mX7_letter) (v := .ref (A 12)) dX7_letter_33 kF_X7_33.r 0 (by omega) ((zSt_c 0 rfl (show σ 0 = (σ 0) from rfl))).o rfl ?_
          refine g_iload_n (M := mX7_letter) dX7_letter_36 1 rfl rfl ?_
          refine g_iload_n (M := mX7_letter) dX7_letter_37 2 rfl rfl ?_
          obtain ⟨t17, u18, h⟩ := zbi h
          refine g_callVr (M := mX7_letter) [.int (iI a1), .int (iI a2)] hX dX7_letter_38 vX0_letterAt kM_X7_194 (wX0_letterAt hX (zSt_c 4 rfl (show σ 4 = (σ 4) from rfl)) (by omega)  u18) 12 (zWs_at (by omega) ((zSt_c 4 rfl (show σ 4 = (σ 4) from rfl))).o) rfl ⟨(Nat.le_of_ble_eq_true rfl), (Nat.le_of_ble_eq_true rfl)⟩ ⟨(Nat.le_of_ble_eq_true rfl), (Nat.le_of_ble_eq_true rfl)⟩ (Nat.le_of_ble_eq_true rfl) ?_
          have e := (Option.some.inj h)
          subst e
          exact g_iret (M := mX7_letter) dX7_letter_41 rfl (Nat.le_of_ble_eq_true rfl) (Nat.le_of_ble_eq_true rfl) ⟨rfl, rfl⟩
        · have h := zfi (Int.not_lt.mpr c15) h
          refine g_lv (M := mX7_letter) [] rfl ?_
          exact j11 () h
  · have h := zsro o3 h
    have e := (Option.some.inj h)
    subst e
    exact g_callVe (M := mX7_letter) [.int (iI a1)] hX dX7_letter_2 vX7_requireRow kM_X7_167 (wX7_requireRow hX bn  u2) (congrArg zoV o3) 0 (zWs_at (by omega) ((zSt_c 0 rfl (show σ 0 = (σ 0) from rfl))).o) rfl ⟨(Nat.le_of_ble_eq_true rfl), (Nat.le_of_ble_eq_true rfl)⟩ ⟨(Nat.le_of_ble_eq_true rfl), (Nat.le_of_ble_eq_true rfl)⟩ (Nat.le_of_ble_eq_true rfl) (gx_out rfl (Nat.le_of_ble_eq_true rfl) (Nat.le_of_ble_eq_true rfl) ⟨rfl, rfl⟩)
set_option maxHeartbeats 4000000 in
set_option maxRecDepth 100000 in
theorem wX7_meanDistance {X : zX} (hX : zOK X) {A : Nat → Nat} {n : Nat} {S : Nat → va_E} {σ : CS} (bn : 91 ≤ n) {res : CS × UInt64} (h : fX7_meanDistance σ = some res) : Con X yX7_meanDistance mX7_meanDistance 9 (2 + 3 * zNd (σ 7) (σ 4)) (12 + 13652 * zNd (σ 7) (σ 4)) [.ref (A 0)] (zWs A n (zSt X A σ S)) (zRA A (fun k => 1 ≤ k ∧ k < 91) (fun A' => (zWs A' n (zSt X A' res.1 S))) (fun A' => .inl (some (.double res.2)))) := by
  refine con_of (lv := [(0, .ref (A 0))]) (by decide) rfl (fun h => by cases h) rfl (Nat.le_of_ble_eq_true rfl) rfl ?_
  unfold fX7_meanDistance at h
  refine g_aload_n (M := mX7_meanDistance) dX7_meanDistance_0 0 rfl rfl ?_
  refine k_get (M := mX7_meanDistance) (v := .ref (A 12)) dX7_meanDistance_1 kF_X7_33.r 0 (by omega) ((zSt_c 0 rfl (show σ 0 = (σ 0) from rfl))).o rfl ?_
  refine k_get (M := mX7_meanDistance) (v := .int (iI ((σ 4).1 3))) dX7_meanDistance_4 kF_X7_108.r 12 (by omega) ((zSt_c 4 rfl (show σ 4 = (σ 4) from rfl))).o rfl ?_
  refine g_aload_n (M := mX7_meanDistance) dX7_meanDistance_7 0 rfl rfl ?_
  refine k_get (M := mX7_meanDistance) (v := .ref (A 12)) dX7_meanDistance_8 kF_X7_33.r 0 (by omega) ((zSt_c 0 rfl (show σ 0 = (σ 0) from rfl))).o rfl ?_
  refine k_get (M := mX7_meanDistance) (v := .int (iI ((σ 4).1 4))) dX7_meanDistance_11 kF_X7_147.r 12 (by omega) ((zSt_c 4 rfl (show σ 4 = (σ 4) from rfl))).o rfl ?_
  refine g_callSr (M := mX7_meanDistance) [.int (iI ((σ 4).1 4))] hX dX7_meanDistance_14 vJ6_bitCount_0f7a4 kM_X7_150 (cJ6_bitCount_0f7a4' (iI ((σ 4).1 4))) rfl ⟨(Nat.le_of_ble_eq_true rfl), (Nat.le_of_ble_eq_true rfl)⟩ ⟨(Nat.le_of_ble_eq_true rfl), (Nat.le_of_ble_eq_true rfl)⟩ (Nat.le_of_ble_eq_true rfl) ?_
  refine h_topx (M := mX7_meanDistance) (b := zPop ((σ 4).1 4)) (zPop_e _) ?_
  refine h_isub (M := mX7_meanDistance) dX7_meanDistance_17 ?_
  refine g_istore_n (M := mX7_meanDistance) (lv' := [(0, .ref (A 0)), (1, .int (iI (((σ 4).1 3) - (zPop ((σ 4).1 4)))))]) dX7_meanDistance_18 rfl (by decide) rfl ?_
  refine g_iload_n (M := mX7_meanDistance) dX7_meanDistance_19 1 rfl rfl ?_
  obtain ⟨g2, h⟩ := zgi h
  refine h_if_le (M := mX7_meanDistance) (tgt := 37) dX7_meanDistance_20 (by decide) g2 (fun c1 => ?_) (fun c1 => ?_)
  · have h := zti c1 h
    refine g_dconst0 (M := mX7_meanDistance) dX7_meanDistance_37 ?_
    have e := (Option.some.inj h)
    subst e
    exact g_dret (M := mX7_meanDistance) dX7_meanDistance_38 rfl (Nat.zero_le _) (Nat.zero_le _) ⟨_, (fun _ _ => rfl), rfl, rfl⟩
  · have h := zfi (Int.not_le.mpr c1) h
    refine g_aload_n (M := mX7_meanDistance) dX7_meanDistance_23 0 rfl rfl ?_
    obtain ⟨g3, h⟩ := zgi h
    obtain ⟨t4, u5, h⟩ := zbi h
    refine g_callVA (M := mX7_meanDistance) [] hX dX7_meanDistance_24 vX7_searched kM_X7_267 (wX7_searched hX bn  u5) (fun _ => rfl) 0 (zWs_at (by omega) ((zSt_c 0 rfl (show σ 0 = (σ 0) from rfl))).o) rfl ⟨(Nat.le_of_ble_eq_true rfl), (Nat.le_of_ble_eq_true rfl)⟩ ⟨g3.1, g3.2⟩ (Nat.le_of_ble_eq_true rfl) (fun A6 hnA6 => ?_)
    have hAc7 : ∀ k, ¬ (fun k => 1 ≤ k ∧ k < 91) k → A6 k = A k := fun k hk => (hnA6 k (by omega)).trans (rfl)
    refine g_lvc (M := mX7_meanDistance) (lv' := [(0, .ref (A6 0)), (1, .int (iI (((σ 4).1 3) - (zPop ((σ 4).1 4)))))]) (by rw [hnA6 0 (by omega)]) ?_
    refine k_get (M := mX7_meanDistance) (v := .int (iI ((t4 7).1 10))) dX7_meanDistance_27 kF_X7_274.r 33 (by omega) ((zSt_c 7 rfl (show t4 7 = (t4 7) from rfl))).o rfl ?_
    refine g_i2d (M := mX7_meanDistance) dX7_meanDistance_30 ?_
    refine g_iload_n (M := mX7_meanDistance) dX7_meanDistance_31 1 rfl rfl ?_
    refine g_i2d (M := mX7_meanDistance) dX7_meanDistance_32 ?_
    obtain ⟨g8, h⟩ := zgci h
    refine g_ddiv (M := mX7_meanDistance) dX7_meanDistance_33 g8 ?_
    refine g_goto (M := mX7_meanDistance) (tgt := 38) dX7_meanDistance_34 (by decide) ?_
    have e := (Option.some.inj h)
    subst e
    exact g_dret (M := mX7_meanDistance) dX7_meanDistance_38 rfl (by simpa using g3.1) (by simpa using g3.2) ⟨_, hAc7, rfl, rfl⟩
set_option maxHeartbeats 4000000 in
set_option maxRecDepth 100000 in
theorem wX7_mostHad {X : zX} (hX : zOK X) {A : Nat → Nat} {n : Nat} {S : Nat → va_E} {σ : CS} (bn : 91 ≤ n) {a1 : Int} {res : CS × (Int ⊕ String)} (h : fX7_mostHad σ a1 = some res) : Con X yX7_mostHad mX7_mostHad 9 (2 + 3 * zNd (σ 7) (σ 4)) (12 + 13652 * zNd (σ 7) (σ 4)) [.ref (A 0), .int (iI a1)] (zWs A n (zSt X A σ S)) (zRA A (fun k => 1 ≤ k ∧ k < 91) (fun A' => (zWs A' n (zSt X A' res.1 S))) (fun A' => zoI res.2)) := by
  refine con_of (lv := [(0, .ref (A 0)), (1, .int (iI a1))]) (by decide) rfl (fun h => by cases h) rfl (Nat.le_of_ble_eq_true rfl) rfl ?_
  unfold fX7_mostHad at h
  refine g_iload_n (M := mX7_mostHad) dX7_mostHad_0 1 rfl rfl ?_
  refine zJn_J (J := fun x16 => ∀ (Aj16 : Nat → Nat), (∀ k, ¬ (fun k => 1 ≤ k ∧ k < 91) k → Aj16 k = A k) → G X mX7_mostHad (zPm X 9 (2 + 3 * zNd (σ 7) (σ 4)) (12 + 13652 * zNd (σ 7) (σ 4)) (zRA A (fun k => 1 ≤ k ∧ k < 91) (fun A' => (zWs A' n (zSt X A' res.1 S))) (fun A' => zoI res.2))) 0 0 9 [] [] (zWs Aj16 n (zSt X Aj16 σ S))) h (fun x16 h => ?_) (fun j16 h => ?_)
  · intro Aj16 hAj16
    have e := (Option.some.inj h)
    subst e
    exact g_throwW (M := mX7_mostHad) hX rfl rfl tT_X7_90_287_94 dX7_mostHad_9 dX7_mostHad_12 dX7_mostHad_13 dX7_mostHad_16 dX7_mostHad_19 (Nat.le_of_ble_eq_true rfl) (Nat.le_of_ble_eq_true rfl) (show 0 + 1 ≤ 2 + 3 * zNd (σ 7) (σ 4) by omega) (show 0 + 6 ≤ 12 + 13652 * zNd (σ 7) (σ 4) by omega) ⟨_, hAj16, rfl, rfl⟩
  · obtain ⟨g18, h⟩ := zgi h
    refine h_if_lt (M := mX7_mostHad) (tgt := 9) dX7_mostHad_1 (by decide) g18 (fun c17 => ?_) (fun c17 => ?_)
    · have h := zti c17 h
      refine g_lv (M := mX7_mostHad) [] rfl ?_
      exact j16 () h A (fun _ _ => rfl)
    · have h := zfi (Int.not_lt.mpr c17) h
      refine g_iload_n (M := mX7_mostHad) dX7_mostHad_4 1 rfl rfl ?_
      refine h_iconst (M := mX7_mostHad) dX7_mostHad_5 ?_
      refine h_icmp_le (M := mX7_mostHad) (tgt := 20) dX7_mostHad_6 (by decide) g18 (by decide) (fun c19 => ?_) (fun c19 => ?_)
      · have h := zti c19 h
        refine g_aload_n (M := mX7_mostHad) dX7_mostHad_20 0 rfl rfl ?_
        obtain ⟨g20, h⟩ := zgi h
        obtain ⟨t21, u22, h⟩ := zbi h
        refine g_callVA (M := mX7_mostHad) [] hX dX7_mostHad_21 vX7_searched kM_X7_267 (wX7_searched hX bn  u22) (fun _ => rfl) 0 (zWs_at (by omega) ((zSt_c 0 rfl (show σ 0 = (σ 0) from rfl))).o) rfl ⟨(Nat.le_of_ble_eq_true rfl), (Nat.le_of_ble_eq_true rfl)⟩ ⟨g20.1, g20.2⟩ (Nat.le_of_ble_eq_true rfl) (fun A23 hnA23 => ?_)
        have hAc24 : ∀ k, ¬ (fun k => 1 ≤ k ∧ k < 91) k → A23 k = A k := fun k hk => (hnA23 k (by omega)).trans (rfl)
        refine g_lvc (M := mX7_mostHad) (lv' := [(0, .ref (A23 0)), (1, .int (iI a1))]) (by rw [hnA23 0 (by omega)]) ?_
        obtain ⟨t25, u26, h⟩ := zbi h
        refine g_callVr (M := mX7_mostHad) [] hX dX7_mostHad_24 vX3_mostHadWord kM_X7_289 (wX3_mostHadWord hX (zSt_c 7 rfl (show t21 7 = (t21 7) from rfl)) (by omega)  u26) 33 (zWs_at (by omega) ((zSt_c 7 rfl (show t21 7 = (t21 7) from rfl))).o) rfl ⟨(Nat.le_of_ble_eq_true rfl), (Nat.le_of_ble_eq_true rfl)⟩ ⟨(show 0 + (3 * zNd (σ 7) (σ 4)) + 0 ≤ 2 + 3 * zNd (σ 7) (σ 4) by omega), (show 0 + (13652 * zNd (σ 7) (σ 4)) + 0 ≤ 12 + 13652 * zNd (σ 7) (σ 4) by omega)⟩ (Nat.le_of_ble_eq_true rfl) ?_
        refine g_istore_n (M := mX7_mostHad) (lv' := [(0, .ref (A23 0)), (1, .int (iI a1)), (2, .int (iI t25))]) dX7_mostHad_27 rfl (by decide) rfl ?_
        refine g_iload_n (M := mX7_mostHad) dX7_mostHad_28 1 rfl rfl ?_
        refine h_if_ne (M := mX7_mostHad) (tgt := 36) dX7_mostHad_29 (by decide) g18 (fun c27 => ?_) (fun c27 => ?_)
        · have h := zfi c27 h
          refine g_aload_n (M := mX7_mostHad) dX7_mostHad_36 0 rfl rfl ?_
          refine k_get (M := mX7_mostHad) (v := .ref (A23 12)) dX7_mostHad_37 kF_X7_33.r 0 (by omega) ((zSt_c 0 rfl (show t21 0 = (t21 0) from rfl))).o rfl ?_
          refine g_aload_n (M := mX7_mostHad) dX7_mostHad_40 0 rfl rfl ?_
          refine k_get (M := mX7_mostHad) (v := .ref (A23 12)) dX7_mostHad_41 kF_X7_33.r 0 (by omega) ((zSt_c 0 rfl (show t21 0 = (t21 0) from rfl))).o rfl ?_
          refine g_iload_n (M := mX7_mostHad) dX7_mostHad_44 2 rfl rfl ?_
          obtain ⟨t28, u29, h⟩ := zbi h
          refine g_callVr (M := mX7_mostHad) [.int (iI t25)] hX dX7_mostHad_45 vX0_codeOf kM_X7_211 (wX0_codeOf hX (zSt_c 4 rfl (show t21 4 = (t21 4) from rfl)) (by omega)  u29) 12 (zWs_at (by omega) ((zSt_c 4 rfl (show t21 4 = (t21 4) from rfl))).o) rfl ⟨(Nat.le_of_ble_eq_true rfl), (Nat.le_of_ble_eq_true rfl)⟩ ⟨(show 0 + (3 * zNd (σ 7) (σ 4)) + 0 ≤ 2 + 3 * zNd (σ 7) (σ 4) by omega), (show 0 + (13652 * zNd (σ 7) (σ 4)) + 0 ≤ 12 + 13652 * zNd (σ 7) (σ 4) by omega)⟩ (Nat.le_of_ble_eq_true rfl) ?_
          obtain ⟨t30, u31, h⟩ := zbi h
          refine g_callVr (M := mX7_mostHad) [.int (iI t28)] hX dX7_mostHad_48 vX0_rowsHaving kM_X7_224 (wX0_rowsHaving hX (zSt_c 4 rfl (show t21 4 = (t21 4) from rfl)) (by omega)  u31) 12 (zWs_at (by omega) ((zSt_c 4 rfl (show t21 4 = (t21 4) from rfl))).o) rfl ⟨(Nat.le_of_ble_eq_true rfl), (Nat.le_of_ble_eq_true rfl)⟩ ⟨(show 0 + (3 * zNd (σ 7) (σ 4)) + 0 ≤ 2 + 3 * zNd (σ 7) (σ 4) by omega), (show 0 + (13652 * zNd (σ 7) (σ 4)) + 0 ≤ 12 + 13652 * zNd (σ 7) (σ 4) by omega)⟩ (Nat.le_of_ble_eq_true rfl) ?_
          refine g_callSr (M := mX7_mostHad) [.int (iI t30)] hX dX7_mostHad_51 vJ6_bitCount_0f7a4 kM_X7_150 (cJ6_bitCount_0f7a4' (iI t30)) rfl ⟨(Nat.le_of_ble_eq_true rfl), (Nat.le_of_ble_eq_true rfl)⟩ ⟨(show 0 + (3 * zNd (σ 7) (σ 4)) + 0 ≤ 2 + 3 * zNd (σ 7) (σ 4) by omega), (show 0 + (13652 * zNd (σ 7) (σ 4)) + 0 ≤ 12 + 13652 * zNd (σ 7) (σ 4) by omega)⟩ (Nat.le_of_ble_eq_true rfl) ?_
          refine h_topx (M := mX7_mostHad) (b := zPop t30) (zPop_e _) ?_
          have e := (Option.some.inj h)
          subst e
          exact g_iret (M := mX7_mostHad) dX7_mostHad_54 rfl (by simpa using g20.1) (by simpa using g20.2) ⟨_, hAc24, rfl, rfl⟩
        · have h := zti c27 h
          refine g_iload_n (M := mX7_mostHad) dX7_mostHad_32 2 rfl rfl ?_
          refine g_goto (M := mX7_mostHad) (tgt := 54) dX7_mostHad_33 (by decide) ?_
          have e := (Option.some.inj h)
          subst e
          exact g_iret (M := mX7_mostHad) dX7_mostHad_54 rfl (by simpa using g20.1) (by simpa using g20.2) ⟨_, hAc24, rfl, rfl⟩
      · have h := zfi (Int.not_le.mpr c19) h
        refine g_lv (M := mX7_mostHad) [] rfl ?_
        exact j16 () h A (fun _ _ => rfl)
set_option maxHeartbeats 4000000 in
set_option maxRecDepth 100000 in
theorem wX7_outlier {X : zX} (hX : zOK X) {A : Nat → Nat} {n : Nat} {S : Nat → va_E} {σ : CS} (bn : 91 ≤ n) {res : CS × Int} (h : fX7_outlier σ = some res) : Con X yX7_outlier mX7_outlier 9 (3 * zNd (σ 7) (σ 4)) (13652 * zNd (σ 7) (σ 4)) [.ref (A 0)] (zWs A n (zSt X A σ S)) (zRA A (fun k => 1 ≤ k ∧ k < 91) (fun A' => (zWs A' n (zSt X A' res.1 S))) (fun A' => .inl (some (.int (iI res.2))))) := by
  refine con_of (lv := [(0, .ref (A 0))]) (by decide) rfl (fun h => by cases h) rfl (Nat.le_of_ble_eq_true rfl) rfl ?_
  unfold fX7_outlier at h
  refine h_iconst (M := mX7_outlier) dX7_outlier_0 ?_
  refine g_istore_n (M := mX7_outlier) (lv' := [(0, .ref (A 0)), (1, .int (iI (-1)))]) dX7_outlier_1 rfl (by decide) rfl ?_
  refine h_iconst (M := mX7_outlier) dX7_outlier_2 ?_
  refine g_istore_n (M := mX7_outlier) (lv' := [(0, .ref (A 0)), (1, .int (iI (-1))), (2, .int (iI 0))]) dX7_outlier_3 rfl (by decide) rfl ?_
  refine h_iconst (M := mX7_outlier) dX7_outlier_4 ?_
  refine g_istore_n (M := mX7_outlier) (lv' := [(0, .ref (A 0)), (1, .int (iI (-1))), (2, .int (iI 0)), (3, .int (iI 0))]) dX7_outlier_5 rfl (by decide) rfl ?_
  refine g_wide (M := mX7_outlier) (k2 := (3 * zNd (σ 7) (σ 4) - 3 * zNd (σ 7) (σ 4))) (n2 := (13652 * zNd (σ 7) (σ 4) - 13652 * zNd (σ 7) (σ 4))) (Nat.zero_le _) (Nat.zero_le _) ?_
  obtain ⟨x1, l1, h⟩ := zbi h
  have r1 : ∀ y1, y1 = x1 → ∀ (Ar1 : Nat → Nat), (∀ k, ¬ (fun k => 1 ≤ k ∧ k < 91) k → Ar1 k = A k) → G X mX7_outlier (zPm X 9 (3 * zNd (σ 7) (σ 4)) (13652 * zNd (σ 7) (σ 4)) (zRA A (fun k => 1 ≤ k ∧ k < 91) (fun A' => (zWs A' n (zSt X A' res.1 S))) (fun A' => .inl (some (.int (iI res.2)))))) (3 * zNd (σ 7) (σ 4) - 3 * zNd (y1.2.2.2 7) (y1.2.2.2 4)) (13652 * zNd (σ 7) (σ 4) - 13652 * zNd (y1.2.2.2 7) (y1.2.2.2 4)) 64 [(1, .int (iI y1.1))] [] (zWs Ar1 n (zSt X Ar1 y1.2.2.2 S)) := by
    intro y1 ey
    intro Ar1 hAr1
    rw [← ey] at h
    refine g_iload_n (M := mX7_outlier) dX7_outlier_64 0 rfl rfl ?_
    obtain ⟨g19, h⟩ := zgi h
    have e := (Option.some.inj h)
    subst e
    exact g_iret (M := mX7_outlier) dX7_outlier_65 rfl (by simpa using g19.1) (by simpa using g19.2) ⟨_, hAr1, rfl, rfl⟩
  refine zLp_J (J := fun s1 => ∀ (Al1 : Nat → Nat), (∀ k, ¬ (fun k => 1 ≤ k ∧ k < 91) k → Al1 k = A k) → G X mX7_outlier (zPm X 9 (3 * zNd (σ 7) (σ 4)) (13652 * zNd (σ 7) (σ 4)) (zRA A (fun k => 1 ≤ k ∧ k < 91) (fun A' => (zWs A' n (zSt X A' res.1 S))) (fun A' => .inl (some (.int (iI res.2)))))) (3 * zNd (σ 7) (σ 4) - 3 * zNd (s1.2.2.2 7) (s1.2.2.2 4)) (13652 * zNd (σ 7) (σ 4) - 13652 * zNd (s1.2.2.2 7) (s1.2.2.2 4)) 6 [(0, .ref (Al1 0)), (1, .int (iI s1.1)), (2, .int (iI s1.2.1)), (3, .int (iI s1.2.2.1))] [] (zWs Al1 n (zSt X Al1 s1.2.2.2 S))) (fun s1 w1 h1 b1 e1 => ?_) _ _ l1 A (fun _ _ => rfl)
  intro Al1 hAl1
  refine g_iload_n (M := mX7_outlier) dX7_outlier_6 3 rfl rfl ?_
  refine g_aload_n (M := mX7_outlier) dX7_outlier_7 0 rfl rfl ?_
  refine k_get (M := mX7_outlier) (v := .ref (Al1 12)) dX7_outlier_8 kF_X7_33.r 0 (by omega) ((zSt_c 0 rfl (show s1.2.2.2 0 = (s1.2.2.2 0) from rfl))).o rfl ?_
  refine k_get (M := mX7_outlier) (v := .int (iI ((s1.2.2.2 4).1 3))) dX7_outlier_11 kF_X7_108.r 12 (by omega) ((zSt_c 4 rfl (show s1.2.2.2 4 = (s1.2.2.2 4) from rfl))).o rfl ?_
  obtain ⟨g21, h1⟩ := zgi h1
  refine h_icmp_ge (M := mX7_outlier) (tgt := 64) dX7_outlier_14 (by decide) g21.1 g21.2 (fun c20 => ?_) (fun c20 => ?_)
  · have h1 := zti c20 h1
    refine g_lv (M := mX7_outlier) [1] rfl ?_
    exact r1 _ (e1 _ (Option.some.inj h1).symm) Al1 hAl1
  · have h1 := zfi (Int.not_le.mpr c20) h1
    refine g_aload_n (M := mX7_outlier) dX7_outlier_17 0 rfl rfl ?_
    refine k_get (M := mX7_outlier) (v := .ref (Al1 12)) dX7_outlier_18 kF_X7_33.r 0 (by omega) ((zSt_c 0 rfl (show s1.2.2.2 0 = (s1.2.2.2 0) from rfl))).o rfl ?_
    refine g_iload_n (M := mX7_outlier) dX7_outlier_21 3 rfl rfl ?_
    obtain ⟨t22, u23, h1⟩ := zbi h1
    refine g_callVr (M := mX7_outlier) [.int (iI s1.2.2.1)] hX dX7_outlier_22 vX0_isOut kM_X7_180 (wX0_isOut hX (zSt_c 4 rfl (show s1.2.2.2 4 = (s1.2.2.2 4) from rfl)) (by omega)  u23) 12 (zWs_at (by omega) ((zSt_c 4 rfl (show s1.2.2.2 4 = (s1.2.2.2 4) from rfl))).o) rfl ⟨(Nat.le_of_ble_eq_true rfl), (Nat.le_of_ble_eq_true rfl)⟩ ⟨(show (3 * zNd (σ 7) (σ 4) - 3 * zNd (s1.2.2.2 7) (s1.2.2.2 4)) + 0 ≤ 3 * zNd (σ 7) (σ 4) by omega), (show (13652 * zNd (σ 7) (σ 4) - 13652 * zNd (s1.2.2.2 7) (s1.2.2.2 4)) + 0 ≤ 13652 * zNd (σ 7) (σ 4) by omega)⟩ (Nat.le_of_ble_eq_true rfl) ?_
    refine h_bne (M := mX7_outlier) (tgt := 58) dX7_outlier_25 (by decide) (fun c24 => ?_) (fun c24 => ?_)
    · have h1 := zti c24 h1
      refine h_iinc (M := mX7_outlier) (j := 3) (lv' := [(0, .ref (Al1 0)), (1, .int (iI s1.1)), (2, .int (iI s1.2.1)), (3, .int (iI (s1.2.2.1 + 1)))]) dX7_outlier_58 rfl (Nat.le_of_ble_eq_true rfl) rfl ?_
      refine g_goto (M := mX7_outlier) (tgt := 6) dX7_outlier_61 (by decide) ?_
      exact b1 _ (Option.some.inj h1).symm Al1 hAl1
    · have h1 := zfi (zbf c24) h1
      refine g_aload_n (M := mX7_outlier) dX7_outlier_28 0 rfl rfl ?_
      obtain ⟨g25, h1⟩ := zgi h1
      obtain ⟨t26, u27, h1⟩ := zbi h1
      refine g_callVA (M := mX7_outlier) [] hX dX7_outlier_29 vX7_searched kM_X7_267 (wX7_searched hX bn  u27) (fun _ => rfl) 0 (zWs_at (by omega) ((zSt_c 0 rfl (show s1.2.2.2 0 = (s1.2.2.2 0) from rfl))).o) rfl ⟨(Nat.le_of_ble_eq_true rfl), (Nat.le_of_ble_eq_true rfl)⟩ ⟨g25.1, g25.2⟩ (Nat.le_of_ble_eq_true rfl) (fun A28 hnA28 => ?_)
      have hAc29 : ∀ k, ¬ (fun k => 1 ≤ k ∧ k < 91) k → A28 k = A k := fun k hk => (hnA28 k (by omega)).trans (hAl1 k hk)
      refine g_lvc (M := mX7_outlier) (lv' := [(0, .ref (A28 0)), (1, .int (iI s1.1)), (2, .int (iI s1.2.1)), (3, .int (iI s1.2.2.1))]) (by rw [hnA28 0 (by omega)]) ?_
      obtain ⟨g30, h1⟩ := zgi h1
      refine g_wide (M := mX7_outlier) (k2 := (3 * zNd (σ 7) (σ 4) - 3 * zNd (t26 7) (t26 4))) (n2 := (13652 * zNd (σ 7) (σ 4) - 13652 * zNd (t26 7) (t26 4))) g30.1 g30.2 ?_
      refine g_aload_n (M := mX7_outlier) dX7_outlier_32 0 rfl rfl ?_
      refine k_get (M := mX7_outlier) (v := .ref (A28 12)) dX7_outlier_33 kF_X7_33.r 0 (by omega) ((zSt_c 0 rfl (show t26 0 = (t26 0) from rfl))).o rfl ?_
      refine g_iload_n (M := mX7_outlier) dX7_outlier_36 3 rfl rfl ?_
      obtain ⟨t31, u32, h1⟩ := zbi h1
      refine g_callVr (M := mX7_outlier) [.ref (A28 12), .int (iI s1.2.2.1)] hX dX7_outlier_37 vX3_bestScoreWithout kM_X7_292 (wX3_bestScoreWithout hX (zSt_c 7 rfl (show t26 7 = (t26 7) from rfl)) (by omega) (zSt_c 4 rfl (show t26 4 = (t26 4) from rfl)) (by omega) (by omega) u32) 33 (zWs_at (by omega) ((zSt_c 7 rfl (show t26 7 = (t26 7) from rfl))).o) rfl ⟨(Nat.le_of_ble_eq_true rfl), (Nat.le_of_ble_eq_true rfl)⟩ ⟨(show (3 * zNd (σ 7) (σ 4) - 3 * zNd (t26 7) (t26 4)) + 0 ≤ 3 * zNd (σ 7) (σ 4) by omega), (show (13652 * zNd (σ 7) (σ 4) - 13652 * zNd (t26 7) (t26 4)) + 0 ≤ 13652 * zNd (σ 7) (σ 4) by omega)⟩ (Nat.le_of_ble_eq_true rfl) ?_
      refine g_ws (M := mX7_outlier) (congrArg (fun z => zWs A28 n (z)) (zSt_p 7 rfl)) ?_
      refine g_istore (M := mX7_outlier) (lv' := [(0, .ref (A28 0)), (1, .int (iI s1.1)), (2, .int (iI s1.2.1)), (3, .int (iI s1.2.2.1)), (4, .int (iI t31.2))]) dX7_outlier_40 (by decide) rfl ?_
      refine g_iload_n (M := mX7_outlier) dX7_outlier_42 1 rfl rfl ?_
      refine h_iconst (M := mX7_outlier) dX7_outlier_43 ?_
      obtain ⟨g34, h1⟩ := zgi h1
      refine h_icmp_eq (M := mX7_outlier) (tgt := 53) dX7_outlier_44 (by decide) g34 (by decide) (fun c33 => ?_) (fun c33 => ?_)
      · have h1 := zti c33 h1
        refine g_iload_n (M := mX7_outlier) dX7_outlier_53 3 rfl rfl ?_
        refine g_istore_n (M := mX7_outlier) (lv' := [(0, .ref (A28 0)), (1, .int (iI s1.2.2.1)), (2, .int (iI s1.2.1)), (3, .int (iI s1.2.2.1)), (4, .int (iI t31.2))]) dX7_outlier_54 rfl (by decide) rfl ?_
        refine g_iload (M := mX7_outlier) dX7_outlier_55 4 rfl ?_
        refine g_istore_n (M := mX7_outlier) (lv' := [(0, .ref (A28 0)), (1, .int (iI s1.2.2.1)), (2, .int (iI t31.2)), (3, .int (iI s1.2.2.1)), (4, .int (iI t31.2))]) dX7_outlier_57 rfl (by decide) rfl ?_
        refine h_iinc (M := mX7_outlier) (j := 3) (lv' := [(0, .ref (A28 0)), (1, .int (iI s1.2.2.1)), (2, .int (iI t31.2)), (3, .int (iI (s1.2.2.1 + 1))), (4, .int (iI t31.2))]) dX7_outlier_58 rfl (Nat.le_of_ble_eq_true rfl) rfl ?_
        refine g_goto (M := mX7_outlier) (tgt := 6) dX7_outlier_61 (by decide) ?_
        refine g_lv (M := mX7_outlier) [0, 1, 2, 3] rfl ?_
        obtain ⟨g35, h1⟩ := zgi h1
        refine g_wide (M := mX7_outlier) (k2 := (3 * zNd (σ 7) (σ 4) - 3 * zNd ((zSu t26 7 t31.1) 7) ((zSu t26 7 t31.1) 4))) (n2 := (13652 * zNd (σ 7) (σ 4) - 13652 * zNd ((zSu t26 7 t31.1) 7) ((zSu t26 7 t31.1) 4))) g35.1 g35.2 ?_
        exact b1 _ (Option.some.inj h1).symm A28 hAc29
      · have h1 := zfi c33 h1
        refine g_iload (M := mX7_outlier) dX7_outlier_47 4 rfl ?_
        refine g_iload_n (M := mX7_outlier) dX7_outlier_49 2 rfl rfl ?_
        obtain ⟨g37, h1⟩ := zgi h1
        refine h_icmp_ge (M := mX7_outlier) (tgt := 58) dX7_outlier_50 (by decide) g37.1 g37.2 (fun c36 => ?_) (fun c36 => ?_)
        · have h1 := zti c36 h1
          refine h_iinc (M := mX7_outlier) (j := 3) (lv' := [(0, .ref (A28 0)), (1, .int (iI s1.1)), (2, .int (iI s1.2.1)), (3, .int (iI (s1.2.2.1 + 1))), (4, .int (iI t31.2))]) dX7_outlier_58 rfl (Nat.le_of_ble_eq_true rfl) rfl ?_
          refine g_goto (M := mX7_outlier) (tgt := 6) dX7_outlier_61 (by decide) ?_
          refine g_lv (M := mX7_outlier) [0, 1, 2, 3] rfl ?_
          obtain ⟨g38, h1⟩ := zgi h1
          refine g_wide (M := mX7_outlier) (k2 := (3 * zNd (σ 7) (σ 4) - 3 * zNd ((zSu t26 7 t31.1) 7) ((zSu t26 7 t31.1) 4))) (n2 := (13652 * zNd (σ 7) (σ 4) - 13652 * zNd ((zSu t26 7 t31.1) 7) ((zSu t26 7 t31.1) 4))) g38.1 g38.2 ?_
          exact b1 _ (Option.some.inj h1).symm A28 hAc29
        · have h1 := zfi (Int.not_le.mpr c36) h1
          refine g_iload_n (M := mX7_outlier) dX7_outlier_53 3 rfl rfl ?_
          refine g_istore_n (M := mX7_outlier) (lv' := [(0, .ref (A28 0)), (1, .int (iI s1.2.2.1)), (2, .int (iI s1.2.1)), (3, .int (iI s1.2.2.1)), (4, .int (iI t31.2))]) dX7_outlier_54 rfl (by decide) rfl ?_
          refine g_iload (M := mX7_outlier) dX7_outlier_55 4 rfl ?_
          refine g_istore_n (M := mX7_outlier) (lv' := [(0, .ref (A28 0)), (1, .int (iI s1.2.2.1)), (2, .int (iI t31.2)), (3, .int (iI s1.2.2.1)), (4, .int (iI t31.2))]) dX7_outlier_57 rfl (by decide) rfl ?_
          refine h_iinc (M := mX7_outlier) (j := 3) (lv' := [(0, .ref (A28 0)), (1, .int (iI s1.2.2.1)), (2, .int (iI t31.2)), (3, .int (iI (s1.2.2.1 + 1))), (4, .int (iI t31.2))]) dX7_outlier_58 rfl (Nat.le_of_ble_eq_true rfl) rfl ?_
          refine g_goto (M := mX7_outlier) (tgt := 6) dX7_outlier_61 (by decide) ?_
          refine g_lv (M := mX7_outlier) [0, 1, 2, 3] rfl ?_
          obtain ⟨g39, h1⟩ := zgi h1
          refine g_wide (M := mX7_outlier) (k2 := (3 * zNd (σ 7) (σ 4) - 3 * zNd ((zSu t26 7 t31.1) 7) ((zSu t26 7 t31.1) 4))) (n2 := (13652 * zNd (σ 7) (σ 4) - 13652 * zNd ((zSu t26 7 t31.1) 7) ((zSu t26 7 t31.1) 4))) g39.1 g39.2 ?_
          exact b1 _ (Option.some.inj h1).symm A28 hAc29
set_option maxHeartbeats 4000000 in
set_option maxRecDepth 100000 in
theorem wX7_putChanges {X : zX} (hX : zOK X) {A : Nat → Nat} {n : Nat} {S : Nat → va_E} {σ : CS} (bn : 91 ≤ n) {a1 : Int} {res : CS} (h : fX7_putChanges σ a1 = some res) : Con X yX7_putChanges mX7_putChanges 2 0 0 [.ref (A 0), .int (iI a1)] (zWs A n (zSt X A σ S)) (zRA A (fun k => 1 ≤ k ∧ k < 91) (fun A' => (zWs A' n (zSt X A' res S))) (fun A' => .inl none)) := by
  refine con_of (lv := [(0, .ref (A 0)), (1, .int (iI a1))]) (by decide) rfl (fun h => by cases h) rfl (Nat.le_of_ble_eq_true rfl) rfl ?_
  unfold fX7_putChanges at h
  refine g_aload_n (M := mX7_putChanges) dX7_putChanges_0 0 rfl rfl ?_
  obtain ⟨t1, u2, h⟩ := zbi h
  refine g_callVA (M := mX7_putChanges) [] hX dX7_putChanges_1 vX7_forgetSearches kM_X7_365 (wX7_forgetSearches hX bn  u2) (fun _ => rfl) 0 (zWs_at (by omega) ((zSt_c 0 rfl (show σ 0 = (σ 0) from rfl))).o) rfl ⟨(Nat.le_of_ble_eq_true rfl), (Nat.le_of_ble_eq_true rfl)⟩ ⟨(Nat.le_of_ble_eq_true rfl), (Nat.le_of_ble_eq_true rfl)⟩ (Nat.le_of_ble_eq_true rfl) (fun A3 hnA3 => ?_)
  have hAc4 : ∀ k, ¬ (fun k => 1 ≤ k ∧ k < 91) k → A3 k = A k := fun k hk => (hnA3 k (by omega)).trans (rfl)
  refine g_lvc (M := mX7_putChanges) (lv' := [(0, .ref (A3 0)), (1, .int (iI a1))]) (by rw [hnA3 0 (by omega)]) ?_
  refine g_aload_n (M := mX7_putChanges) dX7_putChanges_4 0 rfl rfl ?_
  refine k_get (M := mX7_putChanges) (v := .ref (A3 12)) dX7_putChanges_5 kF_X7_33.r 0 (by omega) ((zSt_c 0 rfl (show t1 0 = (t1 0) from rfl))).o rfl ?_
  refine g_iload_n (M := mX7_putChanges) dX7_putChanges_8 1 rfl rfl ?_
  refine g_ws (M := mX7_putChanges) (congrArg (zWs A3 n) (zSt_c 4 rfl (show t1 4 = (t1 4) from rfl)).symm) ?_
  refine c_put (M := mX7_putChanges) (k := 2) dX7_putChanges_9 kF_X7_137 (by omega) rfl rfl (by decide) rfl rfl ?_
  refine g_ws (M := mX7_putChanges) (congrArg (zWs A3 n) (zSt_p 4 rfl)) ?_
  have e := (Option.some.inj h)
  subst e
  exact g_vret (M := mX7_putChanges) dX7_putChanges_12 rfl (Nat.le_of_ble_eq_true rfl) (Nat.le_of_ble_eq_true rfl) ⟨_, hAc4, rfl, rfl⟩
set_option maxHeartbeats 4000000 in
set_option maxRecDepth 100000 in
theorem wX7_putOut {X : zX} (hX : zOK X) {A : Nat → Nat} {n : Nat} {S : Nat → va_E} {σ : CS} (bn : 91 ≤ n) {a1 : Int} {a2 : Int} {res : CS} (h : fX7_putOut σ a1 a2 = some res) : Con X yX7_putOut mX7_putOut 2 0 0 [.ref (A 0), .int (iI a1), .int (iI a2)] (zWs A n (zSt X A σ S)) (zRA A (fun k => 1 ≤ k ∧ k < 91) (fun A' => (zWs A' n (zSt X A' res S))) (fun A' => .inl none)) := by
  refine con_of (lv := [(0, .ref (A 0)), (1, .int (iI a1)), (2, .int (iI a2))]) (by decide) rfl (fun h => by cases h) rfl (Nat.le_of_ble_eq_true rfl) rfl ?_
  unfold fX7_putOut at h
  refine g_aload_n (M := mX7_putOut) dX7_putOut_0 0 rfl rfl ?_
  obtain ⟨t1, u2, h⟩ := zbi h
  refine g_callVA (M := mX7_putOut) [] hX dX7_putOut_1 vX7_forgetSearches kM_X7_365 (wX7_forgetSearches hX bn  u2) (fun _ => rfl) 0 (zWs_at (by omega) ((zSt_c 0 rfl (show σ 0 = (σ 0) from rfl))).o) rfl ⟨(Nat.le_of_ble_eq_true rfl), (Nat.le_of_ble_eq_true rfl)⟩ ⟨(Nat.le_of_ble_eq_true rfl), (Nat.le_of_ble_eq_true rfl)⟩ (Nat.le_of_ble_eq_true rfl) (fun A3 hnA3 => ?_)
  have hAc4 : ∀ k, ¬ (fun k => 1 ≤ k ∧ k < 91) k → A3 k = A k := fun k hk => (hnA3 k (by omega)).trans (rfl)
  refine g_lvc (M := mX7_putOut) (lv' := [(0, .ref (A3 0)), (1, .int (iI a1)), (2, .int (iI a2))]) (by rw [hnA3 0 (by omega)]) ?_
  refine g_aload_n (M := mX7_putOut) dX7_putOut_4 0 rfl rfl ?_
  refine k_get (M := mX7_putOut) (v := .ref (A3 12)) dX7_putOut_5 kF_X7_33.r 0 (by omega) ((zSt_c 0 rfl (show t1 0 = (t1 0) from rfl))).o rfl ?_
  refine g_iload_n (M := mX7_putOut) dX7_putOut_8 2 rfl rfl ?_
  obtain ⟨g6, h⟩ := zgi h
  refine h_if_eq (M := mX7_putOut) (tgt := 26) dX7_putOut_9 (by decide) g6 (fun c5 => ?_) (fun c5 => ?_)
  · have h := zti c5 h
    refine g_aload_n (M := mX7_putOut) dX7_putOut_26 0 rfl rfl ?_
    refine k_get (M := mX7_putOut) (v := .ref (A3 12)) dX7_putOut_27 kF_X7_33.r 0 (by omega) ((zSt_c 0 rfl (show t1 0 = (t1 0) from rfl))).o rfl ?_
    refine k_get (M := mX7_putOut) (v := .int (iI ((t1 4).1 4))) dX7_putOut_30 kF_X7_147.r 12 (by omega) ((zSt_c 4 rfl (show t1 4 = (t1 4) from rfl))).o rfl ?_
    refine h_iconst (M := mX7_putOut) dX7_putOut_33 ?_
    refine g_iload_n (M := mX7_putOut) dX7_putOut_34 1 rfl rfl ?_
    obtain ⟨g7, h⟩ := zgi h
    refine g_ishl (M := mX7_putOut) dX7_putOut_35 ?_
    refine h_topx (M := mX7_putOut) (b := zP2 a1) (iI_shl1 g7.1 g7.2) ?_
    refine h_iconst (M := mX7_putOut) dX7_putOut_36 ?_
    refine g_ixor (M := mX7_putOut) dX7_putOut_37 ?_
    refine h_topx (M := mX7_putOut) (b := -1 - (zP2 a1)) (iI_not _) ?_
    refine g_iand (M := mX7_putOut) dX7_putOut_38 ?_
    refine h_topx (M := mX7_putOut) (b := zAndG ((t1 4).1 4) (-1 - (zP2 a1))) (iI_andG _ _) ?_
    refine g_ws (M := mX7_putOut) (congrArg (zWs A3 n) (zSt_c 4 rfl (show t1 4 = (t1 4) from rfl)).symm) ?_
    refine c_put (M := mX7_putOut) (k := 4) dX7_putOut_39 kF_X7_147 (by omega) rfl rfl (by decide) rfl rfl ?_
    refine g_ws (M := mX7_putOut) (congrArg (zWs A3 n) (zSt_p 4 rfl)) ?_
    refine g_aload_n (M := mX7_putOut) dX7_putOut_42 0 rfl rfl ?_
    refine k_get (M := mX7_putOut) (v := .ref (A3 12)) dX7_putOut_43 kF_X7_33.r 0 (by omega) ((zSt_c 0 rfl (show (zSu t1 4 (zPu (t1 4) 4 (zAndG ((t1 4).1 4) (-1 - (zP2 a1))))) 0 = (t1 0) from rfl))).o rfl ?_
    refine k_get (M := mX7_putOut) (v := .ref (A3 (12 + 5))) dX7_putOut_46 kF_X7_177 12 (by omega) ((zSt_c 4 rfl (show (zSu t1 4 (zPu (t1 4) 4 (zAndG ((t1 4).1 4) (-1 - (zP2 a1))))) 4 = (zPu (t1 4) 4 (zAndG ((t1 4).1 4) (-1 - (zP2 a1)))) from rfl))).o rfl ?_
    refine g_iload_n (M := mX7_putOut) dX7_putOut_49 1 rfl rfl ?_
    refine h_iconst (M := mX7_putOut) dX7_putOut_50 ?_
    obtain ⟨g8, h⟩ := zgi h
    refine g_ws (M := mX7_putOut) (congrArg (zWs A3 n) (zSt_c 4 rfl (show (zSu t1 4 (zPu (t1 4) 4 (zAndG ((t1 4).1 4) (-1 - (zP2 a1))))) 4 = (zPu (t1 4) 4 (zAndG ((t1 4).1 4) (-1 - (zP2 a1)))) from rfl)).symm) ?_
    refine c_iast (M := mX7_putOut) (len := 10) (d := (0, 10)) dX7_putOut_51 4 rfl rfl (by omega) (Nat.le_of_ble_eq_true rfl) g8.1 g8.2 ?_
    refine g_ws (M := mX7_putOut) (congrArg (zWs A3 n) (zSt_p 4 rfl)) ?_
    have e := (Option.some.inj h)
    subst e
    exact g_vret (M := mX7_putOut) dX7_putOut_52 rfl (Nat.le_of_ble_eq_true rfl) (Nat.le_of_ble_eq_true rfl) ⟨_, hAc4, rfl, rfl⟩
  · have h := zfi c5 h
    refine g_aload_n (M := mX7_putOut) dX7_putOut_12 0 rfl rfl ?_
    refine k_get (M := mX7_putOut) (v := .ref (A3 12)) dX7_putOut_13 kF_X7_33.r 0 (by omega) ((zSt_c 0 rfl (show t1 0 = (t1 0) from rfl))).o rfl ?_
    refine k_get (M := mX7_putOut) (v := .int (iI ((t1 4).1 4))) dX7_putOut_16 kF_X7_147.r 12 (by omega) ((zSt_c 4 rfl (show t1 4 = (t1 4) from rfl))).o rfl ?_
    refine h_iconst (M := mX7_putOut) dX7_putOut_19 ?_
    refine g_iload_n (M := mX7_putOut) dX7_putOut_20 1 rfl rfl ?_
    obtain ⟨g9, h⟩ := zgi h
    refine g_ishl (M := mX7_putOut) dX7_putOut_21 ?_
    refine h_topx (M := mX7_putOut) (b := zP2 a1) (iI_shl1 g9.1 g9.2) ?_
    obtain ⟨g10, h⟩ := zgi h
    refine g_ior (M := mX7_putOut) dX7_putOut_22 ?_
    refine h_topx (M := mX7_putOut) (b := zOr ((t1 4).1 4) (zP2 a1)) (iI_or g10.1 g10.2) ?_
    refine g_goto (M := mX7_putOut) (tgt := 39) dX7_putOut_23 (by decide) ?_
    refine g_ws (M := mX7_putOut) (congrArg (zWs A3 n) (zSt_c 4 rfl (show t1 4 = (t1 4) from rfl)).symm) ?_
    refine c_put (M := mX7_putOut) (k := 4) dX7_putOut_39 kF_X7_147 (by omega) rfl rfl (by decide) rfl rfl ?_
    refine g_ws (M := mX7_putOut) (congrArg (zWs A3 n) (zSt_p 4 rfl)) ?_
    refine g_aload_n (M := mX7_putOut) dX7_putOut_42 0 rfl rfl ?_
    refine k_get (M := mX7_putOut) (v := .ref (A3 12)) dX7_putOut_43 kF_X7_33.r 0 (by omega) ((zSt_c 0 rfl (show (zSu t1 4 (zPu (t1 4) 4 (zOr ((t1 4).1 4) (zP2 a1)))) 0 = (t1 0) from rfl))).o rfl ?_
    refine k_get (M := mX7_putOut) (v := .ref (A3 (12 + 5))) dX7_putOut_46 kF_X7_177 12 (by omega) ((zSt_c 4 rfl (show (zSu t1 4 (zPu (t1 4) 4 (zOr ((t1 4).1 4) (zP2 a1)))) 4 = (zPu (t1 4) 4 (zOr ((t1 4).1 4) (zP2 a1))) from rfl))).o rfl ?_
    refine g_iload_n (M := mX7_putOut) dX7_putOut_49 1 rfl rfl ?_
    refine h_iconst (M := mX7_putOut) dX7_putOut_50 ?_
    obtain ⟨g11, h⟩ := zgi h
    refine g_ws (M := mX7_putOut) (congrArg (zWs A3 n) (zSt_c 4 rfl (show (zSu t1 4 (zPu (t1 4) 4 (zOr ((t1 4).1 4) (zP2 a1)))) 4 = (zPu (t1 4) 4 (zOr ((t1 4).1 4) (zP2 a1))) from rfl)).symm) ?_
    refine c_iast (M := mX7_putOut) (len := 10) (d := (0, 10)) dX7_putOut_51 4 rfl rfl (by omega) (Nat.le_of_ble_eq_true rfl) g11.1 g11.2 ?_
    refine g_ws (M := mX7_putOut) (congrArg (zWs A3 n) (zSt_p 4 rfl)) ?_
    have e := (Option.some.inj h)
    subst e
    exact g_vret (M := mX7_putOut) dX7_putOut_52 rfl (Nat.le_of_ble_eq_true rfl) (Nat.le_of_ble_eq_true rfl) ⟨_, hAc4, rfl, rfl⟩
set_option maxHeartbeats 4000000 in
set_option maxRecDepth 100000 in
theorem wX7_rankOf {X : zX} (hX : zOK X) {A : Nat → Nat} {n : Nat} {S : Nat → va_E} {σ : CS} (bn : 91 ≤ n) {a1 : Int} {res : CS × (Int ⊕ String)} (h : fX7_rankOf σ a1 = some res) : Con X yX7_rankOf mX7_rankOf 9 (2 + 3 * zNd (σ 7) (σ 4)) (12 + 13652 * zNd (σ 7) (σ 4)) [.ref (A 0), .int (iI a1)] (zWs A n (zSt X A σ S)) (zRA A (fun k => 1 ≤ k ∧ k < 91) (fun A' => (zWs A' n (zSt X A' res.1 S))) (fun A' => zoI res.2)) := by
  refine con_of (lv := [(0, .ref (A 0)), (1, .int (iI a1))]) (by decide) rfl (fun h => by cases h) rfl (Nat.le_of_ble_eq_true rfl) rfl ?_
  unfold fX7_rankOf at h
  refine g_aload_n (M := mX7_rankOf) dX7_rankOf_0 0 rfl rfl ?_
  refine g_iload_n (M := mX7_rankOf) dX7_rankOf_1 1 rfl rfl ?_
  obtain ⟨t1, u2, h⟩ := zbi h
  rcases o3 : t1 with vt1 | Et1
  · have h := zslo o3 h
    refine g_callVx (M := mX7_rankOf) [.int (iI a1)] hX dX7_rankOf_2 vX7_requireWord kM_X7_208 (wX7_requireWord hX bn  u2) (congrArg zoV o3) 0 (zWs_at (by omega) ((zSt_c 0 rfl (show σ 0 = (σ 0) from rfl))).o) rfl ⟨(Nat.le_of_ble_eq_true rfl), (Nat.le_of_ble_eq_true rfl)⟩ ⟨(show 0 + 1 ≤ 2 + 3 * zNd (σ 7) (σ 4) by omega), (show 0 + 6 ≤ 12 + 13652 * zNd (σ 7) (σ 4) by omega)⟩ (Nat.le_of_ble_eq_true rfl) ?_
    refine g_aload_n (M := mX7_rankOf) dX7_rankOf_5 0 rfl rfl ?_
    obtain ⟨g4, h⟩ := zgi h
    obtain ⟨t5, u6, h⟩ := zbi h
    refine g_callVA (M := mX7_rankOf) [] hX dX7_rankOf_6 vX7_searched kM_X7_267 (wX7_searched hX bn  u6) (fun _ => rfl) 0 (zWs_at (by omega) ((zSt_c 0 rfl (show σ 0 = (σ 0) from rfl))).o) rfl ⟨(Nat.le_of_ble_eq_true rfl), (Nat.le_of_ble_eq_true rfl)⟩ ⟨g4.1, g4.2⟩ (Nat.le_of_ble_eq_true rfl) (fun A7 hnA7 => ?_)
    have hAc8 : ∀ k, ¬ (fun k => 1 ≤ k ∧ k < 91) k → A7 k = A k := fun k hk => (hnA7 k (by omega)).trans (rfl)
    refine g_lvc (M := mX7_rankOf) (lv' := [(0, .ref (A7 0)), (1, .int (iI a1))]) (by rw [hnA7 0 (by omega)]) ?_
    refine g_iload_n (M := mX7_rankOf) dX7_rankOf_9 1 rfl rfl ?_
    obtain ⟨t9, u10, h⟩ := zbi h
    refine g_callVr (M := mX7_rankOf) [.int (iI a1)] hX dX7_rankOf_10 vX3_rankOfWord kM_X7_299 (wX3_rankOfWord hX (zSt_c 7 rfl (show t5 7 = (t5 7) from rfl)) (by omega)  u10) 33 (zWs_at (by omega) ((zSt_c 7 rfl (show t5 7 = (t5 7) from rfl))).o) rfl ⟨(Nat.le_of_ble_eq_true rfl), (Nat.le_of_ble_eq_true rfl)⟩ ⟨(show 1 + (3 * zNd (σ 7) (σ 4)) + 0 ≤ 2 + 3 * zNd (σ 7) (σ 4) by omega), (show 6 + (13652 * zNd (σ 7) (σ 4)) + 0 ≤ 12 + 13652 * zNd (σ 7) (σ 4) by omega)⟩ (Nat.le_of_ble_eq_true rfl) ?_
    have e := (Option.some.inj h)
    subst e
    exact g_iret (M := mX7_rankOf) dX7_rankOf_13 rfl (by simpa using g4.1) (by simpa using g4.2) ⟨_, hAc8, rfl, rfl⟩
  · have h := zsro o3 h
    obtain ⟨g11, h⟩ := zgi h
    have e := (Option.some.inj h)
    subst e
    exact g_callVe (M := mX7_rankOf) [.int (iI a1)] hX dX7_rankOf_2 vX7_requireWord kM_X7_208 (wX7_requireWord hX bn  u2) (congrArg zoV o3) 0 (zWs_at (by omega) ((zSt_c 0 rfl (show σ 0 = (σ 0) from rfl))).o) rfl ⟨(Nat.le_of_ble_eq_true rfl), (Nat.le_of_ble_eq_true rfl)⟩ ⟨(show 0 + 1 ≤ 2 + 3 * zNd (σ 7) (σ 4) by omega), (show 0 + 6 ≤ 12 + 13652 * zNd (σ 7) (σ 4) by omega)⟩ (Nat.le_of_ble_eq_true rfl) (gx_out rfl (by simpa using g11.1) (by simpa using g11.2) ⟨_, (fun _ _ => rfl), rfl, rfl⟩)
set_option maxHeartbeats 4000000 in
set_option maxRecDepth 100000 in
theorem wX7_ranked {X : zX} (hX : zOK X) {A : Nat → Nat} {n : Nat} {S : Nat → va_E} {σ : CS} (bn : 91 ≤ n) {a1 : Int} {res : CS × Int} (h : fX7_ranked σ a1 = some res) : Con X yX7_ranked mX7_ranked 9 (2 + 3 * zNd (σ 7) (σ 4)) (12 + 13652 * zNd (σ 7) (σ 4)) [.ref (A 0), .int (iI a1)] (zWs A n (zSt X A σ S)) (zRA A (fun k => 1 ≤ k ∧ k < 91) (fun A' => (zWs A' n (zSt X A' res.1 S))) (fun A' => .inl (some (.int (iI res.2))))) := by
  refine con_of (lv := [(0, .ref (A 0)), (1, .int (iI a1))]) (by decide) rfl (fun h => by cases h) rfl (Nat.le_of_ble_eq_true rfl) rfl ?_
  unfold fX7_ranked at h
  refine g_aload_n (M := mX7_ranked) dX7_ranked_0 0 rfl rfl ?_
  obtain ⟨g1, h⟩ := zgi h
  obtain ⟨t2, u3, h⟩ := zbi h
  refine g_callVA (M := mX7_ranked) [] hX dX7_ranked_1 vX7_searched kM_X7_267 (wX7_searched hX bn  u3) (fun _ => rfl) 0 (zWs_at (by omega) ((zSt_c 0 rfl (show σ 0 = (σ 0) from rfl))).o) rfl ⟨(Nat.le_of_ble_eq_true rfl), (Nat.le_of_ble_eq_true rfl)⟩ ⟨g1.1, g1.2⟩ (Nat.le_of_ble_eq_true rfl) (fun A4 hnA4 => ?_)
  have hAc5 : ∀ k, ¬ (fun k => 1 ≤ k ∧ k < 91) k → A4 k = A k := fun k hk => (hnA4 k (by omega)).trans (rfl)
  refine g_lvc (M := mX7_ranked) (lv' := [(0, .ref (A4 0)), (1, .int (iI a1))]) (by rw [hnA4 0 (by omega)]) ?_
  refine g_iload_n (M := mX7_ranked) dX7_ranked_4 1 rfl rfl ?_
  obtain ⟨t6, u7, h⟩ := zbi h
  refine g_callVr (M := mX7_ranked) [.int (iI a1)] hX dX7_ranked_5 vX3_wordOfRank kM_X7_296 (wX3_wordOfRank hX (zSt_c 7 rfl (show t2 7 = (t2 7) from rfl)) (by omega)  u7) 33 (zWs_at (by omega) ((zSt_c 7 rfl (show t2 7 = (t2 7) from rfl))).o) rfl ⟨(Nat.le_of_ble_eq_true rfl), (Nat.le_of_ble_eq_true rfl)⟩ ⟨(show 0 + (3 * zNd (σ 7) (σ 4)) + 0 ≤ 2 + 3 * zNd (σ 7) (σ 4) by omega), (show 0 + (13652 * zNd (σ 7) (σ 4)) + 0 ≤ 12 + 13652 * zNd (σ 7) (σ 4) by omega)⟩ (Nat.le_of_ble_eq_true rfl) ?_
  have e := (Option.some.inj h)
  subst e
  exact g_iret (M := mX7_ranked) dX7_ranked_8 rfl (by simpa using g1.1) (by simpa using g1.2) ⟨_, hAc5, rfl, rfl⟩
set_option maxHeartbeats 4000000 in
set_option maxRecDepth 100000 in
theorem wX7_replaceBoard {X : zX} (hX : zOK X) {A : Nat → Nat} {n : Nat} {S : Nat → va_E} {σ : CS} (bn : 91 ≤ n) {qB : Nat} {VB : CV} (hB : isC X A shB qB VB (zSt X A σ S)) (bB : qB + 6 < n) (dB : qB + 6 < 12 ∨ 18 < qB) {res : CS} (h : fX7_replaceBoard σ VB = some res) : Con X yX7_replaceBoard mX7_replaceBoard 2 0 0 [.ref (A 0), .ref (A qB)] (zWs A n (zSt X A σ S)) (zRA A (fun k => 1 ≤ k ∧ k < 91) (fun A' => (zWs A' n (zSt X A' res S))) (fun A' => .inl none)) := by
  refine con_of (lv := [(0, .ref (A 0)), (1, .ref (A qB))]) (by decide) rfl (fun h => by cases h) rfl (Nat.le_of_ble_eq_true rfl) rfl ?_
  unfold fX7_replaceBoard at h
  refine g_aload_n (M := mX7_replaceBoard) dX7_replaceBoard_0 0 rfl rfl ?_
  refine k_get (M := mX7_replaceBoard) (v := .ref (A 12)) dX7_replaceBoard_1 kF_X7_33.r 0 (by omega) ((zSt_c 0 rfl (show σ 0 = (σ 0) from rfl))).o rfl ?_
  refine g_aload_n (M := mX7_replaceBoard) dX7_replaceBoard_4 1 rfl rfl ?_
  obtain ⟨t1, u2, h⟩ := zbi h
  refine g_callVr (M := mX7_replaceBoard) [.ref (A qB)] hX dX7_replaceBoard_5 vX0_copyFrom kM_X7_305 (wX0_copyFrom hX (zSt_c 4 rfl (show σ 4 = (σ 4) from rfl)) (by omega) hB (by omega) (by omega) u2) 12 (zWs_at (by omega) ((zSt_c 4 rfl (show σ 4 = (σ 4) from rfl))).o) rfl ⟨(Nat.le_of_ble_eq_true rfl), (Nat.le_of_ble_eq_true rfl)⟩ ⟨(Nat.le_of_ble_eq_true rfl), (Nat.le_of_ble_eq_true rfl)⟩ (Nat.le_of_ble_eq_true rfl) ?_
  refine g_ws (M := mX7_replaceBoard) (congrArg (fun z => zWs A n (z)) (zSt_p 4 rfl)) ?_
  refine g_aload_n (M := mX7_replaceBoard) dX7_replaceBoard_8 0 rfl rfl ?_
  obtain ⟨t3, u4, h⟩ := zbi h
  refine g_callVA (M := mX7_replaceBoard) [] hX dX7_replaceBoard_9 vX7_forgetSearches kM_X7_365 (wX7_forgetSearches hX bn  u4) (fun _ => rfl) 0 (zWs_at (by omega) ((zSt_c 0 rfl (show (zSu σ 4 t1) 0 = (σ 0) from rfl))).o) rfl ⟨(Nat.le_of_ble_eq_true rfl), (Nat.le_of_ble_eq_true rfl)⟩ ⟨(Nat.le_of_ble_eq_true rfl), (Nat.le_of_ble_eq_true rfl)⟩ (Nat.le_of_ble_eq_true rfl) (fun A5 hnA5 => ?_)
  refine g_lv (M := mX7_replaceBoard) (lv' := [(0, .ref (A 0))]) [0] rfl ?_
  have hAc6 : ∀ k, ¬ (fun k => 1 ≤ k ∧ k < 91) k → A5 k = A k := fun k hk => (hnA5 k (by omega)).trans (rfl)
  refine g_lvc (M := mX7_replaceBoard) (lv' := [(0, .ref (A5 0))]) (by rw [hnA5 0 (by omega)]) ?_
  have e := (Option.some.inj h)
  subst e
  exact g_vret (M := mX7_replaceBoard) dX7_replaceBoard_12 rfl (Nat.le_of_ble_eq_true rfl) (Nat.le_of_ble_eq_true rfl) ⟨_, hAc6, rfl, rfl⟩
set_option maxHeartbeats 4000000 in
set_option maxRecDepth 100000 in
theorem wX7_readText {X : zX} (hX2 : zOK2 X) {A : Nat → Nat} {n : Nat} {S : Nat → va_E} {σ : CS} (bn : 91 ≤ n) {res : CS × (Int ⊕ String)} (h : fX7_readText σ = some res) : Con X yX7_readText mX7_readText 7 1 6 [.ref (A 0)] (zWs A n (zSt X A σ S)) (zRA A (fun k => 1 ≤ k ∧ k < 91) (fun A' => (zWs A' n (zSt X A' res.1 S))) (fun A' => zoI res.2)) := by
  refine con_of (lv := [(0, .ref (A 0))]) (by decide) rfl (fun h => by cases h) rfl (Nat.le_of_ble_eq_true rfl) rfl ?_
  have hX := hX2.1
  unfold fX7_readText at h
  refine g_aload_n (M := mX7_readText) dX7_readText_0 0 rfl rfl ?_
  refine k_get (M := mX7_readText) (v := .ref (A 5)) dX7_readText_1 kF_X7_19.r 0 (by omega) ((zSt_c 0 rfl (show σ 0 = (σ 0) from rfl))).o rfl ?_
  refine g_aload_n (M := mX7_readText) dX7_readText_4 0 rfl rfl ?_
  refine k_get (M := mX7_readText) (v := .ref (A 3)) dX7_readText_5 kF_X7_12.r 0 (by omega) ((zSt_c 0 rfl (show σ 0 = (σ 0) from rfl))).o rfl ?_
  refine g_aload_n (M := mX7_readText) dX7_readText_8 0 rfl rfl ?_
  refine k_get (M := mX7_readText) (v := .ref (A 26)) dX7_readText_9 kF_X7_40.r 0 (by omega) ((zSt_c 0 rfl (show σ 0 = (σ 0) from rfl))).o rfl ?_
  obtain ⟨t1, u2, h⟩ := zbi h
  refine g_callVr (M := mX7_readText) [.ref (A 3), .ref (A 26)] hX dX7_readText_12 vX5_read kM_X7_95 (wX5_read hX2 (zSt_c 2 rfl (show σ 2 = (σ 2) from rfl)) (by omega) (zSt_c 1 rfl (show σ 1 = (σ 1) from rfl)) (by omega) (zSt_c 6 rfl (show σ 6 = (σ 6) from rfl)) (by omega) (by omega) (by omega) (by omega) u2) 5 (zWs_at (by omega) ((zSt_c 2 rfl (show σ 2 = (σ 2) from rfl))).o) rfl ⟨(Nat.le_of_ble_eq_true rfl), (Nat.le_of_ble_eq_true rfl)⟩ ⟨(Nat.le_of_ble_eq_true rfl), (Nat.le_of_ble_eq_true rfl)⟩ (Nat.le_of_ble_eq_true rfl) ?_
  refine g_ws (M := mX7_readText) (congrArg (fun z => zWs A n (zC X A shB 26 t1.2.2.1 (zC X A shTo 3 t1.2.1 (z)))) (zSt_p 2 rfl)) ?_
  refine g_ws (M := mX7_readText) (congrArg (fun z => zWs A n (zC X A shB 26 t1.2.2.1 (z))) (zSt_p 1 rfl)) ?_
  refine g_ws (M := mX7_readText) (congrArg (fun z => zWs A n (z)) (zSt_p 6 rfl)) ?_
  refine g_istore_n (M := mX7_readText) (lv' := [(0, .ref (A 0)), (1, .int (iI (b2 t1.2.2.2)))]) dX7_readText_15 rfl (by decide) rfl ?_
  refine g_aload_n (M := mX7_readText) dX7_readText_16 0 rfl rfl ?_
  refine k_get (M := mX7_readText) (v := .ref (A 3)) dX7_readText_17 kF_X7_12.r 0 (by omega) ((zSt_c 0 rfl (show (zSu (zSu (zSu σ 2 t1.1) 1 t1.2.1) 6 t1.2.2.1) 0 = (σ 0) from rfl))).o rfl ?_
  refine h_iconst (M := mX7_readText) dX7_readText_20 ?_
  refine g_ws (M := mX7_readText) (congrArg (zWs A n) (zSt_c 1 rfl (show (zSu (zSu (zSu σ 2 t1.1) 1 t1.2.1) 6 t1.2.2.1) 1 = t1.2.1 from rfl)).symm) ?_
  refine c_put (M := mX7_readText) (k := 1) dX7_readText_21 kF_X7_75 (by omega) rfl rfl (by decide) rfl rfl ?_
  refine g_ws (M := mX7_readText) (congrArg (zWs A n) (zSt_p 1 rfl)) ?_
  refine g_iload_n (M := mX7_readText) dX7_readText_24 1 rfl rfl ?_
  refine h_bne (M := mX7_readText) (tgt := 38) dX7_readText_25 (by decide) (fun c3 => ?_) (fun c3 => ?_)
  · have h := zti c3 h
    refine g_aload_n (M := mX7_readText) dX7_readText_38 0 rfl rfl ?_
    refine g_aload_n (M := mX7_readText) dX7_readText_39 0 rfl rfl ?_
    refine k_get (M := mX7_readText) (v := .ref (A 26)) dX7_readText_40 kF_X7_40.r 0 (by omega) ((zSt_c 0 rfl (show (zSu (zSu (zSu (zSu σ 2 t1.1) 1 t1.2.1) 6 t1.2.2.1) 1 (zPu t1.2.1 1 0)) 0 = (σ 0) from rfl))).o rfl ?_
    obtain ⟨t4, u5, h⟩ := zbi h
    refine g_callVA (M := mX7_readText) [.ref (A 26)] hX dX7_readText_43 vX7_replaceBoard kM_X7_101 (wX7_replaceBoard hX bn (zSt_c 6 rfl (show (zSu (zSu (zSu (zSu σ 2 t1.1) 1 t1.2.1) 6 t1.2.2.1) 1 (zPu t1.2.1 1 0)) 6 = t1.2.2.1 from rfl)) (by omega) (by omega) u5) (fun _ => rfl) 0 (zWs_at (by omega) ((zSt_c 0 rfl (show (zSu (zSu (zSu (zSu σ 2 t1.1) 1 t1.2.1) 6 t1.2.2.1) 1 (zPu t1.2.1 1 0)) 0 = (σ 0) from rfl))).o) rfl ⟨(Nat.le_of_ble_eq_true rfl), (Nat.le_of_ble_eq_true rfl)⟩ ⟨(Nat.le_of_ble_eq_true rfl), (Nat.le_of_ble_eq_true rfl)⟩ (Nat.le_of_ble_eq_true rfl) (fun A6 hnA6 => ?_)
    have hAc7 : ∀ k, ¬ (fun k => 1 ≤ k ∧ k < 91) k → A6 k = A k := fun k hk => (hnA6 k (by omega)).trans (rfl)
    refine g_lvc (M := mX7_readText) (lv' := [(0, .ref (A6 0)), (1, .int (iI (b2 t1.2.2.2)))]) (by rw [hnA6 0 (by omega)]) ?_
    refine g_aload_n (M := mX7_readText) dX7_readText_46 0 rfl rfl ?_
    refine h_iconst (M := mX7_readText) dX7_readText_47 ?_
    refine g_ws (M := mX7_readText) (congrArg (zWs A6 n) (zSt_c 0 rfl (show t4 0 = (t4 0) from rfl)).symm) ?_
    refine c_put (M := mX7_readText) (k := 13) dX7_readText_48 kF_X7_105 (by omega) rfl rfl (by decide) rfl rfl ?_
    refine g_ws (M := mX7_readText) (congrArg (zWs A6 n) (zSt_p 0 rfl)) ?_
    refine g_aload_n (M := mX7_readText) dX7_readText_51 0 rfl rfl ?_
    refine k_get (M := mX7_readText) (v := .ref (A6 12)) dX7_readText_52 kF_X7_33.r 0 (by omega) ((zSt_c 0 rfl (show (zSu t4 0 (zPu (t4 0) 13 0)) 0 = (zPu (t4 0) 13 0) from rfl))).o rfl ?_
    refine k_get (M := mX7_readText) (v := .int (iI ((t4 4).1 3))) dX7_readText_55 kF_X7_108.r 12 (by omega) ((zSt_c 4 rfl (show (zSu t4 0 (zPu (t4 0) 13 0)) 4 = (t4 4) from rfl))).o rfl ?_
    have e := (Option.some.inj h)
    subst e
    exact g_iret (M := mX7_readText) dX7_readText_58 rfl (Nat.le_of_ble_eq_true rfl) (Nat.le_of_ble_eq_true rfl) ⟨_, hAc7, rfl, rfl⟩
  · have h := zfi (zbf c3) h
    have e := (Option.some.inj h)
    subst e
    exact g_throw (M := mX7_readText) hX rfl rfl tT_X7_90_99_94 dX7_readText_28 dX7_readText_31 dX7_readText_32 dX7_readText_34 dX7_readText_37 (Nat.le_of_ble_eq_true rfl) (Nat.le_of_ble_eq_true rfl) (Nat.le_of_ble_eq_true rfl) (Nat.le_of_ble_eq_true rfl) ⟨_, (fun _ _ => rfl), rfl, rfl⟩
set_option maxHeartbeats 4000000 in
set_option maxRecDepth 100000 in
theorem wX7_writeByte {X : zX} (hX : zOK X) {A : Nat → Nat} {n : Nat} {S : Nat → va_E} {σ : CS} (bn : 91 ≤ n) {a1 : Int} {res : CS} (h : fX7_writeByte σ a1 = some res) : Con X yX7_writeByte mX7_writeByte 0 0 0 [.ref (A 0), .int (iI a1)] (zWs A n (zSt X A σ S)) (zRA A (fun k => 1 ≤ k ∧ k < 91) (fun A' => (zWs A' n (zSt X A' res S))) (fun A' => .inl none)) := by
  refine con_of (lv := [(0, .ref (A 0)), (1, .int (iI a1))]) (by decide) rfl (fun h => by cases h) rfl (Nat.le_of_ble_eq_true rfl) rfl ?_
  unfold fX7_writeByte at h
  refine g_aload_n (M := mX7_writeByte) dX7_writeByte_0 0 rfl rfl ?_
  refine k_get (M := mX7_writeByte) (v := .int (iI ((σ 0).1 12))) dX7_writeByte_1 kF_X7_387.r 0 (by omega) ((zSt_c 0 rfl (show σ 0 = (σ 0) from rfl))).o rfl ?_
  refine g_aload_n (M := mX7_writeByte) dX7_writeByte_4 0 rfl rfl ?_
  refine k_get (M := mX7_writeByte) (v := .ref (A (0 + 1))) dX7_writeByte_5 kF_X7_71.r 0 (by omega) ((zSt_c 0 rfl (show σ 0 = (σ 0) from rfl))).o rfl ?_
  refine g_alen (M := mX7_writeByte) (t := 2) (v := iI 410) dX7_writeByte_8 (0 + 1) (zWs_at (by omega) (((zSt_c 0 rfl (show σ 0 = (σ 0) from rfl))).a (d := (2, 410)) 0 rfl)) rfl rfl ?_
  obtain ⟨g2, h⟩ := zgi h
  refine h_icmp_ge (M := mX7_writeByte) (tgt := 33) dX7_writeByte_9 (by decide) g2 (by decide) (fun c1 => ?_) (fun c1 => ?_)
  · have h := zti c1 h
    have e := (Option.some.inj h)
    subst e
    exact g_vret (M := mX7_writeByte) dX7_writeByte_33 rfl (Nat.le_of_ble_eq_true rfl) (Nat.le_of_ble_eq_true rfl) ⟨_, (fun _ _ => rfl), rfl, rfl⟩
  · have h := zfi (Int.not_le.mpr c1) h
    refine g_aload_n (M := mX7_writeByte) dX7_writeByte_12 0 rfl rfl ?_
    refine k_get (M := mX7_writeByte) (v := .ref (A (0 + 1))) dX7_writeByte_13 kF_X7_71.r 0 (by omega) ((zSt_c 0 rfl (show σ 0 = (σ 0) from rfl))).o rfl ?_
    refine g_aload_n (M := mX7_writeByte) dX7_writeByte_16 0 rfl rfl ?_
    refine k_get (M := mX7_writeByte) (v := .int (iI ((σ 0).1 12))) dX7_writeByte_17 kF_X7_387.r 0 (by omega) ((zSt_c 0 rfl (show σ 0 = (σ 0) from rfl))).o rfl ?_
    refine g_iload_n (M := mX7_writeByte) dX7_writeByte_20 1 rfl rfl ?_
    refine g_i2b (M := mX7_writeByte) dX7_writeByte_21 rfl ?_
    refine h_topx (M := mX7_writeByte) (b := (a1 + 128) % 256 - 128) (iI_i2b _) ?_
    obtain ⟨g3, h⟩ := zgi h
    refine g_ws (M := mX7_writeByte) (congrArg (zWs A n) (zSt_c 0 rfl (show σ 0 = (σ 0) from rfl)).symm) ?_
    refine c_bast (M := mX7_writeByte) (len := 410) (d := (2, 410)) dX7_writeByte_22 0 rfl rfl (by omega) (Nat.le_of_ble_eq_true rfl) g3.1 g3.2 (by omega) ?_
    refine g_ws (M := mX7_writeByte) (congrArg (zWs A n) (zSt_p 0 rfl)) ?_
    refine g_aload_n (M := mX7_writeByte) dX7_writeByte_23 0 rfl rfl ?_
    refine g_dup (M := mX7_writeByte) dX7_writeByte_24 rfl ?_
    refine k_get (M := mX7_writeByte) (v := .int (iI ((σ 0).1 12))) dX7_writeByte_25 kF_X7_387.r 0 (by omega) ((zSt_c 0 rfl (show (zSu σ 0 (zPa (σ 0) 1 ((σ 0).1 12) ((a1 + 128) % 256 - 128))) 0 = (zPa (σ 0) 1 ((σ 0).1 12) ((a1 + 128) % 256 - 128)) from rfl))).o rfl ?_
    refine h_iconst (M := mX7_writeByte) dX7_writeByte_28 ?_
    refine h_iadd (M := mX7_writeByte) dX7_writeByte_29 ?_
    refine g_ws (M := mX7_writeByte) (congrArg (zWs A n) (zSt_c 0 rfl (show (zSu σ 0 (zPa (σ 0) 1 ((σ 0).1 12) ((a1 + 128) % 256 - 128))) 0 = (zPa (σ 0) 1 ((σ 0).1 12) ((a1 + 128) % 256 - 128)) from rfl)).symm) ?_
    refine c_put (M := mX7_writeByte) (k := 12) dX7_writeByte_30 kF_X7_387 (by omega) rfl rfl (by decide) rfl rfl ?_
    refine g_ws (M := mX7_writeByte) (congrArg (zWs A n) (zSt_p 0 rfl)) ?_
    have e := (Option.some.inj h)
    subst e
    exact g_vret (M := mX7_writeByte) dX7_writeByte_33 rfl (Nat.le_of_ble_eq_true rfl) (Nat.le_of_ble_eq_true rfl) ⟨_, (fun _ _ => rfl), rfl, rfl⟩
set_option maxHeartbeats 4000000 in
set_option maxRecDepth 100000 in
theorem wX7_writeName {X : zX} (hX : zOK X) {A : Nat → Nat} {n : Nat} {S : Nat → va_E} {σ : CS} (bn : 91 ≤ n) {a1 : Int} {res : CS} (h : fX7_writeName σ a1 = some res) : Con X yX7_writeName mX7_writeName 1 0 0 [.ref (A 0), .long (iL a1)] (zWs A n (zSt X A σ S)) (zRA A (fun k => 1 ≤ k ∧ k < 91) (fun A' => (zWs A' n (zSt X A' res S))) (fun A' => .inl none)) := by
  refine con_of (lv := [(0, .ref (A 0)), (1, .long (iL a1))]) (by decide) rfl (fun h => by cases h) rfl (Nat.le_of_ble_eq_true rfl) rfl ?_
  unfold fX7_writeName at h
  refine h_iconst (M := mX7_writeName) dX7_writeName_0 ?_
  refine g_istore_n (M := mX7_writeName) (lv' := [(0, .ref (A 0)), (1, .long (iL a1)), (3, .int (iI 0))]) dX7_writeName_1 rfl (by decide) rfl ?_
  obtain ⟨x1, l1, h⟩ := zbi h
  have r1 : ∀ y1, y1 = x1 → ∀ (Ar1 : Nat → Nat), (∀ k, ¬ (fun k => 1 ≤ k ∧ k < 91) k → Ar1 k = A k) → G X mX7_writeName (zPm X 1 0 0 (zRA A (fun k => 1 ≤ k ∧ k < 91) (fun A' => (zWs A' n (zSt X A' res S))) (fun A' => .inl none))) 0 0 32 [] [] (zWs Ar1 n (zSt X Ar1 y1.2 S)) := by
    intro y1 ey
    intro Ar1 hAr1
    rw [← ey] at h
    have e := (Option.some.inj h)
    subst e
    exact g_vret (M := mX7_writeName) dX7_writeName_32 rfl (Nat.le_of_ble_eq_true rfl) (Nat.le_of_ble_eq_true rfl) ⟨_, hAr1, rfl, rfl⟩
  refine zLp_J (J := fun s1 => ∀ (Al1 : Nat → Nat), (∀ k, ¬ (fun k => 1 ≤ k ∧ k < 91) k → Al1 k = A k) → G X mX7_writeName (zPm X 1 0 0 (zRA A (fun k => 1 ≤ k ∧ k < 91) (fun A' => (zWs A' n (zSt X A' res S))) (fun A' => .inl none))) 0 0 2 [(0, .ref (Al1 0)), (1, .long (iL a1)), (3, .int (iI s1.1))] [] (zWs Al1 n (zSt X Al1 s1.2 S))) (fun s1 w1 h1 b1 e1 => ?_) _ _ l1 A (fun _ _ => rfl)
  intro Al1 hAl1
  refine g_iload_n (M := mX7_writeName) dX7_writeName_2 2 rfl rfl ?_
  refine h_bipush (M := mX7_writeName) dX7_writeName_3 rfl ?_
  obtain ⟨g13, h1⟩ := zgi h1
  refine h_icmp_ge (M := mX7_writeName) (tgt := 32) dX7_writeName_5 (by decide) g13 (by decide) (fun c12 => ?_) (fun c12 => ?_)
  · have h1 := zti c12 h1
    refine g_lv (M := mX7_writeName) [] rfl ?_
    exact r1 _ (e1 _ (Option.some.inj h1).symm) Al1 hAl1
  · have h1 := zfi (Int.not_le.mpr c12) h1
    refine g_lload_n (M := mX7_writeName) dX7_writeName_8 1 rfl rfl ?_
    refine g_iload_n (M := mX7_writeName) dX7_writeName_9 2 rfl rfl ?_
    obtain ⟨t14, u15, h1⟩ := zbi h1
    refine g_callSr (M := mX7_writeName) [.long (iL a1), .int (iI s1.1)] hX dX7_writeName_10 vX0_signOfName kM_X7_449 (wX0_signOfName hX   u15) rfl ⟨(Nat.le_of_ble_eq_true rfl), (Nat.le_of_ble_eq_true rfl)⟩ ⟨(Nat.le_of_ble_eq_true rfl), (Nat.le_of_ble_eq_true rfl)⟩ (Nat.le_of_ble_eq_true rfl) ?_
    refine g_istore (M := mX7_writeName) (lv' := [(0, .ref (Al1 0)), (1, .long (iL a1)), (3, .int (iI s1.1)), (4, .int (iI t14))]) dX7_writeName_13 (by decide) rfl ?_
    refine g_iload (M := mX7_writeName) dX7_writeName_15 3 rfl ?_
    obtain ⟨g17, h1⟩ := zgi h1
    refine h_if_eq (M := mX7_writeName) (tgt := 26) dX7_writeName_17 (by decide) g17 (fun c16 => ?_) (fun c16 => ?_)
    · have h1 := zti c16 h1
      refine h_iinc (M := mX7_writeName) (j := 2) (lv' := [(0, .ref (Al1 0)), (1, .long (iL a1)), (3, .int (iI (s1.1 + 1))), (4, .int (iI t14))]) dX7_writeName_26 rfl (Nat.le_of_ble_eq_true rfl) rfl ?_
      refine g_goto (M := mX7_writeName) (tgt := 2) dX7_writeName_29 (by decide) ?_
      refine g_lv (M := mX7_writeName) [0, 1, 2] rfl ?_
      exact b1 _ (Option.some.inj h1).symm Al1 hAl1
    · have h1 := zfi c16 h1
      refine g_aload_n (M := mX7_writeName) dX7_writeName_20 0 rfl rfl ?_
      refine g_iload (M := mX7_writeName) dX7_writeName_21 3 rfl ?_
      obtain ⟨t18, u19, h1⟩ := zbi h1
      refine g_callVA (M := mX7_writeName) [.int (iI t14)] hX dX7_writeName_23 vX7_writeByte kM_X7_390 (wX7_writeByte hX bn  u19) (fun _ => rfl) 0 (zWs_at (by omega) ((zSt_c 0 rfl (show s1.2 0 = (s1.2 0) from rfl))).o) rfl ⟨(Nat.le_of_ble_eq_true rfl), (Nat.le_of_ble_eq_true rfl)⟩ ⟨(Nat.le_of_ble_eq_true rfl), (Nat.le_of_ble_eq_true rfl)⟩ (Nat.le_of_ble_eq_true rfl) (fun A20 hnA20 => ?_)
      have hAc21 : ∀ k, ¬ (fun k => 1 ≤ k ∧ k < 91) k → A20 k = A k := fun k hk => (hnA20 k (by omega)).trans (hAl1 k hk)
      refine g_lvc (M := mX7_writeName) (lv' := [(0, .ref (A20 0)), (1, .long (iL a1)), (3, .int (iI s1.1)), (4, .int (iI t14))]) (by rw [hnA20 0 (by omega)]) ?_
      refine h_iinc (M := mX7_writeName) (j := 2) (lv' := [(0, .ref (A20 0)), (1, .long (iL a1)), (3, .int (iI (s1.1 + 1))), (4, .int (iI t14))]) dX7_writeName_26 rfl (Nat.le_of_ble_eq_true rfl) rfl ?_
      refine g_goto (M := mX7_writeName) (tgt := 2) dX7_writeName_29 (by decide) ?_
      refine g_lv (M := mX7_writeName) [0, 1, 2] rfl ?_
      exact b1 _ (Option.some.inj h1).symm A20 hAc21
set_option maxHeartbeats 4000000 in
set_option maxRecDepth 100000 in
theorem wX7_signOf {X : zX} (hX : zOK X) {A : Nat → Nat} {n : Nat} {S : Nat → va_E} {σ : CS} (bn : 91 ≤ n) {a1 : Int} {a2 : Int} {res : Int} (h : fX7_signOf σ a1 a2 = some res) : Con X yX7_signOf mX7_signOf 1 0 0 [.ref (A 0), .int (iI a1), .int (iI a2)] (zWs A n (zSt X A σ S)) (zRet (zWs A n (zSt X A σ S)) (some (.int (iI res)))) := by
  refine con_of (lv := [(0, .ref (A 0)), (1, .int (iI a1)), (2, .int (iI a2))]) (by decide) rfl (fun h => by cases h) rfl (Nat.le_of_ble_eq_true rfl) rfl ?_
  unfold fX7_signOf at h
  refine g_aload_n (M := mX7_signOf) dX7_signOf_0 0 rfl rfl ?_
  refine k_get (M := mX7_signOf) (v := .ref (A 12)) dX7_signOf_1 kF_X7_33.r 0 (by omega) ((zSt_c 0 rfl (show σ 0 = (σ 0) from rfl))).o rfl ?_
  refine k_get (M := mX7_signOf) (v := .ref (A (12 + 4))) dX7_signOf_4 kF_X7_184 12 (by omega) ((zSt_c 4 rfl (show σ 4 = (σ 4) from rfl))).o rfl ?_
  refine g_iload_n (M := mX7_signOf) dX7_signOf_7 1 rfl rfl ?_
  obtain ⟨g1, h⟩ := zgi h
  refine k_iald (M := mX7_signOf) (len := 10) (f := (σ 4).2 4) dX7_signOf_8 (12 + 4) (by omega) (((zSt_c 4 rfl (show σ 4 = (σ 4) from rfl))).a (d := (0, 10)) 3 rfl) (Nat.le_of_ble_eq_true rfl) g1.1 g1.2 ?_
  refine g_iload_n (M := mX7_signOf) dX7_signOf_9 2 rfl rfl ?_
  obtain ⟨g2, h⟩ := zgi h
  refine g_iushr (M := mX7_signOf) dX7_signOf_10 rfl ?_
  refine h_topx (M := mX7_signOf) (b := (((σ 4).2 4) a1) / zP2 a2) (iI_ushr g2.1.1 g2.1.2 g2.2.1 g2.2.2) ?_
  refine h_iconst (M := mX7_signOf) dX7_signOf_11 ?_
  refine g_iand (M := mX7_signOf) dX7_signOf_12 ?_
  refine h_topx (M := mX7_signOf) (b := ((((σ 4).2 4) a1) / zP2 a2) % 2) (iI_mask _ 1 (by decide)) ?_
  obtain ⟨g4, h⟩ := zgi h
  refine h_if_eq (M := mX7_signOf) (tgt := 19) dX7_signOf_13 (by decide) g4 (fun c3 => ?_) (fun c3 => ?_)
  · have h := zti c3 h
    refine g_aload_n (M := mX7_signOf) dX7_signOf_19 0 rfl rfl ?_
    refine k_get (M := mX7_signOf) (v := .ref (A 12)) dX7_signOf_20 kF_X7_33.r 0 (by omega) ((zSt_c 0 rfl (show σ 0 = (σ 0) from rfl))).o rfl ?_
    refine k_get (M := mX7_signOf) (v := .ref (A (12 + 5))) dX7_signOf_23 kF_X7_177 12 (by omega) ((zSt_c 4 rfl (show σ 4 = (σ 4) from rfl))).o rfl ?_
    refine g_iload_n (M := mX7_signOf) dX7_signOf_26 1 rfl rfl ?_
    refine k_iald (M := mX7_signOf) (len := 10) (f := (σ 4).2 5) dX7_signOf_27 (12 + 5) (by omega) (((zSt_c 4 rfl (show σ 4 = (σ 4) from rfl))).a (d := (0, 10)) 4 rfl) (Nat.le_of_ble_eq_true rfl) g1.1 g1.2 ?_
    refine g_istore_n (M := mX7_signOf) (lv' := [(0, .ref (A 0)), (1, .int (iI a1)), (2, .int (iI a2)), (3, .int (iI (((σ 4).2 5) a1)))]) dX7_signOf_28 rfl (by decide) rfl ?_
    refine g_iload_n (M := mX7_signOf) dX7_signOf_29 3 rfl rfl ?_
    refine h_iconst (M := mX7_signOf) dX7_signOf_30 ?_
    refine zJn_J (J := fun x18 => G X mX7_signOf (zPm X 1 0 0 (zRet (zWs A n (zSt X A σ S)) (some (.int (iI res))))) 0 0 57 [(0, .ref (A 0)), (1, .int (iI a1)), (2, .int (iI a2))] [.int (iI x18)] (zWs A n (zSt X A σ S))) h (fun x18 h => ?_) (fun j18 h => ?_)
    · refine g_istore (M := mX7_signOf) (lv' := [(0, .ref (A 0)), (1, .int (iI a1)), (2, .int (iI a2)), (4, .int (iI x18))]) dX7_signOf_57 (by decide) rfl ?_
      refine g_iload (M := mX7_signOf) dX7_signOf_59 3 rfl ?_
      refine zJn_J (J := fun x21 => G X mX7_signOf (zPm X 1 0 0 (zRet (zWs A n (zSt X A σ S)) (some (.int (iI res))))) 0 0 71 [(0, .ref (A 0)), (1, .int (iI a1)), (2, .int (iI a2))] [.int (iI x21)] (zWs A n (zSt X A σ S))) h (fun x21 h => ?_) (fun j21 h => ?_)
      · refine g_aload_n (M := mX7_signOf) dX7_signOf_71 0 rfl rfl ?_
        refine k_get (M := mX7_signOf) (v := .ref (A 12)) dX7_signOf_72 kF_X7_33.r 0 (by omega) ((zSt_c 0 rfl (show σ 0 = (σ 0) from rfl))).o rfl ?_
        refine g_iload_n (M := mX7_signOf) dX7_signOf_75 1 rfl rfl ?_
        refine g_iload_n (M := mX7_signOf) dX7_signOf_76 2 rfl rfl ?_
        obtain ⟨t22, u23, h⟩ := zbi h
        refine g_callVr (M := mX7_signOf) [.int (iI a1), .int (iI a2)] hX dX7_signOf_77 vX0_letterAt kM_X7_194 (wX0_letterAt hX (zSt_c 4 rfl (show σ 4 = (σ 4) from rfl)) (by omega)  u23) 12 (zWs_at (by omega) ((zSt_c 4 rfl (show σ 4 = (σ 4) from rfl))).o) rfl ⟨(Nat.le_of_ble_eq_true rfl), (Nat.le_of_ble_eq_true rfl)⟩ ⟨(Nat.le_of_ble_eq_true rfl), (Nat.le_of_ble_eq_true rfl)⟩ (Nat.le_of_ble_eq_true rfl) ?_
        refine h_iadd (M := mX7_signOf) dX7_signOf_80 ?_
        have e := (Option.some.inj h)
        subst e
        exact g_iret (M := mX7_signOf) dX7_signOf_81 rfl (Nat.le_of_ble_eq_true rfl) (Nat.le_of_ble_eq_true rfl) ⟨rfl, rfl⟩
      · obtain ⟨g25, h⟩ := zgi h
        refine h_if_eq (M := mX7_signOf) (tgt := 69) dX7_signOf_61 (by decide) g25 (fun c24 => ?_) (fun c24 => ?_)
        · have h := zti c24 h
          refine h_bipush (M := mX7_signOf) dX7_signOf_69 rfl ?_
          refine g_lv (M := mX7_signOf) [0, 1, 2] rfl ?_
          exact j21 97 h
        · have h := zfi c24 h
          refine h_bipush (M := mX7_signOf) dX7_signOf_64 rfl ?_
          refine g_goto (M := mX7_signOf) (tgt := 71) dX7_signOf_66 (by decide) ?_
          refine g_lv (M := mX7_signOf) [0, 1, 2] rfl ?_
          exact j21 65 h
    · refine zJn_J (J := fun x32 => G X mX7_signOf (zPm X 1 0 0 (zRet (zWs A n (zSt X A σ S)) (some (.int (iI res))))) 0 0 56 [(0, .ref (A 0)), (1, .int (iI a1)), (2, .int (iI a2))] [] (zWs A n (zSt X A σ S))) h (fun x32 h => ?_) (fun j32 h => ?_)
      · refine h_iconst (M := mX7_signOf) dX7_signOf_56 ?_
        exact j18 0 h
      · obtain ⟨g34, h⟩ := zgi h
        refine h_icmp_eq (M := mX7_signOf) (tgt := 56) dX7_signOf_31 (by decide) g34 (by decide) (fun c33 => ?_) (fun c33 => ?_)
        · have h := zti c33 h
          refine g_lv (M := mX7_signOf) [0, 1, 2] rfl ?_
          exact j32 () h
        · have h := zfi c33 h
          refine g_iload_n (M := mX7_signOf) dX7_signOf_34 2 rfl rfl ?_
          refine g_iload_n (M := mX7_signOf) dX7_signOf_35 3 rfl rfl ?_
          obtain ⟨g36, h⟩ := zgi h
          refine h_icmp_lt (M := mX7_signOf) (tgt := 56) dX7_signOf_36 (by decide) g36 g34 (fun c35 => ?_) (fun c35 => ?_)
          · have h := zti c35 h
            refine g_lv (M := mX7_signOf) [0, 1, 2] rfl ?_
            exact j32 () h
          · have h := zfi (Int.not_lt.mpr c35) h
            refine g_iload_n (M := mX7_signOf) dX7_signOf_39 2 rfl rfl ?_
            refine g_iload_n (M := mX7_signOf) dX7_signOf_40 3 rfl rfl ?_
            refine g_aload_n (M := mX7_signOf) dX7_signOf_41 0 rfl rfl ?_
            refine k_get (M := mX7_signOf) (v := .ref (A 12)) dX7_signOf_42 kF_X7_33.r 0 (by omega) ((zSt_c 0 rfl (show σ 0 = (σ 0) from rfl))).o rfl ?_
            refine k_get (M := mX7_signOf) (v := .int (iI ((σ 4).1 1))) dX7_signOf_45 kF_X7_134.r 12 (by omega) ((zSt_c 4 rfl (show σ 4 = (σ 4) from rfl))).o rfl ?_
            refine h_iadd (M := mX7_signOf) dX7_signOf_48 ?_
            obtain ⟨g38, h⟩ := zgi h
            refine h_icmp_ge (M := mX7_signOf) (tgt := 56) dX7_signOf_49 (by decide) g36 g38 (fun c37 => ?_) (fun c37 => ?_)
            · have h := zti c37 h
              refine g_lv (M := mX7_signOf) [0, 1, 2] rfl ?_
              exact j32 () h
            · have h := zfi (Int.not_le.mpr c37) h
              refine h_iconst (M := mX7_signOf) dX7_signOf_52 ?_
              refine g_goto (M := mX7_signOf) (tgt := 57) dX7_signOf_53 (by decide) ?_
              refine g_lv (M := mX7_signOf) [0, 1, 2] rfl ?_
              exact j18 1 h
  · have h := zfi c3 h
    refine h_bipush (M := mX7_signOf) dX7_signOf_16 rfl ?_
    have e := (Option.some.inj h)
    subst e
    exact g_iret (M := mX7_signOf) dX7_signOf_18 rfl (Nat.le_of_ble_eq_true rfl) (Nat.le_of_ble_eq_true rfl) ⟨rfl, rfl⟩
