set_option maxHeartbeats 4000000 in
set_option maxRecDepth 100000 in
theorem wX8_of {X : zX} (hX : zOK X) {A : Nat → Nat} {n : Nat} {S : Nat → va_E} {qMo : Nat} {VMo : CV} (hMo : isC X A shMo qMo VMo S) (bMo : qMo + 20 < n) {a1 : Int} {a2 : Int} {res : Int} (h : fX8_of VMo a1 a2 = some res) : Con X yX8_of mX8_of 0 0 0 [.ref (A qMo), .int (iI a1), .int (iI a2)] (zWs A n S) (zRet (zWs A n S) (some (.int (iI res)))) := by
  refine con_of (lv := [(0, .ref (A qMo)), (1, .int (iI a1)), (2, .int (iI a2))]) (by decide) rfl (fun h => by cases h) rfl (Nat.le_of_ble_eq_true rfl) rfl ?_
  unfold fX8_of at h
  refine g_aload_n (M := mX8_of) dX8_of_0 0 rfl rfl ?_
  refine k_get (M := mX8_of) (v := .ref (A (qMo + 2))) dX8_of_1 kF_X8_20.r qMo (by omega) (hMo.o) rfl ?_
  refine h_bipush (M := mX8_of) dX8_of_4 rfl ?_
  refine h_iconst (M := mX8_of) dX8_of_6 ?_
  refine g_iload_n (M := mX8_of) dX8_of_7 1 rfl rfl ?_
  refine h_imul (M := mX8_of) dX8_of_8 ?_
  refine h_iadd (M := mX8_of) dX8_of_9 ?_
  refine g_iload_n (M := mX8_of) dX8_of_10 2 rfl rfl ?_
  refine h_iadd (M := mX8_of) dX8_of_11 ?_
  obtain ⟨g1, h⟩ := zgi h
  refine k_iald (M := mX8_of) (len := 351) (f := VMo.2 2) dX8_of_12 (qMo + 2) (by omega) (hMo.a (d := (0, 351)) 1 rfl) (Nat.le_of_ble_eq_true rfl) g1.1 g1.2 ?_
  have e := (Option.some.inj h)
  subst e
  exact g_iret (M := mX8_of) dX8_of_13 rfl (Nat.le_of_ble_eq_true rfl) (Nat.le_of_ble_eq_true rfl) ⟨rfl, rfl⟩
set_option maxHeartbeats 4000000 in
set_option maxRecDepth 100000 in
theorem wX8_letterAt {X : zX} (hX : zOK X) {A : Nat → Nat} {n : Nat} {S : Nat → va_E} {qMo : Nat} {VMo : CV} (hMo : isC X A shMo qMo VMo S) (bMo : qMo + 20 < n) {a1 : Int} {a2 : Int} {res : Int} (h : fX8_letterAt VMo a1 a2 = some res) : Con X yX8_letterAt mX8_letterAt 0 0 0 [.ref (A qMo), .int (iI a1), .int (iI a2)] (zWs A n S) (zRet (zWs A n S) (some (.int (iI res)))) := by
  refine con_of (lv := [(0, .ref (A qMo)), (1, .int (iI a1)), (2, .int (iI a2))]) (by decide) rfl (fun h => by cases h) rfl (Nat.le_of_ble_eq_true rfl) rfl ?_
  unfold fX8_letterAt at h
  refine g_aload_n (M := mX8_letterAt) dX8_letterAt_0 0 rfl rfl ?_
  refine k_get (M := mX8_letterAt) (v := .ref (A (qMo + 2))) dX8_letterAt_1 kF_X8_20.r qMo (by omega) (hMo.o) rfl ?_
  refine h_bipush (M := mX8_letterAt) dX8_letterAt_4 rfl ?_
  refine h_bipush (M := mX8_letterAt) dX8_letterAt_6 rfl ?_
  refine g_iload_n (M := mX8_letterAt) dX8_letterAt_8 1 rfl rfl ?_
  refine h_imul (M := mX8_letterAt) dX8_letterAt_9 ?_
  refine h_iadd (M := mX8_letterAt) dX8_letterAt_10 ?_
  refine g_iload_n (M := mX8_letterAt) dX8_letterAt_11 2 rfl rfl ?_
  refine h_iadd (M := mX8_letterAt) dX8_letterAt_12 ?_
  obtain ⟨g1, h⟩ := zgi h
  refine k_iald (M := mX8_letterAt) (len := 351) (f := VMo.2 2) dX8_letterAt_13 (qMo + 2) (by omega) (hMo.a (d := (0, 351)) 1 rfl) (Nat.le_of_ble_eq_true rfl) g1.1 g1.2 ?_
  have e := (Option.some.inj h)
  subst e
  exact g_iret (M := mX8_letterAt) dX8_letterAt_14 rfl (Nat.le_of_ble_eq_true rfl) (Nat.le_of_ble_eq_true rfl) ⟨rfl, rfl⟩
set_option maxHeartbeats 4000000 in
set_option maxRecDepth 100000 in
theorem wX8_laysProfile {X : zX} (hX : zOK X) {A : Nat → Nat} {n : Nat} {S : Nat → va_E} {qMo : Nat} {VMo : CV} (hMo : isC X A shMo qMo VMo S) (bMo : qMo + 20 < n) {a1 : Int} {res : CV} (h : fX8_laysProfile VMo a1 = some res) : Con X yX8_laysProfile mX8_laysProfile 1 0 0 [.ref (A qMo), .int (iI a1)] (zWs A n S) (zRet (zWs A n (zC X A shMo qMo res S)) none) := by
  refine con_of (lv := [(0, .ref (A qMo)), (1, .int (iI a1))]) (by decide) rfl (fun h => by cases h) rfl (Nat.le_of_ble_eq_true rfl) rfl ?_
  refine g_ws (M := mX8_laysProfile) (congrArg (zWs A n) hMo.symm) ?_
  unfold fX8_laysProfile at h
  refine h_iconst (M := mX8_laysProfile) dX8_laysProfile_0 ?_
  refine g_istore_n (M := mX8_laysProfile) (lv' := [(0, .ref (A qMo)), (1, .int (iI a1)), (2, .int (iI 0))]) dX8_laysProfile_1 rfl (by decide) rfl ?_
  obtain ⟨x1, l1, h⟩ := zbi h
  have r1 : ∀ y1, y1 = x1 → G X mX8_laysProfile (zPm X 1 0 0 (zRet (zWs A n (zC X A shMo qMo res S)) none)) 0 0 21 [(0, .ref (A qMo)), (1, .int (iI a1))] [] (zWs A n (zC X A shMo qMo y1.2 S)) := by
    intro y1 ey
    rw [← ey] at h
    refine h_iconst (M := mX8_laysProfile) dX8_laysProfile_21 ?_
    refine g_istore_n (M := mX8_laysProfile) (lv' := [(0, .ref (A qMo)), (1, .int (iI a1)), (2, .int (iI 0))]) dX8_laysProfile_22 rfl (by decide) rfl ?_
    obtain ⟨x5, l5, h⟩ := zbi h
    have r5 : ∀ y5, y5 = x5 → G X mX8_laysProfile (zPm X 1 0 0 (zRet (zWs A n (zC X A shMo qMo res S)) none)) 0 0 101 [] [] (zWs A n (zC X A shMo qMo y5.2 S)) := by
      intro y5 ey
      rw [← ey] at h
      have e := (Option.some.inj h)
      subst e
      exact g_vret (M := mX8_laysProfile) dX8_laysProfile_101 rfl (Nat.le_of_ble_eq_true rfl) (Nat.le_of_ble_eq_true rfl) ⟨rfl, rfl⟩
    refine zLp_J (J := fun s5 => G X mX8_laysProfile (zPm X 1 0 0 (zRet (zWs A n (zC X A shMo qMo res S)) none)) 0 0 23 [(0, .ref (A qMo)), (1, .int (iI a1)), (2, .int (iI s5.1))] [] (zWs A n (zC X A shMo qMo s5.2 S))) (fun s5 w5 h5 b5 e5 => ?_) _ _ l5
    refine g_iload_n (M := mX8_laysProfile) dX8_laysProfile_23 2 rfl rfl ?_
    refine g_aload_n (M := mX8_laysProfile) dX8_laysProfile_24 0 rfl rfl ?_
    refine k_get (M := mX8_laysProfile) (v := .ref (A (qMo + 2))) dX8_laysProfile_25 kF_X8_20.r qMo (by omega) (zC_o) rfl ?_
    refine h_iconst (M := mX8_laysProfile) dX8_laysProfile_28 ?_
    refine k_iald (M := mX8_laysProfile) (len := 351) (f := s5.2.2 2) dX8_laysProfile_29 (qMo + 2) (by omega) (zC_a (d := (0, 351)) 1 rfl) (Nat.le_of_ble_eq_true rfl) (by decide) (by decide) ?_
    obtain ⟨g30, h5⟩ := zgi h5
    refine h_icmp_ge (M := mX8_laysProfile) (tgt := 101) dX8_laysProfile_30 (by decide) g30.1 g30.2 (fun c29 => ?_) (fun c29 => ?_)
    · have h5 := zti c29 h5
      refine g_lv (M := mX8_laysProfile) [] rfl ?_
      exact r5 _ (e5 _ (Option.some.inj h5).symm)
    · have h5 := zfi (Int.not_le.mpr c29) h5
      refine g_iload_n (M := mX8_laysProfile) dX8_laysProfile_33 2 rfl rfl ?_
      refine g_iload_n (M := mX8_laysProfile) dX8_laysProfile_34 1 rfl rfl ?_
      obtain ⟨g32, h5⟩ := zgi h5
      refine h_icmp_eq (M := mX8_laysProfile) (tgt := 95) dX8_laysProfile_35 (by decide) g30.1 g32 (fun c31 => ?_) (fun c31 => ?_)
      · have h5 := zti c31 h5
        refine h_iinc (M := mX8_laysProfile) (j := 2) (lv' := [(0, .ref (A qMo)), (1, .int (iI a1)), (2, .int (iI (s5.1 + 1)))]) dX8_laysProfile_95 rfl (Nat.le_of_ble_eq_true rfl) rfl ?_
        refine g_goto (M := mX8_laysProfile) (tgt := 23) dX8_laysProfile_98 (by decide) ?_
        exact b5 _ (Option.some.inj h5).symm
      · have h5 := zfi c31 h5
        refine g_aload_n (M := mX8_laysProfile) dX8_laysProfile_38 0 rfl rfl ?_
        refine g_iload_n (M := mX8_laysProfile) dX8_laysProfile_39 2 rfl rfl ?_
        refine h_iconst (M := mX8_laysProfile) dX8_laysProfile_40 ?_
        obtain ⟨t33, u34, h5⟩ := zbi h5
        refine g_callVr (M := mX8_laysProfile) [.int (iI s5.1), .int (iI 1)] hX dX8_laysProfile_41 vX8_of kM_X8_166 (wX8_of hX zC_self (by omega)  u34) qMo (zWs_at (by omega) (zC_o)) rfl ⟨(Nat.le_of_ble_eq_true rfl), (Nat.le_of_ble_eq_true rfl)⟩ ⟨(Nat.le_of_ble_eq_true rfl), (Nat.le_of_ble_eq_true rfl)⟩ (Nat.le_of_ble_eq_true rfl) ?_
        refine h_iconst (M := mX8_laysProfile) dX8_laysProfile_44 ?_
        obtain ⟨g36, h5⟩ := zgi h5
        refine h_icmp_ne (M := mX8_laysProfile) (tgt := 51) dX8_laysProfile_45 (by decide) g36 (by decide) (fun c35 => ?_) (fun c35 => ?_)
        · have h5 := zfi c35 h5
          refine h_iconst (M := mX8_laysProfile) dX8_laysProfile_51 ?_
          refine g_istore_n (M := mX8_laysProfile) (lv' := [(0, .ref (A qMo)), (1, .int (iI a1)), (2, .int (iI s5.1)), (3, .int (iI 0))]) dX8_laysProfile_52 rfl (by decide) rfl ?_
          obtain ⟨x37, l37, h5⟩ := zbi h5
          have r37 : ∀ y37, y37 = x37 → G X mX8_laysProfile (zPm X 1 0 0 (zRet (zWs A n (zC X A shMo qMo res S)) none)) 0 0 95 [(0, .ref (A qMo)), (1, .int (iI a1)), (2, .int (iI s5.1))] [] (zWs A n (zC X A shMo qMo y37.2 S)) := by
            intro y37 ey
            rw [← ey] at h5
            refine h_iinc (M := mX8_laysProfile) (j := 2) (lv' := [(0, .ref (A qMo)), (1, .int (iI a1)), (2, .int (iI (s5.1 + 1)))]) dX8_laysProfile_95 rfl (Nat.le_of_ble_eq_true rfl) rfl ?_
            refine g_goto (M := mX8_laysProfile) (tgt := 23) dX8_laysProfile_98 (by decide) ?_
            exact b5 _ (Option.some.inj h5).symm
          refine zLp_J (J := fun s37 => G X mX8_laysProfile (zPm X 1 0 0 (zRet (zWs A n (zC X A shMo qMo res S)) none)) 0 0 53 [(0, .ref (A qMo)), (1, .int (iI a1)), (2, .int (iI s5.1)), (3, .int (iI s37.1))] [] (zWs A n (zC X A shMo qMo s37.2 S))) (fun s37 w37 h37 b37 e37 => ?_) _ _ l37
          refine g_iload_n (M := mX8_laysProfile) dX8_laysProfile_53 3 rfl rfl ?_
          refine g_aload_n (M := mX8_laysProfile) dX8_laysProfile_54 0 rfl rfl ?_
          refine k_get (M := mX8_laysProfile) (v := .ref (A (qMo + 2))) dX8_laysProfile_55 kF_X8_20.r qMo (by omega) (zC_o) rfl ?_
          refine h_iconst (M := mX8_laysProfile) dX8_laysProfile_58 ?_
          refine k_iald (M := mX8_laysProfile) (len := 351) (f := s37.2.2 2) dX8_laysProfile_59 (qMo + 2) (by omega) (zC_a (d := (0, 351)) 1 rfl) (Nat.le_of_ble_eq_true rfl) (by decide) (by decide) ?_
          obtain ⟨g46, h37⟩ := zgi h37
          refine h_icmp_ge (M := mX8_laysProfile) (tgt := 95) dX8_laysProfile_60 (by decide) g46.1 g46.2 (fun c45 => ?_) (fun c45 => ?_)
          · have h37 := zti c45 h37
            refine g_lv (M := mX8_laysProfile) [0, 1, 2] rfl ?_
            exact r37 _ (e37 _ (Option.some.inj h37).symm)
          · have h37 := zfi (Int.not_le.mpr c45) h37
            refine g_aload_n (M := mX8_laysProfile) dX8_laysProfile_63 0 rfl rfl ?_
            refine k_get (M := mX8_laysProfile) (v := .ref (A (qMo + 14))) dX8_laysProfile_64 kF_X8_57.r qMo (by omega) (zC_o) rfl ?_
            refine h_iconst (M := mX8_laysProfile) dX8_laysProfile_67 ?_
            refine g_iload_n (M := mX8_laysProfile) dX8_laysProfile_68 3 rfl rfl ?_
            refine h_imul (M := mX8_laysProfile) dX8_laysProfile_69 ?_
            refine g_aload_n (M := mX8_laysProfile) dX8_laysProfile_70 0 rfl rfl ?_
            refine g_iload_n (M := mX8_laysProfile) dX8_laysProfile_71 2 rfl rfl ?_
            refine g_aload_n (M := mX8_laysProfile) dX8_laysProfile_72 0 rfl rfl ?_
            refine g_iload_n (M := mX8_laysProfile) dX8_laysProfile_73 2 rfl rfl ?_
            refine h_iconst (M := mX8_laysProfile) dX8_laysProfile_74 ?_
            obtain ⟨t47, u48, h37⟩ := zbi h37
            refine g_callVr (M := mX8_laysProfile) [.int (iI s5.1), .int (iI 1)] hX dX8_laysProfile_75 vX8_of kM_X8_166 (wX8_of hX zC_self (by omega)  u48) qMo (zWs_at (by omega) (zC_o)) rfl ⟨(Nat.le_of_ble_eq_true rfl), (Nat.le_of_ble_eq_true rfl)⟩ ⟨(Nat.le_of_ble_eq_true rfl), (Nat.le_of_ble_eq_true rfl)⟩ (Nat.le_of_ble_eq_true rfl) ?_
            refine g_iload_n (M := mX8_laysProfile) dX8_laysProfile_78 3 rfl rfl ?_
            refine h_iadd (M := mX8_laysProfile) dX8_laysProfile_79 ?_
            obtain ⟨t49, u50, h37⟩ := zbi h37
            refine g_callVr (M := mX8_laysProfile) [.int (iI s5.1), .int (iI (t47 + s37.1))] hX dX8_laysProfile_80 vX8_letterAt kM_X8_232 (wX8_letterAt hX zC_self (by omega)  u50) qMo (zWs_at (by omega) (zC_o)) rfl ⟨(Nat.le_of_ble_eq_true rfl), (Nat.le_of_ble_eq_true rfl)⟩ ⟨(Nat.le_of_ble_eq_true rfl), (Nat.le_of_ble_eq_true rfl)⟩ (Nat.le_of_ble_eq_true rfl) ?_
            refine h_iadd (M := mX8_laysProfile) dX8_laysProfile_83 ?_
            refine g_dup2_11 (M := mX8_laysProfile) dX8_laysProfile_84 rfl rfl ?_
            obtain ⟨g51, h37⟩ := zgi h37
            refine k_iald (M := mX8_laysProfile) (len := 24) (f := s37.2.2 14) dX8_laysProfile_85 (qMo + 14) (by omega) (zC_a (d := (0, 24)) 13 rfl) (Nat.le_of_ble_eq_true rfl) g51.1 g51.2 ?_
            refine h_iconst (M := mX8_laysProfile) dX8_laysProfile_86 ?_
            refine h_iadd (M := mX8_laysProfile) dX8_laysProfile_87 ?_
            refine c_iast (M := mX8_laysProfile) (len := 24) (d := (0, 24)) dX8_laysProfile_88 13 rfl rfl (by omega) (Nat.le_of_ble_eq_true rfl) g51.1 g51.2 ?_
            refine h_iinc (M := mX8_laysProfile) (j := 3) (lv' := [(0, .ref (A qMo)), (1, .int (iI a1)), (2, .int (iI s5.1)), (3, .int (iI (s37.1 + 1)))]) dX8_laysProfile_89 rfl (Nat.le_of_ble_eq_true rfl) rfl ?_
            refine g_goto (M := mX8_laysProfile) (tgt := 53) dX8_laysProfile_92 (by decide) ?_
            exact b37 _ (Option.some.inj h37).symm
        · have h5 := zti c35 h5
          refine g_goto (M := mX8_laysProfile) (tgt := 95) dX8_laysProfile_48 (by decide) ?_
          refine h_iinc (M := mX8_laysProfile) (j := 2) (lv' := [(0, .ref (A qMo)), (1, .int (iI a1)), (2, .int (iI (s5.1 + 1)))]) dX8_laysProfile_95 rfl (Nat.le_of_ble_eq_true rfl) rfl ?_
          refine g_goto (M := mX8_laysProfile) (tgt := 23) dX8_laysProfile_98 (by decide) ?_
          exact b5 _ (Option.some.inj h5).symm
  refine zLp_J (J := fun s1 => G X mX8_laysProfile (zPm X 1 0 0 (zRet (zWs A n (zC X A shMo qMo res S)) none)) 0 0 2 [(0, .ref (A qMo)), (1, .int (iI a1)), (2, .int (iI s1.1))] [] (zWs A n (zC X A shMo qMo s1.2 S))) (fun s1 w1 h1 b1 e1 => ?_) _ _ l1
  refine g_iload_n (M := mX8_laysProfile) dX8_laysProfile_2 2 rfl rfl ?_
  refine h_bipush (M := mX8_laysProfile) dX8_laysProfile_3 rfl ?_
  obtain ⟨g53, h1⟩ := zgi h1
  refine h_icmp_ge (M := mX8_laysProfile) (tgt := 21) dX8_laysProfile_5 (by decide) g53 (by decide) (fun c52 => ?_) (fun c52 => ?_)
  · have h1 := zti c52 h1
    refine g_lv (M := mX8_laysProfile) [0, 1] rfl ?_
    exact r1 _ (e1 _ (Option.some.inj h1).symm)
  · have h1 := zfi (Int.not_le.mpr c52) h1
    refine g_aload_n (M := mX8_laysProfile) dX8_laysProfile_8 0 rfl rfl ?_
    refine k_get (M := mX8_laysProfile) (v := .ref (A (qMo + 14))) dX8_laysProfile_9 kF_X8_57.r qMo (by omega) (zC_o) rfl ?_
    refine g_iload_n (M := mX8_laysProfile) dX8_laysProfile_12 2 rfl rfl ?_
    refine h_iconst (M := mX8_laysProfile) dX8_laysProfile_13 ?_
    obtain ⟨g54, h1⟩ := zgi h1
    refine c_iast (M := mX8_laysProfile) (len := 24) (d := (0, 24)) dX8_laysProfile_14 13 rfl rfl (by omega) (Nat.le_of_ble_eq_true rfl) g54.1 g54.2 ?_
    refine h_iinc (M := mX8_laysProfile) (j := 2) (lv' := [(0, .ref (A qMo)), (1, .int (iI a1)), (2, .int (iI (s1.1 + 1)))]) dX8_laysProfile_15 rfl (Nat.le_of_ble_eq_true rfl) rfl ?_
    refine g_goto (M := mX8_laysProfile) (tgt := 2) dX8_laysProfile_18 (by decide) ?_
    exact b1 _ (Option.some.inj h1).symm
set_option maxHeartbeats 4000000 in
set_option maxRecDepth 100000 in
theorem wX8_mostAt {X : zX} (hX : zOK X) {A : Nat → Nat} {n : Nat} {S : Nat → va_E} {qMo : Nat} {VMo : CV} (hMo : isC X A shMo qMo VMo S) (bMo : qMo + 20 < n) {a1 : Int} {res : Int} (h : fX8_mostAt VMo a1 = some res) : Con X yX8_mostAt mX8_mostAt 0 0 0 [.ref (A qMo), .int (iI a1)] (zWs A n S) (zRet (zWs A n S) (some (.int (iI res)))) := by
  refine con_of (lv := [(0, .ref (A qMo)), (1, .int (iI a1))]) (by decide) rfl (fun h => by cases h) rfl (Nat.le_of_ble_eq_true rfl) rfl ?_
  unfold fX8_mostAt at h
  refine h_iconst (M := mX8_mostAt) dX8_mostAt_0 ?_
  refine g_istore_n (M := mX8_mostAt) (lv' := [(0, .ref (A qMo)), (1, .int (iI a1)), (2, .int (iI 0))]) dX8_mostAt_1 rfl (by decide) rfl ?_
  refine h_iconst (M := mX8_mostAt) dX8_mostAt_2 ?_
  refine g_istore_n (M := mX8_mostAt) (lv' := [(0, .ref (A qMo)), (1, .int (iI a1)), (2, .int (iI 0)), (3, .int (iI 1))]) dX8_mostAt_3 rfl (by decide) rfl ?_
  obtain ⟨x1, l1, h⟩ := zbi h
  have r1 : ∀ y1, y1 = x1 → G X mX8_mostAt (zPm X 0 0 0 (zRet (zWs A n S) (some (.int (iI res))))) 0 0 45 [(2, .int (iI y1.1))] [] (zWs A n S) := by
    intro y1 ey
    rw [← ey] at h
    refine g_iload_n (M := mX8_mostAt) dX8_mostAt_45 0 rfl rfl ?_
    have e := (Option.some.inj h)
    subst e
    exact g_iret (M := mX8_mostAt) dX8_mostAt_46 rfl (Nat.le_of_ble_eq_true rfl) (Nat.le_of_ble_eq_true rfl) ⟨rfl, rfl⟩
  refine zLp_J (J := fun s1 => G X mX8_mostAt (zPm X 0 0 0 (zRet (zWs A n S) (some (.int (iI res))))) 0 0 4 [(0, .ref (A qMo)), (1, .int (iI a1)), (2, .int (iI s1.1)), (3, .int (iI s1.2))] [] (zWs A n S)) (fun s1 w1 h1 b1 e1 => ?_) _ _ l1
  refine g_iload_n (M := mX8_mostAt) dX8_mostAt_4 3 rfl rfl ?_
  refine g_aload_n (M := mX8_mostAt) dX8_mostAt_5 0 rfl rfl ?_
  refine k_get (M := mX8_mostAt) (v := .ref (A (qMo + 2))) dX8_mostAt_6 kF_X8_20.r qMo (by omega) (hMo.o) rfl ?_
  refine h_iconst (M := mX8_mostAt) dX8_mostAt_9 ?_
  refine k_iald (M := mX8_mostAt) (len := 351) (f := VMo.2 2) dX8_mostAt_10 (qMo + 2) (by omega) (hMo.a (d := (0, 351)) 1 rfl) (Nat.le_of_ble_eq_true rfl) (by decide) (by decide) ?_
  obtain ⟨g9, h1⟩ := zgi h1
  refine h_icmp_ge (M := mX8_mostAt) (tgt := 45) dX8_mostAt_11 (by decide) g9.1 g9.2 (fun c8 => ?_) (fun c8 => ?_)
  · have h1 := zti c8 h1
    refine g_lv (M := mX8_mostAt) [2] rfl ?_
    exact r1 _ (e1 _ (Option.some.inj h1).symm)
  · have h1 := zfi (Int.not_le.mpr c8) h1
    refine g_aload_n (M := mX8_mostAt) dX8_mostAt_14 0 rfl rfl ?_
    refine k_get (M := mX8_mostAt) (v := .ref (A (qMo + 14))) dX8_mostAt_15 kF_X8_57.r qMo (by omega) (hMo.o) rfl ?_
    refine h_iconst (M := mX8_mostAt) dX8_mostAt_18 ?_
    refine g_iload_n (M := mX8_mostAt) dX8_mostAt_19 1 rfl rfl ?_
    refine h_imul (M := mX8_mostAt) dX8_mostAt_20 ?_
    refine g_iload_n (M := mX8_mostAt) dX8_mostAt_21 3 rfl rfl ?_
    refine h_iadd (M := mX8_mostAt) dX8_mostAt_22 ?_
    obtain ⟨g10, h1⟩ := zgi h1
    refine k_iald (M := mX8_mostAt) (len := 24) (f := VMo.2 14) dX8_mostAt_23 (qMo + 14) (by omega) (hMo.a (d := (0, 24)) 13 rfl) (Nat.le_of_ble_eq_true rfl) g10.1 g10.2 ?_
    refine g_aload_n (M := mX8_mostAt) dX8_mostAt_24 0 rfl rfl ?_
    refine k_get (M := mX8_mostAt) (v := .ref (A (qMo + 14))) dX8_mostAt_25 kF_X8_57.r qMo (by omega) (hMo.o) rfl ?_
    refine h_iconst (M := mX8_mostAt) dX8_mostAt_28 ?_
    refine g_iload_n (M := mX8_mostAt) dX8_mostAt_29 1 rfl rfl ?_
    refine h_imul (M := mX8_mostAt) dX8_mostAt_30 ?_
    refine g_iload_n (M := mX8_mostAt) dX8_mostAt_31 2 rfl rfl ?_
    refine h_iadd (M := mX8_mostAt) dX8_mostAt_32 ?_
    obtain ⟨g11, h1⟩ := zgi h1
    refine k_iald (M := mX8_mostAt) (len := 24) (f := VMo.2 14) dX8_mostAt_33 (qMo + 14) (by omega) (hMo.a (d := (0, 24)) 13 rfl) (Nat.le_of_ble_eq_true rfl) g11.1 g11.2 ?_
    obtain ⟨g13, h1⟩ := zgi h1
    refine h_icmp_le (M := mX8_mostAt) (tgt := 39) dX8_mostAt_34 (by decide) g13.1 g13.2 (fun c12 => ?_) (fun c12 => ?_)
    · have h1 := zti c12 h1
      refine h_iinc (M := mX8_mostAt) (j := 3) (lv' := [(0, .ref (A qMo)), (1, .int (iI a1)), (2, .int (iI s1.1)), (3, .int (iI (s1.2 + 1)))]) dX8_mostAt_39 rfl (Nat.le_of_ble_eq_true rfl) rfl ?_
      refine g_goto (M := mX8_mostAt) (tgt := 4) dX8_mostAt_42 (by decide) ?_
      exact b1 _ (Option.some.inj h1).symm
    · have h1 := zfi (Int.not_le.mpr c12) h1
      refine g_iload_n (M := mX8_mostAt) dX8_mostAt_37 3 rfl rfl ?_
      refine g_istore_n (M := mX8_mostAt) (lv' := [(0, .ref (A qMo)), (1, .int (iI a1)), (2, .int (iI s1.2)), (3, .int (iI s1.2))]) dX8_mostAt_38 rfl (by decide) rfl ?_
      refine h_iinc (M := mX8_mostAt) (j := 3) (lv' := [(0, .ref (A qMo)), (1, .int (iI a1)), (2, .int (iI s1.2)), (3, .int (iI (s1.2 + 1)))]) dX8_mostAt_39 rfl (Nat.le_of_ble_eq_true rfl) rfl ?_
      refine g_goto (M := mX8_mostAt) (tgt := 4) dX8_mostAt_42 (by decide) ?_
      exact b1 _ (Option.some.inj h1).symm
set_option maxHeartbeats 4000000 in
set_option maxRecDepth 100000 in
theorem wX8_agrees {X : zX} (hX : zOK X) {A : Nat → Nat} {n : Nat} {S : Nat → va_E} {qMo : Nat} {VMo : CV} (hMo : isC X A shMo qMo VMo S) (bMo : qMo + 20 < n) {res : CV × Int} (h : fX8_agrees VMo = some res) : Con X yX8_agrees mX8_agrees 2 0 0 [.ref (A qMo)] (zWs A n S) (zRet (zWs A n (zC X A shMo qMo res.1 S)) (some (.int (iI res.2)))) := by
  refine con_of (lv := [(0, .ref (A qMo))]) (by decide) rfl (fun h => by cases h) rfl (Nat.le_of_ble_eq_true rfl) rfl ?_
  refine g_ws (M := mX8_agrees) (congrArg (zWs A n) hMo.symm) ?_
  unfold fX8_agrees at h
  refine g_aload_n (M := mX8_agrees) dX8_agrees_0 0 rfl rfl ?_
  refine h_iconst (M := mX8_agrees) dX8_agrees_1 ?_
  obtain ⟨t1, u2, h⟩ := zbi h
  refine g_callVr (M := mX8_agrees) [.int (iI (-1))] hX dX8_agrees_2 vX8_laysProfile kM_X8_347 (wX8_laysProfile hX zC_self (by omega)  u2) qMo (zWs_at (by omega) (zC_o)) rfl ⟨(Nat.le_of_ble_eq_true rfl), (Nat.le_of_ble_eq_true rfl)⟩ ⟨(Nat.le_of_ble_eq_true rfl), (Nat.le_of_ble_eq_true rfl)⟩ (Nat.le_of_ble_eq_true rfl) ?_
  refine g_ws (M := mX8_agrees) (congrArg (zWs A n) zC_over) ?_
  refine h_iconst (M := mX8_agrees) dX8_agrees_5 ?_
  refine g_istore_n (M := mX8_agrees) (lv' := [(0, .ref (A qMo)), (1, .int (iI 0))]) dX8_agrees_6 rfl (by decide) rfl ?_
  refine h_iconst (M := mX8_agrees) dX8_agrees_7 ?_
  refine g_istore_n (M := mX8_agrees) (lv' := [(0, .ref (A qMo)), (1, .int (iI 0)), (2, .int (iI 0))]) dX8_agrees_8 rfl (by decide) rfl ?_
  obtain ⟨x3, l3, h⟩ := zbi h
  have r3 : ∀ y3, y3 = x3 → G X mX8_agrees (zPm X 2 0 0 (zRet (zWs A n (zC X A shMo qMo res.1 S)) (some (.int (iI res.2))))) 0 0 42 [(1, .int (iI y3.1))] [] (zWs A n (zC X A shMo qMo t1 S)) := by
    intro y3 ey
    rw [← ey] at h
    refine g_iload_n (M := mX8_agrees) dX8_agrees_42 0 rfl rfl ?_
    have e := (Option.some.inj h)
    subst e
    exact g_iret (M := mX8_agrees) dX8_agrees_43 rfl (Nat.le_of_ble_eq_true rfl) (Nat.le_of_ble_eq_true rfl) ⟨rfl, rfl⟩
  refine zLp_J (J := fun s3 => G X mX8_agrees (zPm X 2 0 0 (zRet (zWs A n (zC X A shMo qMo res.1 S)) (some (.int (iI res.2))))) 0 0 9 [(0, .ref (A qMo)), (1, .int (iI s3.1)), (2, .int (iI s3.2))] [] (zWs A n (zC X A shMo qMo t1 S))) (fun s3 w3 h3 b3 e3 => ?_) _ _ l3
  refine g_iload_n (M := mX8_agrees) dX8_agrees_9 2 rfl rfl ?_
  refine g_aload_n (M := mX8_agrees) dX8_agrees_10 0 rfl rfl ?_
  refine k_get (M := mX8_agrees) (v := .ref (A (qMo + 2))) dX8_agrees_11 kF_X8_20.r qMo (by omega) (zC_o) rfl ?_
  refine h_iconst (M := mX8_agrees) dX8_agrees_14 ?_
  refine k_iald (M := mX8_agrees) (len := 351) (f := t1.2 2) dX8_agrees_15 (qMo + 2) (by omega) (zC_a (d := (0, 351)) 1 rfl) (Nat.le_of_ble_eq_true rfl) (by decide) (by decide) ?_
  obtain ⟨g10, h3⟩ := zgi h3
  refine h_icmp_ge (M := mX8_agrees) (tgt := 42) dX8_agrees_16 (by decide) g10.1 g10.2 (fun c9 => ?_) (fun c9 => ?_)
  · have h3 := zti c9 h3
    refine g_lv (M := mX8_agrees) [1] rfl ?_
    exact r3 _ (e3 _ (Option.some.inj h3).symm)
  · have h3 := zfi (Int.not_le.mpr c9) h3
    refine g_iload_n (M := mX8_agrees) dX8_agrees_19 1 rfl rfl ?_
    refine g_aload_n (M := mX8_agrees) dX8_agrees_20 0 rfl rfl ?_
    refine k_get (M := mX8_agrees) (v := .ref (A (qMo + 14))) dX8_agrees_21 kF_X8_57.r qMo (by omega) (zC_o) rfl ?_
    refine h_iconst (M := mX8_agrees) dX8_agrees_24 ?_
    refine g_iload_n (M := mX8_agrees) dX8_agrees_25 2 rfl rfl ?_
    refine h_imul (M := mX8_agrees) dX8_agrees_26 ?_
    refine g_aload_n (M := mX8_agrees) dX8_agrees_27 0 rfl rfl ?_
    refine g_iload_n (M := mX8_agrees) dX8_agrees_28 2 rfl rfl ?_
    obtain ⟨t11, u12, h3⟩ := zbi h3
    refine g_callVr (M := mX8_agrees) [.int (iI s3.2)] hX dX8_agrees_29 vX8_mostAt kM_X8_353 (wX8_mostAt hX zC_self (by omega)  u12) qMo (zWs_at (by omega) (zC_o)) rfl ⟨(Nat.le_of_ble_eq_true rfl), (Nat.le_of_ble_eq_true rfl)⟩ ⟨(Nat.le_of_ble_eq_true rfl), (Nat.le_of_ble_eq_true rfl)⟩ (Nat.le_of_ble_eq_true rfl) ?_
    refine h_iadd (M := mX8_agrees) dX8_agrees_32 ?_
    obtain ⟨g13, h3⟩ := zgi h3
    refine k_iald (M := mX8_agrees) (len := 24) (f := t1.2 14) dX8_agrees_33 (qMo + 14) (by omega) (zC_a (d := (0, 24)) 13 rfl) (Nat.le_of_ble_eq_true rfl) g13.1 g13.2 ?_
    refine h_iadd (M := mX8_agrees) dX8_agrees_34 ?_
    refine g_istore_n (M := mX8_agrees) (lv' := [(0, .ref (A qMo)), (1, .int (iI (s3.1 + (t1.2 14 ((4 * s3.2) + t11))))), (2, .int (iI s3.2))]) dX8_agrees_35 rfl (by decide) rfl ?_
    refine h_iinc (M := mX8_agrees) (j := 2) (lv' := [(0, .ref (A qMo)), (1, .int (iI (s3.1 + (t1.2 14 ((4 * s3.2) + t11))))), (2, .int (iI (s3.2 + 1)))]) dX8_agrees_36 rfl (Nat.le_of_ble_eq_true rfl) rfl ?_
    refine g_goto (M := mX8_agrees) (tgt := 9) dX8_agrees_39 (by decide) ?_
    exact b3 _ (Option.some.inj h3).symm
set_option maxHeartbeats 4000000 in
set_option maxRecDepth 100000 in
theorem wX8_agreement {X : zX} (hX : zOK X) {A : Nat → Nat} {n : Nat} {S : Nat → va_E} {qMo : Nat} {VMo : CV} (hMo : isC X A shMo qMo VMo S) (bMo : qMo + 20 < n) {res : CV × Int} (h : fX8_agreement VMo = some res) : Con X yX8_agreement mX8_agreement 3 0 0 [.ref (A qMo)] (zWs A n S) (zRet (zWs A n (zC X A shMo qMo res.1 S)) (some (.int (iI res.2)))) := by
  refine con_of (lv := [(0, .ref (A qMo))]) (by decide) rfl (fun h => by cases h) rfl (Nat.le_of_ble_eq_true rfl) rfl ?_
  refine g_ws (M := mX8_agreement) (congrArg (zWs A n) hMo.symm) ?_
  unfold fX8_agreement at h
  refine g_aload_n (M := mX8_agreement) dX8_agreement_0 0 rfl rfl ?_
  refine h_iconst (M := mX8_agreement) dX8_agreement_1 ?_
  refine c_put (M := mX8_agreement) (k := 0) dX8_agreement_2 kF_X8_81 (by omega) rfl rfl (by decide) rfl rfl ?_
  refine g_aload_n (M := mX8_agreement) dX8_agreement_5 0 rfl rfl ?_
  obtain ⟨t1, u2, h⟩ := zbi h
  refine g_callVr (M := mX8_agreement) [] hX dX8_agreement_6 vX8_agrees kM_X8_356 (wX8_agrees hX zC_self (by omega)  u2) qMo (zWs_at (by omega) (zC_o)) rfl ⟨(Nat.le_of_ble_eq_true rfl), (Nat.le_of_ble_eq_true rfl)⟩ ⟨(Nat.le_of_ble_eq_true rfl), (Nat.le_of_ble_eq_true rfl)⟩ (Nat.le_of_ble_eq_true rfl) ?_
  refine g_ws (M := mX8_agreement) (congrArg (zWs A n) zC_over) ?_
  have e := (Option.some.inj h)
  subst e
  exact g_iret (M := mX8_agreement) dX8_agreement_9 rfl (Nat.le_of_ble_eq_true rfl) (Nat.le_of_ble_eq_true rfl) ⟨rfl, rfl⟩
set_option maxHeartbeats 4000000 in
set_option maxRecDepth 100000 in
theorem wX8_truth {X : zX} (hX : zOK X) {A : Nat → Nat} {n : Nat} {S : Nat → va_E} {a1 : Int} {res : Int} (h : fX8_truth a1 = some res) : Con X yX8_truth mX8_truth 0 0 0 [.int (iI a1)] (zWs A n S) (zRet (zWs A n S) (some (.int (iI res)))) := by
  refine con_of (lv := [(0, .int (iI a1))]) (by decide) rfl (fun h => by cases h) rfl (Nat.le_of_ble_eq_true rfl) rfl ?_
  unfold fX8_truth at h
  refine g_iload_n (M := mX8_truth) dX8_truth_0 0 rfl rfl ?_
  obtain ⟨g2, h⟩ := zgi h
  refine h_if_eq (M := mX8_truth) (tgt := 8) dX8_truth_1 (by decide) g2 (fun c1 => ?_) (fun c1 => ?_)
  · have h := zti c1 h
    refine h_iconst (M := mX8_truth) dX8_truth_8 ?_
    have e := (Option.some.inj h)
    subst e
    exact g_iret (M := mX8_truth) dX8_truth_9 rfl (Nat.le_of_ble_eq_true rfl) (Nat.le_of_ble_eq_true rfl) ⟨rfl, rfl⟩
  · have h := zfi c1 h
    refine h_iconst (M := mX8_truth) dX8_truth_4 ?_
    refine g_goto (M := mX8_truth) (tgt := 9) dX8_truth_5 (by decide) ?_
    have e := (Option.some.inj h)
    subst e
    exact g_iret (M := mX8_truth) dX8_truth_9 rfl (Nat.le_of_ble_eq_true rfl) (Nat.le_of_ble_eq_true rfl) ⟨rfl, rfl⟩
set_option maxHeartbeats 4000000 in
set_option maxRecDepth 100000 in
theorem wX8_chosen {X : zX} (hX : zOK X) {A : Nat → Nat} {n : Nat} {S : Nat → va_E} {qMo : Nat} {VMo : CV} (hMo : isC X A shMo qMo VMo S) (bMo : qMo + 20 < n) {res : Int} (h : fX8_chosen VMo = some res) : Con X yX8_chosen mX8_chosen 1 0 0 [.ref (A qMo)] (zWs A n S) (zRet (zWs A n S) (some (.int (iI res)))) := by
  refine con_of (lv := [(0, .ref (A qMo))]) (by decide) rfl (fun h => by cases h) rfl (Nat.le_of_ble_eq_true rfl) rfl ?_
  unfold fX8_chosen at h
  refine h_iconst (M := mX8_chosen) dX8_chosen_0 ?_
  refine g_istore_n (M := mX8_chosen) (lv' := [(0, .ref (A qMo)), (1, .int (iI 0))]) dX8_chosen_1 rfl (by decide) rfl ?_
  refine h_iconst (M := mX8_chosen) dX8_chosen_2 ?_
  refine g_istore_n (M := mX8_chosen) (lv' := [(0, .ref (A qMo)), (1, .int (iI 0)), (2, .int (iI 0))]) dX8_chosen_3 rfl (by decide) rfl ?_
  obtain ⟨x1, l1, h⟩ := zbi h
  have r1 : ∀ y1, y1 = x1 → G X mX8_chosen (zPm X 1 0 0 (zRet (zWs A n S) (some (.int (iI res))))) 0 0 41 [(1, .int (iI y1.1))] [] (zWs A n S) := by
    intro y1 ey
    rw [← ey] at h
    refine g_iload_n (M := mX8_chosen) dX8_chosen_41 0 rfl rfl ?_
    have e := (Option.some.inj h)
    subst e
    exact g_iret (M := mX8_chosen) dX8_chosen_42 rfl (Nat.le_of_ble_eq_true rfl) (Nat.le_of_ble_eq_true rfl) ⟨rfl, rfl⟩
  refine zLp_J (J := fun s1 => G X mX8_chosen (zPm X 1 0 0 (zRet (zWs A n S) (some (.int (iI res))))) 0 0 4 [(0, .ref (A qMo)), (1, .int (iI s1.1)), (2, .int (iI s1.2))] [] (zWs A n S)) (fun s1 w1 h1 b1 e1 => ?_) _ _ l1
  refine g_iload_n (M := mX8_chosen) dX8_chosen_4 2 rfl rfl ?_
  refine g_aload_n (M := mX8_chosen) dX8_chosen_5 0 rfl rfl ?_
  refine k_get (M := mX8_chosen) (v := .ref (A (qMo + 2))) dX8_chosen_6 kF_X8_20.r qMo (by omega) (hMo.o) rfl ?_
  refine h_iconst (M := mX8_chosen) dX8_chosen_9 ?_
  refine k_iald (M := mX8_chosen) (len := 351) (f := VMo.2 2) dX8_chosen_10 (qMo + 2) (by omega) (hMo.a (d := (0, 351)) 1 rfl) (Nat.le_of_ble_eq_true rfl) (by decide) (by decide) ?_
  obtain ⟨g14, h1⟩ := zgi h1
  refine h_icmp_ge (M := mX8_chosen) (tgt := 41) dX8_chosen_11 (by decide) g14.1 g14.2 (fun c13 => ?_) (fun c13 => ?_)
  · have h1 := zti c13 h1
    refine g_lv (M := mX8_chosen) [1] rfl ?_
    exact r1 _ (e1 _ (Option.some.inj h1).symm)
  · have h1 := zfi (Int.not_le.mpr c13) h1
    refine g_iload_n (M := mX8_chosen) dX8_chosen_14 1 rfl rfl ?_
    refine g_aload_n (M := mX8_chosen) dX8_chosen_15 0 rfl rfl ?_
    refine g_iload_n (M := mX8_chosen) dX8_chosen_16 2 rfl rfl ?_
    refine h_iconst (M := mX8_chosen) dX8_chosen_17 ?_
    obtain ⟨t15, u16, h1⟩ := zbi h1
    refine g_callVr (M := mX8_chosen) [.int (iI s1.2), .int (iI 1)] hX dX8_chosen_18 vX8_of kM_X8_166 (wX8_of hX hMo (by omega)  u16) qMo (zWs_at (by omega) (hMo.o)) rfl ⟨(Nat.le_of_ble_eq_true rfl), (Nat.le_of_ble_eq_true rfl)⟩ ⟨(Nat.le_of_ble_eq_true rfl), (Nat.le_of_ble_eq_true rfl)⟩ (Nat.le_of_ble_eq_true rfl) ?_
    refine h_iconst (M := mX8_chosen) dX8_chosen_21 ?_
    refine zJn_J (J := fun x19 => G X mX8_chosen (zPm X 1 0 0 (zRet (zWs A n S) (some (.int (iI res))))) 0 0 30 [(0, .ref (A qMo)), (2, .int (iI s1.2))] [.int (iI x19), .int (iI s1.1)] (zWs A n S)) h1 (fun x19 h1 => ?_) (fun j19 h1 => ?_)
    · obtain ⟨t20, u21, h1⟩ := zbi h1
      refine g_callSr (M := mX8_chosen) [.int (iI x19)] hX dX8_chosen_30 vX8_truth kM_X8_84 (wX8_truth hX   u21) rfl ⟨(Nat.le_of_ble_eq_true rfl), (Nat.le_of_ble_eq_true rfl)⟩ ⟨(Nat.le_of_ble_eq_true rfl), (Nat.le_of_ble_eq_true rfl)⟩ (Nat.le_of_ble_eq_true rfl) ?_
      refine h_iadd (M := mX8_chosen) dX8_chosen_33 ?_
      refine g_istore_n (M := mX8_chosen) (lv' := [(0, .ref (A qMo)), (2, .int (iI s1.2)), (1, .int (iI (s1.1 + t20)))]) dX8_chosen_34 rfl (by decide) rfl ?_
      refine h_iinc (M := mX8_chosen) (j := 1) (lv' := [(0, .ref (A qMo)), (2, .int (iI (s1.2 + 1))), (1, .int (iI (s1.1 + t20)))]) dX8_chosen_35 rfl (Nat.le_of_ble_eq_true rfl) rfl ?_
      refine g_goto (M := mX8_chosen) (tgt := 4) dX8_chosen_38 (by decide) ?_
      refine g_lv (M := mX8_chosen) [0, 2, 1] rfl ?_
      exact b1 _ (Option.some.inj h1).symm
    · obtain ⟨g23, h1⟩ := zgi h1
      refine h_icmp_eq (M := mX8_chosen) (tgt := 29) dX8_chosen_22 (by decide) g23 (by decide) (fun c22 => ?_) (fun c22 => ?_)
      · have h1 := zti c22 h1
        refine h_iconst (M := mX8_chosen) dX8_chosen_29 ?_
        refine g_lv (M := mX8_chosen) [0, 2] rfl ?_
        exact j19 0 h1
      · have h1 := zfi c22 h1
        refine h_iconst (M := mX8_chosen) dX8_chosen_25 ?_
        refine g_goto (M := mX8_chosen) (tgt := 30) dX8_chosen_26 (by decide) ?_
        refine g_lv (M := mX8_chosen) [0, 2] rfl ?_
        exact j19 1 h1
set_option maxHeartbeats 4000000 in
set_option maxRecDepth 100000 in
theorem wX8_agreementShare {X : zX} (hX : zOK X) {A : Nat → Nat} {n : Nat} {S : Nat → va_E} {qMo : Nat} {VMo : CV} (hMo : isC X A shMo qMo VMo S) (bMo : qMo + 20 < n) {res : CV × UInt32} (h : fX8_agreementShare VMo = some res) : Con X yX8_agreementShare mX8_agreementShare 3 0 0 [.ref (A qMo)] (zWs A n S) (zRet (zWs A n (zC X A shMo qMo res.1 S)) (some (.float res.2))) := by
  refine con_of (lv := [(0, .ref (A qMo))]) (by decide) rfl (fun h => by cases h) rfl (Nat.le_of_ble_eq_true rfl) rfl ?_
  refine g_ws (M := mX8_agreementShare) (congrArg (zWs A n) hMo.symm) ?_
  unfold fX8_agreementShare at h
  refine g_aload_n (M := mX8_agreementShare) dX8_agreementShare_0 0 rfl rfl ?_
  refine h_iconst (M := mX8_agreementShare) dX8_agreementShare_1 ?_
  refine c_put (M := mX8_agreementShare) (k := 0) dX8_agreementShare_2 kF_X8_81 (by omega) rfl rfl (by decide) rfl rfl ?_
  refine g_aload_n (M := mX8_agreementShare) dX8_agreementShare_5 0 rfl rfl ?_
  obtain ⟨t1, u2, h⟩ := zbi h
  refine g_callVr (M := mX8_agreementShare) [] hX dX8_agreementShare_6 vX8_chosen kM_X8_350 (wX8_chosen hX zC_self (by omega)  u2) qMo (zWs_at (by omega) (zC_o)) rfl ⟨(Nat.le_of_ble_eq_true rfl), (Nat.le_of_ble_eq_true rfl)⟩ ⟨(Nat.le_of_ble_eq_true rfl), (Nat.le_of_ble_eq_true rfl)⟩ (Nat.le_of_ble_eq_true rfl) ?_
  refine g_istore_n (M := mX8_agreementShare) (lv' := [(0, .ref (A qMo)), (1, .int (iI t1))]) dX8_agreementShare_9 rfl (by decide) rfl ?_
  refine g_iload_n (M := mX8_agreementShare) dX8_agreementShare_10 1 rfl rfl ?_
  obtain ⟨g4, h⟩ := zgi h
  refine h_if_ne (M := mX8_agreementShare) (tgt := 18) dX8_agreementShare_11 (by decide) g4 (fun c3 => ?_) (fun c3 => ?_)
  · have h := zfi c3 h
    refine g_aload_n (M := mX8_agreementShare) dX8_agreementShare_18 0 rfl rfl ?_
    obtain ⟨t5, u6, h⟩ := zbi h
    refine g_callVr (M := mX8_agreementShare) [] hX dX8_agreementShare_19 vX8_agrees kM_X8_356 (wX8_agrees hX zC_self (by omega)  u6) qMo (zWs_at (by omega) (zC_o)) rfl ⟨(Nat.le_of_ble_eq_true rfl), (Nat.le_of_ble_eq_true rfl)⟩ ⟨(Nat.le_of_ble_eq_true rfl), (Nat.le_of_ble_eq_true rfl)⟩ (Nat.le_of_ble_eq_true rfl) ?_
    refine g_ws (M := mX8_agreementShare) (congrArg (zWs A n) zC_over) ?_
    refine g_i2f (M := mX8_agreementShare) dX8_agreementShare_22 ?_
    refine g_aload_n (M := mX8_agreementShare) dX8_agreementShare_23 0 rfl rfl ?_
    refine k_get (M := mX8_agreementShare) (v := .ref (A (qMo + 2))) dX8_agreementShare_24 kF_X8_20.r qMo (by omega) (zC_o) rfl ?_
    refine h_iconst (M := mX8_agreementShare) dX8_agreementShare_27 ?_
    refine k_iald (M := mX8_agreementShare) (len := 351) (f := t5.1.2 2) dX8_agreementShare_28 (qMo + 2) (by omega) (zC_a (d := (0, 351)) 1 rfl) (Nat.le_of_ble_eq_true rfl) (by decide) (by decide) ?_
    refine g_iload_n (M := mX8_agreementShare) dX8_agreementShare_29 1 rfl rfl ?_
    refine h_imul (M := mX8_agreementShare) dX8_agreementShare_30 ?_
    refine g_i2f (M := mX8_agreementShare) dX8_agreementShare_31 ?_
    obtain ⟨g7, h⟩ := zgci h
    refine g_fdiv (M := mX8_agreementShare) dX8_agreementShare_32 g7 ?_
    have e := (Option.some.inj h)
    subst e
    exact g_fret (M := mX8_agreementShare) dX8_agreementShare_33 rfl (Nat.le_of_ble_eq_true rfl) (Nat.le_of_ble_eq_true rfl) ⟨rfl, rfl⟩
  · have h := zti c3 h
    refine g_fconst0 (M := mX8_agreementShare) dX8_agreementShare_14 ?_
    refine g_goto (M := mX8_agreementShare) (tgt := 33) dX8_agreementShare_15 (by decide) ?_
    have e := (Option.some.inj h)
    subst e
    exact g_fret (M := mX8_agreementShare) dX8_agreementShare_33 rfl (Nat.le_of_ble_eq_true rfl) (Nat.le_of_ble_eq_true rfl) ⟨rfl, rfl⟩
set_option maxHeartbeats 4000000 in
set_option maxRecDepth 100000 in
theorem wX8_here {X : zX} (hX : zOK X) {A : Nat → Nat} {n : Nat} {S : Nat → va_E} {qMo : Nat} {VMo : CV} (hMo : isC X A shMo qMo VMo S) (bMo : qMo + 20 < n) {a1 : Int} {res : Int} (h : fX8_here VMo a1 = some res) : Con X yX8_here mX8_here 0 0 0 [.ref (A qMo), .int (iI a1)] (zWs A n S) (zRet (zWs A n S) (some (.int (iI res)))) := by
  refine con_of (lv := [(0, .ref (A qMo)), (1, .int (iI a1))]) (by decide) rfl (fun h => by cases h) rfl (Nat.le_of_ble_eq_true rfl) rfl ?_
  unfold fX8_here at h
  refine g_aload_n (M := mX8_here) dX8_here_0 0 rfl rfl ?_
  refine k_get (M := mX8_here) (v := .int (iI (VMo.1 4))) dX8_here_1 kF_X8_103.r qMo (by omega) (hMo.o) rfl ?_
  refine g_iload_n (M := mX8_here) dX8_here_4 1 rfl rfl ?_
  refine h_iadd (M := mX8_here) dX8_here_5 ?_
  refine g_aload_n (M := mX8_here) dX8_here_6 0 rfl rfl ?_
  refine k_get (M := mX8_here) (v := .int (iI (VMo.1 3))) dX8_here_7 kF_X8_106.r qMo (by omega) (hMo.o) rfl ?_
  obtain ⟨g2, h⟩ := zgi h
  refine h_icmp_ge (M := mX8_here) (tgt := 27) dX8_here_10 (by decide) g2.1 g2.2 (fun c1 => ?_) (fun c1 => ?_)
  · have h := zti c1 h
    refine h_iconst (M := mX8_here) dX8_here_27 ?_
    have e := (Option.some.inj h)
    subst e
    exact g_iret (M := mX8_here) dX8_here_28 rfl (Nat.le_of_ble_eq_true rfl) (Nat.le_of_ble_eq_true rfl) ⟨rfl, rfl⟩
  · have h := zfi (Int.not_le.mpr c1) h
    refine g_aload_n (M := mX8_here) dX8_here_13 0 rfl rfl ?_
    refine k_get (M := mX8_here) (v := .ref (A (qMo + 1))) dX8_here_14 kF_X8_7.r qMo (by omega) (hMo.o) rfl ?_
    refine g_aload_n (M := mX8_here) dX8_here_17 0 rfl rfl ?_
    refine k_get (M := mX8_here) (v := .int (iI (VMo.1 4))) dX8_here_18 kF_X8_103.r qMo (by omega) (hMo.o) rfl ?_
    refine g_iload_n (M := mX8_here) dX8_here_21 1 rfl rfl ?_
    refine h_iadd (M := mX8_here) dX8_here_22 ?_
    obtain ⟨g3, h⟩ := zgi h
    refine k_iald (M := mX8_here) (len := 600) (f := VMo.2 1) dX8_here_23 (qMo + 1) (by omega) (hMo.a (d := (0, 600)) 0 rfl) (Nat.le_of_ble_eq_true rfl) g3.1 g3.2 ?_
    refine g_goto (M := mX8_here) (tgt := 28) dX8_here_24 (by decide) ?_
    have e := (Option.some.inj h)
    subst e
    exact g_iret (M := mX8_here) dX8_here_28 rfl (Nat.le_of_ble_eq_true rfl) (Nat.le_of_ble_eq_true rfl) ⟨rfl, rfl⟩
set_option maxHeartbeats 4000000 in
set_option maxRecDepth 100000 in
theorem wX8_isLetter {X : zX} (hX : zOK X) {A : Nat → Nat} {n : Nat} {S : Nat → va_E} {a1 : Int} {res : Bool} (h : fX8_isLetter a1 = some res) : Con X yX8_isLetter mX8_isLetter 0 0 0 [.int (iI a1)] (zWs A n S) (zRet (zWs A n S) (some (.int (iI (b2 res))))) := by
  refine con_of (lv := [(0, .int (iI a1))]) (by decide) rfl (fun h => by cases h) rfl (Nat.le_of_ble_eq_true rfl) rfl ?_
  unfold fX8_isLetter at h
  refine g_iload_n (M := mX8_isLetter) dX8_isLetter_0 0 rfl rfl ?_
  refine h_bipush (M := mX8_isLetter) dX8_isLetter_1 rfl ?_
  obtain ⟨g2, h⟩ := zgi h
  refine h_icmp_lt (M := mX8_isLetter) (tgt := 16) dX8_isLetter_3 (by decide) g2 (by decide) (fun c1 => ?_) (fun c1 => ?_)
  · have h := zti c1 h
    refine h_iconst (M := mX8_isLetter) dX8_isLetter_16 ?_
    have e := (Option.some.inj h)
    subst e
    exact g_zret (M := mX8_isLetter) .boolean dX8_isLetter_17 rfl rfl (Nat.le_of_ble_eq_true rfl) (Nat.le_of_ble_eq_true rfl) ⟨rfl, rfl⟩
  · have h := zfi (Int.not_lt.mpr c1) h
    refine g_iload_n (M := mX8_isLetter) dX8_isLetter_6 0 rfl rfl ?_
    refine h_bipush (M := mX8_isLetter) dX8_isLetter_7 rfl ?_
    refine h_icmp_gt (M := mX8_isLetter) (tgt := 16) dX8_isLetter_9 (by decide) g2 (by decide) (fun c3 => ?_) (fun c3 => ?_)
    · have h := zti c3 h
      refine h_iconst (M := mX8_isLetter) dX8_isLetter_16 ?_
      have e := (Option.some.inj h)
      subst e
      exact g_zret (M := mX8_isLetter) .boolean dX8_isLetter_17 rfl rfl (Nat.le_of_ble_eq_true rfl) (Nat.le_of_ble_eq_true rfl) ⟨rfl, rfl⟩
    · have h := zfi (Int.not_lt.mpr c3) h
      refine h_iconst (M := mX8_isLetter) dX8_isLetter_12 ?_
      refine g_goto (M := mX8_isLetter) (tgt := 17) dX8_isLetter_13 (by decide) ?_
      have e := (Option.some.inj h)
      subst e
      exact g_zret (M := mX8_isLetter) .boolean dX8_isLetter_17 rfl rfl (Nat.le_of_ble_eq_true rfl) (Nat.le_of_ble_eq_true rfl) ⟨rfl, rfl⟩
set_option maxHeartbeats 4000000 in
set_option maxRecDepth 100000 in
theorem wX8_isDigit {X : zX} (hX : zOK X) {A : Nat → Nat} {n : Nat} {S : Nat → va_E} {a1 : Int} {res : Bool} (h : fX8_isDigit a1 = some res) : Con X yX8_isDigit mX8_isDigit 0 0 0 [.int (iI a1)] (zWs A n S) (zRet (zWs A n S) (some (.int (iI (b2 res))))) := by
  refine con_of (lv := [(0, .int (iI a1))]) (by decide) rfl (fun h => by cases h) rfl (Nat.le_of_ble_eq_true rfl) rfl ?_
  unfold fX8_isDigit at h
  refine g_iload_n (M := mX8_isDigit) dX8_isDigit_0 0 rfl rfl ?_
  refine h_bipush (M := mX8_isDigit) dX8_isDigit_1 rfl ?_
  obtain ⟨g2, h⟩ := zgi h
  refine h_icmp_lt (M := mX8_isDigit) (tgt := 16) dX8_isDigit_3 (by decide) g2 (by decide) (fun c1 => ?_) (fun c1 => ?_)
  · have h := zti c1 h
    refine h_iconst (M := mX8_isDigit) dX8_isDigit_16 ?_
    have e := (Option.some.inj h)
    subst e
    exact g_zret (M := mX8_isDigit) .boolean dX8_isDigit_17 rfl rfl (Nat.le_of_ble_eq_true rfl) (Nat.le_of_ble_eq_true rfl) ⟨rfl, rfl⟩
  · have h := zfi (Int.not_lt.mpr c1) h
    refine g_iload_n (M := mX8_isDigit) dX8_isDigit_6 0 rfl rfl ?_
    refine h_bipush (M := mX8_isDigit) dX8_isDigit_7 rfl ?_
    refine h_icmp_gt (M := mX8_isDigit) (tgt := 16) dX8_isDigit_9 (by decide) g2 (by decide) (fun c3 => ?_) (fun c3 => ?_)
    · have h := zti c3 h
      refine h_iconst (M := mX8_isDigit) dX8_isDigit_16 ?_
      have e := (Option.some.inj h)
      subst e
      exact g_zret (M := mX8_isDigit) .boolean dX8_isDigit_17 rfl rfl (Nat.le_of_ble_eq_true rfl) (Nat.le_of_ble_eq_true rfl) ⟨rfl, rfl⟩
    · have h := zfi (Int.not_lt.mpr c3) h
      refine h_iconst (M := mX8_isDigit) dX8_isDigit_12 ?_
      refine g_goto (M := mX8_isDigit) (tgt := 17) dX8_isDigit_13 (by decide) ?_
      have e := (Option.some.inj h)
      subst e
      exact g_zret (M := mX8_isDigit) .boolean dX8_isDigit_17 rfl rfl (Nat.le_of_ble_eq_true rfl) (Nat.le_of_ble_eq_true rfl) ⟨rfl, rfl⟩
set_option maxHeartbeats 4000000 in
set_option maxRecDepth 100000 in
theorem wX8_goOn {X : zX} (hX : zOK X) {A : Nat → Nat} {n : Nat} {S : Nat → va_E} {qMo : Nat} {VMo : CV} (hMo : isC X A shMo qMo VMo S) (bMo : qMo + 20 < n) {res : CV} (h : fX8_goOn VMo = some res) : Con X yX8_goOn mX8_goOn 1 0 0 [.ref (A qMo)] (zWs A n S) (zRet (zWs A n (zC X A shMo qMo res S)) none) := by
  refine con_of (lv := [(0, .ref (A qMo))]) (by decide) rfl (fun h => by cases h) rfl (Nat.le_of_ble_eq_true rfl) rfl ?_
  refine g_ws (M := mX8_goOn) (congrArg (zWs A n) hMo.symm) ?_
  unfold fX8_goOn at h
  obtain ⟨x1, l1, h⟩ := zbi h
  have r1 : ∀ y1, y1 = x1 → G X mX8_goOn (zPm X 1 0 0 (zRet (zWs A n (zC X A shMo qMo res S)) none)) 0 0 33 [(0, .ref (A qMo))] [] (zWs A n (zC X A shMo qMo y1 S)) := by
    intro y1 ey
    rw [← ey] at h
    refine g_aload_n (M := mX8_goOn) dX8_goOn_33 0 rfl rfl ?_
    refine g_aload_n (M := mX8_goOn) dX8_goOn_34 0 rfl rfl ?_
    refine k_get (M := mX8_goOn) (v := .int (iI (y1.1 4))) dX8_goOn_35 kF_X8_103.r qMo (by omega) (zC_o) rfl ?_
    refine c_put (M := mX8_goOn) (k := 5) dX8_goOn_38 kF_X8_113 (by omega) rfl rfl (by decide) rfl rfl ?_
    refine g_aload_n (M := mX8_goOn) dX8_goOn_41 0 rfl rfl ?_
    refine g_lconst (M := mX8_goOn) (v := iL 0) dX8_goOn_42 rfl ?_
    refine c_putl (M := mX8_goOn) (k := 13) dX8_goOn_43 kF_X8_116 (by omega) rfl rfl (by decide) rfl rfl ?_
    refine g_aload_n (M := mX8_goOn) dX8_goOn_46 0 rfl rfl ?_
    refine h_iconst (M := mX8_goOn) dX8_goOn_47 ?_
    refine c_put (M := mX8_goOn) (k := 7) dX8_goOn_48 kF_X8_120 (by omega) rfl rfl (by decide) rfl rfl ?_
    refine g_aload_n (M := mX8_goOn) dX8_goOn_51 0 rfl rfl ?_
    refine h_iconst (M := mX8_goOn) dX8_goOn_52 ?_
    refine c_put (M := mX8_goOn) (k := 8) dX8_goOn_53 kF_X8_123 (by omega) rfl rfl (by decide) rfl rfl ?_
    refine g_aload_n (M := mX8_goOn) dX8_goOn_56 0 rfl rfl ?_
    refine h_iconst (M := mX8_goOn) dX8_goOn_57 ?_
    obtain ⟨t10, u11, h⟩ := zbi h
    refine g_callVr (M := mX8_goOn) [.int (iI 0)] hX dX8_goOn_58 vX8_here kM_X8_109 (wX8_here hX zC_self (by omega)  u11) qMo (zWs_at (by omega) (zC_o)) rfl ⟨(Nat.le_of_ble_eq_true rfl), (Nat.le_of_ble_eq_true rfl)⟩ ⟨(Nat.le_of_ble_eq_true rfl), (Nat.le_of_ble_eq_true rfl)⟩ (Nat.le_of_ble_eq_true rfl) ?_
    refine g_istore_n (M := mX8_goOn) (lv' := [(0, .ref (A qMo)), (1, .int (iI t10))]) dX8_goOn_61 rfl (by decide) rfl ?_
    refine h_iconst (M := mX8_goOn) dX8_goOn_62 ?_
    refine g_istore_n (M := mX8_goOn) (lv' := [(0, .ref (A qMo)), (1, .int (iI t10)), (2, .int (iI 0))]) dX8_goOn_63 rfl (by decide) rfl ?_
    refine g_iload_n (M := mX8_goOn) dX8_goOn_64 1 rfl rfl ?_
    obtain ⟨g13, h⟩ := zgi h
    refine h_if_ge (M := mX8_goOn) (tgt := 74) dX8_goOn_65 (by decide) g13 (fun c12 => ?_) (fun c12 => ?_)
    · have h := zti c12 h
      refine g_iload_n (M := mX8_goOn) dX8_goOn_74 1 rfl rfl ?_
      obtain ⟨t14, u15, h⟩ := zbi h
      refine g_callSr (M := mX8_goOn) [.int (iI t10)] hX dX8_goOn_75 vX8_isLetter kM_X8_129 (wX8_isLetter hX   u15) rfl ⟨(Nat.le_of_ble_eq_true rfl), (Nat.le_of_ble_eq_true rfl)⟩ ⟨(Nat.le_of_ble_eq_true rfl), (Nat.le_of_ble_eq_true rfl)⟩ (Nat.le_of_ble_eq_true rfl) ?_
      refine h_beq (M := mX8_goOn) (tgt := 149) dX8_goOn_78 (by decide) (fun c16 => ?_) (fun c16 => ?_)
      · have h := zfi (zbf c16) h
        refine g_iload_n (M := mX8_goOn) dX8_goOn_149 1 rfl rfl ?_
        obtain ⟨t17, u18, h⟩ := zbi h
        refine g_callSr (M := mX8_goOn) [.int (iI t10)] hX dX8_goOn_150 vX8_isDigit kM_X8_133 (wX8_isDigit hX   u18) rfl ⟨(Nat.le_of_ble_eq_true rfl), (Nat.le_of_ble_eq_true rfl)⟩ ⟨(Nat.le_of_ble_eq_true rfl), (Nat.le_of_ble_eq_true rfl)⟩ (Nat.le_of_ble_eq_true rfl) ?_
        refine h_beq (M := mX8_goOn) (tgt := 215) dX8_goOn_153 (by decide) (fun c19 => ?_) (fun c19 => ?_)
        · have h := zfi (zbf c19) h
          refine g_aload_n (M := mX8_goOn) dX8_goOn_215 0 rfl rfl ?_
          refine g_iload_n (M := mX8_goOn) dX8_goOn_216 1 rfl rfl ?_
          refine h_bipush (M := mX8_goOn) dX8_goOn_217 rfl ?_
          refine zJn_J (J := fun x27 => G X mX8_goOn (zPm X 1 0 0 (zRet (zWs A n (zC X A shMo qMo res S)) none)) 0 0 239 [(0, .ref (A qMo)), (1, .int (iI t10))] [.int (iI x27), .ref (A qMo)] (zWs A n (zC X A shMo qMo (zPu (zPu (zPu (zPu y1 5 (y1.1 4)) 13 0) 7 0) 8 0) S))) h (fun x27 h => ?_) (fun j27 h => ?_)
          · refine c_put (M := mX8_goOn) (k := 6) dX8_goOn_239 kF_X8_126 (by omega) rfl rfl (by decide) rfl rfl ?_
            refine g_aload_n (M := mX8_goOn) dX8_goOn_242 0 rfl rfl ?_
            refine g_iload_n (M := mX8_goOn) dX8_goOn_243 1 rfl rfl ?_
            refine c_put (M := mX8_goOn) (k := 7) dX8_goOn_244 kF_X8_120 (by omega) rfl rfl (by decide) rfl rfl ?_
            refine h_iconst (M := mX8_goOn) dX8_goOn_247 ?_
            refine g_istore_n (M := mX8_goOn) (lv' := [(0, .ref (A qMo)), (1, .int (iI t10)), (2, .int (iI 1))]) dX8_goOn_248 rfl (by decide) rfl ?_
            refine g_aload_n (M := mX8_goOn) dX8_goOn_249 0 rfl rfl ?_
            refine g_dup (M := mX8_goOn) dX8_goOn_250 rfl ?_
            refine k_get (M := mX8_goOn) (v := .int (iI (y1.1 4))) dX8_goOn_251 kF_X8_103.r qMo (by omega) (zC_o) rfl ?_
            refine g_iload_n (M := mX8_goOn) dX8_goOn_254 2 rfl rfl ?_
            refine h_iadd (M := mX8_goOn) dX8_goOn_255 ?_
            refine c_put (M := mX8_goOn) (k := 4) dX8_goOn_256 kF_X8_103 (by omega) rfl rfl (by decide) rfl rfl ?_
            have e := (Option.some.inj h)
            subst e
            exact g_vret (M := mX8_goOn) dX8_goOn_259 rfl (Nat.le_of_ble_eq_true rfl) (Nat.le_of_ble_eq_true rfl) ⟨rfl, rfl⟩
          · refine zJn_J (J := fun x31 => G X mX8_goOn (zPm X 1 0 0 (zRet (zWs A n (zC X A shMo qMo res S)) none)) 0 0 234 [(0, .ref (A qMo)), (1, .int (iI t10))] [.ref (A qMo)] (zWs A n (zC X A shMo qMo (zPu (zPu (zPu (zPu y1 5 (y1.1 4)) 13 0) 7 0) 8 0) S))) h (fun x31 h => ?_) (fun j31 h => ?_)
            · refine h_iconst (M := mX8_goOn) dX8_goOn_234 ?_
              refine g_goto (M := mX8_goOn) (tgt := 239) dX8_goOn_235 (by decide) ?_
              exact j27 3 h
            · refine h_icmp_eq (M := mX8_goOn) (tgt := 234) dX8_goOn_219 (by decide) g13 (by decide) (fun c32 => ?_) (fun c32 => ?_)
              · have h := zti c32 h
                refine g_lv (M := mX8_goOn) [0, 1] rfl ?_
                exact j31 () h
              · have h := zfi c32 h
                refine g_iload_n (M := mX8_goOn) dX8_goOn_222 1 rfl rfl ?_
                refine h_bipush (M := mX8_goOn) dX8_goOn_223 rfl ?_
                refine h_icmp_eq (M := mX8_goOn) (tgt := 234) dX8_goOn_225 (by decide) g13 (by decide) (fun c33 => ?_) (fun c33 => ?_)
                · have h := zti c33 h
                  refine g_lv (M := mX8_goOn) [0, 1] rfl ?_
                  exact j31 () h
                · have h := zfi c33 h
                  refine g_iload_n (M := mX8_goOn) dX8_goOn_228 1 rfl rfl ?_
                  refine h_bipush (M := mX8_goOn) dX8_goOn_229 rfl ?_
                  refine h_icmp_ne (M := mX8_goOn) (tgt := 238) dX8_goOn_231 (by decide) g13 (by decide) (fun c34 => ?_) (fun c34 => ?_)
                  · have h := zfi c34 h
                    refine h_iconst (M := mX8_goOn) dX8_goOn_238 ?_
                    refine g_lv (M := mX8_goOn) [0, 1] rfl ?_
                    exact j27 4 h
                  · have h := zti c34 h
                    refine g_lv (M := mX8_goOn) [0, 1] rfl ?_
                    exact j31 () h
        · have h := zti c19 h
          obtain ⟨x35, l35, h⟩ := zbi h
          have r35 : ∀ y35, y35 = x35 → G X mX8_goOn (zPm X 1 0 0 (zRet (zWs A n (zC X A shMo qMo res S)) none)) 0 0 198 [(0, .ref (A qMo)), (2, .int (iI y35.1))] [] (zWs A n (zC X A shMo qMo y35.2 S)) := by
            intro y35 ey
            rw [← ey] at h
            refine g_aload_n (M := mX8_goOn) dX8_goOn_198 0 rfl rfl ?_
            refine g_iload_n (M := mX8_goOn) dX8_goOn_199 1 rfl rfl ?_
            refine h_iconst (M := mX8_goOn) dX8_goOn_200 ?_
            obtain ⟨g46, h⟩ := zgi h
            refine h_icmp_le (M := mX8_goOn) (tgt := 208) dX8_goOn_201 (by decide) g46 (by decide) (fun c45 => ?_) (fun c45 => ?_)
            · have h := zti c45 h
              refine h_iconst (M := mX8_goOn) dX8_goOn_208 ?_
              refine c_put (M := mX8_goOn) (k := 6) dX8_goOn_209 kF_X8_126 (by omega) rfl rfl (by decide) rfl rfl ?_
              refine g_goto (M := mX8_goOn) (tgt := 249) dX8_goOn_212 (by decide) ?_
              refine g_aload_n (M := mX8_goOn) dX8_goOn_249 0 rfl rfl ?_
              refine g_dup (M := mX8_goOn) dX8_goOn_250 rfl ?_
              refine k_get (M := mX8_goOn) (v := .int (iI (y35.2.1 4))) dX8_goOn_251 kF_X8_103.r qMo (by omega) (zC_o) rfl ?_
              refine g_iload_n (M := mX8_goOn) dX8_goOn_254 1 rfl rfl ?_
              refine h_iadd (M := mX8_goOn) dX8_goOn_255 ?_
              refine c_put (M := mX8_goOn) (k := 4) dX8_goOn_256 kF_X8_103 (by omega) rfl rfl (by decide) rfl rfl ?_
              have e := (Option.some.inj h)
              subst e
              exact g_vret (M := mX8_goOn) dX8_goOn_259 rfl (Nat.le_of_ble_eq_true rfl) (Nat.le_of_ble_eq_true rfl) ⟨rfl, rfl⟩
            · have h := zfi (Int.not_le.mpr c45) h
              refine h_iconst (M := mX8_goOn) dX8_goOn_204 ?_
              refine g_goto (M := mX8_goOn) (tgt := 209) dX8_goOn_205 (by decide) ?_
              refine c_put (M := mX8_goOn) (k := 6) dX8_goOn_209 kF_X8_126 (by omega) rfl rfl (by decide) rfl rfl ?_
              refine g_goto (M := mX8_goOn) (tgt := 249) dX8_goOn_212 (by decide) ?_
              refine g_aload_n (M := mX8_goOn) dX8_goOn_249 0 rfl rfl ?_
              refine g_dup (M := mX8_goOn) dX8_goOn_250 rfl ?_
              refine k_get (M := mX8_goOn) (v := .int (iI (y35.2.1 4))) dX8_goOn_251 kF_X8_103.r qMo (by omega) (zC_o) rfl ?_
              refine g_iload_n (M := mX8_goOn) dX8_goOn_254 1 rfl rfl ?_
              refine h_iadd (M := mX8_goOn) dX8_goOn_255 ?_
              refine c_put (M := mX8_goOn) (k := 4) dX8_goOn_256 kF_X8_103 (by omega) rfl rfl (by decide) rfl rfl ?_
              have e := (Option.some.inj h)
              subst e
              exact g_vret (M := mX8_goOn) dX8_goOn_259 rfl (Nat.le_of_ble_eq_true rfl) (Nat.le_of_ble_eq_true rfl) ⟨rfl, rfl⟩
          refine g_lv (M := mX8_goOn) [0, 2] rfl ?_
          refine zLp_J (J := fun s35 => G X mX8_goOn (zPm X 1 0 0 (zRet (zWs A n (zC X A shMo qMo res S)) none)) 0 0 156 [(0, .ref (A qMo)), (2, .int (iI s35.1))] [] (zWs A n (zC X A shMo qMo s35.2 S))) (fun s35 w35 h35 b35 e35 => ?_) _ _ l35
          refine g_aload_n (M := mX8_goOn) dX8_goOn_156 0 rfl rfl ?_
          refine g_iload_n (M := mX8_goOn) dX8_goOn_157 1 rfl rfl ?_
          obtain ⟨t47, u48, h35⟩ := zbi h35
          refine g_callVr (M := mX8_goOn) [.int (iI s35.1)] hX dX8_goOn_158 vX8_here kM_X8_109 (wX8_here hX zC_self (by omega)  u48) qMo (zWs_at (by omega) (zC_o)) rfl ⟨(Nat.le_of_ble_eq_true rfl), (Nat.le_of_ble_eq_true rfl)⟩ ⟨(Nat.le_of_ble_eq_true rfl), (Nat.le_of_ble_eq_true rfl)⟩ (Nat.le_of_ble_eq_true rfl) ?_
          obtain ⟨t49, u50, h35⟩ := zbi h35
          refine g_callSr (M := mX8_goOn) [.int (iI t47)] hX dX8_goOn_161 vX8_isDigit kM_X8_133 (wX8_isDigit hX   u50) rfl ⟨(Nat.le_of_ble_eq_true rfl), (Nat.le_of_ble_eq_true rfl)⟩ ⟨(Nat.le_of_ble_eq_true rfl), (Nat.le_of_ble_eq_true rfl)⟩ (Nat.le_of_ble_eq_true rfl) ?_
          refine h_beq (M := mX8_goOn) (tgt := 198) dX8_goOn_164 (by decide) (fun c51 => ?_) (fun c51 => ?_)
          · have h35 := zfi (zbf c51) h35
            exact r35 _ (e35 _ (Option.some.inj h35).symm)
          · have h35 := zti c51 h35
            refine g_iload_n (M := mX8_goOn) dX8_goOn_167 1 rfl rfl ?_
            refine h_iconst (M := mX8_goOn) dX8_goOn_168 ?_
            obtain ⟨g53, h35⟩ := zgi h35
            refine h_icmp_ge (M := mX8_goOn) (tgt := 192) dX8_goOn_169 (by decide) g53 (by decide) (fun c52 => ?_) (fun c52 => ?_)
            · have h35 := zti c52 h35
              refine h_iinc (M := mX8_goOn) (j := 1) (lv' := [(0, .ref (A qMo)), (2, .int (iI (s35.1 + 1)))]) dX8_goOn_192 rfl (Nat.le_of_ble_eq_true rfl) rfl ?_
              refine g_goto (M := mX8_goOn) (tgt := 156) dX8_goOn_195 (by decide) ?_
              exact b35 _ (Option.some.inj h35).symm
            · have h35 := zfi (Int.not_le.mpr c52) h35
              refine g_aload_n (M := mX8_goOn) dX8_goOn_172 0 rfl rfl ?_
              refine h_bipush (M := mX8_goOn) dX8_goOn_173 rfl ?_
              refine g_aload_n (M := mX8_goOn) dX8_goOn_175 0 rfl rfl ?_
              refine k_get (M := mX8_goOn) (v := .int (iI (s35.2.1 7))) dX8_goOn_176 kF_X8_120.r qMo (by omega) (zC_o) rfl ?_
              refine h_imul (M := mX8_goOn) dX8_goOn_179 ?_
              refine g_aload_n (M := mX8_goOn) dX8_goOn_180 0 rfl rfl ?_
              refine g_iload_n (M := mX8_goOn) dX8_goOn_181 1 rfl rfl ?_
              obtain ⟨t54, u55, h35⟩ := zbi h35
              refine g_callVr (M := mX8_goOn) [.int (iI s35.1)] hX dX8_goOn_182 vX8_here kM_X8_109 (wX8_here hX zC_self (by omega)  u55) qMo (zWs_at (by omega) (zC_o)) rfl ⟨(Nat.le_of_ble_eq_true rfl), (Nat.le_of_ble_eq_true rfl)⟩ ⟨(Nat.le_of_ble_eq_true rfl), (Nat.le_of_ble_eq_true rfl)⟩ (Nat.le_of_ble_eq_true rfl) ?_
              refine h_iadd (M := mX8_goOn) dX8_goOn_185 ?_
              refine h_bipush (M := mX8_goOn) dX8_goOn_186 rfl ?_
              refine h_isub (M := mX8_goOn) dX8_goOn_188 ?_
              refine c_put (M := mX8_goOn) (k := 7) dX8_goOn_189 kF_X8_120 (by omega) rfl rfl (by decide) rfl rfl ?_
              refine h_iinc (M := mX8_goOn) (j := 1) (lv' := [(0, .ref (A qMo)), (2, .int (iI (s35.1 + 1)))]) dX8_goOn_192 rfl (Nat.le_of_ble_eq_true rfl) rfl ?_
              refine g_goto (M := mX8_goOn) (tgt := 156) dX8_goOn_195 (by decide) ?_
              exact b35 _ (Option.some.inj h35).symm
      · have h := zti c16 h
        obtain ⟨x56, l56, h⟩ := zbi h
        have r56 : ∀ y56, y56 = x56 → G X mX8_goOn (zPm X 1 0 0 (zRet (zWs A n (zC X A shMo qMo res S)) none)) 0 0 126 [(0, .ref (A qMo)), (2, .int (iI y56.1))] [] (zWs A n (zC X A shMo qMo y56.2 S)) := by
          intro y56 ey
          rw [← ey] at h
          refine g_aload_n (M := mX8_goOn) dX8_goOn_126 0 rfl rfl ?_
          refine g_iload_n (M := mX8_goOn) dX8_goOn_127 1 rfl rfl ?_
          refine h_bipush (M := mX8_goOn) dX8_goOn_128 rfl ?_
          refine zJn_J (J := fun x71 => G X mX8_goOn (zPm X 1 0 0 (zRet (zWs A n (zC X A shMo qMo res S)) none)) 0 0 138 [(0, .ref (A qMo)), (2, .int (iI y56.1))] [.int (iI x71), .ref (A qMo)] (zWs A n (zC X A shMo qMo y56.2 S))) h (fun x71 h => ?_) (fun j71 h => ?_)
          · refine c_put (M := mX8_goOn) (k := 6) dX8_goOn_138 kF_X8_126 (by omega) rfl rfl (by decide) rfl rfl ?_
            refine g_aload_n (M := mX8_goOn) dX8_goOn_141 0 rfl rfl ?_
            refine g_iload_n (M := mX8_goOn) dX8_goOn_142 1 rfl rfl ?_
            refine c_put (M := mX8_goOn) (k := 8) dX8_goOn_143 kF_X8_123 (by omega) rfl rfl (by decide) rfl rfl ?_
            refine g_goto (M := mX8_goOn) (tgt := 249) dX8_goOn_146 (by decide) ?_
            refine g_aload_n (M := mX8_goOn) dX8_goOn_249 0 rfl rfl ?_
            refine g_dup (M := mX8_goOn) dX8_goOn_250 rfl ?_
            refine k_get (M := mX8_goOn) (v := .int (iI (y56.2.1 4))) dX8_goOn_251 kF_X8_103.r qMo (by omega) (zC_o) rfl ?_
            refine g_iload_n (M := mX8_goOn) dX8_goOn_254 1 rfl rfl ?_
            refine h_iadd (M := mX8_goOn) dX8_goOn_255 ?_
            refine c_put (M := mX8_goOn) (k := 4) dX8_goOn_256 kF_X8_103 (by omega) rfl rfl (by decide) rfl rfl ?_
            have e := (Option.some.inj h)
            subst e
            exact g_vret (M := mX8_goOn) dX8_goOn_259 rfl (Nat.le_of_ble_eq_true rfl) (Nat.le_of_ble_eq_true rfl) ⟨rfl, rfl⟩
          · obtain ⟨g73, h⟩ := zgi h
            refine h_icmp_le (M := mX8_goOn) (tgt := 137) dX8_goOn_130 (by decide) g73 (by decide) (fun c72 => ?_) (fun c72 => ?_)
            · have h := zti c72 h
              refine h_iconst (M := mX8_goOn) dX8_goOn_137 ?_
              exact j71 1 h
            · have h := zfi (Int.not_le.mpr c72) h
              refine h_iconst (M := mX8_goOn) dX8_goOn_133 ?_
              refine g_goto (M := mX8_goOn) (tgt := 138) dX8_goOn_134 (by decide) ?_
              exact j71 4 h
        refine g_lv (M := mX8_goOn) [0, 2] rfl ?_
        refine zLp_J (J := fun s56 => G X mX8_goOn (zPm X 1 0 0 (zRet (zWs A n (zC X A shMo qMo res S)) none)) 0 0 81 [(0, .ref (A qMo)), (2, .int (iI s56.1))] [] (zWs A n (zC X A shMo qMo s56.2 S))) (fun s56 w56 h56 b56 e56 => ?_) _ _ l56
        refine g_aload_n (M := mX8_goOn) dX8_goOn_81 0 rfl rfl ?_
        refine g_iload_n (M := mX8_goOn) dX8_goOn_82 1 rfl rfl ?_
        obtain ⟨t74, u75, h56⟩ := zbi h56
        refine g_callVr (M := mX8_goOn) [.int (iI s56.1)] hX dX8_goOn_83 vX8_here kM_X8_109 (wX8_here hX zC_self (by omega)  u75) qMo (zWs_at (by omega) (zC_o)) rfl ⟨(Nat.le_of_ble_eq_true rfl), (Nat.le_of_ble_eq_true rfl)⟩ ⟨(Nat.le_of_ble_eq_true rfl), (Nat.le_of_ble_eq_true rfl)⟩ (Nat.le_of_ble_eq_true rfl) ?_
        obtain ⟨t76, u77, h56⟩ := zbi h56
        refine g_callSr (M := mX8_goOn) [.int (iI t74)] hX dX8_goOn_86 vX8_isLetter kM_X8_129 (wX8_isLetter hX   u77) rfl ⟨(Nat.le_of_ble_eq_true rfl), (Nat.le_of_ble_eq_true rfl)⟩ ⟨(Nat.le_of_ble_eq_true rfl), (Nat.le_of_ble_eq_true rfl)⟩ (Nat.le_of_ble_eq_true rfl) ?_
        refine h_beq (M := mX8_goOn) (tgt := 126) dX8_goOn_89 (by decide) (fun c78 => ?_) (fun c78 => ?_)
        · have h56 := zfi (zbf c78) h56
          exact r56 _ (e56 _ (Option.some.inj h56).symm)
        · have h56 := zti c78 h56
          refine g_iload_n (M := mX8_goOn) dX8_goOn_92 1 rfl rfl ?_
          refine h_bipush (M := mX8_goOn) dX8_goOn_93 rfl ?_
          obtain ⟨g80, h56⟩ := zgi h56
          refine h_icmp_ge (M := mX8_goOn) (tgt := 120) dX8_goOn_95 (by decide) g80 (by decide) (fun c79 => ?_) (fun c79 => ?_)
          · have h56 := zti c79 h56
            refine h_iinc (M := mX8_goOn) (j := 1) (lv' := [(0, .ref (A qMo)), (2, .int (iI (s56.1 + 1)))]) dX8_goOn_120 rfl (Nat.le_of_ble_eq_true rfl) rfl ?_
            refine g_goto (M := mX8_goOn) (tgt := 81) dX8_goOn_123 (by decide) ?_
            exact b56 _ (Option.some.inj h56).symm
          · have h56 := zfi (Int.not_le.mpr c79) h56
            refine g_aload_n (M := mX8_goOn) dX8_goOn_98 0 rfl rfl ?_
            refine g_aload_n (M := mX8_goOn) dX8_goOn_99 0 rfl rfl ?_
            refine k_get (M := mX8_goOn) (v := .long (iL (s56.2.1 13))) dX8_goOn_100 kF_X8_116.r qMo (by omega) (zC_o) rfl ?_
            refine h_iconst (M := mX8_goOn) dX8_goOn_103 ?_
            obtain ⟨g81, h56⟩ := zgi h56
            refine g_lshl (M := mX8_goOn) dX8_goOn_104 rfl ?_
            refine h_topl (M := mX8_goOn) (b := (s56.2.1 13) * zP2 5) (iL_shl g81 (show (0 : Int) ≤ (5 : Int) ∧ (5 : Int) < (64 : Int) from by decide)) ?_
            refine g_aload_n (M := mX8_goOn) dX8_goOn_105 0 rfl rfl ?_
            refine g_iload_n (M := mX8_goOn) dX8_goOn_106 1 rfl rfl ?_
            obtain ⟨t82, u83, h56⟩ := zbi h56
            refine g_callVr (M := mX8_goOn) [.int (iI s56.1)] hX dX8_goOn_107 vX8_here kM_X8_109 (wX8_here hX zC_self (by omega)  u83) qMo (zWs_at (by omega) (zC_o)) rfl ⟨(Nat.le_of_ble_eq_true rfl), (Nat.le_of_ble_eq_true rfl)⟩ ⟨(Nat.le_of_ble_eq_true rfl), (Nat.le_of_ble_eq_true rfl)⟩ (Nat.le_of_ble_eq_true rfl) ?_
            refine h_bipush (M := mX8_goOn) dX8_goOn_110 rfl ?_
            refine h_isub (M := mX8_goOn) dX8_goOn_112 ?_
            refine h_iconst (M := mX8_goOn) dX8_goOn_113 ?_
            refine h_iadd (M := mX8_goOn) dX8_goOn_114 ?_
            obtain ⟨g84, h56⟩ := zgi h56
            refine h_i2l (M := mX8_goOn) dX8_goOn_115 g84 ?_
            obtain ⟨g85, h56⟩ := zgi h56
            refine g_lor (M := mX8_goOn) dX8_goOn_116 ?_
            refine h_topl (M := mX8_goOn) (b := zOr ((s56.2.1 13) * zP2 5) ((t82 - 97) + 1)) (iL_or g85.1 g85.2) ?_
            refine c_putl (M := mX8_goOn) (k := 13) dX8_goOn_117 kF_X8_116 (by omega) rfl rfl (by decide) rfl rfl ?_
            refine h_iinc (M := mX8_goOn) (j := 1) (lv' := [(0, .ref (A qMo)), (2, .int (iI (s56.1 + 1)))]) dX8_goOn_120 rfl (Nat.le_of_ble_eq_true rfl) rfl ?_
            refine g_goto (M := mX8_goOn) (tgt := 81) dX8_goOn_123 (by decide) ?_
            exact b56 _ (Option.some.inj h56).symm
    · have h := zfi (Int.not_le.mpr c12) h
      refine g_aload_n (M := mX8_goOn) dX8_goOn_68 0 rfl rfl ?_
      refine h_iconst (M := mX8_goOn) dX8_goOn_69 ?_
      refine c_put (M := mX8_goOn) (k := 6) dX8_goOn_70 kF_X8_126 (by omega) rfl rfl (by decide) rfl rfl ?_
      have e := (Option.some.inj h)
      subst e
      exact g_vret (M := mX8_goOn) dX8_goOn_73 rfl (Nat.le_of_ble_eq_true rfl) (Nat.le_of_ble_eq_true rfl) ⟨rfl, rfl⟩
  refine zLp_J (J := fun s1 => G X mX8_goOn (zPm X 1 0 0 (zRet (zWs A n (zC X A shMo qMo res S)) none)) 0 0 0 [(0, .ref (A qMo))] [] (zWs A n (zC X A shMo qMo s1 S))) (fun s1 w1 h1 b1 e1 => ?_) _ _ l1
  refine g_aload_n (M := mX8_goOn) dX8_goOn_0 0 rfl rfl ?_
  refine h_iconst (M := mX8_goOn) dX8_goOn_1 ?_
  obtain ⟨t86, u87, h1⟩ := zbi h1
  refine g_callVr (M := mX8_goOn) [.int (iI 0)] hX dX8_goOn_2 vX8_here kM_X8_109 (wX8_here hX zC_self (by omega)  u87) qMo (zWs_at (by omega) (zC_o)) rfl ⟨(Nat.le_of_ble_eq_true rfl), (Nat.le_of_ble_eq_true rfl)⟩ ⟨(Nat.le_of_ble_eq_true rfl), (Nat.le_of_ble_eq_true rfl)⟩ (Nat.le_of_ble_eq_true rfl) ?_
  refine h_bipush (M := mX8_goOn) dX8_goOn_5 rfl ?_
  obtain ⟨g89, h1⟩ := zgi h1
  refine h_icmp_eq (M := mX8_goOn) (tgt := 20) dX8_goOn_7 (by decide) g89 (by decide) (fun c88 => ?_) (fun c88 => ?_)
  · have h1 := zti c88 h1
    refine g_aload_n (M := mX8_goOn) dX8_goOn_20 0 rfl rfl ?_
    refine g_dup (M := mX8_goOn) dX8_goOn_21 rfl ?_
    refine k_get (M := mX8_goOn) (v := .int (iI (s1.1 4))) dX8_goOn_22 kF_X8_103.r qMo (by omega) (zC_o) rfl ?_
    refine h_iconst (M := mX8_goOn) dX8_goOn_25 ?_
    refine h_iadd (M := mX8_goOn) dX8_goOn_26 ?_
    refine c_put (M := mX8_goOn) (k := 4) dX8_goOn_27 kF_X8_103 (by omega) rfl rfl (by decide) rfl rfl ?_
    refine g_goto (M := mX8_goOn) (tgt := 0) dX8_goOn_30 (by decide) ?_
    exact b1 _ (Option.some.inj h1).symm
  · have h1 := zfi c88 h1
    refine g_aload_n (M := mX8_goOn) dX8_goOn_10 0 rfl rfl ?_
    refine h_iconst (M := mX8_goOn) dX8_goOn_11 ?_
    obtain ⟨t90, u91, h1⟩ := zbi h1
    refine g_callVr (M := mX8_goOn) [.int (iI 0)] hX dX8_goOn_12 vX8_here kM_X8_109 (wX8_here hX zC_self (by omega)  u91) qMo (zWs_at (by omega) (zC_o)) rfl ⟨(Nat.le_of_ble_eq_true rfl), (Nat.le_of_ble_eq_true rfl)⟩ ⟨(Nat.le_of_ble_eq_true rfl), (Nat.le_of_ble_eq_true rfl)⟩ (Nat.le_of_ble_eq_true rfl) ?_
    refine h_bipush (M := mX8_goOn) dX8_goOn_15 rfl ?_
    obtain ⟨g93, h1⟩ := zgi h1
    refine h_icmp_ne (M := mX8_goOn) (tgt := 33) dX8_goOn_17 (by decide) g93 (by decide) (fun c92 => ?_) (fun c92 => ?_)
    · have h1 := zfi c92 h1
      exact r1 _ (e1 _ (Option.some.inj h1).symm)
    · have h1 := zti c92 h1
      refine g_aload_n (M := mX8_goOn) dX8_goOn_20 0 rfl rfl ?_
      refine g_dup (M := mX8_goOn) dX8_goOn_21 rfl ?_
      refine k_get (M := mX8_goOn) (v := .int (iI (s1.1 4))) dX8_goOn_22 kF_X8_103.r qMo (by omega) (zC_o) rfl ?_
      refine h_iconst (M := mX8_goOn) dX8_goOn_25 ?_
      refine h_iadd (M := mX8_goOn) dX8_goOn_26 ?_
      refine c_put (M := mX8_goOn) (k := 4) dX8_goOn_27 kF_X8_103 (by omega) rfl rfl (by decide) rfl rfl ?_
      refine g_goto (M := mX8_goOn) (tgt := 0) dX8_goOn_30 (by decide) ?_
      exact b1 _ (Option.some.inj h1).symm
set_option maxHeartbeats 4000000 in
set_option maxRecDepth 100000 in
theorem wX8_beginsText {X : zX} (hX : zOK X) {A : Nat → Nat} {n : Nat} {S : Nat → va_E} {qMo : Nat} {VMo : CV} (hMo : isC X A shMo qMo VMo S) (bMo : qMo + 20 < n) {res : CV} (h : fX8_beginsText VMo = some res) : Con X yX8_beginsText mX8_beginsText 2 0 0 [.ref (A qMo)] (zWs A n S) (zRet (zWs A n (zC X A shMo qMo res S)) none) := by
  refine con_of (lv := [(0, .ref (A qMo))]) (by decide) rfl (fun h => by cases h) rfl (Nat.le_of_ble_eq_true rfl) rfl ?_
  refine g_ws (M := mX8_beginsText) (congrArg (zWs A n) hMo.symm) ?_
  unfold fX8_beginsText at h
  refine g_aload_n (M := mX8_beginsText) dX8_beginsText_0 0 rfl rfl ?_
  refine g_aload_n (M := mX8_beginsText) dX8_beginsText_1 0 rfl rfl ?_
  refine k_get (M := mX8_beginsText) (v := .int (iI (VMo.1 2))) dX8_beginsText_2 kF_X8_88.r qMo (by omega) (zC_o) rfl ?_
  refine c_put (M := mX8_beginsText) (k := 3) dX8_beginsText_5 kF_X8_106 (by omega) rfl rfl (by decide) rfl rfl ?_
  refine g_aload_n (M := mX8_beginsText) dX8_beginsText_8 0 rfl rfl ?_
  refine h_iconst (M := mX8_beginsText) dX8_beginsText_9 ?_
  refine c_put (M := mX8_beginsText) (k := 2) dX8_beginsText_10 kF_X8_88 (by omega) rfl rfl (by decide) rfl rfl ?_
  refine g_aload_n (M := mX8_beginsText) dX8_beginsText_13 0 rfl rfl ?_
  refine h_iconst (M := mX8_beginsText) dX8_beginsText_14 ?_
  refine c_put (M := mX8_beginsText) (k := 4) dX8_beginsText_15 kF_X8_103 (by omega) rfl rfl (by decide) rfl rfl ?_
  refine g_aload_n (M := mX8_beginsText) dX8_beginsText_18 0 rfl rfl ?_
  refine h_iconst (M := mX8_beginsText) dX8_beginsText_19 ?_
  refine c_put (M := mX8_beginsText) (k := 9) dX8_beginsText_20 kF_X8_136 (by omega) rfl rfl (by decide) rfl rfl ?_
  refine g_aload_n (M := mX8_beginsText) dX8_beginsText_23 0 rfl rfl ?_
  refine h_iconst (M := mX8_beginsText) dX8_beginsText_24 ?_
  refine c_put (M := mX8_beginsText) (k := 10) dX8_beginsText_25 kF_X8_13 (by omega) rfl rfl (by decide) rfl rfl ?_
  refine g_aload_n (M := mX8_beginsText) dX8_beginsText_28 0 rfl rfl ?_
  obtain ⟨t1, u2, h⟩ := zbi h
  refine g_callVr (M := mX8_beginsText) [] hX dX8_beginsText_29 vX8_goOn kM_X8_149 (wX8_goOn hX zC_self (by omega)  u2) qMo (zWs_at (by omega) (zC_o)) rfl ⟨(Nat.le_of_ble_eq_true rfl), (Nat.le_of_ble_eq_true rfl)⟩ ⟨(Nat.le_of_ble_eq_true rfl), (Nat.le_of_ble_eq_true rfl)⟩ (Nat.le_of_ble_eq_true rfl) ?_
  refine g_ws (M := mX8_beginsText) (congrArg (zWs A n) zC_over) ?_
  have e := (Option.some.inj h)
  subst e
  exact g_vret (M := mX8_beginsText) dX8_beginsText_32 rfl (Nat.le_of_ble_eq_true rfl) (Nat.le_of_ble_eq_true rfl) ⟨rfl, rfl⟩
set_option maxHeartbeats 4000000 in
set_option maxRecDepth 100000 in
theorem wX8_isIn {X : zX} (hX : zOK X) {A : Nat → Nat} {n : Nat} {S : Nat → va_E} {a1 : Int} {a2 : Int} {a3 : Int} {res : Bool} (h : fX8_isIn a1 a2 a3 = some res) : Con X yX8_isIn mX8_isIn 0 0 0 [.long (iL a1), .long (iL a2), .long (iL a3)] (zWs A n S) (zRet (zWs A n S) (some (.int (iI (b2 res))))) := by
  refine con_of (lv := [(0, .long (iL a1)), (2, .long (iL a2)), (4, .long (iL a3))]) (by decide) rfl (fun h => by cases h) rfl (Nat.le_of_ble_eq_true rfl) rfl ?_
  unfold fX8_isIn at h
  refine g_lload_n (M := mX8_isIn) dX8_isIn_0 0 rfl rfl ?_
  refine g_lload_n (M := mX8_isIn) dX8_isIn_1 1 rfl rfl ?_
  obtain ⟨g1, h⟩ := zgi h
  refine g_lcmp (M := mX8_isIn) dX8_isIn_2 ?_
  refine h_topx (M := mX8_isIn) (b := zCmp a1 a2) (lg_cmp_i g1.1 g1.2) ?_
  refine h_if_lt (M := mX8_isIn) (tgt := 17) dX8_isIn_3 (by decide) (zCmp_r _ _) (fun c2 => ?_) (fun c2 => ?_)
  · have h := zti c2 h
    refine h_iconst (M := mX8_isIn) dX8_isIn_17 ?_
    have e := (Option.some.inj h)
    subst e
    exact g_zret (M := mX8_isIn) .boolean dX8_isIn_18 rfl rfl (Nat.le_of_ble_eq_true rfl) (Nat.le_of_ble_eq_true rfl) ⟨rfl, rfl⟩
  · have h := zfi (Int.not_lt.mpr c2) h
    refine g_lload_n (M := mX8_isIn) dX8_isIn_6 0 rfl rfl ?_
    refine g_lload (M := mX8_isIn) dX8_isIn_7 2 rfl ?_
    obtain ⟨g3, h⟩ := zgi h
    refine g_lcmp (M := mX8_isIn) dX8_isIn_9 ?_
    refine h_topx (M := mX8_isIn) (b := zCmp a1 a3) (lg_cmp_i g1.1 g3) ?_
    refine h_if_gt (M := mX8_isIn) (tgt := 17) dX8_isIn_10 (by decide) (zCmp_r _ _) (fun c4 => ?_) (fun c4 => ?_)
    · have h := zti c4 h
      refine h_iconst (M := mX8_isIn) dX8_isIn_17 ?_
      have e := (Option.some.inj h)
      subst e
      exact g_zret (M := mX8_isIn) .boolean dX8_isIn_18 rfl rfl (Nat.le_of_ble_eq_true rfl) (Nat.le_of_ble_eq_true rfl) ⟨rfl, rfl⟩
    · have h := zfi (Int.not_lt.mpr c4) h
      refine h_iconst (M := mX8_isIn) dX8_isIn_13 ?_
      refine g_goto (M := mX8_isIn) (tgt := 18) dX8_isIn_14 (by decide) ?_
      have e := (Option.some.inj h)
      subst e
      exact g_zret (M := mX8_isIn) .boolean dX8_isIn_18 rfl rfl (Nat.le_of_ble_eq_true rfl) (Nat.le_of_ble_eq_true rfl) ⟨rfl, rfl⟩
set_option maxHeartbeats 4000000 in
set_option maxRecDepth 100000 in
theorem wX8_goes {X : zX} (hX : zOK X) {A : Nat → Nat} {n : Nat} {S : Nat → va_E} {qMo : Nat} {VMo : CV} (hMo : isC X A shMo qMo VMo S) (bMo : qMo + 20 < n) {a1 : Int} {res : CV × Bool} (h : fX8_goes VMo a1 = some res) : Con X yX8_goes mX8_goes 1 0 0 [.ref (A qMo), .int (iI a1)] (zWs A n S) (zRet (zWs A n (zC X A shMo qMo res.1 S)) (some (.int (iI (b2 res.2))))) := by
  refine con_of (lv := [(0, .ref (A qMo)), (1, .int (iI a1))]) (by decide) rfl (fun h => by cases h) rfl (Nat.le_of_ble_eq_true rfl) rfl ?_
  refine g_ws (M := mX8_goes) (congrArg (zWs A n) hMo.symm) ?_
  unfold fX8_goes at h
  refine g_aload_n (M := mX8_goes) dX8_goes_0 0 rfl rfl ?_
  refine g_iload_n (M := mX8_goes) dX8_goes_1 1 rfl rfl ?_
  refine zJn_J (J := fun x3 => G X mX8_goes (zPm X 1 0 0 (zRet (zWs A n (zC X A shMo qMo res.1 S)) (some (.int (iI (b2 res.2)))))) 0 0 10 [(1, .int (iI a1))] [.int (iI x3), .ref (A qMo)] (zWs A n (zC X A shMo qMo VMo S))) h (fun x3 h => ?_) (fun j3 h => ?_)
  · obtain ⟨t4, u5, h⟩ := zbi h
    refine g_callSr (M := mX8_goes) [.int (iI x3)] hX dX8_goes_10 vX8_truth kM_X8_84 (wX8_truth hX   u5) rfl ⟨(Nat.le_of_ble_eq_true rfl), (Nat.le_of_ble_eq_true rfl)⟩ ⟨(Nat.le_of_ble_eq_true rfl), (Nat.le_of_ble_eq_true rfl)⟩ (Nat.le_of_ble_eq_true rfl) ?_
    refine c_put (M := mX8_goes) (k := 0) dX8_goes_13 kF_X8_81 (by omega) rfl rfl (by decide) rfl rfl ?_
    refine g_iload_n (M := mX8_goes) dX8_goes_16 0 rfl rfl ?_
    obtain ⟨g6, h⟩ := zgi h
    refine h_top (M := mX8_goes) (b := b2 (decide (a1 = 1))) (b2_d g6) ?_
    have e := (Option.some.inj h)
    subst e
    exact g_zret (M := mX8_goes) .boolean dX8_goes_17 rfl (b2_nar _) (Nat.le_of_ble_eq_true rfl) (Nat.le_of_ble_eq_true rfl) ⟨rfl, rfl⟩
  · obtain ⟨g8, h⟩ := zgi h
    refine h_if_ne (M := mX8_goes) (tgt := 9) dX8_goes_2 (by decide) g8 (fun c7 => ?_) (fun c7 => ?_)
    · have h := zfi c7 h
      refine h_iconst (M := mX8_goes) dX8_goes_9 ?_
      refine g_lv (M := mX8_goes) [1] rfl ?_
      exact j3 0 h
    · have h := zti c7 h
      refine h_iconst (M := mX8_goes) dX8_goes_5 ?_
      refine g_goto (M := mX8_goes) (tgt := 10) dX8_goes_6 (by decide) ?_
      refine g_lv (M := mX8_goes) [1] rfl ?_
      exact j3 1 h
set_option maxHeartbeats 4000000 in
set_option maxRecDepth 100000 in
theorem wX8_isOut {X : zX} (hX : zOK X) {A : Nat → Nat} {n : Nat} {S : Nat → va_E} {qMo : Nat} {VMo : CV} (hMo : isC X A shMo qMo VMo S) (bMo : qMo + 20 < n) {a1 : Int} {res : Bool} (h : fX8_isOut VMo a1 = some res) : Con X yX8_isOut mX8_isOut 1 0 0 [.ref (A qMo), .int (iI a1)] (zWs A n S) (zRet (zWs A n S) (some (.int (iI (b2 res))))) := by
  refine con_of (lv := [(0, .ref (A qMo)), (1, .int (iI a1))]) (by decide) rfl (fun h => by cases h) rfl (Nat.le_of_ble_eq_true rfl) rfl ?_
  unfold fX8_isOut at h
  refine g_aload_n (M := mX8_isOut) dX8_isOut_0 0 rfl rfl ?_
  refine g_iload_n (M := mX8_isOut) dX8_isOut_1 1 rfl rfl ?_
  refine h_iconst (M := mX8_isOut) dX8_isOut_2 ?_
  obtain ⟨t1, u2, h⟩ := zbi h
  refine g_callVr (M := mX8_isOut) [.int (iI a1), .int (iI 2)] hX dX8_isOut_3 vX8_of kM_X8_166 (wX8_of hX hMo (by omega)  u2) qMo (zWs_at (by omega) (hMo.o)) rfl ⟨(Nat.le_of_ble_eq_true rfl), (Nat.le_of_ble_eq_true rfl)⟩ ⟨(Nat.le_of_ble_eq_true rfl), (Nat.le_of_ble_eq_true rfl)⟩ (Nat.le_of_ble_eq_true rfl) ?_
  refine h_iconst (M := mX8_isOut) dX8_isOut_6 ?_
  obtain ⟨g4, h⟩ := zgi h
  refine h_icmp_ne (M := mX8_isOut) (tgt := 14) dX8_isOut_7 (by decide) g4 (by decide) (fun c3 => ?_) (fun c3 => ?_)
  · have h := zfi c3 h
    refine h_iconst (M := mX8_isOut) dX8_isOut_14 ?_
    have e := (Option.some.inj h)
    subst e
    exact g_zret (M := mX8_isOut) .boolean dX8_isOut_15 rfl rfl (Nat.le_of_ble_eq_true rfl) (Nat.le_of_ble_eq_true rfl) ⟨rfl, rfl⟩
  · have h := zti c3 h
    refine h_iconst (M := mX8_isOut) dX8_isOut_10 ?_
    refine g_goto (M := mX8_isOut) (tgt := 15) dX8_isOut_11 (by decide) ?_
    have e := (Option.some.inj h)
    subst e
    exact g_zret (M := mX8_isOut) .boolean dX8_isOut_15 rfl rfl (Nat.le_of_ble_eq_true rfl) (Nat.le_of_ble_eq_true rfl) ⟨rfl, rfl⟩
set_option maxHeartbeats 4000000 in
set_option maxRecDepth 100000 in
theorem wX8_hasBit {X : zX} (hX : zOK X) {A : Nat → Nat} {n : Nat} {S : Nat → va_E} {a1 : Int} {a2 : Int} {res : Bool} (h : fX8_hasBit a1 a2 = some res) : Con X yX8_hasBit mX8_hasBit 0 0 0 [.int (iI a1), .int (iI a2)] (zWs A n S) (zRet (zWs A n S) (some (.int (iI (b2 res))))) := by
  refine con_of (lv := [(0, .int (iI a1)), (1, .int (iI a2))]) (by decide) rfl (fun h => by cases h) rfl (Nat.le_of_ble_eq_true rfl) rfl ?_
  unfold fX8_hasBit at h
  refine g_iload_n (M := mX8_hasBit) dX8_hasBit_0 0 rfl rfl ?_
  refine g_iload_n (M := mX8_hasBit) dX8_hasBit_1 1 rfl rfl ?_
  obtain ⟨g1, h⟩ := zgi h
  refine g_ishr (M := mX8_hasBit) dX8_hasBit_2 ?_
  refine h_topx (M := mX8_hasBit) (b := a1 / zP2 a2) (iI_shr g1.1 g1.2) ?_
  refine h_iconst (M := mX8_hasBit) dX8_hasBit_3 ?_
  refine g_iand (M := mX8_hasBit) dX8_hasBit_4 ?_
  refine h_topx (M := mX8_hasBit) (b := (a1 / zP2 a2) % 2) (iI_mask _ 1 (by decide)) ?_
  refine h_iconst (M := mX8_hasBit) dX8_hasBit_5 ?_
  obtain ⟨g3, h⟩ := zgi h
  refine h_icmp_ne (M := mX8_hasBit) (tgt := 13) dX8_hasBit_6 (by decide) g3 (by decide) (fun c2 => ?_) (fun c2 => ?_)
  · have h := zfi c2 h
    refine h_iconst (M := mX8_hasBit) dX8_hasBit_13 ?_
    have e := (Option.some.inj h)
    subst e
    exact g_zret (M := mX8_hasBit) .boolean dX8_hasBit_14 rfl rfl (Nat.le_of_ble_eq_true rfl) (Nat.le_of_ble_eq_true rfl) ⟨rfl, rfl⟩
  · have h := zti c2 h
    refine h_iconst (M := mX8_hasBit) dX8_hasBit_9 ?_
    refine g_goto (M := mX8_hasBit) (tgt := 14) dX8_hasBit_10 (by decide) ?_
    have e := (Option.some.inj h)
    subst e
    exact g_zret (M := mX8_hasBit) .boolean dX8_hasBit_14 rfl rfl (Nat.le_of_ble_eq_true rfl) (Nat.le_of_ble_eq_true rfl) ⟨rfl, rfl⟩
set_option maxHeartbeats 4000000 in
set_option maxRecDepth 100000 in
theorem wX8_isPlace {X : zX} (hX : zOK X) {A : Nat → Nat} {n : Nat} {S : Nat → va_E} {qMo : Nat} {VMo : CV} (hMo : isC X A shMo qMo VMo S) (bMo : qMo + 20 < n) {a1 : Int} {a2 : Int} {res : Bool} (h : fX8_isPlace VMo a1 a2 = some res) : Con X yX8_isPlace mX8_isPlace 2 0 0 [.ref (A qMo), .int (iI a1), .int (iI a2)] (zWs A n S) (zRet (zWs A n S) (some (.int (iI (b2 res))))) := by
  refine con_of (lv := [(0, .ref (A qMo)), (1, .int (iI a1)), (2, .int (iI a2))]) (by decide) rfl (fun h => by cases h) rfl (Nat.le_of_ble_eq_true rfl) rfl ?_
  unfold fX8_isPlace at h
  refine g_aload_n (M := mX8_isPlace) dX8_isPlace_0 0 rfl rfl ?_
  refine g_iload_n (M := mX8_isPlace) dX8_isPlace_1 1 rfl rfl ?_
  obtain ⟨t1, u2, h⟩ := zbi h
  refine g_callVr (M := mX8_isPlace) [.int (iI a1)] hX dX8_isPlace_2 vX8_isOut kM_X8_226 (wX8_isOut hX hMo (by omega)  u2) qMo (zWs_at (by omega) (hMo.o)) rfl ⟨(Nat.le_of_ble_eq_true rfl), (Nat.le_of_ble_eq_true rfl)⟩ ⟨(Nat.le_of_ble_eq_true rfl), (Nat.le_of_ble_eq_true rfl)⟩ (Nat.le_of_ble_eq_true rfl) ?_
  refine h_bne (M := mX8_isPlace) (tgt := 31) dX8_isPlace_5 (by decide) (fun c3 => ?_) (fun c3 => ?_)
  · have h := zti c3 h
    refine h_iconst (M := mX8_isPlace) dX8_isPlace_31 ?_
    have e := (Option.some.inj h)
    subst e
    exact g_zret (M := mX8_isPlace) .boolean dX8_isPlace_32 rfl rfl (Nat.le_of_ble_eq_true rfl) (Nat.le_of_ble_eq_true rfl) ⟨rfl, rfl⟩
  · have h := zfi (zbf c3) h
    refine g_iload_n (M := mX8_isPlace) dX8_isPlace_8 2 rfl rfl ?_
    obtain ⟨g4, h⟩ := zgi h
    refine h_i2l (M := mX8_isPlace) dX8_isPlace_9 g4 ?_
    refine g_lconst (M := mX8_isPlace) (v := iL 0) dX8_isPlace_10 rfl ?_
    refine g_aload_n (M := mX8_isPlace) dX8_isPlace_11 0 rfl rfl ?_
    refine g_iload_n (M := mX8_isPlace) dX8_isPlace_12 1 rfl rfl ?_
    refine h_iconst (M := mX8_isPlace) dX8_isPlace_13 ?_
    obtain ⟨t5, u6, h⟩ := zbi h
    refine g_callVr (M := mX8_isPlace) [.int (iI a1), .int (iI 0)] hX dX8_isPlace_14 vX8_of kM_X8_166 (wX8_of hX hMo (by omega)  u6) qMo (zWs_at (by omega) (hMo.o)) rfl ⟨(Nat.le_of_ble_eq_true rfl), (Nat.le_of_ble_eq_true rfl)⟩ ⟨(Nat.le_of_ble_eq_true rfl), (Nat.le_of_ble_eq_true rfl)⟩ (Nat.le_of_ble_eq_true rfl) ?_
    refine g_aload_n (M := mX8_isPlace) dX8_isPlace_17 0 rfl rfl ?_
    refine k_get (M := mX8_isPlace) (v := .ref (A (qMo + 2))) dX8_isPlace_18 kF_X8_20.r qMo (by omega) (hMo.o) rfl ?_
    refine h_iconst (M := mX8_isPlace) dX8_isPlace_21 ?_
    refine k_iald (M := mX8_isPlace) (len := 351) (f := VMo.2 2) dX8_isPlace_22 (qMo + 2) (by omega) (hMo.a (d := (0, 351)) 1 rfl) (Nat.le_of_ble_eq_true rfl) (by decide) (by decide) ?_
    refine h_isub (M := mX8_isPlace) dX8_isPlace_23 ?_
    obtain ⟨g7, h⟩ := zgi h
    refine h_i2l (M := mX8_isPlace) dX8_isPlace_24 g7 ?_
    obtain ⟨t8, u9, h⟩ := zbi h
    refine g_callSr (M := mX8_isPlace) [.long (iL a2), .long (iL 0), .long (iL (t5 - (VMo.2 2 2)))] hX dX8_isPlace_25 vX8_isIn kM_X8_99 (wX8_isIn hX   u9) rfl ⟨(Nat.le_of_ble_eq_true rfl), (Nat.le_of_ble_eq_true rfl)⟩ ⟨(Nat.le_of_ble_eq_true rfl), (Nat.le_of_ble_eq_true rfl)⟩ (Nat.le_of_ble_eq_true rfl) ?_
    refine h_bne (M := mX8_isPlace) (tgt := 33) dX8_isPlace_28 (by decide) (fun c10 => ?_) (fun c10 => ?_)
    · have h := zti c10 h
      refine h_iconst (M := mX8_isPlace) dX8_isPlace_33 ?_
      refine g_istore_n (M := mX8_isPlace) (lv' := [(0, .ref (A qMo)), (1, .int (iI a1)), (2, .int (iI a2)), (3, .int (iI 1))]) dX8_isPlace_34 rfl (by decide) rfl ?_
      refine h_iconst (M := mX8_isPlace) dX8_isPlace_35 ?_
      refine g_istore (M := mX8_isPlace) (lv' := [(0, .ref (A qMo)), (1, .int (iI a1)), (2, .int (iI a2)), (3, .int (iI 1)), (4, .int (iI 0))]) dX8_isPlace_36 (by decide) rfl ?_
      obtain ⟨x11, l11, h⟩ := zbi h
      have r11 : ∀ y11, y11 = x11 → G X mX8_isPlace (zPm X 2 0 0 (zRet (zWs A n S) (some (.int (iI (b2 res)))))) 0 0 81 [(3, .int (iI y11.1))] [] (zWs A n S) := by
        intro y11 ey
        rw [← ey] at h
        refine g_iload_n (M := mX8_isPlace) dX8_isPlace_81 0 rfl rfl ?_
        obtain ⟨g21, h⟩ := zgi h
        refine h_top (M := mX8_isPlace) (b := b2 (decide (y11.1 = 1))) (b2_d g21) ?_
        have e := (Option.some.inj h)
        subst e
        exact g_zret (M := mX8_isPlace) .boolean dX8_isPlace_82 rfl (b2_nar _) (Nat.le_of_ble_eq_true rfl) (Nat.le_of_ble_eq_true rfl) ⟨rfl, rfl⟩
      refine zLp_J (J := fun s11 => G X mX8_isPlace (zPm X 2 0 0 (zRet (zWs A n S) (some (.int (iI (b2 res)))))) 0 0 38 [(0, .ref (A qMo)), (1, .int (iI a1)), (2, .int (iI a2)), (3, .int (iI s11.1)), (4, .int (iI s11.2))] [] (zWs A n S)) (fun s11 w11 h11 b11 e11 => ?_) _ _ l11
      refine g_iload (M := mX8_isPlace) dX8_isPlace_38 4 rfl ?_
      refine g_aload_n (M := mX8_isPlace) dX8_isPlace_40 0 rfl rfl ?_
      refine k_get (M := mX8_isPlace) (v := .ref (A (qMo + 2))) dX8_isPlace_41 kF_X8_20.r qMo (by omega) (hMo.o) rfl ?_
      refine h_iconst (M := mX8_isPlace) dX8_isPlace_44 ?_
      refine k_iald (M := mX8_isPlace) (len := 351) (f := VMo.2 2) dX8_isPlace_45 (qMo + 2) (by omega) (hMo.a (d := (0, 351)) 1 rfl) (Nat.le_of_ble_eq_true rfl) (by decide) (by decide) ?_
      obtain ⟨g23, h11⟩ := zgi h11
      refine h_icmp_ge (M := mX8_isPlace) (tgt := 81) dX8_isPlace_46 (by decide) g23.1 g23.2 (fun c22 => ?_) (fun c22 => ?_)
      · have h11 := zti c22 h11
        refine g_lv (M := mX8_isPlace) [3] rfl ?_
        exact r11 _ (e11 _ (Option.some.inj h11).symm)
      · have h11 := zfi (Int.not_le.mpr c22) h11
        refine g_iload_n (M := mX8_isPlace) dX8_isPlace_49 3 rfl rfl ?_
        obtain ⟨g25, h11⟩ := zgi h11
        refine h_if_eq (M := mX8_isPlace) (tgt := 73) dX8_isPlace_50 (by decide) g25 (fun c24 => ?_) (fun c24 => ?_)
        · have h11 := zti c24 h11
          refine h_iconst (M := mX8_isPlace) dX8_isPlace_73 ?_
          refine g_istore_n (M := mX8_isPlace) (lv' := [(0, .ref (A qMo)), (1, .int (iI a1)), (2, .int (iI a2)), (3, .int (iI 0)), (4, .int (iI s11.2))]) dX8_isPlace_74 rfl (by decide) rfl ?_
          refine h_iinc (M := mX8_isPlace) (j := 4) (lv' := [(0, .ref (A qMo)), (1, .int (iI a1)), (2, .int (iI a2)), (3, .int (iI 0)), (4, .int (iI (s11.2 + 1)))]) dX8_isPlace_75 rfl (Nat.le_of_ble_eq_true rfl) rfl ?_
          refine g_goto (M := mX8_isPlace) (tgt := 38) dX8_isPlace_78 (by decide) ?_
          exact b11 _ (Option.some.inj h11).symm
        · have h11 := zfi c24 h11
          refine g_aload_n (M := mX8_isPlace) dX8_isPlace_53 0 rfl rfl ?_
          refine g_iload_n (M := mX8_isPlace) dX8_isPlace_54 1 rfl rfl ?_
          refine h_iconst (M := mX8_isPlace) dX8_isPlace_55 ?_
          obtain ⟨t26, u27, h11⟩ := zbi h11
          refine g_callVr (M := mX8_isPlace) [.int (iI a1), .int (iI 3)] hX dX8_isPlace_56 vX8_of kM_X8_166 (wX8_of hX hMo (by omega)  u27) qMo (zWs_at (by omega) (hMo.o)) rfl ⟨(Nat.le_of_ble_eq_true rfl), (Nat.le_of_ble_eq_true rfl)⟩ ⟨(Nat.le_of_ble_eq_true rfl), (Nat.le_of_ble_eq_true rfl)⟩ (Nat.le_of_ble_eq_true rfl) ?_
          refine g_iload_n (M := mX8_isPlace) dX8_isPlace_59 2 rfl rfl ?_
          refine g_iload (M := mX8_isPlace) dX8_isPlace_60 4 rfl ?_
          refine h_iadd (M := mX8_isPlace) dX8_isPlace_62 ?_
          obtain ⟨t28, u29, h11⟩ := zbi h11
          refine g_callSr (M := mX8_isPlace) [.int (iI t26), .int (iI (a2 + s11.2))] hX dX8_isPlace_63 vX8_hasBit kM_X8_186 (wX8_hasBit hX   u29) rfl ⟨(Nat.le_of_ble_eq_true rfl), (Nat.le_of_ble_eq_true rfl)⟩ ⟨(Nat.le_of_ble_eq_true rfl), (Nat.le_of_ble_eq_true rfl)⟩ (Nat.le_of_ble_eq_true rfl) ?_
          refine h_bne (M := mX8_isPlace) (tgt := 73) dX8_isPlace_66 (by decide) (fun c30 => ?_) (fun c30 => ?_)
          · have h11 := zti c30 h11
            refine h_iconst (M := mX8_isPlace) dX8_isPlace_73 ?_
            refine g_istore_n (M := mX8_isPlace) (lv' := [(0, .ref (A qMo)), (1, .int (iI a1)), (2, .int (iI a2)), (3, .int (iI 0)), (4, .int (iI s11.2))]) dX8_isPlace_74 rfl (by decide) rfl ?_
            refine h_iinc (M := mX8_isPlace) (j := 4) (lv' := [(0, .ref (A qMo)), (1, .int (iI a1)), (2, .int (iI a2)), (3, .int (iI 0)), (4, .int (iI (s11.2 + 1)))]) dX8_isPlace_75 rfl (Nat.le_of_ble_eq_true rfl) rfl ?_
            refine g_goto (M := mX8_isPlace) (tgt := 38) dX8_isPlace_78 (by decide) ?_
            exact b11 _ (Option.some.inj h11).symm
          · have h11 := zfi (zbf c30) h11
            refine h_iconst (M := mX8_isPlace) dX8_isPlace_69 ?_
            refine g_goto (M := mX8_isPlace) (tgt := 74) dX8_isPlace_70 (by decide) ?_
            refine g_istore_n (M := mX8_isPlace) (lv' := [(0, .ref (A qMo)), (1, .int (iI a1)), (2, .int (iI a2)), (3, .int (iI 1)), (4, .int (iI s11.2))]) dX8_isPlace_74 rfl (by decide) rfl ?_
            refine h_iinc (M := mX8_isPlace) (j := 4) (lv' := [(0, .ref (A qMo)), (1, .int (iI a1)), (2, .int (iI a2)), (3, .int (iI 1)), (4, .int (iI (s11.2 + 1)))]) dX8_isPlace_75 rfl (Nat.le_of_ble_eq_true rfl) rfl ?_
            refine g_goto (M := mX8_isPlace) (tgt := 38) dX8_isPlace_78 (by decide) ?_
            exact b11 _ (Option.some.inj h11).symm
    · have h := zfi (zbf c10) h
      refine h_iconst (M := mX8_isPlace) dX8_isPlace_31 ?_
      have e := (Option.some.inj h)
      subst e
      exact g_zret (M := mX8_isPlace) .boolean dX8_isPlace_32 rfl rfl (Nat.le_of_ble_eq_true rfl) (Nat.le_of_ble_eq_true rfl) ⟨rfl, rfl⟩
set_option maxHeartbeats 4000000 in
set_option maxRecDepth 100000 in
theorem wX8_differsAt {X : zX} (hX : zOK X) {A : Nat → Nat} {n : Nat} {S : Nat → va_E} {qMo : Nat} {VMo : CV} (hMo : isC X A shMo qMo VMo S) (bMo : qMo + 20 < n) {a1 : Int} {a2 : Int} {a3 : Int} {res : Int} (h : fX8_differsAt VMo a1 a2 a3 = some res) : Con X yX8_differsAt mX8_differsAt 1 0 0 [.ref (A qMo), .int (iI a1), .int (iI a2), .int (iI a3)] (zWs A n S) (zRet (zWs A n S) (some (.int (iI res)))) := by
  refine con_of (lv := [(0, .ref (A qMo)), (1, .int (iI a1)), (2, .int (iI a2)), (3, .int (iI a3))]) (by decide) rfl (fun h => by cases h) rfl (Nat.le_of_ble_eq_true rfl) rfl ?_
  unfold fX8_differsAt at h
  refine h_iconst (M := mX8_differsAt) dX8_differsAt_0 ?_
  refine g_istore (M := mX8_differsAt) (lv' := [(0, .ref (A qMo)), (1, .int (iI a1)), (2, .int (iI a2)), (3, .int (iI a3)), (4, .int (iI 0))]) dX8_differsAt_1 (by decide) rfl ?_
  refine h_iconst (M := mX8_differsAt) dX8_differsAt_3 ?_
  refine g_istore (M := mX8_differsAt) (lv' := [(0, .ref (A qMo)), (1, .int (iI a1)), (2, .int (iI a2)), (3, .int (iI a3)), (4, .int (iI 0)), (5, .int (iI 0))]) dX8_differsAt_4 (by decide) rfl ?_
  obtain ⟨x1, l1, h⟩ := zbi h
  have r1 : ∀ y1, y1 = x1 → G X mX8_differsAt (zPm X 1 0 0 (zRet (zWs A n S) (some (.int (iI res))))) 0 0 50 [(4, .int (iI y1.1))] [] (zWs A n S) := by
    intro y1 ey
    rw [← ey] at h
    refine g_iload (M := mX8_differsAt) dX8_differsAt_50 0 rfl ?_
    have e := (Option.some.inj h)
    subst e
    exact g_iret (M := mX8_differsAt) dX8_differsAt_52 rfl (Nat.le_of_ble_eq_true rfl) (Nat.le_of_ble_eq_true rfl) ⟨rfl, rfl⟩
  refine zLp_J (J := fun s1 => G X mX8_differsAt (zPm X 1 0 0 (zRet (zWs A n S) (some (.int (iI res))))) 0 0 6 [(0, .ref (A qMo)), (1, .int (iI a1)), (2, .int (iI a2)), (3, .int (iI a3)), (4, .int (iI s1.1)), (5, .int (iI s1.2))] [] (zWs A n S)) (fun s1 w1 h1 b1 e1 => ?_) _ _ l1
  refine g_iload (M := mX8_differsAt) dX8_differsAt_6 5 rfl ?_
  refine g_iload_n (M := mX8_differsAt) dX8_differsAt_8 3 rfl rfl ?_
  obtain ⟨g15, h1⟩ := zgi h1
  refine h_icmp_ge (M := mX8_differsAt) (tgt := 50) dX8_differsAt_9 (by decide) g15.1 g15.2 (fun c14 => ?_) (fun c14 => ?_)
  · have h1 := zti c14 h1
    refine g_lv (M := mX8_differsAt) [4] rfl ?_
    exact r1 _ (e1 _ (Option.some.inj h1).symm)
  · have h1 := zfi (Int.not_le.mpr c14) h1
    refine g_iload (M := mX8_differsAt) dX8_differsAt_12 4 rfl ?_
    refine g_aload_n (M := mX8_differsAt) dX8_differsAt_14 0 rfl rfl ?_
    refine k_get (M := mX8_differsAt) (v := .ref (A (qMo + 10))) dX8_differsAt_15 kF_X8_45.r qMo (by omega) (hMo.o) rfl ?_
    refine g_iload (M := mX8_differsAt) dX8_differsAt_18 5 rfl ?_
    obtain ⟨g16, h1⟩ := zgi h1
    refine k_iald (M := mX8_differsAt) (len := 6) (f := VMo.2 10) dX8_differsAt_20 (qMo + 10) (by omega) (hMo.a (d := (0, 6)) 9 rfl) (Nat.le_of_ble_eq_true rfl) g16.1 g16.2 ?_
    refine g_aload_n (M := mX8_differsAt) dX8_differsAt_21 0 rfl rfl ?_
    refine g_iload_n (M := mX8_differsAt) dX8_differsAt_22 1 rfl rfl ?_
    refine g_iload_n (M := mX8_differsAt) dX8_differsAt_23 2 rfl rfl ?_
    refine g_iload (M := mX8_differsAt) dX8_differsAt_24 5 rfl ?_
    refine h_iadd (M := mX8_differsAt) dX8_differsAt_26 ?_
    obtain ⟨t17, u18, h1⟩ := zbi h1
    refine g_callVr (M := mX8_differsAt) [.int (iI a1), .int (iI (a2 + s1.2))] hX dX8_differsAt_27 vX8_letterAt kM_X8_232 (wX8_letterAt hX hMo (by omega)  u18) qMo (zWs_at (by omega) (hMo.o)) rfl ⟨(Nat.le_of_ble_eq_true rfl), (Nat.le_of_ble_eq_true rfl)⟩ ⟨(Nat.le_of_ble_eq_true rfl), (Nat.le_of_ble_eq_true rfl)⟩ (Nat.le_of_ble_eq_true rfl) ?_
    refine zJn_J (J := fun x21 => G X mX8_differsAt (zPm X 1 0 0 (zRet (zWs A n S) (some (.int (iI res))))) 0 0 38 [(0, .ref (A qMo)), (1, .int (iI a1)), (2, .int (iI a2)), (3, .int (iI a3)), (5, .int (iI s1.2))] [.int (iI x21), .int (iI s1.1)] (zWs A n S)) h1 (fun x21 h1 => ?_) (fun j21 h1 => ?_)
    · obtain ⟨t22, u23, h1⟩ := zbi h1
      refine g_callSr (M := mX8_differsAt) [.int (iI x21)] hX dX8_differsAt_38 vX8_truth kM_X8_84 (wX8_truth hX   u23) rfl ⟨(Nat.le_of_ble_eq_true rfl), (Nat.le_of_ble_eq_true rfl)⟩ ⟨(Nat.le_of_ble_eq_true rfl), (Nat.le_of_ble_eq_true rfl)⟩ (Nat.le_of_ble_eq_true rfl) ?_
      refine h_iadd (M := mX8_differsAt) dX8_differsAt_41 ?_
      refine g_istore (M := mX8_differsAt) (lv' := [(0, .ref (A qMo)), (1, .int (iI a1)), (2, .int (iI a2)), (3, .int (iI a3)), (5, .int (iI s1.2)), (4, .int (iI (s1.1 + t22)))]) dX8_differsAt_42 (by decide) rfl ?_
      refine h_iinc (M := mX8_differsAt) (j := 4) (lv' := [(0, .ref (A qMo)), (1, .int (iI a1)), (2, .int (iI a2)), (3, .int (iI a3)), (5, .int (iI (s1.2 + 1))), (4, .int (iI (s1.1 + t22)))]) dX8_differsAt_44 rfl (Nat.le_of_ble_eq_true rfl) rfl ?_
      refine g_goto (M := mX8_differsAt) (tgt := 6) dX8_differsAt_47 (by decide) ?_
      refine g_lv (M := mX8_differsAt) [0, 1, 2, 3, 5, 4] rfl ?_
      exact b1 _ (Option.some.inj h1).symm
    · obtain ⟨g25, h1⟩ := zgi h1
      refine h_icmp_eq (M := mX8_differsAt) (tgt := 37) dX8_differsAt_30 (by decide) g25.1 g25.2 (fun c24 => ?_) (fun c24 => ?_)
      · have h1 := zti c24 h1
        refine h_iconst (M := mX8_differsAt) dX8_differsAt_37 ?_
        refine g_lv (M := mX8_differsAt) [0, 1, 2, 3, 5] rfl ?_
        exact j21 0 h1
      · have h1 := zfi c24 h1
        refine h_iconst (M := mX8_differsAt) dX8_differsAt_33 ?_
        refine g_goto (M := mX8_differsAt) (tgt := 38) dX8_differsAt_34 (by decide) ?_
        refine g_lv (M := mX8_differsAt) [0, 1, 2, 3, 5] rfl ?_
        exact j21 1 h1
set_option maxHeartbeats 4000000 in
set_option maxRecDepth 100000 in
theorem wX8_least {X : zX} (hX : zOK X) {A : Nat → Nat} {n : Nat} {S : Nat → va_E} {qMo : Nat} {VMo : CV} (hMo : isC X A shMo qMo VMo S) (bMo : qMo + 20 < n) {a1 : Int} {a2 : Int} {res : Int} (h : fX8_least VMo a1 a2 = some res) : Con X yX8_least mX8_least 3 0 0 [.ref (A qMo), .int (iI a1), .int (iI a2)] (zWs A n S) (zRet (zWs A n S) (some (.int (iI res)))) := by
  refine con_of (lv := [(0, .ref (A qMo)), (1, .int (iI a1)), (2, .int (iI a2))]) (by decide) rfl (fun h => by cases h) rfl (Nat.le_of_ble_eq_true rfl) rfl ?_
  unfold fX8_least at h
  refine g_iload_n (M := mX8_least) dX8_least_0 2 rfl rfl ?_
  refine g_istore_n (M := mX8_least) (lv' := [(0, .ref (A qMo)), (1, .int (iI a1)), (2, .int (iI a2)), (3, .int (iI a2))]) dX8_least_1 rfl (by decide) rfl ?_
  refine h_iconst (M := mX8_least) dX8_least_2 ?_
  refine g_istore (M := mX8_least) (lv' := [(0, .ref (A qMo)), (1, .int (iI a1)), (2, .int (iI a2)), (3, .int (iI a2)), (4, .int (iI 0))]) dX8_least_3 (by decide) rfl ?_
  obtain ⟨x1, l1, h⟩ := zbi h
  have r1 : ∀ y1, y1 = x1 → G X mX8_least (zPm X 3 0 0 (zRet (zWs A n S) (some (.int (iI res))))) 0 0 58 [(3, .int (iI y1.1))] [] (zWs A n S) := by
    intro y1 ey
    rw [← ey] at h
    refine g_iload_n (M := mX8_least) dX8_least_58 0 rfl rfl ?_
    have e := (Option.some.inj h)
    subst e
    exact g_iret (M := mX8_least) dX8_least_59 rfl (Nat.le_of_ble_eq_true rfl) (Nat.le_of_ble_eq_true rfl) ⟨rfl, rfl⟩
  refine zLp_J (J := fun s1 => G X mX8_least (zPm X 3 0 0 (zRet (zWs A n S) (some (.int (iI res))))) 0 0 5 [(0, .ref (A qMo)), (1, .int (iI a1)), (2, .int (iI a2)), (3, .int (iI s1.1)), (4, .int (iI s1.2))] [] (zWs A n S)) (fun s1 w1 h1 b1 e1 => ?_) _ _ l1
  refine g_iload (M := mX8_least) dX8_least_5 4 rfl ?_
  refine g_aload_n (M := mX8_least) dX8_least_7 0 rfl rfl ?_
  refine g_iload_n (M := mX8_least) dX8_least_8 1 rfl rfl ?_
  refine h_iconst (M := mX8_least) dX8_least_9 ?_
  obtain ⟨t13, u14, h1⟩ := zbi h1
  refine g_callVr (M := mX8_least) [.int (iI a1), .int (iI 0)] hX dX8_least_10 vX8_of kM_X8_166 (wX8_of hX hMo (by omega)  u14) qMo (zWs_at (by omega) (hMo.o)) rfl ⟨(Nat.le_of_ble_eq_true rfl), (Nat.le_of_ble_eq_true rfl)⟩ ⟨(Nat.le_of_ble_eq_true rfl), (Nat.le_of_ble_eq_true rfl)⟩ (Nat.le_of_ble_eq_true rfl) ?_
  obtain ⟨g16, h1⟩ := zgi h1
  refine h_icmp_ge (M := mX8_least) (tgt := 58) dX8_least_13 (by decide) g16.1 g16.2 (fun c15 => ?_) (fun c15 => ?_)
  · have h1 := zti c15 h1
    refine g_lv (M := mX8_least) [3] rfl ?_
    exact r1 _ (e1 _ (Option.some.inj h1).symm)
  · have h1 := zfi (Int.not_le.mpr c15) h1
    refine g_aload_n (M := mX8_least) dX8_least_16 0 rfl rfl ?_
    refine g_iload_n (M := mX8_least) dX8_least_17 1 rfl rfl ?_
    refine g_iload (M := mX8_least) dX8_least_18 4 rfl ?_
    obtain ⟨t17, u18, h1⟩ := zbi h1
    refine g_callVr (M := mX8_least) [.int (iI a1), .int (iI s1.2)] hX dX8_least_20 vX8_isPlace kM_X8_229 (wX8_isPlace hX hMo (by omega)  u18) qMo (zWs_at (by omega) (hMo.o)) rfl ⟨(Nat.le_of_ble_eq_true rfl), (Nat.le_of_ble_eq_true rfl)⟩ ⟨(Nat.le_of_ble_eq_true rfl), (Nat.le_of_ble_eq_true rfl)⟩ (Nat.le_of_ble_eq_true rfl) ?_
    refine h_bne (M := mX8_least) (tgt := 29) dX8_least_23 (by decide) (fun c19 => ?_) (fun c19 => ?_)
    · have h1 := zti c19 h1
      refine g_aload_n (M := mX8_least) dX8_least_29 0 rfl rfl ?_
      refine g_iload_n (M := mX8_least) dX8_least_30 1 rfl rfl ?_
      refine g_iload (M := mX8_least) dX8_least_31 4 rfl ?_
      refine g_iload_n (M := mX8_least) dX8_least_33 2 rfl rfl ?_
      obtain ⟨t20, u21, h1⟩ := zbi h1
      refine g_callVr (M := mX8_least) [.int (iI a1), .int (iI s1.2), .int (iI a2)] hX dX8_least_34 vX8_differsAt kM_X8_235 (wX8_differsAt hX hMo (by omega)  u21) qMo (zWs_at (by omega) (hMo.o)) rfl ⟨(Nat.le_of_ble_eq_true rfl), (Nat.le_of_ble_eq_true rfl)⟩ ⟨(Nat.le_of_ble_eq_true rfl), (Nat.le_of_ble_eq_true rfl)⟩ (Nat.le_of_ble_eq_true rfl) ?_
      refine g_istore (M := mX8_least) (lv' := [(0, .ref (A qMo)), (1, .int (iI a1)), (2, .int (iI a2)), (3, .int (iI s1.1)), (4, .int (iI s1.2)), (5, .int (iI t20))]) dX8_least_37 (by decide) rfl ?_
      refine g_iload (M := mX8_least) dX8_least_39 5 rfl ?_
      refine g_iload_n (M := mX8_least) dX8_least_41 3 rfl rfl ?_
      obtain ⟨g23, h1⟩ := zgi h1
      refine h_icmp_ge (M := mX8_least) (tgt := 50) dX8_least_42 (by decide) g23.1 g23.2 (fun c22 => ?_) (fun c22 => ?_)
      · have h1 := zti c22 h1
        refine g_iload_n (M := mX8_least) dX8_least_50 3 rfl rfl ?_
        refine g_istore_n (M := mX8_least) (lv' := [(0, .ref (A qMo)), (1, .int (iI a1)), (2, .int (iI a2)), (3, .int (iI s1.1)), (4, .int (iI s1.2)), (5, .int (iI t20))]) dX8_least_51 rfl (by decide) rfl ?_
        refine h_iinc (M := mX8_least) (j := 4) (lv' := [(0, .ref (A qMo)), (1, .int (iI a1)), (2, .int (iI a2)), (3, .int (iI s1.1)), (4, .int (iI (s1.2 + 1))), (5, .int (iI t20))]) dX8_least_52 rfl (Nat.le_of_ble_eq_true rfl) rfl ?_
        refine g_goto (M := mX8_least) (tgt := 5) dX8_least_55 (by decide) ?_
        refine g_lv (M := mX8_least) [0, 1, 2, 3, 4] rfl ?_
        exact b1 _ (Option.some.inj h1).symm
      · have h1 := zfi (Int.not_le.mpr c22) h1
        refine g_iload (M := mX8_least) dX8_least_45 5 rfl ?_
        refine g_goto (M := mX8_least) (tgt := 51) dX8_least_47 (by decide) ?_
        refine g_istore_n (M := mX8_least) (lv' := [(0, .ref (A qMo)), (1, .int (iI a1)), (2, .int (iI a2)), (3, .int (iI t20)), (4, .int (iI s1.2)), (5, .int (iI t20))]) dX8_least_51 rfl (by decide) rfl ?_
        refine h_iinc (M := mX8_least) (j := 4) (lv' := [(0, .ref (A qMo)), (1, .int (iI a1)), (2, .int (iI a2)), (3, .int (iI t20)), (4, .int (iI (s1.2 + 1))), (5, .int (iI t20))]) dX8_least_52 rfl (Nat.le_of_ble_eq_true rfl) rfl ?_
        refine g_goto (M := mX8_least) (tgt := 5) dX8_least_55 (by decide) ?_
        refine g_lv (M := mX8_least) [0, 1, 2, 3, 4] rfl ?_
        exact b1 _ (Option.some.inj h1).symm
    · have h1 := zfi (zbf c19) h1
      refine g_goto (M := mX8_least) (tgt := 52) dX8_least_26 (by decide) ?_
      refine h_iinc (M := mX8_least) (j := 4) (lv' := [(0, .ref (A qMo)), (1, .int (iI a1)), (2, .int (iI a2)), (3, .int (iI s1.1)), (4, .int (iI (s1.2 + 1)))]) dX8_least_52 rfl (Nat.le_of_ble_eq_true rfl) rfl ?_
      refine g_goto (M := mX8_least) (tgt := 5) dX8_least_55 (by decide) ?_
      exact b1 _ (Option.some.inj h1).symm
set_option maxHeartbeats 4000000 in
set_option maxRecDepth 100000 in
theorem wX8_bounds {X : zX} (hX : zOK X) {A : Nat → Nat} {n : Nat} {S : Nat → va_E} {qMo : Nat} {VMo : CV} (hMo : isC X A shMo qMo VMo S) (bMo : qMo + 20 < n) {a1 : Int} {res : Int} (h : fX8_bounds VMo a1 = some res) : Con X yX8_bounds mX8_bounds 4 0 0 [.ref (A qMo), .int (iI a1)] (zWs A n S) (zRet (zWs A n S) (some (.int (iI res)))) := by
  refine con_of (lv := [(0, .ref (A qMo)), (1, .int (iI a1))]) (by decide) rfl (fun h => by cases h) rfl (Nat.le_of_ble_eq_true rfl) rfl ?_
  unfold fX8_bounds at h
  refine h_iconst (M := mX8_bounds) dX8_bounds_0 ?_
  refine g_istore_n (M := mX8_bounds) (lv' := [(0, .ref (A qMo)), (1, .int (iI a1)), (2, .int (iI 0))]) dX8_bounds_1 rfl (by decide) rfl ?_
  refine h_iconst (M := mX8_bounds) dX8_bounds_2 ?_
  refine g_istore_n (M := mX8_bounds) (lv' := [(0, .ref (A qMo)), (1, .int (iI a1)), (2, .int (iI 0)), (3, .int (iI 0))]) dX8_bounds_3 rfl (by decide) rfl ?_
  obtain ⟨x1, l1, h⟩ := zbi h
  have r1 : ∀ y1, y1 = x1 → G X mX8_bounds (zPm X 4 0 0 (zRet (zWs A n S) (some (.int (iI res))))) 0 0 41 [(2, .int (iI y1.1))] [] (zWs A n S) := by
    intro y1 ey
    rw [← ey] at h
    refine g_iload_n (M := mX8_bounds) dX8_bounds_41 0 rfl rfl ?_
    have e := (Option.some.inj h)
    subst e
    exact g_iret (M := mX8_bounds) dX8_bounds_42 rfl (Nat.le_of_ble_eq_true rfl) (Nat.le_of_ble_eq_true rfl) ⟨rfl, rfl⟩
  refine zLp_J (J := fun s1 => G X mX8_bounds (zPm X 4 0 0 (zRet (zWs A n S) (some (.int (iI res))))) 0 0 4 [(0, .ref (A qMo)), (1, .int (iI a1)), (2, .int (iI s1.1)), (3, .int (iI s1.2))] [] (zWs A n S)) (fun s1 w1 h1 b1 e1 => ?_) _ _ l1
  refine g_iload_n (M := mX8_bounds) dX8_bounds_4 3 rfl rfl ?_
  refine g_aload_n (M := mX8_bounds) dX8_bounds_5 0 rfl rfl ?_
  refine k_get (M := mX8_bounds) (v := .ref (A (qMo + 2))) dX8_bounds_6 kF_X8_20.r qMo (by omega) (hMo.o) rfl ?_
  refine h_iconst (M := mX8_bounds) dX8_bounds_9 ?_
  refine k_iald (M := mX8_bounds) (len := 351) (f := VMo.2 2) dX8_bounds_10 (qMo + 2) (by omega) (hMo.a (d := (0, 351)) 1 rfl) (Nat.le_of_ble_eq_true rfl) (by decide) (by decide) ?_
  obtain ⟨g10, h1⟩ := zgi h1
  refine h_icmp_ge (M := mX8_bounds) (tgt := 41) dX8_bounds_11 (by decide) g10.1 g10.2 (fun c9 => ?_) (fun c9 => ?_)
  · have h1 := zti c9 h1
    refine g_lv (M := mX8_bounds) [2] rfl ?_
    exact r1 _ (e1 _ (Option.some.inj h1).symm)
  · have h1 := zfi (Int.not_le.mpr c9) h1
    refine g_iload_n (M := mX8_bounds) dX8_bounds_14 2 rfl rfl ?_
    refine g_aload_n (M := mX8_bounds) dX8_bounds_15 0 rfl rfl ?_
    refine g_iload_n (M := mX8_bounds) dX8_bounds_16 3 rfl rfl ?_
    obtain ⟨t11, u12, h1⟩ := zbi h1
    refine g_callVr (M := mX8_bounds) [.int (iI s1.2)] hX dX8_bounds_17 vX8_isOut kM_X8_226 (wX8_isOut hX hMo (by omega)  u12) qMo (zWs_at (by omega) (hMo.o)) rfl ⟨(Nat.le_of_ble_eq_true rfl), (Nat.le_of_ble_eq_true rfl)⟩ ⟨(Nat.le_of_ble_eq_true rfl), (Nat.le_of_ble_eq_true rfl)⟩ (Nat.le_of_ble_eq_true rfl) ?_
    refine h_beq (M := mX8_bounds) (tgt := 27) dX8_bounds_20 (by decide) (fun c13 => ?_) (fun c13 => ?_)
    · have h1 := zfi (zbf c13) h1
      refine g_aload_n (M := mX8_bounds) dX8_bounds_27 0 rfl rfl ?_
      refine g_iload_n (M := mX8_bounds) dX8_bounds_28 3 rfl rfl ?_
      refine g_iload_n (M := mX8_bounds) dX8_bounds_29 1 rfl rfl ?_
      obtain ⟨t14, u15, h1⟩ := zbi h1
      refine g_callVr (M := mX8_bounds) [.int (iI s1.2), .int (iI a1)] hX dX8_bounds_30 vX8_least kM_X8_239 (wX8_least hX hMo (by omega)  u15) qMo (zWs_at (by omega) (hMo.o)) rfl ⟨(Nat.le_of_ble_eq_true rfl), (Nat.le_of_ble_eq_true rfl)⟩ ⟨(Nat.le_of_ble_eq_true rfl), (Nat.le_of_ble_eq_true rfl)⟩ (Nat.le_of_ble_eq_true rfl) ?_
      refine h_iadd (M := mX8_bounds) dX8_bounds_33 ?_
      refine g_istore_n (M := mX8_bounds) (lv' := [(0, .ref (A qMo)), (1, .int (iI a1)), (2, .int (iI (s1.1 + t14))), (3, .int (iI s1.2))]) dX8_bounds_34 rfl (by decide) rfl ?_
      refine h_iinc (M := mX8_bounds) (j := 3) (lv' := [(0, .ref (A qMo)), (1, .int (iI a1)), (2, .int (iI (s1.1 + t14))), (3, .int (iI (s1.2 + 1)))]) dX8_bounds_35 rfl (Nat.le_of_ble_eq_true rfl) rfl ?_
      refine g_goto (M := mX8_bounds) (tgt := 4) dX8_bounds_38 (by decide) ?_
      exact b1 _ (Option.some.inj h1).symm
    · have h1 := zti c13 h1
      refine h_iconst (M := mX8_bounds) dX8_bounds_23 ?_
      refine g_goto (M := mX8_bounds) (tgt := 33) dX8_bounds_24 (by decide) ?_
      refine h_iadd (M := mX8_bounds) dX8_bounds_33 ?_
      refine g_istore_n (M := mX8_bounds) (lv' := [(0, .ref (A qMo)), (1, .int (iI a1)), (2, .int (iI (s1.1 + 0))), (3, .int (iI s1.2))]) dX8_bounds_34 rfl (by decide) rfl ?_
      refine h_iinc (M := mX8_bounds) (j := 3) (lv' := [(0, .ref (A qMo)), (1, .int (iI a1)), (2, .int (iI (s1.1 + 0))), (3, .int (iI (s1.2 + 1)))]) dX8_bounds_35 rfl (Nat.le_of_ble_eq_true rfl) rfl ?_
      refine g_goto (M := mX8_bounds) (tgt := 4) dX8_bounds_38 (by decide) ?_
      exact b1 _ (Option.some.inj h1).symm
set_option maxHeartbeats 4000000 in
set_option maxRecDepth 100000 in
theorem wX8_numberOfSpelt {X : zX} (hX : zOK X) {A : Nat → Nat} {n : Nat} {S : Nat → va_E} {qMo : Nat} {VMo : CV} (hMo : isC X A shMo qMo VMo S) (bMo : qMo + 20 < n) {res : Int} (h : fX8_numberOfSpelt VMo = some res) : Con X yX8_numberOfSpelt mX8_numberOfSpelt 0 0 0 [.ref (A qMo)] (zWs A n S) (zRet (zWs A n S) (some (.int (iI res)))) := by
  refine con_of (lv := [(0, .ref (A qMo))]) (by decide) rfl (fun h => by cases h) rfl (Nat.le_of_ble_eq_true rfl) rfl ?_
  unfold fX8_numberOfSpelt at h
  refine h_iconst (M := mX8_numberOfSpelt) dX8_numberOfSpelt_0 ?_
  refine g_istore_n (M := mX8_numberOfSpelt) (lv' := [(0, .ref (A qMo)), (1, .int (iI 0))]) dX8_numberOfSpelt_1 rfl (by decide) rfl ?_
  refine h_iconst (M := mX8_numberOfSpelt) dX8_numberOfSpelt_2 ?_
  refine g_istore_n (M := mX8_numberOfSpelt) (lv' := [(0, .ref (A qMo)), (1, .int (iI 0)), (2, .int (iI 0))]) dX8_numberOfSpelt_3 rfl (by decide) rfl ?_
  obtain ⟨x1, l1, h⟩ := zbi h
  have r1 : ∀ y1, y1 = x1 → G X mX8_numberOfSpelt (zPm X 0 0 0 (zRet (zWs A n S) (some (.int (iI res))))) 0 0 36 [(1, .int (iI y1.1))] [] (zWs A n S) := by
    intro y1 ey
    rw [← ey] at h
    refine g_iload_n (M := mX8_numberOfSpelt) dX8_numberOfSpelt_36 0 rfl rfl ?_
    have e := (Option.some.inj h)
    subst e
    exact g_iret (M := mX8_numberOfSpelt) dX8_numberOfSpelt_37 rfl (Nat.le_of_ble_eq_true rfl) (Nat.le_of_ble_eq_true rfl) ⟨rfl, rfl⟩
  refine zLp_J (J := fun s1 => G X mX8_numberOfSpelt (zPm X 0 0 0 (zRet (zWs A n S) (some (.int (iI res))))) 0 0 4 [(0, .ref (A qMo)), (1, .int (iI s1.1)), (2, .int (iI s1.2))] [] (zWs A n S)) (fun s1 w1 h1 b1 e1 => ?_) _ _ l1
  refine g_iload_n (M := mX8_numberOfSpelt) dX8_numberOfSpelt_4 2 rfl rfl ?_
  refine g_aload_n (M := mX8_numberOfSpelt) dX8_numberOfSpelt_5 0 rfl rfl ?_
  refine k_get (M := mX8_numberOfSpelt) (v := .ref (A (qMo + 2))) dX8_numberOfSpelt_6 kF_X8_20.r qMo (by omega) (hMo.o) rfl ?_
  refine h_iconst (M := mX8_numberOfSpelt) dX8_numberOfSpelt_9 ?_
  refine k_iald (M := mX8_numberOfSpelt) (len := 351) (f := VMo.2 2) dX8_numberOfSpelt_10 (qMo + 2) (by omega) (hMo.a (d := (0, 351)) 1 rfl) (Nat.le_of_ble_eq_true rfl) (by decide) (by decide) ?_
  obtain ⟨g6, h1⟩ := zgi h1
  refine h_icmp_ge (M := mX8_numberOfSpelt) (tgt := 36) dX8_numberOfSpelt_11 (by decide) g6.1 g6.2 (fun c5 => ?_) (fun c5 => ?_)
  · have h1 := zti c5 h1
    refine g_lv (M := mX8_numberOfSpelt) [1] rfl ?_
    exact r1 _ (e1 _ (Option.some.inj h1).symm)
  · have h1 := zfi (Int.not_le.mpr c5) h1
    refine g_aload_n (M := mX8_numberOfSpelt) dX8_numberOfSpelt_14 0 rfl rfl ?_
    refine k_get (M := mX8_numberOfSpelt) (v := .ref (A (qMo + 2))) dX8_numberOfSpelt_15 kF_X8_20.r qMo (by omega) (hMo.o) rfl ?_
    refine h_iconst (M := mX8_numberOfSpelt) dX8_numberOfSpelt_18 ?_
    refine k_iald (M := mX8_numberOfSpelt) (len := 351) (f := VMo.2 2) dX8_numberOfSpelt_19 (qMo + 2) (by omega) (hMo.a (d := (0, 351)) 1 rfl) (Nat.le_of_ble_eq_true rfl) (by decide) (by decide) ?_
    refine g_iload_n (M := mX8_numberOfSpelt) dX8_numberOfSpelt_20 1 rfl rfl ?_
    refine h_imul (M := mX8_numberOfSpelt) dX8_numberOfSpelt_21 ?_
    refine g_aload_n (M := mX8_numberOfSpelt) dX8_numberOfSpelt_22 0 rfl rfl ?_
    refine k_get (M := mX8_numberOfSpelt) (v := .ref (A (qMo + 10))) dX8_numberOfSpelt_23 kF_X8_45.r qMo (by omega) (hMo.o) rfl ?_
    refine g_iload_n (M := mX8_numberOfSpelt) dX8_numberOfSpelt_26 2 rfl rfl ?_
    obtain ⟨g7, h1⟩ := zgi h1
    refine k_iald (M := mX8_numberOfSpelt) (len := 6) (f := VMo.2 10) dX8_numberOfSpelt_27 (qMo + 10) (by omega) (hMo.a (d := (0, 6)) 9 rfl) (Nat.le_of_ble_eq_true rfl) g7.1 g7.2 ?_
    refine h_iadd (M := mX8_numberOfSpelt) dX8_numberOfSpelt_28 ?_
    refine g_istore_n (M := mX8_numberOfSpelt) (lv' := [(0, .ref (A qMo)), (1, .int (iI (((VMo.2 2 1) * s1.1) + (VMo.2 10 s1.2)))), (2, .int (iI s1.2))]) dX8_numberOfSpelt_29 rfl (by decide) rfl ?_
    refine h_iinc (M := mX8_numberOfSpelt) (j := 2) (lv' := [(0, .ref (A qMo)), (1, .int (iI (((VMo.2 2 1) * s1.1) + (VMo.2 10 s1.2)))), (2, .int (iI (s1.2 + 1)))]) dX8_numberOfSpelt_30 rfl (Nat.le_of_ble_eq_true rfl) rfl ?_
    refine g_goto (M := mX8_numberOfSpelt) (tgt := 4) dX8_numberOfSpelt_33 (by decide) ?_
    exact b1 _ (Option.some.inj h1).symm
