set_option maxHeartbeats 4000000 in
set_option maxRecDepth 100000 in
theorem wX8_meanDistance {X : zX} (hX : zOK X) {A : Nat → Nat} {n : Nat} {S : Nat → va_E} {qMo : Nat} {VMo : CV} (hMo : isC X A shMo qMo VMo S) (bMo : qMo + 20 < n) {res : CV × UInt64} (h : fX8_meanDistance VMo = some res) : Con X yX8_meanDistance mX8_meanDistance 6 0 0 [.ref (A qMo)] (zWs A n S) (zRet (zWs A n (zC X A shMo qMo res.1 S)) (some (.double res.2))) := by
  refine con_of (lv := [(0, .ref (A qMo))]) (by decide) rfl (fun h => by cases h) rfl (Nat.le_of_ble_eq_true rfl) rfl ?_
  refine g_ws (M := mX8_meanDistance) (congrArg (zWs A n) hMo.symm) ?_
  unfold fX8_meanDistance at h
  refine g_aload_n (M := mX8_meanDistance) dX8_meanDistance_0 0 rfl rfl ?_
  refine h_iconst (M := mX8_meanDistance) dX8_meanDistance_1 ?_
  refine c_put (M := mX8_meanDistance) (k := 0) dX8_meanDistance_2 kF_X8_81 (by omega) rfl rfl (by decide) rfl rfl ?_
  refine h_iconst (M := mX8_meanDistance) dX8_meanDistance_5 ?_
  refine g_istore_n (M := mX8_meanDistance) (lv' := [(0, .ref (A qMo)), (1, .int (iI 0))]) dX8_meanDistance_6 rfl (by decide) rfl ?_
  refine h_iconst (M := mX8_meanDistance) dX8_meanDistance_7 ?_
  refine g_istore_n (M := mX8_meanDistance) (lv' := [(0, .ref (A qMo)), (1, .int (iI 0)), (2, .int (iI 0))]) dX8_meanDistance_8 rfl (by decide) rfl ?_
  obtain ⟨x1, l1, h⟩ := zbi h
  have r1 : ∀ y1, y1 = x1 → G X mX8_meanDistance (zPm X 6 0 0 (zRet (zWs A n (zC X A shMo qMo res.1 S)) (some (.double res.2)))) 0 0 44 [(0, .ref (A qMo)), (1, .int (iI y1.1))] [] (zWs A n (zC X A shMo qMo (zPu VMo 0 0) S)) := by
    intro y1 ey
    rw [← ey] at h
    refine g_iload_n (M := mX8_meanDistance) dX8_meanDistance_44 1 rfl rfl ?_
    obtain ⟨g12, h⟩ := zgi h
    refine h_if_ne (M := mX8_meanDistance) (tgt := 50) dX8_meanDistance_45 (by decide) g12 (fun c11 => ?_) (fun c11 => ?_)
    · have h := zfi c11 h
      refine g_aload_n (M := mX8_meanDistance) dX8_meanDistance_50 0 rfl rfl ?_
      obtain ⟨t13, u14, h⟩ := zbi h
      refine g_callVr (M := mX8_meanDistance) [] hX dX8_meanDistance_51 vX8_searches kM_X8_323 (wX8_searches hX zC_self (by omega)  u14) qMo (zWs_at (by omega) (zC_o)) rfl ⟨(Nat.le_of_ble_eq_true rfl), (Nat.le_of_ble_eq_true rfl)⟩ ⟨(Nat.le_of_ble_eq_true rfl), (Nat.le_of_ble_eq_true rfl)⟩ (Nat.le_of_ble_eq_true rfl) ?_
      refine g_ws (M := mX8_meanDistance) (congrArg (zWs A n) zC_over) ?_
      refine g_aload_n (M := mX8_meanDistance) dX8_meanDistance_54 0 rfl rfl ?_
      refine k_get (M := mX8_meanDistance) (v := .int (iI (t13.1 32))) dX8_meanDistance_55 kF_X8_309.r qMo (by omega) (zC_o) rfl ?_
      refine g_i2d (M := mX8_meanDistance) dX8_meanDistance_58 ?_
      refine g_iload_n (M := mX8_meanDistance) dX8_meanDistance_59 1 rfl rfl ?_
      refine g_i2d (M := mX8_meanDistance) dX8_meanDistance_60 ?_
      obtain ⟨g15, h⟩ := zgci h
      refine g_ddiv (M := mX8_meanDistance) dX8_meanDistance_61 g15 ?_
      have e := (Option.some.inj h)
      subst e
      exact g_dret (M := mX8_meanDistance) dX8_meanDistance_62 rfl (Nat.le_of_ble_eq_true rfl) (Nat.le_of_ble_eq_true rfl) ⟨rfl, rfl⟩
    · have h := zti c11 h
      refine g_dconst0 (M := mX8_meanDistance) dX8_meanDistance_48 ?_
      have e := (Option.some.inj h)
      subst e
      exact g_dret (M := mX8_meanDistance) dX8_meanDistance_49 rfl (Nat.le_of_ble_eq_true rfl) (Nat.le_of_ble_eq_true rfl) ⟨rfl, rfl⟩
  refine zLp_J (J := fun s1 => G X mX8_meanDistance (zPm X 6 0 0 (zRet (zWs A n (zC X A shMo qMo res.1 S)) (some (.double res.2)))) 0 0 9 [(0, .ref (A qMo)), (1, .int (iI s1.1)), (2, .int (iI s1.2))] [] (zWs A n (zC X A shMo qMo (zPu VMo 0 0) S))) (fun s1 w1 h1 b1 e1 => ?_) _ _ l1
  refine g_iload_n (M := mX8_meanDistance) dX8_meanDistance_9 2 rfl rfl ?_
  refine g_aload_n (M := mX8_meanDistance) dX8_meanDistance_10 0 rfl rfl ?_
  refine k_get (M := mX8_meanDistance) (v := .ref (A (qMo + 2))) dX8_meanDistance_11 kF_X8_20.r qMo (by omega) (zC_o) rfl ?_
  refine h_iconst (M := mX8_meanDistance) dX8_meanDistance_14 ?_
  refine k_iald (M := mX8_meanDistance) (len := 351) (f := VMo.2 2) dX8_meanDistance_15 (qMo + 2) (by omega) (zC_a (d := (0, 351)) 1 rfl) (Nat.le_of_ble_eq_true rfl) (by decide) (by decide) ?_
  obtain ⟨g17, h1⟩ := zgi h1
  refine h_icmp_ge (M := mX8_meanDistance) (tgt := 44) dX8_meanDistance_16 (by decide) g17.1 g17.2 (fun c16 => ?_) (fun c16 => ?_)
  · have h1 := zti c16 h1
    refine g_lv (M := mX8_meanDistance) [0, 1] rfl ?_
    exact r1 _ (e1 _ (Option.some.inj h1).symm)
  · have h1 := zfi (Int.not_le.mpr c16) h1
    refine g_iload_n (M := mX8_meanDistance) dX8_meanDistance_19 1 rfl rfl ?_
    refine g_aload_n (M := mX8_meanDistance) dX8_meanDistance_20 0 rfl rfl ?_
    refine g_iload_n (M := mX8_meanDistance) dX8_meanDistance_21 2 rfl rfl ?_
    obtain ⟨t18, u19, h1⟩ := zbi h1
    refine g_callVr (M := mX8_meanDistance) [.int (iI s1.2)] hX dX8_meanDistance_22 vX8_isOut kM_X8_226 (wX8_isOut hX zC_self (by omega)  u19) qMo (zWs_at (by omega) (zC_o)) rfl ⟨(Nat.le_of_ble_eq_true rfl), (Nat.le_of_ble_eq_true rfl)⟩ ⟨(Nat.le_of_ble_eq_true rfl), (Nat.le_of_ble_eq_true rfl)⟩ (Nat.le_of_ble_eq_true rfl) ?_
    refine zJn_J (J := fun x21 => G X mX8_meanDistance (zPm X 6 0 0 (zRet (zWs A n (zC X A shMo qMo res.1 S)) (some (.double res.2)))) 0 0 33 [(0, .ref (A qMo)), (2, .int (iI s1.2))] [.int (iI x21), .int (iI s1.1)] (zWs A n (zC X A shMo qMo (zPu VMo 0 0) S))) h1 (fun x21 h1 => ?_) (fun j21 h1 => ?_)
    · obtain ⟨t22, u23, h1⟩ := zbi h1
      refine g_callSr (M := mX8_meanDistance) [.int (iI x21)] hX dX8_meanDistance_33 vX8_truth kM_X8_84 (wX8_truth hX   u23) rfl ⟨(Nat.le_of_ble_eq_true rfl), (Nat.le_of_ble_eq_true rfl)⟩ ⟨(Nat.le_of_ble_eq_true rfl), (Nat.le_of_ble_eq_true rfl)⟩ (Nat.le_of_ble_eq_true rfl) ?_
      refine h_iadd (M := mX8_meanDistance) dX8_meanDistance_36 ?_
      refine g_istore_n (M := mX8_meanDistance) (lv' := [(0, .ref (A qMo)), (2, .int (iI s1.2)), (1, .int (iI (s1.1 + t22)))]) dX8_meanDistance_37 rfl (by decide) rfl ?_
      refine h_iinc (M := mX8_meanDistance) (j := 1) (lv' := [(0, .ref (A qMo)), (2, .int (iI (s1.2 + 1))), (1, .int (iI (s1.1 + t22)))]) dX8_meanDistance_38 rfl (Nat.le_of_ble_eq_true rfl) rfl ?_
      refine g_goto (M := mX8_meanDistance) (tgt := 9) dX8_meanDistance_41 (by decide) ?_
      refine g_lv (M := mX8_meanDistance) [0, 2, 1] rfl ?_
      exact b1 _ (Option.some.inj h1).symm
    · refine h_bne (M := mX8_meanDistance) (tgt := 32) dX8_meanDistance_25 (by decide) (fun c24 => ?_) (fun c24 => ?_)
      · have h1 := zti c24 h1
        refine h_iconst (M := mX8_meanDistance) dX8_meanDistance_32 ?_
        refine g_lv (M := mX8_meanDistance) [0, 2] rfl ?_
        exact j21 0 h1
      · have h1 := zfi (zbf c24) h1
        refine h_iconst (M := mX8_meanDistance) dX8_meanDistance_28 ?_
        refine g_goto (M := mX8_meanDistance) (tgt := 33) dX8_meanDistance_29 (by decide) ?_
        refine g_lv (M := mX8_meanDistance) [0, 2] rfl ?_
        exact j21 1 h1
set_option maxHeartbeats 4000000 in
set_option maxRecDepth 100000 in
theorem wX8_mostHad {X : zX} (hX : zOK X) {A : Nat → Nat} {n : Nat} {S : Nat → va_E} {qMo : Nat} {VMo : CV} (hMo : isC X A shMo qMo VMo S) (bMo : qMo + 20 < n) {a1 : Int} {res : CV × Int} (h : fX8_mostHad VMo a1 = some res) : Con X yX8_mostHad mX8_mostHad 6 0 0 [.ref (A qMo), .int (iI a1)] (zWs A n S) (zRet (zWs A n (zC X A shMo qMo res.1 S)) (some (.int (iI res.2)))) := by
  refine con_of (lv := [(0, .ref (A qMo)), (1, .int (iI a1))]) (by decide) rfl (fun h => by cases h) rfl (Nat.le_of_ble_eq_true rfl) rfl ?_
  refine g_ws (M := mX8_mostHad) (congrArg (zWs A n) hMo.symm) ?_
  unfold fX8_mostHad at h
  refine g_aload_n (M := mX8_mostHad) dX8_mostHad_0 0 rfl rfl ?_
  refine g_iload_n (M := mX8_mostHad) dX8_mostHad_1 1 rfl rfl ?_
  obtain ⟨g1, h⟩ := zgi h
  refine h_i2l (M := mX8_mostHad) dX8_mostHad_2 g1 ?_
  refine g_lconst (M := mX8_mostHad) (v := iL 0) dX8_mostHad_3 rfl ?_
  refine g_lconst (M := mX8_mostHad) (v := iL 1) dX8_mostHad_4 rfl ?_
  obtain ⟨t2, u3, h⟩ := zbi h
  refine g_callSr (M := mX8_mostHad) [.long (iL a1), .long (iL 0), .long (iL 1)] hX dX8_mostHad_5 vX8_isIn kM_X8_99 (wX8_isIn hX   u3) rfl ⟨(Nat.le_of_ble_eq_true rfl), (Nat.le_of_ble_eq_true rfl)⟩ ⟨(Nat.le_of_ble_eq_true rfl), (Nat.le_of_ble_eq_true rfl)⟩ (Nat.le_of_ble_eq_true rfl) ?_
  obtain ⟨t4, u5, h⟩ := zbi h
  refine g_callVr (M := mX8_mostHad) [.int (iI (b2 t2))] hX dX8_mostHad_8 vX8_goes kM_X8_91 (wX8_goes hX zC_self (by omega)  u5) qMo (zWs_at (by omega) (zC_o)) rfl ⟨(Nat.le_of_ble_eq_true rfl), (Nat.le_of_ble_eq_true rfl)⟩ ⟨(Nat.le_of_ble_eq_true rfl), (Nat.le_of_ble_eq_true rfl)⟩ (Nat.le_of_ble_eq_true rfl) ?_
  refine g_ws (M := mX8_mostHad) (congrArg (zWs A n) zC_over) ?_
  refine h_bne (M := mX8_mostHad) (tgt := 16) dX8_mostHad_11 (by decide) (fun c6 => ?_) (fun c6 => ?_)
  · have h := zti c6 h
    refine h_iconst (M := mX8_mostHad) dX8_mostHad_16 ?_
    refine g_istore_n (M := mX8_mostHad) (lv' := [(0, .ref (A qMo)), (1, .int (iI a1)), (2, .int (iI (-1)))]) dX8_mostHad_17 rfl (by decide) rfl ?_
    refine h_iconst (M := mX8_mostHad) dX8_mostHad_18 ?_
    refine g_istore_n (M := mX8_mostHad) (lv' := [(0, .ref (A qMo)), (1, .int (iI a1)), (2, .int (iI (-1))), (3, .int (iI 0))]) dX8_mostHad_19 rfl (by decide) rfl ?_
    refine h_iconst (M := mX8_mostHad) dX8_mostHad_20 ?_
    refine g_istore (M := mX8_mostHad) (lv' := [(0, .ref (A qMo)), (1, .int (iI a1)), (2, .int (iI (-1))), (3, .int (iI 0)), (4, .int (iI 0))]) dX8_mostHad_21 (by decide) rfl ?_
    refine h_iconst (M := mX8_mostHad) dX8_mostHad_23 ?_
    refine g_istore (M := mX8_mostHad) (lv' := [(0, .ref (A qMo)), (1, .int (iI a1)), (2, .int (iI (-1))), (3, .int (iI 0)), (4, .int (iI 0)), (5, .int (iI 0))]) dX8_mostHad_24 (by decide) rfl ?_
    obtain ⟨x7, l7, h⟩ := zbi h
    have r7 : ∀ y7, y7 = x7 → G X mX8_mostHad (zPm X 6 0 0 (zRet (zWs A n (zC X A shMo qMo res.1 S)) (some (.int (iI res.2))))) 0 0 95 [(1, .int (iI a1)), (2, .int (iI y7.1)), (3, .int (iI y7.2.1))] [] (zWs A n (zC X A shMo qMo y7.2.2.2.2 S)) := by
      intro y7 ey
      rw [← ey] at h
      refine g_iload_n (M := mX8_mostHad) dX8_mostHad_95 0 rfl rfl ?_
      refine h_if_ne (M := mX8_mostHad) (tgt := 103) dX8_mostHad_96 (by decide) g1 (fun c25 => ?_) (fun c25 => ?_)
      · have h := zfi c25 h
        refine g_iload_n (M := mX8_mostHad) dX8_mostHad_103 2 rfl rfl ?_
        have e := (Option.some.inj h)
        subst e
        exact g_iret (M := mX8_mostHad) dX8_mostHad_104 rfl (Nat.le_of_ble_eq_true rfl) (Nat.le_of_ble_eq_true rfl) ⟨rfl, rfl⟩
      · have h := zti c25 h
        refine g_iload_n (M := mX8_mostHad) dX8_mostHad_99 1 rfl rfl ?_
        refine g_goto (M := mX8_mostHad) (tgt := 104) dX8_mostHad_100 (by decide) ?_
        have e := (Option.some.inj h)
        subst e
        exact g_iret (M := mX8_mostHad) dX8_mostHad_104 rfl (Nat.le_of_ble_eq_true rfl) (Nat.le_of_ble_eq_true rfl) ⟨rfl, rfl⟩
    refine zLp_J (J := fun s7 => G X mX8_mostHad (zPm X 6 0 0 (zRet (zWs A n (zC X A shMo qMo res.1 S)) (some (.int (iI res.2))))) 0 0 26 [(0, .ref (A qMo)), (1, .int (iI a1)), (2, .int (iI s7.1)), (3, .int (iI s7.2.1)), (4, .int (iI s7.2.2.1)), (5, .int (iI s7.2.2.2.1))] [] (zWs A n (zC X A shMo qMo s7.2.2.2.2 S))) (fun s7 w7 h7 b7 e7 => ?_) _ _ l7
    refine g_iload (M := mX8_mostHad) dX8_mostHad_26 5 rfl ?_
    refine g_aload_n (M := mX8_mostHad) dX8_mostHad_28 0 rfl rfl ?_
    obtain ⟨t26, u27, h7⟩ := zbi h7
    refine g_callVr (M := mX8_mostHad) [] hX dX8_mostHad_29 vX8_words kM_X8_162 (wX8_words hX zC_self (by omega)  u27) qMo (zWs_at (by omega) (zC_o)) rfl ⟨(Nat.le_of_ble_eq_true rfl), (Nat.le_of_ble_eq_true rfl)⟩ ⟨(Nat.le_of_ble_eq_true rfl), (Nat.le_of_ble_eq_true rfl)⟩ (Nat.le_of_ble_eq_true rfl) ?_
    obtain ⟨g29, h7⟩ := zgi h7
    refine h_icmp_ge (M := mX8_mostHad) (tgt := 95) dX8_mostHad_32 (by decide) g29.1 g29.2 (fun c28 => ?_) (fun c28 => ?_)
    · have h7 := zti c28 h7
      refine g_lv (M := mX8_mostHad) [1, 2, 3] rfl ?_
      exact r7 _ (e7 _ (Option.some.inj h7).symm)
    · have h7 := zfi (Int.not_le.mpr c28) h7
      refine g_aload_n (M := mX8_mostHad) dX8_mostHad_35 0 rfl rfl ?_
      refine g_iload (M := mX8_mostHad) dX8_mostHad_36 5 rfl ?_
      obtain ⟨t30, u31, h7⟩ := zbi h7
      refine g_callVr (M := mX8_mostHad) [.int (iI s7.2.2.2.1)] hX dX8_mostHad_38 vX8_scoreOf kM_X8_271 (wX8_scoreOf hX zC_self (by omega)  u31) qMo (zWs_at (by omega) (zC_o)) rfl ⟨(Nat.le_of_ble_eq_true rfl), (Nat.le_of_ble_eq_true rfl)⟩ ⟨(Nat.le_of_ble_eq_true rfl), (Nat.le_of_ble_eq_true rfl)⟩ (Nat.le_of_ble_eq_true rfl) ?_
      refine g_ws (M := mX8_mostHad) (congrArg (zWs A n) zC_over) ?_
      refine g_istore (M := mX8_mostHad) (lv' := [(0, .ref (A qMo)), (1, .int (iI a1)), (2, .int (iI s7.1)), (3, .int (iI s7.2.1)), (4, .int (iI s7.2.2.1)), (5, .int (iI s7.2.2.2.1)), (6, .int (iI t30.2))]) dX8_mostHad_41 (by decide) rfl ?_
      refine g_aload_n (M := mX8_mostHad) dX8_mostHad_43 0 rfl rfl ?_
      obtain ⟨t32, u33, h7⟩ := zbi h7
      refine g_callVr (M := mX8_mostHad) [] hX dX8_mostHad_44 vX8_haves kM_X8_274 (wX8_haves hX zC_self (by omega)  u33) qMo (zWs_at (by omega) (zC_o)) rfl ⟨(Nat.le_of_ble_eq_true rfl), (Nat.le_of_ble_eq_true rfl)⟩ ⟨(Nat.le_of_ble_eq_true rfl), (Nat.le_of_ble_eq_true rfl)⟩ (Nat.le_of_ble_eq_true rfl) ?_
      obtain ⟨t34, u35, h7⟩ := zbi h7
      refine g_callSr (M := mX8_mostHad) [.int (iI t32)] hX dX8_mostHad_47 vX8_ones kM_X8_253 (wX8_ones hX   u35) rfl ⟨(Nat.le_of_ble_eq_true rfl), (Nat.le_of_ble_eq_true rfl)⟩ ⟨(Nat.le_of_ble_eq_true rfl), (Nat.le_of_ble_eq_true rfl)⟩ (Nat.le_of_ble_eq_true rfl) ?_
      refine g_istore (M := mX8_mostHad) (lv' := [(0, .ref (A qMo)), (1, .int (iI a1)), (2, .int (iI s7.1)), (3, .int (iI s7.2.1)), (4, .int (iI s7.2.2.1)), (5, .int (iI s7.2.2.2.1)), (6, .int (iI t30.2)), (7, .int (iI t34))]) dX8_mostHad_50 (by decide) rfl ?_
      refine g_iload_n (M := mX8_mostHad) dX8_mostHad_52 2 rfl rfl ?_
      refine h_iconst (M := mX8_mostHad) dX8_mostHad_53 ?_
      obtain ⟨g37, h7⟩ := zgi h7
      refine h_icmp_eq (M := mX8_mostHad) (tgt := 79) dX8_mostHad_54 (by decide) g37 (by decide) (fun c36 => ?_) (fun c36 => ?_)
      · have h7 := zti c36 h7
        refine g_iload (M := mX8_mostHad) dX8_mostHad_79 5 rfl ?_
        refine g_istore_n (M := mX8_mostHad) (lv' := [(0, .ref (A qMo)), (1, .int (iI a1)), (2, .int (iI s7.2.2.2.1)), (3, .int (iI s7.2.1)), (4, .int (iI s7.2.2.1)), (5, .int (iI s7.2.2.2.1)), (6, .int (iI t30.2)), (7, .int (iI t34))]) dX8_mostHad_81 rfl (by decide) rfl ?_
        refine g_iload (M := mX8_mostHad) dX8_mostHad_82 7 rfl ?_
        refine g_istore_n (M := mX8_mostHad) (lv' := [(0, .ref (A qMo)), (1, .int (iI a1)), (2, .int (iI s7.2.2.2.1)), (3, .int (iI t34)), (4, .int (iI s7.2.2.1)), (5, .int (iI s7.2.2.2.1)), (6, .int (iI t30.2)), (7, .int (iI t34))]) dX8_mostHad_84 rfl (by decide) rfl ?_
        refine g_iload (M := mX8_mostHad) dX8_mostHad_85 6 rfl ?_
        refine g_istore (M := mX8_mostHad) (lv' := [(0, .ref (A qMo)), (1, .int (iI a1)), (2, .int (iI s7.2.2.2.1)), (3, .int (iI t34)), (4, .int (iI t30.2)), (5, .int (iI s7.2.2.2.1)), (6, .int (iI t30.2)), (7, .int (iI t34))]) dX8_mostHad_87 (by decide) rfl ?_
        refine h_iinc (M := mX8_mostHad) (j := 5) (lv' := [(0, .ref (A qMo)), (1, .int (iI a1)), (2, .int (iI s7.2.2.2.1)), (3, .int (iI t34)), (4, .int (iI t30.2)), (5, .int (iI (s7.2.2.2.1 + 1))), (6, .int (iI t30.2)), (7, .int (iI t34))]) dX8_mostHad_89 rfl (Nat.le_of_ble_eq_true rfl) rfl ?_
        refine g_goto (M := mX8_mostHad) (tgt := 26) dX8_mostHad_92 (by decide) ?_
        refine g_lv (M := mX8_mostHad) [0, 1, 2, 3, 4, 5] rfl ?_
        exact b7 _ (Option.some.inj h7).symm
      · have h7 := zfi c36 h7
        refine g_iload (M := mX8_mostHad) dX8_mostHad_57 7 rfl ?_
        refine g_iload_n (M := mX8_mostHad) dX8_mostHad_59 3 rfl rfl ?_
        obtain ⟨g39, h7⟩ := zgi h7
        refine h_icmp_lt (M := mX8_mostHad) (tgt := 89) dX8_mostHad_60 (by decide) g39.1 g39.2 (fun c38 => ?_) (fun c38 => ?_)
        · have h7 := zti c38 h7
          refine h_iinc (M := mX8_mostHad) (j := 5) (lv' := [(0, .ref (A qMo)), (1, .int (iI a1)), (2, .int (iI s7.1)), (3, .int (iI s7.2.1)), (4, .int (iI s7.2.2.1)), (5, .int (iI (s7.2.2.2.1 + 1))), (6, .int (iI t30.2)), (7, .int (iI t34))]) dX8_mostHad_89 rfl (Nat.le_of_ble_eq_true rfl) rfl ?_
          refine g_goto (M := mX8_mostHad) (tgt := 26) dX8_mostHad_92 (by decide) ?_
          refine g_lv (M := mX8_mostHad) [0, 1, 2, 3, 4, 5] rfl ?_
          exact b7 _ (Option.some.inj h7).symm
        · have h7 := zfi (Int.not_lt.mpr c38) h7
          refine g_iload (M := mX8_mostHad) dX8_mostHad_63 7 rfl ?_
          refine g_iload_n (M := mX8_mostHad) dX8_mostHad_65 3 rfl rfl ?_
          refine h_icmp_ne (M := mX8_mostHad) (tgt := 79) dX8_mostHad_66 (by decide) g39.1 g39.2 (fun c40 => ?_) (fun c40 => ?_)
          · have h7 := zfi c40 h7
            refine g_iload (M := mX8_mostHad) dX8_mostHad_79 5 rfl ?_
            refine g_istore_n (M := mX8_mostHad) (lv' := [(0, .ref (A qMo)), (1, .int (iI a1)), (2, .int (iI s7.2.2.2.1)), (3, .int (iI s7.2.1)), (4, .int (iI s7.2.2.1)), (5, .int (iI s7.2.2.2.1)), (6, .int (iI t30.2)), (7, .int (iI t34))]) dX8_mostHad_81 rfl (by decide) rfl ?_
            refine g_iload (M := mX8_mostHad) dX8_mostHad_82 7 rfl ?_
            refine g_istore_n (M := mX8_mostHad) (lv' := [(0, .ref (A qMo)), (1, .int (iI a1)), (2, .int (iI s7.2.2.2.1)), (3, .int (iI t34)), (4, .int (iI s7.2.2.1)), (5, .int (iI s7.2.2.2.1)), (6, .int (iI t30.2)), (7, .int (iI t34))]) dX8_mostHad_84 rfl (by decide) rfl ?_
            refine g_iload (M := mX8_mostHad) dX8_mostHad_85 6 rfl ?_
            refine g_istore (M := mX8_mostHad) (lv' := [(0, .ref (A qMo)), (1, .int (iI a1)), (2, .int (iI s7.2.2.2.1)), (3, .int (iI t34)), (4, .int (iI t30.2)), (5, .int (iI s7.2.2.2.1)), (6, .int (iI t30.2)), (7, .int (iI t34))]) dX8_mostHad_87 (by decide) rfl ?_
            refine h_iinc (M := mX8_mostHad) (j := 5) (lv' := [(0, .ref (A qMo)), (1, .int (iI a1)), (2, .int (iI s7.2.2.2.1)), (3, .int (iI t34)), (4, .int (iI t30.2)), (5, .int (iI (s7.2.2.2.1 + 1))), (6, .int (iI t30.2)), (7, .int (iI t34))]) dX8_mostHad_89 rfl (Nat.le_of_ble_eq_true rfl) rfl ?_
            refine g_goto (M := mX8_mostHad) (tgt := 26) dX8_mostHad_92 (by decide) ?_
            refine g_lv (M := mX8_mostHad) [0, 1, 2, 3, 4, 5] rfl ?_
            exact b7 _ (Option.some.inj h7).symm
          · have h7 := zti c40 h7
            refine g_iload (M := mX8_mostHad) dX8_mostHad_69 6 rfl ?_
            refine g_iload (M := mX8_mostHad) dX8_mostHad_71 4 rfl ?_
            obtain ⟨g42, h7⟩ := zgi h7
            refine h_icmp_lt (M := mX8_mostHad) (tgt := 79) dX8_mostHad_73 (by decide) g42.1 g42.2 (fun c41 => ?_) (fun c41 => ?_)
            · have h7 := zti c41 h7
              refine g_iload (M := mX8_mostHad) dX8_mostHad_79 5 rfl ?_
              refine g_istore_n (M := mX8_mostHad) (lv' := [(0, .ref (A qMo)), (1, .int (iI a1)), (2, .int (iI s7.2.2.2.1)), (3, .int (iI s7.2.1)), (4, .int (iI s7.2.2.1)), (5, .int (iI s7.2.2.2.1)), (6, .int (iI t30.2)), (7, .int (iI t34))]) dX8_mostHad_81 rfl (by decide) rfl ?_
              refine g_iload (M := mX8_mostHad) dX8_mostHad_82 7 rfl ?_
              refine g_istore_n (M := mX8_mostHad) (lv' := [(0, .ref (A qMo)), (1, .int (iI a1)), (2, .int (iI s7.2.2.2.1)), (3, .int (iI t34)), (4, .int (iI s7.2.2.1)), (5, .int (iI s7.2.2.2.1)), (6, .int (iI t30.2)), (7, .int (iI t34))]) dX8_mostHad_84 rfl (by decide) rfl ?_
              refine g_iload (M := mX8_mostHad) dX8_mostHad_85 6 rfl ?_
              refine g_istore (M := mX8_mostHad) (lv' := [(0, .ref (A qMo)), (1, .int (iI a1)), (2, .int (iI s7.2.2.2.1)), (3, .int (iI t34)), (4, .int (iI t30.2)), (5, .int (iI s7.2.2.2.1)), (6, .int (iI t30.2)), (7, .int (iI t34))]) dX8_mostHad_87 (by decide) rfl ?_
              refine h_iinc (M := mX8_mostHad) (j := 5) (lv' := [(0, .ref (A qMo)), (1, .int (iI a1)), (2, .int (iI s7.2.2.2.1)), (3, .int (iI t34)), (4, .int (iI t30.2)), (5, .int (iI (s7.2.2.2.1 + 1))), (6, .int (iI t30.2)), (7, .int (iI t34))]) dX8_mostHad_89 rfl (Nat.le_of_ble_eq_true rfl) rfl ?_
              refine g_goto (M := mX8_mostHad) (tgt := 26) dX8_mostHad_92 (by decide) ?_
              refine g_lv (M := mX8_mostHad) [0, 1, 2, 3, 4, 5] rfl ?_
              exact b7 _ (Option.some.inj h7).symm
            · have h7 := zfi (Int.not_lt.mpr c41) h7
              refine g_goto (M := mX8_mostHad) (tgt := 89) dX8_mostHad_76 (by decide) ?_
              refine h_iinc (M := mX8_mostHad) (j := 5) (lv' := [(0, .ref (A qMo)), (1, .int (iI a1)), (2, .int (iI s7.1)), (3, .int (iI s7.2.1)), (4, .int (iI s7.2.2.1)), (5, .int (iI (s7.2.2.2.1 + 1))), (6, .int (iI t30.2)), (7, .int (iI t34))]) dX8_mostHad_89 rfl (Nat.le_of_ble_eq_true rfl) rfl ?_
              refine g_goto (M := mX8_mostHad) (tgt := 26) dX8_mostHad_92 (by decide) ?_
              refine g_lv (M := mX8_mostHad) [0, 1, 2, 3, 4, 5] rfl ?_
              exact b7 _ (Option.some.inj h7).symm
  · have h := zfi (zbf c6) h
    refine h_iconst (M := mX8_mostHad) dX8_mostHad_14 ?_
    have e := (Option.some.inj h)
    subst e
    exact g_iret (M := mX8_mostHad) dX8_mostHad_15 rfl (Nat.le_of_ble_eq_true rfl) (Nat.le_of_ble_eq_true rfl) ⟨rfl, rfl⟩
set_option maxHeartbeats 4000000 in
set_option maxRecDepth 100000 in
theorem wX8_without {X : zX} (hX : zOK X) {A : Nat → Nat} {n : Nat} {S : Nat → va_E} {qMo : Nat} {VMo : CV} (hMo : isC X A shMo qMo VMo S) (bMo : qMo + 20 < n) {a1 : Int} {res : CV × Int} (h : fX8_without VMo a1 = some res) : Con X yX8_without mX8_without 6 0 0 [.ref (A qMo), .int (iI a1)] (zWs A n S) (zRet (zWs A n (zC X A shMo qMo res.1 S)) (some (.int (iI res.2)))) := by
  refine con_of (lv := [(0, .ref (A qMo)), (1, .int (iI a1))]) (by decide) rfl (fun h => by cases h) rfl (Nat.le_of_ble_eq_true rfl) rfl ?_
  refine g_ws (M := mX8_without) (congrArg (zWs A n) hMo.symm) ?_
  unfold fX8_without at h
  refine g_aload_n (M := mX8_without) dX8_without_0 0 rfl rfl ?_
  refine g_iload_n (M := mX8_without) dX8_without_1 1 rfl rfl ?_
  refine h_iconst (M := mX8_without) dX8_without_2 ?_
  obtain ⟨t1, u2, h⟩ := zbi h
  refine g_callVr (M := mX8_without) [.int (iI a1), .int (iI 2)] hX dX8_without_3 vX8_of kM_X8_166 (wX8_of hX zC_self (by omega)  u2) qMo (zWs_at (by omega) (zC_o)) rfl ⟨(Nat.le_of_ble_eq_true rfl), (Nat.le_of_ble_eq_true rfl)⟩ ⟨(Nat.le_of_ble_eq_true rfl), (Nat.le_of_ble_eq_true rfl)⟩ (Nat.le_of_ble_eq_true rfl) ?_
  refine g_istore_n (M := mX8_without) (lv' := [(0, .ref (A qMo)), (1, .int (iI a1)), (2, .int (iI t1))]) dX8_without_6 rfl (by decide) rfl ?_
  refine g_aload_n (M := mX8_without) dX8_without_7 0 rfl rfl ?_
  refine g_iload_n (M := mX8_without) dX8_without_8 1 rfl rfl ?_
  refine h_iconst (M := mX8_without) dX8_without_9 ?_
  refine h_iconst (M := mX8_without) dX8_without_10 ?_
  obtain ⟨t3, u4, h⟩ := zbi h
  refine g_callVr (M := mX8_without) [.int (iI a1), .int (iI 2), .int (iI 1)] hX dX8_without_11 vX8_lays kM_X8_179 (wX8_lays hX zC_self (by omega)  u4) qMo (zWs_at (by omega) (zC_o)) rfl ⟨(Nat.le_of_ble_eq_true rfl), (Nat.le_of_ble_eq_true rfl)⟩ ⟨(Nat.le_of_ble_eq_true rfl), (Nat.le_of_ble_eq_true rfl)⟩ (Nat.le_of_ble_eq_true rfl) ?_
  refine g_ws (M := mX8_without) (congrArg (zWs A n) zC_over) ?_
  refine g_aload_n (M := mX8_without) dX8_without_14 0 rfl rfl ?_
  obtain ⟨t5, u6, h⟩ := zbi h
  refine g_callVr (M := mX8_without) [] hX dX8_without_15 vX8_searches kM_X8_323 (wX8_searches hX zC_self (by omega)  u6) qMo (zWs_at (by omega) (zC_o)) rfl ⟨(Nat.le_of_ble_eq_true rfl), (Nat.le_of_ble_eq_true rfl)⟩ ⟨(Nat.le_of_ble_eq_true rfl), (Nat.le_of_ble_eq_true rfl)⟩ (Nat.le_of_ble_eq_true rfl) ?_
  refine g_ws (M := mX8_without) (congrArg (zWs A n) zC_over) ?_
  refine g_aload_n (M := mX8_without) dX8_without_18 0 rfl rfl ?_
  refine g_iload_n (M := mX8_without) dX8_without_19 1 rfl rfl ?_
  refine h_iconst (M := mX8_without) dX8_without_20 ?_
  refine g_iload_n (M := mX8_without) dX8_without_21 2 rfl rfl ?_
  obtain ⟨t7, u8, h⟩ := zbi h
  refine g_callVr (M := mX8_without) [.int (iI a1), .int (iI 2), .int (iI t1)] hX dX8_without_22 vX8_lays kM_X8_179 (wX8_lays hX zC_self (by omega)  u8) qMo (zWs_at (by omega) (zC_o)) rfl ⟨(Nat.le_of_ble_eq_true rfl), (Nat.le_of_ble_eq_true rfl)⟩ ⟨(Nat.le_of_ble_eq_true rfl), (Nat.le_of_ble_eq_true rfl)⟩ (Nat.le_of_ble_eq_true rfl) ?_
  refine g_ws (M := mX8_without) (congrArg (zWs A n) zC_over) ?_
  refine g_aload_n (M := mX8_without) dX8_without_25 0 rfl rfl ?_
  refine k_get (M := mX8_without) (v := .int (iI (t7.1 32))) dX8_without_26 kF_X8_309.r qMo (by omega) (zC_o) rfl ?_
  have e := (Option.some.inj h)
  subst e
  exact g_iret (M := mX8_without) dX8_without_29 rfl (Nat.le_of_ble_eq_true rfl) (Nat.le_of_ble_eq_true rfl) ⟨rfl, rfl⟩
set_option maxHeartbeats 4000000 in
set_option maxRecDepth 100000 in
theorem wX8_outlier {X : zX} (hX : zOK X) {A : Nat → Nat} {n : Nat} {S : Nat → va_E} {qMo : Nat} {VMo : CV} (hMo : isC X A shMo qMo VMo S) (bMo : qMo + 20 < n) {res : CV × Int} (h : fX8_outlier VMo = some res) : Con X yX8_outlier mX8_outlier 7 0 0 [.ref (A qMo)] (zWs A n S) (zRet (zWs A n (zC X A shMo qMo res.1 S)) (some (.int (iI res.2)))) := by
  refine con_of (lv := [(0, .ref (A qMo))]) (by decide) rfl (fun h => by cases h) rfl (Nat.le_of_ble_eq_true rfl) rfl ?_
  refine g_ws (M := mX8_outlier) (congrArg (zWs A n) hMo.symm) ?_
  unfold fX8_outlier at h
  refine g_aload_n (M := mX8_outlier) dX8_outlier_0 0 rfl rfl ?_
  refine h_iconst (M := mX8_outlier) dX8_outlier_1 ?_
  refine c_put (M := mX8_outlier) (k := 0) dX8_outlier_2 kF_X8_81 (by omega) rfl rfl (by decide) rfl rfl ?_
  refine h_iconst (M := mX8_outlier) dX8_outlier_5 ?_
  refine g_istore_n (M := mX8_outlier) (lv' := [(0, .ref (A qMo)), (1, .int (iI (-1)))]) dX8_outlier_6 rfl (by decide) rfl ?_
  refine h_iconst (M := mX8_outlier) dX8_outlier_7 ?_
  refine g_istore_n (M := mX8_outlier) (lv' := [(0, .ref (A qMo)), (1, .int (iI (-1))), (2, .int (iI 0))]) dX8_outlier_8 rfl (by decide) rfl ?_
  refine h_iconst (M := mX8_outlier) dX8_outlier_9 ?_
  refine g_istore_n (M := mX8_outlier) (lv' := [(0, .ref (A qMo)), (1, .int (iI (-1))), (2, .int (iI 0)), (3, .int (iI 0))]) dX8_outlier_10 rfl (by decide) rfl ?_
  obtain ⟨x1, l1, h⟩ := zbi h
  have r1 : ∀ y1, y1 = x1 → G X mX8_outlier (zPm X 7 0 0 (zRet (zWs A n (zC X A shMo qMo res.1 S)) (some (.int (iI res.2))))) 0 0 64 [(1, .int (iI y1.1))] [] (zWs A n (zC X A shMo qMo y1.2.2.2 S)) := by
    intro y1 ey
    rw [← ey] at h
    refine g_iload_n (M := mX8_outlier) dX8_outlier_64 0 rfl rfl ?_
    have e := (Option.some.inj h)
    subst e
    exact g_iret (M := mX8_outlier) dX8_outlier_65 rfl (Nat.le_of_ble_eq_true rfl) (Nat.le_of_ble_eq_true rfl) ⟨rfl, rfl⟩
  refine zLp_J (J := fun s1 => G X mX8_outlier (zPm X 7 0 0 (zRet (zWs A n (zC X A shMo qMo res.1 S)) (some (.int (iI res.2))))) 0 0 11 [(0, .ref (A qMo)), (1, .int (iI s1.1)), (2, .int (iI s1.2.1)), (3, .int (iI s1.2.2.1))] [] (zWs A n (zC X A shMo qMo s1.2.2.2 S))) (fun s1 w1 h1 b1 e1 => ?_) _ _ l1
  refine g_iload_n (M := mX8_outlier) dX8_outlier_11 3 rfl rfl ?_
  refine g_aload_n (M := mX8_outlier) dX8_outlier_12 0 rfl rfl ?_
  refine k_get (M := mX8_outlier) (v := .ref (A (qMo + 2))) dX8_outlier_13 kF_X8_20.r qMo (by omega) (zC_o) rfl ?_
  refine h_iconst (M := mX8_outlier) dX8_outlier_16 ?_
  refine k_iald (M := mX8_outlier) (len := 351) (f := s1.2.2.2.2 2) dX8_outlier_17 (qMo + 2) (by omega) (zC_a (d := (0, 351)) 1 rfl) (Nat.le_of_ble_eq_true rfl) (by decide) (by decide) ?_
  obtain ⟨g14, h1⟩ := zgi h1
  refine h_icmp_ge (M := mX8_outlier) (tgt := 64) dX8_outlier_18 (by decide) g14.1 g14.2 (fun c13 => ?_) (fun c13 => ?_)
  · have h1 := zti c13 h1
    refine g_lv (M := mX8_outlier) [1] rfl ?_
    exact r1 _ (e1 _ (Option.some.inj h1).symm)
  · have h1 := zfi (Int.not_le.mpr c13) h1
    refine g_aload_n (M := mX8_outlier) dX8_outlier_21 0 rfl rfl ?_
    refine g_iload_n (M := mX8_outlier) dX8_outlier_22 3 rfl rfl ?_
    obtain ⟨t15, u16, h1⟩ := zbi h1
    refine g_callVr (M := mX8_outlier) [.int (iI s1.2.2.1)] hX dX8_outlier_23 vX8_isOut kM_X8_226 (wX8_isOut hX zC_self (by omega)  u16) qMo (zWs_at (by omega) (zC_o)) rfl ⟨(Nat.le_of_ble_eq_true rfl), (Nat.le_of_ble_eq_true rfl)⟩ ⟨(Nat.le_of_ble_eq_true rfl), (Nat.le_of_ble_eq_true rfl)⟩ (Nat.le_of_ble_eq_true rfl) ?_
    refine h_beq (M := mX8_outlier) (tgt := 32) dX8_outlier_26 (by decide) (fun c17 => ?_) (fun c17 => ?_)
    · have h1 := zfi (zbf c17) h1
      refine g_aload_n (M := mX8_outlier) dX8_outlier_32 0 rfl rfl ?_
      refine g_iload_n (M := mX8_outlier) dX8_outlier_33 3 rfl rfl ?_
      obtain ⟨t18, u19, h1⟩ := zbi h1
      refine g_callVr (M := mX8_outlier) [.int (iI s1.2.2.1)] hX dX8_outlier_34 vX8_without kM_X8_326 (wX8_without hX zC_self (by omega)  u19) qMo (zWs_at (by omega) (zC_o)) rfl ⟨(Nat.le_of_ble_eq_true rfl), (Nat.le_of_ble_eq_true rfl)⟩ ⟨(Nat.le_of_ble_eq_true rfl), (Nat.le_of_ble_eq_true rfl)⟩ (Nat.le_of_ble_eq_true rfl) ?_
      refine g_ws (M := mX8_outlier) (congrArg (zWs A n) zC_over) ?_
      refine g_istore (M := mX8_outlier) (lv' := [(0, .ref (A qMo)), (1, .int (iI s1.1)), (2, .int (iI s1.2.1)), (3, .int (iI s1.2.2.1)), (4, .int (iI t18.2))]) dX8_outlier_37 (by decide) rfl ?_
      refine g_iload_n (M := mX8_outlier) dX8_outlier_39 1 rfl rfl ?_
      refine h_iconst (M := mX8_outlier) dX8_outlier_40 ?_
      obtain ⟨g21, h1⟩ := zgi h1
      refine h_icmp_eq (M := mX8_outlier) (tgt := 53) dX8_outlier_41 (by decide) g21 (by decide) (fun c20 => ?_) (fun c20 => ?_)
      · have h1 := zti c20 h1
        refine g_iload_n (M := mX8_outlier) dX8_outlier_53 3 rfl rfl ?_
        refine g_istore_n (M := mX8_outlier) (lv' := [(0, .ref (A qMo)), (1, .int (iI s1.2.2.1)), (2, .int (iI s1.2.1)), (3, .int (iI s1.2.2.1)), (4, .int (iI t18.2))]) dX8_outlier_54 rfl (by decide) rfl ?_
        refine g_iload (M := mX8_outlier) dX8_outlier_55 4 rfl ?_
        refine g_istore_n (M := mX8_outlier) (lv' := [(0, .ref (A qMo)), (1, .int (iI s1.2.2.1)), (2, .int (iI t18.2)), (3, .int (iI s1.2.2.1)), (4, .int (iI t18.2))]) dX8_outlier_57 rfl (by decide) rfl ?_
        refine h_iinc (M := mX8_outlier) (j := 3) (lv' := [(0, .ref (A qMo)), (1, .int (iI s1.2.2.1)), (2, .int (iI t18.2)), (3, .int (iI (s1.2.2.1 + 1))), (4, .int (iI t18.2))]) dX8_outlier_58 rfl (Nat.le_of_ble_eq_true rfl) rfl ?_
        refine g_goto (M := mX8_outlier) (tgt := 11) dX8_outlier_61 (by decide) ?_
        refine g_lv (M := mX8_outlier) [0, 1, 2, 3] rfl ?_
        exact b1 _ (Option.some.inj h1).symm
      · have h1 := zfi c20 h1
        refine g_iload (M := mX8_outlier) dX8_outlier_44 4 rfl ?_
        refine g_iload_n (M := mX8_outlier) dX8_outlier_46 2 rfl rfl ?_
        obtain ⟨g23, h1⟩ := zgi h1
        refine h_icmp_lt (M := mX8_outlier) (tgt := 53) dX8_outlier_47 (by decide) g23.1 g23.2 (fun c22 => ?_) (fun c22 => ?_)
        · have h1 := zti c22 h1
          refine g_iload_n (M := mX8_outlier) dX8_outlier_53 3 rfl rfl ?_
          refine g_istore_n (M := mX8_outlier) (lv' := [(0, .ref (A qMo)), (1, .int (iI s1.2.2.1)), (2, .int (iI s1.2.1)), (3, .int (iI s1.2.2.1)), (4, .int (iI t18.2))]) dX8_outlier_54 rfl (by decide) rfl ?_
          refine g_iload (M := mX8_outlier) dX8_outlier_55 4 rfl ?_
          refine g_istore_n (M := mX8_outlier) (lv' := [(0, .ref (A qMo)), (1, .int (iI s1.2.2.1)), (2, .int (iI t18.2)), (3, .int (iI s1.2.2.1)), (4, .int (iI t18.2))]) dX8_outlier_57 rfl (by decide) rfl ?_
          refine h_iinc (M := mX8_outlier) (j := 3) (lv' := [(0, .ref (A qMo)), (1, .int (iI s1.2.2.1)), (2, .int (iI t18.2)), (3, .int (iI (s1.2.2.1 + 1))), (4, .int (iI t18.2))]) dX8_outlier_58 rfl (Nat.le_of_ble_eq_true rfl) rfl ?_
          refine g_goto (M := mX8_outlier) (tgt := 11) dX8_outlier_61 (by decide) ?_
          refine g_lv (M := mX8_outlier) [0, 1, 2, 3] rfl ?_
          exact b1 _ (Option.some.inj h1).symm
        · have h1 := zfi (Int.not_lt.mpr c22) h1
          refine g_goto (M := mX8_outlier) (tgt := 58) dX8_outlier_50 (by decide) ?_
          refine h_iinc (M := mX8_outlier) (j := 3) (lv' := [(0, .ref (A qMo)), (1, .int (iI s1.1)), (2, .int (iI s1.2.1)), (3, .int (iI (s1.2.2.1 + 1))), (4, .int (iI t18.2))]) dX8_outlier_58 rfl (Nat.le_of_ble_eq_true rfl) rfl ?_
          refine g_goto (M := mX8_outlier) (tgt := 11) dX8_outlier_61 (by decide) ?_
          refine g_lv (M := mX8_outlier) [0, 1, 2, 3] rfl ?_
          exact b1 _ (Option.some.inj h1).symm
    · have h1 := zti c17 h1
      refine g_goto (M := mX8_outlier) (tgt := 58) dX8_outlier_29 (by decide) ?_
      refine h_iinc (M := mX8_outlier) (j := 3) (lv' := [(0, .ref (A qMo)), (1, .int (iI s1.1)), (2, .int (iI s1.2.1)), (3, .int (iI (s1.2.2.1 + 1)))]) dX8_outlier_58 rfl (Nat.le_of_ble_eq_true rfl) rfl ?_
      refine g_goto (M := mX8_outlier) (tgt := 11) dX8_outlier_61 (by decide) ?_
      exact b1 _ (Option.some.inj h1).symm
set_option maxHeartbeats 4000000 in
set_option maxRecDepth 100000 in
theorem wX8_placesOf {X : zX} (hX : zOK X) {A : Nat → Nat} {n : Nat} {S : Nat → va_E} {qMo : Nat} {VMo : CV} (hMo : isC X A shMo qMo VMo S) (bMo : qMo + 20 < n) {a1 : Int} {res : Int} (h : fX8_placesOf VMo a1 = some res) : Con X yX8_placesOf mX8_placesOf 3 0 0 [.ref (A qMo), .int (iI a1)] (zWs A n S) (zRet (zWs A n S) (some (.int (iI res)))) := by
  refine con_of (lv := [(0, .ref (A qMo)), (1, .int (iI a1))]) (by decide) rfl (fun h => by cases h) rfl (Nat.le_of_ble_eq_true rfl) rfl ?_
  unfold fX8_placesOf at h
  refine h_iconst (M := mX8_placesOf) dX8_placesOf_0 ?_
  refine g_istore_n (M := mX8_placesOf) (lv' := [(0, .ref (A qMo)), (1, .int (iI a1)), (2, .int (iI 0))]) dX8_placesOf_1 rfl (by decide) rfl ?_
  refine h_iconst (M := mX8_placesOf) dX8_placesOf_2 ?_
  refine g_istore_n (M := mX8_placesOf) (lv' := [(0, .ref (A qMo)), (1, .int (iI a1)), (2, .int (iI 0)), (3, .int (iI 0))]) dX8_placesOf_3 rfl (by decide) rfl ?_
  obtain ⟨x1, l1, h⟩ := zbi h
  have r1 : ∀ y1, y1 = x1 → G X mX8_placesOf (zPm X 3 0 0 (zRet (zWs A n S) (some (.int (iI res))))) 0 0 32 [(2, .int (iI y1.1))] [] (zWs A n S) := by
    intro y1 ey
    rw [← ey] at h
    refine g_iload_n (M := mX8_placesOf) dX8_placesOf_32 0 rfl rfl ?_
    have e := (Option.some.inj h)
    subst e
    exact g_iret (M := mX8_placesOf) dX8_placesOf_33 rfl (Nat.le_of_ble_eq_true rfl) (Nat.le_of_ble_eq_true rfl) ⟨rfl, rfl⟩
  refine zLp_J (J := fun s1 => G X mX8_placesOf (zPm X 3 0 0 (zRet (zWs A n S) (some (.int (iI res))))) 0 0 4 [(0, .ref (A qMo)), (1, .int (iI a1)), (2, .int (iI s1.1)), (3, .int (iI s1.2))] [] (zWs A n S)) (fun s1 w1 h1 b1 e1 => ?_) _ _ l1
  refine g_iload_n (M := mX8_placesOf) dX8_placesOf_4 3 rfl rfl ?_
  refine g_aload_n (M := mX8_placesOf) dX8_placesOf_5 0 rfl rfl ?_
  refine g_iload_n (M := mX8_placesOf) dX8_placesOf_6 1 rfl rfl ?_
  refine h_iconst (M := mX8_placesOf) dX8_placesOf_7 ?_
  obtain ⟨t10, u11, h1⟩ := zbi h1
  refine g_callVr (M := mX8_placesOf) [.int (iI a1), .int (iI 0)] hX dX8_placesOf_8 vX8_of kM_X8_166 (wX8_of hX hMo (by omega)  u11) qMo (zWs_at (by omega) (hMo.o)) rfl ⟨(Nat.le_of_ble_eq_true rfl), (Nat.le_of_ble_eq_true rfl)⟩ ⟨(Nat.le_of_ble_eq_true rfl), (Nat.le_of_ble_eq_true rfl)⟩ (Nat.le_of_ble_eq_true rfl) ?_
  obtain ⟨g13, h1⟩ := zgi h1
  refine h_icmp_ge (M := mX8_placesOf) (tgt := 32) dX8_placesOf_11 (by decide) g13.1 g13.2 (fun c12 => ?_) (fun c12 => ?_)
  · have h1 := zti c12 h1
    refine g_lv (M := mX8_placesOf) [2] rfl ?_
    exact r1 _ (e1 _ (Option.some.inj h1).symm)
  · have h1 := zfi (Int.not_le.mpr c12) h1
    refine g_iload_n (M := mX8_placesOf) dX8_placesOf_14 2 rfl rfl ?_
    refine g_aload_n (M := mX8_placesOf) dX8_placesOf_15 0 rfl rfl ?_
    refine g_iload_n (M := mX8_placesOf) dX8_placesOf_16 1 rfl rfl ?_
    refine g_iload_n (M := mX8_placesOf) dX8_placesOf_17 3 rfl rfl ?_
    obtain ⟨t14, u15, h1⟩ := zbi h1
    refine g_callVr (M := mX8_placesOf) [.int (iI a1), .int (iI s1.2)] hX dX8_placesOf_18 vX8_isPlace kM_X8_229 (wX8_isPlace hX hMo (by omega)  u15) qMo (zWs_at (by omega) (hMo.o)) rfl ⟨(Nat.le_of_ble_eq_true rfl), (Nat.le_of_ble_eq_true rfl)⟩ ⟨(Nat.le_of_ble_eq_true rfl), (Nat.le_of_ble_eq_true rfl)⟩ (Nat.le_of_ble_eq_true rfl) ?_
    obtain ⟨t16, u17, h1⟩ := zbi h1
    refine g_callSr (M := mX8_placesOf) [.int (iI (b2 t14))] hX dX8_placesOf_21 vX8_truth kM_X8_84 (wX8_truth hX   u17) rfl ⟨(Nat.le_of_ble_eq_true rfl), (Nat.le_of_ble_eq_true rfl)⟩ ⟨(Nat.le_of_ble_eq_true rfl), (Nat.le_of_ble_eq_true rfl)⟩ (Nat.le_of_ble_eq_true rfl) ?_
    refine h_iadd (M := mX8_placesOf) dX8_placesOf_24 ?_
    refine g_istore_n (M := mX8_placesOf) (lv' := [(0, .ref (A qMo)), (1, .int (iI a1)), (2, .int (iI (s1.1 + t16))), (3, .int (iI s1.2))]) dX8_placesOf_25 rfl (by decide) rfl ?_
    refine h_iinc (M := mX8_placesOf) (j := 3) (lv' := [(0, .ref (A qMo)), (1, .int (iI a1)), (2, .int (iI (s1.1 + t16))), (3, .int (iI (s1.2 + 1)))]) dX8_placesOf_26 rfl (Nat.le_of_ble_eq_true rfl) rfl ?_
    refine g_goto (M := mX8_placesOf) (tgt := 4) dX8_placesOf_29 (by decide) ?_
    exact b1 _ (Option.some.inj h1).symm
set_option maxHeartbeats 4000000 in
set_option maxRecDepth 100000 in
theorem wX8_rank {X : zX} (hX : zOK X) {A : Nat → Nat} {n : Nat} {S : Nat → va_E} {qMo : Nat} {VMo : CV} (hMo : isC X A shMo qMo VMo S) (bMo : qMo + 20 < n) {a1 : Int} {res : Int} (h : fX8_rank VMo a1 = some res) : Con X yX8_rank mX8_rank 1 0 0 [.ref (A qMo), .int (iI a1)] (zWs A n S) (zRet (zWs A n S) (some (.int (iI res)))) := by
  refine con_of (lv := [(0, .ref (A qMo)), (1, .int (iI a1))]) (by decide) rfl (fun h => by cases h) rfl (Nat.le_of_ble_eq_true rfl) rfl ?_
  unfold fX8_rank at h
  refine h_iconst (M := mX8_rank) dX8_rank_0 ?_
  refine g_istore_n (M := mX8_rank) (lv' := [(0, .ref (A qMo)), (1, .int (iI a1)), (2, .int (iI 0))]) dX8_rank_1 rfl (by decide) rfl ?_
  refine h_iconst (M := mX8_rank) dX8_rank_2 ?_
  refine g_istore_n (M := mX8_rank) (lv' := [(0, .ref (A qMo)), (1, .int (iI a1)), (2, .int (iI 0)), (3, .int (iI 0))]) dX8_rank_3 rfl (by decide) rfl ?_
  obtain ⟨x1, l1, h⟩ := zbi h
  have r1 : ∀ y1, y1 = x1 → G X mX8_rank (zPm X 1 0 0 (zRet (zWs A n S) (some (.int (iI res))))) 0 0 64 [(2, .int (iI y1.1))] [] (zWs A n S) := by
    intro y1 ey
    rw [← ey] at h
    refine g_iload_n (M := mX8_rank) dX8_rank_64 0 rfl rfl ?_
    have e := (Option.some.inj h)
    subst e
    exact g_iret (M := mX8_rank) dX8_rank_65 rfl (Nat.le_of_ble_eq_true rfl) (Nat.le_of_ble_eq_true rfl) ⟨rfl, rfl⟩
  refine zLp_J (J := fun s1 => G X mX8_rank (zPm X 1 0 0 (zRet (zWs A n S) (some (.int (iI res))))) 0 0 4 [(0, .ref (A qMo)), (1, .int (iI a1)), (2, .int (iI s1.1)), (3, .int (iI s1.2))] [] (zWs A n S)) (fun s1 w1 h1 b1 e1 => ?_) _ _ l1
  refine g_iload_n (M := mX8_rank) dX8_rank_4 3 rfl rfl ?_
  refine g_aload_n (M := mX8_rank) dX8_rank_5 0 rfl rfl ?_
  obtain ⟨t49, u50, h1⟩ := zbi h1
  refine g_callVr (M := mX8_rank) [] hX dX8_rank_6 vX8_words kM_X8_162 (wX8_words hX hMo (by omega)  u50) qMo (zWs_at (by omega) (hMo.o)) rfl ⟨(Nat.le_of_ble_eq_true rfl), (Nat.le_of_ble_eq_true rfl)⟩ ⟨(Nat.le_of_ble_eq_true rfl), (Nat.le_of_ble_eq_true rfl)⟩ (Nat.le_of_ble_eq_true rfl) ?_
  obtain ⟨g52, h1⟩ := zgi h1
  refine h_icmp_ge (M := mX8_rank) (tgt := 64) dX8_rank_9 (by decide) g52.1 g52.2 (fun c51 => ?_) (fun c51 => ?_)
  · have h1 := zti c51 h1
    refine g_lv (M := mX8_rank) [2] rfl ?_
    exact r1 _ (e1 _ (Option.some.inj h1).symm)
  · have h1 := zfi (Int.not_le.mpr c51) h1
    refine g_iload_n (M := mX8_rank) dX8_rank_12 2 rfl rfl ?_
    refine g_aload_n (M := mX8_rank) dX8_rank_13 0 rfl rfl ?_
    refine k_get (M := mX8_rank) (v := .ref (A (qMo + 13))) dX8_rank_14 kF_X8_54.r qMo (by omega) (hMo.o) rfl ?_
    refine g_iload_n (M := mX8_rank) dX8_rank_17 3 rfl rfl ?_
    obtain ⟨g53, h1⟩ := zgi h1
    refine k_iald (M := mX8_rank) (len := 4096) (f := VMo.2 13) dX8_rank_18 (qMo + 13) (by omega) (hMo.a (d := (0, 4096)) 12 rfl) (Nat.le_of_ble_eq_true rfl) g53.1 g53.2 ?_
    refine g_aload_n (M := mX8_rank) dX8_rank_19 0 rfl rfl ?_
    refine k_get (M := mX8_rank) (v := .ref (A (qMo + 13))) dX8_rank_20 kF_X8_54.r qMo (by omega) (hMo.o) rfl ?_
    refine g_iload_n (M := mX8_rank) dX8_rank_23 1 rfl rfl ?_
    obtain ⟨g54, h1⟩ := zgi h1
    refine k_iald (M := mX8_rank) (len := 4096) (f := VMo.2 13) dX8_rank_24 (qMo + 13) (by omega) (hMo.a (d := (0, 4096)) 12 rfl) (Nat.le_of_ble_eq_true rfl) g54.1 g54.2 ?_
    refine zJn_J (J := fun x74 => G X mX8_rank (zPm X 1 0 0 (zRet (zWs A n S) (some (.int (iI res))))) 0 0 53 [(0, .ref (A qMo)), (1, .int (iI a1)), (3, .int (iI s1.2))] [.int (iI x74), .int (iI s1.1)] (zWs A n S)) h1 (fun x74 h1 => ?_) (fun j74 h1 => ?_)
    · obtain ⟨t75, u76, h1⟩ := zbi h1
      refine g_callSr (M := mX8_rank) [.int (iI x74)] hX dX8_rank_53 vX8_truth kM_X8_84 (wX8_truth hX   u76) rfl ⟨(Nat.le_of_ble_eq_true rfl), (Nat.le_of_ble_eq_true rfl)⟩ ⟨(Nat.le_of_ble_eq_true rfl), (Nat.le_of_ble_eq_true rfl)⟩ (Nat.le_of_ble_eq_true rfl) ?_
      refine h_iadd (M := mX8_rank) dX8_rank_56 ?_
      refine g_istore_n (M := mX8_rank) (lv' := [(0, .ref (A qMo)), (1, .int (iI a1)), (3, .int (iI s1.2)), (2, .int (iI (s1.1 + t75)))]) dX8_rank_57 rfl (by decide) rfl ?_
      refine h_iinc (M := mX8_rank) (j := 2) (lv' := [(0, .ref (A qMo)), (1, .int (iI a1)), (3, .int (iI (s1.2 + 1))), (2, .int (iI (s1.1 + t75)))]) dX8_rank_58 rfl (Nat.le_of_ble_eq_true rfl) rfl ?_
      refine g_goto (M := mX8_rank) (tgt := 4) dX8_rank_61 (by decide) ?_
      refine g_lv (M := mX8_rank) [0, 1, 3, 2] rfl ?_
      exact b1 _ (Option.some.inj h1).symm
    · refine zJn_J (J := fun x86 => G X mX8_rank (zPm X 1 0 0 (zRet (zWs A n S) (some (.int (iI res))))) 0 0 48 [(0, .ref (A qMo)), (1, .int (iI a1)), (3, .int (iI s1.2))] [.int (iI s1.1)] (zWs A n S)) h1 (fun x86 h1 => ?_) (fun j86 h1 => ?_)
      · refine h_iconst (M := mX8_rank) dX8_rank_48 ?_
        refine g_goto (M := mX8_rank) (tgt := 53) dX8_rank_49 (by decide) ?_
        exact j74 1 h1
      · obtain ⟨g88, h1⟩ := zgi h1
        refine h_icmp_lt (M := mX8_rank) (tgt := 48) dX8_rank_25 (by decide) g88.1 g88.2 (fun c87 => ?_) (fun c87 => ?_)
        · have h1 := zti c87 h1
          refine g_lv (M := mX8_rank) [0, 1, 3] rfl ?_
          exact j86 () h1
        · have h1 := zfi (Int.not_lt.mpr c87) h1
          refine g_aload_n (M := mX8_rank) dX8_rank_28 0 rfl rfl ?_
          refine k_get (M := mX8_rank) (v := .ref (A (qMo + 13))) dX8_rank_29 kF_X8_54.r qMo (by omega) (hMo.o) rfl ?_
          refine g_iload_n (M := mX8_rank) dX8_rank_32 3 rfl rfl ?_
          refine k_iald (M := mX8_rank) (len := 4096) (f := VMo.2 13) dX8_rank_33 (qMo + 13) (by omega) (hMo.a (d := (0, 4096)) 12 rfl) (Nat.le_of_ble_eq_true rfl) g53.1 g53.2 ?_
          refine g_aload_n (M := mX8_rank) dX8_rank_34 0 rfl rfl ?_
          refine k_get (M := mX8_rank) (v := .ref (A (qMo + 13))) dX8_rank_35 kF_X8_54.r qMo (by omega) (hMo.o) rfl ?_
          refine g_iload_n (M := mX8_rank) dX8_rank_38 1 rfl rfl ?_
          refine k_iald (M := mX8_rank) (len := 4096) (f := VMo.2 13) dX8_rank_39 (qMo + 13) (by omega) (hMo.a (d := (0, 4096)) 12 rfl) (Nat.le_of_ble_eq_true rfl) g54.1 g54.2 ?_
          refine zJn_J (J := fun x92 => G X mX8_rank (zPm X 1 0 0 (zRet (zWs A n S) (some (.int (iI res))))) 0 0 52 [(0, .ref (A qMo)), (1, .int (iI a1)), (3, .int (iI s1.2))] [.int (iI s1.1)] (zWs A n S)) h1 (fun x92 h1 => ?_) (fun j92 h1 => ?_)
          · refine h_iconst (M := mX8_rank) dX8_rank_52 ?_
            exact j74 0 h1
          · refine h_icmp_ne (M := mX8_rank) (tgt := 52) dX8_rank_40 (by decide) g88.1 g88.2 (fun c93 => ?_) (fun c93 => ?_)
            · have h1 := zfi c93 h1
              refine g_lv (M := mX8_rank) [0, 1, 3] rfl ?_
              exact j92 () h1
            · have h1 := zti c93 h1
              refine g_iload_n (M := mX8_rank) dX8_rank_43 3 rfl rfl ?_
              refine g_iload_n (M := mX8_rank) dX8_rank_44 1 rfl rfl ?_
              obtain ⟨g95, h1⟩ := zgi h1
              refine h_icmp_ge (M := mX8_rank) (tgt := 52) dX8_rank_45 (by decide) g52.1 g95 (fun c94 => ?_) (fun c94 => ?_)
              · have h1 := zti c94 h1
                refine g_lv (M := mX8_rank) [0, 1, 3] rfl ?_
                exact j92 () h1
              · have h1 := zfi (Int.not_le.mpr c94) h1
                refine g_lv (M := mX8_rank) [0, 1, 3] rfl ?_
                exact j86 () h1
set_option maxHeartbeats 4000000 in
set_option maxRecDepth 100000 in
theorem wX8_rankOf {X : zX} (hX : zOK X) {A : Nat → Nat} {n : Nat} {S : Nat → va_E} {qMo : Nat} {VMo : CV} (hMo : isC X A shMo qMo VMo S) (bMo : qMo + 20 < n) {a1 : Int} {res : CV × Int} (h : fX8_rankOf VMo a1 = some res) : Con X yX8_rankOf mX8_rankOf 7 0 0 [.ref (A qMo), .int (iI a1)] (zWs A n S) (zRet (zWs A n (zC X A shMo qMo res.1 S)) (some (.int (iI res.2)))) := by
  refine con_of (lv := [(0, .ref (A qMo)), (1, .int (iI a1))]) (by decide) rfl (fun h => by cases h) rfl (Nat.le_of_ble_eq_true rfl) rfl ?_
  refine g_ws (M := mX8_rankOf) (congrArg (zWs A n) hMo.symm) ?_
  unfold fX8_rankOf at h
  refine g_aload_n (M := mX8_rankOf) dX8_rankOf_0 0 rfl rfl ?_
  refine g_aload_n (M := mX8_rankOf) dX8_rankOf_1 0 rfl rfl ?_
  refine g_iload_n (M := mX8_rankOf) dX8_rankOf_2 1 rfl rfl ?_
  obtain ⟨t1, u2, h⟩ := zbi h
  refine g_callVr (M := mX8_rankOf) [.int (iI a1)] hX dX8_rankOf_3 vX8_isOne kM_X8_268 (wX8_isOne hX zC_self (by omega)  u2) qMo (zWs_at (by omega) (zC_o)) rfl ⟨(Nat.le_of_ble_eq_true rfl), (Nat.le_of_ble_eq_true rfl)⟩ ⟨(Nat.le_of_ble_eq_true rfl), (Nat.le_of_ble_eq_true rfl)⟩ (Nat.le_of_ble_eq_true rfl) ?_
  obtain ⟨t3, u4, h⟩ := zbi h
  refine g_callVr (M := mX8_rankOf) [.int (iI (b2 t1))] hX dX8_rankOf_6 vX8_goes kM_X8_91 (wX8_goes hX zC_self (by omega)  u4) qMo (zWs_at (by omega) (zC_o)) rfl ⟨(Nat.le_of_ble_eq_true rfl), (Nat.le_of_ble_eq_true rfl)⟩ ⟨(Nat.le_of_ble_eq_true rfl), (Nat.le_of_ble_eq_true rfl)⟩ (Nat.le_of_ble_eq_true rfl) ?_
  refine g_ws (M := mX8_rankOf) (congrArg (zWs A n) zC_over) ?_
  refine h_bne (M := mX8_rankOf) (tgt := 14) dX8_rankOf_9 (by decide) (fun c5 => ?_) (fun c5 => ?_)
  · have h := zti c5 h
    refine g_aload_n (M := mX8_rankOf) dX8_rankOf_14 0 rfl rfl ?_
    obtain ⟨t6, u7, h⟩ := zbi h
    refine g_callVr (M := mX8_rankOf) [] hX dX8_rankOf_15 vX8_laysScores kM_X8_329 (wX8_laysScores hX zC_self (by omega)  u7) qMo (zWs_at (by omega) (zC_o)) rfl ⟨(Nat.le_of_ble_eq_true rfl), (Nat.le_of_ble_eq_true rfl)⟩ ⟨(Nat.le_of_ble_eq_true rfl), (Nat.le_of_ble_eq_true rfl)⟩ (Nat.le_of_ble_eq_true rfl) ?_
    refine g_ws (M := mX8_rankOf) (congrArg (zWs A n) zC_over) ?_
    refine g_aload_n (M := mX8_rankOf) dX8_rankOf_18 0 rfl rfl ?_
    refine g_iload_n (M := mX8_rankOf) dX8_rankOf_19 1 rfl rfl ?_
    obtain ⟨t8, u9, h⟩ := zbi h
    refine g_callVr (M := mX8_rankOf) [.int (iI a1)] hX dX8_rankOf_20 vX8_rank kM_X8_332 (wX8_rank hX zC_self (by omega)  u9) qMo (zWs_at (by omega) (zC_o)) rfl ⟨(Nat.le_of_ble_eq_true rfl), (Nat.le_of_ble_eq_true rfl)⟩ ⟨(Nat.le_of_ble_eq_true rfl), (Nat.le_of_ble_eq_true rfl)⟩ (Nat.le_of_ble_eq_true rfl) ?_
    have e := (Option.some.inj h)
    subst e
    exact g_iret (M := mX8_rankOf) dX8_rankOf_23 rfl (Nat.le_of_ble_eq_true rfl) (Nat.le_of_ble_eq_true rfl) ⟨rfl, rfl⟩
  · have h := zfi (zbf c5) h
    refine h_iconst (M := mX8_rankOf) dX8_rankOf_12 ?_
    have e := (Option.some.inj h)
    subst e
    exact g_iret (M := mX8_rankOf) dX8_rankOf_13 rfl (Nat.le_of_ble_eq_true rfl) (Nat.le_of_ble_eq_true rfl) ⟨rfl, rfl⟩
set_option maxHeartbeats 4000000 in
set_option maxRecDepth 100000 in
theorem wX8_ranked {X : zX} (hX : zOK X) {A : Nat → Nat} {n : Nat} {S : Nat → va_E} {qMo : Nat} {VMo : CV} (hMo : isC X A shMo qMo VMo S) (bMo : qMo + 20 < n) {a1 : Int} {res : CV × Int} (h : fX8_ranked VMo a1 = some res) : Con X yX8_ranked mX8_ranked 7 0 0 [.ref (A qMo), .int (iI a1)] (zWs A n S) (zRet (zWs A n (zC X A shMo qMo res.1 S)) (some (.int (iI res.2)))) := by
  refine con_of (lv := [(0, .ref (A qMo)), (1, .int (iI a1))]) (by decide) rfl (fun h => by cases h) rfl (Nat.le_of_ble_eq_true rfl) rfl ?_
  refine g_ws (M := mX8_ranked) (congrArg (zWs A n) hMo.symm) ?_
  unfold fX8_ranked at h
  refine g_aload_n (M := mX8_ranked) dX8_ranked_0 0 rfl rfl ?_
  refine h_iconst (M := mX8_ranked) dX8_ranked_1 ?_
  refine c_put (M := mX8_ranked) (k := 0) dX8_ranked_2 kF_X8_81 (by omega) rfl rfl (by decide) rfl rfl ?_
  refine g_iload_n (M := mX8_ranked) dX8_ranked_5 1 rfl rfl ?_
  obtain ⟨g1, h⟩ := zgi h
  refine h_i2l (M := mX8_ranked) dX8_ranked_6 g1 ?_
  refine g_lconst (M := mX8_ranked) (v := iL 0) dX8_ranked_7 rfl ?_
  refine g_aload_n (M := mX8_ranked) dX8_ranked_8 0 rfl rfl ?_
  obtain ⟨t2, u3, h⟩ := zbi h
  refine g_callVr (M := mX8_ranked) [] hX dX8_ranked_9 vX8_words kM_X8_162 (wX8_words hX zC_self (by omega)  u3) qMo (zWs_at (by omega) (zC_o)) rfl ⟨(Nat.le_of_ble_eq_true rfl), (Nat.le_of_ble_eq_true rfl)⟩ ⟨(Nat.le_of_ble_eq_true rfl), (Nat.le_of_ble_eq_true rfl)⟩ (Nat.le_of_ble_eq_true rfl) ?_
  refine h_iconst (M := mX8_ranked) dX8_ranked_12 ?_
  refine h_isub (M := mX8_ranked) dX8_ranked_13 ?_
  obtain ⟨g4, h⟩ := zgi h
  refine h_i2l (M := mX8_ranked) dX8_ranked_14 g4 ?_
  obtain ⟨t5, u6, h⟩ := zbi h
  refine g_callSr (M := mX8_ranked) [.long (iL a1), .long (iL 0), .long (iL (t2 - 1))] hX dX8_ranked_15 vX8_isIn kM_X8_99 (wX8_isIn hX   u6) rfl ⟨(Nat.le_of_ble_eq_true rfl), (Nat.le_of_ble_eq_true rfl)⟩ ⟨(Nat.le_of_ble_eq_true rfl), (Nat.le_of_ble_eq_true rfl)⟩ (Nat.le_of_ble_eq_true rfl) ?_
  refine h_bne (M := mX8_ranked) (tgt := 23) dX8_ranked_18 (by decide) (fun c7 => ?_) (fun c7 => ?_)
  · have h := zti c7 h
    refine g_aload_n (M := mX8_ranked) dX8_ranked_23 0 rfl rfl ?_
    obtain ⟨t8, u9, h⟩ := zbi h
    refine g_callVr (M := mX8_ranked) [] hX dX8_ranked_24 vX8_laysScores kM_X8_329 (wX8_laysScores hX zC_self (by omega)  u9) qMo (zWs_at (by omega) (zC_o)) rfl ⟨(Nat.le_of_ble_eq_true rfl), (Nat.le_of_ble_eq_true rfl)⟩ ⟨(Nat.le_of_ble_eq_true rfl), (Nat.le_of_ble_eq_true rfl)⟩ (Nat.le_of_ble_eq_true rfl) ?_
    refine g_ws (M := mX8_ranked) (congrArg (zWs A n) zC_over) ?_
    refine g_iload_n (M := mX8_ranked) dX8_ranked_27 1 rfl rfl ?_
    refine g_istore_n (M := mX8_ranked) (lv' := [(0, .ref (A qMo)), (1, .int (iI a1)), (2, .int (iI a1))]) dX8_ranked_28 rfl (by decide) rfl ?_
    refine h_iconst (M := mX8_ranked) dX8_ranked_29 ?_
    refine g_istore_n (M := mX8_ranked) (lv' := [(0, .ref (A qMo)), (1, .int (iI a1)), (2, .int (iI a1)), (3, .int (iI 0))]) dX8_ranked_30 rfl (by decide) rfl ?_
    obtain ⟨x10, l10, h⟩ := zbi h
    have r10 : ∀ y10, .inl y10 = x10 → G X mX8_ranked (zPm X 7 0 0 (zRet (zWs A n (zC X A shMo qMo res.1 S)) (some (.int (iI res.2))))) 0 0 85 [] [] (zWs A n (zC X A shMo qMo t8 S)) := by
      intro y10 ey
      rw [← ey] at h
      have h := zsl h
      refine h_iconst (M := mX8_ranked) dX8_ranked_85 ?_
      have e := (Option.some.inj h)
      subst e
      exact g_iret (M := mX8_ranked) dX8_ranked_86 rfl (Nat.le_of_ble_eq_true rfl) (Nat.le_of_ble_eq_true rfl) ⟨rfl, rfl⟩
    have q10 : ∀ r, .inr r = x10 → r = res := by
      intro r er
      rw [← er] at h
      exact Option.some.inj h
    refine g_lv (M := mX8_ranked) [0, 2, 3] rfl ?_
    refine zLp_J (J := fun s10 => G X mX8_ranked (zPm X 7 0 0 (zRet (zWs A n (zC X A shMo qMo res.1 S)) (some (.int (iI res.2))))) 0 0 31 [(0, .ref (A qMo)), (2, .int (iI s10.1)), (3, .int (iI s10.2))] [] (zWs A n (zC X A shMo qMo t8 S))) (fun s10 w10 h10 b10 e10 => ?_) _ _ l10
    refine g_iload_n (M := mX8_ranked) dX8_ranked_31 2 rfl rfl ?_
    refine h_bipush (M := mX8_ranked) dX8_ranked_32 rfl ?_
    obtain ⟨g33, h10⟩ := zgi h10
    refine h_icmp_gt (M := mX8_ranked) (tgt := 85) dX8_ranked_34 (by decide) g33 (by decide) (fun c32 => ?_) (fun c32 => ?_)
    · have h10 := zti c32 h10
      refine g_lv (M := mX8_ranked) [] rfl ?_
      exact r10 _ (e10 _ (Option.some.inj h10).symm)
    · have h10 := zfi (Int.not_lt.mpr c32) h10
      refine h_iconst (M := mX8_ranked) dX8_ranked_37 ?_
      refine g_istore (M := mX8_ranked) (lv' := [(0, .ref (A qMo)), (2, .int (iI s10.1)), (3, .int (iI s10.2)), (4, .int (iI 0))]) dX8_ranked_38 (by decide) rfl ?_
      obtain ⟨x34, l34, h10⟩ := zbi h10
      have r34 : ∀ y34, .inl y34 = x34 → G X mX8_ranked (zPm X 7 0 0 (zRet (zWs A n (zC X A shMo qMo res.1 S)) (some (.int (iI res.2))))) 0 0 79 [(0, .ref (A qMo)), (2, .int (iI y34.1)), (3, .int (iI s10.2))] [] (zWs A n (zC X A shMo qMo t8 S)) := by
        intro y34 ey
        rw [← ey] at h10
        have h10 := zsl h10
        refine h_iinc (M := mX8_ranked) (j := 2) (lv' := [(0, .ref (A qMo)), (2, .int (iI y34.1)), (3, .int (iI (s10.2 + 1)))]) dX8_ranked_79 rfl (Nat.le_of_ble_eq_true rfl) rfl ?_
        refine g_goto (M := mX8_ranked) (tgt := 31) dX8_ranked_82 (by decide) ?_
        exact b10 _ (Option.some.inj h10).symm
      have q34 : ∀ r, .inr r = x34 → r = w10 := by
        intro r er
        rw [← er] at h10
        exact Option.some.inj h10
      refine zLp_J (J := fun s34 => G X mX8_ranked (zPm X 7 0 0 (zRet (zWs A n (zC X A shMo qMo res.1 S)) (some (.int (iI res.2))))) 0 0 40 [(0, .ref (A qMo)), (2, .int (iI s34.1)), (3, .int (iI s10.2)), (4, .int (iI s34.2))] [] (zWs A n (zC X A shMo qMo t8 S))) (fun s34 w34 h34 b34 e34 => ?_) _ _ l34
      refine g_iload (M := mX8_ranked) dX8_ranked_40 3 rfl ?_
      refine g_aload_n (M := mX8_ranked) dX8_ranked_42 0 rfl rfl ?_
      obtain ⟨t44, u45, h34⟩ := zbi h34
      refine g_callVr (M := mX8_ranked) [] hX dX8_ranked_43 vX8_words kM_X8_162 (wX8_words hX zC_self (by omega)  u45) qMo (zWs_at (by omega) (zC_o)) rfl ⟨(Nat.le_of_ble_eq_true rfl), (Nat.le_of_ble_eq_true rfl)⟩ ⟨(Nat.le_of_ble_eq_true rfl), (Nat.le_of_ble_eq_true rfl)⟩ (Nat.le_of_ble_eq_true rfl) ?_
      obtain ⟨g47, h34⟩ := zgi h34
      refine h_icmp_ge (M := mX8_ranked) (tgt := 79) dX8_ranked_46 (by decide) g47.1 g47.2 (fun c46 => ?_) (fun c46 => ?_)
      · have h34 := zti c46 h34
        refine g_lv (M := mX8_ranked) [0, 1, 2] rfl ?_
        exact r34 _ (e34 _ (Option.some.inj h34).symm)
      · have h34 := zfi (Int.not_le.mpr c46) h34
        refine g_aload_n (M := mX8_ranked) dX8_ranked_49 0 rfl rfl ?_
        refine k_get (M := mX8_ranked) (v := .ref (A (qMo + 13))) dX8_ranked_50 kF_X8_54.r qMo (by omega) (zC_o) rfl ?_
        refine g_iload (M := mX8_ranked) dX8_ranked_53 3 rfl ?_
        obtain ⟨g48, h34⟩ := zgi h34
        refine k_iald (M := mX8_ranked) (len := 4096) (f := t8.2 13) dX8_ranked_55 (qMo + 13) (by omega) (zC_a (d := (0, 4096)) 12 rfl) (Nat.le_of_ble_eq_true rfl) g48.1 g48.2 ?_
        refine g_iload_n (M := mX8_ranked) dX8_ranked_56 2 rfl rfl ?_
        obtain ⟨g50, h34⟩ := zgi h34
        refine h_icmp_eq (M := mX8_ranked) (tgt := 63) dX8_ranked_57 (by decide) g50 g33 (fun c49 => ?_) (fun c49 => ?_)
        · have h34 := zti c49 h34
          refine g_iload_n (M := mX8_ranked) dX8_ranked_63 1 rfl rfl ?_
          obtain ⟨g52, h34⟩ := zgi h34
          refine h_if_ne (M := mX8_ranked) (tgt := 70) dX8_ranked_64 (by decide) g52 (fun c51 => ?_) (fun c51 => ?_)
          · have h34 := zfi c51 h34
            refine h_iinc (M := mX8_ranked) (j := 1) (lv' := [(0, .ref (A qMo)), (2, .int (iI (s34.1 + (-1)))), (3, .int (iI s10.2)), (4, .int (iI s34.2))]) dX8_ranked_70 rfl (Nat.le_of_ble_eq_true rfl) rfl ?_
            refine h_iinc (M := mX8_ranked) (j := 3) (lv' := [(0, .ref (A qMo)), (2, .int (iI (s34.1 + (-1)))), (3, .int (iI s10.2)), (4, .int (iI (s34.2 + 1)))]) dX8_ranked_73 rfl (Nat.le_of_ble_eq_true rfl) rfl ?_
            refine g_goto (M := mX8_ranked) (tgt := 40) dX8_ranked_76 (by decide) ?_
            exact b34 _ (Option.some.inj h34).symm
          · have h34 := zti c51 h34
            refine g_iload (M := mX8_ranked) dX8_ranked_67 3 rfl ?_
            have e := (q10 _ (e10 _ (q34 _ (e34 _ (Option.some.inj h34).symm)).symm))
            subst e
            exact g_iret (M := mX8_ranked) dX8_ranked_69 rfl (Nat.le_of_ble_eq_true rfl) (Nat.le_of_ble_eq_true rfl) ⟨rfl, rfl⟩
        · have h34 := zfi c49 h34
          refine g_goto (M := mX8_ranked) (tgt := 73) dX8_ranked_60 (by decide) ?_
          refine h_iinc (M := mX8_ranked) (j := 3) (lv' := [(0, .ref (A qMo)), (2, .int (iI s34.1)), (3, .int (iI s10.2)), (4, .int (iI (s34.2 + 1)))]) dX8_ranked_73 rfl (Nat.le_of_ble_eq_true rfl) rfl ?_
          refine g_goto (M := mX8_ranked) (tgt := 40) dX8_ranked_76 (by decide) ?_
          exact b34 _ (Option.some.inj h34).symm
  · have h := zfi (zbf c7) h
    refine h_iconst (M := mX8_ranked) dX8_ranked_21 ?_
    have e := (Option.some.inj h)
    subst e
    exact g_iret (M := mX8_ranked) dX8_ranked_22 rfl (Nat.le_of_ble_eq_true rfl) (Nat.le_of_ble_eq_true rfl) ⟨rfl, rfl⟩
set_option maxHeartbeats 4000000 in
set_option maxRecDepth 100000 in
theorem wX8_readsOnce {X : zX} (hX : zOK X) {A : Nat → Nat} {n : Nat} {S : Nat → va_E} {qMo : Nat} {VMo : CV} (hMo : isC X A shMo qMo VMo S) (bMo : qMo + 20 < n) {a1 : Int} {a2 : Int} {a3 : Int} {res : CV} (h : fX8_readsOnce VMo a1 a2 a3 = some res) : Con X yX8_readsOnce mX8_readsOnce 3 0 0 [.ref (A qMo), .int (iI a1), .int (iI a2), .int (iI a3)] (zWs A n S) (zRet (zWs A n (zC X A shMo qMo res S)) none) := by
  refine con_of (lv := [(0, .ref (A qMo)), (1, .int (iI a1)), (2, .int (iI a2)), (3, .int (iI a3))]) (by decide) rfl (fun h => by cases h) rfl (Nat.le_of_ble_eq_true rfl) rfl ?_
  refine g_ws (M := mX8_readsOnce) (congrArg (zWs A n) hMo.symm) ?_
  unfold fX8_readsOnce at h
  refine g_aload_n (M := mX8_readsOnce) dX8_readsOnce_0 0 rfl rfl ?_
  refine k_get (M := mX8_readsOnce) (v := .int (iI (VMo.1 24))) dX8_readsOnce_1 kF_X8_183.r qMo (by omega) (zC_o) rfl ?_
  refine g_iload_n (M := mX8_readsOnce) dX8_readsOnce_4 1 rfl rfl ?_
  obtain ⟨t1, u2, h⟩ := zbi h
  refine g_callSr (M := mX8_readsOnce) [.int (iI (VMo.1 24)), .int (iI a1)] hX dX8_readsOnce_5 vX8_hasBit kM_X8_186 (wX8_hasBit hX   u2) rfl ⟨(Nat.le_of_ble_eq_true rfl), (Nat.le_of_ble_eq_true rfl)⟩ ⟨(Nat.le_of_ble_eq_true rfl), (Nat.le_of_ble_eq_true rfl)⟩ (Nat.le_of_ble_eq_true rfl) ?_
  refine zJn_J (J := fun x16 => G X mX8_readsOnce (zPm X 3 0 0 (zRet (zWs A n (zC X A shMo qMo res S)) none)) 0 0 30 [(0, .ref (A qMo)), (1, .int (iI a1)), (2, .int (iI a2)), (3, .int (iI a3))] [] (zWs A n (zC X A shMo qMo x16 S))) h (fun x16 h => ?_) (fun j16 h => ?_)
  · refine g_aload_n (M := mX8_readsOnce) dX8_readsOnce_30 0 rfl rfl ?_
    refine g_dup (M := mX8_readsOnce) dX8_readsOnce_31 rfl ?_
    refine k_get (M := mX8_readsOnce) (v := .int (iI (x16.1 24))) dX8_readsOnce_32 kF_X8_183.r qMo (by omega) (zC_o) rfl ?_
    refine h_iconst (M := mX8_readsOnce) dX8_readsOnce_35 ?_
    refine g_iload_n (M := mX8_readsOnce) dX8_readsOnce_36 1 rfl rfl ?_
    obtain ⟨g17, h⟩ := zgi h
    refine g_ishl (M := mX8_readsOnce) dX8_readsOnce_37 ?_
    refine h_topx (M := mX8_readsOnce) (b := zP2 a1) (iI_shl1 g17.1 g17.2) ?_
    obtain ⟨g18, h⟩ := zgi h
    refine g_ior (M := mX8_readsOnce) dX8_readsOnce_38 ?_
    refine h_topx (M := mX8_readsOnce) (b := zOr (x16.1 24) (zP2 a1)) (iI_or g18.1 g18.2) ?_
    refine c_put (M := mX8_readsOnce) (k := 24) dX8_readsOnce_39 kF_X8_183 (by omega) rfl rfl (by decide) rfl rfl ?_
    refine g_aload_n (M := mX8_readsOnce) dX8_readsOnce_42 0 rfl rfl ?_
    obtain ⟨t19, u20, h⟩ := zbi h
    refine g_callVr (M := mX8_readsOnce) [] hX dX8_readsOnce_43 vX8_isGood kM_X8_139 (wX8_isGood hX zC_self (by omega)  u20) qMo (zWs_at (by omega) (zC_o)) rfl ⟨(Nat.le_of_ble_eq_true rfl), (Nat.le_of_ble_eq_true rfl)⟩ ⟨(Nat.le_of_ble_eq_true rfl), (Nat.le_of_ble_eq_true rfl)⟩ (Nat.le_of_ble_eq_true rfl) ?_
    refine zJn_J (J := fun x24 => G X mX8_readsOnce (zPm X 3 0 0 (zRet (zWs A n (zC X A shMo qMo res S)) none)) 0 0 53 [(0, .ref (A qMo)), (1, .int (iI a1)), (2, .int (iI a2)), (3, .int (iI a3))] [] (zWs A n (zC X A shMo qMo x24 S))) h (fun x24 h => ?_) (fun j24 h => ?_)
    · refine g_aload_n (M := mX8_readsOnce) dX8_readsOnce_53 0 rfl rfl ?_
      refine g_iload_n (M := mX8_readsOnce) dX8_readsOnce_54 2 rfl rfl ?_
      refine g_iload_n (M := mX8_readsOnce) dX8_readsOnce_55 3 rfl rfl ?_
      obtain ⟨t25, u26, h⟩ := zbi h
      refine g_callVr (M := mX8_readsOnce) [.int (iI a2), .int (iI a3)] hX dX8_readsOnce_56 vX8_number kM_X8_190 (wX8_number hX zC_self (by omega)  u26) qMo (zWs_at (by omega) (zC_o)) rfl ⟨(Nat.le_of_ble_eq_true rfl), (Nat.le_of_ble_eq_true rfl)⟩ ⟨(Nat.le_of_ble_eq_true rfl), (Nat.le_of_ble_eq_true rfl)⟩ (Nat.le_of_ble_eq_true rfl) ?_
      refine g_ws (M := mX8_readsOnce) (congrArg (zWs A n) zC_over) ?_
      refine g_istore (M := mX8_readsOnce) (lv' := [(0, .ref (A qMo)), (1, .int (iI a1)), (2, .int (iI a2)), (3, .int (iI a3)), (4, .int (iI t25.2))]) dX8_readsOnce_59 (by decide) rfl ?_
      refine g_aload_n (M := mX8_readsOnce) dX8_readsOnce_61 0 rfl rfl ?_
      obtain ⟨t27, u28, h⟩ := zbi h
      refine g_callVr (M := mX8_readsOnce) [] hX dX8_readsOnce_62 vX8_isGood kM_X8_139 (wX8_isGood hX zC_self (by omega)  u28) qMo (zWs_at (by omega) (zC_o)) rfl ⟨(Nat.le_of_ble_eq_true rfl), (Nat.le_of_ble_eq_true rfl)⟩ ⟨(Nat.le_of_ble_eq_true rfl), (Nat.le_of_ble_eq_true rfl)⟩ (Nat.le_of_ble_eq_true rfl) ?_
      refine h_beq (M := mX8_readsOnce) (tgt := 76) dX8_readsOnce_65 (by decide) (fun c29 => ?_) (fun c29 => ?_)
      · have h := zfi (zbf c29) h
        have e := (Option.some.inj h)
        subst e
        exact g_vret (M := mX8_readsOnce) dX8_readsOnce_76 rfl (Nat.le_of_ble_eq_true rfl) (Nat.le_of_ble_eq_true rfl) ⟨rfl, rfl⟩
      · have h := zti c29 h
        refine g_aload_n (M := mX8_readsOnce) dX8_readsOnce_68 0 rfl rfl ?_
        refine k_get (M := mX8_readsOnce) (v := .ref (A (qMo + 2))) dX8_readsOnce_69 kF_X8_20.r qMo (by omega) (zC_o) rfl ?_
        refine g_iload_n (M := mX8_readsOnce) dX8_readsOnce_72 1 rfl rfl ?_
        refine g_iload (M := mX8_readsOnce) dX8_readsOnce_73 4 rfl ?_
        obtain ⟨g30, h⟩ := zgi h
        refine c_iast (M := mX8_readsOnce) (len := 351) (d := (0, 351)) dX8_readsOnce_75 1 rfl rfl (by omega) (Nat.le_of_ble_eq_true rfl) g30.1 g30.2 ?_
        have e := (Option.some.inj h)
        subst e
        exact g_vret (M := mX8_readsOnce) dX8_readsOnce_76 rfl (Nat.le_of_ble_eq_true rfl) (Nat.le_of_ble_eq_true rfl) ⟨rfl, rfl⟩
    · refine h_beq (M := mX8_readsOnce) (tgt := 53) dX8_readsOnce_46 (by decide) (fun c31 => ?_) (fun c31 => ?_)
      · have h := zfi (zbf c31) h
        exact j24 (zPu x16 24 (zOr (x16.1 24) (zP2 a1))) h
      · have h := zti c31 h
        refine g_aload_n (M := mX8_readsOnce) dX8_readsOnce_49 0 rfl rfl ?_
        obtain ⟨t32, u33, h⟩ := zbi h
        refine g_callVr (M := mX8_readsOnce) [] hX dX8_readsOnce_50 vX8_goOn kM_X8_149 (wX8_goOn hX zC_self (by omega)  u33) qMo (zWs_at (by omega) (zC_o)) rfl ⟨(Nat.le_of_ble_eq_true rfl), (Nat.le_of_ble_eq_true rfl)⟩ ⟨(Nat.le_of_ble_eq_true rfl), (Nat.le_of_ble_eq_true rfl)⟩ (Nat.le_of_ble_eq_true rfl) ?_
        refine g_ws (M := mX8_readsOnce) (congrArg (zWs A n) zC_over) ?_
        exact j24 t32 h
  · refine zJn_J (J := fun x39 => G X mX8_readsOnce (zPm X 3 0 0 (zRet (zWs A n (zC X A shMo qMo res S)) none)) 0 0 25 [(0, .ref (A qMo)), (1, .int (iI a1)), (2, .int (iI a2)), (3, .int (iI a3))] [] (zWs A n (zC X A shMo qMo VMo S))) h (fun x39 h => ?_) (fun j39 h => ?_)
    · refine g_aload_n (M := mX8_readsOnce) dX8_readsOnce_25 0 rfl rfl ?_
      refine h_iconst (M := mX8_readsOnce) dX8_readsOnce_26 ?_
      obtain ⟨t40, u41, h⟩ := zbi h
      refine g_callVr (M := mX8_readsOnce) [.int (iI 4)] hX dX8_readsOnce_27 vX8_wrong kM_X8_146 (wX8_wrong hX zC_self (by omega)  u41) qMo (zWs_at (by omega) (zC_o)) rfl ⟨(Nat.le_of_ble_eq_true rfl), (Nat.le_of_ble_eq_true rfl)⟩ ⟨(Nat.le_of_ble_eq_true rfl), (Nat.le_of_ble_eq_true rfl)⟩ (Nat.le_of_ble_eq_true rfl) ?_
      refine g_ws (M := mX8_readsOnce) (congrArg (zWs A n) zC_over) ?_
      exact j16 t40 h
    · refine h_bne (M := mX8_readsOnce) (tgt := 25) dX8_readsOnce_8 (by decide) (fun c42 => ?_) (fun c42 => ?_)
      · have h := zti c42 h
        exact j39 () h
      · have h := zfi (zbf c42) h
        refine g_iload_n (M := mX8_readsOnce) dX8_readsOnce_11 1 rfl rfl ?_
        refine h_iconst (M := mX8_readsOnce) dX8_readsOnce_12 ?_
        obtain ⟨g44, h⟩ := zgi h
        refine h_icmp_ne (M := mX8_readsOnce) (tgt := 30) dX8_readsOnce_13 (by decide) g44 (by decide) (fun c43 => ?_) (fun c43 => ?_)
        · have h := zfi c43 h
          exact j16 VMo h
        · have h := zti c43 h
          refine g_aload_n (M := mX8_readsOnce) dX8_readsOnce_16 0 rfl rfl ?_
          refine k_get (M := mX8_readsOnce) (v := .ref (A (qMo + 2))) dX8_readsOnce_17 kF_X8_20.r qMo (by omega) (zC_o) rfl ?_
          refine h_iconst (M := mX8_readsOnce) dX8_readsOnce_20 ?_
          refine k_iald (M := mX8_readsOnce) (len := 351) (f := VMo.2 2) dX8_readsOnce_21 (qMo + 2) (by omega) (zC_a (d := (0, 351)) 1 rfl) (Nat.le_of_ble_eq_true rfl) (by decide) (by decide) ?_
          obtain ⟨g46, h⟩ := zgi h
          refine h_if_le (M := mX8_readsOnce) (tgt := 30) dX8_readsOnce_22 (by decide) g46 (fun c45 => ?_) (fun c45 => ?_)
          · have h := zti c45 h
            exact j16 VMo h
          · have h := zfi (Int.not_le.mpr c45) h
            exact j39 () h
set_option maxHeartbeats 4000000 in
set_option maxRecDepth 100000 in
theorem wX8_readsRow {X : zX} (hX : zOK X) {A : Nat → Nat} {n : Nat} {S : Nat → va_E} {qMo : Nat} {VMo : CV} (hMo : isC X A shMo qMo VMo S) (bMo : qMo + 20 < n) {res : CV} (h : fX8_readsRow VMo = some res) : Con X yX8_readsRow mX8_readsRow 2 0 0 [.ref (A qMo)] (zWs A n S) (zRet (zWs A n (zC X A shMo qMo res S)) none) := by
  refine con_of (lv := [(0, .ref (A qMo))]) (by decide) rfl (fun h => by cases h) rfl (Nat.le_of_ble_eq_true rfl) rfl ?_
  refine g_ws (M := mX8_readsRow) (congrArg (zWs A n) hMo.symm) ?_
  unfold fX8_readsRow at h
  refine g_aload_n (M := mX8_readsRow) dX8_readsRow_0 0 rfl rfl ?_
  refine k_get (M := mX8_readsRow) (v := .ref (A (qMo + 2))) dX8_readsRow_1 kF_X8_20.r qMo (by omega) (zC_o) rfl ?_
  refine h_iconst (M := mX8_readsRow) dX8_readsRow_4 ?_
  refine k_iald (M := mX8_readsRow) (len := 351) (f := VMo.2 2) dX8_readsRow_5 (qMo + 2) (by omega) (zC_a (d := (0, 351)) 1 rfl) (Nat.le_of_ble_eq_true rfl) (by decide) (by decide) ?_
  refine g_istore_n (M := mX8_readsRow) (lv' := [(0, .ref (A qMo)), (1, .int (iI (VMo.2 2 0)))]) dX8_readsRow_6 rfl (by decide) rfl ?_
  refine g_iload_n (M := mX8_readsRow) dX8_readsRow_7 1 rfl rfl ?_
  refine h_bipush (M := mX8_readsRow) dX8_readsRow_8 rfl ?_
  refine zJn_J (J := fun x5 => G X mX8_readsRow (zPm X 2 0 0 (zRet (zWs A n (zC X A shMo qMo res S)) none)) 0 0 19 [(0, .ref (A qMo)), (1, .int (iI (VMo.2 2 0)))] [] (zWs A n (zC X A shMo qMo x5 S))) h (fun x5 h => ?_) (fun j5 h => ?_)
  · refine g_aload_n (M := mX8_readsRow) dX8_readsRow_19 0 rfl rfl ?_
    obtain ⟨t6, u7, h⟩ := zbi h
    refine g_callVr (M := mX8_readsRow) [] hX dX8_readsRow_20 vX8_isGood kM_X8_139 (wX8_isGood hX zC_self (by omega)  u7) qMo (zWs_at (by omega) (zC_o)) rfl ⟨(Nat.le_of_ble_eq_true rfl), (Nat.le_of_ble_eq_true rfl)⟩ ⟨(Nat.le_of_ble_eq_true rfl), (Nat.le_of_ble_eq_true rfl)⟩ (Nat.le_of_ble_eq_true rfl) ?_
    refine zJn_J (J := fun x11 => G X mX8_readsRow (zPm X 2 0 0 (zRet (zWs A n (zC X A shMo qMo res S)) none)) 0 0 30 [(0, .ref (A qMo)), (1, .int (iI (VMo.2 2 0)))] [] (zWs A n (zC X A shMo qMo x11 S))) h (fun x11 h => ?_) (fun j11 h => ?_)
    · refine g_aload_n (M := mX8_readsRow) dX8_readsRow_30 0 rfl rfl ?_
      obtain ⟨t12, u13, h⟩ := zbi h
      refine g_callVr (M := mX8_readsRow) [] hX dX8_readsRow_31 vX8_mustName kM_X8_170 (wX8_mustName hX zC_self (by omega)  u13) qMo (zWs_at (by omega) (zC_o)) rfl ⟨(Nat.le_of_ble_eq_true rfl), (Nat.le_of_ble_eq_true rfl)⟩ ⟨(Nat.le_of_ble_eq_true rfl), (Nat.le_of_ble_eq_true rfl)⟩ (Nat.le_of_ble_eq_true rfl) ?_
      refine g_ws (M := mX8_readsRow) (congrArg (zWs A n) zC_over) ?_
      refine g_aload_n (M := mX8_readsRow) dX8_readsRow_34 0 rfl rfl ?_
      obtain ⟨t14, u15, h⟩ := zbi h
      refine g_callVr (M := mX8_readsRow) [] hX dX8_readsRow_35 vX8_isGood kM_X8_139 (wX8_isGood hX zC_self (by omega)  u15) qMo (zWs_at (by omega) (zC_o)) rfl ⟨(Nat.le_of_ble_eq_true rfl), (Nat.le_of_ble_eq_true rfl)⟩ ⟨(Nat.le_of_ble_eq_true rfl), (Nat.le_of_ble_eq_true rfl)⟩ (Nat.le_of_ble_eq_true rfl) ?_
      refine zJn_J (J := fun x23 => G X mX8_readsRow (zPm X 2 0 0 (zRet (zWs A n (zC X A shMo qMo res S)) none)) 0 0 54 [(0, .ref (A qMo)), (1, .int (iI (VMo.2 2 0)))] [] (zWs A n (zC X A shMo qMo x23 S))) h (fun x23 h => ?_) (fun j23 h => ?_)
      · refine g_aload_n (M := mX8_readsRow) dX8_readsRow_54 0 rfl rfl ?_
        obtain ⟨t24, u25, h⟩ := zbi h
        refine g_callVr (M := mX8_readsRow) [] hX dX8_readsRow_55 vX8_isGood kM_X8_139 (wX8_isGood hX zC_self (by omega)  u25) qMo (zWs_at (by omega) (zC_o)) rfl ⟨(Nat.le_of_ble_eq_true rfl), (Nat.le_of_ble_eq_true rfl)⟩ ⟨(Nat.le_of_ble_eq_true rfl), (Nat.le_of_ble_eq_true rfl)⟩ (Nat.le_of_ble_eq_true rfl) ?_
        refine zJn_J (J := fun x28 => G X mX8_readsRow (zPm X 2 0 0 (zRet (zWs A n (zC X A shMo qMo res S)) none)) 0 0 71 [(0, .ref (A qMo)), (1, .int (iI (VMo.2 2 0)))] [] (zWs A n (zC X A shMo qMo x28 S))) h (fun x28 h => ?_) (fun j28 h => ?_)
        · refine g_aload_n (M := mX8_readsRow) dX8_readsRow_71 0 rfl rfl ?_
          obtain ⟨t29, u30, h⟩ := zbi h
          refine g_callVr (M := mX8_readsRow) [] hX dX8_readsRow_72 vX8_isGood kM_X8_139 (wX8_isGood hX zC_self (by omega)  u30) qMo (zWs_at (by omega) (zC_o)) rfl ⟨(Nat.le_of_ble_eq_true rfl), (Nat.le_of_ble_eq_true rfl)⟩ ⟨(Nat.le_of_ble_eq_true rfl), (Nat.le_of_ble_eq_true rfl)⟩ (Nat.le_of_ble_eq_true rfl) ?_
          refine zJn_J (J := fun x34 => G X mX8_readsRow (zPm X 2 0 0 (zRet (zWs A n (zC X A shMo qMo res S)) none)) 0 0 82 [(0, .ref (A qMo)), (1, .int (iI (VMo.2 2 0)))] [] (zWs A n (zC X A shMo qMo x34 S))) h (fun x34 h => ?_) (fun j34 h => ?_)
          · refine g_aload_n (M := mX8_readsRow) dX8_readsRow_82 0 rfl rfl ?_
            obtain ⟨t35, u36, h⟩ := zbi h
            refine g_callVr (M := mX8_readsRow) [] hX dX8_readsRow_83 vX8_isGood kM_X8_139 (wX8_isGood hX zC_self (by omega)  u36) qMo (zWs_at (by omega) (zC_o)) rfl ⟨(Nat.le_of_ble_eq_true rfl), (Nat.le_of_ble_eq_true rfl)⟩ ⟨(Nat.le_of_ble_eq_true rfl), (Nat.le_of_ble_eq_true rfl)⟩ (Nat.le_of_ble_eq_true rfl) ?_
            refine zJn_J (J := fun x42 => G X mX8_readsRow (zPm X 2 0 0 (zRet (zWs A n (zC X A shMo qMo res S)) none)) 0 0 102 [(0, .ref (A qMo)), (1, .int (iI (VMo.2 2 0)))] [] (zWs A n (zC X A shMo qMo x42 S))) h (fun x42 h => ?_) (fun j42 h => ?_)
            · refine g_aload_n (M := mX8_readsRow) dX8_readsRow_102 0 rfl rfl ?_
              obtain ⟨t43, u44, h⟩ := zbi h
              refine g_callVr (M := mX8_readsRow) [] hX dX8_readsRow_103 vX8_isGood kM_X8_139 (wX8_isGood hX zC_self (by omega)  u44) qMo (zWs_at (by omega) (zC_o)) rfl ⟨(Nat.le_of_ble_eq_true rfl), (Nat.le_of_ble_eq_true rfl)⟩ ⟨(Nat.le_of_ble_eq_true rfl), (Nat.le_of_ble_eq_true rfl)⟩ (Nat.le_of_ble_eq_true rfl) ?_
              refine zJn_J (J := fun x50 => G X mX8_readsRow (zPm X 2 0 0 (zRet (zWs A n (zC X A shMo qMo res S)) none)) 0 0 122 [(0, .ref (A qMo)), (1, .int (iI (VMo.2 2 0)))] [] (zWs A n (zC X A shMo qMo x50 S))) h (fun x50 h => ?_) (fun j50 h => ?_)
              · refine g_aload_n (M := mX8_readsRow) dX8_readsRow_122 0 rfl rfl ?_
                obtain ⟨t51, u52, h⟩ := zbi h
                refine g_callVr (M := mX8_readsRow) [] hX dX8_readsRow_123 vX8_isGood kM_X8_139 (wX8_isGood hX zC_self (by omega)  u52) qMo (zWs_at (by omega) (zC_o)) rfl ⟨(Nat.le_of_ble_eq_true rfl), (Nat.le_of_ble_eq_true rfl)⟩ ⟨(Nat.le_of_ble_eq_true rfl), (Nat.le_of_ble_eq_true rfl)⟩ (Nat.le_of_ble_eq_true rfl) ?_
                refine zJn_J (J := fun x59 => G X mX8_readsRow (zPm X 2 0 0 (zRet (zWs A n (zC X A shMo qMo res S)) none)) 0 0 141 [(0, .ref (A qMo)), (1, .int (iI (VMo.2 2 0)))] [] (zWs A n (zC X A shMo qMo x59 S))) h (fun x59 h => ?_) (fun j59 h => ?_)
                · refine g_aload_n (M := mX8_readsRow) dX8_readsRow_141 0 rfl rfl ?_
                  obtain ⟨t60, u61, h⟩ := zbi h
                  refine g_callVr (M := mX8_readsRow) [] hX dX8_readsRow_142 vX8_isGood kM_X8_139 (wX8_isGood hX zC_self (by omega)  u61) qMo (zWs_at (by omega) (zC_o)) rfl ⟨(Nat.le_of_ble_eq_true rfl), (Nat.le_of_ble_eq_true rfl)⟩ ⟨(Nat.le_of_ble_eq_true rfl), (Nat.le_of_ble_eq_true rfl)⟩ (Nat.le_of_ble_eq_true rfl) ?_
                  refine h_bne (M := mX8_readsRow) (tgt := 149) dX8_readsRow_145 (by decide) (fun c62 => ?_) (fun c62 => ?_)
                  · have h := zti c62 h
                    refine g_aload_n (M := mX8_readsRow) dX8_readsRow_149 0 rfl rfl ?_
                    refine g_iload_n (M := mX8_readsRow) dX8_readsRow_150 1 rfl rfl ?_
                    refine h_iconst (M := mX8_readsRow) dX8_readsRow_151 ?_
                    refine g_aload_n (M := mX8_readsRow) dX8_readsRow_152 0 rfl rfl ?_
                    refine k_get (M := mX8_readsRow) (v := .int (iI (x59.1 8))) dX8_readsRow_153 kF_X8_123.r qMo (by omega) (zC_o) rfl ?_
                    obtain ⟨t63, u64, h⟩ := zbi h
                    refine g_callVr (M := mX8_readsRow) [.int (iI (VMo.2 2 0)), .int (iI 0), .int (iI (x59.1 8))] hX dX8_readsRow_156 vX8_lays kM_X8_179 (wX8_lays hX zC_self (by omega)  u64) qMo (zWs_at (by omega) (zC_o)) rfl ⟨(Nat.le_of_ble_eq_true rfl), (Nat.le_of_ble_eq_true rfl)⟩ ⟨(Nat.le_of_ble_eq_true rfl), (Nat.le_of_ble_eq_true rfl)⟩ (Nat.le_of_ble_eq_true rfl) ?_
                    refine g_ws (M := mX8_readsRow) (congrArg (zWs A n) zC_over) ?_
                    refine g_aload_n (M := mX8_readsRow) dX8_readsRow_159 0 rfl rfl ?_
                    refine g_iload_n (M := mX8_readsRow) dX8_readsRow_160 1 rfl rfl ?_
                    refine h_iconst (M := mX8_readsRow) dX8_readsRow_161 ?_
                    refine h_iconst (M := mX8_readsRow) dX8_readsRow_162 ?_
                    obtain ⟨t65, u66, h⟩ := zbi h
                    refine g_callVr (M := mX8_readsRow) [.int (iI (VMo.2 2 0)), .int (iI 1), .int (iI (-1))] hX dX8_readsRow_163 vX8_lays kM_X8_179 (wX8_lays hX zC_self (by omega)  u66) qMo (zWs_at (by omega) (zC_o)) rfl ⟨(Nat.le_of_ble_eq_true rfl), (Nat.le_of_ble_eq_true rfl)⟩ ⟨(Nat.le_of_ble_eq_true rfl), (Nat.le_of_ble_eq_true rfl)⟩ (Nat.le_of_ble_eq_true rfl) ?_
                    refine g_ws (M := mX8_readsRow) (congrArg (zWs A n) zC_over) ?_
                    refine h_iconst (M := mX8_readsRow) dX8_readsRow_166 ?_
                    refine g_istore_n (M := mX8_readsRow) (lv' := [(0, .ref (A qMo)), (1, .int (iI (VMo.2 2 0))), (2, .int (iI 0))]) dX8_readsRow_167 rfl (by decide) rfl ?_
                    obtain ⟨x67, l67, h⟩ := zbi h
                    have r67 : ∀ y67, y67 = x67 → G X mX8_readsRow (zPm X 2 0 0 (zRet (zWs A n (zC X A shMo qMo res S)) none)) 0 0 210 [(0, .ref (A qMo))] [] (zWs A n (zC X A shMo qMo y67.2 S)) := by
                      intro y67 ey
                      rw [← ey] at h
                      refine g_aload_n (M := mX8_readsRow) dX8_readsRow_210 0 rfl rfl ?_
                      refine k_get (M := mX8_readsRow) (v := .ref (A (qMo + 2))) dX8_readsRow_211 kF_X8_20.r qMo (by omega) (zC_o) rfl ?_
                      refine h_iconst (M := mX8_readsRow) dX8_readsRow_214 ?_
                      refine g_dup2_11 (M := mX8_readsRow) dX8_readsRow_215 rfl rfl ?_
                      refine k_iald (M := mX8_readsRow) (len := 351) (f := y67.2.2 2) dX8_readsRow_216 (qMo + 2) (by omega) (zC_a (d := (0, 351)) 1 rfl) (Nat.le_of_ble_eq_true rfl) (by decide) (by decide) ?_
                      refine h_iconst (M := mX8_readsRow) dX8_readsRow_217 ?_
                      refine h_iadd (M := mX8_readsRow) dX8_readsRow_218 ?_
                      refine c_iast (M := mX8_readsRow) (len := 351) (d := (0, 351)) dX8_readsRow_219 1 rfl rfl (by omega) (Nat.le_of_ble_eq_true rfl) (by decide) (by decide) ?_
                      refine g_aload_n (M := mX8_readsRow) dX8_readsRow_220 0 rfl rfl ?_
                      obtain ⟨t72, u73, h⟩ := zbi h
                      refine g_callVr (M := mX8_readsRow) [] hX dX8_readsRow_221 vX8_goOn kM_X8_149 (wX8_goOn hX zC_self (by omega)  u73) qMo (zWs_at (by omega) (zC_o)) rfl ⟨(Nat.le_of_ble_eq_true rfl), (Nat.le_of_ble_eq_true rfl)⟩ ⟨(Nat.le_of_ble_eq_true rfl), (Nat.le_of_ble_eq_true rfl)⟩ (Nat.le_of_ble_eq_true rfl) ?_
                      refine g_ws (M := mX8_readsRow) (congrArg (zWs A n) zC_over) ?_
                      have e := (Option.some.inj h)
                      subst e
                      exact g_vret (M := mX8_readsRow) dX8_readsRow_224 rfl (Nat.le_of_ble_eq_true rfl) (Nat.le_of_ble_eq_true rfl) ⟨rfl, rfl⟩
                    refine zLp_J (J := fun s67 => G X mX8_readsRow (zPm X 2 0 0 (zRet (zWs A n (zC X A shMo qMo res S)) none)) 0 0 168 [(0, .ref (A qMo)), (1, .int (iI (VMo.2 2 0))), (2, .int (iI s67.1))] [] (zWs A n (zC X A shMo qMo s67.2 S))) (fun s67 w67 h67 b67 e67 => ?_) _ _ l67
                    refine g_iload_n (M := mX8_readsRow) dX8_readsRow_168 2 rfl rfl ?_
                    refine g_aload_n (M := mX8_readsRow) dX8_readsRow_169 0 rfl rfl ?_
                    refine k_get (M := mX8_readsRow) (v := .int (iI (s67.2.1 8))) dX8_readsRow_170 kF_X8_123.r qMo (by omega) (zC_o) rfl ?_
                    obtain ⟨g75, h67⟩ := zgi h67
                    refine h_icmp_ge (M := mX8_readsRow) (tgt := 210) dX8_readsRow_173 (by decide) g75.1 g75.2 (fun c74 => ?_) (fun c74 => ?_)
                    · have h67 := zti c74 h67
                      refine g_lv (M := mX8_readsRow) [0] rfl ?_
                      exact r67 _ (e67 _ (Option.some.inj h67).symm)
                    · have h67 := zfi (Int.not_le.mpr c74) h67
                      refine g_aload_n (M := mX8_readsRow) dX8_readsRow_176 0 rfl rfl ?_
                      refine k_get (M := mX8_readsRow) (v := .ref (A (qMo + 2))) dX8_readsRow_177 kF_X8_20.r qMo (by omega) (zC_o) rfl ?_
                      refine h_bipush (M := mX8_readsRow) dX8_readsRow_180 rfl ?_
                      refine h_bipush (M := mX8_readsRow) dX8_readsRow_182 rfl ?_
                      refine g_iload_n (M := mX8_readsRow) dX8_readsRow_184 1 rfl rfl ?_
                      refine h_imul (M := mX8_readsRow) dX8_readsRow_185 ?_
                      refine h_iadd (M := mX8_readsRow) dX8_readsRow_186 ?_
                      refine g_iload_n (M := mX8_readsRow) dX8_readsRow_187 2 rfl rfl ?_
                      refine h_iadd (M := mX8_readsRow) dX8_readsRow_188 ?_
                      refine g_aload_n (M := mX8_readsRow) dX8_readsRow_189 0 rfl rfl ?_
                      refine k_get (M := mX8_readsRow) (v := .ref (A (qMo + 1))) dX8_readsRow_190 kF_X8_7.r qMo (by omega) (zC_o) rfl ?_
                      refine g_aload_n (M := mX8_readsRow) dX8_readsRow_193 0 rfl rfl ?_
                      refine k_get (M := mX8_readsRow) (v := .int (iI (s67.2.1 5))) dX8_readsRow_194 kF_X8_113.r qMo (by omega) (zC_o) rfl ?_
                      refine g_iload_n (M := mX8_readsRow) dX8_readsRow_197 2 rfl rfl ?_
                      refine h_iadd (M := mX8_readsRow) dX8_readsRow_198 ?_
                      obtain ⟨g76, h67⟩ := zgi h67
                      refine k_iald (M := mX8_readsRow) (len := 600) (f := s67.2.2 1) dX8_readsRow_199 (qMo + 1) (by omega) (zC_a (d := (0, 600)) 0 rfl) (Nat.le_of_ble_eq_true rfl) g76.1 g76.2 ?_
                      refine h_bipush (M := mX8_readsRow) dX8_readsRow_200 rfl ?_
                      refine h_isub (M := mX8_readsRow) dX8_readsRow_202 ?_
                      obtain ⟨g77, h67⟩ := zgi h67
                      refine c_iast (M := mX8_readsRow) (len := 351) (d := (0, 351)) dX8_readsRow_203 1 rfl rfl (by omega) (Nat.le_of_ble_eq_true rfl) g77.1 g77.2 ?_
                      refine h_iinc (M := mX8_readsRow) (j := 2) (lv' := [(0, .ref (A qMo)), (1, .int (iI (VMo.2 2 0))), (2, .int (iI (s67.1 + 1)))]) dX8_readsRow_204 rfl (Nat.le_of_ble_eq_true rfl) rfl ?_
                      refine g_goto (M := mX8_readsRow) (tgt := 168) dX8_readsRow_207 (by decide) ?_
                      exact b67 _ (Option.some.inj h67).symm
                  · have h := zfi (zbf c62) h
                    have e := (Option.some.inj h)
                    subst e
                    exact g_vret (M := mX8_readsRow) dX8_readsRow_148 rfl (Nat.le_of_ble_eq_true rfl) (Nat.le_of_ble_eq_true rfl) ⟨rfl, rfl⟩
                · refine h_beq (M := mX8_readsRow) (tgt := 141) dX8_readsRow_126 (by decide) (fun c78 => ?_) (fun c78 => ?_)
                  · have h := zfi (zbf c78) h
                    exact j59 x50 h
                  · have h := zti c78 h
                    refine g_aload_n (M := mX8_readsRow) dX8_readsRow_129 0 rfl rfl ?_
                    obtain ⟨t79, u80, h⟩ := zbi h
                    refine g_callVr (M := mX8_readsRow) [] hX dX8_readsRow_130 vX8_hasLetters kM_X8_176 (wX8_hasLetters hX zC_self (by omega)  u80) qMo (zWs_at (by omega) (zC_o)) rfl ⟨(Nat.le_of_ble_eq_true rfl), (Nat.le_of_ble_eq_true rfl)⟩ ⟨(Nat.le_of_ble_eq_true rfl), (Nat.le_of_ble_eq_true rfl)⟩ (Nat.le_of_ble_eq_true rfl) ?_
                    refine h_bne (M := mX8_readsRow) (tgt := 141) dX8_readsRow_133 (by decide) (fun c81 => ?_) (fun c81 => ?_)
                    · have h := zti c81 h
                      exact j59 x50 h
                    · have h := zfi (zbf c81) h
                      refine g_aload_n (M := mX8_readsRow) dX8_readsRow_136 0 rfl rfl ?_
                      refine h_iconst (M := mX8_readsRow) dX8_readsRow_137 ?_
                      obtain ⟨t82, u83, h⟩ := zbi h
                      refine g_callVr (M := mX8_readsRow) [.int (iI 3)] hX dX8_readsRow_138 vX8_wrong kM_X8_146 (wX8_wrong hX zC_self (by omega)  u83) qMo (zWs_at (by omega) (zC_o)) rfl ⟨(Nat.le_of_ble_eq_true rfl), (Nat.le_of_ble_eq_true rfl)⟩ ⟨(Nat.le_of_ble_eq_true rfl), (Nat.le_of_ble_eq_true rfl)⟩ (Nat.le_of_ble_eq_true rfl) ?_
                      refine g_ws (M := mX8_readsRow) (congrArg (zWs A n) zC_over) ?_
                      exact j59 t82 h
              · refine h_beq (M := mX8_readsRow) (tgt := 122) dX8_readsRow_106 (by decide) (fun c84 => ?_) (fun c84 => ?_)
                · have h := zfi (zbf c84) h
                  exact j50 x42 h
                · have h := zti c84 h
                  refine g_aload_n (M := mX8_readsRow) dX8_readsRow_109 0 rfl rfl ?_
                  refine k_get (M := mX8_readsRow) (v := .int (iI (x42.1 8))) dX8_readsRow_110 kF_X8_123.r qMo (by omega) (zC_o) rfl ?_
                  refine h_iconst (M := mX8_readsRow) dX8_readsRow_113 ?_
                  obtain ⟨g86, h⟩ := zgi h
                  refine h_icmp_ge (M := mX8_readsRow) (tgt := 122) dX8_readsRow_114 (by decide) g86 (by decide) (fun c85 => ?_) (fun c85 => ?_)
                  · have h := zti c85 h
                    exact j50 x42 h
                  · have h := zfi (Int.not_le.mpr c85) h
                    refine g_aload_n (M := mX8_readsRow) dX8_readsRow_117 0 rfl rfl ?_
                    refine h_iconst (M := mX8_readsRow) dX8_readsRow_118 ?_
                    obtain ⟨t87, u88, h⟩ := zbi h
                    refine g_callVr (M := mX8_readsRow) [.int (iI 2)] hX dX8_readsRow_119 vX8_wrong kM_X8_146 (wX8_wrong hX zC_self (by omega)  u88) qMo (zWs_at (by omega) (zC_o)) rfl ⟨(Nat.le_of_ble_eq_true rfl), (Nat.le_of_ble_eq_true rfl)⟩ ⟨(Nat.le_of_ble_eq_true rfl), (Nat.le_of_ble_eq_true rfl)⟩ (Nat.le_of_ble_eq_true rfl) ?_
                    refine g_ws (M := mX8_readsRow) (congrArg (zWs A n) zC_over) ?_
                    exact j50 t87 h
            · refine h_beq (M := mX8_readsRow) (tgt := 102) dX8_readsRow_86 (by decide) (fun c89 => ?_) (fun c89 => ?_)
              · have h := zfi (zbf c89) h
                exact j42 x34 h
              · have h := zti c89 h
                refine g_aload_n (M := mX8_readsRow) dX8_readsRow_89 0 rfl rfl ?_
                refine k_get (M := mX8_readsRow) (v := .int (iI (x34.1 6))) dX8_readsRow_90 kF_X8_126.r qMo (by omega) (zC_o) rfl ?_
                refine h_iconst (M := mX8_readsRow) dX8_readsRow_93 ?_
                obtain ⟨g91, h⟩ := zgi h
                refine h_icmp_eq (M := mX8_readsRow) (tgt := 102) dX8_readsRow_94 (by decide) g91 (by decide) (fun c90 => ?_) (fun c90 => ?_)
                · have h := zti c90 h
                  exact j42 x34 h
                · have h := zfi c90 h
                  refine g_aload_n (M := mX8_readsRow) dX8_readsRow_97 0 rfl rfl ?_
                  refine h_iconst (M := mX8_readsRow) dX8_readsRow_98 ?_
                  obtain ⟨t92, u93, h⟩ := zbi h
                  refine g_callVr (M := mX8_readsRow) [.int (iI 1)] hX dX8_readsRow_99 vX8_wrong kM_X8_146 (wX8_wrong hX zC_self (by omega)  u93) qMo (zWs_at (by omega) (zC_o)) rfl ⟨(Nat.le_of_ble_eq_true rfl), (Nat.le_of_ble_eq_true rfl)⟩ ⟨(Nat.le_of_ble_eq_true rfl), (Nat.le_of_ble_eq_true rfl)⟩ (Nat.le_of_ble_eq_true rfl) ?_
                  refine g_ws (M := mX8_readsRow) (congrArg (zWs A n) zC_over) ?_
                  exact j42 t92 h
          · refine h_beq (M := mX8_readsRow) (tgt := 82) dX8_readsRow_75 (by decide) (fun c94 => ?_) (fun c94 => ?_)
            · have h := zfi (zbf c94) h
              exact j34 x28 h
            · have h := zti c94 h
              refine g_aload_n (M := mX8_readsRow) dX8_readsRow_78 0 rfl rfl ?_
              obtain ⟨t95, u96, h⟩ := zbi h
              refine g_callVr (M := mX8_readsRow) [] hX dX8_readsRow_79 vX8_goOn kM_X8_149 (wX8_goOn hX zC_self (by omega)  u96) qMo (zWs_at (by omega) (zC_o)) rfl ⟨(Nat.le_of_ble_eq_true rfl), (Nat.le_of_ble_eq_true rfl)⟩ ⟨(Nat.le_of_ble_eq_true rfl), (Nat.le_of_ble_eq_true rfl)⟩ (Nat.le_of_ble_eq_true rfl) ?_
              refine g_ws (M := mX8_readsRow) (congrArg (zWs A n) zC_over) ?_
              exact j34 t95 h
        · refine h_beq (M := mX8_readsRow) (tgt := 71) dX8_readsRow_58 (by decide) (fun c97 => ?_) (fun c97 => ?_)
          · have h := zfi (zbf c97) h
            exact j28 x23 h
          · have h := zti c97 h
            refine g_aload_n (M := mX8_readsRow) dX8_readsRow_61 0 rfl rfl ?_
            refine k_get (M := mX8_readsRow) (v := .ref (A (qMo + 7))) dX8_readsRow_62 kF_X8_35.r qMo (by omega) (zC_o) rfl ?_
            refine g_iload_n (M := mX8_readsRow) dX8_readsRow_65 1 rfl rfl ?_
            refine g_aload_n (M := mX8_readsRow) dX8_readsRow_66 0 rfl rfl ?_
            refine k_get (M := mX8_readsRow) (v := .long (iL (x23.1 13))) dX8_readsRow_67 kF_X8_116.r qMo (by omega) (zC_o) rfl ?_
            obtain ⟨g98, h⟩ := zgi h
            refine c_last (M := mX8_readsRow) (len := 10) (d := (1, 10)) dX8_readsRow_70 6 rfl rfl (by omega) (Nat.le_of_ble_eq_true rfl) g98.1 g98.2 ?_
            exact j28 (zPa x23 7 (VMo.2 2 0) (x23.1 13)) h
      · refine h_beq (M := mX8_readsRow) (tgt := 54) dX8_readsRow_38 (by decide) (fun c99 => ?_) (fun c99 => ?_)
        · have h := zfi (zbf c99) h
          exact j23 t12 h
        · have h := zti c99 h
          refine g_aload_n (M := mX8_readsRow) dX8_readsRow_41 0 rfl rfl ?_
          obtain ⟨t100, u101, h⟩ := zbi h
          refine g_callVr (M := mX8_readsRow) [] hX dX8_readsRow_42 vX8_named kM_X8_173 (wX8_named hX zC_self (by omega)  u101) qMo (zWs_at (by omega) (zC_o)) rfl ⟨(Nat.le_of_ble_eq_true rfl), (Nat.le_of_ble_eq_true rfl)⟩ ⟨(Nat.le_of_ble_eq_true rfl), (Nat.le_of_ble_eq_true rfl)⟩ (Nat.le_of_ble_eq_true rfl) ?_
          refine h_iconst (M := mX8_readsRow) dX8_readsRow_45 ?_
          obtain ⟨g103, h⟩ := zgi h
          refine h_icmp_eq (M := mX8_readsRow) (tgt := 54) dX8_readsRow_46 (by decide) g103 (by decide) (fun c102 => ?_) (fun c102 => ?_)
          · have h := zti c102 h
            exact j23 t12 h
          · have h := zfi c102 h
            refine g_aload_n (M := mX8_readsRow) dX8_readsRow_49 0 rfl rfl ?_
            refine h_iconst (M := mX8_readsRow) dX8_readsRow_50 ?_
            obtain ⟨t104, u105, h⟩ := zbi h
            refine g_callVr (M := mX8_readsRow) [.int (iI 3)] hX dX8_readsRow_51 vX8_wrong kM_X8_146 (wX8_wrong hX zC_self (by omega)  u105) qMo (zWs_at (by omega) (zC_o)) rfl ⟨(Nat.le_of_ble_eq_true rfl), (Nat.le_of_ble_eq_true rfl)⟩ ⟨(Nat.le_of_ble_eq_true rfl), (Nat.le_of_ble_eq_true rfl)⟩ (Nat.le_of_ble_eq_true rfl) ?_
            refine g_ws (M := mX8_readsRow) (congrArg (zWs A n) zC_over) ?_
            exact j23 t104 h
    · refine h_beq (M := mX8_readsRow) (tgt := 30) dX8_readsRow_23 (by decide) (fun c106 => ?_) (fun c106 => ?_)
      · have h := zfi (zbf c106) h
        exact j11 x5 h
      · have h := zti c106 h
        refine g_aload_n (M := mX8_readsRow) dX8_readsRow_26 0 rfl rfl ?_
        obtain ⟨t107, u108, h⟩ := zbi h
        refine g_callVr (M := mX8_readsRow) [] hX dX8_readsRow_27 vX8_goOn kM_X8_149 (wX8_goOn hX zC_self (by omega)  u108) qMo (zWs_at (by omega) (zC_o)) rfl ⟨(Nat.le_of_ble_eq_true rfl), (Nat.le_of_ble_eq_true rfl)⟩ ⟨(Nat.le_of_ble_eq_true rfl), (Nat.le_of_ble_eq_true rfl)⟩ (Nat.le_of_ble_eq_true rfl) ?_
        refine g_ws (M := mX8_readsRow) (congrArg (zWs A n) zC_over) ?_
        exact j11 t107 h
  · obtain ⟨g110, h⟩ := zgi h
    refine h_icmp_ne (M := mX8_readsRow) (tgt := 19) dX8_readsRow_10 (by decide) g110 (by decide) (fun c109 => ?_) (fun c109 => ?_)
    · have h := zfi c109 h
      exact j5 VMo h
    · have h := zti c109 h
      refine g_aload_n (M := mX8_readsRow) dX8_readsRow_13 0 rfl rfl ?_
      refine h_bipush (M := mX8_readsRow) dX8_readsRow_14 rfl ?_
      obtain ⟨t111, u112, h⟩ := zbi h
      refine g_callVr (M := mX8_readsRow) [.int (iI 6)] hX dX8_readsRow_16 vX8_wrong kM_X8_146 (wX8_wrong hX zC_self (by omega)  u112) qMo (zWs_at (by omega) (zC_o)) rfl ⟨(Nat.le_of_ble_eq_true rfl), (Nat.le_of_ble_eq_true rfl)⟩ ⟨(Nat.le_of_ble_eq_true rfl), (Nat.le_of_ble_eq_true rfl)⟩ (Nat.le_of_ble_eq_true rfl) ?_
      refine g_ws (M := mX8_readsRow) (congrArg (zWs A n) zC_over) ?_
      exact j5 t111 h
set_option maxHeartbeats 4000000 in
set_option maxRecDepth 100000 in
theorem wX8_statement {X : zX} (hX : zOK X) {A : Nat → Nat} {n : Nat} {S : Nat → va_E} {qMo : Nat} {VMo : CV} (hMo : isC X A shMo qMo VMo S) (bMo : qMo + 20 < n) {res : CV} (h : fX8_statement VMo = some res) : Con X yX8_statement mX8_statement 4 0 0 [.ref (A qMo)] (zWs A n S) (zRet (zWs A n (zC X A shMo qMo res S)) none) := by
  refine con_of (lv := [(0, .ref (A qMo))]) (by decide) rfl (fun h => by cases h) rfl (Nat.le_of_ble_eq_true rfl) rfl ?_
  refine g_ws (M := mX8_statement) (congrArg (zWs A n) hMo.symm) ?_
  unfold fX8_statement at h
  refine g_aload_n (M := mX8_statement) dX8_statement_0 0 rfl rfl ?_
  refine g_ldc2 (M := mX8_statement) (v := iL (13074306643)) dX8_statement_1 kC_X8_193 ?_
  obtain ⟨t1, u2, h⟩ := zbi h
  refine g_callVr (M := mX8_statement) [.long (iL 13074306643)] hX dX8_statement_4 vX8_isWord kM_X8_195 (wX8_isWord hX zC_self (by omega)  u2) qMo (zWs_at (by omega) (zC_o)) rfl ⟨(Nat.le_of_ble_eq_true rfl), (Nat.le_of_ble_eq_true rfl)⟩ ⟨(Nat.le_of_ble_eq_true rfl), (Nat.le_of_ble_eq_true rfl)⟩ (Nat.le_of_ble_eq_true rfl) ?_
  refine zJn_J (J := fun x23 => G X mX8_statement (zPm X 4 0 0 (zRet (zWs A n (zC X A shMo qMo res S)) none)) 0 0 83 [(0, .ref (A qMo))] [] (zWs A n (zC X A shMo qMo x23 S))) h (fun x23 h => ?_) (fun j23 h => ?_)
  · refine g_aload_n (M := mX8_statement) dX8_statement_83 0 rfl rfl ?_
    refine h_bipush (M := mX8_statement) dX8_statement_84 rfl ?_
    obtain ⟨t24, u25, h⟩ := zbi h
    refine g_callVr (M := mX8_statement) [.int (iI 59)] hX dX8_statement_86 vX8_mustSign kM_X8_211 (wX8_mustSign hX zC_self (by omega)  u25) qMo (zWs_at (by omega) (zC_o)) rfl ⟨(Nat.le_of_ble_eq_true rfl), (Nat.le_of_ble_eq_true rfl)⟩ ⟨(Nat.le_of_ble_eq_true rfl), (Nat.le_of_ble_eq_true rfl)⟩ (Nat.le_of_ble_eq_true rfl) ?_
    refine g_ws (M := mX8_statement) (congrArg (zWs A n) zC_over) ?_
    have e := (Option.some.inj h)
    subst e
    exact g_vret (M := mX8_statement) dX8_statement_89 rfl (Nat.le_of_ble_eq_true rfl) (Nat.le_of_ble_eq_true rfl) ⟨rfl, rfl⟩
  · refine h_beq (M := mX8_statement) (tgt := 20) dX8_statement_7 (by decide) (fun c26 => ?_) (fun c26 => ?_)
    · have h := zfi (zbf c26) h
      refine g_aload_n (M := mX8_statement) dX8_statement_20 0 rfl rfl ?_
      refine g_ldc2 (M := mX8_statement) (v := iL (408362632)) dX8_statement_21 kC_X8_202 ?_
      obtain ⟨t27, u28, h⟩ := zbi h
      refine g_callVr (M := mX8_statement) [.long (iL 408362632)] hX dX8_statement_24 vX8_isWord kM_X8_195 (wX8_isWord hX zC_self (by omega)  u28) qMo (zWs_at (by omega) (zC_o)) rfl ⟨(Nat.le_of_ble_eq_true rfl), (Nat.le_of_ble_eq_true rfl)⟩ ⟨(Nat.le_of_ble_eq_true rfl), (Nat.le_of_ble_eq_true rfl)⟩ (Nat.le_of_ble_eq_true rfl) ?_
      refine h_beq (M := mX8_statement) (tgt := 41) dX8_statement_27 (by decide) (fun c29 => ?_) (fun c29 => ?_)
      · have h := zfi (zbf c29) h
        refine g_aload_n (M := mX8_statement) dX8_statement_41 0 rfl rfl ?_
        refine g_ldc2 (M := mX8_statement) (v := iL (3491175603)) dX8_statement_42 kC_X8_204 ?_
        obtain ⟨t30, u31, h⟩ := zbi h
        refine g_callVr (M := mX8_statement) [.long (iL 3491175603)] hX dX8_statement_45 vX8_isWord kM_X8_195 (wX8_isWord hX zC_self (by omega)  u31) qMo (zWs_at (by omega) (zC_o)) rfl ⟨(Nat.le_of_ble_eq_true rfl), (Nat.le_of_ble_eq_true rfl)⟩ ⟨(Nat.le_of_ble_eq_true rfl), (Nat.le_of_ble_eq_true rfl)⟩ (Nat.le_of_ble_eq_true rfl) ?_
        refine h_beq (M := mX8_statement) (tgt := 61) dX8_statement_48 (by decide) (fun c32 => ?_) (fun c32 => ?_)
        · have h := zfi (zbf c32) h
          refine g_aload_n (M := mX8_statement) dX8_statement_61 0 rfl rfl ?_
          refine g_ldc2 (M := mX8_statement) (v := iL (18935)) dX8_statement_62 kC_X8_206 ?_
          obtain ⟨t33, u34, h⟩ := zbi h
          refine g_callVr (M := mX8_statement) [.long (iL 18935)] hX dX8_statement_65 vX8_isWord kM_X8_195 (wX8_isWord hX zC_self (by omega)  u34) qMo (zWs_at (by omega) (zC_o)) rfl ⟨(Nat.le_of_ble_eq_true rfl), (Nat.le_of_ble_eq_true rfl)⟩ ⟨(Nat.le_of_ble_eq_true rfl), (Nat.le_of_ble_eq_true rfl)⟩ (Nat.le_of_ble_eq_true rfl) ?_
          refine h_beq (M := mX8_statement) (tgt := 78) dX8_statement_68 (by decide) (fun c35 => ?_) (fun c35 => ?_)
          · have h := zfi (zbf c35) h
            refine g_aload_n (M := mX8_statement) dX8_statement_78 0 rfl rfl ?_
            refine h_iconst (M := mX8_statement) dX8_statement_79 ?_
            obtain ⟨t36, u37, h⟩ := zbi h
            refine g_callVr (M := mX8_statement) [.int (iI 1)] hX dX8_statement_80 vX8_wrong kM_X8_146 (wX8_wrong hX zC_self (by omega)  u37) qMo (zWs_at (by omega) (zC_o)) rfl ⟨(Nat.le_of_ble_eq_true rfl), (Nat.le_of_ble_eq_true rfl)⟩ ⟨(Nat.le_of_ble_eq_true rfl), (Nat.le_of_ble_eq_true rfl)⟩ (Nat.le_of_ble_eq_true rfl) ?_
            refine g_ws (M := mX8_statement) (congrArg (zWs A n) zC_over) ?_
            exact j23 t36 h
          · have h := zti c35 h
            refine g_aload_n (M := mX8_statement) dX8_statement_71 0 rfl rfl ?_
            obtain ⟨t38, u39, h⟩ := zbi h
            refine g_callVr (M := mX8_statement) [] hX dX8_statement_72 vX8_readsRow kM_X8_208 (wX8_readsRow hX zC_self (by omega)  u39) qMo (zWs_at (by omega) (zC_o)) rfl ⟨(Nat.le_of_ble_eq_true rfl), (Nat.le_of_ble_eq_true rfl)⟩ ⟨(Nat.le_of_ble_eq_true rfl), (Nat.le_of_ble_eq_true rfl)⟩ (Nat.le_of_ble_eq_true rfl) ?_
            refine g_ws (M := mX8_statement) (congrArg (zWs A n) zC_over) ?_
            refine g_goto (M := mX8_statement) (tgt := 83) dX8_statement_75 (by decide) ?_
            exact j23 t38 h
        · have h := zti c32 h
          refine g_aload_n (M := mX8_statement) dX8_statement_51 0 rfl rfl ?_
          refine h_iconst (M := mX8_statement) dX8_statement_52 ?_
          refine h_iconst (M := mX8_statement) dX8_statement_53 ?_
          refine h_iconst (M := mX8_statement) dX8_statement_54 ?_
          obtain ⟨t40, u41, h⟩ := zbi h
          refine g_callVr (M := mX8_statement) [.int (iI 3), .int (iI 0), .int (iI 3)] hX dX8_statement_55 vX8_readsOnce kM_X8_199 (wX8_readsOnce hX zC_self (by omega)  u41) qMo (zWs_at (by omega) (zC_o)) rfl ⟨(Nat.le_of_ble_eq_true rfl), (Nat.le_of_ble_eq_true rfl)⟩ ⟨(Nat.le_of_ble_eq_true rfl), (Nat.le_of_ble_eq_true rfl)⟩ (Nat.le_of_ble_eq_true rfl) ?_
          refine g_ws (M := mX8_statement) (congrArg (zWs A n) zC_over) ?_
          refine g_goto (M := mX8_statement) (tgt := 83) dX8_statement_58 (by decide) ?_
          exact j23 t40 h
      · have h := zti c29 h
        refine g_aload_n (M := mX8_statement) dX8_statement_30 0 rfl rfl ?_
        refine h_iconst (M := mX8_statement) dX8_statement_31 ?_
        refine h_iconst (M := mX8_statement) dX8_statement_32 ?_
        refine h_bipush (M := mX8_statement) dX8_statement_33 rfl ?_
        obtain ⟨t42, u43, h⟩ := zbi h
        refine g_callVr (M := mX8_statement) [.int (iI 2), .int (iI 2), .int (iI 6)] hX dX8_statement_35 vX8_readsOnce kM_X8_199 (wX8_readsOnce hX zC_self (by omega)  u43) qMo (zWs_at (by omega) (zC_o)) rfl ⟨(Nat.le_of_ble_eq_true rfl), (Nat.le_of_ble_eq_true rfl)⟩ ⟨(Nat.le_of_ble_eq_true rfl), (Nat.le_of_ble_eq_true rfl)⟩ (Nat.le_of_ble_eq_true rfl) ?_
        refine g_ws (M := mX8_statement) (congrArg (zWs A n) zC_over) ?_
        refine g_goto (M := mX8_statement) (tgt := 83) dX8_statement_38 (by decide) ?_
        exact j23 t42 h
    · have h := zti c26 h
      refine g_aload_n (M := mX8_statement) dX8_statement_10 0 rfl rfl ?_
      refine h_iconst (M := mX8_statement) dX8_statement_11 ?_
      refine h_iconst (M := mX8_statement) dX8_statement_12 ?_
      refine h_iconst (M := mX8_statement) dX8_statement_13 ?_
      obtain ⟨t44, u45, h⟩ := zbi h
      refine g_callVr (M := mX8_statement) [.int (iI 1), .int (iI 2), .int (iI 4)] hX dX8_statement_14 vX8_readsOnce kM_X8_199 (wX8_readsOnce hX zC_self (by omega)  u45) qMo (zWs_at (by omega) (zC_o)) rfl ⟨(Nat.le_of_ble_eq_true rfl), (Nat.le_of_ble_eq_true rfl)⟩ ⟨(Nat.le_of_ble_eq_true rfl), (Nat.le_of_ble_eq_true rfl)⟩ (Nat.le_of_ble_eq_true rfl) ?_
      refine g_ws (M := mX8_statement) (congrArg (zWs A n) zC_over) ?_
      refine g_goto (M := mX8_statement) (tgt := 83) dX8_statement_17 (by decide) ?_
      exact j23 t44 h
set_option maxHeartbeats 4000000 in
set_option maxRecDepth 100000 in
theorem wX8_readText {X : zX} (hX : zOK X) {A : Nat → Nat} {n : Nat} {S : Nat → va_E} {qMo : Nat} {VMo : CV} (hMo : isC X A shMo qMo VMo S) (bMo : qMo + 20 < n) {res : CV × Int} (h : fX8_readText VMo = some res) : Con X yX8_readText mX8_readText 5 0 0 [.ref (A qMo)] (zWs A n S) (zRet (zWs A n (zC X A shMo qMo res.1 S)) (some (.int (iI res.2)))) := by
  refine con_of (lv := [(0, .ref (A qMo))]) (by decide) rfl (fun h => by cases h) rfl (Nat.le_of_ble_eq_true rfl) rfl ?_
  refine g_ws (M := mX8_readText) (congrArg (zWs A n) hMo.symm) ?_
  unfold fX8_readText at h
  refine g_aload_n (M := mX8_readText) dX8_readText_0 0 rfl rfl ?_
  obtain ⟨t1, u2, h⟩ := zbi h
  refine g_callVr (M := mX8_readText) [] hX dX8_readText_1 vX8_beginsText kM_X8_214 (wX8_beginsText hX zC_self (by omega)  u2) qMo (zWs_at (by omega) (zC_o)) rfl ⟨(Nat.le_of_ble_eq_true rfl), (Nat.le_of_ble_eq_true rfl)⟩ ⟨(Nat.le_of_ble_eq_true rfl), (Nat.le_of_ble_eq_true rfl)⟩ (Nat.le_of_ble_eq_true rfl) ?_
  refine g_ws (M := mX8_readText) (congrArg (zWs A n) zC_over) ?_
  refine g_aload_n (M := mX8_readText) dX8_readText_4 0 rfl rfl ?_
  obtain ⟨t3, u4, h⟩ := zbi h
  refine g_callVr (M := mX8_readText) [] hX dX8_readText_5 vX8_laysAside kM_X8_217 (wX8_laysAside hX zC_self (by omega)  u4) qMo (zWs_at (by omega) (zC_o)) rfl ⟨(Nat.le_of_ble_eq_true rfl), (Nat.le_of_ble_eq_true rfl)⟩ ⟨(Nat.le_of_ble_eq_true rfl), (Nat.le_of_ble_eq_true rfl)⟩ (Nat.le_of_ble_eq_true rfl) ?_
  refine g_ws (M := mX8_readText) (congrArg (zWs A n) zC_over) ?_
  refine h_iconst (M := mX8_readText) dX8_readText_8 ?_
  refine g_istore_n (M := mX8_readText) (lv' := [(0, .ref (A qMo)), (1, .int (iI 0))]) dX8_readText_9 rfl (by decide) rfl ?_
  obtain ⟨x5, l5, h⟩ := zbi h
  have r5 : ∀ y5, y5 = x5 → G X mX8_readText (zPm X 5 0 0 (zRet (zWs A n (zC X A shMo qMo res.1 S)) (some (.int (iI res.2))))) 0 0 34 [(0, .ref (A qMo))] [] (zWs A n (zC X A shMo qMo y5.2 S)) := by
    intro y5 ey
    rw [← ey] at h
    refine g_aload_n (M := mX8_readText) dX8_readText_34 0 rfl rfl ?_
    obtain ⟨t9, u10, h⟩ := zbi h
    refine g_callVr (M := mX8_readText) [] hX dX8_readText_35 vX8_clears kM_X8_78 (wX8_clears hX zC_self (by omega)  u10) qMo (zWs_at (by omega) (zC_o)) rfl ⟨(Nat.le_of_ble_eq_true rfl), (Nat.le_of_ble_eq_true rfl)⟩ ⟨(Nat.le_of_ble_eq_true rfl), (Nat.le_of_ble_eq_true rfl)⟩ (Nat.le_of_ble_eq_true rfl) ?_
    refine g_ws (M := mX8_readText) (congrArg (zWs A n) zC_over) ?_
    refine g_aload_n (M := mX8_readText) dX8_readText_38 0 rfl rfl ?_
    refine h_iconst (M := mX8_readText) dX8_readText_39 ?_
    refine c_put (M := mX8_readText) (k := 24) dX8_readText_40 kF_X8_183 (by omega) rfl rfl (by decide) rfl rfl ?_
    obtain ⟨x11, l11, h⟩ := zbi h
    have r11 : ∀ y11, y11 = x11 → G X mX8_readText (zPm X 5 0 0 (zRet (zWs A n (zC X A shMo qMo res.1 S)) (some (.int (iI res.2))))) 0 0 64 [(0, .ref (A qMo))] [] (zWs A n (zC X A shMo qMo y11 S)) := by
      intro y11 ey
      rw [← ey] at h
      refine g_aload_n (M := mX8_readText) dX8_readText_64 0 rfl rfl ?_
      obtain ⟨t19, u20, h⟩ := zbi h
      refine g_callVr (M := mX8_readText) [] hX dX8_readText_65 vX8_endsText kM_X8_223 (wX8_endsText hX zC_self (by omega)  u20) qMo (zWs_at (by omega) (zC_o)) rfl ⟨(Nat.le_of_ble_eq_true rfl), (Nat.le_of_ble_eq_true rfl)⟩ ⟨(Nat.le_of_ble_eq_true rfl), (Nat.le_of_ble_eq_true rfl)⟩ (Nat.le_of_ble_eq_true rfl) ?_
      refine g_ws (M := mX8_readText) (congrArg (zWs A n) zC_over) ?_
      refine h_bne (M := mX8_readText) (tgt := 126) dX8_readText_68 (by decide) (fun c21 => ?_) (fun c21 => ?_)
      · have h := zti c21 h
        refine g_aload_n (M := mX8_readText) dX8_readText_126 0 rfl rfl ?_
        refine h_iconst (M := mX8_readText) dX8_readText_127 ?_
        refine c_put (M := mX8_readText) (k := 22) dX8_readText_128 kF_X8_155 (by omega) rfl rfl (by decide) rfl rfl ?_
        refine g_aload_n (M := mX8_readText) dX8_readText_131 0 rfl rfl ?_
        refine k_get (M := mX8_readText) (v := .ref (A (qMo + 2))) dX8_readText_132 kF_X8_20.r qMo (by omega) (zC_o) rfl ?_
        refine h_iconst (M := mX8_readText) dX8_readText_135 ?_
        refine k_iald (M := mX8_readText) (len := 351) (f := t19.1.2 2) dX8_readText_136 (qMo + 2) (by omega) (zC_a (d := (0, 351)) 1 rfl) (Nat.le_of_ble_eq_true rfl) (by decide) (by decide) ?_
        have e := (Option.some.inj h)
        subst e
        exact g_iret (M := mX8_readText) dX8_readText_137 rfl (Nat.le_of_ble_eq_true rfl) (Nat.le_of_ble_eq_true rfl) ⟨rfl, rfl⟩
      · have h := zfi (zbf c21) h
        refine h_iconst (M := mX8_readText) dX8_readText_71 ?_
        refine g_istore_n (M := mX8_readText) (lv' := [(0, .ref (A qMo)), (1, .int (iI 0))]) dX8_readText_72 rfl (by decide) rfl ?_
        obtain ⟨x22, l22, h⟩ := zbi h
        have r22 : ∀ y22, y22 = x22 → G X mX8_readText (zPm X 5 0 0 (zRet (zWs A n (zC X A shMo qMo res.1 S)) (some (.int (iI res.2))))) 0 0 98 [(0, .ref (A qMo))] [] (zWs A n (zC X A shMo qMo y22.2 S)) := by
          intro y22 ey
          rw [← ey] at h
          refine h_iconst (M := mX8_readText) dX8_readText_98 ?_
          refine g_istore_n (M := mX8_readText) (lv' := [(0, .ref (A qMo)), (1, .int (iI 0))]) dX8_readText_99 rfl (by decide) rfl ?_
          obtain ⟨x26, l26, h⟩ := zbi h
          have r26 : ∀ y26, y26 = x26 → G X mX8_readText (zPm X 5 0 0 (zRet (zWs A n (zC X A shMo qMo res.1 S)) (some (.int (iI res.2))))) 0 0 124 [] [] (zWs A n (zC X A shMo qMo y26.2 S)) := by
            intro y26 ey
            rw [← ey] at h
            refine h_iconst (M := mX8_readText) dX8_readText_124 ?_
            have e := (Option.some.inj h)
            subst e
            exact g_iret (M := mX8_readText) dX8_readText_125 rfl (Nat.le_of_ble_eq_true rfl) (Nat.le_of_ble_eq_true rfl) ⟨rfl, rfl⟩
          refine zLp_J (J := fun s26 => G X mX8_readText (zPm X 5 0 0 (zRet (zWs A n (zC X A shMo qMo res.1 S)) (some (.int (iI res.2))))) 0 0 100 [(0, .ref (A qMo)), (1, .int (iI s26.1))] [] (zWs A n (zC X A shMo qMo s26.2 S))) (fun s26 w26 h26 b26 e26 => ?_) _ _ l26
          refine g_iload_n (M := mX8_readText) dX8_readText_100 1 rfl rfl ?_
          refine h_bipush (M := mX8_readText) dX8_readText_101 rfl ?_
          obtain ⟨g31, h26⟩ := zgi h26
          refine h_icmp_ge (M := mX8_readText) (tgt := 124) dX8_readText_103 (by decide) g31 (by decide) (fun c30 => ?_) (fun c30 => ?_)
          · have h26 := zti c30 h26
            refine g_lv (M := mX8_readText) [] rfl ?_
            exact r26 _ (e26 _ (Option.some.inj h26).symm)
          · have h26 := zfi (Int.not_le.mpr c30) h26
            refine g_aload_n (M := mX8_readText) dX8_readText_106 0 rfl rfl ?_
            refine k_get (M := mX8_readText) (v := .ref (A (qMo + 7))) dX8_readText_107 kF_X8_35.r qMo (by omega) (zC_o) rfl ?_
            refine g_iload_n (M := mX8_readText) dX8_readText_110 1 rfl rfl ?_
            refine g_aload_n (M := mX8_readText) dX8_readText_111 0 rfl rfl ?_
            refine k_get (M := mX8_readText) (v := .ref (A (qMo + 9))) dX8_readText_112 kF_X8_42.r qMo (by omega) (zC_o) rfl ?_
            refine g_iload_n (M := mX8_readText) dX8_readText_115 1 rfl rfl ?_
            obtain ⟨g32, h26⟩ := zgi h26
            refine k_lald (M := mX8_readText) (len := 10) (f := s26.2.2 9) dX8_readText_116 (qMo + 9) (by omega) (zC_a (d := (1, 10)) 8 rfl) (Nat.le_of_ble_eq_true rfl) g32.1 g32.2 ?_
            refine c_last (M := mX8_readText) (len := 10) (d := (1, 10)) dX8_readText_117 6 rfl rfl (by omega) (Nat.le_of_ble_eq_true rfl) g32.1 g32.2 ?_
            refine h_iinc (M := mX8_readText) (j := 1) (lv' := [(0, .ref (A qMo)), (1, .int (iI (s26.1 + 1)))]) dX8_readText_118 rfl (Nat.le_of_ble_eq_true rfl) rfl ?_
            refine g_goto (M := mX8_readText) (tgt := 100) dX8_readText_121 (by decide) ?_
            exact b26 _ (Option.some.inj h26).symm
        refine zLp_J (J := fun s22 => G X mX8_readText (zPm X 5 0 0 (zRet (zWs A n (zC X A shMo qMo res.1 S)) (some (.int (iI res.2))))) 0 0 73 [(0, .ref (A qMo)), (1, .int (iI s22.1))] [] (zWs A n (zC X A shMo qMo s22.2 S))) (fun s22 w22 h22 b22 e22 => ?_) _ _ l22
        refine g_iload_n (M := mX8_readText) dX8_readText_73 1 rfl rfl ?_
        refine h_sipush (M := mX8_readText) dX8_readText_74 rfl ?_
        obtain ⟨g34, h22⟩ := zgi h22
        refine h_icmp_ge (M := mX8_readText) (tgt := 98) dX8_readText_77 (by decide) g34 (by decide) (fun c33 => ?_) (fun c33 => ?_)
        · have h22 := zti c33 h22
          refine g_lv (M := mX8_readText) [0] rfl ?_
          exact r22 _ (e22 _ (Option.some.inj h22).symm)
        · have h22 := zfi (Int.not_le.mpr c33) h22
          refine g_aload_n (M := mX8_readText) dX8_readText_80 0 rfl rfl ?_
          refine k_get (M := mX8_readText) (v := .ref (A (qMo + 2))) dX8_readText_81 kF_X8_20.r qMo (by omega) (zC_o) rfl ?_
          refine g_iload_n (M := mX8_readText) dX8_readText_84 1 rfl rfl ?_
          refine g_aload_n (M := mX8_readText) dX8_readText_85 0 rfl rfl ?_
          refine k_get (M := mX8_readText) (v := .ref (A (qMo + 5))) dX8_readText_86 kF_X8_29.r qMo (by omega) (zC_o) rfl ?_
          refine g_iload_n (M := mX8_readText) dX8_readText_89 1 rfl rfl ?_
          obtain ⟨g35, h22⟩ := zgi h22
          refine k_iald (M := mX8_readText) (len := 351) (f := s22.2.2 5) dX8_readText_90 (qMo + 5) (by omega) (zC_a (d := (0, 351)) 4 rfl) (Nat.le_of_ble_eq_true rfl) g35.1 g35.2 ?_
          refine c_iast (M := mX8_readText) (len := 351) (d := (0, 351)) dX8_readText_91 1 rfl rfl (by omega) (Nat.le_of_ble_eq_true rfl) g35.1 g35.2 ?_
          refine h_iinc (M := mX8_readText) (j := 1) (lv' := [(0, .ref (A qMo)), (1, .int (iI (s22.1 + 1)))]) dX8_readText_92 rfl (Nat.le_of_ble_eq_true rfl) rfl ?_
          refine g_goto (M := mX8_readText) (tgt := 73) dX8_readText_95 (by decide) ?_
          exact b22 _ (Option.some.inj h22).symm
    refine zLp_J (J := fun s11 => G X mX8_readText (zPm X 5 0 0 (zRet (zWs A n (zC X A shMo qMo res.1 S)) (some (.int (iI res.2))))) 0 0 43 [(0, .ref (A qMo))] [] (zWs A n (zC X A shMo qMo s11 S))) (fun s11 w11 h11 b11 e11 => ?_) _ _ l11
    refine g_aload_n (M := mX8_readText) dX8_readText_43 0 rfl rfl ?_
    obtain ⟨t36, u37, h11⟩ := zbi h11
    refine g_callVr (M := mX8_readText) [] hX dX8_readText_44 vX8_isGood kM_X8_139 (wX8_isGood hX zC_self (by omega)  u37) qMo (zWs_at (by omega) (zC_o)) rfl ⟨(Nat.le_of_ble_eq_true rfl), (Nat.le_of_ble_eq_true rfl)⟩ ⟨(Nat.le_of_ble_eq_true rfl), (Nat.le_of_ble_eq_true rfl)⟩ (Nat.le_of_ble_eq_true rfl) ?_
    refine h_beq (M := mX8_readText) (tgt := 64) dX8_readText_47 (by decide) (fun c38 => ?_) (fun c38 => ?_)
    · have h11 := zfi (zbf c38) h11
      exact r11 _ (e11 _ (Option.some.inj h11).symm)
    · have h11 := zti c38 h11
      refine g_aload_n (M := mX8_readText) dX8_readText_50 0 rfl rfl ?_
      refine k_get (M := mX8_readText) (v := .int (iI (s11.1 6))) dX8_readText_51 kF_X8_126.r qMo (by omega) (zC_o) rfl ?_
      obtain ⟨g40, h11⟩ := zgi h11
      refine h_if_eq (M := mX8_readText) (tgt := 64) dX8_readText_54 (by decide) g40 (fun c39 => ?_) (fun c39 => ?_)
      · have h11 := zti c39 h11
        exact r11 _ (e11 _ (Option.some.inj h11).symm)
      · have h11 := zfi c39 h11
        refine g_aload_n (M := mX8_readText) dX8_readText_57 0 rfl rfl ?_
        obtain ⟨t41, u42, h11⟩ := zbi h11
        refine g_callVr (M := mX8_readText) [] hX dX8_readText_58 vX8_statement kM_X8_220 (wX8_statement hX zC_self (by omega)  u42) qMo (zWs_at (by omega) (zC_o)) rfl ⟨(Nat.le_of_ble_eq_true rfl), (Nat.le_of_ble_eq_true rfl)⟩ ⟨(Nat.le_of_ble_eq_true rfl), (Nat.le_of_ble_eq_true rfl)⟩ (Nat.le_of_ble_eq_true rfl) ?_
        refine g_ws (M := mX8_readText) (congrArg (zWs A n) zC_over) ?_
        refine g_goto (M := mX8_readText) (tgt := 43) dX8_readText_61 (by decide) ?_
        exact b11 _ (Option.some.inj h11).symm
  refine zLp_J (J := fun s5 => G X mX8_readText (zPm X 5 0 0 (zRet (zWs A n (zC X A shMo qMo res.1 S)) (some (.int (iI res.2))))) 0 0 10 [(0, .ref (A qMo)), (1, .int (iI s5.1))] [] (zWs A n (zC X A shMo qMo s5.2 S))) (fun s5 w5 h5 b5 e5 => ?_) _ _ l5
  refine g_iload_n (M := mX8_readText) dX8_readText_10 1 rfl rfl ?_
  refine h_bipush (M := mX8_readText) dX8_readText_11 rfl ?_
  obtain ⟨g44, h5⟩ := zgi h5
  refine h_icmp_ge (M := mX8_readText) (tgt := 34) dX8_readText_13 (by decide) g44 (by decide) (fun c43 => ?_) (fun c43 => ?_)
  · have h5 := zti c43 h5
    refine g_lv (M := mX8_readText) [0] rfl ?_
    exact r5 _ (e5 _ (Option.some.inj h5).symm)
  · have h5 := zfi (Int.not_le.mpr c43) h5
    refine g_aload_n (M := mX8_readText) dX8_readText_16 0 rfl rfl ?_
    refine k_get (M := mX8_readText) (v := .ref (A (qMo + 9))) dX8_readText_17 kF_X8_42.r qMo (by omega) (zC_o) rfl ?_
    refine g_iload_n (M := mX8_readText) dX8_readText_20 1 rfl rfl ?_
    refine g_aload_n (M := mX8_readText) dX8_readText_21 0 rfl rfl ?_
    refine k_get (M := mX8_readText) (v := .ref (A (qMo + 7))) dX8_readText_22 kF_X8_35.r qMo (by omega) (zC_o) rfl ?_
    refine g_iload_n (M := mX8_readText) dX8_readText_25 1 rfl rfl ?_
    obtain ⟨g45, h5⟩ := zgi h5
    refine k_lald (M := mX8_readText) (len := 10) (f := s5.2.2 7) dX8_readText_26 (qMo + 7) (by omega) (zC_a (d := (1, 10)) 6 rfl) (Nat.le_of_ble_eq_true rfl) g45.1 g45.2 ?_
    refine c_last (M := mX8_readText) (len := 10) (d := (1, 10)) dX8_readText_27 8 rfl rfl (by omega) (Nat.le_of_ble_eq_true rfl) g45.1 g45.2 ?_
    refine h_iinc (M := mX8_readText) (j := 1) (lv' := [(0, .ref (A qMo)), (1, .int (iI (s5.1 + 1)))]) dX8_readText_28 rfl (Nat.le_of_ble_eq_true rfl) rfl ?_
    refine g_goto (M := mX8_readText) (tgt := 10) dX8_readText_31 (by decide) ?_
    exact b5 _ (Option.some.inj h5).symm
set_option maxHeartbeats 4000000 in
set_option maxRecDepth 100000 in
theorem wX8_tell {X : zX} (hX : zOK X) {A : Nat → Nat} {n : Nat} {S : Nat → va_E} {qMo : Nat} {VMo : CV} (hMo : isC X A shMo qMo VMo S) (bMo : qMo + 20 < n) {a1 : Int} {res : CV} (h : fX8_tell VMo a1 = some res) : Con X yX8_tell mX8_tell 0 0 0 [.ref (A qMo), .int (iI a1)] (zWs A n S) (zRet (zWs A n (zC X A shMo qMo res S)) none) := by
  refine con_of (lv := [(0, .ref (A qMo)), (1, .int (iI a1))]) (by decide) rfl (fun h => by cases h) rfl (Nat.le_of_ble_eq_true rfl) rfl ?_
  refine g_ws (M := mX8_tell) (congrArg (zWs A n) hMo.symm) ?_
  unfold fX8_tell at h
  refine g_aload_n (M := mX8_tell) dX8_tell_0 0 rfl rfl ?_
  refine k_get (M := mX8_tell) (v := .ref (A (qMo + 20))) dX8_tell_1 kF_X8_75.r qMo (by omega) (zC_o) rfl ?_
  refine g_aload_n (M := mX8_tell) dX8_tell_4 0 rfl rfl ?_
  refine k_get (M := mX8_tell) (v := .int (iI (VMo.1 47))) dX8_tell_5 kF_X8_449.r qMo (by omega) (zC_o) rfl ?_
  refine g_iload_n (M := mX8_tell) dX8_tell_8 1 rfl rfl ?_
  obtain ⟨g1, h⟩ := zgi h
  refine c_iast (M := mX8_tell) (len := 500) (d := (0, 500)) dX8_tell_9 19 rfl rfl (by omega) (Nat.le_of_ble_eq_true rfl) g1.1 g1.2 ?_
  refine g_aload_n (M := mX8_tell) dX8_tell_10 0 rfl rfl ?_
  refine g_dup (M := mX8_tell) dX8_tell_11 rfl ?_
  refine k_get (M := mX8_tell) (v := .int (iI (VMo.1 47))) dX8_tell_12 kF_X8_449.r qMo (by omega) (zC_o) rfl ?_
  refine h_iconst (M := mX8_tell) dX8_tell_15 ?_
  refine h_iadd (M := mX8_tell) dX8_tell_16 ?_
  refine c_put (M := mX8_tell) (k := 47) dX8_tell_17 kF_X8_449 (by omega) rfl rfl (by decide) rfl rfl ?_
  have e := (Option.some.inj h)
  subst e
  exact g_vret (M := mX8_tell) dX8_tell_20 rfl (Nat.le_of_ble_eq_true rfl) (Nat.le_of_ble_eq_true rfl) ⟨rfl, rfl⟩
set_option maxHeartbeats 4000000 in
set_option maxRecDepth 100000 in
theorem wX8_tellName {X : zX} (hX : zOK X) {A : Nat → Nat} {n : Nat} {S : Nat → va_E} {qMo : Nat} {VMo : CV} (hMo : isC X A shMo qMo VMo S) (bMo : qMo + 20 < n) {a1 : Int} {res : CV} (h : fX8_tellName VMo a1 = some res) : Con X yX8_tellName mX8_tellName 1 0 0 [.ref (A qMo), .long (iL a1)] (zWs A n S) (zRet (zWs A n (zC X A shMo qMo res S)) none) := by
  refine con_of (lv := [(0, .ref (A qMo)), (1, .long (iL a1))]) (by decide) rfl (fun h => by cases h) rfl (Nat.le_of_ble_eq_true rfl) rfl ?_
  refine g_ws (M := mX8_tellName) (congrArg (zWs A n) hMo.symm) ?_
  unfold fX8_tellName at h
  refine h_bipush (M := mX8_tellName) dX8_tellName_0 rfl ?_
  refine g_istore_n (M := mX8_tellName) (lv' := [(0, .ref (A qMo)), (1, .long (iL a1)), (3, .int (iI 35))]) dX8_tellName_2 rfl (by decide) rfl ?_
  obtain ⟨x1, l1, h⟩ := zbi h
  have r1 : ∀ y1, y1 = x1 → G X mX8_tellName (zPm X 1 0 0 (zRet (zWs A n (zC X A shMo qMo res S)) none)) 0 0 36 [] [] (zWs A n (zC X A shMo qMo y1.2 S)) := by
    intro y1 ey
    rw [← ey] at h
    have e := (Option.some.inj h)
    subst e
    exact g_vret (M := mX8_tellName) dX8_tellName_36 rfl (Nat.le_of_ble_eq_true rfl) (Nat.le_of_ble_eq_true rfl) ⟨rfl, rfl⟩
  refine zLp_J (J := fun s1 => G X mX8_tellName (zPm X 1 0 0 (zRet (zWs A n (zC X A shMo qMo res S)) none)) 0 0 3 [(0, .ref (A qMo)), (1, .long (iL a1)), (3, .int (iI s1.1))] [] (zWs A n (zC X A shMo qMo s1.2 S))) (fun s1 w1 h1 b1 e1 => ?_) _ _ l1
  refine g_iload_n (M := mX8_tellName) dX8_tellName_3 2 rfl rfl ?_
  obtain ⟨g12, h1⟩ := zgi h1
  refine h_if_lt (M := mX8_tellName) (tgt := 36) dX8_tellName_4 (by decide) g12 (fun c11 => ?_) (fun c11 => ?_)
  · have h1 := zti c11 h1
    refine g_lv (M := mX8_tellName) [] rfl ?_
    exact r1 _ (e1 _ (Option.some.inj h1).symm)
  · have h1 := zfi (Int.not_lt.mpr c11) h1
    refine g_lload_n (M := mX8_tellName) dX8_tellName_7 1 rfl rfl ?_
    refine g_iload_n (M := mX8_tellName) dX8_tellName_8 2 rfl rfl ?_
    obtain ⟨g13, h1⟩ := zgi h1
    refine g_lshr (M := mX8_tellName) dX8_tellName_9 rfl ?_
    refine h_topl (M := mX8_tellName) (b := a1 / zP2 s1.1) (iL_shr g13.1 g13.2) ?_
    refine g_lconst (M := mX8_tellName) (v := iL 0) dX8_tellName_10 rfl ?_
    obtain ⟨g14, h1⟩ := zgi h1
    refine g_lcmp (M := mX8_tellName) dX8_tellName_11 ?_
    refine h_topx (M := mX8_tellName) (b := zCmp (a1 / zP2 s1.1) 0) (lg_cmp_i g14.1 g14.2) ?_
    refine h_if_le (M := mX8_tellName) (tgt := 30) dX8_tellName_12 (by decide) (zCmp_r _ _) (fun c15 => ?_) (fun c15 => ?_)
    · have h1 := zti c15 h1
      refine h_iinc (M := mX8_tellName) (j := 2) (lv' := [(0, .ref (A qMo)), (1, .long (iL a1)), (3, .int (iI (s1.1 + (-5))))]) dX8_tellName_30 rfl (Nat.le_of_ble_eq_true rfl) rfl ?_
      refine g_goto (M := mX8_tellName) (tgt := 3) dX8_tellName_33 (by decide) ?_
      exact b1 _ (Option.some.inj h1).symm
    · have h1 := zfi (Int.not_le.mpr c15) h1
      refine g_aload_n (M := mX8_tellName) dX8_tellName_15 0 rfl rfl ?_
      refine h_bipush (M := mX8_tellName) dX8_tellName_16 rfl ?_
      refine g_lload_n (M := mX8_tellName) dX8_tellName_18 1 rfl rfl ?_
      refine g_iload_n (M := mX8_tellName) dX8_tellName_19 2 rfl rfl ?_
      refine g_lshr (M := mX8_tellName) dX8_tellName_20 rfl ?_
      refine h_topl (M := mX8_tellName) (b := a1 / zP2 s1.1) (iL_shr g13.1 g13.2) ?_
      refine g_ldc2 (M := mX8_tellName) (v := iL (31)) dX8_tellName_21 kC_X8_452 ?_
      obtain ⟨g16, h1⟩ := zgi h1
      refine g_land (M := mX8_tellName) dX8_tellName_24 ?_
      refine h_topl (M := mX8_tellName) (b := (a1 / zP2 s1.1) % 32) (iL_mask 5 g16 (by decide)) ?_
      obtain ⟨g17, h1⟩ := zgi h1
      refine g_l2i (M := mX8_tellName) dX8_tellName_25 rfl ?_
      refine h_topx (M := mX8_tellName) (b := (a1 / zP2 s1.1) % 32) (iL_i g17) ?_
      refine h_iadd (M := mX8_tellName) dX8_tellName_26 ?_
      obtain ⟨t18, u19, h1⟩ := zbi h1
      refine g_callVr (M := mX8_tellName) [.int (iI (96 + ((a1 / zP2 s1.1) % 32)))] hX dX8_tellName_27 vX8_tell kM_X8_454 (wX8_tell hX zC_self (by omega)  u19) qMo (zWs_at (by omega) (zC_o)) rfl ⟨(Nat.le_of_ble_eq_true rfl), (Nat.le_of_ble_eq_true rfl)⟩ ⟨(Nat.le_of_ble_eq_true rfl), (Nat.le_of_ble_eq_true rfl)⟩ (Nat.le_of_ble_eq_true rfl) ?_
      refine g_ws (M := mX8_tellName) (congrArg (zWs A n) zC_over) ?_
      refine h_iinc (M := mX8_tellName) (j := 2) (lv' := [(0, .ref (A qMo)), (1, .long (iL a1)), (3, .int (iI (s1.1 + (-5))))]) dX8_tellName_30 rfl (Nat.le_of_ble_eq_true rfl) rfl ?_
      refine g_goto (M := mX8_tellName) (tgt := 3) dX8_tellName_33 (by decide) ?_
      exact b1 _ (Option.some.inj h1).symm
