set_option maxHeartbeats 4000000 in
set_option maxRecDepth 100000 in
theorem wX5_readSetting {X : zX} (hX : zOK X) {A : Nat → Nat} {n : Nat} {S : Nat → va_E} {qRd : Nat} {VRd : CV} (hRd : isC X A shRd qRd VRd S) (bRd : qRd + 0 < n) {qTo : Nat} {VTo : CV} (hTo : isC X A shTo qTo VTo S) (bTo : qTo + 1 < n) (dRdTo : qRd + 0 < qTo ∨ qTo + 1 < qRd) {a1 : Int} {a2 : Int} {a3 : Int} {res : CV × CV × Int} (h : fX5_readSetting VRd VTo a1 a2 a3 = some res) : Con X yX5_readSetting mX5_readSetting 4 0 0 [.ref (A qRd), .ref (A qTo), .int (iI a1), .int (iI a2), .int (iI a3)] (zWs A n S) (zRet (zWs A n (zC X A shTo qTo res.2.1 (zC X A shRd qRd res.1 S))) (some (.int (iI res.2.2)))) := by
  refine con_of (lv := [(0, .ref (A qRd)), (1, .ref (A qTo)), (2, .int (iI a1)), (3, .int (iI a2)), (4, .int (iI a3))]) (by decide) rfl (fun h => by cases h) rfl (Nat.le_of_ble_eq_true rfl) rfl ?_
  refine g_ws (M := mX5_readSetting) (congrArg (zWs A n) hRd.symm) ?_
  refine g_ws (M := mX5_readSetting) (congrArg (zWs A n) (isC.keepN hTo 0 1 rfl rfl (by omega)).symm) ?_
  unfold fX5_readSetting at h
  refine g_aload_n (M := mX5_readSetting) dX5_readSetting_0 0 rfl rfl ?_
  refine k_get (M := mX5_readSetting) (v := .int (iI (VRd.1 0))) dX5_readSetting_1 kF_X5_9.r qRd (by omega) ((zC_skipN 1 rfl (by omega)).trans (zC_o)) rfl ?_
  refine g_iload_n (M := mX5_readSetting) dX5_readSetting_4 2 rfl rfl ?_
  obtain ⟨g1, h⟩ := zgi h
  refine g_iand (M := mX5_readSetting) dX5_readSetting_5 ?_
  refine h_topx (M := mX5_readSetting) (b := zAnd (VRd.1 0) a1) (iI_and g1.1 g1.2) ?_
  refine zJn_J (J := fun x6 => G X mX5_readSetting (zPm X 4 0 0 (zRet (zWs A n (zC X A shTo qTo res.2.1 (zC X A shRd qRd res.1 S))) (some (.int (iI res.2.2))))) 0 0 14 [(0, .ref (A qRd)), (1, .ref (A qTo)), (2, .int (iI a1)), (3, .int (iI a2)), (4, .int (iI a3))] [] (zWs A n (zC X A shTo qTo x6 (zC X A shRd qRd VRd S)))) h (fun x6 h => ?_) (fun j6 h => ?_)
  · refine g_aload_n (M := mX5_readSetting) dX5_readSetting_14 0 rfl rfl ?_
    refine g_dup (M := mX5_readSetting) dX5_readSetting_15 rfl ?_
    refine k_get (M := mX5_readSetting) (v := .int (iI (VRd.1 0))) dX5_readSetting_16 kF_X5_9.r qRd (by omega) ((zC_skipN 1 rfl (by omega)).trans (zC_o)) rfl ?_
    refine g_iload_n (M := mX5_readSetting) dX5_readSetting_19 2 rfl rfl ?_
    refine g_ior (M := mX5_readSetting) dX5_readSetting_20 ?_
    refine h_topx (M := mX5_readSetting) (b := zOr (VRd.1 0) a1) (iI_or g1.1 g1.2) ?_
    refine g_ws (M := mX5_readSetting) (congrArg (fun z => zWs A n (z)) (zC_commN 1 0 rfl rfl (by omega))) ?_
    refine c_put (M := mX5_readSetting) (k := 0) dX5_readSetting_21 kF_X5_9 (by omega) rfl rfl (by decide) rfl rfl ?_
    refine g_aload_n (M := mX5_readSetting) dX5_readSetting_24 1 rfl rfl ?_
    refine g_ws (M := mX5_readSetting) (congrArg (fun z => zWs A n (z)) (zC_commN 0 1 rfl rfl (by omega))) ?_
    obtain ⟨t7, u8, h⟩ := zbi h
    refine g_callVr (M := mX5_readSetting) [] hX dX5_readSetting_25 vX6_next kM_X5_71 (wX6_next hX zC_self (by omega)  u8) qTo (zWs_at (by omega) (zC_o)) rfl ⟨(Nat.le_of_ble_eq_true rfl), (Nat.le_of_ble_eq_true rfl)⟩ ⟨(Nat.le_of_ble_eq_true rfl), (Nat.le_of_ble_eq_true rfl)⟩ (Nat.le_of_ble_eq_true rfl) ?_
    refine g_ws (M := mX5_readSetting) (congrArg (zWs A n) zC_over) ?_
    refine g_aload_n (M := mX5_readSetting) dX5_readSetting_28 1 rfl rfl ?_
    refine g_iload_n (M := mX5_readSetting) dX5_readSetting_29 3 rfl rfl ?_
    refine g_iload (M := mX5_readSetting) dX5_readSetting_30 4 rfl ?_
    obtain ⟨t9, u10, h⟩ := zbi h
    refine g_callVr (M := mX5_readSetting) [.int (iI a2), .int (iI a3)] hX dX5_readSetting_32 vX6_passNumber kM_X5_74 (wX6_passNumber hX zC_self (by omega)  u10) qTo (zWs_at (by omega) (zC_o)) rfl ⟨(Nat.le_of_ble_eq_true rfl), (Nat.le_of_ble_eq_true rfl)⟩ ⟨(Nat.le_of_ble_eq_true rfl), (Nat.le_of_ble_eq_true rfl)⟩ (Nat.le_of_ble_eq_true rfl) ?_
    refine g_ws (M := mX5_readSetting) (congrArg (zWs A n) zC_over) ?_
    have e := (Option.some.inj h)
    subst e
    exact g_iret (M := mX5_readSetting) dX5_readSetting_35 rfl (Nat.le_of_ble_eq_true rfl) (Nat.le_of_ble_eq_true rfl) ⟨rfl, rfl⟩
  · obtain ⟨g12, h⟩ := zgi h
    refine h_if_eq (M := mX5_readSetting) (tgt := 14) dX5_readSetting_6 (by decide) g12 (fun c11 => ?_) (fun c11 => ?_)
    · have h := zti c11 h
      exact j6 VTo h
    · have h := zfi c11 h
      refine g_aload_n (M := mX5_readSetting) dX5_readSetting_9 1 rfl rfl ?_
      refine h_iconst (M := mX5_readSetting) dX5_readSetting_10 ?_
      obtain ⟨t13, u14, h⟩ := zbi h
      refine g_callVr (M := mX5_readSetting) [.int (iI 4)] hX dX5_readSetting_11 vX6_fail kM_X5_48 (wX6_fail hX zC_self (by omega)  u14) qTo (zWs_at (by omega) (zC_o)) rfl ⟨(Nat.le_of_ble_eq_true rfl), (Nat.le_of_ble_eq_true rfl)⟩ ⟨(Nat.le_of_ble_eq_true rfl), (Nat.le_of_ble_eq_true rfl)⟩ (Nat.le_of_ble_eq_true rfl) ?_
      refine g_ws (M := mX5_readSetting) (congrArg (zWs A n) zC_over) ?_
      exact j6 t13 h
set_option maxHeartbeats 4000000 in
set_option maxRecDepth 100000 in
theorem wX5_readRow {X : zX} (hX : zOK X) {A : Nat → Nat} {n : Nat} {S : Nat → va_E} {qRd : Nat} {VRd : CV} (hRd : isC X A shRd qRd VRd S) (bRd : qRd + 0 < n) {qTo : Nat} {VTo : CV} (hTo : isC X A shTo qTo VTo S) (bTo : qTo + 1 < n) {qB : Nat} {VB : CV} (hB : isC X A shB qB VB S) (bB : qB + 6 < n) (dRdTo : qRd + 0 < qTo ∨ qTo + 1 < qRd) (dRdB : qRd + 0 < qB ∨ qB + 6 < qRd) (dToB : qTo + 1 < qB ∨ qB + 6 < qTo) {res : CV × CV} (h : fX5_readRow VRd VTo VB = some res) : Con X yX5_readRow mX5_readRow 3 0 0 [.ref (A qRd), .ref (A qTo), .ref (A qB)] (zWs A n S) (zRet (zWs A n (zC X A shB qB res.2 (zC X A shTo qTo res.1 S))) none) := by
  refine con_of (lv := [(0, .ref (A qRd)), (1, .ref (A qTo)), (2, .ref (A qB))]) (by decide) rfl (fun h => by cases h) rfl (Nat.le_of_ble_eq_true rfl) rfl ?_
  refine g_ws (M := mX5_readRow) (congrArg (zWs A n) hTo.symm) ?_
  refine g_ws (M := mX5_readRow) (congrArg (zWs A n) (isC.keepN hB 1 6 rfl rfl (by omega)).symm) ?_
  unfold fX5_readRow at h
  refine g_aload_n (M := mX5_readRow) dX5_readRow_0 2 rfl rfl ?_
  refine k_get (M := mX5_readRow) (v := .int (iI (VB.1 3))) dX5_readRow_1 kF_X5_45.r qB (by omega) (zC_o) rfl ?_
  refine h_bipush (M := mX5_readRow) dX5_readRow_4 rfl ?_
  refine zJn_J (J := fun x5 => G X mX5_readRow (zPm X 3 0 0 (zRet (zWs A n (zC X A shB qB res.2 (zC X A shTo qTo res.1 S))) none)) 0 0 15 [(1, .ref (A qTo)), (2, .ref (A qB))] [] (zWs A n (zC X A shB qB VB (zC X A shTo qTo x5 S)))) h (fun x5 h => ?_) (fun j5 h => ?_)
  · refine g_aload_n (M := mX5_readRow) dX5_readRow_15 0 rfl rfl ?_
    refine g_ws (M := mX5_readRow) (congrArg (fun z => zWs A n (z)) (zC_commN 6 1 rfl rfl (by omega))) ?_
    obtain ⟨t6, u7, h⟩ := zbi h
    refine g_callVr (M := mX5_readRow) [] hX dX5_readRow_16 vX6_next kM_X5_71 (wX6_next hX zC_self (by omega)  u7) qTo (zWs_at (by omega) (zC_o)) rfl ⟨(Nat.le_of_ble_eq_true rfl), (Nat.le_of_ble_eq_true rfl)⟩ ⟨(Nat.le_of_ble_eq_true rfl), (Nat.le_of_ble_eq_true rfl)⟩ (Nat.le_of_ble_eq_true rfl) ?_
    refine g_ws (M := mX5_readRow) (congrArg (zWs A n) zC_over) ?_
    refine g_aload_n (M := mX5_readRow) dX5_readRow_19 0 rfl rfl ?_
    obtain ⟨t8, u9, h⟩ := zbi h
    refine g_callVr (M := mX5_readRow) [] hX dX5_readRow_20 vX6_nameCode kM_X5_78 (wX6_nameCode hX zC_self (by omega)  u9) qTo (zWs_at (by omega) (zC_o)) rfl ⟨(Nat.le_of_ble_eq_true rfl), (Nat.le_of_ble_eq_true rfl)⟩ ⟨(Nat.le_of_ble_eq_true rfl), (Nat.le_of_ble_eq_true rfl)⟩ (Nat.le_of_ble_eq_true rfl) ?_
    refine g_lstore_n (M := mX5_readRow) (lv' := [(1, .ref (A qTo)), (2, .ref (A qB)), (3, .long (iL t8))]) dX5_readRow_23 rfl (by decide) rfl ?_
    refine g_lload_n (M := mX5_readRow) dX5_readRow_24 2 rfl rfl ?_
    refine g_lconst (M := mX5_readRow) (v := iL 0) dX5_readRow_25 rfl ?_
    obtain ⟨g10, h⟩ := zgi h
    refine g_lcmp (M := mX5_readRow) dX5_readRow_26 ?_
    refine h_topx (M := mX5_readRow) (b := zCmp t8 0) (lg_cmp_i g10.1 g10.2) ?_
    refine zJn_J (J := fun x20 => G X mX5_readRow (zPm X 3 0 0 (zRet (zWs A n (zC X A shB qB res.2 (zC X A shTo qTo res.1 S))) none)) 0 0 52 [(1, .ref (A qTo)), (2, .ref (A qB)), (3, .long (iL t8))] [] (zWs A n (zC X A shTo qTo x20 (zC X A shB qB VB S)))) h (fun x20 h => ?_) (fun j20 h => ?_)
    · refine g_aload_n (M := mX5_readRow) dX5_readRow_52 0 rfl rfl ?_
      obtain ⟨t21, u22, h⟩ := zbi h
      refine g_callVr (M := mX5_readRow) [] hX dX5_readRow_53 vX6_next kM_X5_71 (wX6_next hX zC_self (by omega)  u22) qTo (zWs_at (by omega) (zC_o)) rfl ⟨(Nat.le_of_ble_eq_true rfl), (Nat.le_of_ble_eq_true rfl)⟩ ⟨(Nat.le_of_ble_eq_true rfl), (Nat.le_of_ble_eq_true rfl)⟩ (Nat.le_of_ble_eq_true rfl) ?_
      refine g_ws (M := mX5_readRow) (congrArg (zWs A n) zC_over) ?_
      refine g_aload_n (M := mX5_readRow) dX5_readRow_56 0 rfl rfl ?_
      obtain ⟨t23, u24, h⟩ := zbi h
      refine g_callVr (M := mX5_readRow) [] hX dX5_readRow_57 vX6_wordSize kM_X5_86 (wX6_wordSize hX zC_self (by omega)  u24) qTo (zWs_at (by omega) (zC_o)) rfl ⟨(Nat.le_of_ble_eq_true rfl), (Nat.le_of_ble_eq_true rfl)⟩ ⟨(Nat.le_of_ble_eq_true rfl), (Nat.le_of_ble_eq_true rfl)⟩ (Nat.le_of_ble_eq_true rfl) ?_
      refine g_istore (M := mX5_readRow) (lv' := [(1, .ref (A qTo)), (2, .ref (A qB)), (3, .long (iL t8)), (5, .int (iI t23))]) dX5_readRow_60 (by decide) rfl ?_
      refine g_aload_n (M := mX5_readRow) dX5_readRow_62 0 rfl rfl ?_
      refine g_aload_n (M := mX5_readRow) dX5_readRow_63 1 rfl rfl ?_
      refine k_get (M := mX5_readRow) (v := .int (iI (VB.1 0))) dX5_readRow_64 kF_X5_56.r qB (by omega) ((zC_skipN 1 rfl (by omega)).trans (zC_o)) rfl ?_
      obtain ⟨t25, u26, h⟩ := zbi h
      refine g_callVr (M := mX5_readRow) [.int (iI (VB.1 0))] hX dX5_readRow_67 vX6_wordCode kM_X5_90 (wX6_wordCode hX zC_self (by omega)  u26) qTo (zWs_at (by omega) (zC_o)) rfl ⟨(Nat.le_of_ble_eq_true rfl), (Nat.le_of_ble_eq_true rfl)⟩ ⟨(Nat.le_of_ble_eq_true rfl), (Nat.le_of_ble_eq_true rfl)⟩ (Nat.le_of_ble_eq_true rfl) ?_
      refine g_lstore (M := mX5_readRow) (lv' := [(1, .ref (A qTo)), (2, .ref (A qB)), (3, .long (iL t8)), (5, .int (iI t23)), (6, .long (iL t25))]) dX5_readRow_70 (by decide) rfl ?_
      refine g_iload (M := mX5_readRow) dX5_readRow_72 3 rfl ?_
      refine zJn_J (J := fun x38 => G X mX5_readRow (zPm X 3 0 0 (zRet (zWs A n (zC X A shB qB res.2 (zC X A shTo qTo res.1 S))) none)) 0 0 113 [(1, .ref (A qTo)), (2, .ref (A qB)), (3, .long (iL t8)), (5, .int (iI t23)), (6, .long (iL t25))] [] (zWs A n (zC X A shTo qTo x38 (zC X A shB qB VB S)))) h (fun x38 h => ?_) (fun j38 h => ?_)
      · refine g_aload_n (M := mX5_readRow) dX5_readRow_113 0 rfl rfl ?_
        obtain ⟨t39, u40, h⟩ := zbi h
        refine g_callVr (M := mX5_readRow) [] hX dX5_readRow_114 vX6_next kM_X5_71 (wX6_next hX zC_self (by omega)  u40) qTo (zWs_at (by omega) (zC_o)) rfl ⟨(Nat.le_of_ble_eq_true rfl), (Nat.le_of_ble_eq_true rfl)⟩ ⟨(Nat.le_of_ble_eq_true rfl), (Nat.le_of_ble_eq_true rfl)⟩ (Nat.le_of_ble_eq_true rfl) ?_
        refine g_ws (M := mX5_readRow) (congrArg (zWs A n) zC_over) ?_
        refine g_aload_n (M := mX5_readRow) dX5_readRow_117 0 rfl rfl ?_
        refine k_get (M := mX5_readRow) (v := .int (iI (t39.1 6))) dX5_readRow_118 kF_X5_25.r qTo (by omega) (zC_o) rfl ?_
        obtain ⟨g42, h⟩ := zgi h
        refine h_if_ne (M := mX5_readRow) (tgt := 133) dX5_readRow_121 (by decide) g42 (fun c41 => ?_) (fun c41 => ?_)
        · have h := zfi c41 h
          refine g_ws (M := mX5_readRow) (congrArg (fun z => zWs A n (z)) (zC_commN 1 6 rfl rfl (by omega))) ?_
          have e := (Option.some.inj h)
          subst e
          exact g_vret (M := mX5_readRow) dX5_readRow_133 rfl (Nat.le_of_ble_eq_true rfl) (Nat.le_of_ble_eq_true rfl) ⟨rfl, rfl⟩
        · have h := zti c41 h
          refine g_aload_n (M := mX5_readRow) dX5_readRow_124 1 rfl rfl ?_
          refine g_lload_n (M := mX5_readRow) dX5_readRow_125 2 rfl rfl ?_
          refine g_lload (M := mX5_readRow) dX5_readRow_126 4 rfl ?_
          refine g_iload (M := mX5_readRow) dX5_readRow_128 3 rfl ?_
          refine g_ws (M := mX5_readRow) (congrArg (fun z => zWs A n (z)) (zC_commN 1 6 rfl rfl (by omega))) ?_
          obtain ⟨t43, u44, h⟩ := zbi h
          refine g_callVr (M := mX5_readRow) [.long (iL t8), .long (iL t25), .int (iI t23)] hX dX5_readRow_130 vX0_addRow kM_X5_96 (wX0_addRow hX zC_self (by omega)  u44) qB (zWs_at (by omega) (zC_o)) rfl ⟨(Nat.le_of_ble_eq_true rfl), (Nat.le_of_ble_eq_true rfl)⟩ ⟨(Nat.le_of_ble_eq_true rfl), (Nat.le_of_ble_eq_true rfl)⟩ (Nat.le_of_ble_eq_true rfl) ?_
          refine g_ws (M := mX5_readRow) (congrArg (zWs A n) zC_over) ?_
          have e := (Option.some.inj h)
          subst e
          exact g_vret (M := mX5_readRow) dX5_readRow_133 rfl (Nat.le_of_ble_eq_true rfl) (Nat.le_of_ble_eq_true rfl) ⟨rfl, rfl⟩
      · obtain ⟨g46, h⟩ := zgi h
        refine h_if_ne (M := mX5_readRow) (tgt := 85) dX5_readRow_74 (by decide) g46 (fun c45 => ?_) (fun c45 => ?_)
        · have h := zfi c45 h
          refine g_iload (M := mX5_readRow) dX5_readRow_85 3 rfl ?_
          refine h_iconst (M := mX5_readRow) dX5_readRow_87 ?_
          refine h_icmp_ne (M := mX5_readRow) (tgt := 99) dX5_readRow_88 (by decide) g46 (by decide) (fun c47 => ?_) (fun c47 => ?_)
          · have h := zfi c47 h
            refine g_lload (M := mX5_readRow) dX5_readRow_99 4 rfl ?_
            refine g_ldc2 (M := mX5_readRow) (v := iL (-1)) dX5_readRow_101 ((show (-1 : Int64) = iL (-1) from by decide) ▸ kC_X5_94) ?_
            obtain ⟨g48, h⟩ := zgi h
            refine g_lcmp (M := mX5_readRow) dX5_readRow_104 ?_
            refine h_topx (M := mX5_readRow) (b := zCmp t25 (-1)) (lg_cmp_i g48.1 g48.2) ?_
            refine h_if_ne (M := mX5_readRow) (tgt := 113) dX5_readRow_105 (by decide) (zCmp_r _ _) (fun c49 => ?_) (fun c49 => ?_)
            · have h := zfi c49 h
              exact j38 t21 h
            · have h := zti c49 h
              refine g_aload_n (M := mX5_readRow) dX5_readRow_108 0 rfl rfl ?_
              refine h_iconst (M := mX5_readRow) dX5_readRow_109 ?_
              obtain ⟨t50, u51, h⟩ := zbi h
              refine g_callVr (M := mX5_readRow) [.int (iI 3)] hX dX5_readRow_110 vX6_fail kM_X5_48 (wX6_fail hX zC_self (by omega)  u51) qTo (zWs_at (by omega) (zC_o)) rfl ⟨(Nat.le_of_ble_eq_true rfl), (Nat.le_of_ble_eq_true rfl)⟩ ⟨(Nat.le_of_ble_eq_true rfl), (Nat.le_of_ble_eq_true rfl)⟩ (Nat.le_of_ble_eq_true rfl) ?_
              refine g_ws (M := mX5_readRow) (congrArg (zWs A n) zC_over) ?_
              exact j38 t50 h
          · have h := zti c47 h
            refine g_aload_n (M := mX5_readRow) dX5_readRow_91 0 rfl rfl ?_
            refine h_iconst (M := mX5_readRow) dX5_readRow_92 ?_
            obtain ⟨t52, u53, h⟩ := zbi h
            refine g_callVr (M := mX5_readRow) [.int (iI 2)] hX dX5_readRow_93 vX6_fail kM_X5_48 (wX6_fail hX zC_self (by omega)  u53) qTo (zWs_at (by omega) (zC_o)) rfl ⟨(Nat.le_of_ble_eq_true rfl), (Nat.le_of_ble_eq_true rfl)⟩ ⟨(Nat.le_of_ble_eq_true rfl), (Nat.le_of_ble_eq_true rfl)⟩ (Nat.le_of_ble_eq_true rfl) ?_
            refine g_ws (M := mX5_readRow) (congrArg (zWs A n) zC_over) ?_
            refine g_goto (M := mX5_readRow) (tgt := 113) dX5_readRow_96 (by decide) ?_
            exact j38 t52 h
        · have h := zti c45 h
          refine g_aload_n (M := mX5_readRow) dX5_readRow_77 0 rfl rfl ?_
          refine h_iconst (M := mX5_readRow) dX5_readRow_78 ?_
          obtain ⟨t54, u55, h⟩ := zbi h
          refine g_callVr (M := mX5_readRow) [.int (iI 1)] hX dX5_readRow_79 vX6_fail kM_X5_48 (wX6_fail hX zC_self (by omega)  u55) qTo (zWs_at (by omega) (zC_o)) rfl ⟨(Nat.le_of_ble_eq_true rfl), (Nat.le_of_ble_eq_true rfl)⟩ ⟨(Nat.le_of_ble_eq_true rfl), (Nat.le_of_ble_eq_true rfl)⟩ (Nat.le_of_ble_eq_true rfl) ?_
          refine g_ws (M := mX5_readRow) (congrArg (zWs A n) zC_over) ?_
          refine g_goto (M := mX5_readRow) (tgt := 113) dX5_readRow_82 (by decide) ?_
          exact j38 t54 h
    · refine h_if_ne (M := mX5_readRow) (tgt := 38) dX5_readRow_27 (by decide) (zCmp_r _ _) (fun c56 => ?_) (fun c56 => ?_)
      · have h := zfi c56 h
        refine g_aload_n (M := mX5_readRow) dX5_readRow_38 1 rfl rfl ?_
        refine g_lload_n (M := mX5_readRow) dX5_readRow_39 2 rfl rfl ?_
        obtain ⟨t57, u58, h⟩ := zbi h
        refine g_callVr (M := mX5_readRow) [.long (iL t8)] hX dX5_readRow_40 vX0_rowNamed kM_X5_82 (wX0_rowNamed hX (isC.keepN zC_self 1 6 rfl rfl (by omega)) (by omega)  u58) qB (zWs_at (by omega) ((zC_skipN 1 rfl (by omega)).trans (zC_o))) rfl ⟨(Nat.le_of_ble_eq_true rfl), (Nat.le_of_ble_eq_true rfl)⟩ ⟨(Nat.le_of_ble_eq_true rfl), (Nat.le_of_ble_eq_true rfl)⟩ (Nat.le_of_ble_eq_true rfl) ?_
        refine h_iconst (M := mX5_readRow) dX5_readRow_43 ?_
        obtain ⟨g60, h⟩ := zgi h
        refine h_icmp_eq (M := mX5_readRow) (tgt := 52) dX5_readRow_44 (by decide) g60 (by decide) (fun c59 => ?_) (fun c59 => ?_)
        · have h := zti c59 h
          exact j20 t6 h
        · have h := zfi c59 h
          refine g_aload_n (M := mX5_readRow) dX5_readRow_47 0 rfl rfl ?_
          refine h_iconst (M := mX5_readRow) dX5_readRow_48 ?_
          obtain ⟨t61, u62, h⟩ := zbi h
          refine g_callVr (M := mX5_readRow) [.int (iI 3)] hX dX5_readRow_49 vX6_fail kM_X5_48 (wX6_fail hX zC_self (by omega)  u62) qTo (zWs_at (by omega) (zC_o)) rfl ⟨(Nat.le_of_ble_eq_true rfl), (Nat.le_of_ble_eq_true rfl)⟩ ⟨(Nat.le_of_ble_eq_true rfl), (Nat.le_of_ble_eq_true rfl)⟩ (Nat.le_of_ble_eq_true rfl) ?_
          refine g_ws (M := mX5_readRow) (congrArg (zWs A n) zC_over) ?_
          exact j20 t61 h
      · have h := zti c56 h
        refine g_aload_n (M := mX5_readRow) dX5_readRow_30 0 rfl rfl ?_
        refine h_iconst (M := mX5_readRow) dX5_readRow_31 ?_
        obtain ⟨t63, u64, h⟩ := zbi h
        refine g_callVr (M := mX5_readRow) [.int (iI 1)] hX dX5_readRow_32 vX6_fail kM_X5_48 (wX6_fail hX zC_self (by omega)  u64) qTo (zWs_at (by omega) (zC_o)) rfl ⟨(Nat.le_of_ble_eq_true rfl), (Nat.le_of_ble_eq_true rfl)⟩ ⟨(Nat.le_of_ble_eq_true rfl), (Nat.le_of_ble_eq_true rfl)⟩ (Nat.le_of_ble_eq_true rfl) ?_
        refine g_ws (M := mX5_readRow) (congrArg (zWs A n) zC_over) ?_
        refine g_goto (M := mX5_readRow) (tgt := 52) dX5_readRow_35 (by decide) ?_
        exact j20 t63 h
  · obtain ⟨g66, h⟩ := zgi h
    refine h_icmp_ne (M := mX5_readRow) (tgt := 15) dX5_readRow_6 (by decide) g66 (by decide) (fun c65 => ?_) (fun c65 => ?_)
    · have h := zfi c65 h
      refine g_lv (M := mX5_readRow) [1, 2] rfl ?_
      exact j5 VTo h
    · have h := zti c65 h
      refine g_aload_n (M := mX5_readRow) dX5_readRow_9 1 rfl rfl ?_
      refine h_bipush (M := mX5_readRow) dX5_readRow_10 rfl ?_
      refine g_ws (M := mX5_readRow) (congrArg (fun z => zWs A n (z)) (zC_commN 6 1 rfl rfl (by omega))) ?_
      obtain ⟨t67, u68, h⟩ := zbi h
      refine g_callVr (M := mX5_readRow) [.int (iI 6)] hX dX5_readRow_12 vX6_fail kM_X5_48 (wX6_fail hX zC_self (by omega)  u68) qTo (zWs_at (by omega) (zC_o)) rfl ⟨(Nat.le_of_ble_eq_true rfl), (Nat.le_of_ble_eq_true rfl)⟩ ⟨(Nat.le_of_ble_eq_true rfl), (Nat.le_of_ble_eq_true rfl)⟩ (Nat.le_of_ble_eq_true rfl) ?_
      refine g_ws (M := mX5_readRow) (congrArg (zWs A n) zC_over) ?_
      refine g_ws (M := mX5_readRow) (congrArg (fun z => zWs A n (z)) (zC_commN 1 6 rfl rfl (by omega))) ?_
      refine g_lv (M := mX5_readRow) [1, 2] rfl ?_
      exact j5 t67 h
set_option maxHeartbeats 4000000 in
set_option maxRecDepth 100000 in
theorem wX5_readStatement {X : zX} (hX2 : zOK2 X) {A : Nat → Nat} {n : Nat} {S : Nat → va_E} {qRd : Nat} {VRd : CV} (hRd : isC X A shRd qRd VRd S) (bRd : qRd + 0 < n) {qTo : Nat} {VTo : CV} (hTo : isC X A shTo qTo VTo S) (bTo : qTo + 1 < n) {qB : Nat} {VB : CV} (hB : isC X A shB qB VB S) (bB : qB + 6 < n) (dRdTo : qRd + 0 < qTo ∨ qTo + 1 < qRd) (dRdB : qRd + 0 < qB ∨ qB + 6 < qRd) (dToB : qTo + 1 < qB ∨ qB + 6 < qTo) {res : CV × CV × CV} (h : fX5_readStatement VRd VTo VB = some res) : Con X yX5_readStatement mX5_readStatement 5 0 0 [.ref (A qRd), .ref (A qTo), .ref (A qB)] (zWs A n S) (zRet (zWs A n (zC X A shB qB res.2.2 (zC X A shTo qTo res.2.1 (zC X A shRd qRd res.1 S)))) none) := by
  refine con_of (lv := [(0, .ref (A qRd)), (1, .ref (A qTo)), (2, .ref (A qB))]) (by decide) rfl (fun h => by cases h) rfl (Nat.le_of_ble_eq_true rfl) rfl ?_
  have hX := hX2.1
  refine g_ws (M := mX5_readStatement) (congrArg (zWs A n) hRd.symm) ?_
  refine g_ws (M := mX5_readStatement) (congrArg (zWs A n) (isC.keepN hTo 0 1 rfl rfl (by omega)).symm) ?_
  refine g_ws (M := mX5_readStatement) (congrArg (zWs A n) (isC.keepN (isC.keepN hB 0 6 rfl rfl (by omega)) 1 6 rfl rfl (by omega)).symm) ?_
  unfold fX5_readStatement at h
  refine g_aload_n (M := mX5_readStatement) dX5_readStatement_0 1 rfl rfl ?_
  refine g_ldcS (M := mX5_readStatement) (tx := "letters") dX5_readStatement_1 (hX2.2.2.2 ("HiddenWords$TextReader", 39, "letters") (by decide)).1 ?_
  obtain ⟨t1, u2, h⟩ := zbi h
  refine g_callVr (M := mX5_readStatement) [.ref (X.2.2.2.2.2 ("HiddenWords$TextReader", 39))] hX dX5_readStatement_3 vX6_isWord kM_X5_41 (wX6_isWord hX2 (isC.keepN zC_self 6 1 rfl rfl (by omega)) (by omega)  (hX2.2.2.2 ("HiddenWords$TextReader", 39, "letters") (by decide)).2 u2) qTo (zWs_at (by omega) ((zC_skipN 6 rfl (by omega)).trans (zC_o))) rfl ⟨(Nat.le_of_ble_eq_true rfl), (Nat.le_of_ble_eq_true rfl)⟩ ⟨(Nat.le_of_ble_eq_true rfl), (Nat.le_of_ble_eq_true rfl)⟩ (Nat.le_of_ble_eq_true rfl) ?_
  refine h_beq (M := mX5_readStatement) (tgt := 36) dX5_readStatement_6 (by decide) (fun c3 => ?_) (fun c3 => ?_)
  · have h := zfi (zbf c3) h
    refine g_aload_n (M := mX5_readStatement) dX5_readStatement_36 1 rfl rfl ?_
    refine g_ldcS (M := mX5_readStatement) (tx := "length") dX5_readStatement_37 (hX2.2.2.2 ("HiddenWords$TextReader", 58, "length") (by decide)).1 ?_
    obtain ⟨t4, u5, h⟩ := zbi h
    refine g_callVr (M := mX5_readStatement) [.ref (X.2.2.2.2.2 ("HiddenWords$TextReader", 58))] hX dX5_readStatement_39 vX6_isWord kM_X5_41 (wX6_isWord hX2 (isC.keepN zC_self 6 1 rfl rfl (by omega)) (by omega)  (hX2.2.2.2 ("HiddenWords$TextReader", 58, "length") (by decide)).2 u5) qTo (zWs_at (by omega) ((zC_skipN 6 rfl (by omega)).trans (zC_o))) rfl ⟨(Nat.le_of_ble_eq_true rfl), (Nat.le_of_ble_eq_true rfl)⟩ ⟨(Nat.le_of_ble_eq_true rfl), (Nat.le_of_ble_eq_true rfl)⟩ (Nat.le_of_ble_eq_true rfl) ?_
    refine h_beq (M := mX5_readStatement) (tgt := 61) dX5_readStatement_42 (by decide) (fun c6 => ?_) (fun c6 => ?_)
    · have h := zfi (zbf c6) h
      refine g_aload_n (M := mX5_readStatement) dX5_readStatement_61 1 rfl rfl ?_
      refine g_ldcS (M := mX5_readStatement) (tx := "changes") dX5_readStatement_62 (hX2.2.2.2 ("HiddenWords$TextReader", 62, "changes") (by decide)).1 ?_
      obtain ⟨t7, u8, h⟩ := zbi h
      refine g_callVr (M := mX5_readStatement) [.ref (X.2.2.2.2.2 ("HiddenWords$TextReader", 62))] hX dX5_readStatement_64 vX6_isWord kM_X5_41 (wX6_isWord hX2 (isC.keepN zC_self 6 1 rfl rfl (by omega)) (by omega)  (hX2.2.2.2 ("HiddenWords$TextReader", 62, "changes") (by decide)).2 u8) qTo (zWs_at (by omega) ((zC_skipN 6 rfl (by omega)).trans (zC_o))) rfl ⟨(Nat.le_of_ble_eq_true rfl), (Nat.le_of_ble_eq_true rfl)⟩ ⟨(Nat.le_of_ble_eq_true rfl), (Nat.le_of_ble_eq_true rfl)⟩ (Nat.le_of_ble_eq_true rfl) ?_
      refine h_beq (M := mX5_readStatement) (tgt := 85) dX5_readStatement_67 (by decide) (fun c9 => ?_) (fun c9 => ?_)
      · have h := zfi (zbf c9) h
        refine g_aload_n (M := mX5_readStatement) dX5_readStatement_85 1 rfl rfl ?_
        refine g_ldcS (M := mX5_readStatement) (tx := "row") dX5_readStatement_86 (hX2.2.2.2 ("HiddenWords$TextReader", 66, "row") (by decide)).1 ?_
        obtain ⟨t10, u11, h⟩ := zbi h
        refine g_callVr (M := mX5_readStatement) [.ref (X.2.2.2.2.2 ("HiddenWords$TextReader", 66))] hX dX5_readStatement_88 vX6_isWord kM_X5_41 (wX6_isWord hX2 (isC.keepN zC_self 6 1 rfl rfl (by omega)) (by omega)  (hX2.2.2.2 ("HiddenWords$TextReader", 66, "row") (by decide)).2 u11) qTo (zWs_at (by omega) ((zC_skipN 6 rfl (by omega)).trans (zC_o))) rfl ⟨(Nat.le_of_ble_eq_true rfl), (Nat.le_of_ble_eq_true rfl)⟩ ⟨(Nat.le_of_ble_eq_true rfl), (Nat.le_of_ble_eq_true rfl)⟩ (Nat.le_of_ble_eq_true rfl) ?_
        refine h_beq (M := mX5_readStatement) (tgt := 103) dX5_readStatement_91 (by decide) (fun c12 => ?_) (fun c12 => ?_)
        · have h := zfi (zbf c12) h
          refine g_aload_n (M := mX5_readStatement) dX5_readStatement_103 1 rfl rfl ?_
          refine h_iconst (M := mX5_readStatement) dX5_readStatement_104 ?_
          refine g_ws (M := mX5_readStatement) (congrArg (fun z => zWs A n (z)) (zC_commN 6 1 rfl rfl (by omega))) ?_
          obtain ⟨t13, u14, h⟩ := zbi h
          refine g_callVr (M := mX5_readStatement) [.int (iI 1)] hX dX5_readStatement_105 vX6_fail kM_X5_48 (wX6_fail hX zC_self (by omega)  u14) qTo (zWs_at (by omega) (zC_o)) rfl ⟨(Nat.le_of_ble_eq_true rfl), (Nat.le_of_ble_eq_true rfl)⟩ ⟨(Nat.le_of_ble_eq_true rfl), (Nat.le_of_ble_eq_true rfl)⟩ (Nat.le_of_ble_eq_true rfl) ?_
          refine g_ws (M := mX5_readStatement) (congrArg (zWs A n) zC_over) ?_
          refine g_ws (M := mX5_readStatement) (congrArg (fun z => zWs A n (z)) (zC_commN 1 6 rfl rfl (by omega))) ?_
          have e := (Option.some.inj h)
          subst e
          exact g_vret (M := mX5_readStatement) dX5_readStatement_108 rfl (Nat.le_of_ble_eq_true rfl) (Nat.le_of_ble_eq_true rfl) ⟨rfl, rfl⟩
        · have h := zti c12 h
          refine g_aload_n (M := mX5_readStatement) dX5_readStatement_94 0 rfl rfl ?_
          refine g_aload_n (M := mX5_readStatement) dX5_readStatement_95 1 rfl rfl ?_
          refine g_aload_n (M := mX5_readStatement) dX5_readStatement_96 2 rfl rfl ?_
          obtain ⟨t15, u16, h⟩ := zbi h
          refine g_callVr (M := mX5_readStatement) [.ref (A qTo), .ref (A qB)] hX dX5_readStatement_97 vX5_readRow kM_X5_68 (wX5_readRow hX (isC.keepN (isC.keepN zC_self 1 0 rfl rfl (by omega)) 6 0 rfl rfl (by omega)) (by omega) (isC.keepN zC_self 6 1 rfl rfl (by omega)) (by omega) zC_self (by omega) (by omega) (by omega) (by omega) u16) qRd (zWs_at (by omega) ((zC_skipN 6 rfl (by omega)).trans ((zC_skipN 1 rfl (by omega)).trans (zC_o)))) rfl ⟨(Nat.le_of_ble_eq_true rfl), (Nat.le_of_ble_eq_true rfl)⟩ ⟨(Nat.le_of_ble_eq_true rfl), (Nat.le_of_ble_eq_true rfl)⟩ (Nat.le_of_ble_eq_true rfl) ?_
          refine g_ws (M := mX5_readStatement) (congrArg (zWs A n) (zC_over2 1 6 rfl rfl (by omega))) ?_
          refine g_goto (M := mX5_readStatement) (tgt := 108) dX5_readStatement_100 (by decide) ?_
          have e := (Option.some.inj h)
          subst e
          exact g_vret (M := mX5_readStatement) dX5_readStatement_108 rfl (Nat.le_of_ble_eq_true rfl) (Nat.le_of_ble_eq_true rfl) ⟨rfl, rfl⟩
      · have h := zti c9 h
        refine g_aload_n (M := mX5_readStatement) dX5_readStatement_70 2 rfl rfl ?_
        refine g_aload_n (M := mX5_readStatement) dX5_readStatement_71 0 rfl rfl ?_
        refine g_aload_n (M := mX5_readStatement) dX5_readStatement_72 1 rfl rfl ?_
        refine h_iconst (M := mX5_readStatement) dX5_readStatement_73 ?_
        refine h_iconst (M := mX5_readStatement) dX5_readStatement_74 ?_
        refine h_iconst (M := mX5_readStatement) dX5_readStatement_75 ?_
        refine g_ws (M := mX5_readStatement) (congrArg (fun z => zWs A n (z)) (zC_commN 6 1 rfl rfl (by omega))) ?_
        refine g_ws (M := mX5_readStatement) (congrArg (fun z => zWs A n (zC X A shTo qTo VTo (z))) (zC_commN 6 0 rfl rfl (by omega))) ?_
        obtain ⟨t17, u18, h⟩ := zbi h
        refine g_callVr (M := mX5_readStatement) [.ref (A qTo), .int (iI 4), .int (iI 0), .int (iI 3)] hX dX5_readStatement_76 vX5_readSetting kM_X5_52 (wX5_readSetting hX (isC.keepN zC_self 1 0 rfl rfl (by omega)) (by omega) zC_self (by omega) (by omega) u18) qRd (zWs_at (by omega) ((zC_skipN 1 rfl (by omega)).trans (zC_o))) rfl ⟨(Nat.le_of_ble_eq_true rfl), (Nat.le_of_ble_eq_true rfl)⟩ ⟨(Nat.le_of_ble_eq_true rfl), (Nat.le_of_ble_eq_true rfl)⟩ (Nat.le_of_ble_eq_true rfl) ?_
        refine g_ws (M := mX5_readStatement) (congrArg (zWs A n) (zC_over2 0 1 rfl rfl (by omega))) ?_
        refine g_ws (M := mX5_readStatement) (congrArg (fun z => zWs A n (zC X A shTo qTo t17.2.1 (z))) (zC_commN 0 6 rfl rfl (by omega))) ?_
        refine g_ws (M := mX5_readStatement) (congrArg (fun z => zWs A n (z)) (zC_commN 1 6 rfl rfl (by omega))) ?_
        refine c_put (M := mX5_readStatement) (k := 2) dX5_readStatement_79 kF_X5_64 (by omega) rfl rfl (by decide) rfl rfl ?_
        refine g_goto (M := mX5_readStatement) (tgt := 108) dX5_readStatement_82 (by decide) ?_
        have e := (Option.some.inj h)
        subst e
        exact g_vret (M := mX5_readStatement) dX5_readStatement_108 rfl (Nat.le_of_ble_eq_true rfl) (Nat.le_of_ble_eq_true rfl) ⟨rfl, rfl⟩
    · have h := zti c6 h
      refine g_aload_n (M := mX5_readStatement) dX5_readStatement_45 2 rfl rfl ?_
      refine g_aload_n (M := mX5_readStatement) dX5_readStatement_46 0 rfl rfl ?_
      refine g_aload_n (M := mX5_readStatement) dX5_readStatement_47 1 rfl rfl ?_
      refine h_iconst (M := mX5_readStatement) dX5_readStatement_48 ?_
      refine h_iconst (M := mX5_readStatement) dX5_readStatement_49 ?_
      refine h_bipush (M := mX5_readStatement) dX5_readStatement_50 rfl ?_
      refine g_ws (M := mX5_readStatement) (congrArg (fun z => zWs A n (z)) (zC_commN 6 1 rfl rfl (by omega))) ?_
      refine g_ws (M := mX5_readStatement) (congrArg (fun z => zWs A n (zC X A shTo qTo VTo (z))) (zC_commN 6 0 rfl rfl (by omega))) ?_
      obtain ⟨t19, u20, h⟩ := zbi h
      refine g_callVr (M := mX5_readStatement) [.ref (A qTo), .int (iI 2), .int (iI 2), .int (iI 6)] hX dX5_readStatement_52 vX5_readSetting kM_X5_52 (wX5_readSetting hX (isC.keepN zC_self 1 0 rfl rfl (by omega)) (by omega) zC_self (by omega) (by omega) u20) qRd (zWs_at (by omega) ((zC_skipN 1 rfl (by omega)).trans (zC_o))) rfl ⟨(Nat.le_of_ble_eq_true rfl), (Nat.le_of_ble_eq_true rfl)⟩ ⟨(Nat.le_of_ble_eq_true rfl), (Nat.le_of_ble_eq_true rfl)⟩ (Nat.le_of_ble_eq_true rfl) ?_
      refine g_ws (M := mX5_readStatement) (congrArg (zWs A n) (zC_over2 0 1 rfl rfl (by omega))) ?_
      refine g_ws (M := mX5_readStatement) (congrArg (fun z => zWs A n (zC X A shTo qTo t19.2.1 (z))) (zC_commN 0 6 rfl rfl (by omega))) ?_
      refine g_ws (M := mX5_readStatement) (congrArg (fun z => zWs A n (z)) (zC_commN 1 6 rfl rfl (by omega))) ?_
      refine c_put (M := mX5_readStatement) (k := 1) dX5_readStatement_55 kF_X5_60 (by omega) rfl rfl (by decide) rfl rfl ?_
      refine g_goto (M := mX5_readStatement) (tgt := 108) dX5_readStatement_58 (by decide) ?_
      have e := (Option.some.inj h)
      subst e
      exact g_vret (M := mX5_readStatement) dX5_readStatement_108 rfl (Nat.le_of_ble_eq_true rfl) (Nat.le_of_ble_eq_true rfl) ⟨rfl, rfl⟩
  · have h := zti c3 h
    refine g_aload_n (M := mX5_readStatement) dX5_readStatement_9 2 rfl rfl ?_
    refine k_get (M := mX5_readStatement) (v := .int (iI (VB.1 3))) dX5_readStatement_10 kF_X5_45.r qB (by omega) (zC_o) rfl ?_
    refine zJn_J (J := fun x25 => G X mX5_readStatement (zPm X 5 0 0 (zRet (zWs A n (zC X A shB qB res.2.2 (zC X A shTo qTo res.2.1 (zC X A shRd qRd res.1 S)))) none)) 0 0 21 [(0, .ref (A qRd)), (1, .ref (A qTo)), (2, .ref (A qB))] [] (zWs A n (zC X A shB qB VB (zC X A shTo qTo x25 (zC X A shRd qRd VRd S))))) h (fun x25 h => ?_) (fun j25 h => ?_)
    · refine g_aload_n (M := mX5_readStatement) dX5_readStatement_21 2 rfl rfl ?_
      refine g_aload_n (M := mX5_readStatement) dX5_readStatement_22 0 rfl rfl ?_
      refine g_aload_n (M := mX5_readStatement) dX5_readStatement_23 1 rfl rfl ?_
      refine h_iconst (M := mX5_readStatement) dX5_readStatement_24 ?_
      refine h_iconst (M := mX5_readStatement) dX5_readStatement_25 ?_
      refine h_iconst (M := mX5_readStatement) dX5_readStatement_26 ?_
      refine g_ws (M := mX5_readStatement) (congrArg (fun z => zWs A n (z)) (zC_commN 6 1 rfl rfl (by omega))) ?_
      refine g_ws (M := mX5_readStatement) (congrArg (fun z => zWs A n (zC X A shTo qTo x25 (z))) (zC_commN 6 0 rfl rfl (by omega))) ?_
      obtain ⟨t26, u27, h⟩ := zbi h
      refine g_callVr (M := mX5_readStatement) [.ref (A qTo), .int (iI 1), .int (iI 2), .int (iI 4)] hX dX5_readStatement_27 vX5_readSetting kM_X5_52 (wX5_readSetting hX (isC.keepN zC_self 1 0 rfl rfl (by omega)) (by omega) zC_self (by omega) (by omega) u27) qRd (zWs_at (by omega) ((zC_skipN 1 rfl (by omega)).trans (zC_o))) rfl ⟨(Nat.le_of_ble_eq_true rfl), (Nat.le_of_ble_eq_true rfl)⟩ ⟨(Nat.le_of_ble_eq_true rfl), (Nat.le_of_ble_eq_true rfl)⟩ (Nat.le_of_ble_eq_true rfl) ?_
      refine g_ws (M := mX5_readStatement) (congrArg (zWs A n) (zC_over2 0 1 rfl rfl (by omega))) ?_
      refine g_ws (M := mX5_readStatement) (congrArg (fun z => zWs A n (zC X A shTo qTo t26.2.1 (z))) (zC_commN 0 6 rfl rfl (by omega))) ?_
      refine g_ws (M := mX5_readStatement) (congrArg (fun z => zWs A n (z)) (zC_commN 1 6 rfl rfl (by omega))) ?_
      refine c_put (M := mX5_readStatement) (k := 0) dX5_readStatement_30 kF_X5_56 (by omega) rfl rfl (by decide) rfl rfl ?_
      refine g_goto (M := mX5_readStatement) (tgt := 108) dX5_readStatement_33 (by decide) ?_
      have e := (Option.some.inj h)
      subst e
      exact g_vret (M := mX5_readStatement) dX5_readStatement_108 rfl (Nat.le_of_ble_eq_true rfl) (Nat.le_of_ble_eq_true rfl) ⟨rfl, rfl⟩
    · obtain ⟨g29, h⟩ := zgi h
      refine h_if_le (M := mX5_readStatement) (tgt := 21) dX5_readStatement_13 (by decide) g29 (fun c28 => ?_) (fun c28 => ?_)
      · have h := zti c28 h
        exact j25 VTo h
      · have h := zfi (Int.not_le.mpr c28) h
        refine g_aload_n (M := mX5_readStatement) dX5_readStatement_16 1 rfl rfl ?_
        refine h_iconst (M := mX5_readStatement) dX5_readStatement_17 ?_
        refine g_ws (M := mX5_readStatement) (congrArg (fun z => zWs A n (z)) (zC_commN 6 1 rfl rfl (by omega))) ?_
        obtain ⟨t30, u31, h⟩ := zbi h
        refine g_callVr (M := mX5_readStatement) [.int (iI 4)] hX dX5_readStatement_18 vX6_fail kM_X5_48 (wX6_fail hX zC_self (by omega)  u31) qTo (zWs_at (by omega) (zC_o)) rfl ⟨(Nat.le_of_ble_eq_true rfl), (Nat.le_of_ble_eq_true rfl)⟩ ⟨(Nat.le_of_ble_eq_true rfl), (Nat.le_of_ble_eq_true rfl)⟩ (Nat.le_of_ble_eq_true rfl) ?_
        refine g_ws (M := mX5_readStatement) (congrArg (zWs A n) zC_over) ?_
        refine g_ws (M := mX5_readStatement) (congrArg (fun z => zWs A n (z)) (zC_commN 1 6 rfl rfl (by omega))) ?_
        exact j25 t30 h
set_option maxHeartbeats 4000000 in
set_option maxRecDepth 100000 in
theorem wX5_read {X : zX} (hX2 : zOK2 X) {A : Nat → Nat} {n : Nat} {S : Nat → va_E} {qRd : Nat} {VRd : CV} (hRd : isC X A shRd qRd VRd S) (bRd : qRd + 0 < n) {qTo : Nat} {VTo : CV} (hTo : isC X A shTo qTo VTo S) (bTo : qTo + 1 < n) {qB : Nat} {VB : CV} (hB : isC X A shB qB VB S) (bB : qB + 6 < n) (dRdTo : qRd + 0 < qTo ∨ qTo + 1 < qRd) (dRdB : qRd + 0 < qB ∨ qB + 6 < qRd) (dToB : qTo + 1 < qB ∨ qB + 6 < qTo) {res : CV × CV × CV × Bool} (h : fX5_read VRd VTo VB = some res) : Con X yX5_read mX5_read 6 0 0 [.ref (A qRd), .ref (A qTo), .ref (A qB)] (zWs A n S) (zRet (zWs A n (zC X A shB qB res.2.2.1 (zC X A shTo qTo res.2.1 (zC X A shRd qRd res.1 S)))) (some (.int (iI (b2 res.2.2.2))))) := by
  refine con_of (lv := [(0, .ref (A qRd)), (1, .ref (A qTo)), (2, .ref (A qB))]) (by decide) rfl (fun h => by cases h) rfl (Nat.le_of_ble_eq_true rfl) rfl ?_
  have hX := hX2.1
  refine g_ws (M := mX5_read) (congrArg (zWs A n) hRd.symm) ?_
  refine g_ws (M := mX5_read) (congrArg (zWs A n) (isC.keepN hTo 0 1 rfl rfl (by omega)).symm) ?_
  refine g_ws (M := mX5_read) (congrArg (zWs A n) (isC.keepN (isC.keepN hB 0 6 rfl rfl (by omega)) 1 6 rfl rfl (by omega)).symm) ?_
  unfold fX5_read at h
  refine g_aload_n (M := mX5_read) dX5_read_0 0 rfl rfl ?_
  refine h_iconst (M := mX5_read) dX5_read_1 ?_
  refine g_ws (M := mX5_read) (congrArg (fun z => zWs A n (zC X A shB qB VB (z))) (zC_commN 1 0 rfl rfl (by omega))) ?_
  refine g_ws (M := mX5_read) (congrArg (fun z => zWs A n (z)) (zC_commN 6 0 rfl rfl (by omega))) ?_
  refine c_put (M := mX5_read) (k := 0) dX5_read_2 kF_X5_9 (by omega) rfl rfl (by decide) rfl rfl ?_
  refine g_aload_n (M := mX5_read) dX5_read_5 2 rfl rfl ?_
  refine g_ws (M := mX5_read) (congrArg (fun z => zWs A n (z)) (zC_commN 0 6 rfl rfl (by omega))) ?_
  obtain ⟨t1, u2, h⟩ := zbi h
  refine g_callVr (M := mX5_read) [] hX dX5_read_6 vX0_empty kM_X5_15 (wX0_empty hX zC_self (by omega)  u2) qB (zWs_at (by omega) (zC_o)) rfl ⟨(Nat.le_of_ble_eq_true rfl), (Nat.le_of_ble_eq_true rfl)⟩ ⟨(Nat.le_of_ble_eq_true rfl), (Nat.le_of_ble_eq_true rfl)⟩ (Nat.le_of_ble_eq_true rfl) ?_
  refine g_ws (M := mX5_read) (congrArg (zWs A n) zC_over) ?_
  refine g_aload_n (M := mX5_read) dX5_read_9 1 rfl rfl ?_
  refine g_ws (M := mX5_read) (congrArg (fun z => zWs A n (zC X A shB qB t1 (z))) (zC_commN 0 1 rfl rfl (by omega))) ?_
  refine g_ws (M := mX5_read) (congrArg (fun z => zWs A n (z)) (zC_commN 6 1 rfl rfl (by omega))) ?_
  obtain ⟨t3, u4, h⟩ := zbi h
  refine g_callVr (M := mX5_read) [] hX dX5_read_10 vX6_begin kM_X5_20 (wX6_begin hX zC_self (by omega)  u4) qTo (zWs_at (by omega) (zC_o)) rfl ⟨(Nat.le_of_ble_eq_true rfl), (Nat.le_of_ble_eq_true rfl)⟩ ⟨(Nat.le_of_ble_eq_true rfl), (Nat.le_of_ble_eq_true rfl)⟩ (Nat.le_of_ble_eq_true rfl) ?_
  refine g_ws (M := mX5_read) (congrArg (zWs A n) zC_over) ?_
  refine h_iconst (M := mX5_read) dX5_read_13 ?_
  refine g_istore_n (M := mX5_read) (lv' := [(0, .ref (A qRd)), (1, .ref (A qTo)), (2, .ref (A qB)), (3, .int (iI 0))]) dX5_read_14 rfl (by decide) rfl ?_
  obtain ⟨x5, l5, h⟩ := zbi h
  have r5 : ∀ y5, y5 = x5 → G X mX5_read (zPm X 6 0 0 (zRet (zWs A n (zC X A shB qB res.2.2.1 (zC X A shTo qTo res.2.1 (zC X A shRd qRd res.1 S)))) (some (.int (iI (b2 res.2.2.2)))))) 0 0 54 [(1, .ref (A qTo))] [] (zWs A n (zC X A shTo qTo y5.2.2.1 (zC X A shB qB y5.2.2.2 (zC X A shRd qRd y5.2.1 S)))) := by
    intro y5 ey
    rw [← ey] at h
    refine g_aload_n (M := mX5_read) dX5_read_54 0 rfl rfl ?_
    refine k_get (M := mX5_read) (v := .int (iI (y5.2.2.1.1 6))) dX5_read_55 kF_X5_25.r qTo (by omega) (zC_o) rfl ?_
    obtain ⟨g17, h⟩ := zgi h
    refine h_if_ne (M := mX5_read) (tgt := 65) dX5_read_58 (by decide) g17 (fun c16 => ?_) (fun c16 => ?_)
    · have h := zfi c16 h
      refine h_iconst (M := mX5_read) dX5_read_65 ?_
      refine g_ws (M := mX5_read) (congrArg (fun z => zWs A n (z)) (zC_commN 1 6 rfl rfl (by omega))) ?_
      have e := (Option.some.inj h)
      subst e
      exact g_zret (M := mX5_read) .boolean dX5_read_66 rfl rfl (Nat.le_of_ble_eq_true rfl) (Nat.le_of_ble_eq_true rfl) ⟨rfl, rfl⟩
    · have h := zti c16 h
      refine h_iconst (M := mX5_read) dX5_read_61 ?_
      refine g_goto (M := mX5_read) (tgt := 66) dX5_read_62 (by decide) ?_
      refine g_ws (M := mX5_read) (congrArg (fun z => zWs A n (z)) (zC_commN 1 6 rfl rfl (by omega))) ?_
      have e := (Option.some.inj h)
      subst e
      exact g_zret (M := mX5_read) .boolean dX5_read_66 rfl rfl (Nat.le_of_ble_eq_true rfl) (Nat.le_of_ble_eq_true rfl) ⟨rfl, rfl⟩
  refine zLp_J (J := fun s5 => G X mX5_read (zPm X 6 0 0 (zRet (zWs A n (zC X A shB qB res.2.2.1 (zC X A shTo qTo res.2.1 (zC X A shRd qRd res.1 S)))) (some (.int (iI (b2 res.2.2.2)))))) 0 0 15 [(0, .ref (A qRd)), (1, .ref (A qTo)), (2, .ref (A qB)), (3, .int (iI s5.1))] [] (zWs A n (zC X A shTo qTo s5.2.2.1 (zC X A shB qB s5.2.2.2 (zC X A shRd qRd s5.2.1 S))))) (fun s5 w5 h5 b5 e5 => ?_) _ _ l5
  refine g_iload_n (M := mX5_read) dX5_read_15 3 rfl rfl ?_
  refine h_sipush (M := mX5_read) dX5_read_16 rfl ?_
  obtain ⟨g19, h5⟩ := zgi h5
  refine h_icmp_ge (M := mX5_read) (tgt := 54) dX5_read_19 (by decide) g19 (by decide) (fun c18 => ?_) (fun c18 => ?_)
  · have h5 := zti c18 h5
    refine g_lv (M := mX5_read) [1] rfl ?_
    exact r5 _ (e5 _ (Option.some.inj h5).symm)
  · have h5 := zfi (Int.not_le.mpr c18) h5
    refine g_aload_n (M := mX5_read) dX5_read_22 1 rfl rfl ?_
    refine k_get (M := mX5_read) (v := .int (iI (s5.2.2.1.1 6))) dX5_read_23 kF_X5_25.r qTo (by omega) (zC_o) rfl ?_
    obtain ⟨g21, h5⟩ := zgi h5
    refine h_if_ne (M := mX5_read) (tgt := 54) dX5_read_26 (by decide) g21 (fun c20 => ?_) (fun c20 => ?_)
    · have h5 := zfi c20 h5
      refine g_lv (M := mX5_read) [1] rfl ?_
      exact r5 _ (e5 _ (Option.some.inj h5).symm)
    · have h5 := zti c20 h5
      refine g_aload_n (M := mX5_read) dX5_read_29 1 rfl rfl ?_
      refine k_get (M := mX5_read) (v := .int (iI (s5.2.2.1.1 2))) dX5_read_30 kF_X5_28.r qTo (by omega) (zC_o) rfl ?_
      obtain ⟨g23, h5⟩ := zgi h5
      refine h_if_eq (M := mX5_read) (tgt := 54) dX5_read_33 (by decide) g23 (fun c22 => ?_) (fun c22 => ?_)
      · have h5 := zti c22 h5
        refine g_lv (M := mX5_read) [1] rfl ?_
        exact r5 _ (e5 _ (Option.some.inj h5).symm)
      · have h5 := zfi c22 h5
        refine g_aload_n (M := mX5_read) dX5_read_36 0 rfl rfl ?_
        refine g_aload_n (M := mX5_read) dX5_read_37 1 rfl rfl ?_
        refine g_aload_n (M := mX5_read) dX5_read_38 2 rfl rfl ?_
        refine g_ws (M := mX5_read) (congrArg (fun z => zWs A n (z)) (zC_commN 1 6 rfl rfl (by omega))) ?_
        obtain ⟨t24, u25, h5⟩ := zbi h5
        refine g_callVr (M := mX5_read) [.ref (A qTo), .ref (A qB)] hX dX5_read_39 vX5_readStatement kM_X5_31 (wX5_readStatement hX2 (isC.keepN (isC.keepN zC_self 1 0 rfl rfl (by omega)) 6 0 rfl rfl (by omega)) (by omega) (isC.keepN zC_self 6 1 rfl rfl (by omega)) (by omega) zC_self (by omega) (by omega) (by omega) (by omega) u25) qRd (zWs_at (by omega) ((zC_skipN 6 rfl (by omega)).trans ((zC_skipN 1 rfl (by omega)).trans (zC_o)))) rfl ⟨(Nat.le_of_ble_eq_true rfl), (Nat.le_of_ble_eq_true rfl)⟩ ⟨(Nat.le_of_ble_eq_true rfl), (Nat.le_of_ble_eq_true rfl)⟩ (Nat.le_of_ble_eq_true rfl) ?_
        refine g_ws (M := mX5_read) (congrArg (zWs A n) (zC_over3 0 1 6 rfl rfl rfl (by omega) (by omega) (by omega))) ?_
        refine g_aload_n (M := mX5_read) dX5_read_42 1 rfl rfl ?_
        refine h_bipush (M := mX5_read) dX5_read_43 rfl ?_
        refine g_ws (M := mX5_read) (congrArg (fun z => zWs A n (z)) (zC_commN 6 1 rfl rfl (by omega))) ?_
        obtain ⟨t26, u27, h5⟩ := zbi h5
        refine g_callVr (M := mX5_read) [.int (iI 59)] hX dX5_read_45 vX6_passMark kM_X5_35 (wX6_passMark hX zC_self (by omega)  u27) qTo (zWs_at (by omega) (zC_o)) rfl ⟨(Nat.le_of_ble_eq_true rfl), (Nat.le_of_ble_eq_true rfl)⟩ ⟨(Nat.le_of_ble_eq_true rfl), (Nat.le_of_ble_eq_true rfl)⟩ (Nat.le_of_ble_eq_true rfl) ?_
        refine g_ws (M := mX5_read) (congrArg (zWs A n) zC_over) ?_
        refine h_iinc (M := mX5_read) (j := 3) (lv' := [(0, .ref (A qRd)), (1, .ref (A qTo)), (2, .ref (A qB)), (3, .int (iI (s5.1 + 1)))]) dX5_read_48 rfl (Nat.le_of_ble_eq_true rfl) rfl ?_
        refine g_goto (M := mX5_read) (tgt := 15) dX5_read_51 (by decide) ?_
        exact b5 _ (Option.some.inj h5).symm
