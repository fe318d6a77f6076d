set_option maxHeartbeats 4000000 in
set_option maxRecDepth 100000 in
theorem wX8_takes {X : zX} (hX : zOK X) {A : Nat → Nat} {n : Nat} {S : Nat → va_E} {qMo : Nat} {VMo : CV} (hMo : isC X A shMo qMo VMo S) (bMo : qMo + 20 < n) {a1 : Int} {res : CV × Int} (h : fX8_takes VMo a1 = some res) : Con X yX8_takes mX8_takes 5 0 0 [.ref (A qMo), .int (iI a1)] (zWs A n S) (zRet (zWs A n (zC X A shMo qMo res.1 S)) (some (.int (iI res.2)))) := by
  refine con_of (lv := [(0, .ref (A qMo)), (1, .int (iI a1))]) (by decide) rfl (fun h => by cases h) rfl (Nat.le_of_ble_eq_true rfl) rfl ?_
  refine g_ws (M := mX8_takes) (congrArg (zWs A n) hMo.symm) ?_
  unfold fX8_takes at h
  refine g_aload_n (M := mX8_takes) dX8_takes_0 0 rfl rfl ?_
  refine g_iload_n (M := mX8_takes) dX8_takes_1 1 rfl rfl ?_
  obtain ⟨t1, u2, h⟩ := zbi h
  refine g_callVr (M := mX8_takes) [.int (iI a1)] hX dX8_takes_2 vX8_spells kM_X8_242 (wX8_spells hX zC_self (by omega)  u2) qMo (zWs_at (by omega) (zC_o)) rfl ⟨(Nat.le_of_ble_eq_true rfl), (Nat.le_of_ble_eq_true rfl)⟩ ⟨(Nat.le_of_ble_eq_true rfl), (Nat.le_of_ble_eq_true rfl)⟩ (Nat.le_of_ble_eq_true rfl) ?_
  refine g_ws (M := mX8_takes) (congrArg (zWs A n) zC_over) ?_
  refine g_aload_n (M := mX8_takes) dX8_takes_5 0 rfl rfl ?_
  obtain ⟨t3, u4, h⟩ := zbi h
  refine g_callVr (M := mX8_takes) [] hX dX8_takes_6 vX8_haves kM_X8_274 (wX8_haves hX zC_self (by omega)  u4) qMo (zWs_at (by omega) (zC_o)) rfl ⟨(Nat.le_of_ble_eq_true rfl), (Nat.le_of_ble_eq_true rfl)⟩ ⟨(Nat.le_of_ble_eq_true rfl), (Nat.le_of_ble_eq_true rfl)⟩ (Nat.le_of_ble_eq_true rfl) ?_
  refine g_istore_n (M := mX8_takes) (lv' := [(0, .ref (A qMo)), (1, .int (iI a1)), (2, .int (iI t3))]) dX8_takes_9 rfl (by decide) rfl ?_
  refine h_iconst (M := mX8_takes) dX8_takes_10 ?_
  refine g_istore_n (M := mX8_takes) (lv' := [(0, .ref (A qMo)), (1, .int (iI a1)), (2, .int (iI t3)), (3, .int (iI 0))]) dX8_takes_11 rfl (by decide) rfl ?_
  obtain ⟨x5, l5, h⟩ := zbi h
  have r5 : ∀ y5, y5 = x5 → G X mX8_takes (zPm X 5 0 0 (zRet (zWs A n (zC X A shMo qMo res.1 S)) (some (.int (iI res.2))))) 0 0 124 [(0, .ref (A qMo)), (1, .int (iI a1)), (2, .int (iI t3))] [] (zWs A n (zC X A shMo qMo y5.2 S)) := by
    intro y5 ey
    rw [← ey] at h
    refine g_aload_n (M := mX8_takes) dX8_takes_124 0 rfl rfl ?_
    refine k_get (M := mX8_takes) (v := .ref (A (qMo + 2))) dX8_takes_125 kF_X8_20.r qMo (by omega) (zC_o) rfl ?_
    refine h_iconst (M := mX8_takes) dX8_takes_128 ?_
    refine g_aload_n (M := mX8_takes) dX8_takes_129 0 rfl rfl ?_
    refine k_get (M := mX8_takes) (v := .ref (A (qMo + 2))) dX8_takes_130 kF_X8_20.r qMo (by omega) (zC_o) rfl ?_
    refine h_iconst (M := mX8_takes) dX8_takes_133 ?_
    refine k_iald (M := mX8_takes) (len := 351) (f := y5.2.2 2) dX8_takes_134 (qMo + 2) (by omega) (zC_a (d := (0, 351)) 1 rfl) (Nat.le_of_ble_eq_true rfl) (by decide) (by decide) ?_
    refine h_iadd (M := mX8_takes) dX8_takes_135 ?_
    refine g_iload_n (M := mX8_takes) dX8_takes_136 1 rfl rfl ?_
    obtain ⟨g49, h⟩ := zgi h
    refine c_iast (M := mX8_takes) (len := 351) (d := (0, 351)) dX8_takes_137 1 rfl rfl (by omega) (Nat.le_of_ble_eq_true rfl) g49.1 g49.2 ?_
    refine g_aload_n (M := mX8_takes) dX8_takes_138 0 rfl rfl ?_
    refine k_get (M := mX8_takes) (v := .ref (A (qMo + 2))) dX8_takes_139 kF_X8_20.r qMo (by omega) (zC_o) rfl ?_
    refine h_iconst (M := mX8_takes) dX8_takes_142 ?_
    refine g_dup2_11 (M := mX8_takes) dX8_takes_143 rfl rfl ?_
    refine k_iald (M := mX8_takes) (len := 351) (f := (zup (y5.2.2 2) (5 + (y5.2.2 2 4)) a1)) dX8_takes_144 (qMo + 2) (by omega) (zC_a (d := (0, 351)) 1 rfl) (Nat.le_of_ble_eq_true rfl) (by decide) (by decide) ?_
    refine h_iconst (M := mX8_takes) dX8_takes_145 ?_
    refine h_iadd (M := mX8_takes) dX8_takes_146 ?_
    refine c_iast (M := mX8_takes) (len := 351) (d := (0, 351)) dX8_takes_147 1 rfl rfl (by omega) (Nat.le_of_ble_eq_true rfl) (by decide) (by decide) ?_
    refine g_iload_n (M := mX8_takes) dX8_takes_148 2 rfl rfl ?_
    obtain ⟨t50, u51, h⟩ := zbi h
    refine g_callSr (M := mX8_takes) [.int (iI t3)] hX dX8_takes_149 vX8_ones kM_X8_253 (wX8_ones hX   u51) rfl ⟨(Nat.le_of_ble_eq_true rfl), (Nat.le_of_ble_eq_true rfl)⟩ ⟨(Nat.le_of_ble_eq_true rfl), (Nat.le_of_ble_eq_true rfl)⟩ (Nat.le_of_ble_eq_true rfl) ?_
    have e := (Option.some.inj h)
    subst e
    exact g_iret (M := mX8_takes) dX8_takes_152 rfl (Nat.le_of_ble_eq_true rfl) (Nat.le_of_ble_eq_true rfl) ⟨rfl, rfl⟩
  refine zLp_J (J := fun s5 => G X mX8_takes (zPm X 5 0 0 (zRet (zWs A n (zC X A shMo qMo res.1 S)) (some (.int (iI res.2))))) 0 0 12 [(0, .ref (A qMo)), (1, .int (iI a1)), (2, .int (iI t3)), (3, .int (iI s5.1))] [] (zWs A n (zC X A shMo qMo s5.2 S))) (fun s5 w5 h5 b5 e5 => ?_) _ _ l5
  refine g_iload_n (M := mX8_takes) dX8_takes_12 3 rfl rfl ?_
  refine g_aload_n (M := mX8_takes) dX8_takes_13 0 rfl rfl ?_
  refine k_get (M := mX8_takes) (v := .ref (A (qMo + 2))) dX8_takes_14 kF_X8_20.r qMo (by omega) (zC_o) rfl ?_
  refine h_iconst (M := mX8_takes) dX8_takes_17 ?_
  refine k_iald (M := mX8_takes) (len := 351) (f := s5.2.2 2) dX8_takes_18 (qMo + 2) (by omega) (zC_a (d := (0, 351)) 1 rfl) (Nat.le_of_ble_eq_true rfl) (by decide) (by decide) ?_
  obtain ⟨g53, h5⟩ := zgi h5
  refine h_icmp_ge (M := mX8_takes) (tgt := 124) dX8_takes_19 (by decide) g53.1 g53.2 (fun c52 => ?_) (fun c52 => ?_)
  · have h5 := zti c52 h5
    refine g_lv (M := mX8_takes) [0, 1, 2] rfl ?_
    exact r5 _ (e5 _ (Option.some.inj h5).symm)
  · have h5 := zfi (Int.not_le.mpr c52) h5
    refine g_iload_n (M := mX8_takes) dX8_takes_22 2 rfl rfl ?_
    refine g_iload_n (M := mX8_takes) dX8_takes_23 3 rfl rfl ?_
    obtain ⟨t54, u55, h5⟩ := zbi h5
    refine g_callSr (M := mX8_takes) [.int (iI t3), .int (iI s5.1)] hX dX8_takes_24 vX8_hasBit kM_X8_186 (wX8_hasBit hX   u55) rfl ⟨(Nat.le_of_ble_eq_true rfl), (Nat.le_of_ble_eq_true rfl)⟩ ⟨(Nat.le_of_ble_eq_true rfl), (Nat.le_of_ble_eq_true rfl)⟩ (Nat.le_of_ble_eq_true rfl) ?_
    refine zJn_J (J := fun x59 => G X mX8_takes (zPm X 5 0 0 (zRet (zWs A n (zC X A shMo qMo res.1 S)) (some (.int (iI res.2))))) 0 0 39 [(0, .ref (A qMo)), (1, .int (iI a1)), (2, .int (iI t3)), (3, .int (iI s5.1))] [.int (iI x59)] (zWs A n (zC X A shMo qMo s5.2 S))) h5 (fun x59 h5 => ?_) (fun j59 h5 => ?_)
    · refine g_istore (M := mX8_takes) (lv' := [(0, .ref (A qMo)), (1, .int (iI a1)), (2, .int (iI t3)), (3, .int (iI s5.1)), (4, .int (iI x59))]) dX8_takes_39 (by decide) rfl ?_
      refine h_iconst (M := mX8_takes) dX8_takes_41 ?_
      refine g_istore (M := mX8_takes) (lv' := [(0, .ref (A qMo)), (1, .int (iI a1)), (2, .int (iI t3)), (3, .int (iI s5.1)), (4, .int (iI x59)), (5, .int (iI 0))]) dX8_takes_42 (by decide) rfl ?_
      obtain ⟨x60, l60, h5⟩ := zbi h5
      have r60 : ∀ y60, y60 = x60 → G X mX8_takes (zPm X 5 0 0 (zRet (zWs A n (zC X A shMo qMo res.1 S)) (some (.int (iI res.2))))) 0 0 87 [(0, .ref (A qMo)), (1, .int (iI a1)), (2, .int (iI t3)), (3, .int (iI s5.1))] [] (zWs A n (zC X A shMo qMo y60.2 S)) := by
        intro y60 ey
        rw [← ey] at h5
        refine g_aload_n (M := mX8_takes) dX8_takes_87 0 rfl rfl ?_
        refine g_iload_n (M := mX8_takes) dX8_takes_88 3 rfl rfl ?_
        refine h_iconst (M := mX8_takes) dX8_takes_89 ?_
        obtain ⟨t71, u72, h5⟩ := zbi h5
        refine g_callVr (M := mX8_takes) [.int (iI s5.1), .int (iI 1)] hX dX8_takes_90 vX8_of kM_X8_166 (wX8_of hX zC_self (by omega)  u72) qMo (zWs_at (by omega) (zC_o)) rfl ⟨(Nat.le_of_ble_eq_true rfl), (Nat.le_of_ble_eq_true rfl)⟩ ⟨(Nat.le_of_ble_eq_true rfl), (Nat.le_of_ble_eq_true rfl)⟩ (Nat.le_of_ble_eq_true rfl) ?_
        refine h_iconst (M := mX8_takes) dX8_takes_93 ?_
        obtain ⟨g74, h5⟩ := zgi h5
        refine h_icmp_eq (M := mX8_takes) (tgt := 118) dX8_takes_94 (by decide) g74 (by decide) (fun c73 => ?_) (fun c73 => ?_)
        · have h5 := zti c73 h5
          refine h_iinc (M := mX8_takes) (j := 3) (lv' := [(0, .ref (A qMo)), (1, .int (iI a1)), (2, .int (iI t3)), (3, .int (iI (s5.1 + 1)))]) dX8_takes_118 rfl (Nat.le_of_ble_eq_true rfl) rfl ?_
          refine g_goto (M := mX8_takes) (tgt := 12) dX8_takes_121 (by decide) ?_
          exact b5 _ (Option.some.inj h5).symm
        · have h5 := zfi c73 h5
          refine g_aload_n (M := mX8_takes) dX8_takes_97 0 rfl rfl ?_
          refine g_iload_n (M := mX8_takes) dX8_takes_98 3 rfl rfl ?_
          refine g_aload_n (M := mX8_takes) dX8_takes_99 0 rfl rfl ?_
          refine g_iload_n (M := mX8_takes) dX8_takes_100 3 rfl rfl ?_
          refine h_iconst (M := mX8_takes) dX8_takes_101 ?_
          obtain ⟨t75, u76, h5⟩ := zbi h5
          refine g_callVr (M := mX8_takes) [.int (iI s5.1), .int (iI 1)] hX dX8_takes_102 vX8_of kM_X8_166 (wX8_of hX zC_self (by omega)  u76) qMo (zWs_at (by omega) (zC_o)) rfl ⟨(Nat.le_of_ble_eq_true rfl), (Nat.le_of_ble_eq_true rfl)⟩ ⟨(Nat.le_of_ble_eq_true rfl), (Nat.le_of_ble_eq_true rfl)⟩ (Nat.le_of_ble_eq_true rfl) ?_
          obtain ⟨t77, u78, h5⟩ := zbi h5
          refine g_callVr (M := mX8_takes) [.int (iI s5.1), .int (iI t75)] hX dX8_takes_105 vX8_isPlace kM_X8_229 (wX8_isPlace hX zC_self (by omega)  u78) qMo (zWs_at (by omega) (zC_o)) rfl ⟨(Nat.le_of_ble_eq_true rfl), (Nat.le_of_ble_eq_true rfl)⟩ ⟨(Nat.le_of_ble_eq_true rfl), (Nat.le_of_ble_eq_true rfl)⟩ (Nat.le_of_ble_eq_true rfl) ?_
          refine h_bne (M := mX8_takes) (tgt := 118) dX8_takes_108 (by decide) (fun c79 => ?_) (fun c79 => ?_)
          · have h5 := zti c79 h5
            refine h_iinc (M := mX8_takes) (j := 3) (lv' := [(0, .ref (A qMo)), (1, .int (iI a1)), (2, .int (iI t3)), (3, .int (iI (s5.1 + 1)))]) dX8_takes_118 rfl (Nat.le_of_ble_eq_true rfl) rfl ?_
            refine g_goto (M := mX8_takes) (tgt := 12) dX8_takes_121 (by decide) ?_
            exact b5 _ (Option.some.inj h5).symm
          · have h5 := zfi (zbf c79) h5
            refine g_aload_n (M := mX8_takes) dX8_takes_111 0 rfl rfl ?_
            refine g_iload_n (M := mX8_takes) dX8_takes_112 3 rfl rfl ?_
            refine h_iconst (M := mX8_takes) dX8_takes_113 ?_
            refine h_iconst (M := mX8_takes) dX8_takes_114 ?_
            obtain ⟨t80, u81, h5⟩ := zbi h5
            refine g_callVr (M := mX8_takes) [.int (iI s5.1), .int (iI 1), .int (iI (-1))] hX dX8_takes_115 vX8_lays kM_X8_179 (wX8_lays hX zC_self (by omega)  u81) qMo (zWs_at (by omega) (zC_o)) rfl ⟨(Nat.le_of_ble_eq_true rfl), (Nat.le_of_ble_eq_true rfl)⟩ ⟨(Nat.le_of_ble_eq_true rfl), (Nat.le_of_ble_eq_true rfl)⟩ (Nat.le_of_ble_eq_true rfl) ?_
            refine g_ws (M := mX8_takes) (congrArg (zWs A n) zC_over) ?_
            refine h_iinc (M := mX8_takes) (j := 3) (lv' := [(0, .ref (A qMo)), (1, .int (iI a1)), (2, .int (iI t3)), (3, .int (iI (s5.1 + 1)))]) dX8_takes_118 rfl (Nat.le_of_ble_eq_true rfl) rfl ?_
            refine g_goto (M := mX8_takes) (tgt := 12) dX8_takes_121 (by decide) ?_
            exact b5 _ (Option.some.inj h5).symm
      refine zLp_J (J := fun s60 => G X mX8_takes (zPm X 5 0 0 (zRet (zWs A n (zC X A shMo qMo res.1 S)) (some (.int (iI res.2))))) 0 0 44 [(0, .ref (A qMo)), (1, .int (iI a1)), (2, .int (iI t3)), (3, .int (iI s5.1)), (4, .int (iI x59)), (5, .int (iI s60.1))] [] (zWs A n (zC X A shMo qMo s60.2 S))) (fun s60 w60 h60 b60 e60 => ?_) _ _ l60
      refine g_iload (M := mX8_takes) dX8_takes_44 5 rfl ?_
      refine g_aload_n (M := mX8_takes) dX8_takes_46 0 rfl rfl ?_
      refine k_get (M := mX8_takes) (v := .ref (A (qMo + 2))) dX8_takes_47 kF_X8_20.r qMo (by omega) (zC_o) rfl ?_
      refine h_iconst (M := mX8_takes) dX8_takes_50 ?_
      refine k_iald (M := mX8_takes) (len := 351) (f := s60.2.2 2) dX8_takes_51 (qMo + 2) (by omega) (zC_a (d := (0, 351)) 1 rfl) (Nat.le_of_ble_eq_true rfl) (by decide) (by decide) ?_
      obtain ⟨g83, h60⟩ := zgi h60
      refine h_icmp_ge (M := mX8_takes) (tgt := 87) dX8_takes_52 (by decide) g83.1 g83.2 (fun c82 => ?_) (fun c82 => ?_)
      · have h60 := zti c82 h60
        refine g_lv (M := mX8_takes) [0, 1, 2, 3] rfl ?_
        exact r60 _ (e60 _ (Option.some.inj h60).symm)
      · have h60 := zfi (Int.not_le.mpr c82) h60
        refine g_iload (M := mX8_takes) dX8_takes_55 4 rfl ?_
        refine h_iconst (M := mX8_takes) dX8_takes_57 ?_
        obtain ⟨g85, h60⟩ := zgi h60
        refine h_icmp_eq (M := mX8_takes) (tgt := 87) dX8_takes_58 (by decide) g85 (by decide) (fun c84 => ?_) (fun c84 => ?_)
        · have h60 := zti c84 h60
          refine g_lv (M := mX8_takes) [0, 1, 2, 3] rfl ?_
          exact r60 _ (e60 _ (Option.some.inj h60).symm)
        · have h60 := zfi c84 h60
          refine g_aload_n (M := mX8_takes) dX8_takes_61 0 rfl rfl ?_
          refine g_iload_n (M := mX8_takes) dX8_takes_62 3 rfl rfl ?_
          refine h_iconst (M := mX8_takes) dX8_takes_63 ?_
          refine g_aload_n (M := mX8_takes) dX8_takes_64 0 rfl rfl ?_
          refine g_iload_n (M := mX8_takes) dX8_takes_65 3 rfl rfl ?_
          refine h_iconst (M := mX8_takes) dX8_takes_66 ?_
          obtain ⟨t86, u87, h60⟩ := zbi h60
          refine g_callVr (M := mX8_takes) [.int (iI s5.1), .int (iI 3)] hX dX8_takes_67 vX8_of kM_X8_166 (wX8_of hX zC_self (by omega)  u87) qMo (zWs_at (by omega) (zC_o)) rfl ⟨(Nat.le_of_ble_eq_true rfl), (Nat.le_of_ble_eq_true rfl)⟩ ⟨(Nat.le_of_ble_eq_true rfl), (Nat.le_of_ble_eq_true rfl)⟩ (Nat.le_of_ble_eq_true rfl) ?_
          refine h_iconst (M := mX8_takes) dX8_takes_70 ?_
          refine g_iload (M := mX8_takes) dX8_takes_71 4 rfl ?_
          refine g_iload (M := mX8_takes) dX8_takes_73 5 rfl ?_
          refine h_iadd (M := mX8_takes) dX8_takes_75 ?_
          obtain ⟨g88, h60⟩ := zgi h60
          refine g_ishl (M := mX8_takes) dX8_takes_76 ?_
          refine h_topx (M := mX8_takes) (b := zP2 (x59 + s60.1)) (iI_shl1 g88.1 g88.2) ?_
          obtain ⟨g89, h60⟩ := zgi h60
          refine g_ior (M := mX8_takes) dX8_takes_77 ?_
          refine h_topx (M := mX8_takes) (b := zOr t86 (zP2 (x59 + s60.1))) (iI_or g89.1 g89.2) ?_
          obtain ⟨t90, u91, h60⟩ := zbi h60
          refine g_callVr (M := mX8_takes) [.int (iI s5.1), .int (iI 3), .int (iI (zOr t86 (zP2 (x59 + s60.1))))] hX dX8_takes_78 vX8_lays kM_X8_179 (wX8_lays hX zC_self (by omega)  u91) qMo (zWs_at (by omega) (zC_o)) rfl ⟨(Nat.le_of_ble_eq_true rfl), (Nat.le_of_ble_eq_true rfl)⟩ ⟨(Nat.le_of_ble_eq_true rfl), (Nat.le_of_ble_eq_true rfl)⟩ (Nat.le_of_ble_eq_true rfl) ?_
          refine g_ws (M := mX8_takes) (congrArg (zWs A n) zC_over) ?_
          refine h_iinc (M := mX8_takes) (j := 5) (lv' := [(0, .ref (A qMo)), (1, .int (iI a1)), (2, .int (iI t3)), (3, .int (iI s5.1)), (4, .int (iI x59)), (5, .int (iI (s60.1 + 1)))]) dX8_takes_81 rfl (Nat.le_of_ble_eq_true rfl) rfl ?_
          refine g_goto (M := mX8_takes) (tgt := 44) dX8_takes_84 (by decide) ?_
          exact b60 _ (Option.some.inj h60).symm
    · refine h_beq (M := mX8_takes) (tgt := 38) dX8_takes_27 (by decide) (fun c92 => ?_) (fun c92 => ?_)
      · have h5 := zfi (zbf c92) h5
        refine h_iconst (M := mX8_takes) dX8_takes_38 ?_
        exact j59 (-1) h5
      · have h5 := zti c92 h5
        refine g_aload_n (M := mX8_takes) dX8_takes_30 0 rfl rfl ?_
        refine g_iload_n (M := mX8_takes) dX8_takes_31 3 rfl rfl ?_
        obtain ⟨t93, u94, h5⟩ := zbi h5
        refine g_callVr (M := mX8_takes) [.int (iI s5.1)] hX dX8_takes_32 vX8_nearest kM_X8_277 (wX8_nearest hX zC_self (by omega)  u94) qMo (zWs_at (by omega) (zC_o)) rfl ⟨(Nat.le_of_ble_eq_true rfl), (Nat.le_of_ble_eq_true rfl)⟩ ⟨(Nat.le_of_ble_eq_true rfl), (Nat.le_of_ble_eq_true rfl)⟩ (Nat.le_of_ble_eq_true rfl) ?_
        refine g_goto (M := mX8_takes) (tgt := 39) dX8_takes_35 (by decide) ?_
        exact j59 t93 h5
set_option maxHeartbeats 4000000 in
set_option maxRecDepth 100000 in
theorem wX8_setsOut {X : zX} (hX : zOK X) {A : Nat → Nat} {n : Nat} {S : Nat → va_E} {qMo : Nat} {VMo : CV} (hMo : isC X A shMo qMo VMo S) (bMo : qMo + 20 < n) {a1 : Int} {a2 : Int} {res : CV × Int} (h : fX8_setsOut VMo a1 a2 = some res) : Con X yX8_setsOut mX8_setsOut 1 0 0 [.ref (A qMo), .int (iI a1), .int (iI a2)] (zWs A n S) (zRet (zWs A n (zC X A shMo qMo res.1 S)) (some (.int (iI res.2)))) := by
  refine con_of (lv := [(0, .ref (A qMo)), (1, .int (iI a1)), (2, .int (iI a2))]) (by decide) rfl (fun h => by cases h) rfl (Nat.le_of_ble_eq_true rfl) rfl ?_
  refine g_ws (M := mX8_setsOut) (congrArg (zWs A n) hMo.symm) ?_
  unfold fX8_setsOut at h
  refine g_aload_n (M := mX8_setsOut) dX8_setsOut_0 0 rfl rfl ?_
  refine g_iload_n (M := mX8_setsOut) dX8_setsOut_1 1 rfl rfl ?_
  refine h_iconst (M := mX8_setsOut) dX8_setsOut_2 ?_
  refine g_iload_n (M := mX8_setsOut) dX8_setsOut_3 2 rfl rfl ?_
  obtain ⟨t1, u2, h⟩ := zbi h
  refine g_callSr (M := mX8_setsOut) [.int (iI a2)] hX dX8_setsOut_4 vX8_truth kM_X8_84 (wX8_truth hX   u2) rfl ⟨(Nat.le_of_ble_eq_true rfl), (Nat.le_of_ble_eq_true rfl)⟩ ⟨(Nat.le_of_ble_eq_true rfl), (Nat.le_of_ble_eq_true rfl)⟩ (Nat.le_of_ble_eq_true rfl) ?_
  obtain ⟨t3, u4, h⟩ := zbi h
  refine g_callVr (M := mX8_setsOut) [.int (iI a1), .int (iI 2), .int (iI t1)] hX dX8_setsOut_7 vX8_lays kM_X8_179 (wX8_lays hX zC_self (by omega)  u4) qMo (zWs_at (by omega) (zC_o)) rfl ⟨(Nat.le_of_ble_eq_true rfl), (Nat.le_of_ble_eq_true rfl)⟩ ⟨(Nat.le_of_ble_eq_true rfl), (Nat.le_of_ble_eq_true rfl)⟩ (Nat.le_of_ble_eq_true rfl) ?_
  refine g_ws (M := mX8_setsOut) (congrArg (zWs A n) zC_over) ?_
  refine g_iload_n (M := mX8_setsOut) dX8_setsOut_10 2 rfl rfl ?_
  refine zJn_J (J := fun x9 => G X mX8_setsOut (zPm X 1 0 0 (zRet (zWs A n (zC X A shMo qMo res.1 S)) (some (.int (iI res.2))))) 0 0 21 [(0, .ref (A qMo))] [] (zWs A n (zC X A shMo qMo x9 S))) h (fun x9 h => ?_) (fun j9 h => ?_)
  · refine h_iconst (M := mX8_setsOut) dX8_setsOut_21 ?_
    refine g_istore_n (M := mX8_setsOut) (lv' := [(0, .ref (A qMo)), (3, .int (iI 0))]) dX8_setsOut_22 rfl (by decide) rfl ?_
    refine h_iconst (M := mX8_setsOut) dX8_setsOut_23 ?_
    refine g_istore (M := mX8_setsOut) (lv' := [(0, .ref (A qMo)), (3, .int (iI 0)), (4, .int (iI 0))]) dX8_setsOut_24 (by decide) rfl ?_
    obtain ⟨x10, l10, h⟩ := zbi h
    have r10 : ∀ y10, y10 = x10 → G X mX8_setsOut (zPm X 1 0 0 (zRet (zWs A n (zC X A shMo qMo res.1 S)) (some (.int (iI res.2))))) 0 0 53 [(3, .int (iI y10.1))] [] (zWs A n (zC X A shMo qMo x9 S)) := by
      intro y10 ey
      rw [← ey] at h
      refine g_iload_n (M := mX8_setsOut) dX8_setsOut_53 0 rfl rfl ?_
      have e := (Option.some.inj h)
      subst e
      exact g_iret (M := mX8_setsOut) dX8_setsOut_54 rfl (Nat.le_of_ble_eq_true rfl) (Nat.le_of_ble_eq_true rfl) ⟨rfl, rfl⟩
    refine zLp_J (J := fun s10 => G X mX8_setsOut (zPm X 1 0 0 (zRet (zWs A n (zC X A shMo qMo res.1 S)) (some (.int (iI res.2))))) 0 0 26 [(0, .ref (A qMo)), (3, .int (iI s10.1)), (4, .int (iI s10.2))] [] (zWs A n (zC X A shMo qMo x9 S))) (fun s10 w10 h10 b10 e10 => ?_) _ _ l10
    refine g_iload (M := mX8_setsOut) dX8_setsOut_26 2 rfl ?_
    refine g_aload_n (M := mX8_setsOut) dX8_setsOut_28 0 rfl rfl ?_
    refine k_get (M := mX8_setsOut) (v := .ref (A (qMo + 2))) dX8_setsOut_29 kF_X8_20.r qMo (by omega) (zC_o) rfl ?_
    refine h_iconst (M := mX8_setsOut) dX8_setsOut_32 ?_
    refine k_iald (M := mX8_setsOut) (len := 351) (f := x9.2 2) dX8_setsOut_33 (qMo + 2) (by omega) (zC_a (d := (0, 351)) 1 rfl) (Nat.le_of_ble_eq_true rfl) (by decide) (by decide) ?_
    obtain ⟨g16, h10⟩ := zgi h10
    refine h_icmp_ge (M := mX8_setsOut) (tgt := 53) dX8_setsOut_34 (by decide) g16.1 g16.2 (fun c15 => ?_) (fun c15 => ?_)
    · have h10 := zti c15 h10
      refine g_lv (M := mX8_setsOut) [1] rfl ?_
      exact r10 _ (e10 _ (Option.some.inj h10).symm)
    · have h10 := zfi (Int.not_le.mpr c15) h10
      refine g_iload_n (M := mX8_setsOut) dX8_setsOut_37 1 rfl rfl ?_
      refine g_aload_n (M := mX8_setsOut) dX8_setsOut_38 0 rfl rfl ?_
      refine g_iload (M := mX8_setsOut) dX8_setsOut_39 2 rfl ?_
      refine h_iconst (M := mX8_setsOut) dX8_setsOut_41 ?_
      obtain ⟨t17, u18, h10⟩ := zbi h10
      refine g_callVr (M := mX8_setsOut) [.int (iI s10.2), .int (iI 2)] hX dX8_setsOut_42 vX8_of kM_X8_166 (wX8_of hX zC_self (by omega)  u18) qMo (zWs_at (by omega) (zC_o)) rfl ⟨(Nat.le_of_ble_eq_true rfl), (Nat.le_of_ble_eq_true rfl)⟩ ⟨(Nat.le_of_ble_eq_true rfl), (Nat.le_of_ble_eq_true rfl)⟩ (Nat.le_of_ble_eq_true rfl) ?_
      refine h_iadd (M := mX8_setsOut) dX8_setsOut_45 ?_
      refine g_istore_n (M := mX8_setsOut) (lv' := [(0, .ref (A qMo)), (3, .int (iI (s10.1 + t17))), (4, .int (iI s10.2))]) dX8_setsOut_46 rfl (by decide) rfl ?_
      refine h_iinc (M := mX8_setsOut) (j := 2) (lv' := [(0, .ref (A qMo)), (3, .int (iI (s10.1 + t17))), (4, .int (iI (s10.2 + 1)))]) dX8_setsOut_47 rfl (Nat.le_of_ble_eq_true rfl) rfl ?_
      refine g_goto (M := mX8_setsOut) (tgt := 26) dX8_setsOut_50 (by decide) ?_
      exact b10 _ (Option.some.inj h10).symm
  · obtain ⟨g20, h⟩ := zgi h
    refine h_if_eq (M := mX8_setsOut) (tgt := 21) dX8_setsOut_11 (by decide) g20 (fun c19 => ?_) (fun c19 => ?_)
    · have h := zti c19 h
      refine g_lv (M := mX8_setsOut) [0] rfl ?_
      exact j9 t3 h
    · have h := zfi c19 h
      refine g_aload_n (M := mX8_setsOut) dX8_setsOut_14 0 rfl rfl ?_
      refine g_iload_n (M := mX8_setsOut) dX8_setsOut_15 1 rfl rfl ?_
      refine h_iconst (M := mX8_setsOut) dX8_setsOut_16 ?_
      refine h_iconst (M := mX8_setsOut) dX8_setsOut_17 ?_
      obtain ⟨t21, u22, h⟩ := zbi h
      refine g_callVr (M := mX8_setsOut) [.int (iI a1), .int (iI 1), .int (iI (-1))] hX dX8_setsOut_18 vX8_lays kM_X8_179 (wX8_lays hX zC_self (by omega)  u22) qMo (zWs_at (by omega) (zC_o)) rfl ⟨(Nat.le_of_ble_eq_true rfl), (Nat.le_of_ble_eq_true rfl)⟩ ⟨(Nat.le_of_ble_eq_true rfl), (Nat.le_of_ble_eq_true rfl)⟩ (Nat.le_of_ble_eq_true rfl) ?_
      refine g_ws (M := mX8_setsOut) (congrArg (zWs A n) zC_over) ?_
      refine g_lv (M := mX8_setsOut) [0] rfl ?_
      exact j9 t21 h
set_option maxHeartbeats 4000000 in
set_option maxRecDepth 100000 in
theorem wX8_setsChanges {X : zX} (hX : zOK X) {A : Nat → Nat} {n : Nat} {S : Nat → va_E} {qMo : Nat} {VMo : CV} (hMo : isC X A shMo qMo VMo S) (bMo : qMo + 20 < n) {a1 : Int} {res : CV × Int} (h : fX8_setsChanges VMo a1 = some res) : Con X yX8_setsChanges mX8_setsChanges 0 0 0 [.ref (A qMo), .int (iI a1)] (zWs A n S) (zRet (zWs A n (zC X A shMo qMo res.1 S)) (some (.int (iI res.2)))) := by
  refine con_of (lv := [(0, .ref (A qMo)), (1, .int (iI a1))]) (by decide) rfl (fun h => by cases h) rfl (Nat.le_of_ble_eq_true rfl) rfl ?_
  refine g_ws (M := mX8_setsChanges) (congrArg (zWs A n) hMo.symm) ?_
  unfold fX8_setsChanges at h
  refine g_aload_n (M := mX8_setsChanges) dX8_setsChanges_0 0 rfl rfl ?_
  refine k_get (M := mX8_setsChanges) (v := .ref (A (qMo + 2))) dX8_setsChanges_1 kF_X8_20.r qMo (by omega) (zC_o) rfl ?_
  refine h_iconst (M := mX8_setsChanges) dX8_setsChanges_4 ?_
  refine k_iald (M := mX8_setsChanges) (len := 351) (f := VMo.2 2) dX8_setsChanges_5 (qMo + 2) (by omega) (zC_a (d := (0, 351)) 1 rfl) (Nat.le_of_ble_eq_true rfl) (by decide) (by decide) ?_
  refine g_istore_n (M := mX8_setsChanges) (lv' := [(0, .ref (A qMo)), (1, .int (iI a1)), (2, .int (iI (VMo.2 2 3)))]) dX8_setsChanges_6 rfl (by decide) rfl ?_
  refine g_aload_n (M := mX8_setsChanges) dX8_setsChanges_7 0 rfl rfl ?_
  refine k_get (M := mX8_setsChanges) (v := .ref (A (qMo + 2))) dX8_setsChanges_8 kF_X8_20.r qMo (by omega) (zC_o) rfl ?_
  refine h_iconst (M := mX8_setsChanges) dX8_setsChanges_11 ?_
  refine g_iload_n (M := mX8_setsChanges) dX8_setsChanges_12 1 rfl rfl ?_
  refine c_iast (M := mX8_setsChanges) (len := 351) (d := (0, 351)) dX8_setsChanges_13 1 rfl rfl (by omega) (Nat.le_of_ble_eq_true rfl) (by decide) (by decide) ?_
  refine g_iload_n (M := mX8_setsChanges) dX8_setsChanges_14 2 rfl rfl ?_
  have e := (Option.some.inj h)
  subst e
  exact g_iret (M := mX8_setsChanges) dX8_setsChanges_15 rfl (Nat.le_of_ble_eq_true rfl) (Nat.le_of_ble_eq_true rfl) ⟨rfl, rfl⟩
set_option maxHeartbeats 4000000 in
set_option maxRecDepth 100000 in
theorem wX8_does {X : zX} (hX : zOK X) {A : Nat → Nat} {n : Nat} {S : Nat → va_E} {qMo : Nat} {VMo : CV} (hMo : isC X A shMo qMo VMo S) (bMo : qMo + 20 < n) {a1 : Int} {a2 : Int} {a3 : Int} {res : CV × Bool} (h : fX8_does VMo a1 a2 a3 = some res) : Con X yX8_does mX8_does 7 0 0 [.ref (A qMo), .int (iI a1), .int (iI a2), .int (iI a3)] (zWs A n S) (zRet (zWs A n (zC X A shMo qMo res.1 S)) (some (.int (iI (b2 res.2))))) := by
  refine con_of (lv := [(0, .ref (A qMo)), (1, .int (iI a1)), (2, .int (iI a2)), (3, .int (iI a3))]) (by decide) rfl (fun h => by cases h) rfl (Nat.le_of_ble_eq_true rfl) rfl ?_
  refine g_ws (M := mX8_does) (congrArg (zWs A n) hMo.symm) ?_
  unfold fX8_does at h
  refine g_aload_n (M := mX8_does) dX8_does_0 0 rfl rfl ?_
  refine g_iload_n (M := mX8_does) dX8_does_1 1 rfl rfl ?_
  refine g_iload_n (M := mX8_does) dX8_does_2 2 rfl rfl ?_
  refine g_iload_n (M := mX8_does) dX8_does_3 3 rfl rfl ?_
  obtain ⟨t1, u2, h⟩ := zbi h
  refine g_callVr (M := mX8_does) [.int (iI a1), .int (iI a2), .int (iI a3)] hX dX8_does_4 vX8_may kM_X8_430 (wX8_may hX zC_self (by omega)  u2) qMo (zWs_at (by omega) (zC_o)) rfl ⟨(Nat.le_of_ble_eq_true rfl), (Nat.le_of_ble_eq_true rfl)⟩ ⟨(Nat.le_of_ble_eq_true rfl), (Nat.le_of_ble_eq_true rfl)⟩ (Nat.le_of_ble_eq_true rfl) ?_
  refine g_ws (M := mX8_does) (congrArg (zWs A n) zC_over) ?_
  refine h_bne (M := mX8_does) (tgt := 12) dX8_does_7 (by decide) (fun c3 => ?_) (fun c3 => ?_)
  · have h := zti c3 h
    refine g_iload_n (M := mX8_does) dX8_does_12 1 rfl rfl ?_
    refine zJn_J (J := fun x8 => G X mX8_does (zPm X 7 0 0 (zRet (zWs A n (zC X A shMo qMo res.1 S)) (some (.int (iI (b2 res.2)))))) 0 0 26 [(0, .ref (A qMo)), (1, .int (iI a1)), (2, .int (iI a2))] [] (zWs A n (zC X A shMo qMo x8 S))) h (fun x8 h => ?_) (fun j8 h => ?_)
    · refine g_iload_n (M := mX8_does) dX8_does_26 1 rfl rfl ?_
      refine h_iconst (M := mX8_does) dX8_does_27 ?_
      refine zJn_J (J := fun x13 => G X mX8_does (zPm X 7 0 0 (zRet (zWs A n (zC X A shMo qMo res.1 S)) (some (.int (iI (b2 res.2)))))) 0 0 40 [(0, .ref (A qMo)), (1, .int (iI a1)), (2, .int (iI a2))] [] (zWs A n (zC X A shMo qMo x13 S))) h (fun x13 h => ?_) (fun j13 h => ?_)
      · refine g_iload_n (M := mX8_does) dX8_does_40 1 rfl rfl ?_
        refine h_iconst (M := mX8_does) dX8_does_41 ?_
        refine zJn_J (J := fun x18 => G X mX8_does (zPm X 7 0 0 (zRet (zWs A n (zC X A shMo qMo res.1 S)) (some (.int (iI (b2 res.2)))))) 0 0 54 [(0, .ref (A qMo)), (1, .int (iI a1)), (2, .int (iI a2))] [] (zWs A n (zC X A shMo qMo x18 S))) h (fun x18 h => ?_) (fun j18 h => ?_)
        · refine g_iload_n (M := mX8_does) dX8_does_54 1 rfl rfl ?_
          refine h_iconst (M := mX8_does) dX8_does_55 ?_
          refine zJn_J (J := fun x23 => G X mX8_does (zPm X 7 0 0 (zRet (zWs A n (zC X A shMo qMo res.1 S)) (some (.int (iI (b2 res.2)))))) 0 0 68 [(0, .ref (A qMo)), (1, .int (iI a1)), (2, .int (iI a2))] [] (zWs A n (zC X A shMo qMo x23 S))) h (fun x23 h => ?_) (fun j23 h => ?_)
          · refine g_iload_n (M := mX8_does) dX8_does_68 1 rfl rfl ?_
            refine h_iconst (M := mX8_does) dX8_does_69 ?_
            refine zJn_J (J := fun x28 => G X mX8_does (zPm X 7 0 0 (zRet (zWs A n (zC X A shMo qMo res.1 S)) (some (.int (iI (b2 res.2)))))) 0 0 82 [(0, .ref (A qMo)), (1, .int (iI a1)), (2, .int (iI a2))] [] (zWs A n (zC X A shMo qMo x28 S))) h (fun x28 h => ?_) (fun j28 h => ?_)
            · refine g_iload_n (M := mX8_does) dX8_does_82 1 rfl rfl ?_
              refine h_iconst (M := mX8_does) dX8_does_83 ?_
              refine zJn_J (J := fun x33 => G X mX8_does (zPm X 7 0 0 (zRet (zWs A n (zC X A shMo qMo res.1 S)) (some (.int (iI (b2 res.2)))))) 0 0 99 [(0, .ref (A qMo)), (1, .int (iI a1)), (2, .int (iI a2))] [] (zWs A n (zC X A shMo qMo x33 S))) h (fun x33 h => ?_) (fun j33 h => ?_)
              · refine g_iload_n (M := mX8_does) dX8_does_99 1 rfl rfl ?_
                refine h_bipush (M := mX8_does) dX8_does_100 rfl ?_
                refine zJn_J (J := fun x48 => G X mX8_does (zPm X 7 0 0 (zRet (zWs A n (zC X A shMo qMo res.1 S)) (some (.int (iI (b2 res.2)))))) 0 0 131 [(0, .ref (A qMo)), (1, .int (iI a1)), (2, .int (iI a2))] [] (zWs A n (zC X A shMo qMo x48 S))) h (fun x48 h => ?_) (fun j48 h => ?_)
                · refine g_iload_n (M := mX8_does) dX8_does_131 1 rfl rfl ?_
                  refine h_bipush (M := mX8_does) dX8_does_132 rfl ?_
                  obtain ⟨g50, h⟩ := zgi h
                  refine h_icmp_ne (M := mX8_does) (tgt := 146) dX8_does_134 (by decide) g50 (by decide) (fun c49 => ?_) (fun c49 => ?_)
                  · have h := zfi c49 h
                    refine h_iconst (M := mX8_does) dX8_does_146 ?_
                    have e := (Option.some.inj h)
                    subst e
                    exact g_zret (M := mX8_does) .boolean dX8_does_147 rfl rfl (Nat.le_of_ble_eq_true rfl) (Nat.le_of_ble_eq_true rfl) ⟨rfl, rfl⟩
                  · have h := zti c49 h
                    refine g_aload_n (M := mX8_does) dX8_does_137 0 rfl rfl ?_
                    refine g_aload_n (M := mX8_does) dX8_does_138 0 rfl rfl ?_
                    refine g_iload_n (M := mX8_does) dX8_does_139 2 rfl rfl ?_
                    obtain ⟨t51, u52, h⟩ := zbi h
                    refine g_callVr (M := mX8_does) [.int (iI a2)] hX dX8_does_140 vX8_setsChanges kM_X8_391 (wX8_setsChanges hX zC_self (by omega)  u52) qMo (zWs_at (by omega) (zC_o)) rfl ⟨(Nat.le_of_ble_eq_true rfl), (Nat.le_of_ble_eq_true rfl)⟩ ⟨(Nat.le_of_ble_eq_true rfl), (Nat.le_of_ble_eq_true rfl)⟩ (Nat.le_of_ble_eq_true rfl) ?_
                    refine g_ws (M := mX8_does) (congrArg (zWs A n) zC_over) ?_
                    refine c_put (M := mX8_does) (k := 45) dX8_does_143 kF_X8_434 (by omega) rfl rfl (by decide) rfl rfl ?_
                    refine h_iconst (M := mX8_does) dX8_does_146 ?_
                    have e := (Option.some.inj h)
                    subst e
                    exact g_zret (M := mX8_does) .boolean dX8_does_147 rfl rfl (Nat.le_of_ble_eq_true rfl) (Nat.le_of_ble_eq_true rfl) ⟨rfl, rfl⟩
                · refine zJn_J (J := fun x56 => G X mX8_does (zPm X 7 0 0 (zRet (zWs A n (zC X A shMo qMo res.1 S)) (some (.int (iI (b2 res.2)))))) 0 0 111 [(0, .ref (A qMo)), (1, .int (iI a1)), (2, .int (iI a2))] [] (zWs A n (zC X A shMo qMo x33 S))) h (fun x56 h => ?_) (fun j56 h => ?_)
                  · refine g_aload_n (M := mX8_does) dX8_does_111 0 rfl rfl ?_
                    refine g_aload_n (M := mX8_does) dX8_does_112 0 rfl rfl ?_
                    refine g_iload_n (M := mX8_does) dX8_does_113 2 rfl rfl ?_
                    refine g_iload_n (M := mX8_does) dX8_does_114 1 rfl rfl ?_
                    refine h_bipush (M := mX8_does) dX8_does_115 rfl ?_
                    refine zJn_J (J := fun x59 => G X mX8_does (zPm X 7 0 0 (zRet (zWs A n (zC X A shMo qMo res.1 S)) (some (.int (iI (b2 res.2)))))) 0 0 125 [(0, .ref (A qMo)), (1, .int (iI a1)), (2, .int (iI a2))] [.int (iI x59), .int (iI a2), .ref (A qMo), .ref (A qMo)] (zWs A n (zC X A shMo qMo x33 S))) h (fun x59 h => ?_) (fun j59 h => ?_)
                    · obtain ⟨t60, u61, h⟩ := zbi h
                      refine g_callVr (M := mX8_does) [.int (iI a2), .int (iI x59)] hX dX8_does_125 vX8_setsOut kM_X8_387 (wX8_setsOut hX zC_self (by omega)  u61) qMo (zWs_at (by omega) (zC_o)) rfl ⟨(Nat.le_of_ble_eq_true rfl), (Nat.le_of_ble_eq_true rfl)⟩ ⟨(Nat.le_of_ble_eq_true rfl), (Nat.le_of_ble_eq_true rfl)⟩ (Nat.le_of_ble_eq_true rfl) ?_
                      refine g_ws (M := mX8_does) (congrArg (zWs A n) zC_over) ?_
                      refine c_put (M := mX8_does) (k := 45) dX8_does_128 kF_X8_434 (by omega) rfl rfl (by decide) rfl rfl ?_
                      exact j48 (zPu t60.1 45 t60.2) h
                    · obtain ⟨g63, h⟩ := zgi h
                      refine h_icmp_ne (M := mX8_does) (tgt := 124) dX8_does_117 (by decide) g63 (by decide) (fun c62 => ?_) (fun c62 => ?_)
                      · have h := zfi c62 h
                        refine h_iconst (M := mX8_does) dX8_does_124 ?_
                        exact j59 0 h
                      · have h := zti c62 h
                        refine h_iconst (M := mX8_does) dX8_does_120 ?_
                        refine g_goto (M := mX8_does) (tgt := 125) dX8_does_121 (by decide) ?_
                        exact j59 1 h
                  · obtain ⟨g65, h⟩ := zgi h
                    refine h_icmp_eq (M := mX8_does) (tgt := 111) dX8_does_102 (by decide) g65 (by decide) (fun c64 => ?_) (fun c64 => ?_)
                    · have h := zti c64 h
                      exact j56 () h
                    · have h := zfi c64 h
                      refine g_iload_n (M := mX8_does) dX8_does_105 1 rfl rfl ?_
                      refine h_bipush (M := mX8_does) dX8_does_106 rfl ?_
                      refine h_icmp_ne (M := mX8_does) (tgt := 131) dX8_does_108 (by decide) g65 (by decide) (fun c66 => ?_) (fun c66 => ?_)
                      · have h := zfi c66 h
                        exact j48 x33 h
                      · have h := zti c66 h
                        exact j56 () h
              · obtain ⟨g68, h⟩ := zgi h
                refine h_icmp_ne (M := mX8_does) (tgt := 99) dX8_does_84 (by decide) g68 (by decide) (fun c67 => ?_) (fun c67 => ?_)
                · have h := zfi c67 h
                  exact j33 x28 h
                · have h := zti c67 h
                  refine g_aload_n (M := mX8_does) dX8_does_87 0 rfl rfl ?_
                  refine g_aload_n (M := mX8_does) dX8_does_88 0 rfl rfl ?_
                  refine g_aload_n (M := mX8_does) dX8_does_89 0 rfl rfl ?_
                  refine k_get (M := mX8_does) (v := .int (iI (x28.1 31))) dX8_does_90 kF_X8_306.r qMo (by omega) (zC_o) rfl ?_
                  obtain ⟨t69, u70, h⟩ := zbi h
                  refine g_callVr (M := mX8_does) [.int (iI (x28.1 31))] hX dX8_does_93 vX8_takes kM_X8_341 (wX8_takes hX zC_self (by omega)  u70) qMo (zWs_at (by omega) (zC_o)) rfl ⟨(Nat.le_of_ble_eq_true rfl), (Nat.le_of_ble_eq_true rfl)⟩ ⟨(Nat.le_of_ble_eq_true rfl), (Nat.le_of_ble_eq_true rfl)⟩ (Nat.le_of_ble_eq_true rfl) ?_
                  refine g_ws (M := mX8_does) (congrArg (zWs A n) zC_over) ?_
                  refine c_put (M := mX8_does) (k := 45) dX8_does_96 kF_X8_434 (by omega) rfl rfl (by decide) rfl rfl ?_
                  exact j33 (zPu t69.1 45 t69.2) h
            · obtain ⟨g72, h⟩ := zgi h
              refine h_icmp_ne (M := mX8_does) (tgt := 82) dX8_does_70 (by decide) g72 (by decide) (fun c71 => ?_) (fun c71 => ?_)
              · have h := zfi c71 h
                exact j28 x23 h
              · have h := zti c71 h
                refine g_aload_n (M := mX8_does) dX8_does_73 0 rfl rfl ?_
                refine g_aload_n (M := mX8_does) dX8_does_74 0 rfl rfl ?_
                refine g_iload_n (M := mX8_does) dX8_does_75 2 rfl rfl ?_
                obtain ⟨t73, u74, h⟩ := zbi h
                refine g_callVr (M := mX8_does) [.int (iI a2)] hX dX8_does_76 vX8_takes kM_X8_341 (wX8_takes hX zC_self (by omega)  u74) qMo (zWs_at (by omega) (zC_o)) rfl ⟨(Nat.le_of_ble_eq_true rfl), (Nat.le_of_ble_eq_true rfl)⟩ ⟨(Nat.le_of_ble_eq_true rfl), (Nat.le_of_ble_eq_true rfl)⟩ (Nat.le_of_ble_eq_true rfl) ?_
                refine g_ws (M := mX8_does) (congrArg (zWs A n) zC_over) ?_
                refine c_put (M := mX8_does) (k := 45) dX8_does_79 kF_X8_434 (by omega) rfl rfl (by decide) rfl rfl ?_
                exact j28 (zPu t73.1 45 t73.2) h
          · obtain ⟨g76, h⟩ := zgi h
            refine h_icmp_ne (M := mX8_does) (tgt := 68) dX8_does_56 (by decide) g76 (by decide) (fun c75 => ?_) (fun c75 => ?_)
            · have h := zfi c75 h
              exact j23 x18 h
            · have h := zti c75 h
              refine g_aload_n (M := mX8_does) dX8_does_59 0 rfl rfl ?_
              refine g_aload_n (M := mX8_does) dX8_does_60 0 rfl rfl ?_
              refine g_iload_n (M := mX8_does) dX8_does_61 2 rfl rfl ?_
              obtain ⟨t77, u78, h⟩ := zbi h
              refine g_callVr (M := mX8_does) [.int (iI a2)] hX dX8_does_62 vX8_improves kM_X8_368 (wX8_improves hX zC_self (by omega)  u78) qMo (zWs_at (by omega) (zC_o)) rfl ⟨(Nat.le_of_ble_eq_true rfl), (Nat.le_of_ble_eq_true rfl)⟩ ⟨(Nat.le_of_ble_eq_true rfl), (Nat.le_of_ble_eq_true rfl)⟩ (Nat.le_of_ble_eq_true rfl) ?_
              refine g_ws (M := mX8_does) (congrArg (zWs A n) zC_over) ?_
              refine c_put (M := mX8_does) (k := 45) dX8_does_65 kF_X8_434 (by omega) rfl rfl (by decide) rfl rfl ?_
              exact j23 (zPu t77.1 45 t77.2) h
        · obtain ⟨g80, h⟩ := zgi h
          refine h_icmp_ne (M := mX8_does) (tgt := 54) dX8_does_42 (by decide) g80 (by decide) (fun c79 => ?_) (fun c79 => ?_)
          · have h := zfi c79 h
            exact j18 x13 h
          · have h := zti c79 h
            refine g_aload_n (M := mX8_does) dX8_does_45 0 rfl rfl ?_
            refine g_aload_n (M := mX8_does) dX8_does_46 0 rfl rfl ?_
            refine g_iload_n (M := mX8_does) dX8_does_47 2 rfl rfl ?_
            obtain ⟨t81, u82, h⟩ := zbi h
            refine g_callVr (M := mX8_does) [.int (iI a2)] hX dX8_does_48 vX8_betters kM_X8_362 (wX8_betters hX zC_self (by omega)  u82) qMo (zWs_at (by omega) (zC_o)) rfl ⟨(Nat.le_of_ble_eq_true rfl), (Nat.le_of_ble_eq_true rfl)⟩ ⟨(Nat.le_of_ble_eq_true rfl), (Nat.le_of_ble_eq_true rfl)⟩ (Nat.le_of_ble_eq_true rfl) ?_
            refine g_ws (M := mX8_does) (congrArg (zWs A n) zC_over) ?_
            refine c_put (M := mX8_does) (k := 45) dX8_does_51 kF_X8_434 (by omega) rfl rfl (by decide) rfl rfl ?_
            exact j18 (zPu t81.1 45 t81.2) h
      · obtain ⟨g84, h⟩ := zgi h
        refine h_icmp_ne (M := mX8_does) (tgt := 40) dX8_does_28 (by decide) g84 (by decide) (fun c83 => ?_) (fun c83 => ?_)
        · have h := zfi c83 h
          exact j13 x8 h
        · have h := zti c83 h
          refine g_aload_n (M := mX8_does) dX8_does_31 0 rfl rfl ?_
          refine g_aload_n (M := mX8_does) dX8_does_32 0 rfl rfl ?_
          refine g_iload_n (M := mX8_does) dX8_does_33 2 rfl rfl ?_
          obtain ⟨t85, u86, h⟩ := zbi h
          refine g_callVr (M := mX8_does) [.int (iI a2)] hX dX8_does_34 vX8_clearsRow kM_X8_384 (wX8_clearsRow hX zC_self (by omega)  u86) qMo (zWs_at (by omega) (zC_o)) rfl ⟨(Nat.le_of_ble_eq_true rfl), (Nat.le_of_ble_eq_true rfl)⟩ ⟨(Nat.le_of_ble_eq_true rfl), (Nat.le_of_ble_eq_true rfl)⟩ (Nat.le_of_ble_eq_true rfl) ?_
          refine g_ws (M := mX8_does) (congrArg (zWs A n) zC_over) ?_
          refine c_put (M := mX8_does) (k := 45) dX8_does_37 kF_X8_434 (by omega) rfl rfl (by decide) rfl rfl ?_
          exact j13 (zPu t85.1 45 t85.2) h
    · obtain ⟨g88, h⟩ := zgi h
      refine h_if_ne (M := mX8_does) (tgt := 26) dX8_does_13 (by decide) g88 (fun c87 => ?_) (fun c87 => ?_)
      · have h := zfi c87 h
        refine g_lv (M := mX8_does) [0, 1, 2] rfl ?_
        exact j8 t1.1 h
      · have h := zti c87 h
        refine g_aload_n (M := mX8_does) dX8_does_16 0 rfl rfl ?_
        refine g_aload_n (M := mX8_does) dX8_does_17 0 rfl rfl ?_
        refine g_iload_n (M := mX8_does) dX8_does_18 2 rfl rfl ?_
        refine g_iload_n (M := mX8_does) dX8_does_19 3 rfl rfl ?_
        obtain ⟨t89, u90, h⟩ := zbi h
        refine g_callVr (M := mX8_does) [.int (iI a2), .int (iI a3)] hX dX8_does_20 vX8_chooses kM_X8_379 (wX8_chooses hX zC_self (by omega)  u90) qMo (zWs_at (by omega) (zC_o)) rfl ⟨(Nat.le_of_ble_eq_true rfl), (Nat.le_of_ble_eq_true rfl)⟩ ⟨(Nat.le_of_ble_eq_true rfl), (Nat.le_of_ble_eq_true rfl)⟩ (Nat.le_of_ble_eq_true rfl) ?_
        refine g_ws (M := mX8_does) (congrArg (zWs A n) zC_over) ?_
        refine c_put (M := mX8_does) (k := 45) dX8_does_23 kF_X8_434 (by omega) rfl rfl (by decide) rfl rfl ?_
        refine g_lv (M := mX8_does) [0, 1, 2] rfl ?_
        exact j8 (zPu t89.1 45 t89.2) h
  · have h := zfi (zbf c3) h
    refine h_iconst (M := mX8_does) dX8_does_10 ?_
    have e := (Option.some.inj h)
    subst e
    exact g_zret (M := mX8_does) .boolean dX8_does_11 rfl rfl (Nat.le_of_ble_eq_true rfl) (Nat.le_of_ble_eq_true rfl) ⟨rfl, rfl⟩
set_option maxHeartbeats 4000000 in
set_option maxRecDepth 100000 in
theorem wX8_endsText {X : zX} (hX : zOK X) {A : Nat → Nat} {n : Nat} {S : Nat → va_E} {qMo : Nat} {VMo : CV} (hMo : isC X A shMo qMo VMo S) (bMo : qMo + 20 < n) {res : CV × Bool} (h : fX8_endsText VMo = some res) : Con X yX8_endsText mX8_endsText 2 0 0 [.ref (A qMo)] (zWs A n S) (zRet (zWs A n (zC X A shMo qMo res.1 S)) (some (.int (iI (b2 res.2))))) := by
  refine con_of (lv := [(0, .ref (A qMo))]) (by decide) rfl (fun h => by cases h) rfl (Nat.le_of_ble_eq_true rfl) rfl ?_
  refine g_ws (M := mX8_endsText) (congrArg (zWs A n) hMo.symm) ?_
  unfold fX8_endsText at h
  refine g_aload_n (M := mX8_endsText) dX8_endsText_0 0 rfl rfl ?_
  refine g_aload_n (M := mX8_endsText) dX8_endsText_1 0 rfl rfl ?_
  refine k_get (M := mX8_endsText) (v := .int (iI (VMo.1 9))) dX8_endsText_2 kF_X8_136.r qMo (by omega) (zC_o) rfl ?_
  refine c_put (M := mX8_endsText) (k := 11) dX8_endsText_5 kF_X8_152 (by omega) rfl rfl (by decide) rfl rfl ?_
  refine g_aload_n (M := mX8_endsText) dX8_endsText_8 0 rfl rfl ?_
  refine g_aload_n (M := mX8_endsText) dX8_endsText_9 0 rfl rfl ?_
  refine k_get (M := mX8_endsText) (v := .int (iI (VMo.1 10))) dX8_endsText_10 kF_X8_13.r qMo (by omega) (zC_o) rfl ?_
  refine c_put (M := mX8_endsText) (k := 12) dX8_endsText_13 kF_X8_17 (by omega) rfl rfl (by decide) rfl rfl ?_
  refine g_aload_n (M := mX8_endsText) dX8_endsText_16 0 rfl rfl ?_
  refine g_aload_n (M := mX8_endsText) dX8_endsText_17 0 rfl rfl ?_
  refine k_get (M := mX8_endsText) (v := .int (iI (VMo.1 9))) dX8_endsText_18 kF_X8_136.r qMo (by omega) (zC_o) rfl ?_
  refine zJn_J (J := fun x3 => G X mX8_endsText (zPm X 2 0 0 (zRet (zWs A n (zC X A shMo qMo res.1 S)) (some (.int (iI (b2 res.2)))))) 0 0 29 [] [.int (iI x3), .ref (A qMo)] (zWs A n (zC X A shMo qMo (zPu (zPu VMo 11 (VMo.1 9)) 12 (VMo.1 10)) S))) h (fun x3 h => ?_) (fun j3 h => ?_)
  · obtain ⟨t4, u5, h⟩ := zbi h
    refine g_callVr (M := mX8_endsText) [.int (iI x3)] hX dX8_endsText_29 vX8_goes kM_X8_91 (wX8_goes hX zC_self (by omega)  u5) qMo (zWs_at (by omega) (zC_o)) rfl ⟨(Nat.le_of_ble_eq_true rfl), (Nat.le_of_ble_eq_true rfl)⟩ ⟨(Nat.le_of_ble_eq_true rfl), (Nat.le_of_ble_eq_true rfl)⟩ (Nat.le_of_ble_eq_true rfl) ?_
    refine g_ws (M := mX8_endsText) (congrArg (zWs A n) zC_over) ?_
    have e := (Option.some.inj h)
    subst e
    exact g_zret (M := mX8_endsText) .boolean dX8_endsText_32 rfl (b2_nar _) (Nat.le_of_ble_eq_true rfl) (Nat.le_of_ble_eq_true rfl) ⟨rfl, rfl⟩
  · obtain ⟨g7, h⟩ := zgi h
    refine h_if_ne (M := mX8_endsText) (tgt := 28) dX8_endsText_21 (by decide) g7 (fun c6 => ?_) (fun c6 => ?_)
    · have h := zfi c6 h
      refine h_iconst (M := mX8_endsText) dX8_endsText_28 ?_
      refine g_lv (M := mX8_endsText) [] rfl ?_
      exact j3 0 h
    · have h := zti c6 h
      refine h_iconst (M := mX8_endsText) dX8_endsText_24 ?_
      refine g_goto (M := mX8_endsText) (tgt := 29) dX8_endsText_25 (by decide) ?_
      refine g_lv (M := mX8_endsText) [] rfl ?_
      exact j3 1 h
set_option maxHeartbeats 4000000 in
set_option maxRecDepth 100000 in
theorem wX8_errorCode {X : zX} (hX : zOK X) {A : Nat → Nat} {n : Nat} {S : Nat → va_E} {qMo : Nat} {VMo : CV} (hMo : isC X A shMo qMo VMo S) (bMo : qMo + 20 < n) {res : CV × Int} (h : fX8_errorCode VMo = some res) : Con X yX8_errorCode mX8_errorCode 0 0 0 [.ref (A qMo)] (zWs A n S) (zRet (zWs A n (zC X A shMo qMo res.1 S)) (some (.int (iI res.2)))) := by
  refine con_of (lv := [(0, .ref (A qMo))]) (by decide) rfl (fun h => by cases h) rfl (Nat.le_of_ble_eq_true rfl) rfl ?_
  refine g_ws (M := mX8_errorCode) (congrArg (zWs A n) hMo.symm) ?_
  unfold fX8_errorCode at h
  refine g_aload_n (M := mX8_errorCode) dX8_errorCode_0 0 rfl rfl ?_
  refine h_iconst (M := mX8_errorCode) dX8_errorCode_1 ?_
  refine c_put (M := mX8_errorCode) (k := 0) dX8_errorCode_2 kF_X8_81 (by omega) rfl rfl (by decide) rfl rfl ?_
  refine g_aload_n (M := mX8_errorCode) dX8_errorCode_5 0 rfl rfl ?_
  refine k_get (M := mX8_errorCode) (v := .int (iI (VMo.1 11))) dX8_errorCode_6 kF_X8_152.r qMo (by omega) (zC_o) rfl ?_
  have e := (Option.some.inj h)
  subst e
  exact g_iret (M := mX8_errorCode) dX8_errorCode_9 rfl (Nat.le_of_ble_eq_true rfl) (Nat.le_of_ble_eq_true rfl) ⟨rfl, rfl⟩
set_option maxHeartbeats 4000000 in
set_option maxRecDepth 100000 in
theorem wX8_errorPosition {X : zX} (hX : zOK X) {A : Nat → Nat} {n : Nat} {S : Nat → va_E} {qMo : Nat} {VMo : CV} (hMo : isC X A shMo qMo VMo S) (bMo : qMo + 20 < n) {res : CV × Int} (h : fX8_errorPosition VMo = some res) : Con X yX8_errorPosition mX8_errorPosition 0 0 0 [.ref (A qMo)] (zWs A n S) (zRet (zWs A n (zC X A shMo qMo res.1 S)) (some (.int (iI res.2)))) := by
  refine con_of (lv := [(0, .ref (A qMo))]) (by decide) rfl (fun h => by cases h) rfl (Nat.le_of_ble_eq_true rfl) rfl ?_
  refine g_ws (M := mX8_errorPosition) (congrArg (zWs A n) hMo.symm) ?_
  unfold fX8_errorPosition at h
  refine g_aload_n (M := mX8_errorPosition) dX8_errorPosition_0 0 rfl rfl ?_
  refine h_iconst (M := mX8_errorPosition) dX8_errorPosition_1 ?_
  refine c_put (M := mX8_errorPosition) (k := 0) dX8_errorPosition_2 kF_X8_81 (by omega) rfl rfl (by decide) rfl rfl ?_
  refine g_aload_n (M := mX8_errorPosition) dX8_errorPosition_5 0 rfl rfl ?_
  refine k_get (M := mX8_errorPosition) (v := .int (iI (VMo.1 12))) dX8_errorPosition_6 kF_X8_17.r qMo (by omega) (zC_o) rfl ?_
  have e := (Option.some.inj h)
  subst e
  exact g_iret (M := mX8_errorPosition) dX8_errorPosition_9 rfl (Nat.le_of_ble_eq_true rfl) (Nat.le_of_ble_eq_true rfl) ⟨rfl, rfl⟩
set_option maxHeartbeats 4000000 in
set_option maxRecDepth 100000 in
theorem wX8_four {X : zX} (hX : zOK X) {A : Nat → Nat} {n : Nat} {S : Nat → va_E} {qMo : Nat} {VMo : CV} (hMo : isC X A shMo qMo VMo S) (bMo : qMo + 20 < n) {a1 : Int} {res : CV} (h : fX8_four VMo a1 = some res) : Con X yX8_four mX8_four 0 0 0 [.ref (A qMo), .int (iI a1)] (zWs A n S) (zRet (zWs A n (zC X A shMo qMo res S)) none) := by
  refine con_of (lv := [(0, .ref (A qMo)), (1, .int (iI a1))]) (by decide) rfl (fun h => by cases h) rfl (Nat.le_of_ble_eq_true rfl) rfl ?_
  refine g_ws (M := mX8_four) (congrArg (zWs A n) hMo.symm) ?_
  unfold fX8_four at h
  refine h_bipush (M := mX8_four) dX8_four_0 rfl ?_
  refine g_istore_n (M := mX8_four) (lv' := [(0, .ref (A qMo)), (1, .int (iI a1)), (2, .int (iI 24))]) dX8_four_2 rfl (by decide) rfl ?_
  obtain ⟨x1, l1, h⟩ := zbi h
  have r1 : ∀ y1, y1 = x1 → G X mX8_four (zPm X 0 0 0 (zRet (zWs A n (zC X A shMo qMo res S)) none)) 0 0 39 [] [] (zWs A n (zC X A shMo qMo y1.2 S)) := by
    intro y1 ey
    rw [← ey] at h
    have e := (Option.some.inj h)
    subst e
    exact g_vret (M := mX8_four) dX8_four_39 rfl (Nat.le_of_ble_eq_true rfl) (Nat.le_of_ble_eq_true rfl) ⟨rfl, rfl⟩
  refine zLp_J (J := fun s1 => G X mX8_four (zPm X 0 0 0 (zRet (zWs A n (zC X A shMo qMo res S)) none)) 0 0 3 [(0, .ref (A qMo)), (1, .int (iI a1)), (2, .int (iI s1.1))] [] (zWs A n (zC X A shMo qMo s1.2 S))) (fun s1 w1 h1 b1 e1 => ?_) _ _ l1
  refine g_iload_n (M := mX8_four) dX8_four_3 2 rfl rfl ?_
  obtain ⟨g7, h1⟩ := zgi h1
  refine h_if_lt (M := mX8_four) (tgt := 39) dX8_four_4 (by decide) g7 (fun c6 => ?_) (fun c6 => ?_)
  · have h1 := zti c6 h1
    refine g_lv (M := mX8_four) [] rfl ?_
    exact r1 _ (e1 _ (Option.some.inj h1).symm)
  · have h1 := zfi (Int.not_lt.mpr c6) h1
    refine g_aload_n (M := mX8_four) dX8_four_7 0 rfl rfl ?_
    refine k_get (M := mX8_four) (v := .ref (A (qMo + 1))) dX8_four_8 kF_X8_7.r qMo (by omega) (zC_o) rfl ?_
    refine g_aload_n (M := mX8_four) dX8_four_11 0 rfl rfl ?_
    refine k_get (M := mX8_four) (v := .int (iI (s1.2.1 2))) dX8_four_12 kF_X8_88.r qMo (by omega) (zC_o) rfl ?_
    refine g_iload_n (M := mX8_four) dX8_four_15 1 rfl rfl ?_
    refine g_iload_n (M := mX8_four) dX8_four_16 2 rfl rfl ?_
    obtain ⟨g8, h1⟩ := zgi h1
    refine g_ishr (M := mX8_four) dX8_four_17 ?_
    refine h_topx (M := mX8_four) (b := a1 / zP2 s1.1) (iI_shr g8.1 g8.2) ?_
    refine h_sipush (M := mX8_four) dX8_four_18 rfl ?_
    refine g_iand (M := mX8_four) dX8_four_21 ?_
    refine h_topx (M := mX8_four) (b := (a1 / zP2 s1.1) % 256) (iI_mask _ 8 (by decide)) ?_
    obtain ⟨g9, h1⟩ := zgi h1
    refine c_iast (M := mX8_four) (len := 600) (d := (0, 600)) dX8_four_22 0 rfl rfl (by omega) (Nat.le_of_ble_eq_true rfl) g9.1 g9.2 ?_
    refine g_aload_n (M := mX8_four) dX8_four_23 0 rfl rfl ?_
    refine g_dup (M := mX8_four) dX8_four_24 rfl ?_
    refine k_get (M := mX8_four) (v := .int (iI (s1.2.1 2))) dX8_four_25 kF_X8_88.r qMo (by omega) (zC_o) rfl ?_
    refine h_iconst (M := mX8_four) dX8_four_28 ?_
    refine h_iadd (M := mX8_four) dX8_four_29 ?_
    refine c_put (M := mX8_four) (k := 2) dX8_four_30 kF_X8_88 (by omega) rfl rfl (by decide) rfl rfl ?_
    refine h_iinc (M := mX8_four) (j := 2) (lv' := [(0, .ref (A qMo)), (1, .int (iI a1)), (2, .int (iI (s1.1 + (-8))))]) dX8_four_33 rfl (Nat.le_of_ble_eq_true rfl) rfl ?_
    refine g_goto (M := mX8_four) (tgt := 3) dX8_four_36 (by decide) ?_
    exact b1 _ (Option.some.inj h1).symm
set_option maxHeartbeats 4000000 in
set_option maxRecDepth 100000 in
theorem wX8_feed {X : zX} (hX : zOK X) {A : Nat → Nat} {n : Nat} {S : Nat → va_E} {qMo : Nat} {VMo : CV} (hMo : isC X A shMo qMo VMo S) (bMo : qMo + 20 < n) {a1 : Int} {a2 : Int} {a3 : Int} {a4 : Int} {a5 : Int} {res : CV × Int} (h : fX8_feed VMo a1 a2 a3 a4 a5 = some res) : Con X yX8_feed mX8_feed 2 0 0 [.ref (A qMo), .int (iI a1), .int (iI a2), .int (iI a3), .int (iI a4), .int (iI a5)] (zWs A n S) (zRet (zWs A n (zC X A shMo qMo res.1 S)) (some (.int (iI res.2)))) := by
  refine con_of (lv := [(0, .ref (A qMo)), (1, .int (iI a1)), (2, .int (iI a2)), (3, .int (iI a3)), (4, .int (iI a4)), (5, .int (iI a5))]) (by decide) rfl (fun h => by cases h) rfl (Nat.le_of_ble_eq_true rfl) rfl ?_
  refine g_ws (M := mX8_feed) (congrArg (zWs A n) hMo.symm) ?_
  unfold fX8_feed at h
  refine g_aload_n (M := mX8_feed) dX8_feed_0 0 rfl rfl ?_
  refine g_aload_n (M := mX8_feed) dX8_feed_1 0 rfl rfl ?_
  refine k_get (M := mX8_feed) (v := .int (iI (VMo.1 2))) dX8_feed_2 kF_X8_88.r qMo (by omega) (zC_o) rfl ?_
  refine h_bipush (M := mX8_feed) dX8_feed_5 rfl ?_
  refine h_iadd (M := mX8_feed) dX8_feed_7 ?_
  refine h_sipush (M := mX8_feed) dX8_feed_8 rfl ?_
  refine zJn_J (J := fun x3 => G X mX8_feed (zPm X 2 0 0 (zRet (zWs A n (zC X A shMo qMo res.1 S)) (some (.int (iI res.2))))) 0 0 19 [(0, .ref (A qMo)), (1, .int (iI a1)), (2, .int (iI a2)), (3, .int (iI a3)), (4, .int (iI a4)), (5, .int (iI a5))] [.int (iI x3), .ref (A qMo)] (zWs A n (zC X A shMo qMo VMo S))) h (fun x3 h => ?_) (fun j3 h => ?_)
  · obtain ⟨t4, u5, h⟩ := zbi h
    refine g_callVr (M := mX8_feed) [.int (iI x3)] hX dX8_feed_19 vX8_goes kM_X8_91 (wX8_goes hX zC_self (by omega)  u5) qMo (zWs_at (by omega) (zC_o)) rfl ⟨(Nat.le_of_ble_eq_true rfl), (Nat.le_of_ble_eq_true rfl)⟩ ⟨(Nat.le_of_ble_eq_true rfl), (Nat.le_of_ble_eq_true rfl)⟩ (Nat.le_of_ble_eq_true rfl) ?_
    refine g_ws (M := mX8_feed) (congrArg (zWs A n) zC_over) ?_
    refine h_bne (M := mX8_feed) (tgt := 27) dX8_feed_22 (by decide) (fun c6 => ?_) (fun c6 => ?_)
    · have h := zti c6 h
      refine g_aload_n (M := mX8_feed) dX8_feed_27 0 rfl rfl ?_
      refine g_iload_n (M := mX8_feed) dX8_feed_28 1 rfl rfl ?_
      obtain ⟨t7, u8, h⟩ := zbi h
      refine g_callVr (M := mX8_feed) [.int (iI a1)] hX dX8_feed_29 vX8_four kM_X8_95 (wX8_four hX zC_self (by omega)  u8) qMo (zWs_at (by omega) (zC_o)) rfl ⟨(Nat.le_of_ble_eq_true rfl), (Nat.le_of_ble_eq_true rfl)⟩ ⟨(Nat.le_of_ble_eq_true rfl), (Nat.le_of_ble_eq_true rfl)⟩ (Nat.le_of_ble_eq_true rfl) ?_
      refine g_ws (M := mX8_feed) (congrArg (zWs A n) zC_over) ?_
      refine g_aload_n (M := mX8_feed) dX8_feed_32 0 rfl rfl ?_
      refine g_iload_n (M := mX8_feed) dX8_feed_33 2 rfl rfl ?_
      obtain ⟨t9, u10, h⟩ := zbi h
      refine g_callVr (M := mX8_feed) [.int (iI a2)] hX dX8_feed_34 vX8_four kM_X8_95 (wX8_four hX zC_self (by omega)  u10) qMo (zWs_at (by omega) (zC_o)) rfl ⟨(Nat.le_of_ble_eq_true rfl), (Nat.le_of_ble_eq_true rfl)⟩ ⟨(Nat.le_of_ble_eq_true rfl), (Nat.le_of_ble_eq_true rfl)⟩ (Nat.le_of_ble_eq_true rfl) ?_
      refine g_ws (M := mX8_feed) (congrArg (zWs A n) zC_over) ?_
      refine g_aload_n (M := mX8_feed) dX8_feed_37 0 rfl rfl ?_
      refine g_iload_n (M := mX8_feed) dX8_feed_38 3 rfl rfl ?_
      obtain ⟨t11, u12, h⟩ := zbi h
      refine g_callVr (M := mX8_feed) [.int (iI a3)] hX dX8_feed_39 vX8_four kM_X8_95 (wX8_four hX zC_self (by omega)  u12) qMo (zWs_at (by omega) (zC_o)) rfl ⟨(Nat.le_of_ble_eq_true rfl), (Nat.le_of_ble_eq_true rfl)⟩ ⟨(Nat.le_of_ble_eq_true rfl), (Nat.le_of_ble_eq_true rfl)⟩ (Nat.le_of_ble_eq_true rfl) ?_
      refine g_ws (M := mX8_feed) (congrArg (zWs A n) zC_over) ?_
      refine g_aload_n (M := mX8_feed) dX8_feed_42 0 rfl rfl ?_
      refine g_iload (M := mX8_feed) dX8_feed_43 4 rfl ?_
      obtain ⟨t13, u14, h⟩ := zbi h
      refine g_callVr (M := mX8_feed) [.int (iI a4)] hX dX8_feed_45 vX8_four kM_X8_95 (wX8_four hX zC_self (by omega)  u14) qMo (zWs_at (by omega) (zC_o)) rfl ⟨(Nat.le_of_ble_eq_true rfl), (Nat.le_of_ble_eq_true rfl)⟩ ⟨(Nat.le_of_ble_eq_true rfl), (Nat.le_of_ble_eq_true rfl)⟩ (Nat.le_of_ble_eq_true rfl) ?_
      refine g_ws (M := mX8_feed) (congrArg (zWs A n) zC_over) ?_
      refine g_aload_n (M := mX8_feed) dX8_feed_48 0 rfl rfl ?_
      refine g_iload (M := mX8_feed) dX8_feed_49 5 rfl ?_
      obtain ⟨t15, u16, h⟩ := zbi h
      refine g_callVr (M := mX8_feed) [.int (iI a5)] hX dX8_feed_51 vX8_four kM_X8_95 (wX8_four hX zC_self (by omega)  u16) qMo (zWs_at (by omega) (zC_o)) rfl ⟨(Nat.le_of_ble_eq_true rfl), (Nat.le_of_ble_eq_true rfl)⟩ ⟨(Nat.le_of_ble_eq_true rfl), (Nat.le_of_ble_eq_true rfl)⟩ (Nat.le_of_ble_eq_true rfl) ?_
      refine g_ws (M := mX8_feed) (congrArg (zWs A n) zC_over) ?_
      refine g_aload_n (M := mX8_feed) dX8_feed_54 0 rfl rfl ?_
      refine k_get (M := mX8_feed) (v := .int (iI (t15.1 2))) dX8_feed_55 kF_X8_88.r qMo (by omega) (zC_o) rfl ?_
      have e := (Option.some.inj h)
      subst e
      exact g_iret (M := mX8_feed) dX8_feed_58 rfl (Nat.le_of_ble_eq_true rfl) (Nat.le_of_ble_eq_true rfl) ⟨rfl, rfl⟩
    · have h := zfi (zbf c6) h
      refine h_iconst (M := mX8_feed) dX8_feed_25 ?_
      have e := (Option.some.inj h)
      subst e
      exact g_iret (M := mX8_feed) dX8_feed_26 rfl (Nat.le_of_ble_eq_true rfl) (Nat.le_of_ble_eq_true rfl) ⟨rfl, rfl⟩
  · obtain ⟨g18, h⟩ := zgi h
    refine h_icmp_gt (M := mX8_feed) (tgt := 18) dX8_feed_11 (by decide) g18 (by decide) (fun c17 => ?_) (fun c17 => ?_)
    · have h := zti c17 h
      refine h_iconst (M := mX8_feed) dX8_feed_18 ?_
      exact j3 0 h
    · have h := zfi (Int.not_lt.mpr c17) h
      refine h_iconst (M := mX8_feed) dX8_feed_14 ?_
      refine g_goto (M := mX8_feed) (tgt := 19) dX8_feed_15 (by decide) ?_
      exact j3 1 h
set_option maxHeartbeats 4000000 in
set_option maxRecDepth 100000 in
theorem wX8_having {X : zX} (hX : zOK X) {A : Nat → Nat} {n : Nat} {S : Nat → va_E} {qMo : Nat} {VMo : CV} (hMo : isC X A shMo qMo VMo S) (bMo : qMo + 20 < n) {a1 : Int} {res : CV × Int} (h : fX8_having VMo a1 = some res) : Con X yX8_having mX8_having 5 0 0 [.ref (A qMo), .int (iI a1)] (zWs A n S) (zRet (zWs A n (zC X A shMo qMo res.1 S)) (some (.int (iI res.2)))) := by
  refine con_of (lv := [(0, .ref (A qMo)), (1, .int (iI a1))]) (by decide) rfl (fun h => by cases h) rfl (Nat.le_of_ble_eq_true rfl) rfl ?_
  refine g_ws (M := mX8_having) (congrArg (zWs A n) hMo.symm) ?_
  unfold fX8_having at h
  refine g_aload_n (M := mX8_having) dX8_having_0 0 rfl rfl ?_
  refine g_aload_n (M := mX8_having) dX8_having_1 0 rfl rfl ?_
  refine g_iload_n (M := mX8_having) dX8_having_2 1 rfl rfl ?_
  obtain ⟨t1, u2, h⟩ := zbi h
  refine g_callVr (M := mX8_having) [.int (iI a1)] hX dX8_having_3 vX8_isOne kM_X8_268 (wX8_isOne hX zC_self (by omega)  u2) qMo (zWs_at (by omega) (zC_o)) rfl ⟨(Nat.le_of_ble_eq_true rfl), (Nat.le_of_ble_eq_true rfl)⟩ ⟨(Nat.le_of_ble_eq_true rfl), (Nat.le_of_ble_eq_true rfl)⟩ (Nat.le_of_ble_eq_true rfl) ?_
  obtain ⟨t3, u4, h⟩ := zbi h
  refine g_callVr (M := mX8_having) [.int (iI (b2 t1))] hX dX8_having_6 vX8_goes kM_X8_91 (wX8_goes hX zC_self (by omega)  u4) qMo (zWs_at (by omega) (zC_o)) rfl ⟨(Nat.le_of_ble_eq_true rfl), (Nat.le_of_ble_eq_true rfl)⟩ ⟨(Nat.le_of_ble_eq_true rfl), (Nat.le_of_ble_eq_true rfl)⟩ (Nat.le_of_ble_eq_true rfl) ?_
  refine g_ws (M := mX8_having) (congrArg (zWs A n) zC_over) ?_
  refine h_bne (M := mX8_having) (tgt := 14) dX8_having_9 (by decide) (fun c5 => ?_) (fun c5 => ?_)
  · have h := zti c5 h
    refine g_aload_n (M := mX8_having) dX8_having_14 0 rfl rfl ?_
    refine g_iload_n (M := mX8_having) dX8_having_15 1 rfl rfl ?_
    obtain ⟨t6, u7, h⟩ := zbi h
    refine g_callVr (M := mX8_having) [.int (iI a1)] hX dX8_having_16 vX8_spells kM_X8_242 (wX8_spells hX zC_self (by omega)  u7) qMo (zWs_at (by omega) (zC_o)) rfl ⟨(Nat.le_of_ble_eq_true rfl), (Nat.le_of_ble_eq_true rfl)⟩ ⟨(Nat.le_of_ble_eq_true rfl), (Nat.le_of_ble_eq_true rfl)⟩ (Nat.le_of_ble_eq_true rfl) ?_
    refine g_ws (M := mX8_having) (congrArg (zWs A n) zC_over) ?_
    refine g_aload_n (M := mX8_having) dX8_having_19 0 rfl rfl ?_
    obtain ⟨t8, u9, h⟩ := zbi h
    refine g_callVr (M := mX8_having) [] hX dX8_having_20 vX8_haves kM_X8_274 (wX8_haves hX zC_self (by omega)  u9) qMo (zWs_at (by omega) (zC_o)) rfl ⟨(Nat.le_of_ble_eq_true rfl), (Nat.le_of_ble_eq_true rfl)⟩ ⟨(Nat.le_of_ble_eq_true rfl), (Nat.le_of_ble_eq_true rfl)⟩ (Nat.le_of_ble_eq_true rfl) ?_
    have e := (Option.some.inj h)
    subst e
    exact g_iret (M := mX8_having) dX8_having_23 rfl (Nat.le_of_ble_eq_true rfl) (Nat.le_of_ble_eq_true rfl) ⟨rfl, rfl⟩
  · have h := zfi (zbf c5) h
    refine h_iconst (M := mX8_having) dX8_having_12 ?_
    have e := (Option.some.inj h)
    subst e
    exact g_iret (M := mX8_having) dX8_having_13 rfl (Nat.le_of_ble_eq_true rfl) (Nat.le_of_ble_eq_true rfl) ⟨rfl, rfl⟩
set_option maxHeartbeats 4000000 in
set_option maxRecDepth 100000 in
theorem wX8_hitsOf {X : zX} (hX : zOK X) {A : Nat → Nat} {n : Nat} {S : Nat → va_E} {qMo : Nat} {VMo : CV} (hMo : isC X A shMo qMo VMo S) (bMo : qMo + 20 < n) {a1 : Int} {res : CV × Int} (h : fX8_hitsOf VMo a1 = some res) : Con X yX8_hitsOf mX8_hitsOf 3 0 0 [.ref (A qMo), .int (iI a1)] (zWs A n S) (zRet (zWs A n (zC X A shMo qMo res.1 S)) (some (.int (iI res.2)))) := by
  refine con_of (lv := [(0, .ref (A qMo)), (1, .int (iI a1))]) (by decide) rfl (fun h => by cases h) rfl (Nat.le_of_ble_eq_true rfl) rfl ?_
  refine g_ws (M := mX8_hitsOf) (congrArg (zWs A n) hMo.symm) ?_
  unfold fX8_hitsOf at h
  refine h_iconst (M := mX8_hitsOf) dX8_hitsOf_0 ?_
  refine g_istore_n (M := mX8_hitsOf) (lv' := [(0, .ref (A qMo)), (1, .int (iI a1)), (2, .int (iI 0))]) dX8_hitsOf_1 rfl (by decide) rfl ?_
  refine h_iconst (M := mX8_hitsOf) dX8_hitsOf_2 ?_
  refine g_istore_n (M := mX8_hitsOf) (lv' := [(0, .ref (A qMo)), (1, .int (iI a1)), (2, .int (iI 0)), (3, .int (iI 0))]) dX8_hitsOf_3 rfl (by decide) rfl ?_
  obtain ⟨x1, l1, h⟩ := zbi h
  have r1 : ∀ y1, y1 = x1 → G X mX8_hitsOf (zPm X 3 0 0 (zRet (zWs A n (zC X A shMo qMo res.1 S)) (some (.int (iI res.2))))) 0 0 109 [(2, .int (iI y1.1))] [] (zWs A n (zC X A shMo qMo y1.2.2 S)) := by
    intro y1 ey
    rw [← ey] at h
    refine g_iload_n (M := mX8_hitsOf) dX8_hitsOf_109 0 rfl rfl ?_
    have e := (Option.some.inj h)
    subst e
    exact g_iret (M := mX8_hitsOf) dX8_hitsOf_110 rfl (Nat.le_of_ble_eq_true rfl) (Nat.le_of_ble_eq_true rfl) ⟨rfl, rfl⟩
  refine zLp_J (J := fun s1 => G X mX8_hitsOf (zPm X 3 0 0 (zRet (zWs A n (zC X A shMo qMo res.1 S)) (some (.int (iI res.2))))) 0 0 4 [(0, .ref (A qMo)), (1, .int (iI a1)), (2, .int (iI s1.1)), (3, .int (iI s1.2.1))] [] (zWs A n (zC X A shMo qMo s1.2.2 S))) (fun s1 w1 h1 b1 e1 => ?_) _ _ l1
  refine g_iload_n (M := mX8_hitsOf) dX8_hitsOf_4 3 rfl rfl ?_
  refine g_aload_n (M := mX8_hitsOf) dX8_hitsOf_5 0 rfl rfl ?_
  refine k_get (M := mX8_hitsOf) (v := .ref (A (qMo + 2))) dX8_hitsOf_6 kF_X8_20.r qMo (by omega) (zC_o) rfl ?_
  refine h_iconst (M := mX8_hitsOf) dX8_hitsOf_9 ?_
  refine k_iald (M := mX8_hitsOf) (len := 351) (f := s1.2.2.2 2) dX8_hitsOf_10 (qMo + 2) (by omega) (zC_a (d := (0, 351)) 1 rfl) (Nat.le_of_ble_eq_true rfl) (by decide) (by decide) ?_
  obtain ⟨g40, h1⟩ := zgi h1
  refine h_icmp_ge (M := mX8_hitsOf) (tgt := 109) dX8_hitsOf_11 (by decide) g40.1 g40.2 (fun c39 => ?_) (fun c39 => ?_)
  · have h1 := zti c39 h1
    refine g_lv (M := mX8_hitsOf) [2] rfl ?_
    exact r1 _ (e1 _ (Option.some.inj h1).symm)
  · have h1 := zfi (Int.not_le.mpr c39) h1
    refine h_iconst (M := mX8_hitsOf) dX8_hitsOf_14 ?_
    refine g_istore (M := mX8_hitsOf) (lv' := [(0, .ref (A qMo)), (1, .int (iI a1)), (2, .int (iI s1.1)), (3, .int (iI s1.2.1)), (4, .int (iI 0))]) dX8_hitsOf_15 (by decide) rfl ?_
    obtain ⟨x41, l41, h1⟩ := zbi h1
    have r41 : ∀ y41, y41 = x41 → G X mX8_hitsOf (zPm X 3 0 0 (zRet (zWs A n (zC X A shMo qMo res.1 S)) (some (.int (iI res.2))))) 0 0 103 [(0, .ref (A qMo)), (1, .int (iI a1)), (2, .int (iI y41.1)), (3, .int (iI s1.2.1))] [] (zWs A n (zC X A shMo qMo y41.2.2 S)) := by
      intro y41 ey
      rw [← ey] at h1
      refine h_iinc (M := mX8_hitsOf) (j := 3) (lv' := [(0, .ref (A qMo)), (1, .int (iI a1)), (2, .int (iI y41.1)), (3, .int (iI (s1.2.1 + 1)))]) dX8_hitsOf_103 rfl (Nat.le_of_ble_eq_true rfl) rfl ?_
      refine g_goto (M := mX8_hitsOf) (tgt := 4) dX8_hitsOf_106 (by decide) ?_
      exact b1 _ (Option.some.inj h1).symm
    refine zLp_J (J := fun s41 => G X mX8_hitsOf (zPm X 3 0 0 (zRet (zWs A n (zC X A shMo qMo res.1 S)) (some (.int (iI res.2))))) 0 0 17 [(0, .ref (A qMo)), (1, .int (iI a1)), (2, .int (iI s41.1)), (3, .int (iI s1.2.1)), (4, .int (iI s41.2.1))] [] (zWs A n (zC X A shMo qMo s41.2.2 S))) (fun s41 w41 h41 b41 e41 => ?_) _ _ l41
    refine g_iload (M := mX8_hitsOf) dX8_hitsOf_17 4 rfl ?_
    refine g_aload_n (M := mX8_hitsOf) dX8_hitsOf_19 0 rfl rfl ?_
    refine g_iload_n (M := mX8_hitsOf) dX8_hitsOf_20 3 rfl rfl ?_
    refine h_iconst (M := mX8_hitsOf) dX8_hitsOf_21 ?_
    obtain ⟨t59, u60, h41⟩ := zbi h41
    refine g_callVr (M := mX8_hitsOf) [.int (iI s1.2.1), .int (iI 0)] hX dX8_hitsOf_22 vX8_of kM_X8_166 (wX8_of hX zC_self (by omega)  u60) qMo (zWs_at (by omega) (zC_o)) rfl ⟨(Nat.le_of_ble_eq_true rfl), (Nat.le_of_ble_eq_true rfl)⟩ ⟨(Nat.le_of_ble_eq_true rfl), (Nat.le_of_ble_eq_true rfl)⟩ (Nat.le_of_ble_eq_true rfl) ?_
    obtain ⟨g62, h41⟩ := zgi h41
    refine h_icmp_ge (M := mX8_hitsOf) (tgt := 103) dX8_hitsOf_25 (by decide) g62.1 g62.2 (fun c61 => ?_) (fun c61 => ?_)
    · have h41 := zti c61 h41
      refine g_lv (M := mX8_hitsOf) [0, 1, 2, 3] rfl ?_
      exact r41 _ (e41 _ (Option.some.inj h41).symm)
    · have h41 := zfi (Int.not_le.mpr c61) h41
      refine g_aload_n (M := mX8_hitsOf) dX8_hitsOf_28 0 rfl rfl ?_
      refine g_iload_n (M := mX8_hitsOf) dX8_hitsOf_29 3 rfl rfl ?_
      refine g_iload (M := mX8_hitsOf) dX8_hitsOf_30 4 rfl ?_
      obtain ⟨t63, u64, h41⟩ := zbi h41
      refine g_callVr (M := mX8_hitsOf) [.int (iI s1.2.1), .int (iI s41.2.1)] hX dX8_hitsOf_32 vX8_isPlace kM_X8_229 (wX8_isPlace hX zC_self (by omega)  u64) qMo (zWs_at (by omega) (zC_o)) rfl ⟨(Nat.le_of_ble_eq_true rfl), (Nat.le_of_ble_eq_true rfl)⟩ ⟨(Nat.le_of_ble_eq_true rfl), (Nat.le_of_ble_eq_true rfl)⟩ (Nat.le_of_ble_eq_true rfl) ?_
      refine zJn_J (J := fun x68 => G X mX8_hitsOf (zPm X 3 0 0 (zRet (zWs A n (zC X A shMo qMo res.1 S)) (some (.int (iI res.2))))) 0 0 56 [(0, .ref (A qMo)), (1, .int (iI a1)), (2, .int (iI s41.1)), (3, .int (iI s1.2.1)), (4, .int (iI s41.2.1))] [.int (iI x68)] (zWs A n (zC X A shMo qMo s41.2.2 S))) h41 (fun x68 h41 => ?_) (fun j68 h41 => ?_)
      · refine g_istore (M := mX8_hitsOf) (lv' := [(0, .ref (A qMo)), (1, .int (iI a1)), (2, .int (iI s41.1)), (3, .int (iI s1.2.1)), (4, .int (iI s41.2.1)), (5, .int (iI x68))]) dX8_hitsOf_56 (by decide) rfl ?_
        refine g_iload (M := mX8_hitsOf) dX8_hitsOf_58 5 rfl ?_
        refine g_aload_n (M := mX8_hitsOf) dX8_hitsOf_60 0 rfl rfl ?_
        refine k_get (M := mX8_hitsOf) (v := .ref (A (qMo + 2))) dX8_hitsOf_61 kF_X8_20.r qMo (by omega) (zC_o) rfl ?_
        refine h_iconst (M := mX8_hitsOf) dX8_hitsOf_64 ?_
        refine k_iald (M := mX8_hitsOf) (len := 351) (f := s41.2.2.2 2) dX8_hitsOf_65 (qMo + 2) (by omega) (zC_a (d := (0, 351)) 1 rfl) (Nat.le_of_ble_eq_true rfl) (by decide) (by decide) ?_
        obtain ⟨g70, h41⟩ := zgi h41
        refine h_icmp_le (M := mX8_hitsOf) (tgt := 72) dX8_hitsOf_66 (by decide) g70.1 g70.2 (fun c69 => ?_) (fun c69 => ?_)
        · have h41 := zti c69 h41
          refine g_iload_n (M := mX8_hitsOf) dX8_hitsOf_72 2 rfl rfl ?_
          refine g_iload_n (M := mX8_hitsOf) dX8_hitsOf_73 1 rfl rfl ?_
          obtain ⟨g72, h41⟩ := zgi h41
          refine h_icmp_ne (M := mX8_hitsOf) (tgt := 94) dX8_hitsOf_74 (by decide) g72.1 g72.2 (fun c71 => ?_) (fun c71 => ?_)
          · have h41 := zfi c71 h41
            refine h_iinc (M := mX8_hitsOf) (j := 2) (lv' := [(0, .ref (A qMo)), (1, .int (iI a1)), (2, .int (iI (s41.1 + 1))), (3, .int (iI s1.2.1)), (4, .int (iI s41.2.1)), (5, .int (iI x68))]) dX8_hitsOf_94 rfl (Nat.le_of_ble_eq_true rfl) rfl ?_
            refine h_iinc (M := mX8_hitsOf) (j := 4) (lv' := [(0, .ref (A qMo)), (1, .int (iI a1)), (2, .int (iI (s41.1 + 1))), (3, .int (iI s1.2.1)), (4, .int (iI (s41.2.1 + 1))), (5, .int (iI x68))]) dX8_hitsOf_97 rfl (Nat.le_of_ble_eq_true rfl) rfl ?_
            refine g_goto (M := mX8_hitsOf) (tgt := 17) dX8_hitsOf_100 (by decide) ?_
            refine g_lv (M := mX8_hitsOf) [0, 1, 2, 3, 4] rfl ?_
            exact b41 _ (Option.some.inj h41).symm
          · have h41 := zti c71 h41
            refine g_aload_n (M := mX8_hitsOf) dX8_hitsOf_77 0 rfl rfl ?_
            refine g_iload_n (M := mX8_hitsOf) dX8_hitsOf_78 3 rfl rfl ?_
            refine c_put (M := mX8_hitsOf) (k := 27) dX8_hitsOf_79 kF_X8_286 (by omega) rfl rfl (by decide) rfl rfl ?_
            refine g_aload_n (M := mX8_hitsOf) dX8_hitsOf_82 0 rfl rfl ?_
            refine g_iload (M := mX8_hitsOf) dX8_hitsOf_83 4 rfl ?_
            refine c_put (M := mX8_hitsOf) (k := 28) dX8_hitsOf_85 kF_X8_289 (by omega) rfl rfl (by decide) rfl rfl ?_
            refine g_aload_n (M := mX8_hitsOf) dX8_hitsOf_88 0 rfl rfl ?_
            refine g_iload (M := mX8_hitsOf) dX8_hitsOf_89 5 rfl ?_
            refine c_put (M := mX8_hitsOf) (k := 29) dX8_hitsOf_91 kF_X8_292 (by omega) rfl rfl (by decide) rfl rfl ?_
            refine h_iinc (M := mX8_hitsOf) (j := 2) (lv' := [(0, .ref (A qMo)), (1, .int (iI a1)), (2, .int (iI (s41.1 + 1))), (3, .int (iI s1.2.1)), (4, .int (iI s41.2.1)), (5, .int (iI x68))]) dX8_hitsOf_94 rfl (Nat.le_of_ble_eq_true rfl) rfl ?_
            refine h_iinc (M := mX8_hitsOf) (j := 4) (lv' := [(0, .ref (A qMo)), (1, .int (iI a1)), (2, .int (iI (s41.1 + 1))), (3, .int (iI s1.2.1)), (4, .int (iI (s41.2.1 + 1))), (5, .int (iI x68))]) dX8_hitsOf_97 rfl (Nat.le_of_ble_eq_true rfl) rfl ?_
            refine g_goto (M := mX8_hitsOf) (tgt := 17) dX8_hitsOf_100 (by decide) ?_
            refine g_lv (M := mX8_hitsOf) [0, 1, 2, 3, 4] rfl ?_
            exact b41 _ (Option.some.inj h41).symm
        · have h41 := zfi (Int.not_le.mpr c69) h41
          refine g_goto (M := mX8_hitsOf) (tgt := 97) dX8_hitsOf_69 (by decide) ?_
          refine h_iinc (M := mX8_hitsOf) (j := 4) (lv' := [(0, .ref (A qMo)), (1, .int (iI a1)), (2, .int (iI s41.1)), (3, .int (iI s1.2.1)), (4, .int (iI (s41.2.1 + 1))), (5, .int (iI x68))]) dX8_hitsOf_97 rfl (Nat.le_of_ble_eq_true rfl) rfl ?_
          refine g_goto (M := mX8_hitsOf) (tgt := 17) dX8_hitsOf_100 (by decide) ?_
          refine g_lv (M := mX8_hitsOf) [0, 1, 2, 3, 4] rfl ?_
          exact b41 _ (Option.some.inj h41).symm
      · refine h_beq (M := mX8_hitsOf) (tgt := 54) dX8_hitsOf_35 (by decide) (fun c73 => ?_) (fun c73 => ?_)
        · have h41 := zfi (zbf c73) h41
          refine h_bipush (M := mX8_hitsOf) dX8_hitsOf_54 rfl ?_
          exact j68 30 h41
        · have h41 := zti c73 h41
          refine g_aload_n (M := mX8_hitsOf) dX8_hitsOf_38 0 rfl rfl ?_
          refine g_iload_n (M := mX8_hitsOf) dX8_hitsOf_39 3 rfl rfl ?_
          refine g_iload (M := mX8_hitsOf) dX8_hitsOf_40 4 rfl ?_
          refine g_aload_n (M := mX8_hitsOf) dX8_hitsOf_42 0 rfl rfl ?_
          refine k_get (M := mX8_hitsOf) (v := .ref (A (qMo + 2))) dX8_hitsOf_43 kF_X8_20.r qMo (by omega) (zC_o) rfl ?_
          refine h_iconst (M := mX8_hitsOf) dX8_hitsOf_46 ?_
          refine k_iald (M := mX8_hitsOf) (len := 351) (f := s41.2.2.2 2) dX8_hitsOf_47 (qMo + 2) (by omega) (zC_a (d := (0, 351)) 1 rfl) (Nat.le_of_ble_eq_true rfl) (by decide) (by decide) ?_
          obtain ⟨t74, u75, h41⟩ := zbi h41
          refine g_callVr (M := mX8_hitsOf) [.int (iI s1.2.1), .int (iI s41.2.1), .int (iI (s41.2.2.2 2 2))] hX dX8_hitsOf_48 vX8_differsAt kM_X8_235 (wX8_differsAt hX zC_self (by omega)  u75) qMo (zWs_at (by omega) (zC_o)) rfl ⟨(Nat.le_of_ble_eq_true rfl), (Nat.le_of_ble_eq_true rfl)⟩ ⟨(Nat.le_of_ble_eq_true rfl), (Nat.le_of_ble_eq_true rfl)⟩ (Nat.le_of_ble_eq_true rfl) ?_
          refine g_goto (M := mX8_hitsOf) (tgt := 56) dX8_hitsOf_51 (by decide) ?_
          exact j68 t74 h41
set_option maxHeartbeats 4000000 in
set_option maxRecDepth 100000 in
theorem wX8_hit {X : zX} (hX : zOK X) {A : Nat → Nat} {n : Nat} {S : Nat → va_E} {qMo : Nat} {VMo : CV} (hMo : isC X A shMo qMo VMo S) (bMo : qMo + 20 < n) {a1 : Int} {a2 : Int} {a3 : Int} {res : CV × Int} (h : fX8_hit VMo a1 a2 a3 = some res) : Con X yX8_hit mX8_hit 4 0 0 [.ref (A qMo), .int (iI a1), .int (iI a2), .int (iI a3)] (zWs A n S) (zRet (zWs A n (zC X A shMo qMo res.1 S)) (some (.int (iI res.2)))) := by
  refine con_of (lv := [(0, .ref (A qMo)), (1, .int (iI a1)), (2, .int (iI a2)), (3, .int (iI a3))]) (by decide) rfl (fun h => by cases h) rfl (Nat.le_of_ble_eq_true rfl) rfl ?_
  refine g_ws (M := mX8_hit) (congrArg (zWs A n) hMo.symm) ?_
  unfold fX8_hit at h
  refine h_iconst (M := mX8_hit) dX8_hit_0 ?_
  refine g_istore (M := mX8_hit) (lv' := [(0, .ref (A qMo)), (1, .int (iI a1)), (2, .int (iI a2)), (3, .int (iI a3)), (4, .int (iI 0))]) dX8_hit_1 (by decide) rfl ?_
  refine g_aload_n (M := mX8_hit) dX8_hit_3 0 rfl rfl ?_
  refine g_iload_n (M := mX8_hit) dX8_hit_4 1 rfl rfl ?_
  obtain ⟨t1, u2, h⟩ := zbi h
  refine g_callVr (M := mX8_hit) [.int (iI a1)] hX dX8_hit_5 vX8_isOne kM_X8_268 (wX8_isOne hX zC_self (by omega)  u2) qMo (zWs_at (by omega) (zC_o)) rfl ⟨(Nat.le_of_ble_eq_true rfl), (Nat.le_of_ble_eq_true rfl)⟩ ⟨(Nat.le_of_ble_eq_true rfl), (Nat.le_of_ble_eq_true rfl)⟩ (Nat.le_of_ble_eq_true rfl) ?_
  refine zJn_J (J := fun x8 => G X mX8_hit (zPm X 4 0 0 (zRet (zWs A n (zC X A shMo qMo res.1 S)) (some (.int (iI res.2))))) 0 0 23 [(0, .ref (A qMo)), (2, .int (iI a2)), (3, .int (iI a3)), (4, .int (iI x8.1))] [] (zWs A n (zC X A shMo qMo x8.2 S))) h (fun x8 h => ?_) (fun j8 h => ?_)
  · refine g_aload_n (M := mX8_hit) dX8_hit_23 0 rfl rfl ?_
    refine g_iload_n (M := mX8_hit) dX8_hit_24 1 rfl rfl ?_
    obtain ⟨g9, h⟩ := zgi h
    refine h_i2l (M := mX8_hit) dX8_hit_25 g9 ?_
    refine g_lconst (M := mX8_hit) (v := iL 0) dX8_hit_26 rfl ?_
    refine g_iload (M := mX8_hit) dX8_hit_27 3 rfl ?_
    refine h_iconst (M := mX8_hit) dX8_hit_29 ?_
    refine h_isub (M := mX8_hit) dX8_hit_30 ?_
    obtain ⟨g10, h⟩ := zgi h
    refine h_i2l (M := mX8_hit) dX8_hit_31 g10 ?_
    obtain ⟨t11, u12, h⟩ := zbi h
    refine g_callSr (M := mX8_hit) [.long (iL a2), .long (iL 0), .long (iL (x8.1 - 1))] hX dX8_hit_32 vX8_isIn kM_X8_99 (wX8_isIn hX   u12) rfl ⟨(Nat.le_of_ble_eq_true rfl), (Nat.le_of_ble_eq_true rfl)⟩ ⟨(Nat.le_of_ble_eq_true rfl), (Nat.le_of_ble_eq_true rfl)⟩ (Nat.le_of_ble_eq_true rfl) ?_
    refine g_iload_n (M := mX8_hit) dX8_hit_35 2 rfl rfl ?_
    obtain ⟨g13, h⟩ := zgi h
    refine h_i2l (M := mX8_hit) dX8_hit_36 g13 ?_
    refine g_lconst (M := mX8_hit) (v := iL 0) dX8_hit_37 rfl ?_
    refine g_ldc2 (M := mX8_hit) (v := iL (2)) dX8_hit_38 kC_X8_298 ?_
    obtain ⟨t14, u15, h⟩ := zbi h
    refine g_callSr (M := mX8_hit) [.long (iL a3), .long (iL 0), .long (iL 2)] hX dX8_hit_41 vX8_isIn kM_X8_99 (wX8_isIn hX   u15) rfl ⟨(Nat.le_of_ble_eq_true rfl), (Nat.le_of_ble_eq_true rfl)⟩ ⟨(Nat.le_of_ble_eq_true rfl), (Nat.le_of_ble_eq_true rfl)⟩ (Nat.le_of_ble_eq_true rfl) ?_
    obtain ⟨t16, u17, h⟩ := zbi h
    refine g_callVr (M := mX8_hit) [.int (iI (b2 t11)), .int (iI (b2 t14))] hX dX8_hit_44 vX8_goesBoth kM_X8_261 (wX8_goesBoth hX zC_self (by omega)  u17) qMo (zWs_at (by omega) (zC_o)) rfl ⟨(Nat.le_of_ble_eq_true rfl), (Nat.le_of_ble_eq_true rfl)⟩ ⟨(Nat.le_of_ble_eq_true rfl), (Nat.le_of_ble_eq_true rfl)⟩ (Nat.le_of_ble_eq_true rfl) ?_
    refine g_ws (M := mX8_hit) (congrArg (zWs A n) zC_over) ?_
    refine h_bne (M := mX8_hit) (tgt := 52) dX8_hit_47 (by decide) (fun c18 => ?_) (fun c18 => ?_)
    · have h := zti c18 h
      refine g_iload_n (M := mX8_hit) dX8_hit_52 2 rfl rfl ?_
      refine h_if_ne (M := mX8_hit) (tgt := 63) dX8_hit_53 (by decide) g13 (fun c19 => ?_) (fun c19 => ?_)
      · have h := zfi c19 h
        refine g_iload_n (M := mX8_hit) dX8_hit_63 2 rfl rfl ?_
        refine h_iconst (M := mX8_hit) dX8_hit_64 ?_
        refine h_icmp_ne (M := mX8_hit) (tgt := 75) dX8_hit_65 (by decide) g13 (by decide) (fun c20 => ?_) (fun c20 => ?_)
        · have h := zfi c20 h
          refine g_aload_n (M := mX8_hit) dX8_hit_75 0 rfl rfl ?_
          refine k_get (M := mX8_hit) (v := .int (iI (t16.1.1 29))) dX8_hit_76 kF_X8_292.r qMo (by omega) (zC_o) rfl ?_
          have e := (Option.some.inj h)
          subst e
          exact g_iret (M := mX8_hit) dX8_hit_79 rfl (Nat.le_of_ble_eq_true rfl) (Nat.le_of_ble_eq_true rfl) ⟨rfl, rfl⟩
        · have h := zti c20 h
          refine g_aload_n (M := mX8_hit) dX8_hit_68 0 rfl rfl ?_
          refine k_get (M := mX8_hit) (v := .int (iI (t16.1.1 28))) dX8_hit_69 kF_X8_289.r qMo (by omega) (zC_o) rfl ?_
          refine g_goto (M := mX8_hit) (tgt := 79) dX8_hit_72 (by decide) ?_
          have e := (Option.some.inj h)
          subst e
          exact g_iret (M := mX8_hit) dX8_hit_79 rfl (Nat.le_of_ble_eq_true rfl) (Nat.le_of_ble_eq_true rfl) ⟨rfl, rfl⟩
      · have h := zti c19 h
        refine g_aload_n (M := mX8_hit) dX8_hit_56 0 rfl rfl ?_
        refine k_get (M := mX8_hit) (v := .int (iI (t16.1.1 27))) dX8_hit_57 kF_X8_286.r qMo (by omega) (zC_o) rfl ?_
        refine g_goto (M := mX8_hit) (tgt := 79) dX8_hit_60 (by decide) ?_
        have e := (Option.some.inj h)
        subst e
        exact g_iret (M := mX8_hit) dX8_hit_79 rfl (Nat.le_of_ble_eq_true rfl) (Nat.le_of_ble_eq_true rfl) ⟨rfl, rfl⟩
    · have h := zfi (zbf c18) h
      refine h_iconst (M := mX8_hit) dX8_hit_50 ?_
      have e := (Option.some.inj h)
      subst e
      exact g_iret (M := mX8_hit) dX8_hit_51 rfl (Nat.le_of_ble_eq_true rfl) (Nat.le_of_ble_eq_true rfl) ⟨rfl, rfl⟩
  · refine h_beq (M := mX8_hit) (tgt := 23) dX8_hit_8 (by decide) (fun c21 => ?_) (fun c21 => ?_)
    · have h := zfi (zbf c21) h
      refine g_lv (M := mX8_hit) [0, 2, 3, 4] rfl ?_
      exact j8 (0, VMo) h
    · have h := zti c21 h
      refine g_aload_n (M := mX8_hit) dX8_hit_11 0 rfl rfl ?_
      refine g_iload_n (M := mX8_hit) dX8_hit_12 1 rfl rfl ?_
      obtain ⟨t22, u23, h⟩ := zbi h
      refine g_callVr (M := mX8_hit) [.int (iI a1)] hX dX8_hit_13 vX8_spells kM_X8_242 (wX8_spells hX zC_self (by omega)  u23) qMo (zWs_at (by omega) (zC_o)) rfl ⟨(Nat.le_of_ble_eq_true rfl), (Nat.le_of_ble_eq_true rfl)⟩ ⟨(Nat.le_of_ble_eq_true rfl), (Nat.le_of_ble_eq_true rfl)⟩ (Nat.le_of_ble_eq_true rfl) ?_
      refine g_ws (M := mX8_hit) (congrArg (zWs A n) zC_over) ?_
      refine g_aload_n (M := mX8_hit) dX8_hit_16 0 rfl rfl ?_
      refine g_iload_n (M := mX8_hit) dX8_hit_17 2 rfl rfl ?_
      obtain ⟨t24, u25, h⟩ := zbi h
      refine g_callVr (M := mX8_hit) [.int (iI a2)] hX dX8_hit_18 vX8_hitsOf kM_X8_295 (wX8_hitsOf hX zC_self (by omega)  u25) qMo (zWs_at (by omega) (zC_o)) rfl ⟨(Nat.le_of_ble_eq_true rfl), (Nat.le_of_ble_eq_true rfl)⟩ ⟨(Nat.le_of_ble_eq_true rfl), (Nat.le_of_ble_eq_true rfl)⟩ (Nat.le_of_ble_eq_true rfl) ?_
      refine g_ws (M := mX8_hit) (congrArg (zWs A n) zC_over) ?_
      refine g_istore (M := mX8_hit) (lv' := [(0, .ref (A qMo)), (1, .int (iI a1)), (2, .int (iI a2)), (3, .int (iI a3)), (4, .int (iI t24.2))]) dX8_hit_21 (by decide) rfl ?_
      refine g_lv (M := mX8_hit) [0, 2, 3, 4] rfl ?_
      exact j8 (t24.2, t24.1) h
set_option maxHeartbeats 4000000 in
set_option maxRecDepth 100000 in
theorem wX8_hits {X : zX} (hX : zOK X) {A : Nat → Nat} {n : Nat} {S : Nat → va_E} {qMo : Nat} {VMo : CV} (hMo : isC X A shMo qMo VMo S) (bMo : qMo + 20 < n) {a1 : Int} {res : CV × Int} (h : fX8_hits VMo a1 = some res) : Con X yX8_hits mX8_hits 4 0 0 [.ref (A qMo), .int (iI a1)] (zWs A n S) (zRet (zWs A n (zC X A shMo qMo res.1 S)) (some (.int (iI res.2)))) := by
  refine con_of (lv := [(0, .ref (A qMo)), (1, .int (iI a1))]) (by decide) rfl (fun h => by cases h) rfl (Nat.le_of_ble_eq_true rfl) rfl ?_
  refine g_ws (M := mX8_hits) (congrArg (zWs A n) hMo.symm) ?_
  unfold fX8_hits at h
  refine g_aload_n (M := mX8_hits) dX8_hits_0 0 rfl rfl ?_
  refine g_aload_n (M := mX8_hits) dX8_hits_1 0 rfl rfl ?_
  refine g_iload_n (M := mX8_hits) dX8_hits_2 1 rfl rfl ?_
  obtain ⟨t1, u2, h⟩ := zbi h
  refine g_callVr (M := mX8_hits) [.int (iI a1)] hX dX8_hits_3 vX8_isOne kM_X8_268 (wX8_isOne hX zC_self (by omega)  u2) qMo (zWs_at (by omega) (zC_o)) rfl ⟨(Nat.le_of_ble_eq_true rfl), (Nat.le_of_ble_eq_true rfl)⟩ ⟨(Nat.le_of_ble_eq_true rfl), (Nat.le_of_ble_eq_true rfl)⟩ (Nat.le_of_ble_eq_true rfl) ?_
  obtain ⟨t3, u4, h⟩ := zbi h
  refine g_callVr (M := mX8_hits) [.int (iI (b2 t1))] hX dX8_hits_6 vX8_goes kM_X8_91 (wX8_goes hX zC_self (by omega)  u4) qMo (zWs_at (by omega) (zC_o)) rfl ⟨(Nat.le_of_ble_eq_true rfl), (Nat.le_of_ble_eq_true rfl)⟩ ⟨(Nat.le_of_ble_eq_true rfl), (Nat.le_of_ble_eq_true rfl)⟩ (Nat.le_of_ble_eq_true rfl) ?_
  refine g_ws (M := mX8_hits) (congrArg (zWs A n) zC_over) ?_
  refine h_bne (M := mX8_hits) (tgt := 14) dX8_hits_9 (by decide) (fun c5 => ?_) (fun c5 => ?_)
  · have h := zti c5 h
    refine g_aload_n (M := mX8_hits) dX8_hits_14 0 rfl rfl ?_
    refine g_iload_n (M := mX8_hits) dX8_hits_15 1 rfl rfl ?_
    obtain ⟨t6, u7, h⟩ := zbi h
    refine g_callVr (M := mX8_hits) [.int (iI a1)] hX dX8_hits_16 vX8_spells kM_X8_242 (wX8_spells hX zC_self (by omega)  u7) qMo (zWs_at (by omega) (zC_o)) rfl ⟨(Nat.le_of_ble_eq_true rfl), (Nat.le_of_ble_eq_true rfl)⟩ ⟨(Nat.le_of_ble_eq_true rfl), (Nat.le_of_ble_eq_true rfl)⟩ (Nat.le_of_ble_eq_true rfl) ?_
    refine g_ws (M := mX8_hits) (congrArg (zWs A n) zC_over) ?_
    refine g_aload_n (M := mX8_hits) dX8_hits_19 0 rfl rfl ?_
    refine h_iconst (M := mX8_hits) dX8_hits_20 ?_
    obtain ⟨t8, u9, h⟩ := zbi h
    refine g_callVr (M := mX8_hits) [.int (iI (-1))] hX dX8_hits_21 vX8_hitsOf kM_X8_295 (wX8_hitsOf hX zC_self (by omega)  u9) qMo (zWs_at (by omega) (zC_o)) rfl ⟨(Nat.le_of_ble_eq_true rfl), (Nat.le_of_ble_eq_true rfl)⟩ ⟨(Nat.le_of_ble_eq_true rfl), (Nat.le_of_ble_eq_true rfl)⟩ (Nat.le_of_ble_eq_true rfl) ?_
    refine g_ws (M := mX8_hits) (congrArg (zWs A n) zC_over) ?_
    have e := (Option.some.inj h)
    subst e
    exact g_iret (M := mX8_hits) dX8_hits_24 rfl (Nat.le_of_ble_eq_true rfl) (Nat.le_of_ble_eq_true rfl) ⟨rfl, rfl⟩
  · have h := zfi (zbf c5) h
    refine h_iconst (M := mX8_hits) dX8_hits_12 ?_
    have e := (Option.some.inj h)
    subst e
    exact g_iret (M := mX8_hits) dX8_hits_13 rfl (Nat.le_of_ble_eq_true rfl) (Nat.le_of_ble_eq_true rfl) ⟨rfl, rfl⟩
set_option maxHeartbeats 4000000 in
set_option maxRecDepth 100000 in
theorem wX8_improve {X : zX} (hX : zOK X) {A : Nat → Nat} {n : Nat} {S : Nat → va_E} {qMo : Nat} {VMo : CV} (hMo : isC X A shMo qMo VMo S) (bMo : qMo + 20 < n) {a1 : Int} {res : CV × Int} (h : fX8_improve VMo a1 = some res) : Con X yX8_improve mX8_improve 6 0 0 [.ref (A qMo), .int (iI a1)] (zWs A n S) (zRet (zWs A n (zC X A shMo qMo res.1 S)) (some (.int (iI res.2)))) := by
  refine con_of (lv := [(0, .ref (A qMo)), (1, .int (iI a1))]) (by decide) rfl (fun h => by cases h) rfl (Nat.le_of_ble_eq_true rfl) rfl ?_
  refine g_ws (M := mX8_improve) (congrArg (zWs A n) hMo.symm) ?_
  unfold fX8_improve at h
  refine g_aload_n (M := mX8_improve) dX8_improve_0 0 rfl rfl ?_
  refine g_iload_n (M := mX8_improve) dX8_improve_1 1 rfl rfl ?_
  obtain ⟨g1, h⟩ := zgi h
  refine h_i2l (M := mX8_improve) dX8_improve_2 g1 ?_
  refine g_lconst (M := mX8_improve) (v := iL 1) dX8_improve_3 rfl ?_
  refine g_ldc2 (M := mX8_improve) (v := iL (50)) dX8_improve_4 kC_X8_374 ?_
  obtain ⟨t2, u3, h⟩ := zbi h
  refine g_callSr (M := mX8_improve) [.long (iL a1), .long (iL 1), .long (iL 50)] hX dX8_improve_7 vX8_isIn kM_X8_99 (wX8_isIn hX   u3) rfl ⟨(Nat.le_of_ble_eq_true rfl), (Nat.le_of_ble_eq_true rfl)⟩ ⟨(Nat.le_of_ble_eq_true rfl), (Nat.le_of_ble_eq_true rfl)⟩ (Nat.le_of_ble_eq_true rfl) ?_
  obtain ⟨t4, u5, h⟩ := zbi h
  refine g_callVr (M := mX8_improve) [.int (iI (b2 t2))] hX dX8_improve_10 vX8_goes kM_X8_91 (wX8_goes hX zC_self (by omega)  u5) qMo (zWs_at (by omega) (zC_o)) rfl ⟨(Nat.le_of_ble_eq_true rfl), (Nat.le_of_ble_eq_true rfl)⟩ ⟨(Nat.le_of_ble_eq_true rfl), (Nat.le_of_ble_eq_true rfl)⟩ (Nat.le_of_ble_eq_true rfl) ?_
  refine g_ws (M := mX8_improve) (congrArg (zWs A n) zC_over) ?_
  refine h_bne (M := mX8_improve) (tgt := 18) dX8_improve_13 (by decide) (fun c6 => ?_) (fun c6 => ?_)
  · have h := zti c6 h
    refine g_aload_n (M := mX8_improve) dX8_improve_18 0 rfl rfl ?_
    obtain ⟨t7, u8, h⟩ := zbi h
    refine g_callVr (M := mX8_improve) [] hX dX8_improve_19 vX8_laysAside kM_X8_217 (wX8_laysAside hX zC_self (by omega)  u8) qMo (zWs_at (by omega) (zC_o)) rfl ⟨(Nat.le_of_ble_eq_true rfl), (Nat.le_of_ble_eq_true rfl)⟩ ⟨(Nat.le_of_ble_eq_true rfl), (Nat.le_of_ble_eq_true rfl)⟩ (Nat.le_of_ble_eq_true rfl) ?_
    refine g_ws (M := mX8_improve) (congrArg (zWs A n) zC_over) ?_
    refine g_aload_n (M := mX8_improve) dX8_improve_22 0 rfl rfl ?_
    refine g_aload_n (M := mX8_improve) dX8_improve_23 0 rfl rfl ?_
    refine g_iload_n (M := mX8_improve) dX8_improve_24 1 rfl rfl ?_
    obtain ⟨t9, u10, h⟩ := zbi h
    refine g_callVr (M := mX8_improve) [.int (iI a1)] hX dX8_improve_25 vX8_improves kM_X8_368 (wX8_improves hX zC_self (by omega)  u10) qMo (zWs_at (by omega) (zC_o)) rfl ⟨(Nat.le_of_ble_eq_true rfl), (Nat.le_of_ble_eq_true rfl)⟩ ⟨(Nat.le_of_ble_eq_true rfl), (Nat.le_of_ble_eq_true rfl)⟩ (Nat.le_of_ble_eq_true rfl) ?_
    refine g_ws (M := mX8_improve) (congrArg (zWs A n) zC_over) ?_
    obtain ⟨t11, u12, h⟩ := zbi h
    refine g_callVr (M := mX8_improve) [.int (iI t9.2)] hX dX8_improve_28 vX8_kept kM_X8_382 (wX8_kept hX zC_self (by omega)  u12) qMo (zWs_at (by omega) (zC_o)) rfl ⟨(Nat.le_of_ble_eq_true rfl), (Nat.le_of_ble_eq_true rfl)⟩ ⟨(Nat.le_of_ble_eq_true rfl), (Nat.le_of_ble_eq_true rfl)⟩ (Nat.le_of_ble_eq_true rfl) ?_
    refine g_ws (M := mX8_improve) (congrArg (zWs A n) zC_over) ?_
    have e := (Option.some.inj h)
    subst e
    exact g_iret (M := mX8_improve) dX8_improve_31 rfl (Nat.le_of_ble_eq_true rfl) (Nat.le_of_ble_eq_true rfl) ⟨rfl, rfl⟩
  · have h := zfi (zbf c6) h
    refine h_iconst (M := mX8_improve) dX8_improve_16 ?_
    have e := (Option.some.inj h)
    subst e
    exact g_iret (M := mX8_improve) dX8_improve_17 rfl (Nat.le_of_ble_eq_true rfl) (Nat.le_of_ble_eq_true rfl) ⟨rfl, rfl⟩
set_option maxHeartbeats 4000000 in
set_option maxRecDepth 100000 in
theorem wX8_improvesToEnd {X : zX} (hX : zOK X) {A : Nat → Nat} {n : Nat} {S : Nat → va_E} {qMo : Nat} {VMo : CV} (hMo : isC X A shMo qMo VMo S) (bMo : qMo + 20 < n) {a1 : Int} {res : CV × Int} (h : fX8_improvesToEnd VMo a1 = some res) : Con X yX8_improvesToEnd mX8_improvesToEnd 5 0 0 [.ref (A qMo), .int (iI a1)] (zWs A n S) (zRet (zWs A n (zC X A shMo qMo res.1 S)) (some (.int (iI res.2)))) := by
  refine con_of (lv := [(0, .ref (A qMo)), (1, .int (iI a1))]) (by decide) rfl (fun h => by cases h) rfl (Nat.le_of_ble_eq_true rfl) rfl ?_
  refine g_ws (M := mX8_improvesToEnd) (congrArg (zWs A n) hMo.symm) ?_
  unfold fX8_improvesToEnd at h
  refine g_aload_n (M := mX8_improvesToEnd) dX8_improvesToEnd_0 0 rfl rfl ?_
  refine g_iload_n (M := mX8_improvesToEnd) dX8_improvesToEnd_1 1 rfl rfl ?_
  obtain ⟨g1, h⟩ := zgi h
  refine h_i2l (M := mX8_improvesToEnd) dX8_improvesToEnd_2 g1 ?_
  refine g_lconst (M := mX8_improvesToEnd) (v := iL 0) dX8_improvesToEnd_3 rfl ?_
  refine g_ldc2 (M := mX8_improvesToEnd) (v := iL (50)) dX8_improvesToEnd_4 kC_X8_374 ?_
  obtain ⟨t2, u3, h⟩ := zbi h
  refine g_callSr (M := mX8_improvesToEnd) [.long (iL a1), .long (iL 0), .long (iL 50)] hX dX8_improvesToEnd_7 vX8_isIn kM_X8_99 (wX8_isIn hX   u3) rfl ⟨(Nat.le_of_ble_eq_true rfl), (Nat.le_of_ble_eq_true rfl)⟩ ⟨(Nat.le_of_ble_eq_true rfl), (Nat.le_of_ble_eq_true rfl)⟩ (Nat.le_of_ble_eq_true rfl) ?_
  obtain ⟨t4, u5, h⟩ := zbi h
  refine g_callVr (M := mX8_improvesToEnd) [.int (iI (b2 t2))] hX dX8_improvesToEnd_10 vX8_goes kM_X8_91 (wX8_goes hX zC_self (by omega)  u5) qMo (zWs_at (by omega) (zC_o)) rfl ⟨(Nat.le_of_ble_eq_true rfl), (Nat.le_of_ble_eq_true rfl)⟩ ⟨(Nat.le_of_ble_eq_true rfl), (Nat.le_of_ble_eq_true rfl)⟩ (Nat.le_of_ble_eq_true rfl) ?_
  refine g_ws (M := mX8_improvesToEnd) (congrArg (zWs A n) zC_over) ?_
  refine h_bne (M := mX8_improvesToEnd) (tgt := 18) dX8_improvesToEnd_13 (by decide) (fun c6 => ?_) (fun c6 => ?_)
  · have h := zti c6 h
    refine g_aload_n (M := mX8_improvesToEnd) dX8_improvesToEnd_18 0 rfl rfl ?_
    obtain ⟨t7, u8, h⟩ := zbi h
    refine g_callVr (M := mX8_improvesToEnd) [] hX dX8_improvesToEnd_19 vX8_thinks kM_X8_338 (wX8_thinks hX zC_self (by omega)  u8) qMo (zWs_at (by omega) (zC_o)) rfl ⟨(Nat.le_of_ble_eq_true rfl), (Nat.le_of_ble_eq_true rfl)⟩ ⟨(Nat.le_of_ble_eq_true rfl), (Nat.le_of_ble_eq_true rfl)⟩ (Nat.le_of_ble_eq_true rfl) ?_
    refine g_ws (M := mX8_improvesToEnd) (congrArg (zWs A n) zC_over) ?_
    refine h_iconst (M := mX8_improvesToEnd) dX8_improvesToEnd_22 ?_
    refine g_istore_n (M := mX8_improvesToEnd) (lv' := [(0, .ref (A qMo)), (1, .int (iI a1)), (2, .int (iI 0))]) dX8_improvesToEnd_23 rfl (by decide) rfl ?_
    refine g_aload_n (M := mX8_improvesToEnd) dX8_improvesToEnd_24 0 rfl rfl ?_
    obtain ⟨t9, u10, h⟩ := zbi h
    refine g_callVr (M := mX8_improvesToEnd) [] hX dX8_improvesToEnd_25 vX8_improvesOnce kM_X8_365 (wX8_improvesOnce hX zC_self (by omega)  u10) qMo (zWs_at (by omega) (zC_o)) rfl ⟨(Nat.le_of_ble_eq_true rfl), (Nat.le_of_ble_eq_true rfl)⟩ ⟨(Nat.le_of_ble_eq_true rfl), (Nat.le_of_ble_eq_true rfl)⟩ (Nat.le_of_ble_eq_true rfl) ?_
    refine g_ws (M := mX8_improvesToEnd) (congrArg (zWs A n) zC_over) ?_
    refine g_istore_n (M := mX8_improvesToEnd) (lv' := [(0, .ref (A qMo)), (1, .int (iI a1)), (2, .int (iI 0)), (3, .int (iI (b2 t9.2)))]) dX8_improvesToEnd_28 rfl (by decide) rfl ?_
    obtain ⟨x11, l11, h⟩ := zbi h
    have r11 : ∀ y11, y11 = x11 → G X mX8_improvesToEnd (zPm X 5 0 0 (zRet (zWs A n (zC X A shMo qMo res.1 S)) (some (.int (iI res.2))))) 0 0 49 [(0, .ref (A qMo)), (2, .int (iI y11.1)), (3, .int (iI y11.2.1))] [] (zWs A n (zC X A shMo qMo y11.2.2 S)) := by
      intro y11 ey
      rw [← ey] at h
      refine g_aload_n (M := mX8_improvesToEnd) dX8_improvesToEnd_49 0 rfl rfl ?_
      obtain ⟨t18, u19, h⟩ := zbi h
      refine g_callVr (M := mX8_improvesToEnd) [] hX dX8_improvesToEnd_50 vX8_thinksNoMore kM_X8_344 (wX8_thinksNoMore hX zC_self (by omega)  u19) qMo (zWs_at (by omega) (zC_o)) rfl ⟨(Nat.le_of_ble_eq_true rfl), (Nat.le_of_ble_eq_true rfl)⟩ ⟨(Nat.le_of_ble_eq_true rfl), (Nat.le_of_ble_eq_true rfl)⟩ (Nat.le_of_ble_eq_true rfl) ?_
      refine g_ws (M := mX8_improvesToEnd) (congrArg (zWs A n) zC_over) ?_
      refine g_iload_n (M := mX8_improvesToEnd) dX8_improvesToEnd_53 2 rfl rfl ?_
      obtain ⟨g21, h⟩ := zgi h
      refine h_if_eq (M := mX8_improvesToEnd) (tgt := 61) dX8_improvesToEnd_54 (by decide) g21 (fun c20 => ?_) (fun c20 => ?_)
      · have h := zti c20 h
        refine g_iload_n (M := mX8_improvesToEnd) dX8_improvesToEnd_61 1 rfl rfl ?_
        have e := (Option.some.inj h)
        subst e
        exact g_iret (M := mX8_improvesToEnd) dX8_improvesToEnd_62 rfl (Nat.le_of_ble_eq_true rfl) (Nat.le_of_ble_eq_true rfl) ⟨rfl, rfl⟩
      · have h := zfi c20 h
        refine h_iconst (M := mX8_improvesToEnd) dX8_improvesToEnd_57 ?_
        refine g_goto (M := mX8_improvesToEnd) (tgt := 62) dX8_improvesToEnd_58 (by decide) ?_
        have e := (Option.some.inj h)
        subst e
        exact g_iret (M := mX8_improvesToEnd) dX8_improvesToEnd_62 rfl (Nat.le_of_ble_eq_true rfl) (Nat.le_of_ble_eq_true rfl) ⟨rfl, rfl⟩
    refine zLp_J (J := fun s11 => G X mX8_improvesToEnd (zPm X 5 0 0 (zRet (zWs A n (zC X A shMo qMo res.1 S)) (some (.int (iI res.2))))) 0 0 29 [(0, .ref (A qMo)), (1, .int (iI a1)), (2, .int (iI s11.1)), (3, .int (iI s11.2.1))] [] (zWs A n (zC X A shMo qMo s11.2.2 S))) (fun s11 w11 h11 b11 e11 => ?_) _ _ l11
    refine g_iload_n (M := mX8_improvesToEnd) dX8_improvesToEnd_29 2 rfl rfl ?_
    refine g_iload_n (M := mX8_improvesToEnd) dX8_improvesToEnd_30 1 rfl rfl ?_
    obtain ⟨g23, h11⟩ := zgi h11
    refine h_icmp_ge (M := mX8_improvesToEnd) (tgt := 49) dX8_improvesToEnd_31 (by decide) g23 g1 (fun c22 => ?_) (fun c22 => ?_)
    · have h11 := zti c22 h11
      refine g_lv (M := mX8_improvesToEnd) [0, 2, 3] rfl ?_
      exact r11 _ (e11 _ (Option.some.inj h11).symm)
    · have h11 := zfi (Int.not_le.mpr c22) h11
      refine g_iload_n (M := mX8_improvesToEnd) dX8_improvesToEnd_34 3 rfl rfl ?_
      obtain ⟨g25, h11⟩ := zgi h11
      refine h_if_eq (M := mX8_improvesToEnd) (tgt := 49) dX8_improvesToEnd_35 (by decide) g25 (fun c24 => ?_) (fun c24 => ?_)
      · have h11 := zti c24 h11
        refine g_lv (M := mX8_improvesToEnd) [0, 2, 3] rfl ?_
        exact r11 _ (e11 _ (Option.some.inj h11).symm)
      · have h11 := zfi c24 h11
        refine g_aload_n (M := mX8_improvesToEnd) dX8_improvesToEnd_38 0 rfl rfl ?_
        obtain ⟨t26, u27, h11⟩ := zbi h11
        refine g_callVr (M := mX8_improvesToEnd) [] hX dX8_improvesToEnd_39 vX8_improvesOnce kM_X8_365 (wX8_improvesOnce hX zC_self (by omega)  u27) qMo (zWs_at (by omega) (zC_o)) rfl ⟨(Nat.le_of_ble_eq_true rfl), (Nat.le_of_ble_eq_true rfl)⟩ ⟨(Nat.le_of_ble_eq_true rfl), (Nat.le_of_ble_eq_true rfl)⟩ (Nat.le_of_ble_eq_true rfl) ?_
        refine g_ws (M := mX8_improvesToEnd) (congrArg (zWs A n) zC_over) ?_
        refine g_istore_n (M := mX8_improvesToEnd) (lv' := [(0, .ref (A qMo)), (1, .int (iI a1)), (2, .int (iI s11.1)), (3, .int (iI (b2 t26.2)))]) dX8_improvesToEnd_42 rfl (by decide) rfl ?_
        refine h_iinc (M := mX8_improvesToEnd) (j := 2) (lv' := [(0, .ref (A qMo)), (1, .int (iI a1)), (2, .int (iI (s11.1 + 1))), (3, .int (iI (b2 t26.2)))]) dX8_improvesToEnd_43 rfl (Nat.le_of_ble_eq_true rfl) rfl ?_
        refine g_goto (M := mX8_improvesToEnd) (tgt := 29) dX8_improvesToEnd_46 (by decide) ?_
        exact b11 _ (Option.some.inj h11).symm
  · have h := zfi (zbf c6) h
    refine h_iconst (M := mX8_improvesToEnd) dX8_improvesToEnd_16 ?_
    have e := (Option.some.inj h)
    subst e
    exact g_iret (M := mX8_improvesToEnd) dX8_improvesToEnd_17 rfl (Nat.le_of_ble_eq_true rfl) (Nat.le_of_ble_eq_true rfl) ⟨rfl, rfl⟩
set_option maxHeartbeats 4000000 in
set_option maxRecDepth 100000 in
theorem wX8_isAt {X : zX} (hX : zOK X) {A : Nat → Nat} {n : Nat} {S : Nat → va_E} {qMo : Nat} {VMo : CV} (hMo : isC X A shMo qMo VMo S) (bMo : qMo + 20 < n) {a1 : Int} {a2 : Int} {res : Bool} (h : fX8_isAt VMo a1 a2 = some res) : Con X yX8_isAt mX8_isAt 3 0 0 [.ref (A qMo), .int (iI a1), .int (iI a2)] (zWs A n S) (zRet (zWs A n S) (some (.int (iI (b2 res))))) := by
  refine con_of (lv := [(0, .ref (A qMo)), (1, .int (iI a1)), (2, .int (iI a2))]) (by decide) rfl (fun h => by cases h) rfl (Nat.le_of_ble_eq_true rfl) rfl ?_
  unfold fX8_isAt at h
  refine h_iconst (M := mX8_isAt) dX8_isAt_0 ?_
  refine g_istore_n (M := mX8_isAt) (lv' := [(0, .ref (A qMo)), (1, .int (iI a1)), (2, .int (iI a2)), (3, .int (iI 0))]) dX8_isAt_1 rfl (by decide) rfl ?_
  refine h_iconst (M := mX8_isAt) dX8_isAt_2 ?_
  refine g_istore (M := mX8_isAt) (lv' := [(0, .ref (A qMo)), (1, .int (iI a1)), (2, .int (iI a2)), (3, .int (iI 0)), (4, .int (iI 0))]) dX8_isAt_3 (by decide) rfl ?_
  obtain ⟨x1, l1, h⟩ := zbi h
  have r1 : ∀ y1, y1 = x1 → G X mX8_isAt (zPm X 3 0 0 (zRet (zWs A n S) (some (.int (iI (b2 res)))))) 0 0 53 [(3, .int (iI y1.1))] [] (zWs A n S) := by
    intro y1 ey
    rw [← ey] at h
    refine g_iload_n (M := mX8_isAt) dX8_isAt_53 0 rfl rfl ?_
    obtain ⟨g15, h⟩ := zgi h
    refine h_top (M := mX8_isAt) (b := b2 (decide (y1.1 = 1))) (b2_d g15) ?_
    have e := (Option.some.inj h)
    subst e
    exact g_zret (M := mX8_isAt) .boolean dX8_isAt_54 rfl (b2_nar _) (Nat.le_of_ble_eq_true rfl) (Nat.le_of_ble_eq_true rfl) ⟨rfl, rfl⟩
  refine zLp_J (J := fun s1 => G X mX8_isAt (zPm X 3 0 0 (zRet (zWs A n S) (some (.int (iI (b2 res)))))) 0 0 5 [(0, .ref (A qMo)), (1, .int (iI a1)), (2, .int (iI a2)), (3, .int (iI s1.1)), (4, .int (iI s1.2))] [] (zWs A n S)) (fun s1 w1 h1 b1 e1 => ?_) _ _ l1
  refine g_iload (M := mX8_isAt) dX8_isAt_5 4 rfl ?_
  refine g_aload_n (M := mX8_isAt) dX8_isAt_7 0 rfl rfl ?_
  refine g_iload_n (M := mX8_isAt) dX8_isAt_8 1 rfl rfl ?_
  refine h_iconst (M := mX8_isAt) dX8_isAt_9 ?_
  obtain ⟨t16, u17, h1⟩ := zbi h1
  refine g_callVr (M := mX8_isAt) [.int (iI a1), .int (iI 0)] hX dX8_isAt_10 vX8_of kM_X8_166 (wX8_of hX hMo (by omega)  u17) qMo (zWs_at (by omega) (hMo.o)) rfl ⟨(Nat.le_of_ble_eq_true rfl), (Nat.le_of_ble_eq_true rfl)⟩ ⟨(Nat.le_of_ble_eq_true rfl), (Nat.le_of_ble_eq_true rfl)⟩ (Nat.le_of_ble_eq_true rfl) ?_
  obtain ⟨g19, h1⟩ := zgi h1
  refine h_icmp_ge (M := mX8_isAt) (tgt := 53) dX8_isAt_13 (by decide) g19.1 g19.2 (fun c18 => ?_) (fun c18 => ?_)
  · have h1 := zti c18 h1
    refine g_lv (M := mX8_isAt) [3] rfl ?_
    exact r1 _ (e1 _ (Option.some.inj h1).symm)
  · have h1 := zfi (Int.not_le.mpr c18) h1
    refine g_iload_n (M := mX8_isAt) dX8_isAt_16 3 rfl rfl ?_
    obtain ⟨g21, h1⟩ := zgi h1
    refine h_if_ne (M := mX8_isAt) (tgt := 41) dX8_isAt_17 (by decide) g21 (fun c20 => ?_) (fun c20 => ?_)
    · have h1 := zfi c20 h1
      refine h_iconst (M := mX8_isAt) dX8_isAt_41 ?_
      refine g_goto (M := mX8_isAt) (tgt := 46) dX8_isAt_42 (by decide) ?_
      refine g_istore_n (M := mX8_isAt) (lv' := [(0, .ref (A qMo)), (1, .int (iI a1)), (2, .int (iI a2)), (3, .int (iI 1)), (4, .int (iI s1.2))]) dX8_isAt_46 rfl (by decide) rfl ?_
      refine h_iinc (M := mX8_isAt) (j := 4) (lv' := [(0, .ref (A qMo)), (1, .int (iI a1)), (2, .int (iI a2)), (3, .int (iI 1)), (4, .int (iI (s1.2 + 1)))]) dX8_isAt_47 rfl (Nat.le_of_ble_eq_true rfl) rfl ?_
      refine g_goto (M := mX8_isAt) (tgt := 5) dX8_isAt_50 (by decide) ?_
      exact b1 _ (Option.some.inj h1).symm
    · have h1 := zti c20 h1
      refine g_aload_n (M := mX8_isAt) dX8_isAt_20 0 rfl rfl ?_
      refine g_iload_n (M := mX8_isAt) dX8_isAt_21 1 rfl rfl ?_
      refine g_iload (M := mX8_isAt) dX8_isAt_22 4 rfl ?_
      obtain ⟨t22, u23, h1⟩ := zbi h1
      refine g_callVr (M := mX8_isAt) [.int (iI a1), .int (iI s1.2)] hX dX8_isAt_24 vX8_isPlace kM_X8_229 (wX8_isPlace hX hMo (by omega)  u23) qMo (zWs_at (by omega) (hMo.o)) rfl ⟨(Nat.le_of_ble_eq_true rfl), (Nat.le_of_ble_eq_true rfl)⟩ ⟨(Nat.le_of_ble_eq_true rfl), (Nat.le_of_ble_eq_true rfl)⟩ (Nat.le_of_ble_eq_true rfl) ?_
      refine h_beq (M := mX8_isAt) (tgt := 45) dX8_isAt_27 (by decide) (fun c24 => ?_) (fun c24 => ?_)
      · have h1 := zfi (zbf c24) h1
        refine h_iconst (M := mX8_isAt) dX8_isAt_45 ?_
        refine g_istore_n (M := mX8_isAt) (lv' := [(0, .ref (A qMo)), (1, .int (iI a1)), (2, .int (iI a2)), (3, .int (iI 0)), (4, .int (iI s1.2))]) dX8_isAt_46 rfl (by decide) rfl ?_
        refine h_iinc (M := mX8_isAt) (j := 4) (lv' := [(0, .ref (A qMo)), (1, .int (iI a1)), (2, .int (iI a2)), (3, .int (iI 0)), (4, .int (iI (s1.2 + 1)))]) dX8_isAt_47 rfl (Nat.le_of_ble_eq_true rfl) rfl ?_
        refine g_goto (M := mX8_isAt) (tgt := 5) dX8_isAt_50 (by decide) ?_
        exact b1 _ (Option.some.inj h1).symm
      · have h1 := zti c24 h1
        refine g_aload_n (M := mX8_isAt) dX8_isAt_30 0 rfl rfl ?_
        refine g_iload_n (M := mX8_isAt) dX8_isAt_31 1 rfl rfl ?_
        refine g_iload (M := mX8_isAt) dX8_isAt_32 4 rfl ?_
        obtain ⟨t25, u26, h1⟩ := zbi h1
        refine g_callVr (M := mX8_isAt) [.int (iI a1), .int (iI s1.2)] hX dX8_isAt_34 vX8_wordThere kM_X8_265 (wX8_wordThere hX hMo (by omega)  u26) qMo (zWs_at (by omega) (hMo.o)) rfl ⟨(Nat.le_of_ble_eq_true rfl), (Nat.le_of_ble_eq_true rfl)⟩ ⟨(Nat.le_of_ble_eq_true rfl), (Nat.le_of_ble_eq_true rfl)⟩ (Nat.le_of_ble_eq_true rfl) ?_
        refine g_iload_n (M := mX8_isAt) dX8_isAt_37 2 rfl rfl ?_
        obtain ⟨g28, h1⟩ := zgi h1
        refine h_icmp_ne (M := mX8_isAt) (tgt := 45) dX8_isAt_38 (by decide) g28.1 g28.2 (fun c27 => ?_) (fun c27 => ?_)
        · have h1 := zfi c27 h1
          refine h_iconst (M := mX8_isAt) dX8_isAt_45 ?_
          refine g_istore_n (M := mX8_isAt) (lv' := [(0, .ref (A qMo)), (1, .int (iI a1)), (2, .int (iI a2)), (3, .int (iI 0)), (4, .int (iI s1.2))]) dX8_isAt_46 rfl (by decide) rfl ?_
          refine h_iinc (M := mX8_isAt) (j := 4) (lv' := [(0, .ref (A qMo)), (1, .int (iI a1)), (2, .int (iI a2)), (3, .int (iI 0)), (4, .int (iI (s1.2 + 1)))]) dX8_isAt_47 rfl (Nat.le_of_ble_eq_true rfl) rfl ?_
          refine g_goto (M := mX8_isAt) (tgt := 5) dX8_isAt_50 (by decide) ?_
          exact b1 _ (Option.some.inj h1).symm
        · have h1 := zti c27 h1
          refine h_iconst (M := mX8_isAt) dX8_isAt_41 ?_
          refine g_goto (M := mX8_isAt) (tgt := 46) dX8_isAt_42 (by decide) ?_
          refine g_istore_n (M := mX8_isAt) (lv' := [(0, .ref (A qMo)), (1, .int (iI a1)), (2, .int (iI a2)), (3, .int (iI 1)), (4, .int (iI s1.2))]) dX8_isAt_46 rfl (by decide) rfl ?_
          refine h_iinc (M := mX8_isAt) (j := 4) (lv' := [(0, .ref (A qMo)), (1, .int (iI a1)), (2, .int (iI a2)), (3, .int (iI 1)), (4, .int (iI (s1.2 + 1)))]) dX8_isAt_47 rfl (Nat.le_of_ble_eq_true rfl) rfl ?_
          refine g_goto (M := mX8_isAt) (tgt := 5) dX8_isAt_50 (by decide) ?_
          exact b1 _ (Option.some.inj h1).symm
set_option maxHeartbeats 4000000 in
set_option maxRecDepth 100000 in
theorem wX8_kinds {X : zX} (hX : zOK X) {A : Nat → Nat} {n : Nat} {S : Nat → va_E} {qMo : Nat} {VMo : CV} (hMo : isC X A shMo qMo VMo S) (bMo : qMo + 20 < n) {res : CV × Int} (h : fX8_kinds VMo = some res) : Con X yX8_kinds mX8_kinds 4 0 0 [.ref (A qMo)] (zWs A n S) (zRet (zWs A n (zC X A shMo qMo res.1 S)) (some (.int (iI res.2)))) := by
  refine con_of (lv := [(0, .ref (A qMo))]) (by decide) rfl (fun h => by cases h) rfl (Nat.le_of_ble_eq_true rfl) rfl ?_
  refine g_ws (M := mX8_kinds) (congrArg (zWs A n) hMo.symm) ?_
  unfold fX8_kinds at h
  refine g_aload_n (M := mX8_kinds) dX8_kinds_0 0 rfl rfl ?_
  refine h_iconst (M := mX8_kinds) dX8_kinds_1 ?_
  refine c_put (M := mX8_kinds) (k := 0) dX8_kinds_2 kF_X8_81 (by omega) rfl rfl (by decide) rfl rfl ?_
  refine g_aload_n (M := mX8_kinds) dX8_kinds_5 0 rfl rfl ?_
  obtain ⟨t1, u2, h⟩ := zbi h
  refine g_callVr (M := mX8_kinds) [] hX dX8_kinds_6 vX8_laysTimes kM_X8_300 (wX8_laysTimes hX zC_self (by omega)  u2) qMo (zWs_at (by omega) (zC_o)) rfl ⟨(Nat.le_of_ble_eq_true rfl), (Nat.le_of_ble_eq_true rfl)⟩ ⟨(Nat.le_of_ble_eq_true rfl), (Nat.le_of_ble_eq_true rfl)⟩ (Nat.le_of_ble_eq_true rfl) ?_
  refine g_ws (M := mX8_kinds) (congrArg (zWs A n) zC_over) ?_
  refine h_iconst (M := mX8_kinds) dX8_kinds_9 ?_
  refine g_istore_n (M := mX8_kinds) (lv' := [(0, .ref (A qMo)), (1, .int (iI 0))]) dX8_kinds_10 rfl (by decide) rfl ?_
  refine h_iconst (M := mX8_kinds) dX8_kinds_11 ?_
  refine g_istore_n (M := mX8_kinds) (lv' := [(0, .ref (A qMo)), (1, .int (iI 0)), (2, .int (iI 0))]) dX8_kinds_12 rfl (by decide) rfl ?_
  obtain ⟨x3, l3, h⟩ := zbi h
  have r3 : ∀ y3, y3 = x3 → G X mX8_kinds (zPm X 4 0 0 (zRet (zWs A n (zC X A shMo qMo res.1 S)) (some (.int (iI res.2))))) 0 0 47 [(1, .int (iI y3.1))] [] (zWs A n (zC X A shMo qMo t1 S)) := by
    intro y3 ey
    rw [← ey] at h
    refine g_iload_n (M := mX8_kinds) dX8_kinds_47 0 rfl rfl ?_
    have e := (Option.some.inj h)
    subst e
    exact g_iret (M := mX8_kinds) dX8_kinds_48 rfl (Nat.le_of_ble_eq_true rfl) (Nat.le_of_ble_eq_true rfl) ⟨rfl, rfl⟩
  refine zLp_J (J := fun s3 => G X mX8_kinds (zPm X 4 0 0 (zRet (zWs A n (zC X A shMo qMo res.1 S)) (some (.int (iI res.2))))) 0 0 13 [(0, .ref (A qMo)), (1, .int (iI s3.1)), (2, .int (iI s3.2))] [] (zWs A n (zC X A shMo qMo t1 S))) (fun s3 w3 h3 b3 e3 => ?_) _ _ l3
  refine g_iload_n (M := mX8_kinds) dX8_kinds_13 2 rfl rfl ?_
  refine g_aload_n (M := mX8_kinds) dX8_kinds_14 0 rfl rfl ?_
  obtain ⟨t16, u17, h3⟩ := zbi h3
  refine g_callVr (M := mX8_kinds) [] hX dX8_kinds_15 vX8_words kM_X8_162 (wX8_words hX zC_self (by omega)  u17) qMo (zWs_at (by omega) (zC_o)) rfl ⟨(Nat.le_of_ble_eq_true rfl), (Nat.le_of_ble_eq_true rfl)⟩ ⟨(Nat.le_of_ble_eq_true rfl), (Nat.le_of_ble_eq_true rfl)⟩ (Nat.le_of_ble_eq_true rfl) ?_
  obtain ⟨g19, h3⟩ := zgi h3
  refine h_icmp_ge (M := mX8_kinds) (tgt := 47) dX8_kinds_18 (by decide) g19.1 g19.2 (fun c18 => ?_) (fun c18 => ?_)
  · have h3 := zti c18 h3
    refine g_lv (M := mX8_kinds) [1] rfl ?_
    exact r3 _ (e3 _ (Option.some.inj h3).symm)
  · have h3 := zfi (Int.not_le.mpr c18) h3
    refine g_iload_n (M := mX8_kinds) dX8_kinds_21 1 rfl rfl ?_
    refine g_aload_n (M := mX8_kinds) dX8_kinds_22 0 rfl rfl ?_
    refine k_get (M := mX8_kinds) (v := .ref (A (qMo + 12))) dX8_kinds_23 kF_X8_51.r qMo (by omega) (zC_o) rfl ?_
    refine g_iload_n (M := mX8_kinds) dX8_kinds_26 2 rfl rfl ?_
    obtain ⟨g20, h3⟩ := zgi h3
    refine k_iald (M := mX8_kinds) (len := 4096) (f := t1.2 12) dX8_kinds_27 (qMo + 12) (by omega) (zC_a (d := (0, 4096)) 11 rfl) (Nat.le_of_ble_eq_true rfl) g20.1 g20.2 ?_
    refine zJn_J (J := fun x23 => G X mX8_kinds (zPm X 4 0 0 (zRet (zWs A n (zC X A shMo qMo res.1 S)) (some (.int (iI res.2))))) 0 0 36 [(0, .ref (A qMo)), (2, .int (iI s3.2))] [.int (iI x23), .int (iI s3.1)] (zWs A n (zC X A shMo qMo t1 S))) h3 (fun x23 h3 => ?_) (fun j23 h3 => ?_)
    · obtain ⟨t24, u25, h3⟩ := zbi h3
      refine g_callSr (M := mX8_kinds) [.int (iI x23)] hX dX8_kinds_36 vX8_truth kM_X8_84 (wX8_truth hX   u25) rfl ⟨(Nat.le_of_ble_eq_true rfl), (Nat.le_of_ble_eq_true rfl)⟩ ⟨(Nat.le_of_ble_eq_true rfl), (Nat.le_of_ble_eq_true rfl)⟩ (Nat.le_of_ble_eq_true rfl) ?_
      refine h_iadd (M := mX8_kinds) dX8_kinds_39 ?_
      refine g_istore_n (M := mX8_kinds) (lv' := [(0, .ref (A qMo)), (2, .int (iI s3.2)), (1, .int (iI (s3.1 + t24)))]) dX8_kinds_40 rfl (by decide) rfl ?_
      refine h_iinc (M := mX8_kinds) (j := 1) (lv' := [(0, .ref (A qMo)), (2, .int (iI (s3.2 + 1))), (1, .int (iI (s3.1 + t24)))]) dX8_kinds_41 rfl (Nat.le_of_ble_eq_true rfl) rfl ?_
      refine g_goto (M := mX8_kinds) (tgt := 13) dX8_kinds_44 (by decide) ?_
      refine g_lv (M := mX8_kinds) [0, 2, 1] rfl ?_
      exact b3 _ (Option.some.inj h3).symm
    · obtain ⟨g27, h3⟩ := zgi h3
      refine h_if_le (M := mX8_kinds) (tgt := 35) dX8_kinds_28 (by decide) g27 (fun c26 => ?_) (fun c26 => ?_)
      · have h3 := zti c26 h3
        refine h_iconst (M := mX8_kinds) dX8_kinds_35 ?_
        refine g_lv (M := mX8_kinds) [0, 2] rfl ?_
        exact j23 0 h3
      · have h3 := zfi (Int.not_le.mpr c26) h3
        refine h_iconst (M := mX8_kinds) dX8_kinds_31 ?_
        refine g_goto (M := mX8_kinds) (tgt := 36) dX8_kinds_32 (by decide) ?_
        refine g_lv (M := mX8_kinds) [0, 2] rfl ?_
        exact j23 1 h3
set_option maxHeartbeats 4000000 in
set_option maxRecDepth 100000 in
theorem wX8_scoreOf {X : zX} (hX : zOK X) {A : Nat → Nat} {n : Nat} {S : Nat → va_E} {qMo : Nat} {VMo : CV} (hMo : isC X A shMo qMo VMo S) (bMo : qMo + 20 < n) {a1 : Int} {res : CV × Int} (h : fX8_scoreOf VMo a1 = some res) : Con X yX8_scoreOf mX8_scoreOf 5 0 0 [.ref (A qMo), .int (iI a1)] (zWs A n S) (zRet (zWs A n (zC X A shMo qMo res.1 S)) (some (.int (iI res.2)))) := by
  refine con_of (lv := [(0, .ref (A qMo)), (1, .int (iI a1))]) (by decide) rfl (fun h => by cases h) rfl (Nat.le_of_ble_eq_true rfl) rfl ?_
  refine g_ws (M := mX8_scoreOf) (congrArg (zWs A n) hMo.symm) ?_
  unfold fX8_scoreOf at h
  refine g_aload_n (M := mX8_scoreOf) dX8_scoreOf_0 0 rfl rfl ?_
  refine g_iload_n (M := mX8_scoreOf) dX8_scoreOf_1 1 rfl rfl ?_
  obtain ⟨t1, u2, h⟩ := zbi h
  refine g_callVr (M := mX8_scoreOf) [.int (iI a1)] hX dX8_scoreOf_2 vX8_spells kM_X8_242 (wX8_spells hX zC_self (by omega)  u2) qMo (zWs_at (by omega) (zC_o)) rfl ⟨(Nat.le_of_ble_eq_true rfl), (Nat.le_of_ble_eq_true rfl)⟩ ⟨(Nat.le_of_ble_eq_true rfl), (Nat.le_of_ble_eq_true rfl)⟩ (Nat.le_of_ble_eq_true rfl) ?_
  refine g_ws (M := mX8_scoreOf) (congrArg (zWs A n) zC_over) ?_
  refine g_aload_n (M := mX8_scoreOf) dX8_scoreOf_5 0 rfl rfl ?_
  refine g_aload_n (M := mX8_scoreOf) dX8_scoreOf_6 0 rfl rfl ?_
  refine k_get (M := mX8_scoreOf) (v := .ref (A (qMo + 2))) dX8_scoreOf_7 kF_X8_20.r qMo (by omega) (zC_o) rfl ?_
  refine h_iconst (M := mX8_scoreOf) dX8_scoreOf_10 ?_
  refine k_iald (M := mX8_scoreOf) (len := 351) (f := t1.2 2) dX8_scoreOf_11 (qMo + 2) (by omega) (zC_a (d := (0, 351)) 1 rfl) (Nat.le_of_ble_eq_true rfl) (by decide) (by decide) ?_
  obtain ⟨t3, u4, h⟩ := zbi h
  refine g_callVr (M := mX8_scoreOf) [.int (iI (t1.2 2 2))] hX dX8_scoreOf_12 vX8_bounds kM_X8_245 (wX8_bounds hX zC_self (by omega)  u4) qMo (zWs_at (by omega) (zC_o)) rfl ⟨(Nat.le_of_ble_eq_true rfl), (Nat.le_of_ble_eq_true rfl)⟩ ⟨(Nat.le_of_ble_eq_true rfl), (Nat.le_of_ble_eq_true rfl)⟩ (Nat.le_of_ble_eq_true rfl) ?_
  have e := (Option.some.inj h)
  subst e
  exact g_iret (M := mX8_scoreOf) dX8_scoreOf_15 rfl (Nat.le_of_ble_eq_true rfl) (Nat.le_of_ble_eq_true rfl) ⟨rfl, rfl⟩
set_option maxHeartbeats 4000000 in
set_option maxRecDepth 100000 in
theorem wX8_laysScores {X : zX} (hX : zOK X) {A : Nat → Nat} {n : Nat} {S : Nat → va_E} {qMo : Nat} {VMo : CV} (hMo : isC X A shMo qMo VMo S) (bMo : qMo + 20 < n) {res : CV} (h : fX8_laysScores VMo = some res) : Con X yX8_laysScores mX8_laysScores 6 0 0 [.ref (A qMo)] (zWs A n S) (zRet (zWs A n (zC X A shMo qMo res S)) none) := by
  refine con_of (lv := [(0, .ref (A qMo))]) (by decide) rfl (fun h => by cases h) rfl (Nat.le_of_ble_eq_true rfl) rfl ?_
  refine g_ws (M := mX8_laysScores) (congrArg (zWs A n) hMo.symm) ?_
  unfold fX8_laysScores at h
  refine h_iconst (M := mX8_laysScores) dX8_laysScores_0 ?_
  refine g_istore_n (M := mX8_laysScores) (lv' := [(0, .ref (A qMo)), (1, .int (iI 0))]) dX8_laysScores_1 rfl (by decide) rfl ?_
  obtain ⟨x1, l1, h⟩ := zbi h
  have r1 : ∀ y1, y1 = x1 → G X mX8_laysScores (zPm X 6 0 0 (zRet (zWs A n (zC X A shMo qMo res S)) none)) 0 0 27 [] [] (zWs A n (zC X A shMo qMo y1.2 S)) := by
    intro y1 ey
    rw [← ey] at h
    have e := (Option.some.inj h)
    subst e
    exact g_vret (M := mX8_laysScores) dX8_laysScores_27 rfl (Nat.le_of_ble_eq_true rfl) (Nat.le_of_ble_eq_true rfl) ⟨rfl, rfl⟩
  refine zLp_J (J := fun s1 => G X mX8_laysScores (zPm X 6 0 0 (zRet (zWs A n (zC X A shMo qMo res S)) none)) 0 0 2 [(0, .ref (A qMo)), (1, .int (iI s1.1))] [] (zWs A n (zC X A shMo qMo s1.2 S))) (fun s1 w1 h1 b1 e1 => ?_) _ _ l1
  refine g_iload_n (M := mX8_laysScores) dX8_laysScores_2 1 rfl rfl ?_
  refine g_aload_n (M := mX8_laysScores) dX8_laysScores_3 0 rfl rfl ?_
  obtain ⟨t9, u10, h1⟩ := zbi h1
  refine g_callVr (M := mX8_laysScores) [] hX dX8_laysScores_4 vX8_words kM_X8_162 (wX8_words hX zC_self (by omega)  u10) qMo (zWs_at (by omega) (zC_o)) rfl ⟨(Nat.le_of_ble_eq_true rfl), (Nat.le_of_ble_eq_true rfl)⟩ ⟨(Nat.le_of_ble_eq_true rfl), (Nat.le_of_ble_eq_true rfl)⟩ (Nat.le_of_ble_eq_true rfl) ?_
  obtain ⟨g12, h1⟩ := zgi h1
  refine h_icmp_ge (M := mX8_laysScores) (tgt := 27) dX8_laysScores_7 (by decide) g12.1 g12.2 (fun c11 => ?_) (fun c11 => ?_)
  · have h1 := zti c11 h1
    refine g_lv (M := mX8_laysScores) [] rfl ?_
    exact r1 _ (e1 _ (Option.some.inj h1).symm)
  · have h1 := zfi (Int.not_le.mpr c11) h1
    refine g_aload_n (M := mX8_laysScores) dX8_laysScores_10 0 rfl rfl ?_
    refine k_get (M := mX8_laysScores) (v := .ref (A (qMo + 13))) dX8_laysScores_11 kF_X8_54.r qMo (by omega) (zC_o) rfl ?_
    refine g_iload_n (M := mX8_laysScores) dX8_laysScores_14 1 rfl rfl ?_
    refine g_aload_n (M := mX8_laysScores) dX8_laysScores_15 0 rfl rfl ?_
    refine g_iload_n (M := mX8_laysScores) dX8_laysScores_16 1 rfl rfl ?_
    obtain ⟨t13, u14, h1⟩ := zbi h1
    refine g_callVr (M := mX8_laysScores) [.int (iI s1.1)] hX dX8_laysScores_17 vX8_scoreOf kM_X8_271 (wX8_scoreOf hX zC_self (by omega)  u14) qMo (zWs_at (by omega) (zC_o)) rfl ⟨(Nat.le_of_ble_eq_true rfl), (Nat.le_of_ble_eq_true rfl)⟩ ⟨(Nat.le_of_ble_eq_true rfl), (Nat.le_of_ble_eq_true rfl)⟩ (Nat.le_of_ble_eq_true rfl) ?_
    refine g_ws (M := mX8_laysScores) (congrArg (zWs A n) zC_over) ?_
    obtain ⟨g15, h1⟩ := zgi h1
    refine c_iast (M := mX8_laysScores) (len := 4096) (d := (0, 4096)) dX8_laysScores_20 12 rfl rfl (by omega) (Nat.le_of_ble_eq_true rfl) g15.1 g15.2 ?_
    refine h_iinc (M := mX8_laysScores) (j := 1) (lv' := [(0, .ref (A qMo)), (1, .int (iI (s1.1 + 1)))]) dX8_laysScores_21 rfl (Nat.le_of_ble_eq_true rfl) rfl ?_
    refine g_goto (M := mX8_laysScores) (tgt := 2) dX8_laysScores_24 (by decide) ?_
    exact b1 _ (Option.some.inj h1).symm
set_option maxHeartbeats 4000000 in
set_option maxRecDepth 100000 in
theorem wX8_letter {X : zX} (hX : zOK X) {A : Nat → Nat} {n : Nat} {S : Nat → va_E} {qMo : Nat} {VMo : CV} (hMo : isC X A shMo qMo VMo S) (bMo : qMo + 20 < n) {a1 : Int} {a2 : Int} {res : CV × Int} (h : fX8_letter VMo a1 a2 = some res) : Con X yX8_letter mX8_letter 2 0 0 [.ref (A qMo), .int (iI a1), .int (iI a2)] (zWs A n S) (zRet (zWs A n (zC X A shMo qMo res.1 S)) (some (.int (iI res.2)))) := by
  refine con_of (lv := [(0, .ref (A qMo)), (1, .int (iI a1)), (2, .int (iI a2))]) (by decide) rfl (fun h => by cases h) rfl (Nat.le_of_ble_eq_true rfl) rfl ?_
  refine g_ws (M := mX8_letter) (congrArg (zWs A n) hMo.symm) ?_
  unfold fX8_letter at h
  refine g_aload_n (M := mX8_letter) dX8_letter_0 0 rfl rfl ?_
  refine g_aload_n (M := mX8_letter) dX8_letter_1 0 rfl rfl ?_
  refine g_iload_n (M := mX8_letter) dX8_letter_2 1 rfl rfl ?_
  obtain ⟨t1, u2, h⟩ := zbi h
  refine g_callVr (M := mX8_letter) [.int (iI a1)] hX dX8_letter_3 vX8_isRow kM_X8_256 (wX8_isRow hX zC_self (by omega)  u2) qMo (zWs_at (by omega) (zC_o)) rfl ⟨(Nat.le_of_ble_eq_true rfl), (Nat.le_of_ble_eq_true rfl)⟩ ⟨(Nat.le_of_ble_eq_true rfl), (Nat.le_of_ble_eq_true rfl)⟩ (Nat.le_of_ble_eq_true rfl) ?_
  refine zJn_J (J := fun x20 => G X mX8_letter (zPm X 2 0 0 (zRet (zWs A n (zC X A shMo qMo res.1 S)) (some (.int (iI res.2))))) 0 0 32 [(0, .ref (A qMo)), (1, .int (iI a1)), (2, .int (iI a2))] [.int (iI x20), .ref (A qMo)] (zWs A n (zC X A shMo qMo VMo S))) h (fun x20 h => ?_) (fun j20 h => ?_)
  · obtain ⟨t21, u22, h⟩ := zbi h
    refine g_callVr (M := mX8_letter) [.int (iI x20)] hX dX8_letter_32 vX8_goes kM_X8_91 (wX8_goes hX zC_self (by omega)  u22) qMo (zWs_at (by omega) (zC_o)) rfl ⟨(Nat.le_of_ble_eq_true rfl), (Nat.le_of_ble_eq_true rfl)⟩ ⟨(Nat.le_of_ble_eq_true rfl), (Nat.le_of_ble_eq_true rfl)⟩ (Nat.le_of_ble_eq_true rfl) ?_
    refine g_ws (M := mX8_letter) (congrArg (zWs A n) zC_over) ?_
    refine h_beq (M := mX8_letter) (tgt := 47) dX8_letter_35 (by decide) (fun c23 => ?_) (fun c23 => ?_)
    · have h := zfi (zbf c23) h
      refine h_iconst (M := mX8_letter) dX8_letter_47 ?_
      have e := (Option.some.inj h)
      subst e
      exact g_iret (M := mX8_letter) dX8_letter_48 rfl (Nat.le_of_ble_eq_true rfl) (Nat.le_of_ble_eq_true rfl) ⟨rfl, rfl⟩
    · have h := zti c23 h
      refine g_aload_n (M := mX8_letter) dX8_letter_38 0 rfl rfl ?_
      refine g_iload_n (M := mX8_letter) dX8_letter_39 1 rfl rfl ?_
      refine g_iload_n (M := mX8_letter) dX8_letter_40 2 rfl rfl ?_
      obtain ⟨t24, u25, h⟩ := zbi h
      refine g_callVr (M := mX8_letter) [.int (iI a1), .int (iI a2)] hX dX8_letter_41 vX8_letterAt kM_X8_232 (wX8_letterAt hX zC_self (by omega)  u25) qMo (zWs_at (by omega) (zC_o)) rfl ⟨(Nat.le_of_ble_eq_true rfl), (Nat.le_of_ble_eq_true rfl)⟩ ⟨(Nat.le_of_ble_eq_true rfl), (Nat.le_of_ble_eq_true rfl)⟩ (Nat.le_of_ble_eq_true rfl) ?_
      refine g_goto (M := mX8_letter) (tgt := 48) dX8_letter_44 (by decide) ?_
      have e := (Option.some.inj h)
      subst e
      exact g_iret (M := mX8_letter) dX8_letter_48 rfl (Nat.le_of_ble_eq_true rfl) (Nat.le_of_ble_eq_true rfl) ⟨rfl, rfl⟩
  · refine zJn_J (J := fun x34 => G X mX8_letter (zPm X 2 0 0 (zRet (zWs A n (zC X A shMo qMo res.1 S)) (some (.int (iI res.2))))) 0 0 31 [(0, .ref (A qMo)), (1, .int (iI a1)), (2, .int (iI a2))] [.ref (A qMo)] (zWs A n (zC X A shMo qMo VMo S))) h (fun x34 h => ?_) (fun j34 h => ?_)
    · refine h_iconst (M := mX8_letter) dX8_letter_31 ?_
      exact j20 0 h
    · refine h_beq (M := mX8_letter) (tgt := 31) dX8_letter_6 (by decide) (fun c35 => ?_) (fun c35 => ?_)
      · have h := zfi (zbf c35) h
        exact j34 () h
      · have h := zti c35 h
        refine g_iload_n (M := mX8_letter) dX8_letter_9 2 rfl rfl ?_
        obtain ⟨g36, h⟩ := zgi h
        refine h_i2l (M := mX8_letter) dX8_letter_10 g36 ?_
        refine g_lconst (M := mX8_letter) (v := iL 0) dX8_letter_11 rfl ?_
        refine g_aload_n (M := mX8_letter) dX8_letter_12 0 rfl rfl ?_
        refine g_iload_n (M := mX8_letter) dX8_letter_13 1 rfl rfl ?_
        refine h_iconst (M := mX8_letter) dX8_letter_14 ?_
        obtain ⟨t37, u38, h⟩ := zbi h
        refine g_callVr (M := mX8_letter) [.int (iI a1), .int (iI 0)] hX dX8_letter_15 vX8_of kM_X8_166 (wX8_of hX zC_self (by omega)  u38) qMo (zWs_at (by omega) (zC_o)) rfl ⟨(Nat.le_of_ble_eq_true rfl), (Nat.le_of_ble_eq_true rfl)⟩ ⟨(Nat.le_of_ble_eq_true rfl), (Nat.le_of_ble_eq_true rfl)⟩ (Nat.le_of_ble_eq_true rfl) ?_
        refine h_iconst (M := mX8_letter) dX8_letter_18 ?_
        refine h_isub (M := mX8_letter) dX8_letter_19 ?_
        obtain ⟨g39, h⟩ := zgi h
        refine h_i2l (M := mX8_letter) dX8_letter_20 g39 ?_
        obtain ⟨t40, u41, h⟩ := zbi h
        refine g_callSr (M := mX8_letter) [.long (iL a2), .long (iL 0), .long (iL (t37 - 1))] hX dX8_letter_21 vX8_isIn kM_X8_99 (wX8_isIn hX   u41) rfl ⟨(Nat.le_of_ble_eq_true rfl), (Nat.le_of_ble_eq_true rfl)⟩ ⟨(Nat.le_of_ble_eq_true rfl), (Nat.le_of_ble_eq_true rfl)⟩ (Nat.le_of_ble_eq_true rfl) ?_
        refine h_beq (M := mX8_letter) (tgt := 31) dX8_letter_24 (by decide) (fun c42 => ?_) (fun c42 => ?_)
        · have h := zfi (zbf c42) h
          exact j34 () h
        · have h := zti c42 h
          refine h_iconst (M := mX8_letter) dX8_letter_27 ?_
          refine g_goto (M := mX8_letter) (tgt := 32) dX8_letter_28 (by decide) ?_
          exact j20 1 h
