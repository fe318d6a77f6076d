set_option maxHeartbeats 4000000 in
set_option maxRecDepth 100000 in
theorem wX3_nearestOf {X : zX} (hX : zOK X) {A : Nat → Nat} {n : Nat} {S : Nat → va_E} {qSe : Nat} {VSe : CV} (hSe : isC X A shSe qSe VSe S) (bSe : qSe + 5 < n) {a1 : Int} {a2 : Int} {res : Int} (h : fX3_nearestOf VSe a1 a2 = some res) : Con X yX3_nearestOf mX3_nearestOf 1 0 0 [.ref (A qSe), .int (iI a1), .int (iI a2)] (zWs A n S) (zRet (zWs A n S) (some (.int (iI res)))) := by
  refine con_of (lv := [(0, .ref (A qSe)), (1, .int (iI a1)), (2, .int (iI a2))]) (by decide) rfl (fun h => by cases h) rfl (Nat.le_of_ble_eq_true rfl) rfl ?_
  unfold fX3_nearestOf at h
  refine g_aload_n (M := mX3_nearestOf) dX3_nearestOf_0 0 rfl rfl ?_
  refine k_get (M := mX3_nearestOf) (v := .ref (A (qSe + 1))) dX3_nearestOf_1 kF_X3_9.r qSe (by omega) (hSe.o) rfl ?_
  refine g_iload_n (M := mX3_nearestOf) dX3_nearestOf_4 1 rfl rfl ?_
  obtain ⟨g1, h⟩ := zgi h
  refine k_iald (M := mX3_nearestOf) (len := (VSe.1 100).toNat) (f := VSe.2 1) dX3_nearestOf_5 (qSe + 1) (by omega) (hSe.a (d := (10, 100)) 0 rfl) (zDy1 g1.1 g1.2.1 g1.2.2) g1.1 (zDy2 g1.1 g1.2.1) ?_
  refine g_istore_n (M := mX3_nearestOf) (lv' := [(0, .ref (A qSe)), (1, .int (iI a1)), (2, .int (iI a2)), (3, .int (iI (VSe.2 1 a1)))]) dX3_nearestOf_6 rfl (by decide) rfl ?_
  refine h_iconst (M := mX3_nearestOf) dX3_nearestOf_7 ?_
  refine g_istore (M := mX3_nearestOf) (lv' := [(0, .ref (A qSe)), (1, .int (iI a1)), (2, .int (iI a2)), (3, .int (iI (VSe.2 1 a1))), (4, .int (iI 1))]) dX3_nearestOf_8 (by decide) rfl ?_
  obtain ⟨x2, l2, h⟩ := zbi h
  have r2 : ∀ y2, y2 = x2 → G X mX3_nearestOf (zPm X 1 0 0 (zRet (zWs A n S) (some (.int (iI res))))) 0 0 41 [(3, .int (iI y2.1))] [] (zWs A n S) := by
    intro y2 ey
    rw [← ey] at h
    refine g_iload_n (M := mX3_nearestOf) dX3_nearestOf_41 0 rfl rfl ?_
    have e := (Option.some.inj h)
    subst e
    exact g_iret (M := mX3_nearestOf) dX3_nearestOf_42 rfl (Nat.le_of_ble_eq_true rfl) (Nat.le_of_ble_eq_true rfl) ⟨rfl, rfl⟩
  refine zLp_J (J := fun s2 => G X mX3_nearestOf (zPm X 1 0 0 (zRet (zWs A n S) (some (.int (iI res))))) 0 0 10 [(0, .ref (A qSe)), (1, .int (iI a1)), (2, .int (iI a2)), (3, .int (iI s2.1)), (4, .int (iI s2.2))] [] (zWs A n S)) (fun s2 w2 h2 b2 e2 => ?_) _ _ l2
  refine g_iload (M := mX3_nearestOf) dX3_nearestOf_10 4 rfl ?_
  refine g_aload_n (M := mX3_nearestOf) dX3_nearestOf_12 0 rfl rfl ?_
  refine k_get (M := mX3_nearestOf) (v := .int (iI (VSe.1 5))) dX3_nearestOf_13 kF_X3_71.r qSe (by omega) (hSe.o) rfl ?_
  obtain ⟨g8, h2⟩ := zgi h2
  refine h_icmp_ge (M := mX3_nearestOf) (tgt := 41) dX3_nearestOf_16 (by decide) g8.1 g8.2 (fun c7 => ?_) (fun c7 => ?_)
  · have h2 := zti c7 h2
    refine g_lv (M := mX3_nearestOf) [3] rfl ?_
    exact r2 _ (e2 _ (Option.some.inj h2).symm)
  · have h2 := zfi (Int.not_le.mpr c7) h2
    refine g_iload_n (M := mX3_nearestOf) dX3_nearestOf_19 3 rfl rfl ?_
    refine g_aload_n (M := mX3_nearestOf) dX3_nearestOf_20 0 rfl rfl ?_
    refine k_get (M := mX3_nearestOf) (v := .ref (A (qSe + 1))) dX3_nearestOf_21 kF_X3_9.r qSe (by omega) (hSe.o) rfl ?_
    refine g_iload_n (M := mX3_nearestOf) dX3_nearestOf_24 1 rfl rfl ?_
    refine g_iload (M := mX3_nearestOf) dX3_nearestOf_25 4 rfl ?_
    refine g_iload_n (M := mX3_nearestOf) dX3_nearestOf_27 2 rfl rfl ?_
    refine h_imul (M := mX3_nearestOf) dX3_nearestOf_28 ?_
    refine h_iadd (M := mX3_nearestOf) dX3_nearestOf_29 ?_
    obtain ⟨g9, h2⟩ := zgi h2
    refine k_iald (M := mX3_nearestOf) (len := (VSe.1 100).toNat) (f := VSe.2 1) dX3_nearestOf_30 (qSe + 1) (by omega) (hSe.a (d := (10, 100)) 0 rfl) (zDy1 g9.1 g9.2 g1.2.2) g9.1 (zDy2 g9.1 g9.2) ?_
    obtain ⟨g10, h2⟩ := zgi h2
    refine h_min (M := mX3_nearestOf) dX3_nearestOf_31 kM_X3_95 g10.1 g10.2 (Nat.le_of_ble_eq_true rfl) (Nat.le_of_ble_eq_true rfl) (Nat.le_of_ble_eq_true rfl) (Nat.le_of_ble_eq_true rfl) ?_
    refine g_istore_n (M := mX3_nearestOf) (lv' := [(0, .ref (A qSe)), (1, .int (iI a1)), (2, .int (iI a2)), (3, .int (iI (zMin s2.1 (VSe.2 1 (a1 + (s2.2 * a2)))))), (4, .int (iI s2.2))]) dX3_nearestOf_34 rfl (by decide) rfl ?_
    refine h_iinc (M := mX3_nearestOf) (j := 4) (lv' := [(0, .ref (A qSe)), (1, .int (iI a1)), (2, .int (iI a2)), (3, .int (iI (zMin s2.1 (VSe.2 1 (a1 + (s2.2 * a2)))))), (4, .int (iI (s2.2 + 1)))]) dX3_nearestOf_35 rfl (Nat.le_of_ble_eq_true rfl) rfl ?_
    refine g_goto (M := mX3_nearestOf) (tgt := 10) dX3_nearestOf_38 (by decide) ?_
    exact b2 _ (Option.some.inj h2).symm
set_option maxHeartbeats 4000000 in
set_option maxRecDepth 100000 in
theorem wX3_addBounds {X : zX} (hX : zOK X) {A : Nat → Nat} {n : Nat} {S : Nat → va_E} {qSe : Nat} {VSe : CV} (hSe : isC X A shSe qSe VSe S) (bSe : qSe + 5 < n) {a1 : Int} {res : CV} (h : fX3_addBounds VSe a1 = some res) : Con X yX3_addBounds mX3_addBounds 2 0 0 [.ref (A qSe), .int (iI a1)] (zWs A n S) (zRet (zWs A n (zC X A shSe qSe res S)) none) := by
  refine con_of (lv := [(0, .ref (A qSe)), (1, .int (iI a1))]) (by decide) rfl (fun h => by cases h) rfl (Nat.le_of_ble_eq_true rfl) rfl ?_
  refine g_ws (M := mX3_addBounds) (congrArg (zWs A n) hSe.symm) ?_
  unfold fX3_addBounds at h
  refine h_iconst (M := mX3_addBounds) dX3_addBounds_0 ?_
  refine g_istore_n (M := mX3_addBounds) (lv' := [(0, .ref (A qSe)), (1, .int (iI a1)), (2, .int (iI 0))]) dX3_addBounds_1 rfl (by decide) rfl ?_
  obtain ⟨x1, l1, h⟩ := zbi h
  have r1 : ∀ y1, y1 = x1 → G X mX3_addBounds (zPm X 2 0 0 (zRet (zWs A n (zC X A shSe qSe res S)) none)) 0 0 61 [(0, .ref (A qSe))] [] (zWs A n (zC X A shSe qSe y1.2 S)) := by
    intro y1 ey
    rw [← ey] at h
    refine g_aload_n (M := mX3_addBounds) dX3_addBounds_61 0 rfl rfl ?_
    refine k_get (M := mX3_addBounds) (v := .int (iI (y1.2.1 7))) dX3_addBounds_62 kF_X3_83.r qSe (by omega) (zC_o) rfl ?_
    refine g_istore_n (M := mX3_addBounds) (lv' := [(0, .ref (A qSe)), (2, .int (iI (y1.2.1 7)))]) dX3_addBounds_65 rfl (by decide) rfl ?_
    refine g_aload_n (M := mX3_addBounds) dX3_addBounds_66 0 rfl rfl ?_
    refine k_get (M := mX3_addBounds) (v := .int (iI (y1.2.1 6))) dX3_addBounds_67 kF_X3_82.r qSe (by omega) (zC_o) rfl ?_
    refine h_iconst (M := mX3_addBounds) dX3_addBounds_70 ?_
    refine h_isub (M := mX3_addBounds) dX3_addBounds_71 ?_
    refine g_istore_n (M := mX3_addBounds) (lv' := [(0, .ref (A qSe)), (2, .int (iI (y1.2.1 7))), (3, .int (iI ((y1.2.1 6) - 1)))]) dX3_addBounds_72 rfl (by decide) rfl ?_
    obtain ⟨x10, l10, h⟩ := zbi h
    have r10 : ∀ y10, y10 = x10 → G X mX3_addBounds (zPm X 2 0 0 (zRet (zWs A n (zC X A shSe qSe res S)) none)) 0 0 157 [] [] (zWs A n (zC X A shSe qSe y10.2.2 S)) := by
      intro y10 ey
      rw [← ey] at h
      have e := (Option.some.inj h)
      subst e
      exact g_vret (M := mX3_addBounds) dX3_addBounds_157 rfl (Nat.le_of_ble_eq_true rfl) (Nat.le_of_ble_eq_true rfl) ⟨rfl, rfl⟩
    refine zLp_J (J := fun s10 => G X mX3_addBounds (zPm X 2 0 0 (zRet (zWs A n (zC X A shSe qSe res S)) none)) 0 0 73 [(0, .ref (A qSe)), (2, .int (iI s10.1)), (3, .int (iI s10.2.1))] [] (zWs A n (zC X A shSe qSe s10.2.2 S))) (fun s10 w10 h10 b10 e10 => ?_) _ _ l10
    refine g_iload_n (M := mX3_addBounds) dX3_addBounds_73 2 rfl rfl ?_
    refine h_iconst (M := mX3_addBounds) dX3_addBounds_74 ?_
    obtain ⟨g33, h10⟩ := zgi h10
    refine h_icmp_lt (M := mX3_addBounds) (tgt := 157) dX3_addBounds_75 (by decide) g33 (by decide) (fun c32 => ?_) (fun c32 => ?_)
    · have h10 := zti c32 h10
      refine g_lv (M := mX3_addBounds) [] rfl ?_
      exact r10 _ (e10 _ (Option.some.inj h10).symm)
    · have h10 := zfi (Int.not_lt.mpr c32) h10
      refine g_iload_n (M := mX3_addBounds) dX3_addBounds_78 1 rfl rfl ?_
      refine h_iconst (M := mX3_addBounds) dX3_addBounds_79 ?_
      refine g_aload_n (M := mX3_addBounds) dX3_addBounds_80 0 rfl rfl ?_
      refine k_get (M := mX3_addBounds) (v := .int (iI (s10.2.2.1 5))) dX3_addBounds_81 kF_X3_71.r qSe (by omega) (zC_o) rfl ?_
      obtain ⟨g34, h10⟩ := zgi h10
      refine h_max (M := mX3_addBounds) dX3_addBounds_84 kM_X3_86 (by decide) g34 (Nat.le_of_ble_eq_true rfl) (Nat.le_of_ble_eq_true rfl) (Nat.le_of_ble_eq_true rfl) (Nat.le_of_ble_eq_true rfl) ?_
      obtain ⟨g35, h10⟩ := zgi h10
      refine g_idiv (M := mX3_addBounds) dX3_addBounds_87 (iI_ne0 g35.2.1 g35.2.2) ?_
      refine h_topx (M := mX3_addBounds) (b := s10.1 / (zMax 2 (s10.2.2.1 5))) (iI_div g35.1.1 g35.1.2 g35.2.1 g35.2.2) ?_
      refine g_istore_n (M := mX3_addBounds) (lv' := [(0, .ref (A qSe)), (2, .int (iI (s10.1 / (zMax 2 (s10.2.2.1 5))))), (3, .int (iI s10.2.1))]) dX3_addBounds_88 rfl (by decide) rfl ?_
      refine h_iconst (M := mX3_addBounds) dX3_addBounds_89 ?_
      refine g_istore (M := mX3_addBounds) (lv' := [(0, .ref (A qSe)), (2, .int (iI (s10.1 / (zMax 2 (s10.2.2.1 5))))), (3, .int (iI s10.2.1)), (4, .int (iI 0))]) dX3_addBounds_90 (by decide) rfl ?_
      obtain ⟨x36, l36, h10⟩ := zbi h10
      have r36 : ∀ y36, y36 = x36 → G X mX3_addBounds (zPm X 2 0 0 (zRet (zWs A n (zC X A shSe qSe res S)) none)) 0 0 151 [(0, .ref (A qSe)), (2, .int (iI (s10.1 / (zMax 2 (s10.2.2.1 5))))), (3, .int (iI s10.2.1))] [] (zWs A n (zC X A shSe qSe y36.2 S)) := by
        intro y36 ey
        rw [← ey] at h10
        refine h_iinc (M := mX3_addBounds) (j := 2) (lv' := [(0, .ref (A qSe)), (2, .int (iI (s10.1 / (zMax 2 (s10.2.2.1 5))))), (3, .int (iI (s10.2.1 + (-1))))]) dX3_addBounds_151 rfl (Nat.le_of_ble_eq_true rfl) rfl ?_
        refine g_goto (M := mX3_addBounds) (tgt := 73) dX3_addBounds_154 (by decide) ?_
        exact b10 _ (Option.some.inj h10).symm
      refine zLp_J (J := fun s36 => G X mX3_addBounds (zPm X 2 0 0 (zRet (zWs A n (zC X A shSe qSe res S)) none)) 0 0 92 [(0, .ref (A qSe)), (2, .int (iI (s10.1 / (zMax 2 (s10.2.2.1 5))))), (3, .int (iI s10.2.1)), (4, .int (iI s36.1))] [] (zWs A n (zC X A shSe qSe s36.2 S))) (fun s36 w36 h36 b36 e36 => ?_) _ _ l36
      refine g_iload (M := mX3_addBounds) dX3_addBounds_92 3 rfl ?_
      refine g_iload_n (M := mX3_addBounds) dX3_addBounds_94 1 rfl rfl ?_
      obtain ⟨g46, h36⟩ := zgi h36
      refine h_icmp_ge (M := mX3_addBounds) (tgt := 151) dX3_addBounds_95 (by decide) g46.1 g46.2 (fun c45 => ?_) (fun c45 => ?_)
      · have h36 := zti c45 h36
        refine g_lv (M := mX3_addBounds) [0, 1, 2] rfl ?_
        exact r36 _ (e36 _ (Option.some.inj h36).symm)
      · have h36 := zfi (Int.not_le.mpr c45) h36
        refine g_aload_n (M := mX3_addBounds) dX3_addBounds_98 0 rfl rfl ?_
        refine k_get (M := mX3_addBounds) (v := .ref (A (qSe + 1))) dX3_addBounds_99 kF_X3_9.r qSe (by omega) (zC_o) rfl ?_
        refine g_iload (M := mX3_addBounds) dX3_addBounds_102 3 rfl ?_
        refine g_iload_n (M := mX3_addBounds) dX3_addBounds_104 2 rfl rfl ?_
        refine g_aload_n (M := mX3_addBounds) dX3_addBounds_105 0 rfl rfl ?_
        refine g_iload (M := mX3_addBounds) dX3_addBounds_106 3 rfl ?_
        refine g_aload_n (M := mX3_addBounds) dX3_addBounds_108 0 rfl rfl ?_
        refine k_get (M := mX3_addBounds) (v := .int (iI (s36.2.1 5))) dX3_addBounds_109 kF_X3_71.r qSe (by omega) (zC_o) rfl ?_
        refine h_imul (M := mX3_addBounds) dX3_addBounds_112 ?_
        refine h_iconst (M := mX3_addBounds) dX3_addBounds_113 ?_
        obtain ⟨t47, u48, h36⟩ := zbi h36
        refine g_callVr (M := mX3_addBounds) [.int (iI (s36.1 * (s36.2.1 5))), .int (iI 1)] hX dX3_addBounds_114 vX3_nearestOf kM_X3_92 (wX3_nearestOf hX zC_self (by omega)  u48) qSe (zWs_at (by omega) (zC_o)) rfl ⟨(Nat.le_of_ble_eq_true rfl), (Nat.le_of_ble_eq_true rfl)⟩ ⟨(Nat.le_of_ble_eq_true rfl), (Nat.le_of_ble_eq_true rfl)⟩ (Nat.le_of_ble_eq_true rfl) ?_
        obtain ⟨g49, h36⟩ := zgi h36
        refine h_min (M := mX3_addBounds) dX3_addBounds_117 kM_X3_95 g33 g49 (Nat.le_of_ble_eq_true rfl) (Nat.le_of_ble_eq_true rfl) (Nat.le_of_ble_eq_true rfl) (Nat.le_of_ble_eq_true rfl) ?_
        obtain ⟨g50, h36⟩ := zgi h36
        refine c_iast (M := mX3_addBounds) (len := (s36.2.1 100).toNat) (d := (10, 100)) dX3_addBounds_120 0 rfl rfl (by omega) (zDy1 g50.1 g50.2.1 g50.2.2) g50.1 (zDy2 g50.1 g50.2.1) ?_
        refine g_aload_n (M := mX3_addBounds) dX3_addBounds_121 0 rfl rfl ?_
        refine k_get (M := mX3_addBounds) (v := .ref (A (qSe + 2))) dX3_addBounds_122 kF_X3_15.r qSe (by omega) (zC_o) rfl ?_
        refine g_aload_n (M := mX3_addBounds) dX3_addBounds_125 0 rfl rfl ?_
        refine k_get (M := mX3_addBounds) (v := .ref (A (qSe + 4))) dX3_addBounds_126 kF_X3_21.r qSe (by omega) (zC_o) rfl ?_
        refine g_iload_n (M := mX3_addBounds) dX3_addBounds_129 2 rfl rfl ?_
        obtain ⟨g51, h36⟩ := zgi h36
        refine k_iald (M := mX3_addBounds) (len := 7) (f := s36.2.2 4) dX3_addBounds_130 (qSe + 4) (by omega) (zC_a (d := (0, 7)) 3 rfl) (Nat.le_of_ble_eq_true rfl) g51.1 g51.2 ?_
        refine g_iload (M := mX3_addBounds) dX3_addBounds_131 3 rfl ?_
        refine h_iadd (M := mX3_addBounds) dX3_addBounds_133 ?_
        refine g_dup2_11 (M := mX3_addBounds) dX3_addBounds_134 rfl rfl ?_
        obtain ⟨g52, h36⟩ := zgi h36
        refine k_iald (M := mX3_addBounds) (len := (s36.2.1 101).toNat) (f := s36.2.2 2) dX3_addBounds_135 (qSe + 2) (by omega) (zC_a (d := (10, 101)) 1 rfl) (zDy1 g52.1 g52.2.1 g52.2.2) g52.1 (zDy2 g52.1 g52.2.1) ?_
        refine g_aload_n (M := mX3_addBounds) dX3_addBounds_136 0 rfl rfl ?_
        refine k_get (M := mX3_addBounds) (v := .ref (A (qSe + 1))) dX3_addBounds_137 kF_X3_9.r qSe (by omega) (zC_o) rfl ?_
        refine g_iload (M := mX3_addBounds) dX3_addBounds_140 3 rfl ?_
        refine k_iald (M := mX3_addBounds) (len := (s36.2.1 100).toNat) (f := (zup (s36.2.2 1) s36.1 (zMin s10.2.1 t47))) dX3_addBounds_142 (qSe + 1) (by omega) (zC_a (d := (10, 100)) 0 rfl) (zDy1 g50.1 g50.2.1 g50.2.2) g50.1 (zDy2 g50.1 g50.2.1) ?_
        refine h_iadd (M := mX3_addBounds) dX3_addBounds_143 ?_
        refine c_iast (M := mX3_addBounds) (len := (s36.2.1 101).toNat) (d := (10, 101)) dX3_addBounds_144 1 rfl rfl (by omega) (zDy1 g52.1 g52.2.1 g52.2.2) g52.1 (zDy2 g52.1 g52.2.1) ?_
        refine h_iinc (M := mX3_addBounds) (j := 3) (lv' := [(0, .ref (A qSe)), (2, .int (iI (s10.1 / (zMax 2 (s10.2.2.1 5))))), (3, .int (iI s10.2.1)), (4, .int (iI (s36.1 + 1)))]) dX3_addBounds_145 rfl (Nat.le_of_ble_eq_true rfl) rfl ?_
        refine g_goto (M := mX3_addBounds) (tgt := 92) dX3_addBounds_148 (by decide) ?_
        exact b36 _ (Option.some.inj h36).symm
  refine zLp_J (J := fun s1 => G X mX3_addBounds (zPm X 2 0 0 (zRet (zWs A n (zC X A shSe qSe res S)) none)) 0 0 2 [(0, .ref (A qSe)), (1, .int (iI a1)), (2, .int (iI s1.1))] [] (zWs A n (zC X A shSe qSe s1.2 S))) (fun s1 w1 h1 b1 e1 => ?_) _ _ l1
  refine g_iload_n (M := mX3_addBounds) dX3_addBounds_2 2 rfl rfl ?_
  refine g_aload_n (M := mX3_addBounds) dX3_addBounds_3 0 rfl rfl ?_
  refine k_get (M := mX3_addBounds) (v := .int (iI (s1.2.1 7))) dX3_addBounds_4 kF_X3_83.r qSe (by omega) (zC_o) rfl ?_
  obtain ⟨g54, h1⟩ := zgi h1
  refine h_icmp_ge (M := mX3_addBounds) (tgt := 61) dX3_addBounds_7 (by decide) g54.1 g54.2 (fun c53 => ?_) (fun c53 => ?_)
  · have h1 := zti c53 h1
    refine g_lv (M := mX3_addBounds) [0] rfl ?_
    exact r1 _ (e1 _ (Option.some.inj h1).symm)
  · have h1 := zfi (Int.not_le.mpr c53) h1
    refine g_aload_n (M := mX3_addBounds) dX3_addBounds_10 0 rfl rfl ?_
    refine k_get (M := mX3_addBounds) (v := .ref (A (qSe + 2))) dX3_addBounds_11 kF_X3_15.r qSe (by omega) (zC_o) rfl ?_
    refine g_aload_n (M := mX3_addBounds) dX3_addBounds_14 0 rfl rfl ?_
    refine k_get (M := mX3_addBounds) (v := .ref (A (qSe + 4))) dX3_addBounds_15 kF_X3_21.r qSe (by omega) (zC_o) rfl ?_
    refine g_aload_n (M := mX3_addBounds) dX3_addBounds_18 0 rfl rfl ?_
    refine k_get (M := mX3_addBounds) (v := .int (iI (s1.2.1 6))) dX3_addBounds_19 kF_X3_82.r qSe (by omega) (zC_o) rfl ?_
    obtain ⟨g55, h1⟩ := zgi h1
    refine k_iald (M := mX3_addBounds) (len := 7) (f := s1.2.2 4) dX3_addBounds_22 (qSe + 4) (by omega) (zC_a (d := (0, 7)) 3 rfl) (Nat.le_of_ble_eq_true rfl) g55.1 g55.2 ?_
    refine g_iload_n (M := mX3_addBounds) dX3_addBounds_23 2 rfl rfl ?_
    refine h_iadd (M := mX3_addBounds) dX3_addBounds_24 ?_
    refine g_dup2_11 (M := mX3_addBounds) dX3_addBounds_25 rfl rfl ?_
    obtain ⟨g56, h1⟩ := zgi h1
    refine k_iald (M := mX3_addBounds) (len := (s1.2.1 101).toNat) (f := s1.2.2 2) dX3_addBounds_26 (qSe + 2) (by omega) (zC_a (d := (10, 101)) 1 rfl) (zDy1 g56.1 g56.2.1 g56.2.2) g56.1 (zDy2 g56.1 g56.2.1) ?_
    refine g_aload_n (M := mX3_addBounds) dX3_addBounds_27 0 rfl rfl ?_
    refine k_get (M := mX3_addBounds) (v := .ref (A (qSe + 1))) dX3_addBounds_28 kF_X3_9.r qSe (by omega) (zC_o) rfl ?_
    refine g_iload_n (M := mX3_addBounds) dX3_addBounds_31 2 rfl rfl ?_
    obtain ⟨g57, h1⟩ := zgi h1
    refine k_iald (M := mX3_addBounds) (len := (s1.2.1 100).toNat) (f := s1.2.2 1) dX3_addBounds_32 (qSe + 1) (by omega) (zC_a (d := (10, 100)) 0 rfl) (zDy1 g57.1 g57.2.1 g57.2.2) g57.1 (zDy2 g57.1 g57.2.1) ?_
    refine h_iadd (M := mX3_addBounds) dX3_addBounds_33 ?_
    refine c_iast (M := mX3_addBounds) (len := (s1.2.1 101).toNat) (d := (10, 101)) dX3_addBounds_34 1 rfl rfl (by omega) (zDy1 g56.1 g56.2.1 g56.2.2) g56.1 (zDy2 g56.1 g56.2.1) ?_
    refine g_aload_n (M := mX3_addBounds) dX3_addBounds_35 0 rfl rfl ?_
    refine k_get (M := mX3_addBounds) (v := .ref (A (qSe + 1))) dX3_addBounds_36 kF_X3_9.r qSe (by omega) (zC_o) rfl ?_
    refine g_iload_n (M := mX3_addBounds) dX3_addBounds_39 2 rfl rfl ?_
    refine k_iald (M := mX3_addBounds) (len := (s1.2.1 100).toNat) (f := s1.2.2 1) dX3_addBounds_40 (qSe + 1) (by omega) (zC_a (d := (10, 100)) 0 rfl) (zDy1 g57.1 g57.2.1 g57.2.2) g57.1 (zDy2 g57.1 g57.2.1) ?_
    refine g_iload_n (M := mX3_addBounds) dX3_addBounds_41 1 rfl rfl ?_
    obtain ⟨g59, h1⟩ := zgi h1
    refine h_icmp_gt (M := mX3_addBounds) (tgt := 55) dX3_addBounds_42 (by decide) g59.1 g59.2 (fun c58 => ?_) (fun c58 => ?_)
    · have h1 := zti c58 h1
      refine h_iinc (M := mX3_addBounds) (j := 2) (lv' := [(0, .ref (A qSe)), (1, .int (iI a1)), (2, .int (iI (s1.1 + 1)))]) dX3_addBounds_55 rfl (Nat.le_of_ble_eq_true rfl) rfl ?_
      refine g_goto (M := mX3_addBounds) (tgt := 2) dX3_addBounds_58 (by decide) ?_
      exact b1 _ (Option.some.inj h1).symm
    · have h1 := zfi (Int.not_lt.mpr c58) h1
      refine g_aload_n (M := mX3_addBounds) dX3_addBounds_45 0 rfl rfl ?_
      refine k_get (M := mX3_addBounds) (v := .ref (A (qSe + 3))) dX3_addBounds_46 kF_X3_18.r qSe (by omega) (zC_o) rfl ?_
      refine g_iload_n (M := mX3_addBounds) dX3_addBounds_49 2 rfl rfl ?_
      refine g_dup2_11 (M := mX3_addBounds) dX3_addBounds_50 rfl rfl ?_
      obtain ⟨g60, h1⟩ := zgi h1
      refine k_iald (M := mX3_addBounds) (len := (s1.2.1 102).toNat) (f := s1.2.2 3) dX3_addBounds_51 (qSe + 3) (by omega) (zC_a (d := (10, 102)) 2 rfl) (zDy1 g57.1 g60.1 g60.2) g57.1 (zDy2 g57.1 g60.1) ?_
      refine h_iconst (M := mX3_addBounds) dX3_addBounds_52 ?_
      refine h_iadd (M := mX3_addBounds) dX3_addBounds_53 ?_
      refine c_iast (M := mX3_addBounds) (len := (s1.2.1 102).toNat) (d := (10, 102)) dX3_addBounds_54 2 rfl rfl (by omega) (zDy1 g57.1 g60.1 g60.2) g57.1 (zDy2 g57.1 g60.1) ?_
      refine h_iinc (M := mX3_addBounds) (j := 2) (lv' := [(0, .ref (A qSe)), (1, .int (iI a1)), (2, .int (iI (s1.1 + 1)))]) dX3_addBounds_55 rfl (Nat.le_of_ble_eq_true rfl) rfl ?_
      refine g_goto (M := mX3_addBounds) (tgt := 2) dX3_addBounds_58 (by decide) ?_
      exact b1 _ (Option.some.inj h1).symm
set_option maxHeartbeats 4000000 in
set_option maxRecDepth 100000 in
theorem wX3_ask {X : zX} (hX : zOK X) : ∀ (d : Nat) {A : Nat → Nat} {n : Nat} {S : Nat → va_E} {qSe : Nat} {VSe : CV} (hSe : isC X A shSe qSe VSe S) (bSe : qSe + 5 < n) {a1 : Int} {a2 : Int} {res : CV} (h : fX3_ask d VSe a1 a2 = some res), Con X yX3_ask mX3_ask (d + 0) 0 0 [.ref (A qSe), .int (iI a1), .int (iI a2)] (zWs A n S) (zRet (zWs A n (zC X A shSe qSe res S)) none) := by
  intro d
  induction d with
  | zero => intro A n S qSe VSe hSe bSe a1 a2 res h; cases h
  | succ d ih =>
    intro A n S qSe VSe hSe bSe a1 a2 res h
    refine con_of (lv := [(0, .ref (A qSe)), (1, .int (iI a1)), (2, .int (iI a2))]) (by decide) rfl (fun h => by cases h) rfl (Nat.le_of_ble_eq_true rfl) rfl ?_
    refine g_ws (M := mX3_ask) (congrArg (zWs A n) hSe.symm) ?_
    unfold fX3_ask at h
    refine g_aload_n (M := mX3_ask) dX3_ask_0 0 rfl rfl ?_
    refine k_get (M := mX3_ask) (v := .ref (A (qSe + 2))) dX3_ask_1 kF_X3_15.r qSe (by omega) (zC_o) rfl ?_
    refine g_aload_n (M := mX3_ask) dX3_ask_4 0 rfl rfl ?_
    refine k_get (M := mX3_ask) (v := .ref (A (qSe + 4))) dX3_ask_5 kF_X3_21.r qSe (by omega) (zC_o) rfl ?_
    refine g_iload_n (M := mX3_ask) dX3_ask_8 1 rfl rfl ?_
    obtain ⟨g1, h⟩ := zgi h
    refine k_iald (M := mX3_ask) (len := 7) (f := VSe.2 4) dX3_ask_9 (qSe + 4) (by omega) (zC_a (d := (0, 7)) 3 rfl) (Nat.le_of_ble_eq_true rfl) g1.1 g1.2 ?_
    refine g_iload_n (M := mX3_ask) dX3_ask_10 2 rfl rfl ?_
    refine h_iadd (M := mX3_ask) dX3_ask_11 ?_
    obtain ⟨g2, h⟩ := zgi h
    refine k_iald (M := mX3_ask) (len := (VSe.1 101).toNat) (f := VSe.2 2) dX3_ask_12 (qSe + 2) (by omega) (zC_a (d := (10, 101)) 1 rfl) (zDy1 g2.1 g2.2.1 g2.2.2) g2.1 (zDy2 g2.1 g2.2.1) ?_
    refine g_istore_n (M := mX3_ask) (lv' := [(0, .ref (A qSe)), (1, .int (iI a1)), (2, .int (iI a2)), (3, .int (iI (VSe.2 2 ((VSe.2 4 a1) + a2))))]) dX3_ask_13 rfl (by decide) rfl ?_
    refine g_aload_n (M := mX3_ask) dX3_ask_14 0 rfl rfl ?_
    refine g_dup (M := mX3_ask) dX3_ask_15 rfl ?_
    refine k_get (M := mX3_ask) (v := .int (iI (VSe.1 11))) dX3_ask_16 kF_X3_65.r qSe (by omega) (zC_o) rfl ?_
    refine h_iconst (M := mX3_ask) dX3_ask_19 ?_
    refine h_iadd (M := mX3_ask) dX3_ask_20 ?_
    refine c_put (M := mX3_ask) (k := 11) dX3_ask_21 kF_X3_65 (by omega) rfl rfl (by decide) rfl rfl ?_
    refine g_aload_n (M := mX3_ask) dX3_ask_24 0 rfl rfl ?_
    refine k_get (M := mX3_ask) (v := .int (iI (VSe.1 9))) dX3_ask_25 kF_X3_59.r qSe (by omega) (zC_o) rfl ?_
    refine h_iconst (M := mX3_ask) dX3_ask_28 ?_
    refine zJn_J (J := fun x7 => G X mX3_ask (zPm X (d + 1 + 0) 0 0 (zRet (zWs A n (zC X A shSe qSe res S)) none)) 0 0 53 [(0, .ref (A qSe)), (1, .int (iI a1)), (2, .int (iI a2)), (3, .int (iI (VSe.2 2 ((VSe.2 4 a1) + a2))))] [] (zWs A n (zC X A shSe qSe (zPu VSe 11 ((VSe.1 11) + 1)) S))) h (fun x7 h => ?_) (fun j7 h => ?_)
    · refine g_iload_n (M := mX3_ask) dX3_ask_53 1 rfl rfl ?_
      refine g_aload_n (M := mX3_ask) dX3_ask_54 0 rfl rfl ?_
      refine k_get (M := mX3_ask) (v := .int (iI (VSe.1 6))) dX3_ask_55 kF_X3_82.r qSe (by omega) (zC_o) rfl ?_
      obtain ⟨g9, h⟩ := zgi h
      refine h_icmp_lt (M := mX3_ask) (tgt := 74) dX3_ask_58 (by decide) g9.1 g9.2 (fun c8 => ?_) (fun c8 => ?_)
      · have h := zti c8 h
        refine h_iconst (M := mX3_ask) dX3_ask_74 ?_
        refine g_istore (M := mX3_ask) (lv' := [(0, .ref (A qSe)), (1, .int (iI a1)), (2, .int (iI a2)), (3, .int (iI (VSe.2 2 ((VSe.2 4 a1) + a2)))), (4, .int (iI 0))]) dX3_ask_75 (by decide) rfl ?_
        obtain ⟨x10, l10, h⟩ := zbi h
        have r10 : ∀ y10, y10 = x10 → G X mX3_ask (zPm X (d + 1 + 0) 0 0 (zRet (zWs A n (zC X A shSe qSe res S)) none)) 0 0 108 [] [] (zWs A n (zC X A shSe qSe y10.2 S)) := by
          intro y10 ey
          rw [← ey] at h
          have e := (Option.some.inj h)
          subst e
          exact g_vret (M := mX3_ask) dX3_ask_108 rfl (Nat.le_of_ble_eq_true rfl) (Nat.le_of_ble_eq_true rfl) ⟨rfl, rfl⟩
        refine g_lv (M := mX3_ask) [0, 1, 2, 4] rfl ?_
        refine zLp_J (J := fun s10 => G X mX3_ask (zPm X (d + 1 + 0) 0 0 (zRet (zWs A n (zC X A shSe qSe res S)) none)) 0 0 77 [(0, .ref (A qSe)), (1, .int (iI a1)), (2, .int (iI a2)), (4, .int (iI s10.1))] [] (zWs A n (zC X A shSe qSe s10.2 S))) (fun s10 w10 h10 b10 e10 => ?_) _ _ l10
        refine g_iload (M := mX3_ask) dX3_ask_77 3 rfl ?_
        refine g_aload_n (M := mX3_ask) dX3_ask_79 0 rfl rfl ?_
        refine k_get (M := mX3_ask) (v := .int (iI (s10.2.1 5))) dX3_ask_80 kF_X3_71.r qSe (by omega) (zC_o) rfl ?_
        obtain ⟨g16, h10⟩ := zgi h10
        refine h_icmp_ge (M := mX3_ask) (tgt := 108) dX3_ask_83 (by decide) g16.1 g16.2 (fun c15 => ?_) (fun c15 => ?_)
        · have h10 := zti c15 h10
          refine g_lv (M := mX3_ask) [] rfl ?_
          exact r10 _ (e10 _ (Option.some.inj h10).symm)
        · have h10 := zfi (Int.not_le.mpr c15) h10
          refine g_aload_n (M := mX3_ask) dX3_ask_86 0 rfl rfl ?_
          refine g_iload_n (M := mX3_ask) dX3_ask_87 1 rfl rfl ?_
          refine h_iconst (M := mX3_ask) dX3_ask_88 ?_
          refine h_iadd (M := mX3_ask) dX3_ask_89 ?_
          refine g_iload_n (M := mX3_ask) dX3_ask_90 2 rfl rfl ?_
          refine g_aload_n (M := mX3_ask) dX3_ask_91 0 rfl rfl ?_
          refine k_get (M := mX3_ask) (v := .int (iI (s10.2.1 5))) dX3_ask_92 kF_X3_71.r qSe (by omega) (zC_o) rfl ?_
          refine h_imul (M := mX3_ask) dX3_ask_95 ?_
          refine g_iload (M := mX3_ask) dX3_ask_96 3 rfl ?_
          refine h_iadd (M := mX3_ask) dX3_ask_98 ?_
          obtain ⟨t17, u18, h10⟩ := zbi h10
          refine g_callVr (M := mX3_ask) [.int (iI (a1 + 1)), .int (iI ((a2 * (s10.2.1 5)) + s10.1))] hX dX3_ask_99 vX3_ask kM_X3_74 (ih zC_self (by omega)  u18) qSe (zWs_at (by omega) (zC_o)) rfl ⟨(show (d + 0) + 1 ≤ (d + 1 + 0) by omega), (show 8 + (5 + 11) + 64 * (d + 0) ≤ 64 * (d + 1 + 0) by omega)⟩ ⟨(Nat.le_of_ble_eq_true rfl), (Nat.le_of_ble_eq_true rfl)⟩ (Nat.le_of_ble_eq_true rfl) ?_
          refine g_ws (M := mX3_ask) (congrArg (zWs A n) zC_over) ?_
          refine h_iinc (M := mX3_ask) (j := 3) (lv' := [(0, .ref (A qSe)), (1, .int (iI a1)), (2, .int (iI a2)), (4, .int (iI (s10.1 + 1)))]) dX3_ask_102 rfl (Nat.le_of_ble_eq_true rfl) rfl ?_
          refine g_goto (M := mX3_ask) (tgt := 77) dX3_ask_105 (by decide) ?_
          exact b10 _ (Option.some.inj h10).symm
      · have h := zfi (Int.not_lt.mpr c8) h
        refine g_aload_n (M := mX3_ask) dX3_ask_61 0 rfl rfl ?_
        refine g_iload_n (M := mX3_ask) dX3_ask_62 2 rfl rfl ?_
        refine c_put (M := mX3_ask) (k := 9) dX3_ask_63 kF_X3_59 (by omega) rfl rfl (by decide) rfl rfl ?_
        refine g_aload_n (M := mX3_ask) dX3_ask_66 0 rfl rfl ?_
        refine g_iload_n (M := mX3_ask) dX3_ask_67 3 rfl rfl ?_
        refine c_put (M := mX3_ask) (k := 10) dX3_ask_68 kF_X3_62 (by omega) rfl rfl (by decide) rfl rfl ?_
        refine g_goto (M := mX3_ask) (tgt := 108) dX3_ask_71 (by decide) ?_
        have e := (Option.some.inj h)
        subst e
        exact g_vret (M := mX3_ask) dX3_ask_108 rfl (Nat.le_of_ble_eq_true rfl) (Nat.le_of_ble_eq_true rfl) ⟨rfl, rfl⟩
    · obtain ⟨g20, h⟩ := zgi h
      refine h_icmp_eq (M := mX3_ask) (tgt := 53) dX3_ask_29 (by decide) g20 (by decide) (fun c19 => ?_) (fun c19 => ?_)
      · have h := zti c19 h
        exact j7 () h
      · have h := zfi c19 h
        refine g_iload_n (M := mX3_ask) dX3_ask_32 3 rfl rfl ?_
        refine g_aload_n (M := mX3_ask) dX3_ask_33 0 rfl rfl ?_
        refine k_get (M := mX3_ask) (v := .int (iI (VSe.1 10))) dX3_ask_34 kF_X3_62.r qSe (by omega) (zC_o) rfl ?_
        obtain ⟨g22, h⟩ := zgi h
        refine h_icmp_lt (M := mX3_ask) (tgt := 53) dX3_ask_37 (by decide) g22.1 g22.2 (fun c21 => ?_) (fun c21 => ?_)
        · have h := zti c21 h
          exact j7 () h
        · have h := zfi (Int.not_lt.mpr c21) h
          refine g_aload_n (M := mX3_ask) dX3_ask_40 0 rfl rfl ?_
          refine g_dup (M := mX3_ask) dX3_ask_41 rfl ?_
          refine k_get (M := mX3_ask) (v := .int (iI (VSe.1 12))) dX3_ask_42 kF_X3_68.r qSe (by omega) (zC_o) rfl ?_
          refine h_iconst (M := mX3_ask) dX3_ask_45 ?_
          refine h_iadd (M := mX3_ask) dX3_ask_46 ?_
          refine c_put (M := mX3_ask) (k := 12) dX3_ask_47 kF_X3_68 (by omega) rfl rfl (by decide) rfl rfl ?_
          refine g_goto (M := mX3_ask) (tgt := 108) dX3_ask_50 (by decide) ?_
          have e := (Option.some.inj h)
          subst e
          exact g_vret (M := mX3_ask) dX3_ask_108 rfl (Nat.le_of_ble_eq_true rfl) (Nat.le_of_ble_eq_true rfl) ⟨rfl, rfl⟩
set_option maxHeartbeats 4000000 in
set_option maxRecDepth 100000 in
theorem wX3_changeOneLetter {X : zX} (hX : zOK X) {A : Nat → Nat} {n : Nat} {S : Nat → va_E} {qSe : Nat} {VSe : CV} (hSe : isC X A shSe qSe VSe S) (bSe : qSe + 5 < n) {a1 : Int} {res : CV} (h : fX3_changeOneLetter VSe a1 = some res) : Con X yX3_changeOneLetter mX3_changeOneLetter 2 0 0 [.ref (A qSe), .int (iI a1)] (zWs A n S) (zRet (zWs A n (zC X A shSe qSe res S)) none) := by
  refine con_of (lv := [(0, .ref (A qSe)), (1, .int (iI a1))]) (by decide) rfl (fun h => by cases h) rfl (Nat.le_of_ble_eq_true rfl) rfl ?_
  refine g_ws (M := mX3_changeOneLetter) (congrArg (zWs A n) hSe.symm) ?_
  unfold fX3_changeOneLetter at h
  refine h_iconst (M := mX3_changeOneLetter) dX3_changeOneLetter_0 ?_
  refine g_iload_n (M := mX3_changeOneLetter) dX3_changeOneLetter_1 1 rfl rfl ?_
  refine g_aload_n (M := mX3_changeOneLetter) dX3_changeOneLetter_2 0 rfl rfl ?_
  refine k_get (M := mX3_changeOneLetter) (v := .int (iI (VSe.1 5))) dX3_changeOneLetter_3 kF_X3_71.r qSe (by omega) (zC_o) rfl ?_
  refine h_imul (M := mX3_changeOneLetter) dX3_changeOneLetter_6 ?_
  obtain ⟨g1, h⟩ := zgi h
  refine h_max (M := mX3_changeOneLetter) dX3_changeOneLetter_7 kM_X3_86 (by decide) g1 (Nat.le_of_ble_eq_true rfl) (Nat.le_of_ble_eq_true rfl) (Nat.le_of_ble_eq_true rfl) (Nat.le_of_ble_eq_true rfl) ?_
  refine g_istore_n (M := mX3_changeOneLetter) (lv' := [(0, .ref (A qSe)), (1, .int (iI a1)), (2, .int (iI (zMax 1 (a1 * (VSe.1 5)))))]) dX3_changeOneLetter_10 rfl (by decide) rfl ?_
  refine h_iconst (M := mX3_changeOneLetter) dX3_changeOneLetter_11 ?_
  refine g_istore_n (M := mX3_changeOneLetter) (lv' := [(0, .ref (A qSe)), (1, .int (iI a1)), (2, .int (iI (zMax 1 (a1 * (VSe.1 5))))), (3, .int (iI 0))]) dX3_changeOneLetter_12 rfl (by decide) rfl ?_
  obtain ⟨x2, l2, h⟩ := zbi h
  have r2 : ∀ y2, y2 = x2 → G X mX3_changeOneLetter (zPm X 2 0 0 (zRet (zWs A n (zC X A shSe qSe res S)) none)) 0 0 103 [] [] (zWs A n (zC X A shSe qSe y2.2 S)) := by
    intro y2 ey
    rw [← ey] at h
    have e := (Option.some.inj h)
    subst e
    exact g_vret (M := mX3_changeOneLetter) dX3_changeOneLetter_103 rfl (Nat.le_of_ble_eq_true rfl) (Nat.le_of_ble_eq_true rfl) ⟨rfl, rfl⟩
  refine zLp_J (J := fun s2 => G X mX3_changeOneLetter (zPm X 2 0 0 (zRet (zWs A n (zC X A shSe qSe res S)) none)) 0 0 13 [(0, .ref (A qSe)), (1, .int (iI a1)), (2, .int (iI (zMax 1 (a1 * (VSe.1 5))))), (3, .int (iI s2.1))] [] (zWs A n (zC X A shSe qSe s2.2 S))) (fun s2 w2 h2 b2 e2 => ?_) _ _ l2
  refine g_iload_n (M := mX3_changeOneLetter) dX3_changeOneLetter_13 3 rfl rfl ?_
  refine g_aload_n (M := mX3_changeOneLetter) dX3_changeOneLetter_14 0 rfl rfl ?_
  refine k_get (M := mX3_changeOneLetter) (v := .int (iI (s2.2.1 7))) dX3_changeOneLetter_15 kF_X3_83.r qSe (by omega) (zC_o) rfl ?_
  obtain ⟨g33, h2⟩ := zgi h2
  refine h_icmp_ge (M := mX3_changeOneLetter) (tgt := 103) dX3_changeOneLetter_18 (by decide) g33.1 g33.2 (fun c32 => ?_) (fun c32 => ?_)
  · have h2 := zti c32 h2
    refine g_lv (M := mX3_changeOneLetter) [] rfl ?_
    exact r2 _ (e2 _ (Option.some.inj h2).symm)
  · have h2 := zfi (Int.not_le.mpr c32) h2
    refine g_iload_n (M := mX3_changeOneLetter) dX3_changeOneLetter_21 3 rfl rfl ?_
    refine g_istore (M := mX3_changeOneLetter) (lv' := [(0, .ref (A qSe)), (1, .int (iI a1)), (2, .int (iI (zMax 1 (a1 * (VSe.1 5))))), (3, .int (iI s2.1)), (4, .int (iI s2.1))]) dX3_changeOneLetter_22 (by decide) rfl ?_
    obtain ⟨x34, l34, h2⟩ := zbi h2
    have r34 : ∀ y34, y34 = x34 → G X mX3_changeOneLetter (zPm X 2 0 0 (zRet (zWs A n (zC X A shSe qSe res S)) none)) 0 0 96 [(0, .ref (A qSe)), (1, .int (iI a1)), (2, .int (iI (zMax 1 (a1 * (VSe.1 5))))), (3, .int (iI s2.1))] [] (zWs A n (zC X A shSe qSe y34.2 S)) := by
      intro y34 ey
      rw [← ey] at h2
      refine g_iload_n (M := mX3_changeOneLetter) dX3_changeOneLetter_96 3 rfl rfl ?_
      refine g_iload_n (M := mX3_changeOneLetter) dX3_changeOneLetter_97 2 rfl rfl ?_
      refine h_iadd (M := mX3_changeOneLetter) dX3_changeOneLetter_98 ?_
      refine g_istore_n (M := mX3_changeOneLetter) (lv' := [(0, .ref (A qSe)), (1, .int (iI a1)), (2, .int (iI (zMax 1 (a1 * (VSe.1 5))))), (3, .int (iI (s2.1 + (zMax 1 (a1 * (VSe.1 5))))))]) dX3_changeOneLetter_99 rfl (by decide) rfl ?_
      refine g_goto (M := mX3_changeOneLetter) (tgt := 13) dX3_changeOneLetter_100 (by decide) ?_
      exact b2 _ (Option.some.inj h2).symm
    refine zLp_J (J := fun s34 => G X mX3_changeOneLetter (zPm X 2 0 0 (zRet (zWs A n (zC X A shSe qSe res S)) none)) 0 0 24 [(0, .ref (A qSe)), (1, .int (iI a1)), (2, .int (iI (zMax 1 (a1 * (VSe.1 5))))), (3, .int (iI s2.1)), (4, .int (iI s34.1))] [] (zWs A n (zC X A shSe qSe s34.2 S))) (fun s34 w34 h34 b34 e34 => ?_) _ _ l34
    refine g_iload (M := mX3_changeOneLetter) dX3_changeOneLetter_24 4 rfl ?_
    refine g_iload_n (M := mX3_changeOneLetter) dX3_changeOneLetter_26 3 rfl rfl ?_
    refine g_iload_n (M := mX3_changeOneLetter) dX3_changeOneLetter_27 1 rfl rfl ?_
    refine h_iadd (M := mX3_changeOneLetter) dX3_changeOneLetter_28 ?_
    obtain ⟨g49, h34⟩ := zgi h34
    refine h_icmp_ge (M := mX3_changeOneLetter) (tgt := 96) dX3_changeOneLetter_29 (by decide) g49.1 g49.2 (fun c48 => ?_) (fun c48 => ?_)
    · have h34 := zti c48 h34
      refine g_lv (M := mX3_changeOneLetter) [0, 1, 2, 3] rfl ?_
      exact r34 _ (e34 _ (Option.some.inj h34).symm)
    · have h34 := zfi (Int.not_le.mpr c48) h34
      refine g_aload_n (M := mX3_changeOneLetter) dX3_changeOneLetter_32 0 rfl rfl ?_
      refine g_iload (M := mX3_changeOneLetter) dX3_changeOneLetter_33 4 rfl ?_
      refine g_iload_n (M := mX3_changeOneLetter) dX3_changeOneLetter_35 1 rfl rfl ?_
      obtain ⟨t50, u51, h34⟩ := zbi h34
      refine g_callVr (M := mX3_changeOneLetter) [.int (iI s34.1), .int (iI a1)] hX dX3_changeOneLetter_36 vX3_nearestOf kM_X3_92 (wX3_nearestOf hX zC_self (by omega)  u51) qSe (zWs_at (by omega) (zC_o)) rfl ⟨(Nat.le_of_ble_eq_true rfl), (Nat.le_of_ble_eq_true rfl)⟩ ⟨(Nat.le_of_ble_eq_true rfl), (Nat.le_of_ble_eq_true rfl)⟩ (Nat.le_of_ble_eq_true rfl) ?_
      refine h_iconst (M := mX3_changeOneLetter) dX3_changeOneLetter_39 ?_
      refine h_iadd (M := mX3_changeOneLetter) dX3_changeOneLetter_40 ?_
      refine g_istore (M := mX3_changeOneLetter) (lv' := [(0, .ref (A qSe)), (1, .int (iI a1)), (2, .int (iI (zMax 1 (a1 * (VSe.1 5))))), (3, .int (iI s2.1)), (4, .int (iI s34.1)), (5, .int (iI (t50 + 1)))]) dX3_changeOneLetter_41 (by decide) rfl ?_
      refine h_iconst (M := mX3_changeOneLetter) dX3_changeOneLetter_43 ?_
      refine g_istore (M := mX3_changeOneLetter) (lv' := [(0, .ref (A qSe)), (1, .int (iI a1)), (2, .int (iI (zMax 1 (a1 * (VSe.1 5))))), (3, .int (iI s2.1)), (4, .int (iI s34.1)), (5, .int (iI (t50 + 1))), (6, .int (iI 0))]) dX3_changeOneLetter_44 (by decide) rfl ?_
      obtain ⟨x52, l52, h34⟩ := zbi h34
      have r52 : ∀ y52, y52 = x52 → G X mX3_changeOneLetter (zPm X 2 0 0 (zRet (zWs A n (zC X A shSe qSe res S)) none)) 0 0 90 [(0, .ref (A qSe)), (1, .int (iI a1)), (2, .int (iI (zMax 1 (a1 * (VSe.1 5))))), (3, .int (iI s2.1)), (4, .int (iI s34.1))] [] (zWs A n (zC X A shSe qSe y52.2 S)) := by
        intro y52 ey
        rw [← ey] at h34
        refine h_iinc (M := mX3_changeOneLetter) (j := 4) (lv' := [(0, .ref (A qSe)), (1, .int (iI a1)), (2, .int (iI (zMax 1 (a1 * (VSe.1 5))))), (3, .int (iI s2.1)), (4, .int (iI (s34.1 + 1)))]) dX3_changeOneLetter_90 rfl (Nat.le_of_ble_eq_true rfl) rfl ?_
        refine g_goto (M := mX3_changeOneLetter) (tgt := 24) dX3_changeOneLetter_93 (by decide) ?_
        exact b34 _ (Option.some.inj h34).symm
      refine zLp_J (J := fun s52 => G X mX3_changeOneLetter (zPm X 2 0 0 (zRet (zWs A n (zC X A shSe qSe res S)) none)) 0 0 46 [(0, .ref (A qSe)), (1, .int (iI a1)), (2, .int (iI (zMax 1 (a1 * (VSe.1 5))))), (3, .int (iI s2.1)), (4, .int (iI s34.1)), (5, .int (iI (t50 + 1))), (6, .int (iI s52.1))] [] (zWs A n (zC X A shSe qSe s52.2 S))) (fun s52 w52 h52 b52 e52 => ?_) _ _ l52
      refine g_iload (M := mX3_changeOneLetter) dX3_changeOneLetter_46 6 rfl ?_
      refine g_aload_n (M := mX3_changeOneLetter) dX3_changeOneLetter_48 0 rfl rfl ?_
      refine k_get (M := mX3_changeOneLetter) (v := .int (iI (s52.2.1 5))) dX3_changeOneLetter_49 kF_X3_71.r qSe (by omega) (zC_o) rfl ?_
      obtain ⟨g58, h52⟩ := zgi h52
      refine h_icmp_ge (M := mX3_changeOneLetter) (tgt := 90) dX3_changeOneLetter_52 (by decide) g58.1 g58.2 (fun c57 => ?_) (fun c57 => ?_)
      · have h52 := zti c57 h52
        refine g_lv (M := mX3_changeOneLetter) [0, 1, 2, 3, 4] rfl ?_
        exact r52 _ (e52 _ (Option.some.inj h52).symm)
      · have h52 := zfi (Int.not_le.mpr c57) h52
        refine g_aload_n (M := mX3_changeOneLetter) dX3_changeOneLetter_55 0 rfl rfl ?_
        refine k_get (M := mX3_changeOneLetter) (v := .ref (A (qSe + 1))) dX3_changeOneLetter_56 kF_X3_9.r qSe (by omega) (zC_o) rfl ?_
        refine g_iload (M := mX3_changeOneLetter) dX3_changeOneLetter_59 4 rfl ?_
        refine g_iload (M := mX3_changeOneLetter) dX3_changeOneLetter_61 6 rfl ?_
        refine g_iload_n (M := mX3_changeOneLetter) dX3_changeOneLetter_63 1 rfl rfl ?_
        refine h_imul (M := mX3_changeOneLetter) dX3_changeOneLetter_64 ?_
        refine h_iadd (M := mX3_changeOneLetter) dX3_changeOneLetter_65 ?_
        refine g_iload (M := mX3_changeOneLetter) dX3_changeOneLetter_66 5 rfl ?_
        refine g_aload_n (M := mX3_changeOneLetter) dX3_changeOneLetter_68 0 rfl rfl ?_
        refine k_get (M := mX3_changeOneLetter) (v := .ref (A (qSe + 1))) dX3_changeOneLetter_69 kF_X3_9.r qSe (by omega) (zC_o) rfl ?_
        refine g_iload (M := mX3_changeOneLetter) dX3_changeOneLetter_72 4 rfl ?_
        refine g_iload (M := mX3_changeOneLetter) dX3_changeOneLetter_74 6 rfl ?_
        refine g_iload_n (M := mX3_changeOneLetter) dX3_changeOneLetter_76 1 rfl rfl ?_
        refine h_imul (M := mX3_changeOneLetter) dX3_changeOneLetter_77 ?_
        refine h_iadd (M := mX3_changeOneLetter) dX3_changeOneLetter_78 ?_
        obtain ⟨g59, h52⟩ := zgi h52
        refine k_iald (M := mX3_changeOneLetter) (len := (s52.2.1 100).toNat) (f := s52.2.2 1) dX3_changeOneLetter_79 (qSe + 1) (by omega) (zC_a (d := (10, 100)) 0 rfl) (zDy1 g59.1 g59.2.1 g59.2.2) g59.1 (zDy2 g59.1 g59.2.1) ?_
        obtain ⟨g60, h52⟩ := zgi h52
        refine h_min (M := mX3_changeOneLetter) dX3_changeOneLetter_80 kM_X3_95 g60.1 g60.2 (Nat.le_of_ble_eq_true rfl) (Nat.le_of_ble_eq_true rfl) (Nat.le_of_ble_eq_true rfl) (Nat.le_of_ble_eq_true rfl) ?_
        refine c_iast (M := mX3_changeOneLetter) (len := (s52.2.1 100).toNat) (d := (10, 100)) dX3_changeOneLetter_83 0 rfl rfl (by omega) (zDy1 g59.1 g59.2.1 g59.2.2) g59.1 (zDy2 g59.1 g59.2.1) ?_
        refine h_iinc (M := mX3_changeOneLetter) (j := 6) (lv' := [(0, .ref (A qSe)), (1, .int (iI a1)), (2, .int (iI (zMax 1 (a1 * (VSe.1 5))))), (3, .int (iI s2.1)), (4, .int (iI s34.1)), (5, .int (iI (t50 + 1))), (6, .int (iI (s52.1 + 1)))]) dX3_changeOneLetter_84 rfl (Nat.le_of_ble_eq_true rfl) rfl ?_
        refine g_goto (M := mX3_changeOneLetter) (tgt := 46) dX3_changeOneLetter_87 (by decide) ?_
        exact b52 _ (Option.some.inj h52).symm
set_option maxHeartbeats 4000000 in
set_option maxRecDepth 100000 in
theorem wX3_fillNear {X : zX} (hX : zOK X) {A : Nat → Nat} {n : Nat} {S : Nat → va_E} {qSe : Nat} {VSe : CV} (hSe : isC X A shSe qSe VSe S) (bSe : qSe + 5 < n) {qB : Nat} {VB : CV} (hB : isC X A shB qB VB S) (bB : qB + 6 < n) (dSeB : qSe + 5 < qB ∨ qB + 6 < qSe) {a1 : Int} {res : CV} (h : fX3_fillNear VSe VB a1 = some res) : Con X yX3_fillNear mX3_fillNear 3 0 0 [.ref (A qSe), .ref (A qB), .int (iI a1)] (zWs A n S) (zRet (zWs A n (zC X A shSe qSe res S)) none) := by
  refine con_of (lv := [(0, .ref (A qSe)), (1, .ref (A qB)), (2, .int (iI a1))]) (by decide) rfl (fun h => by cases h) rfl (Nat.le_of_ble_eq_true rfl) rfl ?_
  refine g_ws (M := mX3_fillNear) (congrArg (zWs A n) hSe.symm) ?_
  unfold fX3_fillNear at h
  refine h_iconst (M := mX3_fillNear) dX3_fillNear_0 ?_
  refine g_istore_n (M := mX3_fillNear) (lv' := [(0, .ref (A qSe)), (1, .ref (A qB)), (2, .int (iI a1)), (3, .int (iI 0))]) dX3_fillNear_1 rfl (by decide) rfl ?_
  obtain ⟨x1, l1, h⟩ := zbi h
  have r1 : ∀ y1, y1 = x1 → G X mX3_fillNear (zPm X 3 0 0 (zRet (zWs A n (zC X A shSe qSe res S)) none)) 0 0 26 [(0, .ref (A qSe)), (1, .ref (A qB)), (2, .int (iI a1))] [] (zWs A n (zC X A shSe qSe y1.2 S)) := by
    intro y1 ey
    rw [← ey] at h
    refine h_iconst (M := mX3_fillNear) dX3_fillNear_26 ?_
    refine g_istore_n (M := mX3_fillNear) (lv' := [(0, .ref (A qSe)), (1, .ref (A qB)), (2, .int (iI a1)), (3, .int (iI 0))]) dX3_fillNear_27 rfl (by decide) rfl ?_
    obtain ⟨x5, l5, h⟩ := zbi h
    have r5 : ∀ y5, y5 = x5 → G X mX3_fillNear (zPm X 3 0 0 (zRet (zWs A n (zC X A shSe qSe res S)) none)) 0 0 68 [(0, .ref (A qSe))] [] (zWs A n (zC X A shSe qSe y5.2 S)) := by
      intro y5 ey
      rw [← ey] at h
      refine h_iconst (M := mX3_fillNear) dX3_fillNear_68 ?_
      refine g_istore_n (M := mX3_fillNear) (lv' := [(0, .ref (A qSe)), (3, .int (iI 1))]) dX3_fillNear_69 rfl (by decide) rfl ?_
      refine h_iconst (M := mX3_fillNear) dX3_fillNear_70 ?_
      refine g_istore (M := mX3_fillNear) (lv' := [(0, .ref (A qSe)), (3, .int (iI 1)), (4, .int (iI 0))]) dX3_fillNear_71 (by decide) rfl ?_
      obtain ⟨x18, l18, h⟩ := zbi h
      have r18 : ∀ y18, y18 = x18 → G X mX3_fillNear (zPm X 3 0 0 (zRet (zWs A n (zC X A shSe qSe res S)) none)) 0 0 100 [] [] (zWs A n (zC X A shSe qSe y18.2.2 S)) := by
        intro y18 ey
        rw [← ey] at h
        have e := (Option.some.inj h)
        subst e
        exact g_vret (M := mX3_fillNear) dX3_fillNear_100 rfl (Nat.le_of_ble_eq_true rfl) (Nat.le_of_ble_eq_true rfl) ⟨rfl, rfl⟩
      refine zLp_J (J := fun s18 => G X mX3_fillNear (zPm X 3 0 0 (zRet (zWs A n (zC X A shSe qSe res S)) none)) 0 0 73 [(0, .ref (A qSe)), (3, .int (iI s18.1)), (4, .int (iI s18.2.1))] [] (zWs A n (zC X A shSe qSe s18.2.2 S))) (fun s18 w18 h18 b18 e18 => ?_) _ _ l18
      refine g_iload (M := mX3_fillNear) dX3_fillNear_73 2 rfl ?_
      refine g_aload_n (M := mX3_fillNear) dX3_fillNear_75 0 rfl rfl ?_
      refine k_get (M := mX3_fillNear) (v := .int (iI (s18.2.2.1 6))) dX3_fillNear_76 kF_X3_82.r qSe (by omega) (zC_o) rfl ?_
      obtain ⟨g24, h18⟩ := zgi h18
      refine h_icmp_ge (M := mX3_fillNear) (tgt := 100) dX3_fillNear_79 (by decide) g24.1 g24.2 (fun c23 => ?_) (fun c23 => ?_)
      · have h18 := zti c23 h18
        refine g_lv (M := mX3_fillNear) [] rfl ?_
        exact r18 _ (e18 _ (Option.some.inj h18).symm)
      · have h18 := zfi (Int.not_le.mpr c23) h18
        refine g_aload_n (M := mX3_fillNear) dX3_fillNear_82 0 rfl rfl ?_
        refine g_iload_n (M := mX3_fillNear) dX3_fillNear_83 1 rfl rfl ?_
        obtain ⟨t25, u26, h18⟩ := zbi h18
        refine g_callVr (M := mX3_fillNear) [.int (iI s18.1)] hX dX3_fillNear_84 vX3_changeOneLetter kM_X3_112 (wX3_changeOneLetter hX zC_self (by omega)  u26) qSe (zWs_at (by omega) (zC_o)) rfl ⟨(Nat.le_of_ble_eq_true rfl), (Nat.le_of_ble_eq_true rfl)⟩ ⟨(Nat.le_of_ble_eq_true rfl), (Nat.le_of_ble_eq_true rfl)⟩ (Nat.le_of_ble_eq_true rfl) ?_
        refine g_ws (M := mX3_fillNear) (congrArg (zWs A n) zC_over) ?_
        refine g_iload_n (M := mX3_fillNear) dX3_fillNear_87 1 rfl rfl ?_
        refine g_aload_n (M := mX3_fillNear) dX3_fillNear_88 0 rfl rfl ?_
        refine k_get (M := mX3_fillNear) (v := .int (iI (t25.1 5))) dX3_fillNear_89 kF_X3_71.r qSe (by omega) (zC_o) rfl ?_
        refine h_imul (M := mX3_fillNear) dX3_fillNear_92 ?_
        refine g_istore_n (M := mX3_fillNear) (lv' := [(0, .ref (A qSe)), (3, .int (iI (s18.1 * (t25.1 5)))), (4, .int (iI s18.2.1))]) dX3_fillNear_93 rfl (by decide) rfl ?_
        refine h_iinc (M := mX3_fillNear) (j := 2) (lv' := [(0, .ref (A qSe)), (3, .int (iI (s18.1 * (t25.1 5)))), (4, .int (iI (s18.2.1 + 1)))]) dX3_fillNear_94 rfl (Nat.le_of_ble_eq_true rfl) rfl ?_
        refine g_goto (M := mX3_fillNear) (tgt := 73) dX3_fillNear_97 (by decide) ?_
        exact b18 _ (Option.some.inj h18).symm
    refine zLp_J (J := fun s5 => G X mX3_fillNear (zPm X 3 0 0 (zRet (zWs A n (zC X A shSe qSe res S)) none)) 0 0 28 [(0, .ref (A qSe)), (1, .ref (A qB)), (2, .int (iI a1)), (3, .int (iI s5.1))] [] (zWs A n (zC X A shSe qSe s5.2 S))) (fun s5 w5 h5 b5 e5 => ?_) _ _ l5
    refine g_iload_n (M := mX3_fillNear) dX3_fillNear_28 3 rfl rfl ?_
    refine g_aload_n (M := mX3_fillNear) dX3_fillNear_29 1 rfl rfl ?_
    refine g_iload_n (M := mX3_fillNear) dX3_fillNear_30 2 rfl rfl ?_
    obtain ⟨t27, u28, h5⟩ := zbi h5
    refine g_callVr (M := mX3_fillNear) [.int (iI a1)] hX dX3_fillNear_31 vX0_lastStart kM_X3_98 (wX0_lastStart hX (isC.keepN hB 5 6 rfl rfl (by omega)) (by omega)  u28) qB (zWs_at (by omega) ((zC_skipN 5 rfl (by omega)).trans (hB.o))) rfl ⟨(Nat.le_of_ble_eq_true rfl), (Nat.le_of_ble_eq_true rfl)⟩ ⟨(Nat.le_of_ble_eq_true rfl), (Nat.le_of_ble_eq_true rfl)⟩ (Nat.le_of_ble_eq_true rfl) ?_
    obtain ⟨g30, h5⟩ := zgi h5
    refine h_icmp_gt (M := mX3_fillNear) (tgt := 68) dX3_fillNear_34 (by decide) g30.1 g30.2 (fun c29 => ?_) (fun c29 => ?_)
    · have h5 := zti c29 h5
      refine g_lv (M := mX3_fillNear) [0] rfl ?_
      exact r5 _ (e5 _ (Option.some.inj h5).symm)
    · have h5 := zfi (Int.not_lt.mpr c29) h5
      refine g_aload_n (M := mX3_fillNear) dX3_fillNear_37 1 rfl rfl ?_
      refine g_iload_n (M := mX3_fillNear) dX3_fillNear_38 2 rfl rfl ?_
      refine g_iload_n (M := mX3_fillNear) dX3_fillNear_39 3 rfl rfl ?_
      obtain ⟨t31, u32, h5⟩ := zbi h5
      refine g_callVr (M := mX3_fillNear) [.int (iI a1), .int (iI s5.1)] hX dX3_fillNear_40 vX0_isPlace kM_X3_102 (wX0_isPlace hX (isC.keepN hB 5 6 rfl rfl (by omega)) (by omega)  u32) qB (zWs_at (by omega) ((zC_skipN 5 rfl (by omega)).trans (hB.o))) rfl ⟨(Nat.le_of_ble_eq_true rfl), (Nat.le_of_ble_eq_true rfl)⟩ ⟨(Nat.le_of_ble_eq_true rfl), (Nat.le_of_ble_eq_true rfl)⟩ (Nat.le_of_ble_eq_true rfl) ?_
      refine h_beq (M := mX3_fillNear) (tgt := 62) dX3_fillNear_43 (by decide) (fun c33 => ?_) (fun c33 => ?_)
      · have h5 := zfi (zbf c33) h5
        refine h_iinc (M := mX3_fillNear) (j := 3) (lv' := [(0, .ref (A qSe)), (1, .ref (A qB)), (2, .int (iI a1)), (3, .int (iI (s5.1 + 1)))]) dX3_fillNear_62 rfl (Nat.le_of_ble_eq_true rfl) rfl ?_
        refine g_goto (M := mX3_fillNear) (tgt := 28) dX3_fillNear_65 (by decide) ?_
        exact b5 _ (Option.some.inj h5).symm
      · have h5 := zti c33 h5
        refine g_aload_n (M := mX3_fillNear) dX3_fillNear_46 0 rfl rfl ?_
        refine k_get (M := mX3_fillNear) (v := .ref (A (qSe + 1))) dX3_fillNear_47 kF_X3_9.r qSe (by omega) (zC_o) rfl ?_
        refine g_aload_n (M := mX3_fillNear) dX3_fillNear_50 1 rfl rfl ?_
        refine g_aload_n (M := mX3_fillNear) dX3_fillNear_51 1 rfl rfl ?_
        refine g_iload_n (M := mX3_fillNear) dX3_fillNear_52 2 rfl rfl ?_
        refine g_iload_n (M := mX3_fillNear) dX3_fillNear_53 3 rfl rfl ?_
        obtain ⟨t34, u35, h5⟩ := zbi h5
        refine g_callVr (M := mX3_fillNear) [.int (iI a1), .int (iI s5.1)] hX dX3_fillNear_54 vX0_codeAt kM_X3_106 (wX0_codeAt hX (isC.keepN hB 5 6 rfl rfl (by omega)) (by omega)  u35) qB (zWs_at (by omega) ((zC_skipN 5 rfl (by omega)).trans (hB.o))) rfl ⟨(Nat.le_of_ble_eq_true rfl), (Nat.le_of_ble_eq_true rfl)⟩ ⟨(Nat.le_of_ble_eq_true rfl), (Nat.le_of_ble_eq_true rfl)⟩ (Nat.le_of_ble_eq_true rfl) ?_
        obtain ⟨t36, u37, h5⟩ := zbi h5
        refine g_callVr (M := mX3_fillNear) [.int (iI t34)] hX dX3_fillNear_57 vX0_wordOf kM_X3_109 (wX0_wordOf hX (isC.keepN hB 5 6 rfl rfl (by omega)) (by omega)  u37) qB (zWs_at (by omega) ((zC_skipN 5 rfl (by omega)).trans (hB.o))) rfl ⟨(Nat.le_of_ble_eq_true rfl), (Nat.le_of_ble_eq_true rfl)⟩ ⟨(Nat.le_of_ble_eq_true rfl), (Nat.le_of_ble_eq_true rfl)⟩ (Nat.le_of_ble_eq_true rfl) ?_
        refine h_iconst (M := mX3_fillNear) dX3_fillNear_60 ?_
        obtain ⟨g38, h5⟩ := zgi h5
        refine c_iast (M := mX3_fillNear) (len := (s5.2.1 100).toNat) (d := (10, 100)) dX3_fillNear_61 0 rfl rfl (by omega) (zDy1 g38.1 g38.2.1 g38.2.2) g38.1 (zDy2 g38.1 g38.2.1) ?_
        refine h_iinc (M := mX3_fillNear) (j := 3) (lv' := [(0, .ref (A qSe)), (1, .ref (A qB)), (2, .int (iI a1)), (3, .int (iI (s5.1 + 1)))]) dX3_fillNear_62 rfl (Nat.le_of_ble_eq_true rfl) rfl ?_
        refine g_goto (M := mX3_fillNear) (tgt := 28) dX3_fillNear_65 (by decide) ?_
        exact b5 _ (Option.some.inj h5).symm
  refine zLp_J (J := fun s1 => G X mX3_fillNear (zPm X 3 0 0 (zRet (zWs A n (zC X A shSe qSe res S)) none)) 0 0 2 [(0, .ref (A qSe)), (1, .ref (A qB)), (2, .int (iI a1)), (3, .int (iI s1.1))] [] (zWs A n (zC X A shSe qSe s1.2 S))) (fun s1 w1 h1 b1 e1 => ?_) _ _ l1
  refine g_iload_n (M := mX3_fillNear) dX3_fillNear_2 3 rfl rfl ?_
  refine g_aload_n (M := mX3_fillNear) dX3_fillNear_3 0 rfl rfl ?_
  refine k_get (M := mX3_fillNear) (v := .int (iI (s1.2.1 7))) dX3_fillNear_4 kF_X3_83.r qSe (by omega) (zC_o) rfl ?_
  obtain ⟨g40, h1⟩ := zgi h1
  refine h_icmp_ge (M := mX3_fillNear) (tgt := 26) dX3_fillNear_7 (by decide) g40.1 g40.2 (fun c39 => ?_) (fun c39 => ?_)
  · have h1 := zti c39 h1
    refine g_lv (M := mX3_fillNear) [0, 1, 2] rfl ?_
    exact r1 _ (e1 _ (Option.some.inj h1).symm)
  · have h1 := zfi (Int.not_le.mpr c39) h1
    refine g_aload_n (M := mX3_fillNear) dX3_fillNear_10 0 rfl rfl ?_
    refine k_get (M := mX3_fillNear) (v := .ref (A (qSe + 1))) dX3_fillNear_11 kF_X3_9.r qSe (by omega) (zC_o) rfl ?_
    refine g_iload_n (M := mX3_fillNear) dX3_fillNear_14 3 rfl rfl ?_
    refine g_aload_n (M := mX3_fillNear) dX3_fillNear_15 0 rfl rfl ?_
    refine k_get (M := mX3_fillNear) (v := .int (iI (s1.2.1 6))) dX3_fillNear_16 kF_X3_82.r qSe (by omega) (zC_o) rfl ?_
    obtain ⟨g41, h1⟩ := zgi h1
    refine c_iast (M := mX3_fillNear) (len := (s1.2.1 100).toNat) (d := (10, 100)) dX3_fillNear_19 0 rfl rfl (by omega) (zDy1 g41.1 g41.2.1 g41.2.2) g41.1 (zDy2 g41.1 g41.2.1) ?_
    refine h_iinc (M := mX3_fillNear) (j := 3) (lv' := [(0, .ref (A qSe)), (1, .ref (A qB)), (2, .int (iI a1)), (3, .int (iI (s1.1 + 1)))]) dX3_fillNear_20 rfl (Nat.le_of_ble_eq_true rfl) rfl ?_
    refine g_goto (M := mX3_fillNear) (tgt := 2) dX3_fillNear_23 (by decide) ?_
    exact b1 _ (Option.some.inj h1).symm
set_option maxHeartbeats 4000000 in
set_option maxRecDepth 100000 in
theorem wX3_scoreOf {X : zX} (hX : zOK X) {A : Nat → Nat} {n : Nat} {S : Nat → va_E} {qSe : Nat} {VSe : CV} (hSe : isC X A shSe qSe VSe S) (bSe : qSe + 5 < n) {a1 : Int} {res : Int} (h : fX3_scoreOf VSe a1 = some res) : Con X yX3_scoreOf mX3_scoreOf 0 0 0 [.ref (A qSe), .int (iI a1)] (zWs A n S) (zRet (zWs A n S) (some (.int (iI res)))) := by
  refine con_of (lv := [(0, .ref (A qSe)), (1, .int (iI a1))]) (by decide) rfl (fun h => by cases h) rfl (Nat.le_of_ble_eq_true rfl) rfl ?_
  unfold fX3_scoreOf at h
  refine g_aload_n (M := mX3_scoreOf) dX3_scoreOf_0 0 rfl rfl ?_
  refine k_get (M := mX3_scoreOf) (v := .ref (A (qSe + 2))) dX3_scoreOf_1 kF_X3_15.r qSe (by omega) (hSe.o) rfl ?_
  refine g_aload_n (M := mX3_scoreOf) dX3_scoreOf_4 0 rfl rfl ?_
  refine k_get (M := mX3_scoreOf) (v := .ref (A (qSe + 4))) dX3_scoreOf_5 kF_X3_21.r qSe (by omega) (hSe.o) rfl ?_
  refine g_aload_n (M := mX3_scoreOf) dX3_scoreOf_8 0 rfl rfl ?_
  refine k_get (M := mX3_scoreOf) (v := .int (iI (VSe.1 6))) dX3_scoreOf_9 kF_X3_82.r qSe (by omega) (hSe.o) rfl ?_
  obtain ⟨g1, h⟩ := zgi h
  refine k_iald (M := mX3_scoreOf) (len := 7) (f := VSe.2 4) dX3_scoreOf_12 (qSe + 4) (by omega) (hSe.a (d := (0, 7)) 3 rfl) (Nat.le_of_ble_eq_true rfl) g1.1 g1.2 ?_
  refine g_iload_n (M := mX3_scoreOf) dX3_scoreOf_13 1 rfl rfl ?_
  refine h_iadd (M := mX3_scoreOf) dX3_scoreOf_14 ?_
  obtain ⟨g2, h⟩ := zgi h
  refine k_iald (M := mX3_scoreOf) (len := (VSe.1 101).toNat) (f := VSe.2 2) dX3_scoreOf_15 (qSe + 2) (by omega) (hSe.a (d := (10, 101)) 1 rfl) (zDy1 g2.1 g2.2.1 g2.2.2) g2.1 (zDy2 g2.1 g2.2.1) ?_
  have e := (Option.some.inj h)
  subst e
  exact g_iret (M := mX3_scoreOf) dX3_scoreOf_16 rfl (Nat.le_of_ble_eq_true rfl) (Nat.le_of_ble_eq_true rfl) ⟨rfl, rfl⟩
set_option maxHeartbeats 4000000 in
set_option maxRecDepth 100000 in
theorem wX3_bestScoreWithout {X : zX} (hX : zOK X) {A : Nat → Nat} {n : Nat} {S : Nat → va_E} {qSe : Nat} {VSe : CV} (hSe : isC X A shSe qSe VSe S) (bSe : qSe + 5 < n) {qB : Nat} {VB : CV} (hB : isC X A shB qB VB S) (bB : qB + 6 < n) (dSeB : qSe + 5 < qB ∨ qB + 6 < qSe) {a1 : Int} {res : CV × Int} (h : fX3_bestScoreWithout VSe VB a1 = some res) : Con X yX3_bestScoreWithout mX3_bestScoreWithout 4 0 0 [.ref (A qSe), .ref (A qB), .int (iI a1)] (zWs A n S) (zRet (zWs A n (zC X A shSe qSe res.1 S)) (some (.int (iI res.2)))) := by
  refine con_of (lv := [(0, .ref (A qSe)), (1, .ref (A qB)), (2, .int (iI a1))]) (by decide) rfl (fun h => by cases h) rfl (Nat.le_of_ble_eq_true rfl) rfl ?_
  refine g_ws (M := mX3_bestScoreWithout) (congrArg (zWs A n) hSe.symm) ?_
  unfold fX3_bestScoreWithout at h
  refine g_aload_n (M := mX3_bestScoreWithout) dX3_bestScoreWithout_0 0 rfl rfl ?_
  refine g_aload_n (M := mX3_bestScoreWithout) dX3_bestScoreWithout_1 1 rfl rfl ?_
  refine g_iload_n (M := mX3_bestScoreWithout) dX3_bestScoreWithout_2 2 rfl rfl ?_
  obtain ⟨t1, u2, h⟩ := zbi h
  refine g_callVr (M := mX3_bestScoreWithout) [.ref (A qB), .int (iI a1)] hX dX3_bestScoreWithout_3 vX3_fillNear kM_X3_45 (wX3_fillNear hX zC_self (by omega) (isC.keepN hB 5 6 rfl rfl (by omega)) (by omega) (by omega) u2) qSe (zWs_at (by omega) (zC_o)) rfl ⟨(Nat.le_of_ble_eq_true rfl), (Nat.le_of_ble_eq_true rfl)⟩ ⟨(Nat.le_of_ble_eq_true rfl), (Nat.le_of_ble_eq_true rfl)⟩ (Nat.le_of_ble_eq_true rfl) ?_
  refine g_ws (M := mX3_bestScoreWithout) (congrArg (zWs A n) zC_over) ?_
  refine h_bipush (M := mX3_bestScoreWithout) dX3_bestScoreWithout_6 rfl ?_
  refine g_istore_n (M := mX3_bestScoreWithout) (lv' := [(0, .ref (A qSe)), (1, .ref (A qB)), (2, .int (iI a1)), (3, .int (iI 61))]) dX3_bestScoreWithout_8 rfl (by decide) rfl ?_
  refine h_iconst (M := mX3_bestScoreWithout) dX3_bestScoreWithout_9 ?_
  refine g_istore (M := mX3_bestScoreWithout) (lv' := [(0, .ref (A qSe)), (1, .ref (A qB)), (2, .int (iI a1)), (3, .int (iI 61)), (4, .int (iI 0))]) dX3_bestScoreWithout_10 (by decide) rfl ?_
  obtain ⟨x3, l3, h⟩ := zbi h
  have r3 : ∀ y3, y3 = x3 → G X mX3_bestScoreWithout (zPm X 4 0 0 (zRet (zWs A n (zC X A shSe qSe res.1 S)) (some (.int (iI res.2))))) 0 0 46 [(3, .int (iI y3.1))] [] (zWs A n (zC X A shSe qSe t1 S)) := by
    intro y3 ey
    rw [← ey] at h
    refine g_iload_n (M := mX3_bestScoreWithout) dX3_bestScoreWithout_46 0 rfl rfl ?_
    have e := (Option.some.inj h)
    subst e
    exact g_iret (M := mX3_bestScoreWithout) dX3_bestScoreWithout_47 rfl (Nat.le_of_ble_eq_true rfl) (Nat.le_of_ble_eq_true rfl) ⟨rfl, rfl⟩
  refine g_lv (M := mX3_bestScoreWithout) [0, 3, 4] rfl ?_
  refine zLp_J (J := fun s3 => G X mX3_bestScoreWithout (zPm X 4 0 0 (zRet (zWs A n (zC X A shSe qSe res.1 S)) (some (.int (iI res.2))))) 0 0 12 [(0, .ref (A qSe)), (3, .int (iI s3.1)), (4, .int (iI s3.2))] [] (zWs A n (zC X A shSe qSe t1 S))) (fun s3 w3 h3 b3 e3 => ?_) _ _ l3
  refine g_iload (M := mX3_bestScoreWithout) dX3_bestScoreWithout_12 2 rfl ?_
  refine g_aload_n (M := mX3_bestScoreWithout) dX3_bestScoreWithout_14 0 rfl rfl ?_
  refine k_get (M := mX3_bestScoreWithout) (v := .int (iI (t1.1 7))) dX3_bestScoreWithout_15 kF_X3_83.r qSe (by omega) (zC_o) rfl ?_
  obtain ⟨g11, h3⟩ := zgi h3
  refine h_icmp_ge (M := mX3_bestScoreWithout) (tgt := 46) dX3_bestScoreWithout_18 (by decide) g11.1 g11.2 (fun c10 => ?_) (fun c10 => ?_)
  · have h3 := zti c10 h3
    refine g_lv (M := mX3_bestScoreWithout) [1] rfl ?_
    exact r3 _ (e3 _ (Option.some.inj h3).symm)
  · have h3 := zfi (Int.not_le.mpr c10) h3
    refine g_iload_n (M := mX3_bestScoreWithout) dX3_bestScoreWithout_21 1 rfl rfl ?_
    refine g_aload_n (M := mX3_bestScoreWithout) dX3_bestScoreWithout_22 0 rfl rfl ?_
    refine g_iload (M := mX3_bestScoreWithout) dX3_bestScoreWithout_23 2 rfl ?_
    obtain ⟨t12, u13, h3⟩ := zbi h3
    refine g_callVr (M := mX3_bestScoreWithout) [.int (iI s3.2)] hX dX3_bestScoreWithout_25 vX3_scoreOf kM_X3_115 (wX3_scoreOf hX zC_self (by omega)  u13) qSe (zWs_at (by omega) (zC_o)) rfl ⟨(Nat.le_of_ble_eq_true rfl), (Nat.le_of_ble_eq_true rfl)⟩ ⟨(Nat.le_of_ble_eq_true rfl), (Nat.le_of_ble_eq_true rfl)⟩ (Nat.le_of_ble_eq_true rfl) ?_
    refine g_aload_n (M := mX3_bestScoreWithout) dX3_bestScoreWithout_28 0 rfl rfl ?_
    refine k_get (M := mX3_bestScoreWithout) (v := .ref (A (qSe + 1))) dX3_bestScoreWithout_29 kF_X3_9.r qSe (by omega) (zC_o) rfl ?_
    refine g_iload (M := mX3_bestScoreWithout) dX3_bestScoreWithout_32 2 rfl ?_
    obtain ⟨g14, h3⟩ := zgi h3
    refine k_iald (M := mX3_bestScoreWithout) (len := (t1.1 100).toNat) (f := t1.2 1) dX3_bestScoreWithout_34 (qSe + 1) (by omega) (zC_a (d := (10, 100)) 0 rfl) (zDy1 g14.1 g14.2.1 g14.2.2) g14.1 (zDy2 g14.1 g14.2.1) ?_
    refine h_isub (M := mX3_bestScoreWithout) dX3_bestScoreWithout_35 ?_
    obtain ⟨g15, h3⟩ := zgi h3
    refine h_min (M := mX3_bestScoreWithout) dX3_bestScoreWithout_36 kM_X3_95 g15.1 g15.2 (Nat.le_of_ble_eq_true rfl) (Nat.le_of_ble_eq_true rfl) (Nat.le_of_ble_eq_true rfl) (Nat.le_of_ble_eq_true rfl) ?_
    refine g_istore_n (M := mX3_bestScoreWithout) (lv' := [(0, .ref (A qSe)), (3, .int (iI (zMin s3.1 (t12 - (t1.2 1 s3.2))))), (4, .int (iI s3.2))]) dX3_bestScoreWithout_39 rfl (by decide) rfl ?_
    refine h_iinc (M := mX3_bestScoreWithout) (j := 2) (lv' := [(0, .ref (A qSe)), (3, .int (iI (zMin s3.1 (t12 - (t1.2 1 s3.2))))), (4, .int (iI (s3.2 + 1)))]) dX3_bestScoreWithout_40 rfl (Nat.le_of_ble_eq_true rfl) rfl ?_
    refine g_goto (M := mX3_bestScoreWithout) (tgt := 12) dX3_bestScoreWithout_43 (by decide) ?_
    exact b3 _ (Option.some.inj h3).symm
set_option maxHeartbeats 4000000 in
set_option maxRecDepth 100000 in
theorem wX3_countScores {X : zX} (hX : zOK X) {A : Nat → Nat} {n : Nat} {S : Nat → va_E} {qSe : Nat} {VSe : CV} (hSe : isC X A shSe qSe VSe S) (bSe : qSe + 5 < n) {res : CV} (h : fX3_countScores VSe = some res) : Con X yX3_countScores mX3_countScores 1 0 0 [.ref (A qSe)] (zWs A n S) (zRet (zWs A n (zC X A shSe qSe res S)) none) := by
  refine con_of (lv := [(0, .ref (A qSe))]) (by decide) rfl (fun h => by cases h) rfl (Nat.le_of_ble_eq_true rfl) rfl ?_
  refine g_ws (M := mX3_countScores) (congrArg (zWs A n) hSe.symm) ?_
  unfold fX3_countScores at h
  refine h_iconst (M := mX3_countScores) dX3_countScores_0 ?_
  refine g_istore_n (M := mX3_countScores) (lv' := [(0, .ref (A qSe)), (1, .int (iI 0))]) dX3_countScores_1 rfl (by decide) rfl ?_
  obtain ⟨x1, l1, h⟩ := zbi h
  have r1 : ∀ y1, y1 = x1 → G X mX3_countScores (zPm X 1 0 0 (zRet (zWs A n (zC X A shSe qSe res S)) none)) 0 0 21 [(0, .ref (A qSe))] [] (zWs A n (zC X A shSe qSe y1.2 S)) := by
    intro y1 ey
    rw [← ey] at h
    refine h_iconst (M := mX3_countScores) dX3_countScores_21 ?_
    refine g_istore_n (M := mX3_countScores) (lv' := [(0, .ref (A qSe)), (1, .int (iI 0))]) dX3_countScores_22 rfl (by decide) rfl ?_
    obtain ⟨x5, l5, h⟩ := zbi h
    have r5 : ∀ y5, y5 = x5 → G X mX3_countScores (zPm X 1 0 0 (zRet (zWs A n (zC X A shSe qSe res S)) none)) 0 0 51 [] [] (zWs A n (zC X A shSe qSe y5.2 S)) := by
      intro y5 ey
      rw [← ey] at h
      have e := (Option.some.inj h)
      subst e
      exact g_vret (M := mX3_countScores) dX3_countScores_51 rfl (Nat.le_of_ble_eq_true rfl) (Nat.le_of_ble_eq_true rfl) ⟨rfl, rfl⟩
    refine zLp_J (J := fun s5 => G X mX3_countScores (zPm X 1 0 0 (zRet (zWs A n (zC X A shSe qSe res S)) none)) 0 0 23 [(0, .ref (A qSe)), (1, .int (iI s5.1))] [] (zWs A n (zC X A shSe qSe s5.2 S))) (fun s5 w5 h5 b5 e5 => ?_) _ _ l5
    refine g_iload_n (M := mX3_countScores) dX3_countScores_23 1 rfl rfl ?_
    refine g_aload_n (M := mX3_countScores) dX3_countScores_24 0 rfl rfl ?_
    refine k_get (M := mX3_countScores) (v := .int (iI (s5.2.1 7))) dX3_countScores_25 kF_X3_83.r qSe (by omega) (zC_o) rfl ?_
    obtain ⟨g12, h5⟩ := zgi h5
    refine h_icmp_ge (M := mX3_countScores) (tgt := 51) dX3_countScores_28 (by decide) g12.1 g12.2 (fun c11 => ?_) (fun c11 => ?_)
    · have h5 := zti c11 h5
      refine g_lv (M := mX3_countScores) [] rfl ?_
      exact r5 _ (e5 _ (Option.some.inj h5).symm)
    · have h5 := zfi (Int.not_le.mpr c11) h5
      refine g_aload_n (M := mX3_countScores) dX3_countScores_31 0 rfl rfl ?_
      refine k_get (M := mX3_countScores) (v := .ref (A (qSe + 5))) dX3_countScores_32 kF_X3_24.r qSe (by omega) (zC_o) rfl ?_
      refine g_aload_n (M := mX3_countScores) dX3_countScores_35 0 rfl rfl ?_
      refine g_iload_n (M := mX3_countScores) dX3_countScores_36 1 rfl rfl ?_
      obtain ⟨t13, u14, h5⟩ := zbi h5
      refine g_callVr (M := mX3_countScores) [.int (iI s5.1)] hX dX3_countScores_37 vX3_scoreOf kM_X3_115 (wX3_scoreOf hX zC_self (by omega)  u14) qSe (zWs_at (by omega) (zC_o)) rfl ⟨(Nat.le_of_ble_eq_true rfl), (Nat.le_of_ble_eq_true rfl)⟩ ⟨(Nat.le_of_ble_eq_true rfl), (Nat.le_of_ble_eq_true rfl)⟩ (Nat.le_of_ble_eq_true rfl) ?_
      refine g_dup2_11 (M := mX3_countScores) dX3_countScores_40 rfl rfl ?_
      obtain ⟨g15, h5⟩ := zgi h5
      refine k_iald (M := mX3_countScores) (len := 61) (f := s5.2.2 5) dX3_countScores_41 (qSe + 5) (by omega) (zC_a (d := (0, 61)) 4 rfl) (Nat.le_of_ble_eq_true rfl) g15.1 g15.2 ?_
      refine h_iconst (M := mX3_countScores) dX3_countScores_42 ?_
      refine h_iadd (M := mX3_countScores) dX3_countScores_43 ?_
      refine c_iast (M := mX3_countScores) (len := 61) (d := (0, 61)) dX3_countScores_44 4 rfl rfl (by omega) (Nat.le_of_ble_eq_true rfl) g15.1 g15.2 ?_
      refine h_iinc (M := mX3_countScores) (j := 1) (lv' := [(0, .ref (A qSe)), (1, .int (iI (s5.1 + 1)))]) dX3_countScores_45 rfl (Nat.le_of_ble_eq_true rfl) rfl ?_
      refine g_goto (M := mX3_countScores) (tgt := 23) dX3_countScores_48 (by decide) ?_
      exact b5 _ (Option.some.inj h5).symm
  refine zLp_J (J := fun s1 => G X mX3_countScores (zPm X 1 0 0 (zRet (zWs A n (zC X A shSe qSe res S)) none)) 0 0 2 [(0, .ref (A qSe)), (1, .int (iI s1.1))] [] (zWs A n (zC X A shSe qSe s1.2 S))) (fun s1 w1 h1 b1 e1 => ?_) _ _ l1
  refine g_iload_n (M := mX3_countScores) dX3_countScores_2 1 rfl rfl ?_
  refine h_bipush (M := mX3_countScores) dX3_countScores_3 rfl ?_
  obtain ⟨g17, h1⟩ := zgi h1
  refine h_icmp_ge (M := mX3_countScores) (tgt := 21) dX3_countScores_5 (by decide) g17 (by decide) (fun c16 => ?_) (fun c16 => ?_)
  · have h1 := zti c16 h1
    refine g_lv (M := mX3_countScores) [0] rfl ?_
    exact r1 _ (e1 _ (Option.some.inj h1).symm)
  · have h1 := zfi (Int.not_le.mpr c16) h1
    refine g_aload_n (M := mX3_countScores) dX3_countScores_8 0 rfl rfl ?_
    refine k_get (M := mX3_countScores) (v := .ref (A (qSe + 5))) dX3_countScores_9 kF_X3_24.r qSe (by omega) (zC_o) rfl ?_
    refine g_iload_n (M := mX3_countScores) dX3_countScores_12 1 rfl rfl ?_
    refine h_iconst (M := mX3_countScores) dX3_countScores_13 ?_
    obtain ⟨g18, h1⟩ := zgi h1
    refine c_iast (M := mX3_countScores) (len := 61) (d := (0, 61)) dX3_countScores_14 4 rfl rfl (by omega) (Nat.le_of_ble_eq_true rfl) g18.1 g18.2 ?_
    refine h_iinc (M := mX3_countScores) (j := 1) (lv' := [(0, .ref (A qSe)), (1, .int (iI (s1.1 + 1)))]) dX3_countScores_15 rfl (Nat.le_of_ble_eq_true rfl) rfl ?_
    refine g_goto (M := mX3_countScores) (tgt := 2) dX3_countScores_18 (by decide) ?_
    exact b1 _ (Option.some.inj h1).symm
set_option maxHeartbeats 4000000 in
set_option maxRecDepth 100000 in
theorem wX3_forget {X : zX} (hX : zOK X) {A : Nat → Nat} {n : Nat} {S : Nat → va_E} {qSe : Nat} {VSe : CV} (hSe : isC X A shSe qSe VSe S) (bSe : qSe + 5 < n) {res : CV} (h : fX3_forget VSe = some res) : Con X yX3_forget mX3_forget 0 0 0 [.ref (A qSe)] (zWs A n S) (zRet (zWs A n (zC X A shSe qSe res S)) none) := by
  refine con_of (lv := [(0, .ref (A qSe))]) (by decide) rfl (fun h => by cases h) rfl (Nat.le_of_ble_eq_true rfl) rfl ?_
  refine g_ws (M := mX3_forget) (congrArg (zWs A n) hSe.symm) ?_
  unfold fX3_forget at h
  refine g_aload_n (M := mX3_forget) dX3_forget_0 0 rfl rfl ?_
  refine h_iconst (M := mX3_forget) dX3_forget_1 ?_
  refine c_put (M := mX3_forget) (k := 8) dX3_forget_2 kF_X3_27 (by omega) rfl rfl (by decide) rfl rfl ?_
  have e := (Option.some.inj h)
  subst e
  exact g_vret (M := mX3_forget) dX3_forget_5 rfl (Nat.le_of_ble_eq_true rfl) (Nat.le_of_ble_eq_true rfl) ⟨rfl, rfl⟩
set_option maxHeartbeats 4000000 in
set_option maxRecDepth 100000 in
theorem wX3_makeRoom {X : zX} (hX : zOK X) {A : Nat → Nat} {n : Nat} {S : Nat → va_E} {qSe : Nat} {VSe : CV} (hSe : isC X A shSe qSe VSe S) (bSe : qSe + 5 < n) {qB : Nat} {VB : CV} (hB : isC X A shB qB VB S) (bB : qB + 6 < n) (dSeB : qSe + 5 < qB ∨ qB + 6 < qSe) {res : CV} (h : fX3_makeRoom VSe VB = some res) : Con X yX3_makeRoom mX3_makeRoom 0 (3 * zNd VSe VB) (13652 * zNd VSe VB) [.ref (A qSe), .ref (A qB)] (zWs A n S) (zRA A (fun k => qSe < k ∧ k ≤ qSe + 5) (fun A' => (zWs A' n (zC X A' shSe qSe res S))) (fun A' => .inl none)) := by
  refine con_of (lv := [(0, .ref (A qSe)), (1, .ref (A qB))]) (by decide) rfl (fun h => by cases h) rfl (Nat.le_of_ble_eq_true rfl) rfl ?_
  refine g_ws (M := mX3_makeRoom) (congrArg (zWs A n) hSe.symm) ?_
  unfold fX3_makeRoom at h
  refine g_aload_n (M := mX3_makeRoom) dX3_makeRoom_0 0 rfl rfl ?_
  refine g_aload_n (M := mX3_makeRoom) dX3_makeRoom_1 1 rfl rfl ?_
  refine k_get (M := mX3_makeRoom) (v := .int (iI (VB.1 0))) dX3_makeRoom_2 kF_X3_78.r qB (by omega) ((zC_skipN 5 rfl (by omega)).trans (hB.o)) rfl ?_
  refine c_put (M := mX3_makeRoom) (k := 5) dX3_makeRoom_5 kF_X3_71 (by omega) rfl rfl (by decide) rfl rfl ?_
  refine g_aload_n (M := mX3_makeRoom) dX3_makeRoom_8 0 rfl rfl ?_
  refine g_aload_n (M := mX3_makeRoom) dX3_makeRoom_9 1 rfl rfl ?_
  refine k_get (M := mX3_makeRoom) (v := .int (iI (VB.1 1))) dX3_makeRoom_10 kF_X3_79.r qB (by omega) ((zC_skipN 5 rfl (by omega)).trans (hB.o)) rfl ?_
  refine c_put (M := mX3_makeRoom) (k := 6) dX3_makeRoom_13 kF_X3_82 (by omega) rfl rfl (by decide) rfl rfl ?_
  refine h_iconst (M := mX3_makeRoom) dX3_makeRoom_16 ?_
  refine g_istore_n (M := mX3_makeRoom) (lv' := [(0, .ref (A qSe)), (1, .ref (A qB)), (2, .int (iI 0))]) dX3_makeRoom_17 rfl (by decide) rfl ?_
  refine g_aload_n (M := mX3_makeRoom) dX3_makeRoom_18 0 rfl rfl ?_
  refine h_iconst (M := mX3_makeRoom) dX3_makeRoom_19 ?_
  refine c_put (M := mX3_makeRoom) (k := 7) dX3_makeRoom_20 kF_X3_83 (by omega) rfl rfl (by decide) rfl rfl ?_
  refine h_iconst (M := mX3_makeRoom) dX3_makeRoom_23 ?_
  refine g_istore_n (M := mX3_makeRoom) (lv' := [(0, .ref (A qSe)), (1, .ref (A qB)), (2, .int (iI 0)), (3, .int (iI 1))]) dX3_makeRoom_24 rfl (by decide) rfl ?_
  obtain ⟨x1, l1, h⟩ := zbi h
  have r1 : ∀ y1, y1 = x1 → ∀ (Ar1 : Nat → Nat), (∀ k, ¬ (fun k => qSe < k ∧ k ≤ qSe + 5) k → Ar1 k = A k) → G X mX3_makeRoom (zPm X 0 (3 * zNd VSe VB) (13652 * zNd VSe VB) (zRA A (fun k => qSe < k ∧ k ≤ qSe + 5) (fun A' => (zWs A' n (zC X A' shSe qSe res S))) (fun A' => .inl none))) 0 0 66 [(0, .ref (Ar1 qSe)), (2, .int (iI y1.1))] [] (zWs Ar1 n (zC X Ar1 shSe qSe y1.2.2 S)) := by
    intro y1 ey
    intro Ar1 hAr1
    have hBr1 := isC.rel (A' := Ar1) hB 6 rfl (fun k _ _ => hAr1 k (by omega))
    rw [← ey] at h
    refine g_aload_n (M := mX3_makeRoom) dX3_makeRoom_66 0 rfl rfl ?_
    refine k_get (M := mX3_makeRoom) (v := .ref (Ar1 (qSe + 1))) dX3_makeRoom_67 kF_X3_9.r qSe (by omega) (zC_o) rfl ?_
    obtain ⟨g5, h⟩ := zgi h
    refine g_alen (M := mX3_makeRoom) (t := 0) (v := iI (y1.2.2.1 100)) dX3_makeRoom_70 (qSe + 1) (zWs_at (by omega) (zC_a (d := (10, 100)) 0 rfl)) rfl (iI_len g5) ?_
    refine g_aload_n (M := mX3_makeRoom) dX3_makeRoom_71 0 rfl rfl ?_
    refine k_get (M := mX3_makeRoom) (v := .int (iI (y1.2.2.1 7))) dX3_makeRoom_72 kF_X3_83.r qSe (by omega) (zC_o) rfl ?_
    refine zJn_J (J := fun x14 => ∀ (Aj14 : Nat → Nat), (∀ k, ¬ (fun k => qSe < k ∧ k ≤ qSe + 5) k → Aj14 k = A k) → G X mX3_makeRoom (zPm X 0 (3 * zNd VSe VB) (13652 * zNd VSe VB) (zRA A (fun k => qSe < k ∧ k ≤ qSe + 5) (fun A' => (zWs A' n (zC X A' shSe qSe res S))) (fun A' => .inl none))) (2 * zNd VSe VB) (8192 * zNd VSe VB) 98 [(0, .ref (Aj14 qSe)), (2, .int (iI y1.1))] [] (zWs Aj14 n (zC X Aj14 shSe qSe x14 S))) h (fun x14 h => ?_) (fun j14 h => ?_)
    · intro Aj14 hAj14
      have hBj14 := isC.rel (A' := Aj14) hB 6 rfl (fun k _ _ => hAj14 k (by omega))
      refine g_aload_n (M := mX3_makeRoom) dX3_makeRoom_98 0 rfl rfl ?_
      refine k_get (M := mX3_makeRoom) (v := .ref (Aj14 (qSe + 2))) dX3_makeRoom_99 kF_X3_15.r qSe (by omega) (zC_o) rfl ?_
      obtain ⟨g15, h⟩ := zgi h
      refine g_alen (M := mX3_makeRoom) (t := 0) (v := iI (x14.1 101)) dX3_makeRoom_102 (qSe + 2) (zWs_at (by omega) (zC_a (d := (10, 101)) 1 rfl)) rfl (iI_len g15) ?_
      refine g_iload_n (M := mX3_makeRoom) dX3_makeRoom_103 1 rfl rfl ?_
      refine zJn_J (J := fun x21 => ∀ (Aj21 : Nat → Nat), (∀ k, ¬ (fun k => qSe < k ∧ k ≤ qSe + 5) k → Aj21 k = A k) → G X mX3_makeRoom (zPm X 0 (3 * zNd VSe VB) (13652 * zNd VSe VB) (zRA A (fun k => qSe < k ∧ k ≤ qSe + 5) (fun A' => (zWs A' n (zC X A' shSe qSe res S))) (fun A' => .inl none))) (3 * zNd VSe VB) (13652 * zNd VSe VB) 114 [(0, .ref (Aj21 qSe)), (2, .int (iI y1.1))] [] (zWs Aj21 n (zC X Aj21 shSe qSe x21 S))) h (fun x21 h => ?_) (fun j21 h => ?_)
      · intro Aj21 hAj21
        have hBj21 := isC.rel (A' := Aj21) hB 6 rfl (fun k _ _ => hAj21 k (by omega))
        refine h_iconst (M := mX3_makeRoom) dX3_makeRoom_114 ?_
        refine g_istore_n (M := mX3_makeRoom) (lv' := [(0, .ref (Aj21 qSe)), (2, .int (iI y1.1)), (3, .int (iI 0))]) dX3_makeRoom_115 rfl (by decide) rfl ?_
        obtain ⟨x22, l22, h⟩ := zbi h
        have r22 : ∀ y22, y22 = x22 → ∀ (Ar22 : Nat → Nat), (∀ k, ¬ (fun k => qSe < k ∧ k ≤ qSe + 5) k → Ar22 k = A k) → G X mX3_makeRoom (zPm X 0 (3 * zNd VSe VB) (13652 * zNd VSe VB) (zRA A (fun k => qSe < k ∧ k ≤ qSe + 5) (fun A' => (zWs A' n (zC X A' shSe qSe res S))) (fun A' => .inl none))) (3 * zNd VSe VB) (13652 * zNd VSe VB) 134 [(0, .ref (Ar22 qSe))] [] (zWs Ar22 n (zC X Ar22 shSe qSe y22.2 S)) := by
          intro y22 ey
          intro Ar22 hAr22
          have hBr22 := isC.rel (A' := Ar22) hB 6 rfl (fun k _ _ => hAr22 k (by omega))
          rw [← ey] at h
          refine h_iconst (M := mX3_makeRoom) dX3_makeRoom_134 ?_
          refine g_istore_n (M := mX3_makeRoom) (lv' := [(0, .ref (Ar22 qSe)), (3, .int (iI 0))]) dX3_makeRoom_135 rfl (by decide) rfl ?_
          obtain ⟨x26, l26, h⟩ := zbi h
          have r26 : ∀ y26, y26 = x26 → ∀ (Ar26 : Nat → Nat), (∀ k, ¬ (fun k => qSe < k ∧ k ≤ qSe + 5) k → Ar26 k = A k) → G X mX3_makeRoom (zPm X 0 (3 * zNd VSe VB) (13652 * zNd VSe VB) (zRA A (fun k => qSe < k ∧ k ≤ qSe + 5) (fun A' => (zWs A' n (zC X A' shSe qSe res S))) (fun A' => .inl none))) (3 * zNd VSe VB) (13652 * zNd VSe VB) 157 [] [] (zWs Ar26 n (zC X Ar26 shSe qSe y26.2 S)) := by
            intro y26 ey
            intro Ar26 hAr26
            have hBr26 := isC.rel (A' := Ar26) hB 6 rfl (fun k _ _ => hAr26 k (by omega))
            rw [← ey] at h
            have e := (Option.some.inj h)
            subst e
            exact g_vret (M := mX3_makeRoom) dX3_makeRoom_157 rfl (Nat.le_refl _) (Nat.le_refl _) ⟨_, hAr26, rfl, rfl⟩
          refine zLp_J (J := fun s26 => ∀ (Al26 : Nat → Nat), (∀ k, ¬ (fun k => qSe < k ∧ k ≤ qSe + 5) k → Al26 k = A k) → G X mX3_makeRoom (zPm X 0 (3 * zNd VSe VB) (13652 * zNd VSe VB) (zRA A (fun k => qSe < k ∧ k ≤ qSe + 5) (fun A' => (zWs A' n (zC X A' shSe qSe res S))) (fun A' => .inl none))) (3 * zNd VSe VB) (13652 * zNd VSe VB) 136 [(0, .ref (Al26 qSe)), (3, .int (iI s26.1))] [] (zWs Al26 n (zC X Al26 shSe qSe s26.2 S))) (fun s26 w26 h26 b26 e26 => ?_) _ _ l26 Ar22 hAr22
          intro Al26 hAl26
          have hBl26 := isC.rel (A' := Al26) hB 6 rfl (fun k _ _ => hAl26 k (by omega))
          refine g_iload_n (M := mX3_makeRoom) dX3_makeRoom_136 1 rfl rfl ?_
          refine g_aload_n (M := mX3_makeRoom) dX3_makeRoom_137 0 rfl rfl ?_
          refine k_get (M := mX3_makeRoom) (v := .int (iI (s26.2.1 7))) dX3_makeRoom_138 kF_X3_83.r qSe (by omega) (zC_o) rfl ?_
          obtain ⟨g31, h26⟩ := zgi h26
          refine h_icmp_ge (M := mX3_makeRoom) (tgt := 157) dX3_makeRoom_141 (by decide) g31.1 g31.2 (fun c30 => ?_) (fun c30 => ?_)
          · have h26 := zti c30 h26
            refine g_lv (M := mX3_makeRoom) [] rfl ?_
            exact r26 _ (e26 _ (Option.some.inj h26).symm) Al26 hAl26
          · have h26 := zfi (Int.not_le.mpr c30) h26
            refine g_aload_n (M := mX3_makeRoom) dX3_makeRoom_144 0 rfl rfl ?_
            refine k_get (M := mX3_makeRoom) (v := .ref (Al26 (qSe + 3))) dX3_makeRoom_145 kF_X3_18.r qSe (by omega) (zC_o) rfl ?_
            refine g_iload_n (M := mX3_makeRoom) dX3_makeRoom_148 1 rfl rfl ?_
            refine h_iconst (M := mX3_makeRoom) dX3_makeRoom_149 ?_
            obtain ⟨g32, h26⟩ := zgi h26
            refine c_iast (M := mX3_makeRoom) (len := (s26.2.1 102).toNat) (d := (10, 102)) dX3_makeRoom_150 2 rfl rfl (by omega) (zDy1 g32.1 g32.2.1 g32.2.2) g32.1 (zDy2 g32.1 g32.2.1) ?_
            refine h_iinc (M := mX3_makeRoom) (j := 1) (lv' := [(0, .ref (Al26 qSe)), (3, .int (iI (s26.1 + 1)))]) dX3_makeRoom_151 rfl (Nat.le_of_ble_eq_true rfl) rfl ?_
            refine g_goto (M := mX3_makeRoom) (tgt := 136) dX3_makeRoom_154 (by decide) ?_
            exact b26 _ (Option.some.inj h26).symm Al26 hAl26
        refine zLp_J (J := fun s22 => ∀ (Al22 : Nat → Nat), (∀ k, ¬ (fun k => qSe < k ∧ k ≤ qSe + 5) k → Al22 k = A k) → G X mX3_makeRoom (zPm X 0 (3 * zNd VSe VB) (13652 * zNd VSe VB) (zRA A (fun k => qSe < k ∧ k ≤ qSe + 5) (fun A' => (zWs A' n (zC X A' shSe qSe res S))) (fun A' => .inl none))) (3 * zNd VSe VB) (13652 * zNd VSe VB) 116 [(0, .ref (Al22 qSe)), (2, .int (iI y1.1)), (3, .int (iI s22.1))] [] (zWs Al22 n (zC X Al22 shSe qSe s22.2 S))) (fun s22 w22 h22 b22 e22 => ?_) _ _ l22 Aj21 hAj21
        intro Al22 hAl22
        have hBl22 := isC.rel (A' := Al22) hB 6 rfl (fun k _ _ => hAl22 k (by omega))
        refine g_iload_n (M := mX3_makeRoom) dX3_makeRoom_116 2 rfl rfl ?_
        refine g_iload_n (M := mX3_makeRoom) dX3_makeRoom_117 1 rfl rfl ?_
        obtain ⟨g34, h22⟩ := zgi h22
        refine h_icmp_ge (M := mX3_makeRoom) (tgt := 134) dX3_makeRoom_118 (by decide) g34.1 g34.2 (fun c33 => ?_) (fun c33 => ?_)
        · have h22 := zti c33 h22
          refine g_lv (M := mX3_makeRoom) [0] rfl ?_
          exact r22 _ (e22 _ (Option.some.inj h22).symm) Al22 hAl22
        · have h22 := zfi (Int.not_le.mpr c33) h22
          refine g_aload_n (M := mX3_makeRoom) dX3_makeRoom_121 0 rfl rfl ?_
          refine k_get (M := mX3_makeRoom) (v := .ref (Al22 (qSe + 2))) dX3_makeRoom_122 kF_X3_15.r qSe (by omega) (zC_o) rfl ?_
          refine g_iload_n (M := mX3_makeRoom) dX3_makeRoom_125 2 rfl rfl ?_
          refine h_iconst (M := mX3_makeRoom) dX3_makeRoom_126 ?_
          obtain ⟨g35, h22⟩ := zgi h22
          refine c_iast (M := mX3_makeRoom) (len := (s22.2.1 101).toNat) (d := (10, 101)) dX3_makeRoom_127 1 rfl rfl (by omega) (zDy1 g35.1 g35.2.1 g35.2.2) g35.1 (zDy2 g35.1 g35.2.1) ?_
          refine h_iinc (M := mX3_makeRoom) (j := 2) (lv' := [(0, .ref (Al22 qSe)), (2, .int (iI y1.1)), (3, .int (iI (s22.1 + 1)))]) dX3_makeRoom_128 rfl (Nat.le_of_ble_eq_true rfl) rfl ?_
          refine g_goto (M := mX3_makeRoom) (tgt := 116) dX3_makeRoom_131 (by decide) ?_
          exact b22 _ (Option.some.inj h22).symm Al22 hAl22
      · obtain ⟨g37, h⟩ := zgi h
        refine h_icmp_ge (M := mX3_makeRoom) (tgt := 114) dX3_makeRoom_104 (by decide) g37.1 g37.2 (fun c36 => ?_) (fun c36 => ?_)
        · have h := zti c36 h
          obtain ⟨g38, h⟩ := zgi h
          refine g_wide (M := mX3_makeRoom) (k2 := 3 * zNd VSe VB) (n2 := 13652 * zNd VSe VB) g38.1 g38.2 ?_
          exact j21 x14 h Aj14 hAj14
        · have h := zfi (Int.not_le.mpr c36) h
          refine g_aload_n (M := mX3_makeRoom) dX3_makeRoom_107 0 rfl rfl ?_
          refine g_iload_n (M := mX3_makeRoom) dX3_makeRoom_108 1 rfl rfl ?_
          obtain ⟨g39, h⟩ := zgi h
          refine c_newput (M := mX3_makeRoom) (key := 101) (j := 1) dX3_makeRoom_109 dX3_makeRoom_111 kF_X3_15 (by omega) g39.1 g39.2.1 g39.2.2.1 g39.2.2.2 (fun _ => rfl) (fun _ => rfl) (by decide) rfl (fun a => by simp [oFs, oF, va_up, zNe]) rfl (fun A40 hnA40 => ?_)
          have hAc41 : ∀ k, ¬ (fun k => qSe < k ∧ k ≤ qSe + 5) k → A40 k = A k := fun k hk => (hnA40 k (by omega)).trans (hAj14 k hk)
          have hBA40 := isC.rel (A' := A40) hB 6 rfl (fun k _ _ => hAc41 k (by omega))
          refine g_lvc (M := mX3_makeRoom) (lv' := [(0, .ref (A40 qSe)), (2, .int (iI y1.1))]) (by rw [hnA40 qSe (by omega)]) ?_
          refine g_wide (M := mX3_makeRoom) (k2 := 3 * zNd VSe VB) (n2 := 13652 * zNd VSe VB) g39.2.2.1 g39.2.2.2 ?_
          exact j21 (zNe x14 101 2 y1.1) h A40 hAc41
    · obtain ⟨g43, h⟩ := zgi h
      refine h_icmp_ge (M := mX3_makeRoom) (tgt := 98) dX3_makeRoom_75 (by decide) g43.1 g43.2 (fun c42 => ?_) (fun c42 => ?_)
      · have h := zti c42 h
        refine g_wide (M := mX3_makeRoom) (k2 := 2 * zNd VSe VB) (n2 := 8192 * zNd VSe VB) (Nat.zero_le _) (Nat.zero_le _) ?_
        exact j14 y1.2.2 h Ar1 hAr1
      · have h := zfi (Int.not_le.mpr c42) h
        refine g_aload_n (M := mX3_makeRoom) dX3_makeRoom_78 0 rfl rfl ?_
        refine g_aload_n (M := mX3_makeRoom) dX3_makeRoom_79 0 rfl rfl ?_
        refine k_get (M := mX3_makeRoom) (v := .int (iI (y1.2.2.1 7))) dX3_makeRoom_80 kF_X3_83.r qSe (by omega) (zC_o) rfl ?_
        obtain ⟨g44, h⟩ := zgi h
        refine c_newput (M := mX3_makeRoom) (key := 100) (j := 0) dX3_makeRoom_83 dX3_makeRoom_85 kF_X3_9 (by omega) g44.1 g44.2.1 g44.2.2.1 g44.2.2.2 (fun _ => rfl) (fun _ => rfl) (by decide) rfl (fun a => by simp [oFs, oF, va_up, zNe]) rfl (fun A45 hnA45 => ?_)
        have hAc46 : ∀ k, ¬ (fun k => qSe < k ∧ k ≤ qSe + 5) k → A45 k = A k := fun k hk => (hnA45 k (by omega)).trans (hAr1 k hk)
        have hBA45 := isC.rel (A' := A45) hB 6 rfl (fun k _ _ => hAc46 k (by omega))
        refine g_lvc (M := mX3_makeRoom) (lv' := [(0, .ref (A45 qSe)), (2, .int (iI y1.1))]) (by rw [hnA45 qSe (by omega)]) ?_
        refine g_aload_n (M := mX3_makeRoom) dX3_makeRoom_88 0 rfl rfl ?_
        refine g_aload_n (M := mX3_makeRoom) dX3_makeRoom_89 0 rfl rfl ?_
        refine k_get (M := mX3_makeRoom) (v := .int (iI (y1.2.2.1 7))) dX3_makeRoom_90 kF_X3_83.r qSe (by omega) (zC_o) rfl ?_
        obtain ⟨g47, h⟩ := zgi h
        refine c_newput (M := mX3_makeRoom) (key := 102) (j := 2) dX3_makeRoom_93 dX3_makeRoom_95 kF_X3_18 (by omega) g44.1 g44.2.1 g47.1 g47.2 (fun _ => rfl) (fun _ => rfl) (by decide) rfl (fun a => by simp [oFs, oF, va_up, zNe]) rfl (fun A48 hnA48 => ?_)
        have hAc49 : ∀ k, ¬ (fun k => qSe < k ∧ k ≤ qSe + 5) k → A48 k = A k := fun k hk => (hnA48 k (by omega)).trans (hAc46 k hk)
        have hBA48 := isC.rel (A' := A48) hB 6 rfl (fun k _ _ => hAc49 k (by omega))
        refine g_lvc (M := mX3_makeRoom) (lv' := [(0, .ref (A48 qSe)), (2, .int (iI y1.1))]) (by rw [hnA48 qSe (by omega)]) ?_
        obtain ⟨g50, h⟩ := zgi h
        refine g_wide (M := mX3_makeRoom) (k2 := 2 * zNd VSe VB) (n2 := 8192 * zNd VSe VB) g50.1 g50.2 ?_
        exact j14 (zNe (zNe y1.2.2 100 1 (y1.2.2.1 7)) 102 3 (y1.2.2.1 7)) h A48 hAc49
  refine g_lv (M := mX3_makeRoom) [0, 2, 3] rfl ?_
  refine zLp_J (J := fun s1 => ∀ (Al1 : Nat → Nat), (∀ k, ¬ (fun k => qSe < k ∧ k ≤ qSe + 5) k → Al1 k = A k) → G X mX3_makeRoom (zPm X 0 (3 * zNd VSe VB) (13652 * zNd VSe VB) (zRA A (fun k => qSe < k ∧ k ≤ qSe + 5) (fun A' => (zWs A' n (zC X A' shSe qSe res S))) (fun A' => .inl none))) 0 0 25 [(0, .ref (Al1 qSe)), (2, .int (iI s1.1)), (3, .int (iI s1.2.1))] [] (zWs Al1 n (zC X Al1 shSe qSe s1.2.2 S))) (fun s1 w1 h1 b1 e1 => ?_) _ _ l1 A (fun _ _ => rfl)
  intro Al1 hAl1
  have hBl1 := isC.rel (A' := Al1) hB 6 rfl (fun k _ _ => hAl1 k (by omega))
  refine g_iload_n (M := mX3_makeRoom) dX3_makeRoom_25 2 rfl rfl ?_
  refine g_aload_n (M := mX3_makeRoom) dX3_makeRoom_26 0 rfl rfl ?_
  refine k_get (M := mX3_makeRoom) (v := .int (iI (s1.2.2.1 6))) dX3_makeRoom_27 kF_X3_82.r qSe (by omega) (zC_o) rfl ?_
  obtain ⟨g52, h1⟩ := zgi h1
  refine h_icmp_gt (M := mX3_makeRoom) (tgt := 66) dX3_makeRoom_30 (by decide) g52.1 g52.2 (fun c51 => ?_) (fun c51 => ?_)
  · have h1 := zti c51 h1
    refine g_lv (M := mX3_makeRoom) [0, 1] rfl ?_
    exact r1 _ (e1 _ (Option.some.inj h1).symm) Al1 hAl1
  · have h1 := zfi (Int.not_lt.mpr c51) h1
    refine g_aload_n (M := mX3_makeRoom) dX3_makeRoom_33 0 rfl rfl ?_
    refine k_get (M := mX3_makeRoom) (v := .ref (Al1 (qSe + 4))) dX3_makeRoom_34 kF_X3_21.r qSe (by omega) (zC_o) rfl ?_
    refine g_iload_n (M := mX3_makeRoom) dX3_makeRoom_37 2 rfl rfl ?_
    refine g_iload_n (M := mX3_makeRoom) dX3_makeRoom_38 1 rfl rfl ?_
    obtain ⟨g53, h1⟩ := zgi h1
    refine c_iast (M := mX3_makeRoom) (len := 7) (d := (0, 7)) dX3_makeRoom_39 3 rfl rfl (by omega) (Nat.le_of_ble_eq_true rfl) g53.1 g53.2 ?_
    refine g_aload_n (M := mX3_makeRoom) dX3_makeRoom_40 0 rfl rfl ?_
    refine g_dup (M := mX3_makeRoom) dX3_makeRoom_41 rfl ?_
    refine k_get (M := mX3_makeRoom) (v := .int (iI (s1.2.2.1 7))) dX3_makeRoom_42 kF_X3_83.r qSe (by omega) (zC_o) rfl ?_
    refine g_aload_n (M := mX3_makeRoom) dX3_makeRoom_45 0 rfl rfl ?_
    refine k_get (M := mX3_makeRoom) (v := .int (iI (s1.2.2.1 5))) dX3_makeRoom_46 kF_X3_71.r qSe (by omega) (zC_o) rfl ?_
    refine h_imul (M := mX3_makeRoom) dX3_makeRoom_49 ?_
    refine c_put (M := mX3_makeRoom) (k := 7) dX3_makeRoom_50 kF_X3_83 (by omega) rfl rfl (by decide) rfl rfl ?_
    refine g_iload_n (M := mX3_makeRoom) dX3_makeRoom_53 1 rfl rfl ?_
    refine g_aload_n (M := mX3_makeRoom) dX3_makeRoom_54 0 rfl rfl ?_
    refine k_get (M := mX3_makeRoom) (v := .int (iI ((s1.2.2.1 7) * (s1.2.2.1 5)))) dX3_makeRoom_55 kF_X3_83.r qSe (by omega) (zC_o) rfl ?_
    refine h_iadd (M := mX3_makeRoom) dX3_makeRoom_58 ?_
    refine g_istore_n (M := mX3_makeRoom) (lv' := [(0, .ref (Al1 qSe)), (2, .int (iI (s1.1 + ((s1.2.2.1 7) * (s1.2.2.1 5))))), (3, .int (iI s1.2.1))]) dX3_makeRoom_59 rfl (by decide) rfl ?_
    refine h_iinc (M := mX3_makeRoom) (j := 2) (lv' := [(0, .ref (Al1 qSe)), (2, .int (iI (s1.1 + ((s1.2.2.1 7) * (s1.2.2.1 5))))), (3, .int (iI (s1.2.1 + 1)))]) dX3_makeRoom_60 rfl (Nat.le_of_ble_eq_true rfl) rfl ?_
    refine g_goto (M := mX3_makeRoom) (tgt := 25) dX3_makeRoom_63 (by decide) ?_
    exact b1 _ (Option.some.inj h1).symm Al1 hAl1
set_option maxHeartbeats 4000000 in
set_option maxRecDepth 100000 in
theorem wX3_go {X : zX} (hX : zOK X) {A : Nat → Nat} {n : Nat} {S : Nat → va_E} {qSe : Nat} {VSe : CV} (hSe : isC X A shSe qSe VSe S) (bSe : qSe + 5 < n) {qB : Nat} {VB : CV} (hB : isC X A shB qB VB S) (bB : qB + 6 < n) (dSeB : qSe + 5 < qB ∨ qB + 6 < qSe) {res : CV} (h : fX3_go VSe VB = some res) : Con X yX3_go mX3_go 7 (3 * zNd VSe VB) (13652 * zNd VSe VB) [.ref (A qSe), .ref (A qB)] (zWs A n S) (zRA A (fun k => qSe < k ∧ k ≤ qSe + 5) (fun A' => (zWs A' n (zC X A' shSe qSe res S))) (fun A' => .inl none)) := by
  refine con_of (lv := [(0, .ref (A qSe)), (1, .ref (A qB))]) (by decide) rfl (fun h => by cases h) rfl (Nat.le_of_ble_eq_true rfl) rfl ?_
  refine g_ws (M := mX3_go) (congrArg (zWs A n) hSe.symm) ?_
  unfold fX3_go at h
  refine g_aload_n (M := mX3_go) dX3_go_0 0 rfl rfl ?_
  refine k_get (M := mX3_go) (v := .int (iI (VSe.1 8))) dX3_go_1 kF_X3_27.r qSe (by omega) (zC_o) rfl ?_
  obtain ⟨g2, h⟩ := zgi h
  refine h_if_eq (M := mX3_go) (tgt := 8) dX3_go_4 (by decide) g2 (fun c1 => ?_) (fun c1 => ?_)
  · have h := zti c1 h
    refine g_aload_n (M := mX3_go) dX3_go_8 0 rfl rfl ?_
    refine g_aload_n (M := mX3_go) dX3_go_9 1 rfl rfl ?_
    obtain ⟨t3, u4, h⟩ := zbi h
    refine g_callVA (M := mX3_go) [.ref (A qB)] hX dX3_go_10 vX3_makeRoom kM_X3_31 (wX3_makeRoom hX zC_self (by omega) (isC.keepN hB 5 6 rfl rfl (by omega)) (by omega) (by omega) u4) (fun _ => rfl) qSe (zWs_at (by omega) (zC_o)) rfl ⟨(Nat.le_of_ble_eq_true rfl), (Nat.le_of_ble_eq_true rfl)⟩ ⟨(show 0 + (3 * zNd VSe VB) ≤ 3 * zNd VSe VB by omega), (show 0 + (13652 * zNd VSe VB) ≤ 13652 * zNd VSe VB by omega)⟩ (Nat.le_of_ble_eq_true rfl) (fun A5 hnA5 => ?_)
    refine g_ws (M := mX3_go) (congrArg (zWs A5 n) (zC_overA (A := A))) ?_
    have hAc6 : ∀ k, ¬ (fun k => qSe < k ∧ k ≤ qSe + 5) k → A5 k = A k := fun k hk => (hnA5 k (by omega)).trans (rfl)
    have hBA5 := isC.rel (A' := A5) hB 6 rfl (fun k _ _ => hAc6 k (by omega))
    refine g_lvc (M := mX3_go) (lv' := [(0, .ref (A5 qSe)), (1, .ref (A5 qB))]) (by rw [hnA5 qSe (by omega), hnA5 qB (by omega)]) ?_
    refine h_iconst (M := mX3_go) dX3_go_13 ?_
    refine g_istore_n (M := mX3_go) (lv' := [(0, .ref (A5 qSe)), (1, .ref (A5 qB)), (2, .int (iI 0))]) dX3_go_14 rfl (by decide) rfl ?_
    obtain ⟨x7, l7, h⟩ := zbi h
    have r7 : ∀ y7, y7 = x7 → ∀ (Ar7 : Nat → Nat), (∀ k, ¬ (fun k => qSe < k ∧ k ≤ qSe + 5) k → Ar7 k = A k) → G X mX3_go (zPm X 7 (3 * zNd VSe VB) (13652 * zNd VSe VB) (zRA A (fun k => qSe < k ∧ k ≤ qSe + 5) (fun A' => (zWs A' n (zC X A' shSe qSe res S))) (fun A' => .inl none))) (0 + (3 * zNd VSe VB)) (0 + (13652 * zNd VSe VB)) 51 [(0, .ref (Ar7 qSe))] [] (zWs Ar7 n (zC X Ar7 shSe qSe y7.2 S)) := by
      intro y7 ey
      intro Ar7 hAr7
      have hBr7 := isC.rel (A' := Ar7) hB 6 rfl (fun k _ _ => hAr7 k (by omega))
      rw [← ey] at h
      refine g_aload_n (M := mX3_go) dX3_go_51 0 rfl rfl ?_
      obtain ⟨t17, u18, h⟩ := zbi h
      refine g_callVr (M := mX3_go) [] hX dX3_go_52 vX3_countScores kM_X3_56 (wX3_countScores hX zC_self (by omega)  u18) qSe (zWs_at (by omega) (zC_o)) rfl ⟨(Nat.le_of_ble_eq_true rfl), (Nat.le_of_ble_eq_true rfl)⟩ ⟨(show 0 + (3 * zNd VSe VB) + 0 ≤ 3 * zNd VSe VB by omega), (show 0 + (13652 * zNd VSe VB) + 0 ≤ 13652 * zNd VSe VB by omega)⟩ (Nat.le_of_ble_eq_true rfl) ?_
      refine g_ws (M := mX3_go) (congrArg (zWs Ar7 n) zC_over) ?_
      refine g_aload_n (M := mX3_go) dX3_go_55 0 rfl rfl ?_
      refine h_iconst (M := mX3_go) dX3_go_56 ?_
      refine c_put (M := mX3_go) (k := 9) dX3_go_57 kF_X3_59 (by omega) rfl rfl (by decide) rfl rfl ?_
      refine g_aload_n (M := mX3_go) dX3_go_60 0 rfl rfl ?_
      refine h_iconst (M := mX3_go) dX3_go_61 ?_
      refine c_put (M := mX3_go) (k := 10) dX3_go_62 kF_X3_62 (by omega) rfl rfl (by decide) rfl rfl ?_
      refine g_aload_n (M := mX3_go) dX3_go_65 0 rfl rfl ?_
      refine h_iconst (M := mX3_go) dX3_go_66 ?_
      refine c_put (M := mX3_go) (k := 11) dX3_go_67 kF_X3_65 (by omega) rfl rfl (by decide) rfl rfl ?_
      refine g_aload_n (M := mX3_go) dX3_go_70 0 rfl rfl ?_
      refine h_iconst (M := mX3_go) dX3_go_71 ?_
      refine c_put (M := mX3_go) (k := 12) dX3_go_72 kF_X3_68 (by omega) rfl rfl (by decide) rfl rfl ?_
      refine h_iconst (M := mX3_go) dX3_go_75 ?_
      refine g_istore_n (M := mX3_go) (lv' := [(0, .ref (Ar7 qSe)), (2, .int (iI 0))]) dX3_go_76 rfl (by decide) rfl ?_
      obtain ⟨x19, l19, h⟩ := zbi h
      have r19 : ∀ y19, y19 = x19 → ∀ (Ar19 : Nat → Nat), (∀ k, ¬ (fun k => qSe < k ∧ k ≤ qSe + 5) k → Ar19 k = A k) → G X mX3_go (zPm X 7 (3 * zNd VSe VB) (13652 * zNd VSe VB) (zRA A (fun k => qSe < k ∧ k ≤ qSe + 5) (fun A' => (zWs A' n (zC X A' shSe qSe res S))) (fun A' => .inl none))) (0 + (3 * zNd VSe VB)) (0 + (13652 * zNd VSe VB)) 97 [(0, .ref (Ar19 qSe))] [] (zWs Ar19 n (zC X Ar19 shSe qSe y19.2 S)) := by
        intro y19 ey
        intro Ar19 hAr19
        have hBr19 := isC.rel (A' := Ar19) hB 6 rfl (fun k _ _ => hAr19 k (by omega))
        rw [← ey] at h
        refine g_aload_n (M := mX3_go) dX3_go_97 0 rfl rfl ?_
        refine h_iconst (M := mX3_go) dX3_go_98 ?_
        refine c_put (M := mX3_go) (k := 8) dX3_go_99 kF_X3_27 (by omega) rfl rfl (by decide) rfl rfl ?_
        obtain ⟨g24, h⟩ := zgi h
        have e := (Option.some.inj h)
        subst e
        exact g_vret (M := mX3_go) dX3_go_102 rfl (by simpa using g24.1) (by simpa using g24.2) ⟨_, hAr19, rfl, rfl⟩
      refine zLp_J (J := fun s19 => ∀ (Al19 : Nat → Nat), (∀ k, ¬ (fun k => qSe < k ∧ k ≤ qSe + 5) k → Al19 k = A k) → G X mX3_go (zPm X 7 (3 * zNd VSe VB) (13652 * zNd VSe VB) (zRA A (fun k => qSe < k ∧ k ≤ qSe + 5) (fun A' => (zWs A' n (zC X A' shSe qSe res S))) (fun A' => .inl none))) (0 + (3 * zNd VSe VB)) (0 + (13652 * zNd VSe VB)) 77 [(0, .ref (Al19 qSe)), (2, .int (iI s19.1))] [] (zWs Al19 n (zC X Al19 shSe qSe s19.2 S))) (fun s19 w19 h19 b19 e19 => ?_) _ _ l19 Ar7 hAr7
      intro Al19 hAl19
      have hBl19 := isC.rel (A' := Al19) hB 6 rfl (fun k _ _ => hAl19 k (by omega))
      refine g_iload_n (M := mX3_go) dX3_go_77 1 rfl rfl ?_
      refine g_aload_n (M := mX3_go) dX3_go_78 0 rfl rfl ?_
      refine k_get (M := mX3_go) (v := .int (iI (s19.2.1 5))) dX3_go_79 kF_X3_71.r qSe (by omega) (zC_o) rfl ?_
      obtain ⟨g26, h19⟩ := zgi h19
      refine h_icmp_ge (M := mX3_go) (tgt := 97) dX3_go_82 (by decide) g26.1 g26.2 (fun c25 => ?_) (fun c25 => ?_)
      · have h19 := zti c25 h19
        refine g_lv (M := mX3_go) [0] rfl ?_
        exact r19 _ (e19 _ (Option.some.inj h19).symm) Al19 hAl19
      · have h19 := zfi (Int.not_le.mpr c25) h19
        refine g_aload_n (M := mX3_go) dX3_go_85 0 rfl rfl ?_
        refine h_iconst (M := mX3_go) dX3_go_86 ?_
        refine g_iload_n (M := mX3_go) dX3_go_87 1 rfl rfl ?_
        obtain ⟨t27, u28, h19⟩ := zbi h19
        refine g_callVr (M := mX3_go) [.int (iI 1), .int (iI s19.1)] hX dX3_go_88 vX3_ask kM_X3_74 (wX3_ask hX 6 zC_self (by omega)  u28) qSe (zWs_at (by omega) (zC_o)) rfl ⟨(Nat.le_of_ble_eq_true rfl), (Nat.le_of_ble_eq_true rfl)⟩ ⟨(show 0 + (3 * zNd VSe VB) + 0 ≤ 3 * zNd VSe VB by omega), (show 0 + (13652 * zNd VSe VB) + 0 ≤ 13652 * zNd VSe VB by omega)⟩ (Nat.le_of_ble_eq_true rfl) ?_
        refine g_ws (M := mX3_go) (congrArg (zWs Al19 n) zC_over) ?_
        refine h_iinc (M := mX3_go) (j := 1) (lv' := [(0, .ref (Al19 qSe)), (2, .int (iI (s19.1 + 1)))]) dX3_go_91 rfl (Nat.le_of_ble_eq_true rfl) rfl ?_
        refine g_goto (M := mX3_go) (tgt := 77) dX3_go_94 (by decide) ?_
        exact b19 _ (Option.some.inj h19).symm Al19 hAl19
    refine zLp_J (J := fun s7 => ∀ (Al7 : Nat → Nat), (∀ k, ¬ (fun k => qSe < k ∧ k ≤ qSe + 5) k → Al7 k = A k) → G X mX3_go (zPm X 7 (3 * zNd VSe VB) (13652 * zNd VSe VB) (zRA A (fun k => qSe < k ∧ k ≤ qSe + 5) (fun A' => (zWs A' n (zC X A' shSe qSe res S))) (fun A' => .inl none))) (0 + (3 * zNd VSe VB)) (0 + (13652 * zNd VSe VB)) 15 [(0, .ref (Al7 qSe)), (1, .ref (Al7 qB)), (2, .int (iI s7.1))] [] (zWs Al7 n (zC X Al7 shSe qSe s7.2 S))) (fun s7 w7 h7 b7 e7 => ?_) _ _ l7 A5 hAc6
    intro Al7 hAl7
    have hBl7 := isC.rel (A' := Al7) hB 6 rfl (fun k _ _ => hAl7 k (by omega))
    refine g_iload_n (M := mX3_go) dX3_go_15 2 rfl rfl ?_
    refine g_aload_n (M := mX3_go) dX3_go_16 1 rfl rfl ?_
    refine k_get (M := mX3_go) (v := .int (iI (VB.1 3))) dX3_go_17 kF_X3_35.r qB (by omega) ((zC_skipN 5 rfl (by omega)).trans (hBl7.o)) rfl ?_
    obtain ⟨g30, h7⟩ := zgi h7
    refine h_icmp_ge (M := mX3_go) (tgt := 51) dX3_go_20 (by decide) g30.1 g30.2 (fun c29 => ?_) (fun c29 => ?_)
    · have h7 := zti c29 h7
      refine g_lv (M := mX3_go) [0] rfl ?_
      exact r7 _ (e7 _ (Option.some.inj h7).symm) Al7 hAl7
    · have h7 := zfi (Int.not_le.mpr c29) h7
      refine g_aload_n (M := mX3_go) dX3_go_23 1 rfl rfl ?_
      refine g_iload_n (M := mX3_go) dX3_go_24 2 rfl rfl ?_
      obtain ⟨t31, u32, h7⟩ := zbi h7
      refine g_callVr (M := mX3_go) [.int (iI s7.1)] hX dX3_go_25 vX0_isOut kM_X3_41 (wX0_isOut hX (isC.keepN hBl7 5 6 rfl rfl (by omega)) (by omega)  u32) qB (zWs_at (by omega) ((zC_skipN 5 rfl (by omega)).trans (hBl7.o))) rfl ⟨(Nat.le_of_ble_eq_true rfl), (Nat.le_of_ble_eq_true rfl)⟩ ⟨(show 0 + (3 * zNd VSe VB) + 0 ≤ 3 * zNd VSe VB by omega), (show 0 + (13652 * zNd VSe VB) + 0 ≤ 13652 * zNd VSe VB by omega)⟩ (Nat.le_of_ble_eq_true rfl) ?_
      refine h_bne (M := mX3_go) (tgt := 45) dX3_go_28 (by decide) (fun c33 => ?_) (fun c33 => ?_)
      · have h7 := zti c33 h7
        refine h_iinc (M := mX3_go) (j := 2) (lv' := [(0, .ref (Al7 qSe)), (1, .ref (Al7 qB)), (2, .int (iI (s7.1 + 1)))]) dX3_go_45 rfl (Nat.le_of_ble_eq_true rfl) rfl ?_
        refine g_goto (M := mX3_go) (tgt := 15) dX3_go_48 (by decide) ?_
        exact b7 _ (Option.some.inj h7).symm Al7 hAl7
      · have h7 := zfi (zbf c33) h7
        refine g_aload_n (M := mX3_go) dX3_go_31 0 rfl rfl ?_
        refine g_aload_n (M := mX3_go) dX3_go_32 1 rfl rfl ?_
        refine g_iload_n (M := mX3_go) dX3_go_33 2 rfl rfl ?_
        obtain ⟨t34, u35, h7⟩ := zbi h7
        refine g_callVr (M := mX3_go) [.ref (Al7 qB), .int (iI s7.1)] hX dX3_go_34 vX3_fillNear kM_X3_45 (wX3_fillNear hX zC_self (by omega) (isC.keepN hBl7 5 6 rfl rfl (by omega)) (by omega) (by omega) u35) qSe (zWs_at (by omega) (zC_o)) rfl ⟨(Nat.le_of_ble_eq_true rfl), (Nat.le_of_ble_eq_true rfl)⟩ ⟨(show 0 + (3 * zNd VSe VB) + 0 ≤ 3 * zNd VSe VB by omega), (show 0 + (13652 * zNd VSe VB) + 0 ≤ 13652 * zNd VSe VB by omega)⟩ (Nat.le_of_ble_eq_true rfl) ?_
        refine g_ws (M := mX3_go) (congrArg (zWs Al7 n) zC_over) ?_
        refine g_aload_n (M := mX3_go) dX3_go_37 0 rfl rfl ?_
        refine g_aload_n (M := mX3_go) dX3_go_38 1 rfl rfl ?_
        refine k_get (M := mX3_go) (v := .int (iI (VB.1 2))) dX3_go_39 kF_X3_49.r qB (by omega) ((zC_skipN 5 rfl (by omega)).trans (hBl7.o)) rfl ?_
        obtain ⟨t36, u37, h7⟩ := zbi h7
        refine g_callVr (M := mX3_go) [.int (iI (VB.1 2))] hX dX3_go_42 vX3_addBounds kM_X3_52 (wX3_addBounds hX zC_self (by omega)  u37) qSe (zWs_at (by omega) (zC_o)) rfl ⟨(Nat.le_of_ble_eq_true rfl), (Nat.le_of_ble_eq_true rfl)⟩ ⟨(show 0 + (3 * zNd VSe VB) + 0 ≤ 3 * zNd VSe VB by omega), (show 0 + (13652 * zNd VSe VB) + 0 ≤ 13652 * zNd VSe VB by omega)⟩ (Nat.le_of_ble_eq_true rfl) ?_
        refine g_ws (M := mX3_go) (congrArg (zWs Al7 n) zC_over) ?_
        refine h_iinc (M := mX3_go) (j := 2) (lv' := [(0, .ref (Al7 qSe)), (1, .ref (Al7 qB)), (2, .int (iI (s7.1 + 1)))]) dX3_go_45 rfl (Nat.le_of_ble_eq_true rfl) rfl ?_
        refine g_goto (M := mX3_go) (tgt := 15) dX3_go_48 (by decide) ?_
        exact b7 _ (Option.some.inj h7).symm Al7 hAl7
  · have h := zfi c1 h
    have e := (Option.some.inj h)
    subst e
    exact g_vret (M := mX3_go) dX3_go_7 rfl (Nat.zero_le _) (Nat.zero_le _) ⟨_, (fun _ _ => rfl), rfl, rfl⟩
set_option maxHeartbeats 4000000 in
set_option maxRecDepth 100000 in
theorem wX3_mostHadWord {X : zX} (hX : zOK X) {A : Nat → Nat} {n : Nat} {S : Nat → va_E} {qSe : Nat} {VSe : CV} (hSe : isC X A shSe qSe VSe S) (bSe : qSe + 5 < n) {res : Int} (h : fX3_mostHadWord VSe = some res) : Con X yX3_mostHadWord mX3_mostHadWord 1 0 0 [.ref (A qSe)] (zWs A n S) (zRet (zWs A n S) (some (.int (iI res)))) := by
  refine con_of (lv := [(0, .ref (A qSe))]) (by decide) rfl (fun h => by cases h) rfl (Nat.le_of_ble_eq_true rfl) rfl ?_
  unfold fX3_mostHadWord at h
  refine h_iconst (M := mX3_mostHadWord) dX3_mostHadWord_0 ?_
  refine g_istore_n (M := mX3_mostHadWord) (lv' := [(0, .ref (A qSe)), (1, .int (iI 0))]) dX3_mostHadWord_1 rfl (by decide) rfl ?_
  refine h_iconst (M := mX3_mostHadWord) dX3_mostHadWord_2 ?_
  refine g_istore_n (M := mX3_mostHadWord) (lv' := [(0, .ref (A qSe)), (1, .int (iI 0)), (2, .int (iI 1))]) dX3_mostHadWord_3 rfl (by decide) rfl ?_
  obtain ⟨x1, l1, h⟩ := zbi h
  have r1 : ∀ y1, y1 = x1 → G X mX3_mostHadWord (zPm X 1 0 0 (zRet (zWs A n S) (some (.int (iI res))))) 0 0 85 [(1, .int (iI y1.1))] [] (zWs A n S) := by
    intro y1 ey
    rw [← ey] at h
    refine g_iload_n (M := mX3_mostHadWord) dX3_mostHadWord_85 0 rfl rfl ?_
    have e := (Option.some.inj h)
    subst e
    exact g_iret (M := mX3_mostHadWord) dX3_mostHadWord_86 rfl (Nat.le_of_ble_eq_true rfl) (Nat.le_of_ble_eq_true rfl) ⟨rfl, rfl⟩
  refine zLp_J (J := fun s1 => G X mX3_mostHadWord (zPm X 1 0 0 (zRet (zWs A n S) (some (.int (iI res))))) 0 0 4 [(0, .ref (A qSe)), (1, .int (iI s1.1)), (2, .int (iI s1.2))] [] (zWs A n S)) (fun s1 w1 h1 b1 e1 => ?_) _ _ l1
  refine g_iload_n (M := mX3_mostHadWord) dX3_mostHadWord_4 2 rfl rfl ?_
  refine g_aload_n (M := mX3_mostHadWord) dX3_mostHadWord_5 0 rfl rfl ?_
  refine k_get (M := mX3_mostHadWord) (v := .int (iI (VSe.1 7))) dX3_mostHadWord_6 kF_X3_83.r qSe (by omega) (hSe.o) rfl ?_
  obtain ⟨g51, h1⟩ := zgi h1
  refine h_icmp_ge (M := mX3_mostHadWord) (tgt := 85) dX3_mostHadWord_9 (by decide) g51.1 g51.2 (fun c50 => ?_) (fun c50 => ?_)
  · have h1 := zti c50 h1
    refine g_lv (M := mX3_mostHadWord) [1] rfl ?_
    exact r1 _ (e1 _ (Option.some.inj h1).symm)
  · have h1 := zfi (Int.not_le.mpr c50) h1
    refine g_aload_n (M := mX3_mostHadWord) dX3_mostHadWord_12 0 rfl rfl ?_
    refine k_get (M := mX3_mostHadWord) (v := .ref (A (qSe + 3))) dX3_mostHadWord_13 kF_X3_18.r qSe (by omega) (hSe.o) rfl ?_
    refine g_iload_n (M := mX3_mostHadWord) dX3_mostHadWord_16 2 rfl rfl ?_
    obtain ⟨g52, h1⟩ := zgi h1
    refine k_iald (M := mX3_mostHadWord) (len := (VSe.1 102).toNat) (f := VSe.2 3) dX3_mostHadWord_17 (qSe + 3) (by omega) (hSe.a (d := (10, 102)) 2 rfl) (zDy1 g52.1 g52.2.1 g52.2.2) g52.1 (zDy2 g52.1 g52.2.1) ?_
    refine g_aload_n (M := mX3_mostHadWord) dX3_mostHadWord_18 0 rfl rfl ?_
    refine k_get (M := mX3_mostHadWord) (v := .ref (A (qSe + 3))) dX3_mostHadWord_19 kF_X3_18.r qSe (by omega) (hSe.o) rfl ?_
    refine g_iload_n (M := mX3_mostHadWord) dX3_mostHadWord_22 1 rfl rfl ?_
    obtain ⟨g53, h1⟩ := zgi h1
    refine k_iald (M := mX3_mostHadWord) (len := (VSe.1 102).toNat) (f := VSe.2 3) dX3_mostHadWord_23 (qSe + 3) (by omega) (hSe.a (d := (10, 102)) 2 rfl) (zDy1 g53.1 g53.2 g52.2.2) g53.1 (zDy2 g53.1 g53.2) ?_
    refine zJn_J (J := fun x56 => G X mX3_mostHadWord (zPm X 1 0 0 (zRet (zWs A n S) (some (.int (iI res))))) 0 0 32 [(0, .ref (A qSe)), (1, .int (iI s1.1)), (2, .int (iI s1.2))] [.int (iI x56)] (zWs A n S)) h1 (fun x56 h1 => ?_) (fun j56 h1 => ?_)
    · refine g_istore_n (M := mX3_mostHadWord) (lv' := [(0, .ref (A qSe)), (1, .int (iI s1.1)), (2, .int (iI s1.2)), (3, .int (iI x56))]) dX3_mostHadWord_32 rfl (by decide) rfl ?_
      refine g_aload_n (M := mX3_mostHadWord) dX3_mostHadWord_33 0 rfl rfl ?_
      refine k_get (M := mX3_mostHadWord) (v := .ref (A (qSe + 3))) dX3_mostHadWord_34 kF_X3_18.r qSe (by omega) (hSe.o) rfl ?_
      refine g_iload_n (M := mX3_mostHadWord) dX3_mostHadWord_37 2 rfl rfl ?_
      refine k_iald (M := mX3_mostHadWord) (len := (VSe.1 102).toNat) (f := VSe.2 3) dX3_mostHadWord_38 (qSe + 3) (by omega) (hSe.a (d := (10, 102)) 2 rfl) (zDy1 g52.1 g52.2.1 g52.2.2) g52.1 (zDy2 g52.1 g52.2.1) ?_
      refine g_aload_n (M := mX3_mostHadWord) dX3_mostHadWord_39 0 rfl rfl ?_
      refine k_get (M := mX3_mostHadWord) (v := .ref (A (qSe + 3))) dX3_mostHadWord_40 kF_X3_18.r qSe (by omega) (hSe.o) rfl ?_
      refine g_iload_n (M := mX3_mostHadWord) dX3_mostHadWord_43 1 rfl rfl ?_
      refine k_iald (M := mX3_mostHadWord) (len := (VSe.1 102).toNat) (f := VSe.2 3) dX3_mostHadWord_44 (qSe + 3) (by omega) (hSe.a (d := (10, 102)) 2 rfl) (zDy1 g53.1 g53.2 g52.2.2) g53.1 (zDy2 g53.1 g53.2) ?_
      refine zJn_J (J := fun x74 => G X mX3_mostHadWord (zPm X 1 0 0 (zRet (zWs A n S) (some (.int (iI res))))) 0 0 66 [(0, .ref (A qSe)), (1, .int (iI s1.1)), (2, .int (iI s1.2)), (3, .int (iI x56))] [.int (iI x74)] (zWs A n S)) h1 (fun x74 h1 => ?_) (fun j74 h1 => ?_)
      · refine g_istore (M := mX3_mostHadWord) (lv' := [(0, .ref (A qSe)), (1, .int (iI s1.1)), (2, .int (iI s1.2)), (3, .int (iI x56)), (4, .int (iI x74))]) dX3_mostHadWord_66 (by decide) rfl ?_
        refine g_iload_n (M := mX3_mostHadWord) dX3_mostHadWord_68 3 rfl rfl ?_
        obtain ⟨g76, h1⟩ := zgi h1
        refine h_if_ne (M := mX3_mostHadWord) (tgt := 77) dX3_mostHadWord_69 (by decide) g76 (fun c75 => ?_) (fun c75 => ?_)
        · have h1 := zfi c75 h1
          refine g_iload_n (M := mX3_mostHadWord) dX3_mostHadWord_77 2 rfl rfl ?_
          refine g_istore_n (M := mX3_mostHadWord) (lv' := [(0, .ref (A qSe)), (1, .int (iI s1.2)), (2, .int (iI s1.2)), (3, .int (iI x56)), (4, .int (iI x74))]) dX3_mostHadWord_78 rfl (by decide) rfl ?_
          refine h_iinc (M := mX3_mostHadWord) (j := 2) (lv' := [(0, .ref (A qSe)), (1, .int (iI s1.2)), (2, .int (iI (s1.2 + 1))), (3, .int (iI x56)), (4, .int (iI x74))]) dX3_mostHadWord_79 rfl (Nat.le_of_ble_eq_true rfl) rfl ?_
          refine g_goto (M := mX3_mostHadWord) (tgt := 4) dX3_mostHadWord_82 (by decide) ?_
          refine g_lv (M := mX3_mostHadWord) [0, 1, 2] rfl ?_
          exact b1 _ (Option.some.inj h1).symm
        · have h1 := zti c75 h1
          refine g_iload (M := mX3_mostHadWord) dX3_mostHadWord_72 4 rfl ?_
          obtain ⟨g78, h1⟩ := zgi h1
          refine h_if_eq (M := mX3_mostHadWord) (tgt := 79) dX3_mostHadWord_74 (by decide) g78 (fun c77 => ?_) (fun c77 => ?_)
          · have h1 := zti c77 h1
            refine h_iinc (M := mX3_mostHadWord) (j := 2) (lv' := [(0, .ref (A qSe)), (1, .int (iI s1.1)), (2, .int (iI (s1.2 + 1))), (3, .int (iI x56)), (4, .int (iI x74))]) dX3_mostHadWord_79 rfl (Nat.le_of_ble_eq_true rfl) rfl ?_
            refine g_goto (M := mX3_mostHadWord) (tgt := 4) dX3_mostHadWord_82 (by decide) ?_
            refine g_lv (M := mX3_mostHadWord) [0, 1, 2] rfl ?_
            exact b1 _ (Option.some.inj h1).symm
          · have h1 := zfi c77 h1
            refine g_iload_n (M := mX3_mostHadWord) dX3_mostHadWord_77 2 rfl rfl ?_
            refine g_istore_n (M := mX3_mostHadWord) (lv' := [(0, .ref (A qSe)), (1, .int (iI s1.2)), (2, .int (iI s1.2)), (3, .int (iI x56)), (4, .int (iI x74))]) dX3_mostHadWord_78 rfl (by decide) rfl ?_
            refine h_iinc (M := mX3_mostHadWord) (j := 2) (lv' := [(0, .ref (A qSe)), (1, .int (iI s1.2)), (2, .int (iI (s1.2 + 1))), (3, .int (iI x56)), (4, .int (iI x74))]) dX3_mostHadWord_79 rfl (Nat.le_of_ble_eq_true rfl) rfl ?_
            refine g_goto (M := mX3_mostHadWord) (tgt := 4) dX3_mostHadWord_82 (by decide) ?_
            refine g_lv (M := mX3_mostHadWord) [0, 1, 2] rfl ?_
            exact b1 _ (Option.some.inj h1).symm
      · refine zJn_J (J := fun x87 => G X mX3_mostHadWord (zPm X 1 0 0 (zRet (zWs A n S) (some (.int (iI res))))) 0 0 65 [(0, .ref (A qSe)), (1, .int (iI s1.1)), (2, .int (iI s1.2)), (3, .int (iI x56))] [] (zWs A n S)) h1 (fun x87 h1 => ?_) (fun j87 h1 => ?_)
        · refine h_iconst (M := mX3_mostHadWord) dX3_mostHadWord_65 ?_
          exact j74 0 h1
        · obtain ⟨g89, h1⟩ := zgi h1
          refine h_icmp_ne (M := mX3_mostHadWord) (tgt := 65) dX3_mostHadWord_45 (by decide) g89.1 g89.2 (fun c88 => ?_) (fun c88 => ?_)
          · have h1 := zfi c88 h1
            exact j87 () h1
          · have h1 := zti c88 h1
            refine g_aload_n (M := mX3_mostHadWord) dX3_mostHadWord_48 0 rfl rfl ?_
            refine g_iload_n (M := mX3_mostHadWord) dX3_mostHadWord_49 2 rfl rfl ?_
            obtain ⟨t90, u91, h1⟩ := zbi h1
            refine g_callVr (M := mX3_mostHadWord) [.int (iI s1.2)] hX dX3_mostHadWord_50 vX3_scoreOf kM_X3_115 (wX3_scoreOf hX hSe (by omega)  u91) qSe (zWs_at (by omega) (hSe.o)) rfl ⟨(Nat.le_of_ble_eq_true rfl), (Nat.le_of_ble_eq_true rfl)⟩ ⟨(Nat.le_of_ble_eq_true rfl), (Nat.le_of_ble_eq_true rfl)⟩ (Nat.le_of_ble_eq_true rfl) ?_
            refine g_aload_n (M := mX3_mostHadWord) dX3_mostHadWord_53 0 rfl rfl ?_
            refine g_iload_n (M := mX3_mostHadWord) dX3_mostHadWord_54 1 rfl rfl ?_
            obtain ⟨t92, u93, h1⟩ := zbi h1
            refine g_callVr (M := mX3_mostHadWord) [.int (iI s1.1)] hX dX3_mostHadWord_55 vX3_scoreOf kM_X3_115 (wX3_scoreOf hX hSe (by omega)  u93) qSe (zWs_at (by omega) (hSe.o)) rfl ⟨(Nat.le_of_ble_eq_true rfl), (Nat.le_of_ble_eq_true rfl)⟩ ⟨(Nat.le_of_ble_eq_true rfl), (Nat.le_of_ble_eq_true rfl)⟩ (Nat.le_of_ble_eq_true rfl) ?_
            obtain ⟨g95, h1⟩ := zgi h1
            refine h_icmp_ge (M := mX3_mostHadWord) (tgt := 65) dX3_mostHadWord_58 (by decide) g95.1 g95.2 (fun c94 => ?_) (fun c94 => ?_)
            · have h1 := zti c94 h1
              exact j87 () h1
            · have h1 := zfi (Int.not_le.mpr c94) h1
              refine h_iconst (M := mX3_mostHadWord) dX3_mostHadWord_61 ?_
              refine g_goto (M := mX3_mostHadWord) (tgt := 66) dX3_mostHadWord_62 (by decide) ?_
              exact j74 1 h1
    · obtain ⟨g97, h1⟩ := zgi h1
      refine h_icmp_le (M := mX3_mostHadWord) (tgt := 31) dX3_mostHadWord_24 (by decide) g97.1 g97.2 (fun c96 => ?_) (fun c96 => ?_)
      · have h1 := zti c96 h1
        refine h_iconst (M := mX3_mostHadWord) dX3_mostHadWord_31 ?_
        exact j56 0 h1
      · have h1 := zfi (Int.not_le.mpr c96) h1
        refine h_iconst (M := mX3_mostHadWord) dX3_mostHadWord_27 ?_
        refine g_goto (M := mX3_mostHadWord) (tgt := 32) dX3_mostHadWord_28 (by decide) ?_
        exact j56 1 h1
set_option maxHeartbeats 4000000 in
set_option maxRecDepth 100000 in
theorem wX3_rankOfWord {X : zX} (hX : zOK X) {A : Nat → Nat} {n : Nat} {S : Nat → va_E} {qSe : Nat} {VSe : CV} (hSe : isC X A shSe qSe VSe S) (bSe : qSe + 5 < n) {a1 : Int} {res : Int} (h : fX3_rankOfWord VSe a1 = some res) : Con X yX3_rankOfWord mX3_rankOfWord 1 0 0 [.ref (A qSe), .int (iI a1)] (zWs A n S) (zRet (zWs A n S) (some (.int (iI res)))) := by
  refine con_of (lv := [(0, .ref (A qSe)), (1, .int (iI a1))]) (by decide) rfl (fun h => by cases h) rfl (Nat.le_of_ble_eq_true rfl) rfl ?_
  unfold fX3_rankOfWord at h
  refine g_aload_n (M := mX3_rankOfWord) dX3_rankOfWord_0 0 rfl rfl ?_
  refine g_iload_n (M := mX3_rankOfWord) dX3_rankOfWord_1 1 rfl rfl ?_
  obtain ⟨t1, u2, h⟩ := zbi h
  refine g_callVr (M := mX3_rankOfWord) [.int (iI a1)] hX dX3_rankOfWord_2 vX3_scoreOf kM_X3_115 (wX3_scoreOf hX hSe (by omega)  u2) qSe (zWs_at (by omega) (hSe.o)) rfl ⟨(Nat.le_of_ble_eq_true rfl), (Nat.le_of_ble_eq_true rfl)⟩ ⟨(Nat.le_of_ble_eq_true rfl), (Nat.le_of_ble_eq_true rfl)⟩ (Nat.le_of_ble_eq_true rfl) ?_
  refine g_istore_n (M := mX3_rankOfWord) (lv' := [(0, .ref (A qSe)), (1, .int (iI a1)), (2, .int (iI t1))]) dX3_rankOfWord_5 rfl (by decide) rfl ?_
  refine h_iconst (M := mX3_rankOfWord) dX3_rankOfWord_6 ?_
  refine g_istore_n (M := mX3_rankOfWord) (lv' := [(0, .ref (A qSe)), (1, .int (iI a1)), (2, .int (iI t1)), (3, .int (iI 0))]) dX3_rankOfWord_7 rfl (by decide) rfl ?_
  refine h_iconst (M := mX3_rankOfWord) dX3_rankOfWord_8 ?_
  refine g_istore (M := mX3_rankOfWord) (lv' := [(0, .ref (A qSe)), (1, .int (iI a1)), (2, .int (iI t1)), (3, .int (iI 0)), (4, .int (iI 0))]) dX3_rankOfWord_9 (by decide) rfl ?_
  obtain ⟨x3, l3, h⟩ := zbi h
  have r3 : ∀ y3, y3 = x3 → G X mX3_rankOfWord (zPm X 1 0 0 (zRet (zWs A n S) (some (.int (iI res))))) 0 0 33 [(0, .ref (A qSe)), (1, .int (iI a1)), (2, .int (iI t1)), (3, .int (iI y3.1))] [] (zWs A n S) := by
    intro y3 ey
    rw [← ey] at h
    refine h_iconst (M := mX3_rankOfWord) dX3_rankOfWord_33 ?_
    refine g_istore (M := mX3_rankOfWord) (lv' := [(0, .ref (A qSe)), (1, .int (iI a1)), (2, .int (iI t1)), (3, .int (iI y3.1)), (4, .int (iI 0))]) dX3_rankOfWord_34 (by decide) rfl ?_
    obtain ⟨x7, l7, h⟩ := zbi h
    have r7 : ∀ y7, y7 = x7 → G X mX3_rankOfWord (zPm X 1 0 0 (zRet (zWs A n S) (some (.int (iI res))))) 0 0 61 [(3, .int (iI y7.1))] [] (zWs A n S) := by
      intro y7 ey
      rw [← ey] at h
      refine g_iload_n (M := mX3_rankOfWord) dX3_rankOfWord_61 0 rfl rfl ?_
      have e := (Option.some.inj h)
      subst e
      exact g_iret (M := mX3_rankOfWord) dX3_rankOfWord_62 rfl (Nat.le_of_ble_eq_true rfl) (Nat.le_of_ble_eq_true rfl) ⟨rfl, rfl⟩
    refine zLp_J (J := fun s7 => G X mX3_rankOfWord (zPm X 1 0 0 (zRet (zWs A n S) (some (.int (iI res))))) 0 0 36 [(0, .ref (A qSe)), (1, .int (iI a1)), (2, .int (iI t1)), (3, .int (iI s7.1)), (4, .int (iI s7.2))] [] (zWs A n S)) (fun s7 w7 h7 b7 e7 => ?_) _ _ l7
    refine g_iload (M := mX3_rankOfWord) dX3_rankOfWord_36 4 rfl ?_
    refine g_iload_n (M := mX3_rankOfWord) dX3_rankOfWord_38 1 rfl rfl ?_
    obtain ⟨g15, h7⟩ := zgi h7
    refine h_icmp_ge (M := mX3_rankOfWord) (tgt := 61) dX3_rankOfWord_39 (by decide) g15.1 g15.2 (fun c14 => ?_) (fun c14 => ?_)
    · have h7 := zti c14 h7
      refine g_lv (M := mX3_rankOfWord) [3] rfl ?_
      exact r7 _ (e7 _ (Option.some.inj h7).symm)
    · have h7 := zfi (Int.not_le.mpr c14) h7
      refine g_aload_n (M := mX3_rankOfWord) dX3_rankOfWord_42 0 rfl rfl ?_
      refine g_iload (M := mX3_rankOfWord) dX3_rankOfWord_43 4 rfl ?_
      obtain ⟨t16, u17, h7⟩ := zbi h7
      refine g_callVr (M := mX3_rankOfWord) [.int (iI s7.2)] hX dX3_rankOfWord_45 vX3_scoreOf kM_X3_115 (wX3_scoreOf hX hSe (by omega)  u17) qSe (zWs_at (by omega) (hSe.o)) rfl ⟨(Nat.le_of_ble_eq_true rfl), (Nat.le_of_ble_eq_true rfl)⟩ ⟨(Nat.le_of_ble_eq_true rfl), (Nat.le_of_ble_eq_true rfl)⟩ (Nat.le_of_ble_eq_true rfl) ?_
      refine g_iload_n (M := mX3_rankOfWord) dX3_rankOfWord_48 2 rfl rfl ?_
      obtain ⟨g19, h7⟩ := zgi h7
      refine h_icmp_ne (M := mX3_rankOfWord) (tgt := 55) dX3_rankOfWord_49 (by decide) g19.1 g19.2 (fun c18 => ?_) (fun c18 => ?_)
      · have h7 := zfi c18 h7
        refine h_iinc (M := mX3_rankOfWord) (j := 4) (lv' := [(0, .ref (A qSe)), (1, .int (iI a1)), (2, .int (iI t1)), (3, .int (iI s7.1)), (4, .int (iI (s7.2 + 1)))]) dX3_rankOfWord_55 rfl (Nat.le_of_ble_eq_true rfl) rfl ?_
        refine g_goto (M := mX3_rankOfWord) (tgt := 36) dX3_rankOfWord_58 (by decide) ?_
        exact b7 _ (Option.some.inj h7).symm
      · have h7 := zti c18 h7
        refine h_iinc (M := mX3_rankOfWord) (j := 3) (lv' := [(0, .ref (A qSe)), (1, .int (iI a1)), (2, .int (iI t1)), (3, .int (iI (s7.1 + 1))), (4, .int (iI s7.2))]) dX3_rankOfWord_52 rfl (Nat.le_of_ble_eq_true rfl) rfl ?_
        refine h_iinc (M := mX3_rankOfWord) (j := 4) (lv' := [(0, .ref (A qSe)), (1, .int (iI a1)), (2, .int (iI t1)), (3, .int (iI (s7.1 + 1))), (4, .int (iI (s7.2 + 1)))]) dX3_rankOfWord_55 rfl (Nat.le_of_ble_eq_true rfl) rfl ?_
        refine g_goto (M := mX3_rankOfWord) (tgt := 36) dX3_rankOfWord_58 (by decide) ?_
        exact b7 _ (Option.some.inj h7).symm
  refine zLp_J (J := fun s3 => G X mX3_rankOfWord (zPm X 1 0 0 (zRet (zWs A n S) (some (.int (iI res))))) 0 0 11 [(0, .ref (A qSe)), (1, .int (iI a1)), (2, .int (iI t1)), (3, .int (iI s3.1)), (4, .int (iI s3.2))] [] (zWs A n S)) (fun s3 w3 h3 b3 e3 => ?_) _ _ l3
  refine g_iload (M := mX3_rankOfWord) dX3_rankOfWord_11 4 rfl ?_
  refine g_iload_n (M := mX3_rankOfWord) dX3_rankOfWord_13 2 rfl rfl ?_
  obtain ⟨g21, h3⟩ := zgi h3
  refine h_icmp_ge (M := mX3_rankOfWord) (tgt := 33) dX3_rankOfWord_14 (by decide) g21.1 g21.2 (fun c20 => ?_) (fun c20 => ?_)
  · have h3 := zti c20 h3
    refine g_lv (M := mX3_rankOfWord) [0, 1, 2, 3] rfl ?_
    exact r3 _ (e3 _ (Option.some.inj h3).symm)
  · have h3 := zfi (Int.not_le.mpr c20) h3
    refine g_iload_n (M := mX3_rankOfWord) dX3_rankOfWord_17 3 rfl rfl ?_
    refine g_aload_n (M := mX3_rankOfWord) dX3_rankOfWord_18 0 rfl rfl ?_
    refine k_get (M := mX3_rankOfWord) (v := .ref (A (qSe + 5))) dX3_rankOfWord_19 kF_X3_24.r qSe (by omega) (hSe.o) rfl ?_
    refine g_iload (M := mX3_rankOfWord) dX3_rankOfWord_22 4 rfl ?_
    obtain ⟨g22, h3⟩ := zgi h3
    refine k_iald (M := mX3_rankOfWord) (len := 61) (f := VSe.2 5) dX3_rankOfWord_24 (qSe + 5) (by omega) (hSe.a (d := (0, 61)) 4 rfl) (Nat.le_of_ble_eq_true rfl) g22.1 g22.2 ?_
    refine h_iadd (M := mX3_rankOfWord) dX3_rankOfWord_25 ?_
    refine g_istore_n (M := mX3_rankOfWord) (lv' := [(0, .ref (A qSe)), (1, .int (iI a1)), (2, .int (iI t1)), (3, .int (iI (s3.1 + (VSe.2 5 s3.2)))), (4, .int (iI s3.2))]) dX3_rankOfWord_26 rfl (by decide) rfl ?_
    refine h_iinc (M := mX3_rankOfWord) (j := 4) (lv' := [(0, .ref (A qSe)), (1, .int (iI a1)), (2, .int (iI t1)), (3, .int (iI (s3.1 + (VSe.2 5 s3.2)))), (4, .int (iI (s3.2 + 1)))]) dX3_rankOfWord_27 rfl (Nat.le_of_ble_eq_true rfl) rfl ?_
    refine g_goto (M := mX3_rankOfWord) (tgt := 11) dX3_rankOfWord_30 (by decide) ?_
    exact b3 _ (Option.some.inj h3).symm
set_option maxHeartbeats 4000000 in
set_option maxRecDepth 100000 in
theorem wX3_wordOfRank {X : zX} (hX : zOK X) {A : Nat → Nat} {n : Nat} {S : Nat → va_E} {qSe : Nat} {VSe : CV} (hSe : isC X A shSe qSe VSe S) (bSe : qSe + 5 < n) {a1 : Int} {res : Int} (h : fX3_wordOfRank VSe a1 = some res) : Con X yX3_wordOfRank mX3_wordOfRank 1 0 0 [.ref (A qSe), .int (iI a1)] (zWs A n S) (zRet (zWs A n S) (some (.int (iI res)))) := by
  refine con_of (lv := [(0, .ref (A qSe)), (1, .int (iI a1))]) (by decide) rfl (fun h => by cases h) rfl (Nat.le_of_ble_eq_true rfl) rfl ?_
  unfold fX3_wordOfRank at h
  refine g_iload_n (M := mX3_wordOfRank) dX3_wordOfRank_0 1 rfl rfl ?_
  obtain ⟨g2, h⟩ := zgi h
  refine h_if_lt (M := mX3_wordOfRank) (tgt := 12) dX3_wordOfRank_1 (by decide) g2 (fun c1 => ?_) (fun c1 => ?_)
  · have h := zti c1 h
    refine h_iconst (M := mX3_wordOfRank) dX3_wordOfRank_12 ?_
    have e := (Option.some.inj h)
    subst e
    exact g_iret (M := mX3_wordOfRank) dX3_wordOfRank_13 rfl (Nat.le_of_ble_eq_true rfl) (Nat.le_of_ble_eq_true rfl) ⟨rfl, rfl⟩
  · have h := zfi (Int.not_lt.mpr c1) h
    refine g_iload_n (M := mX3_wordOfRank) dX3_wordOfRank_4 1 rfl rfl ?_
    refine g_aload_n (M := mX3_wordOfRank) dX3_wordOfRank_5 0 rfl rfl ?_
    refine k_get (M := mX3_wordOfRank) (v := .int (iI (VSe.1 7))) dX3_wordOfRank_6 kF_X3_83.r qSe (by omega) (hSe.o) rfl ?_
    obtain ⟨g4, h⟩ := zgi h
    refine h_icmp_lt (M := mX3_wordOfRank) (tgt := 14) dX3_wordOfRank_9 (by decide) g2 g4 (fun c3 => ?_) (fun c3 => ?_)
    · have h := zti c3 h
      refine g_iload_n (M := mX3_wordOfRank) dX3_wordOfRank_14 1 rfl rfl ?_
      refine g_istore_n (M := mX3_wordOfRank) (lv' := [(0, .ref (A qSe)), (1, .int (iI a1)), (2, .int (iI a1))]) dX3_wordOfRank_15 rfl (by decide) rfl ?_
      refine h_iconst (M := mX3_wordOfRank) dX3_wordOfRank_16 ?_
      refine g_istore_n (M := mX3_wordOfRank) (lv' := [(0, .ref (A qSe)), (1, .int (iI a1)), (2, .int (iI a1)), (3, .int (iI 0))]) dX3_wordOfRank_17 rfl (by decide) rfl ?_
      obtain ⟨x5, l5, h⟩ := zbi h
      have r5 : ∀ y5, y5 = x5 → G X mX3_wordOfRank (zPm X 1 0 0 (zRet (zWs A n S) (some (.int (iI res))))) 0 0 49 [(0, .ref (A qSe)), (2, .int (iI y5.1)), (3, .int (iI y5.2))] [] (zWs A n S) := by
        intro y5 ey
        rw [← ey] at h
        refine h_iconst (M := mX3_wordOfRank) dX3_wordOfRank_49 ?_
        refine g_istore (M := mX3_wordOfRank) (lv' := [(0, .ref (A qSe)), (2, .int (iI y5.1)), (3, .int (iI y5.2)), (4, .int (iI 0))]) dX3_wordOfRank_50 (by decide) rfl ?_
        obtain ⟨x11, l11, h⟩ := zbi h
        have r11 : ∀ y11, .inl y11 = x11 → G X mX3_wordOfRank (zPm X 1 0 0 (zRet (zWs A n S) (some (.int (iI res))))) 0 0 87 [] [] (zWs A n S) := by
          intro y11 ey
          rw [← ey] at h
          have h := zsl h
          refine h_iconst (M := mX3_wordOfRank) dX3_wordOfRank_87 ?_
          have e := (Option.some.inj h)
          subst e
          exact g_iret (M := mX3_wordOfRank) dX3_wordOfRank_88 rfl (Nat.le_of_ble_eq_true rfl) (Nat.le_of_ble_eq_true rfl) ⟨rfl, rfl⟩
        have q11 : ∀ r, .inr r = x11 → r = res := by
          intro r er
          rw [← er] at h
          exact Option.some.inj h
        refine zLp_J (J := fun s11 => G X mX3_wordOfRank (zPm X 1 0 0 (zRet (zWs A n S) (some (.int (iI res))))) 0 0 52 [(0, .ref (A qSe)), (2, .int (iI s11.1)), (3, .int (iI y5.2)), (4, .int (iI s11.2))] [] (zWs A n S)) (fun s11 w11 h11 b11 e11 => ?_) _ _ l11
        refine g_iload (M := mX3_wordOfRank) dX3_wordOfRank_52 3 rfl ?_
        refine g_aload_n (M := mX3_wordOfRank) dX3_wordOfRank_54 0 rfl rfl ?_
        refine k_get (M := mX3_wordOfRank) (v := .int (iI (VSe.1 7))) dX3_wordOfRank_55 kF_X3_83.r qSe (by omega) (hSe.o) rfl ?_
        obtain ⟨g21, h11⟩ := zgi h11
        refine h_icmp_ge (M := mX3_wordOfRank) (tgt := 87) dX3_wordOfRank_58 (by decide) g21 g4 (fun c20 => ?_) (fun c20 => ?_)
        · have h11 := zti c20 h11
          refine g_lv (M := mX3_wordOfRank) [] rfl ?_
          exact r11 _ (e11 _ (Option.some.inj h11).symm)
        · have h11 := zfi (Int.not_le.mpr c20) h11
          refine g_aload_n (M := mX3_wordOfRank) dX3_wordOfRank_61 0 rfl rfl ?_
          refine g_iload (M := mX3_wordOfRank) dX3_wordOfRank_62 3 rfl ?_
          obtain ⟨t22, u23, h11⟩ := zbi h11
          refine g_callVr (M := mX3_wordOfRank) [.int (iI s11.2)] hX dX3_wordOfRank_64 vX3_scoreOf kM_X3_115 (wX3_scoreOf hX hSe (by omega)  u23) qSe (zWs_at (by omega) (hSe.o)) rfl ⟨(Nat.le_of_ble_eq_true rfl), (Nat.le_of_ble_eq_true rfl)⟩ ⟨(Nat.le_of_ble_eq_true rfl), (Nat.le_of_ble_eq_true rfl)⟩ (Nat.le_of_ble_eq_true rfl) ?_
          refine g_iload_n (M := mX3_wordOfRank) dX3_wordOfRank_67 2 rfl rfl ?_
          obtain ⟨g25, h11⟩ := zgi h11
          refine h_icmp_ne (M := mX3_wordOfRank) (tgt := 81) dX3_wordOfRank_68 (by decide) g25.1 g25.2 (fun c24 => ?_) (fun c24 => ?_)
          · have h11 := zfi c24 h11
            refine h_iinc (M := mX3_wordOfRank) (j := 3) (lv' := [(0, .ref (A qSe)), (2, .int (iI s11.1)), (3, .int (iI y5.2)), (4, .int (iI (s11.2 + 1)))]) dX3_wordOfRank_81 rfl (Nat.le_of_ble_eq_true rfl) rfl ?_
            refine g_goto (M := mX3_wordOfRank) (tgt := 52) dX3_wordOfRank_84 (by decide) ?_
            exact b11 _ (Option.some.inj h11).symm
          · have h11 := zti c24 h11
            refine g_iload_n (M := mX3_wordOfRank) dX3_wordOfRank_71 1 rfl rfl ?_
            obtain ⟨g27, h11⟩ := zgi h11
            refine h_if_ne (M := mX3_wordOfRank) (tgt := 78) dX3_wordOfRank_72 (by decide) g27 (fun c26 => ?_) (fun c26 => ?_)
            · have h11 := zfi c26 h11
              refine h_iinc (M := mX3_wordOfRank) (j := 1) (lv' := [(0, .ref (A qSe)), (2, .int (iI (s11.1 + (-1)))), (3, .int (iI y5.2)), (4, .int (iI s11.2))]) dX3_wordOfRank_78 rfl (Nat.le_of_ble_eq_true rfl) rfl ?_
              refine h_iinc (M := mX3_wordOfRank) (j := 3) (lv' := [(0, .ref (A qSe)), (2, .int (iI (s11.1 + (-1)))), (3, .int (iI y5.2)), (4, .int (iI (s11.2 + 1)))]) dX3_wordOfRank_81 rfl (Nat.le_of_ble_eq_true rfl) rfl ?_
              refine g_goto (M := mX3_wordOfRank) (tgt := 52) dX3_wordOfRank_84 (by decide) ?_
              exact b11 _ (Option.some.inj h11).symm
            · have h11 := zti c26 h11
              refine g_iload (M := mX3_wordOfRank) dX3_wordOfRank_75 3 rfl ?_
              have e := (q11 _ (e11 _ (Option.some.inj h11).symm))
              subst e
              exact g_iret (M := mX3_wordOfRank) dX3_wordOfRank_77 rfl (Nat.le_of_ble_eq_true rfl) (Nat.le_of_ble_eq_true rfl) ⟨rfl, rfl⟩
      refine g_lv (M := mX3_wordOfRank) [0, 2, 3] rfl ?_
      refine zLp_J (J := fun s5 => G X mX3_wordOfRank (zPm X 1 0 0 (zRet (zWs A n S) (some (.int (iI res))))) 0 0 18 [(0, .ref (A qSe)), (2, .int (iI s5.1)), (3, .int (iI s5.2))] [] (zWs A n S)) (fun s5 w5 h5 b5 e5 => ?_) _ _ l5
      refine g_iload_n (M := mX3_wordOfRank) dX3_wordOfRank_18 2 rfl rfl ?_
      refine h_bipush (M := mX3_wordOfRank) dX3_wordOfRank_19 rfl ?_
      obtain ⟨g29, h5⟩ := zgi h5
      refine h_icmp_ge (M := mX3_wordOfRank) (tgt := 49) dX3_wordOfRank_21 (by decide) g29 (by decide) (fun c28 => ?_) (fun c28 => ?_)
      · have h5 := zti c28 h5
        exact r5 _ (e5 _ (Option.some.inj h5).symm)
      · have h5 := zfi (Int.not_le.mpr c28) h5
        refine g_iload_n (M := mX3_wordOfRank) dX3_wordOfRank_24 1 rfl rfl ?_
        refine g_aload_n (M := mX3_wordOfRank) dX3_wordOfRank_25 0 rfl rfl ?_
        refine k_get (M := mX3_wordOfRank) (v := .ref (A (qSe + 5))) dX3_wordOfRank_26 kF_X3_24.r qSe (by omega) (hSe.o) rfl ?_
        refine g_iload_n (M := mX3_wordOfRank) dX3_wordOfRank_29 2 rfl rfl ?_
        obtain ⟨g30, h5⟩ := zgi h5
        refine k_iald (M := mX3_wordOfRank) (len := 61) (f := VSe.2 5) dX3_wordOfRank_30 (qSe + 5) (by omega) (hSe.a (d := (0, 61)) 4 rfl) (Nat.le_of_ble_eq_true rfl) g30.1 g30.2 ?_
        obtain ⟨g32, h5⟩ := zgi h5
        refine h_icmp_lt (M := mX3_wordOfRank) (tgt := 49) dX3_wordOfRank_31 (by decide) g32.1 g32.2 (fun c31 => ?_) (fun c31 => ?_)
        · have h5 := zti c31 h5
          exact r5 _ (e5 _ (Option.some.inj h5).symm)
        · have h5 := zfi (Int.not_lt.mpr c31) h5
          refine g_iload_n (M := mX3_wordOfRank) dX3_wordOfRank_34 1 rfl rfl ?_
          refine g_aload_n (M := mX3_wordOfRank) dX3_wordOfRank_35 0 rfl rfl ?_
          refine k_get (M := mX3_wordOfRank) (v := .ref (A (qSe + 5))) dX3_wordOfRank_36 kF_X3_24.r qSe (by omega) (hSe.o) rfl ?_
          refine g_iload_n (M := mX3_wordOfRank) dX3_wordOfRank_39 2 rfl rfl ?_
          refine k_iald (M := mX3_wordOfRank) (len := 61) (f := VSe.2 5) dX3_wordOfRank_40 (qSe + 5) (by omega) (hSe.a (d := (0, 61)) 4 rfl) (Nat.le_of_ble_eq_true rfl) g30.1 g30.2 ?_
          refine h_isub (M := mX3_wordOfRank) dX3_wordOfRank_41 ?_
          refine g_istore_n (M := mX3_wordOfRank) (lv' := [(0, .ref (A qSe)), (2, .int (iI (s5.1 - (VSe.2 5 s5.2)))), (3, .int (iI s5.2))]) dX3_wordOfRank_42 rfl (by decide) rfl ?_
          refine h_iinc (M := mX3_wordOfRank) (j := 2) (lv' := [(0, .ref (A qSe)), (2, .int (iI (s5.1 - (VSe.2 5 s5.2)))), (3, .int (iI (s5.2 + 1)))]) dX3_wordOfRank_43 rfl (Nat.le_of_ble_eq_true rfl) rfl ?_
          refine g_goto (M := mX3_wordOfRank) (tgt := 18) dX3_wordOfRank_46 (by decide) ?_
          exact b5 _ (Option.some.inj h5).symm
    · have h := zfi (Int.not_lt.mpr c3) h
      refine h_iconst (M := mX3_wordOfRank) dX3_wordOfRank_12 ?_
      have e := (Option.some.inj h)
      subst e
      exact g_iret (M := mX3_wordOfRank) dX3_wordOfRank_13 rfl (Nat.le_of_ble_eq_true rfl) (Nat.le_of_ble_eq_true rfl) ⟨rfl, rfl⟩
