set_option maxHeartbeats 4000000 in
set_option maxRecDepth 100000 in
theorem wX8_shared {X : zX} (hX : zOK X) {A : Nat → Nat} {n : Nat} {S : Nat → va_E} {qMo : Nat} {VMo : CV} (hMo : isC X A shMo qMo VMo S) (bMo : qMo + 20 < n) {a1 : Int} {a2 : Int} {res : CV × Int} (h : fX8_shared VMo a1 a2 = some res) : Con X yX8_shared mX8_shared 5 0 0 [.ref (A qMo), .int (iI a1), .int (iI a2)] (zWs A n S) (zRet (zWs A n (zC X A shMo qMo res.1 S)) (some (.int (iI res.2)))) := by
  refine con_of (lv := [(0, .ref (A qMo)), (1, .int (iI a1)), (2, .int (iI a2))]) (by decide) rfl (fun h => by cases h) rfl (Nat.le_of_ble_eq_true rfl) rfl ?_
  refine g_ws (M := mX8_shared) (congrArg (zWs A n) hMo.symm) ?_
  unfold fX8_shared at h
  refine g_aload_n (M := mX8_shared) dX8_shared_0 0 rfl rfl ?_
  refine g_aload_n (M := mX8_shared) dX8_shared_1 0 rfl rfl ?_
  refine g_iload_n (M := mX8_shared) dX8_shared_2 1 rfl rfl ?_
  obtain ⟨t1, u2, h⟩ := zbi h
  refine g_callVr (M := mX8_shared) [.int (iI a1)] hX dX8_shared_3 vX8_isRow kM_X8_256 (wX8_isRow hX zC_self (by omega)  u2) qMo (zWs_at (by omega) (zC_o)) rfl ⟨(Nat.le_of_ble_eq_true rfl), (Nat.le_of_ble_eq_true rfl)⟩ ⟨(Nat.le_of_ble_eq_true rfl), (Nat.le_of_ble_eq_true rfl)⟩ (Nat.le_of_ble_eq_true rfl) ?_
  refine zJn_J (J := fun x12 => G X mX8_shared (zPm X 5 0 0 (zRet (zWs A n (zC X A shMo qMo res.1 S)) (some (.int (iI res.2))))) 0 0 22 [(0, .ref (A qMo)), (1, .int (iI a1)), (2, .int (iI a2))] [.int (iI x12), .ref (A qMo)] (zWs A n (zC X A shMo qMo VMo S))) h (fun x12 h => ?_) (fun j12 h => ?_)
  · obtain ⟨t13, u14, h⟩ := zbi h
    refine g_callVr (M := mX8_shared) [.int (iI x12)] hX dX8_shared_22 vX8_goes kM_X8_91 (wX8_goes hX zC_self (by omega)  u14) qMo (zWs_at (by omega) (zC_o)) rfl ⟨(Nat.le_of_ble_eq_true rfl), (Nat.le_of_ble_eq_true rfl)⟩ ⟨(Nat.le_of_ble_eq_true rfl), (Nat.le_of_ble_eq_true rfl)⟩ (Nat.le_of_ble_eq_true rfl) ?_
    refine g_ws (M := mX8_shared) (congrArg (zWs A n) zC_over) ?_
    refine h_bne (M := mX8_shared) (tgt := 30) dX8_shared_25 (by decide) (fun c15 => ?_) (fun c15 => ?_)
    · have h := zti c15 h
      refine h_iconst (M := mX8_shared) dX8_shared_30 ?_
      refine g_istore_n (M := mX8_shared) (lv' := [(0, .ref (A qMo)), (1, .int (iI a1)), (2, .int (iI a2)), (3, .int (iI 0))]) dX8_shared_31 rfl (by decide) rfl ?_
      refine g_aload_n (M := mX8_shared) dX8_shared_32 0 rfl rfl ?_
      refine g_iload_n (M := mX8_shared) dX8_shared_33 1 rfl rfl ?_
      refine g_iload_n (M := mX8_shared) dX8_shared_34 2 rfl rfl ?_
      refine h_iconst (M := mX8_shared) dX8_shared_35 ?_
      obtain ⟨t16, u17, h⟩ := zbi h
      refine g_callVr (M := mX8_shared) [.int (iI a1), .int (iI a2), .int (iI (-1))] hX dX8_shared_36 vX8_sharedAbove kM_X8_283 (wX8_sharedAbove hX zC_self (by omega)  u17) qMo (zWs_at (by omega) (zC_o)) rfl ⟨(Nat.le_of_ble_eq_true rfl), (Nat.le_of_ble_eq_true rfl)⟩ ⟨(Nat.le_of_ble_eq_true rfl), (Nat.le_of_ble_eq_true rfl)⟩ (Nat.le_of_ble_eq_true rfl) ?_
      refine g_istore (M := mX8_shared) (lv' := [(0, .ref (A qMo)), (1, .int (iI a1)), (2, .int (iI a2)), (3, .int (iI 0)), (4, .int (iI t16))]) dX8_shared_39 (by decide) rfl ?_
      obtain ⟨x18, l18, h⟩ := zbi h
      have r18 : ∀ y18, y18 = x18 → G X mX8_shared (zPm X 5 0 0 (zRet (zWs A n (zC X A shMo qMo res.1 S)) (some (.int (iI res.2))))) 0 0 63 [(3, .int (iI y18.1))] [] (zWs A n (zC X A shMo qMo t13.1 S)) := by
        intro y18 ey
        rw [← ey] at h
        refine g_iload_n (M := mX8_shared) dX8_shared_63 0 rfl rfl ?_
        have e := (Option.some.inj h)
        subst e
        exact g_iret (M := mX8_shared) dX8_shared_64 rfl (Nat.le_of_ble_eq_true rfl) (Nat.le_of_ble_eq_true rfl) ⟨rfl, rfl⟩
      refine zLp_J (J := fun s18 => G X mX8_shared (zPm X 5 0 0 (zRet (zWs A n (zC X A shMo qMo res.1 S)) (some (.int (iI res.2))))) 0 0 41 [(0, .ref (A qMo)), (1, .int (iI a1)), (2, .int (iI a2)), (3, .int (iI s18.1)), (4, .int (iI s18.2))] [] (zWs A n (zC X A shMo qMo t13.1 S))) (fun s18 w18 h18 b18 e18 => ?_) _ _ l18
      refine g_iload (M := mX8_shared) dX8_shared_41 4 rfl ?_
      refine h_iconst (M := mX8_shared) dX8_shared_43 ?_
      obtain ⟨g24, h18⟩ := zgi h18
      refine h_icmp_eq (M := mX8_shared) (tgt := 63) dX8_shared_44 (by decide) g24 (by decide) (fun c23 => ?_) (fun c23 => ?_)
      · have h18 := zti c23 h18
        refine g_lv (M := mX8_shared) [3] rfl ?_
        exact r18 _ (e18 _ (Option.some.inj h18).symm)
      · have h18 := zfi c23 h18
        refine h_iinc (M := mX8_shared) (j := 3) (lv' := [(0, .ref (A qMo)), (1, .int (iI a1)), (2, .int (iI a2)), (3, .int (iI (s18.1 + 1))), (4, .int (iI s18.2))]) dX8_shared_47 rfl (Nat.le_of_ble_eq_true rfl) rfl ?_
        refine g_aload_n (M := mX8_shared) dX8_shared_50 0 rfl rfl ?_
        refine g_iload_n (M := mX8_shared) dX8_shared_51 1 rfl rfl ?_
        refine g_iload_n (M := mX8_shared) dX8_shared_52 2 rfl rfl ?_
        refine g_iload (M := mX8_shared) dX8_shared_53 4 rfl ?_
        obtain ⟨t25, u26, h18⟩ := zbi h18
        refine g_callVr (M := mX8_shared) [.int (iI a1), .int (iI a2), .int (iI s18.2)] hX dX8_shared_55 vX8_sharedAbove kM_X8_283 (wX8_sharedAbove hX zC_self (by omega)  u26) qMo (zWs_at (by omega) (zC_o)) rfl ⟨(Nat.le_of_ble_eq_true rfl), (Nat.le_of_ble_eq_true rfl)⟩ ⟨(Nat.le_of_ble_eq_true rfl), (Nat.le_of_ble_eq_true rfl)⟩ (Nat.le_of_ble_eq_true rfl) ?_
        refine g_istore (M := mX8_shared) (lv' := [(0, .ref (A qMo)), (1, .int (iI a1)), (2, .int (iI a2)), (3, .int (iI (s18.1 + 1))), (4, .int (iI t25))]) dX8_shared_58 (by decide) rfl ?_
        refine g_goto (M := mX8_shared) (tgt := 41) dX8_shared_60 (by decide) ?_
        exact b18 _ (Option.some.inj h18).symm
    · have h := zfi (zbf c15) h
      refine h_iconst (M := mX8_shared) dX8_shared_28 ?_
      have e := (Option.some.inj h)
      subst e
      exact g_iret (M := mX8_shared) dX8_shared_29 rfl (Nat.le_of_ble_eq_true rfl) (Nat.le_of_ble_eq_true rfl) ⟨rfl, rfl⟩
  · refine zJn_J (J := fun x31 => G X mX8_shared (zPm X 5 0 0 (zRet (zWs A n (zC X A shMo qMo res.1 S)) (some (.int (iI res.2))))) 0 0 21 [(0, .ref (A qMo)), (1, .int (iI a1)), (2, .int (iI a2))] [.ref (A qMo)] (zWs A n (zC X A shMo qMo VMo S))) h (fun x31 h => ?_) (fun j31 h => ?_)
    · refine h_iconst (M := mX8_shared) dX8_shared_21 ?_
      exact j12 0 h
    · refine h_beq (M := mX8_shared) (tgt := 21) dX8_shared_6 (by decide) (fun c32 => ?_) (fun c32 => ?_)
      · have h := zfi (zbf c32) h
        exact j31 () h
      · have h := zti c32 h
        refine g_aload_n (M := mX8_shared) dX8_shared_9 0 rfl rfl ?_
        refine g_iload_n (M := mX8_shared) dX8_shared_10 2 rfl rfl ?_
        obtain ⟨t33, u34, h⟩ := zbi h
        refine g_callVr (M := mX8_shared) [.int (iI a2)] hX dX8_shared_11 vX8_isRow kM_X8_256 (wX8_isRow hX zC_self (by omega)  u34) qMo (zWs_at (by omega) (zC_o)) rfl ⟨(Nat.le_of_ble_eq_true rfl), (Nat.le_of_ble_eq_true rfl)⟩ ⟨(Nat.le_of_ble_eq_true rfl), (Nat.le_of_ble_eq_true rfl)⟩ (Nat.le_of_ble_eq_true rfl) ?_
        refine h_beq (M := mX8_shared) (tgt := 21) dX8_shared_14 (by decide) (fun c35 => ?_) (fun c35 => ?_)
        · have h := zfi (zbf c35) h
          exact j31 () h
        · have h := zti c35 h
          refine h_iconst (M := mX8_shared) dX8_shared_17 ?_
          refine g_goto (M := mX8_shared) (tgt := 22) dX8_shared_18 (by decide) ?_
          exact j12 1 h
set_option maxHeartbeats 4000000 in
set_option maxRecDepth 100000 in
theorem wX8_sharedAt {X : zX} (hX : zOK X) {A : Nat → Nat} {n : Nat} {S : Nat → va_E} {qMo : Nat} {VMo : CV} (hMo : isC X A shMo qMo VMo S) (bMo : qMo + 20 < n) {a1 : Int} {a2 : Int} {a3 : Int} {res : CV × Int} (h : fX8_sharedAt VMo a1 a2 a3 = some res) : Con X yX8_sharedAt mX8_sharedAt 5 0 0 [.ref (A qMo), .int (iI a1), .int (iI a2), .int (iI a3)] (zWs A n S) (zRet (zWs A n (zC X A shMo qMo res.1 S)) (some (.int (iI res.2)))) := by
  refine con_of (lv := [(0, .ref (A qMo)), (1, .int (iI a1)), (2, .int (iI a2)), (3, .int (iI a3))]) (by decide) rfl (fun h => by cases h) rfl (Nat.le_of_ble_eq_true rfl) rfl ?_
  refine g_ws (M := mX8_sharedAt) (congrArg (zWs A n) hMo.symm) ?_
  unfold fX8_sharedAt at h
  refine g_aload_n (M := mX8_sharedAt) dX8_sharedAt_0 0 rfl rfl ?_
  refine g_aload_n (M := mX8_sharedAt) dX8_sharedAt_1 0 rfl rfl ?_
  refine g_iload_n (M := mX8_sharedAt) dX8_sharedAt_2 1 rfl rfl ?_
  obtain ⟨t1, u2, h⟩ := zbi h
  refine g_callVr (M := mX8_sharedAt) [.int (iI a1)] hX dX8_sharedAt_3 vX8_isRow kM_X8_256 (wX8_isRow hX zC_self (by omega)  u2) qMo (zWs_at (by omega) (zC_o)) rfl ⟨(Nat.le_of_ble_eq_true rfl), (Nat.le_of_ble_eq_true rfl)⟩ ⟨(Nat.le_of_ble_eq_true rfl), (Nat.le_of_ble_eq_true rfl)⟩ (Nat.le_of_ble_eq_true rfl) ?_
  refine zJn_J (J := fun x12 => G X mX8_sharedAt (zPm X 5 0 0 (zRet (zWs A n (zC X A shMo qMo res.1 S)) (some (.int (iI res.2))))) 0 0 22 [(0, .ref (A qMo)), (1, .int (iI a1)), (2, .int (iI a2)), (3, .int (iI a3))] [.int (iI x12), .ref (A qMo)] (zWs A n (zC X A shMo qMo VMo S))) h (fun x12 h => ?_) (fun j12 h => ?_)
  · obtain ⟨t13, u14, h⟩ := zbi h
    refine g_callVr (M := mX8_sharedAt) [.int (iI x12)] hX dX8_sharedAt_22 vX8_goes kM_X8_91 (wX8_goes hX zC_self (by omega)  u14) qMo (zWs_at (by omega) (zC_o)) rfl ⟨(Nat.le_of_ble_eq_true rfl), (Nat.le_of_ble_eq_true rfl)⟩ ⟨(Nat.le_of_ble_eq_true rfl), (Nat.le_of_ble_eq_true rfl)⟩ (Nat.le_of_ble_eq_true rfl) ?_
    refine g_ws (M := mX8_sharedAt) (congrArg (zWs A n) zC_over) ?_
    refine h_bne (M := mX8_sharedAt) (tgt := 30) dX8_sharedAt_25 (by decide) (fun c15 => ?_) (fun c15 => ?_)
    · have h := zti c15 h
      refine g_iload_n (M := mX8_sharedAt) dX8_sharedAt_30 3 rfl rfl ?_
      refine zJn_J (J := fun x20 => G X mX8_sharedAt (zPm X 5 0 0 (zRet (zWs A n (zC X A shMo qMo res.1 S)) (some (.int (iI res.2))))) 0 0 45 [(0, .ref (A qMo)), (1, .int (iI a1)), (2, .int (iI a2)), (3, .int (iI a3))] [.int (iI x20)] (zWs A n (zC X A shMo qMo t13.1 S))) h (fun x20 h => ?_) (fun j20 h => ?_)
      · refine g_istore (M := mX8_sharedAt) (lv' := [(0, .ref (A qMo)), (1, .int (iI a1)), (2, .int (iI a2)), (3, .int (iI a3)), (4, .int (iI x20))]) dX8_sharedAt_45 (by decide) rfl ?_
        refine h_iconst (M := mX8_sharedAt) dX8_sharedAt_47 ?_
        refine g_istore (M := mX8_sharedAt) (lv' := [(0, .ref (A qMo)), (1, .int (iI a1)), (2, .int (iI a2)), (3, .int (iI a3)), (4, .int (iI x20)), (5, .int (iI 0))]) dX8_sharedAt_48 (by decide) rfl ?_
        obtain ⟨x21, l21, h⟩ := zbi h
        have r21 : ∀ y21, y21 = x21 → G X mX8_sharedAt (zPm X 5 0 0 (zRet (zWs A n (zC X A shMo qMo res.1 S)) (some (.int (iI res.2))))) 0 0 78 [(4, .int (iI y21.1))] [] (zWs A n (zC X A shMo qMo t13.1 S)) := by
          intro y21 ey
          rw [← ey] at h
          refine g_iload (M := mX8_sharedAt) dX8_sharedAt_78 0 rfl ?_
          have e := (Option.some.inj h)
          subst e
          exact g_iret (M := mX8_sharedAt) dX8_sharedAt_80 rfl (Nat.le_of_ble_eq_true rfl) (Nat.le_of_ble_eq_true rfl) ⟨rfl, rfl⟩
        refine zLp_J (J := fun s21 => G X mX8_sharedAt (zPm X 5 0 0 (zRet (zWs A n (zC X A shMo qMo res.1 S)) (some (.int (iI res.2))))) 0 0 50 [(0, .ref (A qMo)), (1, .int (iI a1)), (2, .int (iI a2)), (3, .int (iI a3)), (4, .int (iI s21.1)), (5, .int (iI s21.2))] [] (zWs A n (zC X A shMo qMo t13.1 S))) (fun s21 w21 h21 b21 e21 => ?_) _ _ l21
        refine g_iload (M := mX8_sharedAt) dX8_sharedAt_50 5 rfl ?_
        refine g_iload_n (M := mX8_sharedAt) dX8_sharedAt_52 3 rfl rfl ?_
        obtain ⟨g29, h21⟩ := zgi h21
        refine h_icmp_ge (M := mX8_sharedAt) (tgt := 78) dX8_sharedAt_53 (by decide) g29.1 g29.2 (fun c28 => ?_) (fun c28 => ?_)
        · have h21 := zti c28 h21
          refine g_lv (M := mX8_sharedAt) [4] rfl ?_
          exact r21 _ (e21 _ (Option.some.inj h21).symm)
        · have h21 := zfi (Int.not_le.mpr c28) h21
          refine g_iload (M := mX8_sharedAt) dX8_sharedAt_56 4 rfl ?_
          refine h_iconst (M := mX8_sharedAt) dX8_sharedAt_58 ?_
          obtain ⟨g31, h21⟩ := zgi h21
          refine h_icmp_eq (M := mX8_sharedAt) (tgt := 78) dX8_sharedAt_59 (by decide) g31 (by decide) (fun c30 => ?_) (fun c30 => ?_)
          · have h21 := zti c30 h21
            refine g_lv (M := mX8_sharedAt) [4] rfl ?_
            exact r21 _ (e21 _ (Option.some.inj h21).symm)
          · have h21 := zfi c30 h21
            refine g_aload_n (M := mX8_sharedAt) dX8_sharedAt_62 0 rfl rfl ?_
            refine g_iload_n (M := mX8_sharedAt) dX8_sharedAt_63 1 rfl rfl ?_
            refine g_iload_n (M := mX8_sharedAt) dX8_sharedAt_64 2 rfl rfl ?_
            refine g_iload (M := mX8_sharedAt) dX8_sharedAt_65 4 rfl ?_
            obtain ⟨t32, u33, h21⟩ := zbi h21
            refine g_callVr (M := mX8_sharedAt) [.int (iI a1), .int (iI a2), .int (iI s21.1)] hX dX8_sharedAt_67 vX8_sharedAbove kM_X8_283 (wX8_sharedAbove hX zC_self (by omega)  u33) qMo (zWs_at (by omega) (zC_o)) rfl ⟨(Nat.le_of_ble_eq_true rfl), (Nat.le_of_ble_eq_true rfl)⟩ ⟨(Nat.le_of_ble_eq_true rfl), (Nat.le_of_ble_eq_true rfl)⟩ (Nat.le_of_ble_eq_true rfl) ?_
            refine g_istore (M := mX8_sharedAt) (lv' := [(0, .ref (A qMo)), (1, .int (iI a1)), (2, .int (iI a2)), (3, .int (iI a3)), (4, .int (iI t32)), (5, .int (iI s21.2))]) dX8_sharedAt_70 (by decide) rfl ?_
            refine h_iinc (M := mX8_sharedAt) (j := 5) (lv' := [(0, .ref (A qMo)), (1, .int (iI a1)), (2, .int (iI a2)), (3, .int (iI a3)), (4, .int (iI t32)), (5, .int (iI (s21.2 + 1)))]) dX8_sharedAt_72 rfl (Nat.le_of_ble_eq_true rfl) rfl ?_
            refine g_goto (M := mX8_sharedAt) (tgt := 50) dX8_sharedAt_75 (by decide) ?_
            exact b21 _ (Option.some.inj h21).symm
      · obtain ⟨g35, h⟩ := zgi h
        refine h_if_ge (M := mX8_sharedAt) (tgt := 38) dX8_sharedAt_31 (by decide) g35 (fun c34 => ?_) (fun c34 => ?_)
        · have h := zti c34 h
          refine g_aload_n (M := mX8_sharedAt) dX8_sharedAt_38 0 rfl rfl ?_
          refine g_iload_n (M := mX8_sharedAt) dX8_sharedAt_39 1 rfl rfl ?_
          refine g_iload_n (M := mX8_sharedAt) dX8_sharedAt_40 2 rfl rfl ?_
          refine h_iconst (M := mX8_sharedAt) dX8_sharedAt_41 ?_
          obtain ⟨t36, u37, h⟩ := zbi h
          refine g_callVr (M := mX8_sharedAt) [.int (iI a1), .int (iI a2), .int (iI (-1))] hX dX8_sharedAt_42 vX8_sharedAbove kM_X8_283 (wX8_sharedAbove hX zC_self (by omega)  u37) qMo (zWs_at (by omega) (zC_o)) rfl ⟨(Nat.le_of_ble_eq_true rfl), (Nat.le_of_ble_eq_true rfl)⟩ ⟨(Nat.le_of_ble_eq_true rfl), (Nat.le_of_ble_eq_true rfl)⟩ (Nat.le_of_ble_eq_true rfl) ?_
          exact j20 t36 h
        · have h := zfi (Int.not_le.mpr c34) h
          refine h_iconst (M := mX8_sharedAt) dX8_sharedAt_34 ?_
          refine g_goto (M := mX8_sharedAt) (tgt := 45) dX8_sharedAt_35 (by decide) ?_
          exact j20 (-1) h
    · have h := zfi (zbf c15) h
      refine h_iconst (M := mX8_sharedAt) dX8_sharedAt_28 ?_
      have e := (Option.some.inj h)
      subst e
      exact g_iret (M := mX8_sharedAt) dX8_sharedAt_29 rfl (Nat.le_of_ble_eq_true rfl) (Nat.le_of_ble_eq_true rfl) ⟨rfl, rfl⟩
  · refine zJn_J (J := fun x42 => G X mX8_sharedAt (zPm X 5 0 0 (zRet (zWs A n (zC X A shMo qMo res.1 S)) (some (.int (iI res.2))))) 0 0 21 [(0, .ref (A qMo)), (1, .int (iI a1)), (2, .int (iI a2)), (3, .int (iI a3))] [.ref (A qMo)] (zWs A n (zC X A shMo qMo VMo S))) h (fun x42 h => ?_) (fun j42 h => ?_)
    · refine h_iconst (M := mX8_sharedAt) dX8_sharedAt_21 ?_
      exact j12 0 h
    · refine h_beq (M := mX8_sharedAt) (tgt := 21) dX8_sharedAt_6 (by decide) (fun c43 => ?_) (fun c43 => ?_)
      · have h := zfi (zbf c43) h
        exact j42 () h
      · have h := zti c43 h
        refine g_aload_n (M := mX8_sharedAt) dX8_sharedAt_9 0 rfl rfl ?_
        refine g_iload_n (M := mX8_sharedAt) dX8_sharedAt_10 2 rfl rfl ?_
        obtain ⟨t44, u45, h⟩ := zbi h
        refine g_callVr (M := mX8_sharedAt) [.int (iI a2)] hX dX8_sharedAt_11 vX8_isRow kM_X8_256 (wX8_isRow hX zC_self (by omega)  u45) qMo (zWs_at (by omega) (zC_o)) rfl ⟨(Nat.le_of_ble_eq_true rfl), (Nat.le_of_ble_eq_true rfl)⟩ ⟨(Nat.le_of_ble_eq_true rfl), (Nat.le_of_ble_eq_true rfl)⟩ (Nat.le_of_ble_eq_true rfl) ?_
        refine h_beq (M := mX8_sharedAt) (tgt := 21) dX8_sharedAt_14 (by decide) (fun c46 => ?_) (fun c46 => ?_)
        · have h := zfi (zbf c46) h
          exact j42 () h
        · have h := zti c46 h
          refine h_iconst (M := mX8_sharedAt) dX8_sharedAt_17 ?_
          refine g_goto (M := mX8_sharedAt) (tgt := 22) dX8_sharedAt_18 (by decide) ?_
          exact j12 1 h
set_option maxHeartbeats 4000000 in
set_option maxRecDepth 100000 in
theorem wX8_spread {X : zX} (hX : zOK X) {A : Nat → Nat} {n : Nat} {S : Nat → va_E} {qMo : Nat} {VMo : CV} (hMo : isC X A shMo qMo VMo S) (bMo : qMo + 20 < n) {a1 : Int} {res : CV × Int} (h : fX8_spread VMo a1 = some res) : Con X yX8_spread mX8_spread 4 0 0 [.ref (A qMo), .int (iI a1)] (zWs A n S) (zRet (zWs A n (zC X A shMo qMo res.1 S)) (some (.int (iI res.2)))) := by
  refine con_of (lv := [(0, .ref (A qMo)), (1, .int (iI a1))]) (by decide) rfl (fun h => by cases h) rfl (Nat.le_of_ble_eq_true rfl) rfl ?_
  refine g_ws (M := mX8_spread) (congrArg (zWs A n) hMo.symm) ?_
  unfold fX8_spread at h
  refine g_aload_n (M := mX8_spread) dX8_spread_0 0 rfl rfl ?_
  refine g_aload_n (M := mX8_spread) dX8_spread_1 0 rfl rfl ?_
  refine g_iload_n (M := mX8_spread) dX8_spread_2 1 rfl rfl ?_
  obtain ⟨t1, u2, h⟩ := zbi h
  refine g_callVr (M := mX8_spread) [.int (iI a1)] hX dX8_spread_3 vX8_isOne kM_X8_268 (wX8_isOne hX zC_self (by omega)  u2) qMo (zWs_at (by omega) (zC_o)) rfl ⟨(Nat.le_of_ble_eq_true rfl), (Nat.le_of_ble_eq_true rfl)⟩ ⟨(Nat.le_of_ble_eq_true rfl), (Nat.le_of_ble_eq_true rfl)⟩ (Nat.le_of_ble_eq_true rfl) ?_
  obtain ⟨t3, u4, h⟩ := zbi h
  refine g_callVr (M := mX8_spread) [.int (iI (b2 t1))] hX dX8_spread_6 vX8_goes kM_X8_91 (wX8_goes hX zC_self (by omega)  u4) qMo (zWs_at (by omega) (zC_o)) rfl ⟨(Nat.le_of_ble_eq_true rfl), (Nat.le_of_ble_eq_true rfl)⟩ ⟨(Nat.le_of_ble_eq_true rfl), (Nat.le_of_ble_eq_true rfl)⟩ (Nat.le_of_ble_eq_true rfl) ?_
  refine g_ws (M := mX8_spread) (congrArg (zWs A n) zC_over) ?_
  refine h_bne (M := mX8_spread) (tgt := 14) dX8_spread_9 (by decide) (fun c5 => ?_) (fun c5 => ?_)
  · have h := zti c5 h
    refine g_aload_n (M := mX8_spread) dX8_spread_14 0 rfl rfl ?_
    refine g_iload_n (M := mX8_spread) dX8_spread_15 1 rfl rfl ?_
    obtain ⟨t6, u7, h⟩ := zbi h
    refine g_callVr (M := mX8_spread) [.int (iI a1)] hX dX8_spread_16 vX8_spells kM_X8_242 (wX8_spells hX zC_self (by omega)  u7) qMo (zWs_at (by omega) (zC_o)) rfl ⟨(Nat.le_of_ble_eq_true rfl), (Nat.le_of_ble_eq_true rfl)⟩ ⟨(Nat.le_of_ble_eq_true rfl), (Nat.le_of_ble_eq_true rfl)⟩ (Nat.le_of_ble_eq_true rfl) ?_
    refine g_ws (M := mX8_spread) (congrArg (zWs A n) zC_over) ?_
    refine h_iconst (M := mX8_spread) dX8_spread_19 ?_
    refine g_istore_n (M := mX8_spread) (lv' := [(0, .ref (A qMo)), (1, .int (iI a1)), (2, .int (iI (-1)))]) dX8_spread_20 rfl (by decide) rfl ?_
    refine h_iconst (M := mX8_spread) dX8_spread_21 ?_
    refine g_istore_n (M := mX8_spread) (lv' := [(0, .ref (A qMo)), (1, .int (iI a1)), (2, .int (iI (-1))), (3, .int (iI 0))]) dX8_spread_22 rfl (by decide) rfl ?_
    obtain ⟨x8, l8, h⟩ := zbi h
    have r8 : ∀ y8, y8 = x8 → G X mX8_spread (zPm X 4 0 0 (zRet (zWs A n (zC X A shMo qMo res.1 S)) (some (.int (iI res.2))))) 0 0 76 [(2, .int (iI y8.1))] [] (zWs A n (zC X A shMo qMo t6 S)) := by
      intro y8 ey
      rw [← ey] at h
      refine g_iload_n (M := mX8_spread) dX8_spread_76 0 rfl rfl ?_
      have e := (Option.some.inj h)
      subst e
      exact g_iret (M := mX8_spread) dX8_spread_77 rfl (Nat.le_of_ble_eq_true rfl) (Nat.le_of_ble_eq_true rfl) ⟨rfl, rfl⟩
    refine g_lv (M := mX8_spread) [0, 2, 3] rfl ?_
    refine zLp_J (J := fun s8 => G X mX8_spread (zPm X 4 0 0 (zRet (zWs A n (zC X A shMo qMo res.1 S)) (some (.int (iI res.2))))) 0 0 23 [(0, .ref (A qMo)), (2, .int (iI s8.1)), (3, .int (iI s8.2))] [] (zWs A n (zC X A shMo qMo t6 S))) (fun s8 w8 h8 b8 e8 => ?_) _ _ l8
    refine g_iload_n (M := mX8_spread) dX8_spread_23 2 rfl rfl ?_
    refine g_aload_n (M := mX8_spread) dX8_spread_24 0 rfl rfl ?_
    refine k_get (M := mX8_spread) (v := .ref (A (qMo + 2))) dX8_spread_25 kF_X8_20.r qMo (by omega) (zC_o) rfl ?_
    refine h_iconst (M := mX8_spread) dX8_spread_28 ?_
    refine k_iald (M := mX8_spread) (len := 351) (f := t6.2 2) dX8_spread_29 (qMo + 2) (by omega) (zC_a (d := (0, 351)) 1 rfl) (Nat.le_of_ble_eq_true rfl) (by decide) (by decide) ?_
    obtain ⟨g19, h8⟩ := zgi h8
    refine h_icmp_ge (M := mX8_spread) (tgt := 76) dX8_spread_30 (by decide) g19.1 g19.2 (fun c18 => ?_) (fun c18 => ?_)
    · have h8 := zti c18 h8
      refine g_lv (M := mX8_spread) [1] rfl ?_
      exact r8 _ (e8 _ (Option.some.inj h8).symm)
    · have h8 := zfi (Int.not_le.mpr c18) h8
      refine g_aload_n (M := mX8_spread) dX8_spread_33 0 rfl rfl ?_
      refine g_iload_n (M := mX8_spread) dX8_spread_34 2 rfl rfl ?_
      obtain ⟨t20, u21, h8⟩ := zbi h8
      refine g_callVr (M := mX8_spread) [.int (iI s8.2)] hX dX8_spread_35 vX8_isOut kM_X8_226 (wX8_isOut hX zC_self (by omega)  u21) qMo (zWs_at (by omega) (zC_o)) rfl ⟨(Nat.le_of_ble_eq_true rfl), (Nat.le_of_ble_eq_true rfl)⟩ ⟨(Nat.le_of_ble_eq_true rfl), (Nat.le_of_ble_eq_true rfl)⟩ (Nat.le_of_ble_eq_true rfl) ?_
      refine h_beq (M := mX8_spread) (tgt := 44) dX8_spread_38 (by decide) (fun c22 => ?_) (fun c22 => ?_)
      · have h8 := zfi (zbf c22) h8
        refine g_aload_n (M := mX8_spread) dX8_spread_44 0 rfl rfl ?_
        refine g_iload_n (M := mX8_spread) dX8_spread_45 2 rfl rfl ?_
        refine g_aload_n (M := mX8_spread) dX8_spread_46 0 rfl rfl ?_
        refine k_get (M := mX8_spread) (v := .ref (A (qMo + 2))) dX8_spread_47 kF_X8_20.r qMo (by omega) (zC_o) rfl ?_
        refine h_iconst (M := mX8_spread) dX8_spread_50 ?_
        refine k_iald (M := mX8_spread) (len := 351) (f := t6.2 2) dX8_spread_51 (qMo + 2) (by omega) (zC_a (d := (0, 351)) 1 rfl) (Nat.le_of_ble_eq_true rfl) (by decide) (by decide) ?_
        obtain ⟨t23, u24, h8⟩ := zbi h8
        refine g_callVr (M := mX8_spread) [.int (iI s8.2), .int (iI (t6.2 2 2))] hX dX8_spread_52 vX8_least kM_X8_239 (wX8_least hX zC_self (by omega)  u24) qMo (zWs_at (by omega) (zC_o)) rfl ⟨(Nat.le_of_ble_eq_true rfl), (Nat.le_of_ble_eq_true rfl)⟩ ⟨(Nat.le_of_ble_eq_true rfl), (Nat.le_of_ble_eq_true rfl)⟩ (Nat.le_of_ble_eq_true rfl) ?_
        refine g_istore (M := mX8_spread) (lv' := [(0, .ref (A qMo)), (2, .int (iI s8.1)), (3, .int (iI s8.2)), (4, .int (iI t23))]) dX8_spread_55 (by decide) rfl ?_
        refine g_iload (M := mX8_spread) dX8_spread_57 3 rfl ?_
        refine g_iload_n (M := mX8_spread) dX8_spread_59 1 rfl rfl ?_
        obtain ⟨g26, h8⟩ := zgi h8
        refine h_icmp_le (M := mX8_spread) (tgt := 68) dX8_spread_60 (by decide) g26.1 g26.2 (fun c25 => ?_) (fun c25 => ?_)
        · have h8 := zti c25 h8
          refine g_iload_n (M := mX8_spread) dX8_spread_68 1 rfl rfl ?_
          refine g_istore_n (M := mX8_spread) (lv' := [(0, .ref (A qMo)), (2, .int (iI s8.1)), (3, .int (iI s8.2)), (4, .int (iI t23))]) dX8_spread_69 rfl (by decide) rfl ?_
          refine h_iinc (M := mX8_spread) (j := 2) (lv' := [(0, .ref (A qMo)), (2, .int (iI s8.1)), (3, .int (iI (s8.2 + 1))), (4, .int (iI t23))]) dX8_spread_70 rfl (Nat.le_of_ble_eq_true rfl) rfl ?_
          refine g_goto (M := mX8_spread) (tgt := 23) dX8_spread_73 (by decide) ?_
          refine g_lv (M := mX8_spread) [0, 1, 2] rfl ?_
          exact b8 _ (Option.some.inj h8).symm
        · have h8 := zfi (Int.not_le.mpr c25) h8
          refine g_iload (M := mX8_spread) dX8_spread_63 3 rfl ?_
          refine g_goto (M := mX8_spread) (tgt := 69) dX8_spread_65 (by decide) ?_
          refine g_istore_n (M := mX8_spread) (lv' := [(0, .ref (A qMo)), (2, .int (iI t23)), (3, .int (iI s8.2)), (4, .int (iI t23))]) dX8_spread_69 rfl (by decide) rfl ?_
          refine h_iinc (M := mX8_spread) (j := 2) (lv' := [(0, .ref (A qMo)), (2, .int (iI t23)), (3, .int (iI (s8.2 + 1))), (4, .int (iI t23))]) dX8_spread_70 rfl (Nat.le_of_ble_eq_true rfl) rfl ?_
          refine g_goto (M := mX8_spread) (tgt := 23) dX8_spread_73 (by decide) ?_
          refine g_lv (M := mX8_spread) [0, 1, 2] rfl ?_
          exact b8 _ (Option.some.inj h8).symm
      · have h8 := zti c22 h8
        refine g_goto (M := mX8_spread) (tgt := 70) dX8_spread_41 (by decide) ?_
        refine h_iinc (M := mX8_spread) (j := 2) (lv' := [(0, .ref (A qMo)), (2, .int (iI s8.1)), (3, .int (iI (s8.2 + 1)))]) dX8_spread_70 rfl (Nat.le_of_ble_eq_true rfl) rfl ?_
        refine g_goto (M := mX8_spread) (tgt := 23) dX8_spread_73 (by decide) ?_
        exact b8 _ (Option.some.inj h8).symm
  · have h := zfi (zbf c5) h
    refine h_iconst (M := mX8_spread) dX8_spread_12 ?_
    have e := (Option.some.inj h)
    subst e
    exact g_iret (M := mX8_spread) dX8_spread_13 rfl (Nat.le_of_ble_eq_true rfl) (Nat.le_of_ble_eq_true rfl) ⟨rfl, rfl⟩
set_option maxHeartbeats 4000000 in
set_option maxRecDepth 100000 in
theorem wX8_take {X : zX} (hX : zOK X) {A : Nat → Nat} {n : Nat} {S : Nat → va_E} {qMo : Nat} {VMo : CV} (hMo : isC X A shMo qMo VMo S) (bMo : qMo + 20 < n) {a1 : Int} {res : CV × Int} (h : fX8_take VMo a1 = some res) : Con X yX8_take mX8_take 6 0 0 [.ref (A qMo), .int (iI a1)] (zWs A n S) (zRet (zWs A n (zC X A shMo qMo res.1 S)) (some (.int (iI res.2)))) := by
  refine con_of (lv := [(0, .ref (A qMo)), (1, .int (iI a1))]) (by decide) rfl (fun h => by cases h) rfl (Nat.le_of_ble_eq_true rfl) rfl ?_
  refine g_ws (M := mX8_take) (congrArg (zWs A n) hMo.symm) ?_
  unfold fX8_take at h
  refine g_aload_n (M := mX8_take) dX8_take_0 0 rfl rfl ?_
  refine g_iload_n (M := mX8_take) dX8_take_1 1 rfl rfl ?_
  obtain ⟨t1, u2, h⟩ := zbi h
  refine g_callVr (M := mX8_take) [.int (iI a1)] hX dX8_take_2 vX8_isOne kM_X8_268 (wX8_isOne hX zC_self (by omega)  u2) qMo (zWs_at (by omega) (zC_o)) rfl ⟨(Nat.le_of_ble_eq_true rfl), (Nat.le_of_ble_eq_true rfl)⟩ ⟨(Nat.le_of_ble_eq_true rfl), (Nat.le_of_ble_eq_true rfl)⟩ (Nat.le_of_ble_eq_true rfl) ?_
  refine g_istore_n (M := mX8_take) (lv' := [(0, .ref (A qMo)), (1, .int (iI a1)), (2, .int (iI (b2 t1)))]) dX8_take_5 rfl (by decide) rfl ?_
  refine g_aload_n (M := mX8_take) dX8_take_6 0 rfl rfl ?_
  refine g_iload_n (M := mX8_take) dX8_take_7 2 rfl rfl ?_
  refine g_iload_n (M := mX8_take) dX8_take_8 2 rfl rfl ?_
  refine zJn_J (J := fun x14 => G X mX8_take (zPm X 6 0 0 (zRet (zWs A n (zC X A shMo qMo res.1 S)) (some (.int (iI res.2))))) 0 0 25 [(0, .ref (A qMo)), (1, .int (iI a1))] [.int (iI x14.1), .int (iI (b2 t1)), .ref (A qMo)] (zWs A n (zC X A shMo qMo x14.2 S))) h (fun x14 h => ?_) (fun j14 h => ?_)
  · obtain ⟨t15, u16, h⟩ := zbi h
    refine g_callVr (M := mX8_take) [.int (iI (b2 t1)), .int (iI x14.1)] hX dX8_take_25 vX8_goesBoth kM_X8_261 (wX8_goesBoth hX zC_self (by omega)  u16) qMo (zWs_at (by omega) (zC_o)) rfl ⟨(Nat.le_of_ble_eq_true rfl), (Nat.le_of_ble_eq_true rfl)⟩ ⟨(Nat.le_of_ble_eq_true rfl), (Nat.le_of_ble_eq_true rfl)⟩ (Nat.le_of_ble_eq_true rfl) ?_
    refine g_ws (M := mX8_take) (congrArg (zWs A n) zC_over) ?_
    refine h_bne (M := mX8_take) (tgt := 33) dX8_take_28 (by decide) (fun c17 => ?_) (fun c17 => ?_)
    · have h := zti c17 h
      refine g_aload_n (M := mX8_take) dX8_take_33 0 rfl rfl ?_
      obtain ⟨t18, u19, h⟩ := zbi h
      refine g_callVr (M := mX8_take) [] hX dX8_take_34 vX8_laysAside kM_X8_217 (wX8_laysAside hX zC_self (by omega)  u19) qMo (zWs_at (by omega) (zC_o)) rfl ⟨(Nat.le_of_ble_eq_true rfl), (Nat.le_of_ble_eq_true rfl)⟩ ⟨(Nat.le_of_ble_eq_true rfl), (Nat.le_of_ble_eq_true rfl)⟩ (Nat.le_of_ble_eq_true rfl) ?_
      refine g_ws (M := mX8_take) (congrArg (zWs A n) zC_over) ?_
      refine g_aload_n (M := mX8_take) dX8_take_37 0 rfl rfl ?_
      refine g_aload_n (M := mX8_take) dX8_take_38 0 rfl rfl ?_
      refine g_iload_n (M := mX8_take) dX8_take_39 1 rfl rfl ?_
      obtain ⟨t20, u21, h⟩ := zbi h
      refine g_callVr (M := mX8_take) [.int (iI a1)] hX dX8_take_40 vX8_takes kM_X8_341 (wX8_takes hX zC_self (by omega)  u21) qMo (zWs_at (by omega) (zC_o)) rfl ⟨(Nat.le_of_ble_eq_true rfl), (Nat.le_of_ble_eq_true rfl)⟩ ⟨(Nat.le_of_ble_eq_true rfl), (Nat.le_of_ble_eq_true rfl)⟩ (Nat.le_of_ble_eq_true rfl) ?_
      refine g_ws (M := mX8_take) (congrArg (zWs A n) zC_over) ?_
      obtain ⟨t22, u23, h⟩ := zbi h
      refine g_callVr (M := mX8_take) [.int (iI t20.2)] hX dX8_take_43 vX8_kept kM_X8_382 (wX8_kept hX zC_self (by omega)  u23) qMo (zWs_at (by omega) (zC_o)) rfl ⟨(Nat.le_of_ble_eq_true rfl), (Nat.le_of_ble_eq_true rfl)⟩ ⟨(Nat.le_of_ble_eq_true rfl), (Nat.le_of_ble_eq_true rfl)⟩ (Nat.le_of_ble_eq_true rfl) ?_
      refine g_ws (M := mX8_take) (congrArg (zWs A n) zC_over) ?_
      have e := (Option.some.inj h)
      subst e
      exact g_iret (M := mX8_take) dX8_take_46 rfl (Nat.le_of_ble_eq_true rfl) (Nat.le_of_ble_eq_true rfl) ⟨rfl, rfl⟩
    · have h := zfi (zbf c17) h
      refine h_iconst (M := mX8_take) dX8_take_31 ?_
      have e := (Option.some.inj h)
      subst e
      exact g_iret (M := mX8_take) dX8_take_32 rfl (Nat.le_of_ble_eq_true rfl) (Nat.le_of_ble_eq_true rfl) ⟨rfl, rfl⟩
  · refine zJn_J (J := fun x29 => G X mX8_take (zPm X 6 0 0 (zRet (zWs A n (zC X A shMo qMo res.1 S)) (some (.int (iI res.2))))) 0 0 24 [(0, .ref (A qMo)), (1, .int (iI a1))] [.int (iI (b2 t1)), .ref (A qMo)] (zWs A n (zC X A shMo qMo x29 S))) h (fun x29 h => ?_) (fun j29 h => ?_)
    · refine h_iconst (M := mX8_take) dX8_take_24 ?_
      exact j14 (0, x29) h
    · refine h_beq (M := mX8_take) (tgt := 24) dX8_take_9 (by decide) (fun c30 => ?_) (fun c30 => ?_)
      · have h := zfi (zbf c30) h
        refine g_lv (M := mX8_take) [0, 1] rfl ?_
        exact j29 VMo h
      · have h := zti c30 h
        refine g_aload_n (M := mX8_take) dX8_take_12 0 rfl rfl ?_
        refine g_iload_n (M := mX8_take) dX8_take_13 1 rfl rfl ?_
        obtain ⟨t31, u32, h⟩ := zbi h
        refine g_callVr (M := mX8_take) [.int (iI a1)] hX dX8_take_14 vX8_whyTake kM_X8_335 (wX8_whyTake hX zC_self (by omega)  u32) qMo (zWs_at (by omega) (zC_o)) rfl ⟨(Nat.le_of_ble_eq_true rfl), (Nat.le_of_ble_eq_true rfl)⟩ ⟨(Nat.le_of_ble_eq_true rfl), (Nat.le_of_ble_eq_true rfl)⟩ (Nat.le_of_ble_eq_true rfl) ?_
        refine g_ws (M := mX8_take) (congrArg (zWs A n) zC_over) ?_
        obtain ⟨g34, h⟩ := zgi h
        refine h_if_ne (M := mX8_take) (tgt := 24) dX8_take_17 (by decide) g34 (fun c33 => ?_) (fun c33 => ?_)
        · have h := zfi c33 h
          refine g_lv (M := mX8_take) [0, 1] rfl ?_
          exact j29 t31.1 h
        · have h := zti c33 h
          refine h_iconst (M := mX8_take) dX8_take_20 ?_
          refine g_goto (M := mX8_take) (tgt := 25) dX8_take_21 (by decide) ?_
          refine g_lv (M := mX8_take) [0, 1] rfl ?_
          exact j14 (1, t31.1) h
set_option maxHeartbeats 4000000 in
set_option maxRecDepth 100000 in
theorem wX8_takeBest {X : zX} (hX : zOK X) {A : Nat → Nat} {n : Nat} {S : Nat → va_E} {qMo : Nat} {VMo : CV} (hMo : isC X A shMo qMo VMo S) (bMo : qMo + 20 < n) {res : CV × Int} (h : fX8_takeBest VMo = some res) : Con X yX8_takeBest mX8_takeBest 6 0 0 [.ref (A qMo)] (zWs A n S) (zRet (zWs A n (zC X A shMo qMo res.1 S)) (some (.int (iI res.2)))) := by
  refine con_of (lv := [(0, .ref (A qMo))]) (by decide) rfl (fun h => by cases h) rfl (Nat.le_of_ble_eq_true rfl) rfl ?_
  refine g_ws (M := mX8_takeBest) (congrArg (zWs A n) hMo.symm) ?_
  unfold fX8_takeBest at h
  refine g_aload_n (M := mX8_takeBest) dX8_takeBest_0 0 rfl rfl ?_
  obtain ⟨t1, u2, h⟩ := zbi h
  refine g_callVr (M := mX8_takeBest) [] hX dX8_takeBest_1 vX8_searches kM_X8_323 (wX8_searches hX zC_self (by omega)  u2) qMo (zWs_at (by omega) (zC_o)) rfl ⟨(Nat.le_of_ble_eq_true rfl), (Nat.le_of_ble_eq_true rfl)⟩ ⟨(Nat.le_of_ble_eq_true rfl), (Nat.le_of_ble_eq_true rfl)⟩ (Nat.le_of_ble_eq_true rfl) ?_
  refine g_ws (M := mX8_takeBest) (congrArg (zWs A n) zC_over) ?_
  refine g_aload_n (M := mX8_takeBest) dX8_takeBest_4 0 rfl rfl ?_
  refine k_get (M := mX8_takeBest) (v := .int (iI (t1.1 31))) dX8_takeBest_5 kF_X8_306.r qMo (by omega) (zC_o) rfl ?_
  refine g_istore_n (M := mX8_takeBest) (lv' := [(0, .ref (A qMo)), (1, .int (iI (t1.1 31)))]) dX8_takeBest_8 rfl (by decide) rfl ?_
  refine g_aload_n (M := mX8_takeBest) dX8_takeBest_9 0 rfl rfl ?_
  refine g_aload_n (M := mX8_takeBest) dX8_takeBest_10 0 rfl rfl ?_
  refine g_iload_n (M := mX8_takeBest) dX8_takeBest_11 1 rfl rfl ?_
  obtain ⟨t3, u4, h⟩ := zbi h
  refine g_callVr (M := mX8_takeBest) [.int (iI (t1.1 31))] hX dX8_takeBest_12 vX8_whyTake kM_X8_335 (wX8_whyTake hX zC_self (by omega)  u4) qMo (zWs_at (by omega) (zC_o)) rfl ⟨(Nat.le_of_ble_eq_true rfl), (Nat.le_of_ble_eq_true rfl)⟩ ⟨(Nat.le_of_ble_eq_true rfl), (Nat.le_of_ble_eq_true rfl)⟩ (Nat.le_of_ble_eq_true rfl) ?_
  refine g_ws (M := mX8_takeBest) (congrArg (zWs A n) zC_over) ?_
  refine zJn_J (J := fun x7 => G X mX8_takeBest (zPm X 6 0 0 (zRet (zWs A n (zC X A shMo qMo res.1 S)) (some (.int (iI res.2))))) 0 0 23 [(0, .ref (A qMo)), (1, .int (iI (t1.1 31)))] [.int (iI x7), .ref (A qMo)] (zWs A n (zC X A shMo qMo t3.1 S))) h (fun x7 h => ?_) (fun j7 h => ?_)
  · obtain ⟨t8, u9, h⟩ := zbi h
    refine g_callVr (M := mX8_takeBest) [.int (iI x7)] hX dX8_takeBest_23 vX8_goes kM_X8_91 (wX8_goes hX zC_self (by omega)  u9) qMo (zWs_at (by omega) (zC_o)) rfl ⟨(Nat.le_of_ble_eq_true rfl), (Nat.le_of_ble_eq_true rfl)⟩ ⟨(Nat.le_of_ble_eq_true rfl), (Nat.le_of_ble_eq_true rfl)⟩ (Nat.le_of_ble_eq_true rfl) ?_
    refine g_ws (M := mX8_takeBest) (congrArg (zWs A n) zC_over) ?_
    refine h_bne (M := mX8_takeBest) (tgt := 31) dX8_takeBest_26 (by decide) (fun c10 => ?_) (fun c10 => ?_)
    · have h := zti c10 h
      refine g_aload_n (M := mX8_takeBest) dX8_takeBest_31 0 rfl rfl ?_
      obtain ⟨t11, u12, h⟩ := zbi h
      refine g_callVr (M := mX8_takeBest) [] hX dX8_takeBest_32 vX8_laysAside kM_X8_217 (wX8_laysAside hX zC_self (by omega)  u12) qMo (zWs_at (by omega) (zC_o)) rfl ⟨(Nat.le_of_ble_eq_true rfl), (Nat.le_of_ble_eq_true rfl)⟩ ⟨(Nat.le_of_ble_eq_true rfl), (Nat.le_of_ble_eq_true rfl)⟩ (Nat.le_of_ble_eq_true rfl) ?_
      refine g_ws (M := mX8_takeBest) (congrArg (zWs A n) zC_over) ?_
      refine g_aload_n (M := mX8_takeBest) dX8_takeBest_35 0 rfl rfl ?_
      refine g_iload_n (M := mX8_takeBest) dX8_takeBest_36 1 rfl rfl ?_
      obtain ⟨t13, u14, h⟩ := zbi h
      refine g_callVr (M := mX8_takeBest) [.int (iI (t1.1 31))] hX dX8_takeBest_37 vX8_takes kM_X8_341 (wX8_takes hX zC_self (by omega)  u14) qMo (zWs_at (by omega) (zC_o)) rfl ⟨(Nat.le_of_ble_eq_true rfl), (Nat.le_of_ble_eq_true rfl)⟩ ⟨(Nat.le_of_ble_eq_true rfl), (Nat.le_of_ble_eq_true rfl)⟩ (Nat.le_of_ble_eq_true rfl) ?_
      refine g_ws (M := mX8_takeBest) (congrArg (zWs A n) zC_over) ?_
      refine g_istore_n (M := mX8_takeBest) (lv' := [(0, .ref (A qMo)), (1, .int (iI (t1.1 31))), (2, .int (iI t13.2))]) dX8_takeBest_40 rfl (by decide) rfl ?_
      refine g_aload_n (M := mX8_takeBest) dX8_takeBest_41 0 rfl rfl ?_
      refine g_iload_n (M := mX8_takeBest) dX8_takeBest_42 1 rfl rfl ?_
      obtain ⟨t15, u16, h⟩ := zbi h
      refine g_callVr (M := mX8_takeBest) [.int (iI (t1.1 31))] hX dX8_takeBest_43 vX8_kept kM_X8_382 (wX8_kept hX zC_self (by omega)  u16) qMo (zWs_at (by omega) (zC_o)) rfl ⟨(Nat.le_of_ble_eq_true rfl), (Nat.le_of_ble_eq_true rfl)⟩ ⟨(Nat.le_of_ble_eq_true rfl), (Nat.le_of_ble_eq_true rfl)⟩ (Nat.le_of_ble_eq_true rfl) ?_
      refine g_ws (M := mX8_takeBest) (congrArg (zWs A n) zC_over) ?_
      have e := (Option.some.inj h)
      subst e
      exact g_iret (M := mX8_takeBest) dX8_takeBest_46 rfl (Nat.le_of_ble_eq_true rfl) (Nat.le_of_ble_eq_true rfl) ⟨rfl, rfl⟩
    · have h := zfi (zbf c10) h
      refine h_iconst (M := mX8_takeBest) dX8_takeBest_29 ?_
      have e := (Option.some.inj h)
      subst e
      exact g_iret (M := mX8_takeBest) dX8_takeBest_30 rfl (Nat.le_of_ble_eq_true rfl) (Nat.le_of_ble_eq_true rfl) ⟨rfl, rfl⟩
  · obtain ⟨g18, h⟩ := zgi h
    refine h_if_ne (M := mX8_takeBest) (tgt := 22) dX8_takeBest_15 (by decide) g18 (fun c17 => ?_) (fun c17 => ?_)
    · have h := zfi c17 h
      refine h_iconst (M := mX8_takeBest) dX8_takeBest_22 ?_
      exact j7 0 h
    · have h := zti c17 h
      refine h_iconst (M := mX8_takeBest) dX8_takeBest_18 ?_
      refine g_goto (M := mX8_takeBest) (tgt := 23) dX8_takeBest_19 (by decide) ?_
      exact j7 1 h
set_option maxHeartbeats 4000000 in
set_option maxRecDepth 100000 in
theorem wX8_taken {X : zX} (hX : zOK X) {A : Nat → Nat} {n : Nat} {S : Nat → va_E} {qMo : Nat} {VMo : CV} (hMo : isC X A shMo qMo VMo S) (bMo : qMo + 20 < n) {a1 : Int} {res : CV × Int} (h : fX8_taken VMo a1 = some res) : Con X yX8_taken mX8_taken 1 0 0 [.ref (A qMo), .int (iI a1)] (zWs A n S) (zRet (zWs A n (zC X A shMo qMo res.1 S)) (some (.int (iI res.2)))) := by
  refine con_of (lv := [(0, .ref (A qMo)), (1, .int (iI a1))]) (by decide) rfl (fun h => by cases h) rfl (Nat.le_of_ble_eq_true rfl) rfl ?_
  refine g_ws (M := mX8_taken) (congrArg (zWs A n) hMo.symm) ?_
  unfold fX8_taken at h
  refine g_aload_n (M := mX8_taken) dX8_taken_0 0 rfl rfl ?_
  refine h_iconst (M := mX8_taken) dX8_taken_1 ?_
  refine c_put (M := mX8_taken) (k := 0) dX8_taken_2 kF_X8_81 (by omega) rfl rfl (by decide) rfl rfl ?_
  refine g_iload_n (M := mX8_taken) dX8_taken_5 1 rfl rfl ?_
  obtain ⟨g1, h⟩ := zgi h
  refine h_i2l (M := mX8_taken) dX8_taken_6 g1 ?_
  refine g_lconst (M := mX8_taken) (v := iL 0) dX8_taken_7 rfl ?_
  refine g_aload_n (M := mX8_taken) dX8_taken_8 0 rfl rfl ?_
  refine k_get (M := mX8_taken) (v := .ref (A (qMo + 2))) dX8_taken_9 kF_X8_20.r qMo (by omega) (zC_o) rfl ?_
  refine h_iconst (M := mX8_taken) dX8_taken_12 ?_
  refine k_iald (M := mX8_taken) (len := 351) (f := VMo.2 2) dX8_taken_13 (qMo + 2) (by omega) (zC_a (d := (0, 351)) 1 rfl) (Nat.le_of_ble_eq_true rfl) (by decide) (by decide) ?_
  refine h_iconst (M := mX8_taken) dX8_taken_14 ?_
  refine h_isub (M := mX8_taken) dX8_taken_15 ?_
  obtain ⟨g2, h⟩ := zgi h
  refine h_i2l (M := mX8_taken) dX8_taken_16 g2 ?_
  obtain ⟨t3, u4, h⟩ := zbi h
  refine g_callSr (M := mX8_taken) [.long (iL a1), .long (iL 0), .long (iL ((VMo.2 2 4) - 1))] hX dX8_taken_17 vX8_isIn kM_X8_99 (wX8_isIn hX   u4) rfl ⟨(Nat.le_of_ble_eq_true rfl), (Nat.le_of_ble_eq_true rfl)⟩ ⟨(Nat.le_of_ble_eq_true rfl), (Nat.le_of_ble_eq_true rfl)⟩ (Nat.le_of_ble_eq_true rfl) ?_
  refine h_beq (M := mX8_taken) (tgt := 34) dX8_taken_20 (by decide) (fun c5 => ?_) (fun c5 => ?_)
  · have h := zfi (zbf c5) h
    refine h_iconst (M := mX8_taken) dX8_taken_34 ?_
    have e := (Option.some.inj h)
    subst e
    exact g_iret (M := mX8_taken) dX8_taken_35 rfl (Nat.le_of_ble_eq_true rfl) (Nat.le_of_ble_eq_true rfl) ⟨rfl, rfl⟩
  · have h := zti c5 h
    refine g_aload_n (M := mX8_taken) dX8_taken_23 0 rfl rfl ?_
    refine k_get (M := mX8_taken) (v := .ref (A (qMo + 2))) dX8_taken_24 kF_X8_20.r qMo (by omega) (zC_o) rfl ?_
    refine h_iconst (M := mX8_taken) dX8_taken_27 ?_
    refine g_iload_n (M := mX8_taken) dX8_taken_28 1 rfl rfl ?_
    refine h_iadd (M := mX8_taken) dX8_taken_29 ?_
    obtain ⟨g6, h⟩ := zgi h
    refine k_iald (M := mX8_taken) (len := 351) (f := VMo.2 2) dX8_taken_30 (qMo + 2) (by omega) (zC_a (d := (0, 351)) 1 rfl) (Nat.le_of_ble_eq_true rfl) g6.1 g6.2 ?_
    refine g_goto (M := mX8_taken) (tgt := 35) dX8_taken_31 (by decide) ?_
    have e := (Option.some.inj h)
    subst e
    exact g_iret (M := mX8_taken) dX8_taken_35 rfl (Nat.le_of_ble_eq_true rfl) (Nat.le_of_ble_eq_true rfl) ⟨rfl, rfl⟩
set_option maxHeartbeats 4000000 in
set_option maxRecDepth 100000 in
theorem wX8_thrown {X : zX} (hX : zOK X) {A : Nat → Nat} {n : Nat} {S : Nat → va_E} {qMo : Nat} {VMo : CV} (hMo : isC X A shMo qMo VMo S) (bMo : qMo + 20 < n) {res : Int} (h : fX8_thrown VMo = some res) : Con X yX8_thrown mX8_thrown 0 0 0 [.ref (A qMo)] (zWs A n S) (zRet (zWs A n S) (some (.int (iI res)))) := by
  refine con_of (lv := [(0, .ref (A qMo))]) (by decide) rfl (fun h => by cases h) rfl (Nat.le_of_ble_eq_true rfl) rfl ?_
  unfold fX8_thrown at h
  refine g_aload_n (M := mX8_thrown) dX8_thrown_0 0 rfl rfl ?_
  refine k_get (M := mX8_thrown) (v := .int (iI (VMo.1 0))) dX8_thrown_1 kF_X8_81.r qMo (by omega) (hMo.o) rfl ?_
  have e := (Option.some.inj h)
  subst e
  exact g_iret (M := mX8_thrown) dX8_thrown_4 rfl (Nat.le_of_ble_eq_true rfl) (Nat.le_of_ble_eq_true rfl) ⟨rfl, rfl⟩
set_option maxHeartbeats 4000000 in
set_option maxRecDepth 100000 in
theorem wX8_times {X : zX} (hX : zOK X) {A : Nat → Nat} {n : Nat} {S : Nat → va_E} {qMo : Nat} {VMo : CV} (hMo : isC X A shMo qMo VMo S) (bMo : qMo + 20 < n) {a1 : Int} {res : Int} (h : fX8_times VMo a1 = some res) : Con X yX8_times mX8_times 3 0 0 [.ref (A qMo), .int (iI a1)] (zWs A n S) (zRet (zWs A n S) (some (.int (iI res)))) := by
  refine con_of (lv := [(0, .ref (A qMo)), (1, .int (iI a1))]) (by decide) rfl (fun h => by cases h) rfl (Nat.le_of_ble_eq_true rfl) rfl ?_
  unfold fX8_times at h
  refine h_iconst (M := mX8_times) dX8_times_0 ?_
  refine g_istore_n (M := mX8_times) (lv' := [(0, .ref (A qMo)), (1, .int (iI a1)), (2, .int (iI 0))]) dX8_times_1 rfl (by decide) rfl ?_
  refine h_iconst (M := mX8_times) dX8_times_2 ?_
  refine g_istore_n (M := mX8_times) (lv' := [(0, .ref (A qMo)), (1, .int (iI a1)), (2, .int (iI 0)), (3, .int (iI 0))]) dX8_times_3 rfl (by decide) rfl ?_
  obtain ⟨x1, l1, h⟩ := zbi h
  have r1 : ∀ y1, y1 = x1 → G X mX8_times (zPm X 3 0 0 (zRet (zWs A n S) (some (.int (iI res))))) 0 0 72 [(2, .int (iI y1.1))] [] (zWs A n S) := by
    intro y1 ey
    rw [← ey] at h
    refine g_iload_n (M := mX8_times) dX8_times_72 0 rfl rfl ?_
    have e := (Option.some.inj h)
    subst e
    exact g_iret (M := mX8_times) dX8_times_73 rfl (Nat.le_of_ble_eq_true rfl) (Nat.le_of_ble_eq_true rfl) ⟨rfl, rfl⟩
  refine zLp_J (J := fun s1 => G X mX8_times (zPm X 3 0 0 (zRet (zWs A n S) (some (.int (iI res))))) 0 0 4 [(0, .ref (A qMo)), (1, .int (iI a1)), (2, .int (iI s1.1)), (3, .int (iI s1.2))] [] (zWs A n S)) (fun s1 w1 h1 b1 e1 => ?_) _ _ l1
  refine g_iload_n (M := mX8_times) dX8_times_4 3 rfl rfl ?_
  refine g_aload_n (M := mX8_times) dX8_times_5 0 rfl rfl ?_
  refine k_get (M := mX8_times) (v := .ref (A (qMo + 2))) dX8_times_6 kF_X8_20.r qMo (by omega) (hMo.o) rfl ?_
  refine h_iconst (M := mX8_times) dX8_times_9 ?_
  refine k_iald (M := mX8_times) (len := 351) (f := VMo.2 2) dX8_times_10 (qMo + 2) (by omega) (hMo.a (d := (0, 351)) 1 rfl) (Nat.le_of_ble_eq_true rfl) (by decide) (by decide) ?_
  obtain ⟨g68, h1⟩ := zgi h1
  refine h_icmp_ge (M := mX8_times) (tgt := 72) dX8_times_11 (by decide) g68.1 g68.2 (fun c67 => ?_) (fun c67 => ?_)
  · have h1 := zti c67 h1
    refine g_lv (M := mX8_times) [2] rfl ?_
    exact r1 _ (e1 _ (Option.some.inj h1).symm)
  · have h1 := zfi (Int.not_le.mpr c67) h1
    refine h_iconst (M := mX8_times) dX8_times_14 ?_
    refine g_istore (M := mX8_times) (lv' := [(0, .ref (A qMo)), (1, .int (iI a1)), (2, .int (iI s1.1)), (3, .int (iI s1.2)), (4, .int (iI 0))]) dX8_times_15 (by decide) rfl ?_
    obtain ⟨x69, l69, h1⟩ := zbi h1
    have r69 : ∀ y69, y69 = x69 → G X mX8_times (zPm X 3 0 0 (zRet (zWs A n S) (some (.int (iI res))))) 0 0 66 [(0, .ref (A qMo)), (1, .int (iI a1)), (2, .int (iI y69.1)), (3, .int (iI s1.2))] [] (zWs A n S) := by
      intro y69 ey
      rw [← ey] at h1
      refine h_iinc (M := mX8_times) (j := 3) (lv' := [(0, .ref (A qMo)), (1, .int (iI a1)), (2, .int (iI y69.1)), (3, .int (iI (s1.2 + 1)))]) dX8_times_66 rfl (Nat.le_of_ble_eq_true rfl) rfl ?_
      refine g_goto (M := mX8_times) (tgt := 4) dX8_times_69 (by decide) ?_
      exact b1 _ (Option.some.inj h1).symm
    refine zLp_J (J := fun s69 => G X mX8_times (zPm X 3 0 0 (zRet (zWs A n S) (some (.int (iI res))))) 0 0 17 [(0, .ref (A qMo)), (1, .int (iI a1)), (2, .int (iI s69.1)), (3, .int (iI s1.2)), (4, .int (iI s69.2))] [] (zWs A n S)) (fun s69 w69 h69 b69 e69 => ?_) _ _ l69
    refine g_iload (M := mX8_times) dX8_times_17 4 rfl ?_
    refine g_aload_n (M := mX8_times) dX8_times_19 0 rfl rfl ?_
    refine g_iload_n (M := mX8_times) dX8_times_20 3 rfl rfl ?_
    refine h_iconst (M := mX8_times) dX8_times_21 ?_
    obtain ⟨t101, u102, h69⟩ := zbi h69
    refine g_callVr (M := mX8_times) [.int (iI s1.2), .int (iI 0)] hX dX8_times_22 vX8_of kM_X8_166 (wX8_of hX hMo (by omega)  u102) qMo (zWs_at (by omega) (hMo.o)) rfl ⟨(Nat.le_of_ble_eq_true rfl), (Nat.le_of_ble_eq_true rfl)⟩ ⟨(Nat.le_of_ble_eq_true rfl), (Nat.le_of_ble_eq_true rfl)⟩ (Nat.le_of_ble_eq_true rfl) ?_
    obtain ⟨g104, h69⟩ := zgi h69
    refine h_icmp_ge (M := mX8_times) (tgt := 66) dX8_times_25 (by decide) g104.1 g104.2 (fun c103 => ?_) (fun c103 => ?_)
    · have h69 := zti c103 h69
      refine g_lv (M := mX8_times) [0, 1, 2, 3] rfl ?_
      exact r69 _ (e69 _ (Option.some.inj h69).symm)
    · have h69 := zfi (Int.not_le.mpr c103) h69
      refine g_iload_n (M := mX8_times) dX8_times_28 2 rfl rfl ?_
      refine g_aload_n (M := mX8_times) dX8_times_29 0 rfl rfl ?_
      refine g_iload_n (M := mX8_times) dX8_times_30 3 rfl rfl ?_
      refine g_iload (M := mX8_times) dX8_times_31 4 rfl ?_
      obtain ⟨t105, u106, h69⟩ := zbi h69
      refine g_callVr (M := mX8_times) [.int (iI s1.2), .int (iI s69.2)] hX dX8_times_33 vX8_isPlace kM_X8_229 (wX8_isPlace hX hMo (by omega)  u106) qMo (zWs_at (by omega) (hMo.o)) rfl ⟨(Nat.le_of_ble_eq_true rfl), (Nat.le_of_ble_eq_true rfl)⟩ ⟨(Nat.le_of_ble_eq_true rfl), (Nat.le_of_ble_eq_true rfl)⟩ (Nat.le_of_ble_eq_true rfl) ?_
      refine zJn_J (J := fun x118 => G X mX8_times (zPm X 3 0 0 (zRet (zWs A n S) (some (.int (iI res))))) 0 0 55 [(0, .ref (A qMo)), (1, .int (iI a1)), (3, .int (iI s1.2)), (4, .int (iI s69.2))] [.int (iI x118), .int (iI s69.1)] (zWs A n S)) h69 (fun x118 h69 => ?_) (fun j118 h69 => ?_)
      · obtain ⟨t119, u120, h69⟩ := zbi h69
        refine g_callSr (M := mX8_times) [.int (iI x118)] hX dX8_times_55 vX8_truth kM_X8_84 (wX8_truth hX   u120) rfl ⟨(Nat.le_of_ble_eq_true rfl), (Nat.le_of_ble_eq_true rfl)⟩ ⟨(Nat.le_of_ble_eq_true rfl), (Nat.le_of_ble_eq_true rfl)⟩ (Nat.le_of_ble_eq_true rfl) ?_
        refine h_iadd (M := mX8_times) dX8_times_58 ?_
        refine g_istore_n (M := mX8_times) (lv' := [(0, .ref (A qMo)), (1, .int (iI a1)), (3, .int (iI s1.2)), (4, .int (iI s69.2)), (2, .int (iI (s69.1 + t119)))]) dX8_times_59 rfl (by decide) rfl ?_
        refine h_iinc (M := mX8_times) (j := 3) (lv' := [(0, .ref (A qMo)), (1, .int (iI a1)), (3, .int (iI s1.2)), (4, .int (iI (s69.2 + 1))), (2, .int (iI (s69.1 + t119)))]) dX8_times_60 rfl (Nat.le_of_ble_eq_true rfl) rfl ?_
        refine g_goto (M := mX8_times) (tgt := 17) dX8_times_63 (by decide) ?_
        refine g_lv (M := mX8_times) [0, 1, 4, 2, 3] rfl ?_
        exact b69 _ (Option.some.inj h69).symm
      · refine zJn_J (J := fun x126 => G X mX8_times (zPm X 3 0 0 (zRet (zWs A n S) (some (.int (iI res))))) 0 0 54 [(0, .ref (A qMo)), (1, .int (iI a1)), (3, .int (iI s1.2)), (4, .int (iI s69.2))] [.int (iI s69.1)] (zWs A n S)) h69 (fun x126 h69 => ?_) (fun j126 h69 => ?_)
        · refine h_iconst (M := mX8_times) dX8_times_54 ?_
          exact j118 0 h69
        · refine h_beq (M := mX8_times) (tgt := 54) dX8_times_36 (by decide) (fun c127 => ?_) (fun c127 => ?_)
          · have h69 := zfi (zbf c127) h69
            refine g_lv (M := mX8_times) [0, 1, 3, 4] rfl ?_
            exact j126 () h69
          · have h69 := zti c127 h69
            refine g_aload_n (M := mX8_times) dX8_times_39 0 rfl rfl ?_
            refine g_iload_n (M := mX8_times) dX8_times_40 3 rfl rfl ?_
            refine g_iload (M := mX8_times) dX8_times_41 4 rfl ?_
            obtain ⟨t128, u129, h69⟩ := zbi h69
            refine g_callVr (M := mX8_times) [.int (iI s1.2), .int (iI s69.2)] hX dX8_times_43 vX8_wordThere kM_X8_265 (wX8_wordThere hX hMo (by omega)  u129) qMo (zWs_at (by omega) (hMo.o)) rfl ⟨(Nat.le_of_ble_eq_true rfl), (Nat.le_of_ble_eq_true rfl)⟩ ⟨(Nat.le_of_ble_eq_true rfl), (Nat.le_of_ble_eq_true rfl)⟩ (Nat.le_of_ble_eq_true rfl) ?_
            refine g_iload_n (M := mX8_times) dX8_times_46 1 rfl rfl ?_
            obtain ⟨g131, h69⟩ := zgi h69
            refine h_icmp_ne (M := mX8_times) (tgt := 54) dX8_times_47 (by decide) g131.1 g131.2 (fun c130 => ?_) (fun c130 => ?_)
            · have h69 := zfi c130 h69
              refine g_lv (M := mX8_times) [0, 1, 3, 4] rfl ?_
              exact j126 () h69
            · have h69 := zti c130 h69
              refine h_iconst (M := mX8_times) dX8_times_50 ?_
              refine g_goto (M := mX8_times) (tgt := 55) dX8_times_51 (by decide) ?_
              refine g_lv (M := mX8_times) [0, 1, 3, 4] rfl ?_
              exact j118 1 h69
set_option maxHeartbeats 4000000 in
set_option maxRecDepth 100000 in
theorem wX8_timesOf {X : zX} (hX : zOK X) {A : Nat → Nat} {n : Nat} {S : Nat → va_E} {qMo : Nat} {VMo : CV} (hMo : isC X A shMo qMo VMo S) (bMo : qMo + 20 < n) {a1 : Int} {res : CV × Int} (h : fX8_timesOf VMo a1 = some res) : Con X yX8_timesOf mX8_timesOf 4 0 0 [.ref (A qMo), .int (iI a1)] (zWs A n S) (zRet (zWs A n (zC X A shMo qMo res.1 S)) (some (.int (iI res.2)))) := by
  refine con_of (lv := [(0, .ref (A qMo)), (1, .int (iI a1))]) (by decide) rfl (fun h => by cases h) rfl (Nat.le_of_ble_eq_true rfl) rfl ?_
  refine g_ws (M := mX8_timesOf) (congrArg (zWs A n) hMo.symm) ?_
  unfold fX8_timesOf at h
  refine g_aload_n (M := mX8_timesOf) dX8_timesOf_0 0 rfl rfl ?_
  refine g_aload_n (M := mX8_timesOf) dX8_timesOf_1 0 rfl rfl ?_
  refine g_iload_n (M := mX8_timesOf) dX8_timesOf_2 1 rfl rfl ?_
  obtain ⟨t1, u2, h⟩ := zbi h
  refine g_callVr (M := mX8_timesOf) [.int (iI a1)] hX dX8_timesOf_3 vX8_isOne kM_X8_268 (wX8_isOne hX zC_self (by omega)  u2) qMo (zWs_at (by omega) (zC_o)) rfl ⟨(Nat.le_of_ble_eq_true rfl), (Nat.le_of_ble_eq_true rfl)⟩ ⟨(Nat.le_of_ble_eq_true rfl), (Nat.le_of_ble_eq_true rfl)⟩ (Nat.le_of_ble_eq_true rfl) ?_
  obtain ⟨t3, u4, h⟩ := zbi h
  refine g_callVr (M := mX8_timesOf) [.int (iI (b2 t1))] hX dX8_timesOf_6 vX8_goes kM_X8_91 (wX8_goes hX zC_self (by omega)  u4) qMo (zWs_at (by omega) (zC_o)) rfl ⟨(Nat.le_of_ble_eq_true rfl), (Nat.le_of_ble_eq_true rfl)⟩ ⟨(Nat.le_of_ble_eq_true rfl), (Nat.le_of_ble_eq_true rfl)⟩ (Nat.le_of_ble_eq_true rfl) ?_
  refine g_ws (M := mX8_timesOf) (congrArg (zWs A n) zC_over) ?_
  refine h_beq (M := mX8_timesOf) (tgt := 20) dX8_timesOf_9 (by decide) (fun c5 => ?_) (fun c5 => ?_)
  · have h := zfi (zbf c5) h
    refine h_iconst (M := mX8_timesOf) dX8_timesOf_20 ?_
    have e := (Option.some.inj h)
    subst e
    exact g_iret (M := mX8_timesOf) dX8_timesOf_21 rfl (Nat.le_of_ble_eq_true rfl) (Nat.le_of_ble_eq_true rfl) ⟨rfl, rfl⟩
  · have h := zti c5 h
    refine g_aload_n (M := mX8_timesOf) dX8_timesOf_12 0 rfl rfl ?_
    refine g_iload_n (M := mX8_timesOf) dX8_timesOf_13 1 rfl rfl ?_
    obtain ⟨t6, u7, h⟩ := zbi h
    refine g_callVr (M := mX8_timesOf) [.int (iI a1)] hX dX8_timesOf_14 vX8_times kM_X8_303 (wX8_times hX zC_self (by omega)  u7) qMo (zWs_at (by omega) (zC_o)) rfl ⟨(Nat.le_of_ble_eq_true rfl), (Nat.le_of_ble_eq_true rfl)⟩ ⟨(Nat.le_of_ble_eq_true rfl), (Nat.le_of_ble_eq_true rfl)⟩ (Nat.le_of_ble_eq_true rfl) ?_
    refine g_goto (M := mX8_timesOf) (tgt := 21) dX8_timesOf_17 (by decide) ?_
    have e := (Option.some.inj h)
    subst e
    exact g_iret (M := mX8_timesOf) dX8_timesOf_21 rfl (Nat.le_of_ble_eq_true rfl) (Nat.le_of_ble_eq_true rfl) ⟨rfl, rfl⟩
set_option maxHeartbeats 4000000 in
set_option maxRecDepth 100000 in
theorem wX8_truncate {X : zX} (hX : zOK X) {A : Nat → Nat} {n : Nat} {S : Nat → va_E} {qMo : Nat} {VMo : CV} (hMo : isC X A shMo qMo VMo S) (bMo : qMo + 20 < n) {a1 : Int} {res : CV × Int} (h : fX8_truncate VMo a1 = some res) : Con X yX8_truncate mX8_truncate 2 0 0 [.ref (A qMo), .int (iI a1)] (zWs A n S) (zRet (zWs A n (zC X A shMo qMo res.1 S)) (some (.int (iI res.2)))) := by
  refine con_of (lv := [(0, .ref (A qMo)), (1, .int (iI a1))]) (by decide) rfl (fun h => by cases h) rfl (Nat.le_of_ble_eq_true rfl) rfl ?_
  refine g_ws (M := mX8_truncate) (congrArg (zWs A n) hMo.symm) ?_
  unfold fX8_truncate at h
  refine g_aload_n (M := mX8_truncate) dX8_truncate_0 0 rfl rfl ?_
  refine g_iload_n (M := mX8_truncate) dX8_truncate_1 1 rfl rfl ?_
  obtain ⟨g1, h⟩ := zgi h
  refine h_i2l (M := mX8_truncate) dX8_truncate_2 g1 ?_
  refine g_lconst (M := mX8_truncate) (v := iL 0) dX8_truncate_3 rfl ?_
  refine g_aload_n (M := mX8_truncate) dX8_truncate_4 0 rfl rfl ?_
  refine k_get (M := mX8_truncate) (v := .int (iI (VMo.1 2))) dX8_truncate_5 kF_X8_88.r qMo (by omega) (zC_o) rfl ?_
  obtain ⟨g2, h⟩ := zgi h
  refine h_i2l (M := mX8_truncate) dX8_truncate_8 g2 ?_
  obtain ⟨t3, u4, h⟩ := zbi h
  refine g_callSr (M := mX8_truncate) [.long (iL a1), .long (iL 0), .long (iL (VMo.1 2))] hX dX8_truncate_9 vX8_isIn kM_X8_99 (wX8_isIn hX   u4) rfl ⟨(Nat.le_of_ble_eq_true rfl), (Nat.le_of_ble_eq_true rfl)⟩ ⟨(Nat.le_of_ble_eq_true rfl), (Nat.le_of_ble_eq_true rfl)⟩ (Nat.le_of_ble_eq_true rfl) ?_
  obtain ⟨t5, u6, h⟩ := zbi h
  refine g_callVr (M := mX8_truncate) [.int (iI (b2 t3))] hX dX8_truncate_12 vX8_goes kM_X8_91 (wX8_goes hX zC_self (by omega)  u6) qMo (zWs_at (by omega) (zC_o)) rfl ⟨(Nat.le_of_ble_eq_true rfl), (Nat.le_of_ble_eq_true rfl)⟩ ⟨(Nat.le_of_ble_eq_true rfl), (Nat.le_of_ble_eq_true rfl)⟩ (Nat.le_of_ble_eq_true rfl) ?_
  refine g_ws (M := mX8_truncate) (congrArg (zWs A n) zC_over) ?_
  refine h_bne (M := mX8_truncate) (tgt := 20) dX8_truncate_15 (by decide) (fun c7 => ?_) (fun c7 => ?_)
  · have h := zti c7 h
    refine g_aload_n (M := mX8_truncate) dX8_truncate_20 0 rfl rfl ?_
    refine g_iload_n (M := mX8_truncate) dX8_truncate_21 1 rfl rfl ?_
    refine c_put (M := mX8_truncate) (k := 2) dX8_truncate_22 kF_X8_88 (by omega) rfl rfl (by decide) rfl rfl ?_
    refine g_iload_n (M := mX8_truncate) dX8_truncate_25 1 rfl rfl ?_
    have e := (Option.some.inj h)
    subst e
    exact g_iret (M := mX8_truncate) dX8_truncate_26 rfl (Nat.le_of_ble_eq_true rfl) (Nat.le_of_ble_eq_true rfl) ⟨rfl, rfl⟩
  · have h := zfi (zbf c7) h
    refine h_iconst (M := mX8_truncate) dX8_truncate_18 ?_
    have e := (Option.some.inj h)
    subst e
    exact g_iret (M := mX8_truncate) dX8_truncate_19 rfl (Nat.le_of_ble_eq_true rfl) (Nat.le_of_ble_eq_true rfl) ⟨rfl, rfl⟩
set_option maxHeartbeats 4000000 in
set_option maxRecDepth 100000 in
theorem wX8_tryFrom {X : zX} (hX : zOK X) {A : Nat → Nat} {n : Nat} {S : Nat → va_E} {qMo : Nat} {VMo : CV} (hMo : isC X A shMo qMo VMo S) (bMo : qMo + 20 < n) {a1 : Int} {a2 : Int} {res : CV × Int} (h : fX8_tryFrom VMo a1 a2 = some res) : Con X yX8_tryFrom mX8_tryFrom 7 0 0 [.ref (A qMo), .int (iI a1), .int (iI a2)] (zWs A n S) (zRet (zWs A n (zC X A shMo qMo res.1 S)) (some (.int (iI res.2)))) := by
  refine con_of (lv := [(0, .ref (A qMo)), (1, .int (iI a1)), (2, .int (iI a2))]) (by decide) rfl (fun h => by cases h) rfl (Nat.le_of_ble_eq_true rfl) rfl ?_
  refine g_ws (M := mX8_tryFrom) (congrArg (zWs A n) hMo.symm) ?_
  unfold fX8_tryFrom at h
  refine g_aload_n (M := mX8_tryFrom) dX8_tryFrom_0 0 rfl rfl ?_
  refine g_aload_n (M := mX8_tryFrom) dX8_tryFrom_1 0 rfl rfl ?_
  refine g_iload_n (M := mX8_tryFrom) dX8_tryFrom_2 1 rfl rfl ?_
  obtain ⟨t1, u2, h⟩ := zbi h
  refine g_callVr (M := mX8_tryFrom) [.int (iI a1)] hX dX8_tryFrom_3 vX8_isRow kM_X8_256 (wX8_isRow hX zC_self (by omega)  u2) qMo (zWs_at (by omega) (zC_o)) rfl ⟨(Nat.le_of_ble_eq_true rfl), (Nat.le_of_ble_eq_true rfl)⟩ ⟨(Nat.le_of_ble_eq_true rfl), (Nat.le_of_ble_eq_true rfl)⟩ (Nat.le_of_ble_eq_true rfl) ?_
  obtain ⟨t3, u4, h⟩ := zbi h
  refine g_callVr (M := mX8_tryFrom) [.int (iI (b2 t1))] hX dX8_tryFrom_6 vX8_goes kM_X8_91 (wX8_goes hX zC_self (by omega)  u4) qMo (zWs_at (by omega) (zC_o)) rfl ⟨(Nat.le_of_ble_eq_true rfl), (Nat.le_of_ble_eq_true rfl)⟩ ⟨(Nat.le_of_ble_eq_true rfl), (Nat.le_of_ble_eq_true rfl)⟩ (Nat.le_of_ble_eq_true rfl) ?_
  refine g_ws (M := mX8_tryFrom) (congrArg (zWs A n) zC_over) ?_
  refine h_bne (M := mX8_tryFrom) (tgt := 14) dX8_tryFrom_9 (by decide) (fun c5 => ?_) (fun c5 => ?_)
  · have h := zti c5 h
    refine g_aload_n (M := mX8_tryFrom) dX8_tryFrom_14 0 rfl rfl ?_
    refine g_iload_n (M := mX8_tryFrom) dX8_tryFrom_15 1 rfl rfl ?_
    refine g_iload_n (M := mX8_tryFrom) dX8_tryFrom_16 2 rfl rfl ?_
    obtain ⟨t6, u7, h⟩ := zbi h
    refine g_callVr (M := mX8_tryFrom) [.int (iI a1), .int (iI a2)] hX dX8_tryFrom_17 vX8_isPlace kM_X8_229 (wX8_isPlace hX zC_self (by omega)  u7) qMo (zWs_at (by omega) (zC_o)) rfl ⟨(Nat.le_of_ble_eq_true rfl), (Nat.le_of_ble_eq_true rfl)⟩ ⟨(Nat.le_of_ble_eq_true rfl), (Nat.le_of_ble_eq_true rfl)⟩ (Nat.le_of_ble_eq_true rfl) ?_
    refine h_beq (M := mX8_tryFrom) (tgt := 32) dX8_tryFrom_20 (by decide) (fun c8 => ?_) (fun c8 => ?_)
    · have h := zfi (zbf c8) h
      refine h_iconst (M := mX8_tryFrom) dX8_tryFrom_32 ?_
      have e := (Option.some.inj h)
      subst e
      exact g_iret (M := mX8_tryFrom) dX8_tryFrom_33 rfl (Nat.le_of_ble_eq_true rfl) (Nat.le_of_ble_eq_true rfl) ⟨rfl, rfl⟩
    · have h := zti c8 h
      refine g_aload_n (M := mX8_tryFrom) dX8_tryFrom_23 0 rfl rfl ?_
      refine g_iload_n (M := mX8_tryFrom) dX8_tryFrom_24 1 rfl rfl ?_
      refine g_iload_n (M := mX8_tryFrom) dX8_tryFrom_25 2 rfl rfl ?_
      obtain ⟨t9, u10, h⟩ := zbi h
      refine g_callVr (M := mX8_tryFrom) [.int (iI a1), .int (iI a2)] hX dX8_tryFrom_26 vX8_tries kM_X8_371 (wX8_tries hX zC_self (by omega)  u10) qMo (zWs_at (by omega) (zC_o)) rfl ⟨(Nat.le_of_ble_eq_true rfl), (Nat.le_of_ble_eq_true rfl)⟩ ⟨(Nat.le_of_ble_eq_true rfl), (Nat.le_of_ble_eq_true rfl)⟩ (Nat.le_of_ble_eq_true rfl) ?_
      refine g_ws (M := mX8_tryFrom) (congrArg (zWs A n) zC_over) ?_
      refine g_goto (M := mX8_tryFrom) (tgt := 33) dX8_tryFrom_29 (by decide) ?_
      have e := (Option.some.inj h)
      subst e
      exact g_iret (M := mX8_tryFrom) dX8_tryFrom_33 rfl (Nat.le_of_ble_eq_true rfl) (Nat.le_of_ble_eq_true rfl) ⟨rfl, rfl⟩
  · have h := zfi (zbf c5) h
    refine h_iconst (M := mX8_tryFrom) dX8_tryFrom_12 ?_
    have e := (Option.some.inj h)
    subst e
    exact g_iret (M := mX8_tryFrom) dX8_tryFrom_13 rfl (Nat.le_of_ble_eq_true rfl) (Nat.le_of_ble_eq_true rfl) ⟨rfl, rfl⟩
set_option maxHeartbeats 4000000 in
set_option maxRecDepth 100000 in
theorem wX8_undo {X : zX} (hX : zOK X) {A : Nat → Nat} {n : Nat} {S : Nat → va_E} {qMo : Nat} {VMo : CV} (hMo : isC X A shMo qMo VMo S) (bMo : qMo + 20 < n) {res : CV × Int} (h : fX8_undo VMo = some res) : Con X yX8_undo mX8_undo 0 0 0 [.ref (A qMo)] (zWs A n S) (zRet (zWs A n (zC X A shMo qMo res.1 S)) (some (.int (iI res.2)))) := by
  refine con_of (lv := [(0, .ref (A qMo))]) (by decide) rfl (fun h => by cases h) rfl (Nat.le_of_ble_eq_true rfl) rfl ?_
  refine g_ws (M := mX8_undo) (congrArg (zWs A n) hMo.symm) ?_
  unfold fX8_undo at h
  refine g_aload_n (M := mX8_undo) dX8_undo_0 0 rfl rfl ?_
  refine h_iconst (M := mX8_undo) dX8_undo_1 ?_
  refine c_put (M := mX8_undo) (k := 0) dX8_undo_2 kF_X8_81 (by omega) rfl rfl (by decide) rfl rfl ?_
  refine g_aload_n (M := mX8_undo) dX8_undo_5 0 rfl rfl ?_
  refine k_get (M := mX8_undo) (v := .int (iI (VMo.1 22))) dX8_undo_6 kF_X8_155.r qMo (by omega) (zC_o) rfl ?_
  obtain ⟨g2, h⟩ := zgi h
  refine h_if_ne (M := mX8_undo) (tgt := 14) dX8_undo_9 (by decide) g2 (fun c1 => ?_) (fun c1 => ?_)
  · have h := zfi c1 h
    refine g_aload_n (M := mX8_undo) dX8_undo_14 0 rfl rfl ?_
    refine g_dup (M := mX8_undo) dX8_undo_15 rfl ?_
    refine k_get (M := mX8_undo) (v := .int (iI (VMo.1 22))) dX8_undo_16 kF_X8_155.r qMo (by omega) (zC_o) rfl ?_
    refine h_iconst (M := mX8_undo) dX8_undo_19 ?_
    refine h_isub (M := mX8_undo) dX8_undo_20 ?_
    refine c_put (M := mX8_undo) (k := 22) dX8_undo_21 kF_X8_155 (by omega) rfl rfl (by decide) rfl rfl ?_
    refine h_iconst (M := mX8_undo) dX8_undo_24 ?_
    refine g_istore_n (M := mX8_undo) (lv' := [(0, .ref (A qMo)), (1, .int (iI 0))]) dX8_undo_25 rfl (by decide) rfl ?_
    obtain ⟨x3, l3, h⟩ := zbi h
    have r3 : ∀ y3, y3 = x3 → G X mX8_undo (zPm X 0 0 0 (zRet (zWs A n (zC X A shMo qMo res.1 S)) (some (.int (iI res.2))))) 0 0 60 [(0, .ref (A qMo))] [] (zWs A n (zC X A shMo qMo y3.2 S)) := by
      intro y3 ey
      rw [← ey] at h
      refine g_aload_n (M := mX8_undo) dX8_undo_60 0 rfl rfl ?_
      refine k_get (M := mX8_undo) (v := .int (iI (y3.2.1 22))) dX8_undo_61 kF_X8_155.r qMo (by omega) (zC_o) rfl ?_
      have e := (Option.some.inj h)
      subst e
      exact g_iret (M := mX8_undo) dX8_undo_64 rfl (Nat.le_of_ble_eq_true rfl) (Nat.le_of_ble_eq_true rfl) ⟨rfl, rfl⟩
    refine zLp_J (J := fun s3 => G X mX8_undo (zPm X 0 0 0 (zRet (zWs A n (zC X A shMo qMo res.1 S)) (some (.int (iI res.2))))) 0 0 26 [(0, .ref (A qMo)), (1, .int (iI s3.1))] [] (zWs A n (zC X A shMo qMo s3.2 S))) (fun s3 w3 h3 b3 e3 => ?_) _ _ l3
    refine g_iload_n (M := mX8_undo) dX8_undo_26 1 rfl rfl ?_
    refine h_sipush (M := mX8_undo) dX8_undo_27 rfl ?_
    obtain ⟨g9, h3⟩ := zgi h3
    refine h_icmp_ge (M := mX8_undo) (tgt := 60) dX8_undo_30 (by decide) g9 (by decide) (fun c8 => ?_) (fun c8 => ?_)
    · have h3 := zti c8 h3
      refine g_lv (M := mX8_undo) [0] rfl ?_
      exact r3 _ (e3 _ (Option.some.inj h3).symm)
    · have h3 := zfi (Int.not_le.mpr c8) h3
      refine g_aload_n (M := mX8_undo) dX8_undo_33 0 rfl rfl ?_
      refine k_get (M := mX8_undo) (v := .ref (A (qMo + 2))) dX8_undo_34 kF_X8_20.r qMo (by omega) (zC_o) rfl ?_
      refine g_iload_n (M := mX8_undo) dX8_undo_37 1 rfl rfl ?_
      refine g_aload_n (M := mX8_undo) dX8_undo_38 0 rfl rfl ?_
      refine k_get (M := mX8_undo) (v := .ref (A (qMo + 4))) dX8_undo_39 kF_X8_26.r qMo (by omega) (zC_o) rfl ?_
      refine h_sipush (M := mX8_undo) dX8_undo_42 rfl ?_
      refine g_aload_n (M := mX8_undo) dX8_undo_45 0 rfl rfl ?_
      refine k_get (M := mX8_undo) (v := .int (iI (s3.2.1 22))) dX8_undo_46 kF_X8_155.r qMo (by omega) (zC_o) rfl ?_
      refine h_imul (M := mX8_undo) dX8_undo_49 ?_
      refine g_iload_n (M := mX8_undo) dX8_undo_50 1 rfl rfl ?_
      refine h_iadd (M := mX8_undo) dX8_undo_51 ?_
      obtain ⟨g10, h3⟩ := zgi h3
      refine k_iald (M := mX8_undo) (len := 2106) (f := s3.2.2 4) dX8_undo_52 (qMo + 4) (by omega) (zC_a (d := (0, 2106)) 3 rfl) (Nat.le_of_ble_eq_true rfl) g10.1 g10.2 ?_
      obtain ⟨g11, h3⟩ := zgi h3
      refine c_iast (M := mX8_undo) (len := 351) (d := (0, 351)) dX8_undo_53 1 rfl rfl (by omega) (Nat.le_of_ble_eq_true rfl) g11.1 g11.2 ?_
      refine h_iinc (M := mX8_undo) (j := 1) (lv' := [(0, .ref (A qMo)), (1, .int (iI (s3.1 + 1)))]) dX8_undo_54 rfl (Nat.le_of_ble_eq_true rfl) rfl ?_
      refine g_goto (M := mX8_undo) (tgt := 26) dX8_undo_57 (by decide) ?_
      exact b3 _ (Option.some.inj h3).symm
  · have h := zti c1 h
    refine h_iconst (M := mX8_undo) dX8_undo_12 ?_
    have e := (Option.some.inj h)
    subst e
    exact g_iret (M := mX8_undo) dX8_undo_13 rfl (Nat.le_of_ble_eq_true rfl) (Nat.le_of_ble_eq_true rfl) ⟨rfl, rfl⟩
set_option maxHeartbeats 4000000 in
set_option maxRecDepth 100000 in
theorem wX8_weight {X : zX} (hX : zOK X) {A : Nat → Nat} {n : Nat} {S : Nat → va_E} {qMo : Nat} {VMo : CV} (hMo : isC X A shMo qMo VMo S) (bMo : qMo + 20 < n) {a1 : Int} {a2 : Int} {res : CV × Int} (h : fX8_weight VMo a1 a2 = some res) : Con X yX8_weight mX8_weight 3 0 0 [.ref (A qMo), .int (iI a1), .int (iI a2)] (zWs A n S) (zRet (zWs A n (zC X A shMo qMo res.1 S)) (some (.int (iI res.2)))) := by
  refine con_of (lv := [(0, .ref (A qMo)), (1, .int (iI a1)), (2, .int (iI a2))]) (by decide) rfl (fun h => by cases h) rfl (Nat.le_of_ble_eq_true rfl) rfl ?_
  refine g_ws (M := mX8_weight) (congrArg (zWs A n) hMo.symm) ?_
  unfold fX8_weight at h
  refine g_aload_n (M := mX8_weight) dX8_weight_0 0 rfl rfl ?_
  refine g_aload_n (M := mX8_weight) dX8_weight_1 0 rfl rfl ?_
  refine g_iload_n (M := mX8_weight) dX8_weight_2 1 rfl rfl ?_
  obtain ⟨t1, u2, h⟩ := zbi h
  refine g_callVr (M := mX8_weight) [.int (iI a1)] hX dX8_weight_3 vX8_isRow kM_X8_256 (wX8_isRow hX zC_self (by omega)  u2) qMo (zWs_at (by omega) (zC_o)) rfl ⟨(Nat.le_of_ble_eq_true rfl), (Nat.le_of_ble_eq_true rfl)⟩ ⟨(Nat.le_of_ble_eq_true rfl), (Nat.le_of_ble_eq_true rfl)⟩ (Nat.le_of_ble_eq_true rfl) ?_
  obtain ⟨t3, u4, h⟩ := zbi h
  refine g_callVr (M := mX8_weight) [.int (iI (b2 t1))] hX dX8_weight_6 vX8_goes kM_X8_91 (wX8_goes hX zC_self (by omega)  u4) qMo (zWs_at (by omega) (zC_o)) rfl ⟨(Nat.le_of_ble_eq_true rfl), (Nat.le_of_ble_eq_true rfl)⟩ ⟨(Nat.le_of_ble_eq_true rfl), (Nat.le_of_ble_eq_true rfl)⟩ (Nat.le_of_ble_eq_true rfl) ?_
  refine g_ws (M := mX8_weight) (congrArg (zWs A n) zC_over) ?_
  refine h_bne (M := mX8_weight) (tgt := 14) dX8_weight_9 (by decide) (fun c5 => ?_) (fun c5 => ?_)
  · have h := zti c5 h
    refine g_aload_n (M := mX8_weight) dX8_weight_14 0 rfl rfl ?_
    refine g_iload_n (M := mX8_weight) dX8_weight_15 1 rfl rfl ?_
    obtain ⟨t6, u7, h⟩ := zbi h
    refine g_callVr (M := mX8_weight) [.int (iI a1)] hX dX8_weight_16 vX8_laysProfile kM_X8_347 (wX8_laysProfile hX zC_self (by omega)  u7) qMo (zWs_at (by omega) (zC_o)) rfl ⟨(Nat.le_of_ble_eq_true rfl), (Nat.le_of_ble_eq_true rfl)⟩ ⟨(Nat.le_of_ble_eq_true rfl), (Nat.le_of_ble_eq_true rfl)⟩ (Nat.le_of_ble_eq_true rfl) ?_
    refine g_ws (M := mX8_weight) (congrArg (zWs A n) zC_over) ?_
    refine g_aload_n (M := mX8_weight) dX8_weight_19 0 rfl rfl ?_
    refine g_iload_n (M := mX8_weight) dX8_weight_20 1 rfl rfl ?_
    refine g_iload_n (M := mX8_weight) dX8_weight_21 2 rfl rfl ?_
    obtain ⟨t8, u9, h⟩ := zbi h
    refine g_callVr (M := mX8_weight) [.int (iI a1), .int (iI a2)] hX dX8_weight_22 vX8_isPlace kM_X8_229 (wX8_isPlace hX zC_self (by omega)  u9) qMo (zWs_at (by omega) (zC_o)) rfl ⟨(Nat.le_of_ble_eq_true rfl), (Nat.le_of_ble_eq_true rfl)⟩ ⟨(Nat.le_of_ble_eq_true rfl), (Nat.le_of_ble_eq_true rfl)⟩ (Nat.le_of_ble_eq_true rfl) ?_
    refine h_beq (M := mX8_weight) (tgt := 37) dX8_weight_25 (by decide) (fun c10 => ?_) (fun c10 => ?_)
    · have h := zfi (zbf c10) h
      refine h_iconst (M := mX8_weight) dX8_weight_37 ?_
      have e := (Option.some.inj h)
      subst e
      exact g_iret (M := mX8_weight) dX8_weight_38 rfl (Nat.le_of_ble_eq_true rfl) (Nat.le_of_ble_eq_true rfl) ⟨rfl, rfl⟩
    · have h := zti c10 h
      refine g_aload_n (M := mX8_weight) dX8_weight_28 0 rfl rfl ?_
      refine g_iload_n (M := mX8_weight) dX8_weight_29 1 rfl rfl ?_
      refine g_iload_n (M := mX8_weight) dX8_weight_30 2 rfl rfl ?_
      obtain ⟨t11, u12, h⟩ := zbi h
      refine g_callVr (M := mX8_weight) [.int (iI a1), .int (iI a2)] hX dX8_weight_31 vX8_weighs kM_X8_359 (wX8_weighs hX zC_self (by omega)  u12) qMo (zWs_at (by omega) (zC_o)) rfl ⟨(Nat.le_of_ble_eq_true rfl), (Nat.le_of_ble_eq_true rfl)⟩ ⟨(Nat.le_of_ble_eq_true rfl), (Nat.le_of_ble_eq_true rfl)⟩ (Nat.le_of_ble_eq_true rfl) ?_
      refine g_goto (M := mX8_weight) (tgt := 38) dX8_weight_34 (by decide) ?_
      have e := (Option.some.inj h)
      subst e
      exact g_iret (M := mX8_weight) dX8_weight_38 rfl (Nat.le_of_ble_eq_true rfl) (Nat.le_of_ble_eq_true rfl) ⟨rfl, rfl⟩
  · have h := zfi (zbf c5) h
    refine h_iconst (M := mX8_weight) dX8_weight_12 ?_
    have e := (Option.some.inj h)
    subst e
    exact g_iret (M := mX8_weight) dX8_weight_13 rfl (Nat.le_of_ble_eq_true rfl) (Nat.le_of_ble_eq_true rfl) ⟨rfl, rfl⟩
set_option maxHeartbeats 4000000 in
set_option maxRecDepth 100000 in
theorem wX8_whyNotTake {X : zX} (hX : zOK X) {A : Nat → Nat} {n : Nat} {S : Nat → va_E} {qMo : Nat} {VMo : CV} (hMo : isC X A shMo qMo VMo S) (bMo : qMo + 20 < n) {a1 : Int} {res : CV × Int} (h : fX8_whyNotTake VMo a1 = some res) : Con X yX8_whyNotTake mX8_whyNotTake 6 0 0 [.ref (A qMo), .int (iI a1)] (zWs A n S) (zRet (zWs A n (zC X A shMo qMo res.1 S)) (some (.int (iI res.2)))) := by
  refine con_of (lv := [(0, .ref (A qMo)), (1, .int (iI a1))]) (by decide) rfl (fun h => by cases h) rfl (Nat.le_of_ble_eq_true rfl) rfl ?_
  refine g_ws (M := mX8_whyNotTake) (congrArg (zWs A n) hMo.symm) ?_
  unfold fX8_whyNotTake at h
  refine g_aload_n (M := mX8_whyNotTake) dX8_whyNotTake_0 0 rfl rfl ?_
  refine g_aload_n (M := mX8_whyNotTake) dX8_whyNotTake_1 0 rfl rfl ?_
  refine g_iload_n (M := mX8_whyNotTake) dX8_whyNotTake_2 1 rfl rfl ?_
  obtain ⟨t1, u2, h⟩ := zbi h
  refine g_callVr (M := mX8_whyNotTake) [.int (iI a1)] hX dX8_whyNotTake_3 vX8_isOne kM_X8_268 (wX8_isOne hX zC_self (by omega)  u2) qMo (zWs_at (by omega) (zC_o)) rfl ⟨(Nat.le_of_ble_eq_true rfl), (Nat.le_of_ble_eq_true rfl)⟩ ⟨(Nat.le_of_ble_eq_true rfl), (Nat.le_of_ble_eq_true rfl)⟩ (Nat.le_of_ble_eq_true rfl) ?_
  obtain ⟨t3, u4, h⟩ := zbi h
  refine g_callVr (M := mX8_whyNotTake) [.int (iI (b2 t1))] hX dX8_whyNotTake_6 vX8_goes kM_X8_91 (wX8_goes hX zC_self (by omega)  u4) qMo (zWs_at (by omega) (zC_o)) rfl ⟨(Nat.le_of_ble_eq_true rfl), (Nat.le_of_ble_eq_true rfl)⟩ ⟨(Nat.le_of_ble_eq_true rfl), (Nat.le_of_ble_eq_true rfl)⟩ (Nat.le_of_ble_eq_true rfl) ?_
  refine g_ws (M := mX8_whyNotTake) (congrArg (zWs A n) zC_over) ?_
  refine h_beq (M := mX8_whyNotTake) (tgt := 20) dX8_whyNotTake_9 (by decide) (fun c5 => ?_) (fun c5 => ?_)
  · have h := zfi (zbf c5) h
    refine h_iconst (M := mX8_whyNotTake) dX8_whyNotTake_20 ?_
    have e := (Option.some.inj h)
    subst e
    exact g_iret (M := mX8_whyNotTake) dX8_whyNotTake_21 rfl (Nat.le_of_ble_eq_true rfl) (Nat.le_of_ble_eq_true rfl) ⟨rfl, rfl⟩
  · have h := zti c5 h
    refine g_aload_n (M := mX8_whyNotTake) dX8_whyNotTake_12 0 rfl rfl ?_
    refine g_iload_n (M := mX8_whyNotTake) dX8_whyNotTake_13 1 rfl rfl ?_
    obtain ⟨t6, u7, h⟩ := zbi h
    refine g_callVr (M := mX8_whyNotTake) [.int (iI a1)] hX dX8_whyNotTake_14 vX8_whyTake kM_X8_335 (wX8_whyTake hX zC_self (by omega)  u7) qMo (zWs_at (by omega) (zC_o)) rfl ⟨(Nat.le_of_ble_eq_true rfl), (Nat.le_of_ble_eq_true rfl)⟩ ⟨(Nat.le_of_ble_eq_true rfl), (Nat.le_of_ble_eq_true rfl)⟩ (Nat.le_of_ble_eq_true rfl) ?_
    refine g_ws (M := mX8_whyNotTake) (congrArg (zWs A n) zC_over) ?_
    refine g_goto (M := mX8_whyNotTake) (tgt := 21) dX8_whyNotTake_17 (by decide) ?_
    have e := (Option.some.inj h)
    subst e
    exact g_iret (M := mX8_whyNotTake) dX8_whyNotTake_21 rfl (Nat.le_of_ble_eq_true rfl) (Nat.le_of_ble_eq_true rfl) ⟨rfl, rfl⟩
set_option maxHeartbeats 4000000 in
set_option maxRecDepth 100000 in
theorem wX8_wordAt {X : zX} (hX : zOK X) {A : Nat → Nat} {n : Nat} {S : Nat → va_E} {qMo : Nat} {VMo : CV} (hMo : isC X A shMo qMo VMo S) (bMo : qMo + 20 < n) {a1 : Int} {a2 : Int} {res : CV × Int} (h : fX8_wordAt VMo a1 a2 = some res) : Con X yX8_wordAt mX8_wordAt 3 0 0 [.ref (A qMo), .int (iI a1), .int (iI a2)] (zWs A n S) (zRet (zWs A n (zC X A shMo qMo res.1 S)) (some (.int (iI res.2)))) := by
  refine con_of (lv := [(0, .ref (A qMo)), (1, .int (iI a1)), (2, .int (iI a2))]) (by decide) rfl (fun h => by cases h) rfl (Nat.le_of_ble_eq_true rfl) rfl ?_
  refine g_ws (M := mX8_wordAt) (congrArg (zWs A n) hMo.symm) ?_
  unfold fX8_wordAt at h
  refine g_aload_n (M := mX8_wordAt) dX8_wordAt_0 0 rfl rfl ?_
  refine g_aload_n (M := mX8_wordAt) dX8_wordAt_1 0 rfl rfl ?_
  refine g_iload_n (M := mX8_wordAt) dX8_wordAt_2 1 rfl rfl ?_
  obtain ⟨t1, u2, h⟩ := zbi h
  refine g_callVr (M := mX8_wordAt) [.int (iI a1)] hX dX8_wordAt_3 vX8_isRow kM_X8_256 (wX8_isRow hX zC_self (by omega)  u2) qMo (zWs_at (by omega) (zC_o)) rfl ⟨(Nat.le_of_ble_eq_true rfl), (Nat.le_of_ble_eq_true rfl)⟩ ⟨(Nat.le_of_ble_eq_true rfl), (Nat.le_of_ble_eq_true rfl)⟩ (Nat.le_of_ble_eq_true rfl) ?_
  obtain ⟨t3, u4, h⟩ := zbi h
  refine g_callVr (M := mX8_wordAt) [.int (iI (b2 t1))] hX dX8_wordAt_6 vX8_goes kM_X8_91 (wX8_goes hX zC_self (by omega)  u4) qMo (zWs_at (by omega) (zC_o)) rfl ⟨(Nat.le_of_ble_eq_true rfl), (Nat.le_of_ble_eq_true rfl)⟩ ⟨(Nat.le_of_ble_eq_true rfl), (Nat.le_of_ble_eq_true rfl)⟩ (Nat.le_of_ble_eq_true rfl) ?_
  refine g_ws (M := mX8_wordAt) (congrArg (zWs A n) zC_over) ?_
  refine h_bne (M := mX8_wordAt) (tgt := 14) dX8_wordAt_9 (by decide) (fun c5 => ?_) (fun c5 => ?_)
  · have h := zti c5 h
    refine g_aload_n (M := mX8_wordAt) dX8_wordAt_14 0 rfl rfl ?_
    refine g_iload_n (M := mX8_wordAt) dX8_wordAt_15 1 rfl rfl ?_
    refine g_iload_n (M := mX8_wordAt) dX8_wordAt_16 2 rfl rfl ?_
    obtain ⟨t6, u7, h⟩ := zbi h
    refine g_callVr (M := mX8_wordAt) [.int (iI a1), .int (iI a2)] hX dX8_wordAt_17 vX8_isPlace kM_X8_229 (wX8_isPlace hX zC_self (by omega)  u7) qMo (zWs_at (by omega) (zC_o)) rfl ⟨(Nat.le_of_ble_eq_true rfl), (Nat.le_of_ble_eq_true rfl)⟩ ⟨(Nat.le_of_ble_eq_true rfl), (Nat.le_of_ble_eq_true rfl)⟩ (Nat.le_of_ble_eq_true rfl) ?_
    refine h_beq (M := mX8_wordAt) (tgt := 32) dX8_wordAt_20 (by decide) (fun c8 => ?_) (fun c8 => ?_)
    · have h := zfi (zbf c8) h
      refine h_iconst (M := mX8_wordAt) dX8_wordAt_32 ?_
      have e := (Option.some.inj h)
      subst e
      exact g_iret (M := mX8_wordAt) dX8_wordAt_33 rfl (Nat.le_of_ble_eq_true rfl) (Nat.le_of_ble_eq_true rfl) ⟨rfl, rfl⟩
    · have h := zti c8 h
      refine g_aload_n (M := mX8_wordAt) dX8_wordAt_23 0 rfl rfl ?_
      refine g_iload_n (M := mX8_wordAt) dX8_wordAt_24 1 rfl rfl ?_
      refine g_iload_n (M := mX8_wordAt) dX8_wordAt_25 2 rfl rfl ?_
      obtain ⟨t9, u10, h⟩ := zbi h
      refine g_callVr (M := mX8_wordAt) [.int (iI a1), .int (iI a2)] hX dX8_wordAt_26 vX8_wordThere kM_X8_265 (wX8_wordThere hX zC_self (by omega)  u10) qMo (zWs_at (by omega) (zC_o)) rfl ⟨(Nat.le_of_ble_eq_true rfl), (Nat.le_of_ble_eq_true rfl)⟩ ⟨(Nat.le_of_ble_eq_true rfl), (Nat.le_of_ble_eq_true rfl)⟩ (Nat.le_of_ble_eq_true rfl) ?_
      refine g_goto (M := mX8_wordAt) (tgt := 33) dX8_wordAt_29 (by decide) ?_
      have e := (Option.some.inj h)
      subst e
      exact g_iret (M := mX8_wordAt) dX8_wordAt_33 rfl (Nat.le_of_ble_eq_true rfl) (Nat.le_of_ble_eq_true rfl) ⟨rfl, rfl⟩
  · have h := zfi (zbf c5) h
    refine h_iconst (M := mX8_wordAt) dX8_wordAt_12 ?_
    have e := (Option.some.inj h)
    subst e
    exact g_iret (M := mX8_wordAt) dX8_wordAt_13 rfl (Nat.le_of_ble_eq_true rfl) (Nat.le_of_ble_eq_true rfl) ⟨rfl, rfl⟩
