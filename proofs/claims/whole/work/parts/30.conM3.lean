set_option maxHeartbeats 4000000 in
set_option maxRecDepth 100000 in
theorem wX8_choose {X : zX} (hX : zOK X) {A : Nat → Nat} {n : Nat} {S : Nat → va_E} {qMo : Nat} {VMo : CV} (hMo : isC X A shMo qMo VMo S) (bMo : qMo + 20 < n) {a1 : Int} {a2 : Int} {res : CV × Int} (h : fX8_choose VMo a1 a2 = some res) : Con X yX8_choose mX8_choose 4 0 0 [.ref (A qMo), .int (iI a1), .int (iI a2)] (zWs A n S) (zRet (zWs A n (zC X A shMo qMo res.1 S)) (some (.int (iI res.2)))) := by
  refine con_of (lv := [(0, .ref (A qMo)), (1, .int (iI a1)), (2, .int (iI a2))]) (by decide) rfl (fun h => by cases h) rfl (Nat.le_of_ble_eq_true rfl) rfl ?_
  refine g_ws (M := mX8_choose) (congrArg (zWs A n) hMo.symm) ?_
  unfold fX8_choose at h
  refine g_aload_n (M := mX8_choose) dX8_choose_0 0 rfl rfl ?_
  refine g_iload_n (M := mX8_choose) dX8_choose_1 1 rfl rfl ?_
  obtain ⟨t1, u2, h⟩ := zbi h
  refine g_callVr (M := mX8_choose) [.int (iI a1)] hX dX8_choose_2 vX8_isRow kM_X8_256 (wX8_isRow hX zC_self (by omega)  u2) qMo (zWs_at (by omega) (zC_o)) rfl ⟨(Nat.le_of_ble_eq_true rfl), (Nat.le_of_ble_eq_true rfl)⟩ ⟨(Nat.le_of_ble_eq_true rfl), (Nat.le_of_ble_eq_true rfl)⟩ (Nat.le_of_ble_eq_true rfl) ?_
  refine g_istore_n (M := mX8_choose) (lv' := [(0, .ref (A qMo)), (1, .int (iI a1)), (2, .int (iI a2)), (3, .int (iI (b2 t1)))]) dX8_choose_5 rfl (by decide) rfl ?_
  refine g_aload_n (M := mX8_choose) dX8_choose_6 0 rfl rfl ?_
  refine g_iload_n (M := mX8_choose) dX8_choose_7 3 rfl rfl ?_
  refine g_iload_n (M := mX8_choose) dX8_choose_8 3 rfl rfl ?_
  refine zJn_J (J := fun x12 => G X mX8_choose (zPm X 4 0 0 (zRet (zWs A n (zC X A shMo qMo res.1 S)) (some (.int (iI res.2))))) 0 0 26 [(0, .ref (A qMo)), (1, .int (iI a1)), (2, .int (iI a2))] [.int (iI x12), .int (iI (b2 t1)), .ref (A qMo)] (zWs A n (zC X A shMo qMo VMo S))) h (fun x12 h => ?_) (fun j12 h => ?_)
  · obtain ⟨t13, u14, h⟩ := zbi h
    refine g_callVr (M := mX8_choose) [.int (iI (b2 t1)), .int (iI x12)] hX dX8_choose_26 vX8_goesBoth kM_X8_261 (wX8_goesBoth hX zC_self (by omega)  u14) qMo (zWs_at (by omega) (zC_o)) rfl ⟨(Nat.le_of_ble_eq_true rfl), (Nat.le_of_ble_eq_true rfl)⟩ ⟨(Nat.le_of_ble_eq_true rfl), (Nat.le_of_ble_eq_true rfl)⟩ (Nat.le_of_ble_eq_true rfl) ?_
    refine g_ws (M := mX8_choose) (congrArg (zWs A n) zC_over) ?_
    refine h_bne (M := mX8_choose) (tgt := 34) dX8_choose_29 (by decide) (fun c15 => ?_) (fun c15 => ?_)
    · have h := zti c15 h
      refine g_aload_n (M := mX8_choose) dX8_choose_34 0 rfl rfl ?_
      obtain ⟨t16, u17, h⟩ := zbi h
      refine g_callVr (M := mX8_choose) [] hX dX8_choose_35 vX8_laysAside kM_X8_217 (wX8_laysAside hX zC_self (by omega)  u17) qMo (zWs_at (by omega) (zC_o)) rfl ⟨(Nat.le_of_ble_eq_true rfl), (Nat.le_of_ble_eq_true rfl)⟩ ⟨(Nat.le_of_ble_eq_true rfl), (Nat.le_of_ble_eq_true rfl)⟩ (Nat.le_of_ble_eq_true rfl) ?_
      refine g_ws (M := mX8_choose) (congrArg (zWs A n) zC_over) ?_
      refine g_aload_n (M := mX8_choose) dX8_choose_38 0 rfl rfl ?_
      refine g_aload_n (M := mX8_choose) dX8_choose_39 0 rfl rfl ?_
      refine g_iload_n (M := mX8_choose) dX8_choose_40 1 rfl rfl ?_
      refine g_iload_n (M := mX8_choose) dX8_choose_41 2 rfl rfl ?_
      obtain ⟨t18, u19, h⟩ := zbi h
      refine g_callVr (M := mX8_choose) [.int (iI a1), .int (iI a2)] hX dX8_choose_42 vX8_chooses kM_X8_379 (wX8_chooses hX zC_self (by omega)  u19) qMo (zWs_at (by omega) (zC_o)) rfl ⟨(Nat.le_of_ble_eq_true rfl), (Nat.le_of_ble_eq_true rfl)⟩ ⟨(Nat.le_of_ble_eq_true rfl), (Nat.le_of_ble_eq_true rfl)⟩ (Nat.le_of_ble_eq_true rfl) ?_
      refine g_ws (M := mX8_choose) (congrArg (zWs A n) zC_over) ?_
      obtain ⟨t20, u21, h⟩ := zbi h
      refine g_callVr (M := mX8_choose) [.int (iI t18.2)] hX dX8_choose_45 vX8_kept kM_X8_382 (wX8_kept hX zC_self (by omega)  u21) qMo (zWs_at (by omega) (zC_o)) rfl ⟨(Nat.le_of_ble_eq_true rfl), (Nat.le_of_ble_eq_true rfl)⟩ ⟨(Nat.le_of_ble_eq_true rfl), (Nat.le_of_ble_eq_true rfl)⟩ (Nat.le_of_ble_eq_true rfl) ?_
      refine g_ws (M := mX8_choose) (congrArg (zWs A n) zC_over) ?_
      have e := (Option.some.inj h)
      subst e
      exact g_iret (M := mX8_choose) dX8_choose_48 rfl (Nat.le_of_ble_eq_true rfl) (Nat.le_of_ble_eq_true rfl) ⟨rfl, rfl⟩
    · have h := zfi (zbf c15) h
      refine h_iconst (M := mX8_choose) dX8_choose_32 ?_
      have e := (Option.some.inj h)
      subst e
      exact g_iret (M := mX8_choose) dX8_choose_33 rfl (Nat.le_of_ble_eq_true rfl) (Nat.le_of_ble_eq_true rfl) ⟨rfl, rfl⟩
  · refine zJn_J (J := fun x26 => G X mX8_choose (zPm X 4 0 0 (zRet (zWs A n (zC X A shMo qMo res.1 S)) (some (.int (iI res.2))))) 0 0 25 [(0, .ref (A qMo)), (1, .int (iI a1)), (2, .int (iI a2))] [.int (iI (b2 t1)), .ref (A qMo)] (zWs A n (zC X A shMo qMo VMo S))) h (fun x26 h => ?_) (fun j26 h => ?_)
    · refine h_iconst (M := mX8_choose) dX8_choose_25 ?_
      exact j12 0 h
    · refine h_beq (M := mX8_choose) (tgt := 25) dX8_choose_9 (by decide) (fun c27 => ?_) (fun c27 => ?_)
      · have h := zfi (zbf c27) h
        refine g_lv (M := mX8_choose) [0, 1, 2] rfl ?_
        exact j26 () h
      · have h := zti c27 h
        refine g_aload_n (M := mX8_choose) dX8_choose_12 0 rfl rfl ?_
        refine g_iload_n (M := mX8_choose) dX8_choose_13 1 rfl rfl ?_
        refine g_iload_n (M := mX8_choose) dX8_choose_14 2 rfl rfl ?_
        obtain ⟨t28, u29, h⟩ := zbi h
        refine g_callVr (M := mX8_choose) [.int (iI a1), .int (iI a2)] hX dX8_choose_15 vX8_isPlace kM_X8_229 (wX8_isPlace hX zC_self (by omega)  u29) qMo (zWs_at (by omega) (zC_o)) rfl ⟨(Nat.le_of_ble_eq_true rfl), (Nat.le_of_ble_eq_true rfl)⟩ ⟨(Nat.le_of_ble_eq_true rfl), (Nat.le_of_ble_eq_true rfl)⟩ (Nat.le_of_ble_eq_true rfl) ?_
        refine h_beq (M := mX8_choose) (tgt := 25) dX8_choose_18 (by decide) (fun c30 => ?_) (fun c30 => ?_)
        · have h := zfi (zbf c30) h
          refine g_lv (M := mX8_choose) [0, 1, 2] rfl ?_
          exact j26 () h
        · have h := zti c30 h
          refine h_iconst (M := mX8_choose) dX8_choose_21 ?_
          refine g_goto (M := mX8_choose) (tgt := 26) dX8_choose_22 (by decide) ?_
          refine g_lv (M := mX8_choose) [0, 1, 2] rfl ?_
          exact j12 1 h
set_option maxHeartbeats 4000000 in
set_option maxRecDepth 100000 in
theorem wX8_clearsRow {X : zX} (hX : zOK X) {A : Nat → Nat} {n : Nat} {S : Nat → va_E} {qMo : Nat} {VMo : CV} (hMo : isC X A shMo qMo VMo S) (bMo : qMo + 20 < n) {a1 : Int} {res : CV × Int} (h : fX8_clearsRow VMo a1 = some res) : Con X yX8_clearsRow mX8_clearsRow 1 0 0 [.ref (A qMo), .int (iI a1)] (zWs A n S) (zRet (zWs A n (zC X A shMo qMo res.1 S)) (some (.int (iI res.2)))) := by
  refine con_of (lv := [(0, .ref (A qMo)), (1, .int (iI a1))]) (by decide) rfl (fun h => by cases h) rfl (Nat.le_of_ble_eq_true rfl) rfl ?_
  refine g_ws (M := mX8_clearsRow) (congrArg (zWs A n) hMo.symm) ?_
  unfold fX8_clearsRow at h
  refine g_aload_n (M := mX8_clearsRow) dX8_clearsRow_0 0 rfl rfl ?_
  refine g_iload_n (M := mX8_clearsRow) dX8_clearsRow_1 1 rfl rfl ?_
  refine h_iconst (M := mX8_clearsRow) dX8_clearsRow_2 ?_
  obtain ⟨t1, u2, h⟩ := zbi h
  refine g_callVr (M := mX8_clearsRow) [.int (iI a1), .int (iI 1)] hX dX8_clearsRow_3 vX8_of kM_X8_166 (wX8_of hX zC_self (by omega)  u2) qMo (zWs_at (by omega) (zC_o)) rfl ⟨(Nat.le_of_ble_eq_true rfl), (Nat.le_of_ble_eq_true rfl)⟩ ⟨(Nat.le_of_ble_eq_true rfl), (Nat.le_of_ble_eq_true rfl)⟩ (Nat.le_of_ble_eq_true rfl) ?_
  refine g_istore_n (M := mX8_clearsRow) (lv' := [(0, .ref (A qMo)), (1, .int (iI a1)), (2, .int (iI t1))]) dX8_clearsRow_6 rfl (by decide) rfl ?_
  refine g_aload_n (M := mX8_clearsRow) dX8_clearsRow_7 0 rfl rfl ?_
  refine g_iload_n (M := mX8_clearsRow) dX8_clearsRow_8 1 rfl rfl ?_
  refine h_iconst (M := mX8_clearsRow) dX8_clearsRow_9 ?_
  refine h_iconst (M := mX8_clearsRow) dX8_clearsRow_10 ?_
  obtain ⟨t3, u4, h⟩ := zbi h
  refine g_callVr (M := mX8_clearsRow) [.int (iI a1), .int (iI 1), .int (iI (-1))] hX dX8_clearsRow_11 vX8_lays kM_X8_179 (wX8_lays hX zC_self (by omega)  u4) qMo (zWs_at (by omega) (zC_o)) rfl ⟨(Nat.le_of_ble_eq_true rfl), (Nat.le_of_ble_eq_true rfl)⟩ ⟨(Nat.le_of_ble_eq_true rfl), (Nat.le_of_ble_eq_true rfl)⟩ (Nat.le_of_ble_eq_true rfl) ?_
  refine g_ws (M := mX8_clearsRow) (congrArg (zWs A n) zC_over) ?_
  refine g_iload_n (M := mX8_clearsRow) dX8_clearsRow_14 2 rfl rfl ?_
  have e := (Option.some.inj h)
  subst e
  exact g_iret (M := mX8_clearsRow) dX8_clearsRow_15 rfl (Nat.le_of_ble_eq_true rfl) (Nat.le_of_ble_eq_true rfl) ⟨rfl, rfl⟩
set_option maxHeartbeats 4000000 in
set_option maxRecDepth 100000 in
theorem wX8_clear {X : zX} (hX : zOK X) {A : Nat → Nat} {n : Nat} {S : Nat → va_E} {qMo : Nat} {VMo : CV} (hMo : isC X A shMo qMo VMo S) (bMo : qMo + 20 < n) {a1 : Int} {res : CV × Int} (h : fX8_clear VMo a1 = some res) : Con X yX8_clear mX8_clear 2 0 0 [.ref (A qMo), .int (iI a1)] (zWs A n S) (zRet (zWs A n (zC X A shMo qMo res.1 S)) (some (.int (iI res.2)))) := by
  refine con_of (lv := [(0, .ref (A qMo)), (1, .int (iI a1))]) (by decide) rfl (fun h => by cases h) rfl (Nat.le_of_ble_eq_true rfl) rfl ?_
  refine g_ws (M := mX8_clear) (congrArg (zWs A n) hMo.symm) ?_
  unfold fX8_clear at h
  refine g_aload_n (M := mX8_clear) dX8_clear_0 0 rfl rfl ?_
  refine g_iload_n (M := mX8_clear) dX8_clear_1 1 rfl rfl ?_
  obtain ⟨t1, u2, h⟩ := zbi h
  refine g_callVr (M := mX8_clear) [.int (iI a1)] hX dX8_clear_2 vX8_isRow kM_X8_256 (wX8_isRow hX zC_self (by omega)  u2) qMo (zWs_at (by omega) (zC_o)) rfl ⟨(Nat.le_of_ble_eq_true rfl), (Nat.le_of_ble_eq_true rfl)⟩ ⟨(Nat.le_of_ble_eq_true rfl), (Nat.le_of_ble_eq_true rfl)⟩ (Nat.le_of_ble_eq_true rfl) ?_
  refine g_istore_n (M := mX8_clear) (lv' := [(0, .ref (A qMo)), (1, .int (iI a1)), (2, .int (iI (b2 t1)))]) dX8_clear_5 rfl (by decide) rfl ?_
  refine g_aload_n (M := mX8_clear) dX8_clear_6 0 rfl rfl ?_
  refine g_iload_n (M := mX8_clear) dX8_clear_7 2 rfl rfl ?_
  refine g_iload_n (M := mX8_clear) dX8_clear_8 2 rfl rfl ?_
  refine zJn_J (J := fun x14 => G X mX8_clear (zPm X 2 0 0 (zRet (zWs A n (zC X A shMo qMo res.1 S)) (some (.int (iI res.2))))) 0 0 27 [(0, .ref (A qMo)), (1, .int (iI a1))] [.int (iI x14), .int (iI (b2 t1)), .ref (A qMo)] (zWs A n (zC X A shMo qMo VMo S))) h (fun x14 h => ?_) (fun j14 h => ?_)
  · obtain ⟨t15, u16, h⟩ := zbi h
    refine g_callVr (M := mX8_clear) [.int (iI (b2 t1)), .int (iI x14)] hX dX8_clear_27 vX8_goesBoth kM_X8_261 (wX8_goesBoth hX zC_self (by omega)  u16) qMo (zWs_at (by omega) (zC_o)) rfl ⟨(Nat.le_of_ble_eq_true rfl), (Nat.le_of_ble_eq_true rfl)⟩ ⟨(Nat.le_of_ble_eq_true rfl), (Nat.le_of_ble_eq_true rfl)⟩ (Nat.le_of_ble_eq_true rfl) ?_
    refine g_ws (M := mX8_clear) (congrArg (zWs A n) zC_over) ?_
    refine h_bne (M := mX8_clear) (tgt := 35) dX8_clear_30 (by decide) (fun c17 => ?_) (fun c17 => ?_)
    · have h := zti c17 h
      refine g_aload_n (M := mX8_clear) dX8_clear_35 0 rfl rfl ?_
      obtain ⟨t18, u19, h⟩ := zbi h
      refine g_callVr (M := mX8_clear) [] hX dX8_clear_36 vX8_laysAside kM_X8_217 (wX8_laysAside hX zC_self (by omega)  u19) qMo (zWs_at (by omega) (zC_o)) rfl ⟨(Nat.le_of_ble_eq_true rfl), (Nat.le_of_ble_eq_true rfl)⟩ ⟨(Nat.le_of_ble_eq_true rfl), (Nat.le_of_ble_eq_true rfl)⟩ (Nat.le_of_ble_eq_true rfl) ?_
      refine g_ws (M := mX8_clear) (congrArg (zWs A n) zC_over) ?_
      refine g_aload_n (M := mX8_clear) dX8_clear_39 0 rfl rfl ?_
      refine g_aload_n (M := mX8_clear) dX8_clear_40 0 rfl rfl ?_
      refine g_iload_n (M := mX8_clear) dX8_clear_41 1 rfl rfl ?_
      obtain ⟨t20, u21, h⟩ := zbi h
      refine g_callVr (M := mX8_clear) [.int (iI a1)] hX dX8_clear_42 vX8_clearsRow kM_X8_384 (wX8_clearsRow hX zC_self (by omega)  u21) qMo (zWs_at (by omega) (zC_o)) rfl ⟨(Nat.le_of_ble_eq_true rfl), (Nat.le_of_ble_eq_true rfl)⟩ ⟨(Nat.le_of_ble_eq_true rfl), (Nat.le_of_ble_eq_true rfl)⟩ (Nat.le_of_ble_eq_true rfl) ?_
      refine g_ws (M := mX8_clear) (congrArg (zWs A n) zC_over) ?_
      obtain ⟨t22, u23, h⟩ := zbi h
      refine g_callVr (M := mX8_clear) [.int (iI t20.2)] hX dX8_clear_45 vX8_kept kM_X8_382 (wX8_kept hX zC_self (by omega)  u23) qMo (zWs_at (by omega) (zC_o)) rfl ⟨(Nat.le_of_ble_eq_true rfl), (Nat.le_of_ble_eq_true rfl)⟩ ⟨(Nat.le_of_ble_eq_true rfl), (Nat.le_of_ble_eq_true rfl)⟩ (Nat.le_of_ble_eq_true rfl) ?_
      refine g_ws (M := mX8_clear) (congrArg (zWs A n) zC_over) ?_
      have e := (Option.some.inj h)
      subst e
      exact g_iret (M := mX8_clear) dX8_clear_48 rfl (Nat.le_of_ble_eq_true rfl) (Nat.le_of_ble_eq_true rfl) ⟨rfl, rfl⟩
    · have h := zfi (zbf c17) h
      refine h_iconst (M := mX8_clear) dX8_clear_33 ?_
      have e := (Option.some.inj h)
      subst e
      exact g_iret (M := mX8_clear) dX8_clear_34 rfl (Nat.le_of_ble_eq_true rfl) (Nat.le_of_ble_eq_true rfl) ⟨rfl, rfl⟩
  · refine zJn_J (J := fun x29 => G X mX8_clear (zPm X 2 0 0 (zRet (zWs A n (zC X A shMo qMo res.1 S)) (some (.int (iI res.2))))) 0 0 26 [(0, .ref (A qMo)), (1, .int (iI a1))] [.int (iI (b2 t1)), .ref (A qMo)] (zWs A n (zC X A shMo qMo VMo S))) h (fun x29 h => ?_) (fun j29 h => ?_)
    · refine h_iconst (M := mX8_clear) dX8_clear_26 ?_
      exact j14 0 h
    · refine h_beq (M := mX8_clear) (tgt := 26) dX8_clear_9 (by decide) (fun c30 => ?_) (fun c30 => ?_)
      · have h := zfi (zbf c30) h
        refine g_lv (M := mX8_clear) [0, 1] rfl ?_
        exact j29 () h
      · have h := zti c30 h
        refine g_aload_n (M := mX8_clear) dX8_clear_12 0 rfl rfl ?_
        refine g_iload_n (M := mX8_clear) dX8_clear_13 1 rfl rfl ?_
        refine h_iconst (M := mX8_clear) dX8_clear_14 ?_
        obtain ⟨t31, u32, h⟩ := zbi h
        refine g_callVr (M := mX8_clear) [.int (iI a1), .int (iI 1)] hX dX8_clear_15 vX8_of kM_X8_166 (wX8_of hX zC_self (by omega)  u32) qMo (zWs_at (by omega) (zC_o)) rfl ⟨(Nat.le_of_ble_eq_true rfl), (Nat.le_of_ble_eq_true rfl)⟩ ⟨(Nat.le_of_ble_eq_true rfl), (Nat.le_of_ble_eq_true rfl)⟩ (Nat.le_of_ble_eq_true rfl) ?_
        refine h_iconst (M := mX8_clear) dX8_clear_18 ?_
        obtain ⟨g34, h⟩ := zgi h
        refine h_icmp_eq (M := mX8_clear) (tgt := 26) dX8_clear_19 (by decide) g34 (by decide) (fun c33 => ?_) (fun c33 => ?_)
        · have h := zti c33 h
          refine g_lv (M := mX8_clear) [0, 1] rfl ?_
          exact j29 () h
        · have h := zfi c33 h
          refine h_iconst (M := mX8_clear) dX8_clear_22 ?_
          refine g_goto (M := mX8_clear) (tgt := 27) dX8_clear_23 (by decide) ?_
          refine g_lv (M := mX8_clear) [0, 1] rfl ?_
          exact j14 1 h
set_option maxHeartbeats 4000000 in
set_option maxRecDepth 100000 in
theorem wX8_clears {X : zX} (hX : zOK X) {A : Nat → Nat} {n : Nat} {S : Nat → va_E} {qMo : Nat} {VMo : CV} (hMo : isC X A shMo qMo VMo S) (bMo : qMo + 20 < n) {res : CV} (h : fX8_clears VMo = some res) : Con X yX8_clears mX8_clears 0 0 0 [.ref (A qMo)] (zWs A n S) (zRet (zWs A n (zC X A shMo qMo res S)) none) := by
  refine con_of (lv := [(0, .ref (A qMo))]) (by decide) rfl (fun h => by cases h) rfl (Nat.le_of_ble_eq_true rfl) rfl ?_
  refine g_ws (M := mX8_clears) (congrArg (zWs A n) hMo.symm) ?_
  unfold fX8_clears at h
  refine h_iconst (M := mX8_clears) dX8_clears_0 ?_
  refine g_istore_n (M := mX8_clears) (lv' := [(0, .ref (A qMo)), (1, .int (iI 0))]) dX8_clears_1 rfl (by decide) rfl ?_
  obtain ⟨x1, l1, h⟩ := zbi h
  have r1 : ∀ y1, y1 = x1 → G X mX8_clears (zPm X 0 0 0 (zRet (zWs A n (zC X A shMo qMo res S)) none)) 0 0 22 [(0, .ref (A qMo))] [] (zWs A n (zC X A shMo qMo y1.2 S)) := by
    intro y1 ey
    rw [← ey] at h
    refine g_aload_n (M := mX8_clears) dX8_clears_22 0 rfl rfl ?_
    refine k_get (M := mX8_clears) (v := .ref (A (qMo + 2))) dX8_clears_23 kF_X8_20.r qMo (by omega) (zC_o) rfl ?_
    refine h_iconst (M := mX8_clears) dX8_clears_26 ?_
    refine h_iconst (M := mX8_clears) dX8_clears_27 ?_
    refine c_iast (M := mX8_clears) (len := 351) (d := (0, 351)) dX8_clears_28 1 rfl rfl (by omega) (Nat.le_of_ble_eq_true rfl) (by decide) (by decide) ?_
    refine g_aload_n (M := mX8_clears) dX8_clears_29 0 rfl rfl ?_
    refine k_get (M := mX8_clears) (v := .ref (A (qMo + 2))) dX8_clears_30 kF_X8_20.r qMo (by omega) (zC_o) rfl ?_
    refine h_iconst (M := mX8_clears) dX8_clears_33 ?_
    refine h_iconst (M := mX8_clears) dX8_clears_34 ?_
    refine c_iast (M := mX8_clears) (len := 351) (d := (0, 351)) dX8_clears_35 1 rfl rfl (by omega) (Nat.le_of_ble_eq_true rfl) (by decide) (by decide) ?_
    refine g_aload_n (M := mX8_clears) dX8_clears_36 0 rfl rfl ?_
    refine k_get (M := mX8_clears) (v := .ref (A (qMo + 2))) dX8_clears_37 kF_X8_20.r qMo (by omega) (zC_o) rfl ?_
    refine h_iconst (M := mX8_clears) dX8_clears_40 ?_
    refine h_iconst (M := mX8_clears) dX8_clears_41 ?_
    refine c_iast (M := mX8_clears) (len := 351) (d := (0, 351)) dX8_clears_42 1 rfl rfl (by omega) (Nat.le_of_ble_eq_true rfl) (by decide) (by decide) ?_
    have e := (Option.some.inj h)
    subst e
    exact g_vret (M := mX8_clears) dX8_clears_43 rfl (Nat.le_of_ble_eq_true rfl) (Nat.le_of_ble_eq_true rfl) ⟨rfl, rfl⟩
  refine zLp_J (J := fun s1 => G X mX8_clears (zPm X 0 0 0 (zRet (zWs A n (zC X A shMo qMo res S)) none)) 0 0 2 [(0, .ref (A qMo)), (1, .int (iI s1.1))] [] (zWs A n (zC X A shMo qMo s1.2 S))) (fun s1 w1 h1 b1 e1 => ?_) _ _ l1
  refine g_iload_n (M := mX8_clears) dX8_clears_2 1 rfl rfl ?_
  refine h_sipush (M := mX8_clears) dX8_clears_3 rfl ?_
  obtain ⟨g6, h1⟩ := zgi h1
  refine h_icmp_ge (M := mX8_clears) (tgt := 22) dX8_clears_6 (by decide) g6 (by decide) (fun c5 => ?_) (fun c5 => ?_)
  · have h1 := zti c5 h1
    refine g_lv (M := mX8_clears) [0] rfl ?_
    exact r1 _ (e1 _ (Option.some.inj h1).symm)
  · have h1 := zfi (Int.not_le.mpr c5) h1
    refine g_aload_n (M := mX8_clears) dX8_clears_9 0 rfl rfl ?_
    refine k_get (M := mX8_clears) (v := .ref (A (qMo + 2))) dX8_clears_10 kF_X8_20.r qMo (by omega) (zC_o) rfl ?_
    refine g_iload_n (M := mX8_clears) dX8_clears_13 1 rfl rfl ?_
    refine h_iconst (M := mX8_clears) dX8_clears_14 ?_
    obtain ⟨g7, h1⟩ := zgi h1
    refine c_iast (M := mX8_clears) (len := 351) (d := (0, 351)) dX8_clears_15 1 rfl rfl (by omega) (Nat.le_of_ble_eq_true rfl) g7.1 g7.2 ?_
    refine h_iinc (M := mX8_clears) (j := 1) (lv' := [(0, .ref (A qMo)), (1, .int (iI (s1.1 + 1)))]) dX8_clears_16 rfl (Nat.le_of_ble_eq_true rfl) rfl ?_
    refine g_goto (M := mX8_clears) (tgt := 2) dX8_clears_19 (by decide) ?_
    exact b1 _ (Option.some.inj h1).symm
set_option maxHeartbeats 4000000 in
set_option maxRecDepth 100000 in
theorem wX8_isSign {X : zX} (hX : zOK X) {A : Nat → Nat} {n : Nat} {S : Nat → va_E} {qMo : Nat} {VMo : CV} (hMo : isC X A shMo qMo VMo S) (bMo : qMo + 20 < n) {a1 : Int} {res : Bool} (h : fX8_isSign VMo a1 = some res) : Con X yX8_isSign mX8_isSign 0 0 0 [.ref (A qMo), .int (iI a1)] (zWs A n S) (zRet (zWs A n S) (some (.int (iI (b2 res))))) := by
  refine con_of (lv := [(0, .ref (A qMo)), (1, .int (iI a1))]) (by decide) rfl (fun h => by cases h) rfl (Nat.le_of_ble_eq_true rfl) rfl ?_
  unfold fX8_isSign at h
  refine g_aload_n (M := mX8_isSign) dX8_isSign_0 0 rfl rfl ?_
  refine k_get (M := mX8_isSign) (v := .int (iI (VMo.1 9))) dX8_isSign_1 kF_X8_136.r qMo (by omega) (hMo.o) rfl ?_
  obtain ⟨g2, h⟩ := zgi h
  refine h_if_ne (M := mX8_isSign) (tgt := 27) dX8_isSign_4 (by decide) g2 (fun c1 => ?_) (fun c1 => ?_)
  · have h := zfi c1 h
    refine h_iconst (M := mX8_isSign) dX8_isSign_27 ?_
    have e := (Option.some.inj h)
    subst e
    exact g_zret (M := mX8_isSign) .boolean dX8_isSign_28 rfl rfl (Nat.le_of_ble_eq_true rfl) (Nat.le_of_ble_eq_true rfl) ⟨rfl, rfl⟩
  · have h := zti c1 h
    refine g_aload_n (M := mX8_isSign) dX8_isSign_7 0 rfl rfl ?_
    refine k_get (M := mX8_isSign) (v := .int (iI (VMo.1 6))) dX8_isSign_8 kF_X8_126.r qMo (by omega) (hMo.o) rfl ?_
    refine h_iconst (M := mX8_isSign) dX8_isSign_11 ?_
    obtain ⟨g4, h⟩ := zgi h
    refine h_icmp_ne (M := mX8_isSign) (tgt := 27) dX8_isSign_12 (by decide) g4 (by decide) (fun c3 => ?_) (fun c3 => ?_)
    · have h := zfi c3 h
      refine h_iconst (M := mX8_isSign) dX8_isSign_27 ?_
      have e := (Option.some.inj h)
      subst e
      exact g_zret (M := mX8_isSign) .boolean dX8_isSign_28 rfl rfl (Nat.le_of_ble_eq_true rfl) (Nat.le_of_ble_eq_true rfl) ⟨rfl, rfl⟩
    · have h := zti c3 h
      refine g_aload_n (M := mX8_isSign) dX8_isSign_15 0 rfl rfl ?_
      refine k_get (M := mX8_isSign) (v := .int (iI (VMo.1 7))) dX8_isSign_16 kF_X8_120.r qMo (by omega) (hMo.o) rfl ?_
      refine g_iload_n (M := mX8_isSign) dX8_isSign_19 1 rfl rfl ?_
      obtain ⟨g6, h⟩ := zgi h
      refine h_icmp_ne (M := mX8_isSign) (tgt := 27) dX8_isSign_20 (by decide) g6.1 g6.2 (fun c5 => ?_) (fun c5 => ?_)
      · have h := zfi c5 h
        refine h_iconst (M := mX8_isSign) dX8_isSign_27 ?_
        have e := (Option.some.inj h)
        subst e
        exact g_zret (M := mX8_isSign) .boolean dX8_isSign_28 rfl rfl (Nat.le_of_ble_eq_true rfl) (Nat.le_of_ble_eq_true rfl) ⟨rfl, rfl⟩
      · have h := zti c5 h
        refine h_iconst (M := mX8_isSign) dX8_isSign_23 ?_
        refine g_goto (M := mX8_isSign) (tgt := 28) dX8_isSign_24 (by decide) ?_
        have e := (Option.some.inj h)
        subst e
        exact g_zret (M := mX8_isSign) .boolean dX8_isSign_28 rfl rfl (Nat.le_of_ble_eq_true rfl) (Nat.le_of_ble_eq_true rfl) ⟨rfl, rfl⟩
set_option maxHeartbeats 4000000 in
set_option maxRecDepth 100000 in
theorem wX8_isGood {X : zX} (hX : zOK X) {A : Nat → Nat} {n : Nat} {S : Nat → va_E} {qMo : Nat} {VMo : CV} (hMo : isC X A shMo qMo VMo S) (bMo : qMo + 20 < n) {res : Bool} (h : fX8_isGood VMo = some res) : Con X yX8_isGood mX8_isGood 0 0 0 [.ref (A qMo)] (zWs A n S) (zRet (zWs A n S) (some (.int (iI (b2 res))))) := by
  refine con_of (lv := [(0, .ref (A qMo))]) (by decide) rfl (fun h => by cases h) rfl (Nat.le_of_ble_eq_true rfl) rfl ?_
  unfold fX8_isGood at h
  refine g_aload_n (M := mX8_isGood) dX8_isGood_0 0 rfl rfl ?_
  refine k_get (M := mX8_isGood) (v := .int (iI (VMo.1 9))) dX8_isGood_1 kF_X8_136.r qMo (by omega) (hMo.o) rfl ?_
  obtain ⟨g2, h⟩ := zgi h
  refine h_if_ne (M := mX8_isGood) (tgt := 11) dX8_isGood_4 (by decide) g2 (fun c1 => ?_) (fun c1 => ?_)
  · have h := zfi c1 h
    refine h_iconst (M := mX8_isGood) dX8_isGood_11 ?_
    have e := (Option.some.inj h)
    subst e
    exact g_zret (M := mX8_isGood) .boolean dX8_isGood_12 rfl rfl (Nat.le_of_ble_eq_true rfl) (Nat.le_of_ble_eq_true rfl) ⟨rfl, rfl⟩
  · have h := zti c1 h
    refine h_iconst (M := mX8_isGood) dX8_isGood_7 ?_
    refine g_goto (M := mX8_isGood) (tgt := 12) dX8_isGood_8 (by decide) ?_
    have e := (Option.some.inj h)
    subst e
    exact g_zret (M := mX8_isGood) .boolean dX8_isGood_12 rfl rfl (Nat.le_of_ble_eq_true rfl) (Nat.le_of_ble_eq_true rfl) ⟨rfl, rfl⟩
set_option maxHeartbeats 4000000 in
set_option maxRecDepth 100000 in
theorem wX8_wrong {X : zX} (hX : zOK X) {A : Nat → Nat} {n : Nat} {S : Nat → va_E} {qMo : Nat} {VMo : CV} (hMo : isC X A shMo qMo VMo S) (bMo : qMo + 20 < n) {a1 : Int} {res : CV} (h : fX8_wrong VMo a1 = some res) : Con X yX8_wrong mX8_wrong 0 0 0 [.ref (A qMo), .int (iI a1)] (zWs A n S) (zRet (zWs A n (zC X A shMo qMo res S)) none) := by
  refine con_of (lv := [(0, .ref (A qMo)), (1, .int (iI a1))]) (by decide) rfl (fun h => by cases h) rfl (Nat.le_of_ble_eq_true rfl) rfl ?_
  refine g_ws (M := mX8_wrong) (congrArg (zWs A n) hMo.symm) ?_
  unfold fX8_wrong at h
  refine g_aload_n (M := mX8_wrong) dX8_wrong_0 0 rfl rfl ?_
  refine k_get (M := mX8_wrong) (v := .int (iI (VMo.1 9))) dX8_wrong_1 kF_X8_136.r qMo (by omega) (zC_o) rfl ?_
  obtain ⟨g2, h⟩ := zgi h
  refine h_if_le (M := mX8_wrong) (tgt := 8) dX8_wrong_4 (by decide) g2 (fun c1 => ?_) (fun c1 => ?_)
  · have h := zti c1 h
    refine g_aload_n (M := mX8_wrong) dX8_wrong_8 0 rfl rfl ?_
    refine g_aload_n (M := mX8_wrong) dX8_wrong_9 0 rfl rfl ?_
    refine k_get (M := mX8_wrong) (v := .int (iI (VMo.1 6))) dX8_wrong_10 kF_X8_126.r qMo (by omega) (zC_o) rfl ?_
    refine h_iconst (M := mX8_wrong) dX8_wrong_13 ?_
    obtain ⟨g4, h⟩ := zgi h
    refine h_icmp_ne (M := mX8_wrong) (tgt := 21) dX8_wrong_14 (by decide) g4 (by decide) (fun c3 => ?_) (fun c3 => ?_)
    · have h := zfi c3 h
      refine g_iload_n (M := mX8_wrong) dX8_wrong_21 1 rfl rfl ?_
      refine c_put (M := mX8_wrong) (k := 9) dX8_wrong_22 kF_X8_136 (by omega) rfl rfl (by decide) rfl rfl ?_
      refine g_aload_n (M := mX8_wrong) dX8_wrong_25 0 rfl rfl ?_
      refine g_aload_n (M := mX8_wrong) dX8_wrong_26 0 rfl rfl ?_
      refine k_get (M := mX8_wrong) (v := .int (iI (VMo.1 5))) dX8_wrong_27 kF_X8_113.r qMo (by omega) (zC_o) rfl ?_
      refine c_put (M := mX8_wrong) (k := 10) dX8_wrong_30 kF_X8_13 (by omega) rfl rfl (by decide) rfl rfl ?_
      have e := (Option.some.inj h)
      subst e
      exact g_vret (M := mX8_wrong) dX8_wrong_33 rfl (Nat.le_of_ble_eq_true rfl) (Nat.le_of_ble_eq_true rfl) ⟨rfl, rfl⟩
    · have h := zti c3 h
      refine h_iconst (M := mX8_wrong) dX8_wrong_17 ?_
      refine g_goto (M := mX8_wrong) (tgt := 22) dX8_wrong_18 (by decide) ?_
      refine c_put (M := mX8_wrong) (k := 9) dX8_wrong_22 kF_X8_136 (by omega) rfl rfl (by decide) rfl rfl ?_
      refine g_aload_n (M := mX8_wrong) dX8_wrong_25 0 rfl rfl ?_
      refine g_aload_n (M := mX8_wrong) dX8_wrong_26 0 rfl rfl ?_
      refine k_get (M := mX8_wrong) (v := .int (iI (VMo.1 5))) dX8_wrong_27 kF_X8_113.r qMo (by omega) (zC_o) rfl ?_
      refine c_put (M := mX8_wrong) (k := 10) dX8_wrong_30 kF_X8_13 (by omega) rfl rfl (by decide) rfl rfl ?_
      have e := (Option.some.inj h)
      subst e
      exact g_vret (M := mX8_wrong) dX8_wrong_33 rfl (Nat.le_of_ble_eq_true rfl) (Nat.le_of_ble_eq_true rfl) ⟨rfl, rfl⟩
  · have h := zfi (Int.not_le.mpr c1) h
    have e := (Option.some.inj h)
    subst e
    exact g_vret (M := mX8_wrong) dX8_wrong_7 rfl (Nat.le_of_ble_eq_true rfl) (Nat.le_of_ble_eq_true rfl) ⟨rfl, rfl⟩
set_option maxHeartbeats 4000000 in
set_option maxRecDepth 100000 in
theorem wX8_mustSign {X : zX} (hX : zOK X) {A : Nat → Nat} {n : Nat} {S : Nat → va_E} {qMo : Nat} {VMo : CV} (hMo : isC X A shMo qMo VMo S) (bMo : qMo + 20 < n) {a1 : Int} {res : CV} (h : fX8_mustSign VMo a1 = some res) : Con X yX8_mustSign mX8_mustSign 2 0 0 [.ref (A qMo), .int (iI a1)] (zWs A n S) (zRet (zWs A n (zC X A shMo qMo res S)) none) := by
  refine con_of (lv := [(0, .ref (A qMo)), (1, .int (iI a1))]) (by decide) rfl (fun h => by cases h) rfl (Nat.le_of_ble_eq_true rfl) rfl ?_
  refine g_ws (M := mX8_mustSign) (congrArg (zWs A n) hMo.symm) ?_
  unfold fX8_mustSign at h
  refine g_aload_n (M := mX8_mustSign) dX8_mustSign_0 0 rfl rfl ?_
  obtain ⟨t1, u2, h⟩ := zbi h
  refine g_callVr (M := mX8_mustSign) [] hX dX8_mustSign_1 vX8_isGood kM_X8_139 (wX8_isGood hX zC_self (by omega)  u2) qMo (zWs_at (by omega) (zC_o)) rfl ⟨(Nat.le_of_ble_eq_true rfl), (Nat.le_of_ble_eq_true rfl)⟩ ⟨(Nat.le_of_ble_eq_true rfl), (Nat.le_of_ble_eq_true rfl)⟩ (Nat.le_of_ble_eq_true rfl) ?_
  refine zJn_J (J := fun x9 => G X mX8_mustSign (zPm X 2 0 0 (zRet (zWs A n (zC X A shMo qMo res S)) none)) 0 0 20 [(0, .ref (A qMo))] [] (zWs A n (zC X A shMo qMo x9 S))) h (fun x9 h => ?_) (fun j9 h => ?_)
  · refine g_aload_n (M := mX8_mustSign) dX8_mustSign_20 0 rfl rfl ?_
    obtain ⟨t10, u11, h⟩ := zbi h
    refine g_callVr (M := mX8_mustSign) [] hX dX8_mustSign_21 vX8_isGood kM_X8_139 (wX8_isGood hX zC_self (by omega)  u11) qMo (zWs_at (by omega) (zC_o)) rfl ⟨(Nat.le_of_ble_eq_true rfl), (Nat.le_of_ble_eq_true rfl)⟩ ⟨(Nat.le_of_ble_eq_true rfl), (Nat.le_of_ble_eq_true rfl)⟩ (Nat.le_of_ble_eq_true rfl) ?_
    refine h_beq (M := mX8_mustSign) (tgt := 31) dX8_mustSign_24 (by decide) (fun c12 => ?_) (fun c12 => ?_)
    · have h := zfi (zbf c12) h
      have e := (Option.some.inj h)
      subst e
      exact g_vret (M := mX8_mustSign) dX8_mustSign_31 rfl (Nat.le_of_ble_eq_true rfl) (Nat.le_of_ble_eq_true rfl) ⟨rfl, rfl⟩
    · have h := zti c12 h
      refine g_aload_n (M := mX8_mustSign) dX8_mustSign_27 0 rfl rfl ?_
      obtain ⟨t13, u14, h⟩ := zbi h
      refine g_callVr (M := mX8_mustSign) [] hX dX8_mustSign_28 vX8_goOn kM_X8_149 (wX8_goOn hX zC_self (by omega)  u14) qMo (zWs_at (by omega) (zC_o)) rfl ⟨(Nat.le_of_ble_eq_true rfl), (Nat.le_of_ble_eq_true rfl)⟩ ⟨(Nat.le_of_ble_eq_true rfl), (Nat.le_of_ble_eq_true rfl)⟩ (Nat.le_of_ble_eq_true rfl) ?_
      refine g_ws (M := mX8_mustSign) (congrArg (zWs A n) zC_over) ?_
      have e := (Option.some.inj h)
      subst e
      exact g_vret (M := mX8_mustSign) dX8_mustSign_31 rfl (Nat.le_of_ble_eq_true rfl) (Nat.le_of_ble_eq_true rfl) ⟨rfl, rfl⟩
  · refine h_beq (M := mX8_mustSign) (tgt := 20) dX8_mustSign_4 (by decide) (fun c15 => ?_) (fun c15 => ?_)
    · have h := zfi (zbf c15) h
      refine g_lv (M := mX8_mustSign) [0] rfl ?_
      exact j9 VMo h
    · have h := zti c15 h
      refine g_aload_n (M := mX8_mustSign) dX8_mustSign_7 0 rfl rfl ?_
      refine g_iload_n (M := mX8_mustSign) dX8_mustSign_8 1 rfl rfl ?_
      obtain ⟨t16, u17, h⟩ := zbi h
      refine g_callVr (M := mX8_mustSign) [.int (iI a1)] hX dX8_mustSign_9 vX8_isSign kM_X8_143 (wX8_isSign hX zC_self (by omega)  u17) qMo (zWs_at (by omega) (zC_o)) rfl ⟨(Nat.le_of_ble_eq_true rfl), (Nat.le_of_ble_eq_true rfl)⟩ ⟨(Nat.le_of_ble_eq_true rfl), (Nat.le_of_ble_eq_true rfl)⟩ (Nat.le_of_ble_eq_true rfl) ?_
      refine h_bne (M := mX8_mustSign) (tgt := 20) dX8_mustSign_12 (by decide) (fun c18 => ?_) (fun c18 => ?_)
      · have h := zti c18 h
        refine g_lv (M := mX8_mustSign) [0] rfl ?_
        exact j9 VMo h
      · have h := zfi (zbf c18) h
        refine g_aload_n (M := mX8_mustSign) dX8_mustSign_15 0 rfl rfl ?_
        refine h_iconst (M := mX8_mustSign) dX8_mustSign_16 ?_
        obtain ⟨t19, u20, h⟩ := zbi h
        refine g_callVr (M := mX8_mustSign) [.int (iI 1)] hX dX8_mustSign_17 vX8_wrong kM_X8_146 (wX8_wrong hX zC_self (by omega)  u20) qMo (zWs_at (by omega) (zC_o)) rfl ⟨(Nat.le_of_ble_eq_true rfl), (Nat.le_of_ble_eq_true rfl)⟩ ⟨(Nat.le_of_ble_eq_true rfl), (Nat.le_of_ble_eq_true rfl)⟩ (Nat.le_of_ble_eq_true rfl) ?_
        refine g_ws (M := mX8_mustSign) (congrArg (zWs A n) zC_over) ?_
        refine g_lv (M := mX8_mustSign) [0] rfl ?_
        exact j9 t19 h
set_option maxHeartbeats 4000000 in
set_option maxRecDepth 100000 in
theorem wX8_closes {X : zX} (hX : zOK X) {A : Nat → Nat} {n : Nat} {S : Nat → va_E} {qMo : Nat} {VMo : CV} (hMo : isC X A shMo qMo VMo S) (bMo : qMo + 20 < n) {res : CV} (h : fX8_closes VMo = some res) : Con X yX8_closes mX8_closes 3 0 0 [.ref (A qMo)] (zWs A n S) (zRet (zWs A n (zC X A shMo qMo res S)) none) := by
  refine con_of (lv := [(0, .ref (A qMo))]) (by decide) rfl (fun h => by cases h) rfl (Nat.le_of_ble_eq_true rfl) rfl ?_
  refine g_ws (M := mX8_closes) (congrArg (zWs A n) hMo.symm) ?_
  unfold fX8_closes at h
  obtain ⟨x1, l1, h⟩ := zbi h
  have r1 : ∀ y1, y1 = x1 → G X mX8_closes (zPm X 3 0 0 (zRet (zWs A n (zC X A shMo qMo res S)) none)) 0 0 60 [] [] (zWs A n (zC X A shMo qMo y1 S)) := by
    intro y1 ey
    rw [← ey] at h
    have e := (Option.some.inj h)
    subst e
    exact g_vret (M := mX8_closes) dX8_closes_60 rfl (Nat.le_of_ble_eq_true rfl) (Nat.le_of_ble_eq_true rfl) ⟨rfl, rfl⟩
  refine zLp_J (J := fun s1 => G X mX8_closes (zPm X 3 0 0 (zRet (zWs A n (zC X A shMo qMo res S)) none)) 0 0 0 [(0, .ref (A qMo))] [] (zWs A n (zC X A shMo qMo s1 S))) (fun s1 w1 h1 b1 e1 => ?_) _ _ l1
  refine g_aload_n (M := mX8_closes) dX8_closes_0 0 rfl rfl ?_
  refine k_get (M := mX8_closes) (v := .int (iI (s1.1 44))) dX8_closes_1 kF_X8_415.r qMo (by omega) (zC_o) rfl ?_
  obtain ⟨g13, h1⟩ := zgi h1
  refine h_if_le (M := mX8_closes) (tgt := 60) dX8_closes_4 (by decide) g13 (fun c12 => ?_) (fun c12 => ?_)
  · have h1 := zti c12 h1
    refine g_lv (M := mX8_closes) [] rfl ?_
    exact r1 _ (e1 _ (Option.some.inj h1).symm)
  · have h1 := zfi (Int.not_le.mpr c12) h1
    refine g_aload_n (M := mX8_closes) dX8_closes_7 0 rfl rfl ?_
    refine h_bipush (M := mX8_closes) dX8_closes_8 rfl ?_
    obtain ⟨t14, u15, h1⟩ := zbi h1
    refine g_callVr (M := mX8_closes) [.int (iI 41)] hX dX8_closes_10 vX8_isSign kM_X8_143 (wX8_isSign hX zC_self (by omega)  u15) qMo (zWs_at (by omega) (zC_o)) rfl ⟨(Nat.le_of_ble_eq_true rfl), (Nat.le_of_ble_eq_true rfl)⟩ ⟨(Nat.le_of_ble_eq_true rfl), (Nat.le_of_ble_eq_true rfl)⟩ (Nat.le_of_ble_eq_true rfl) ?_
    refine h_beq (M := mX8_closes) (tgt := 60) dX8_closes_13 (by decide) (fun c16 => ?_) (fun c16 => ?_)
    · have h1 := zfi (zbf c16) h1
      refine g_lv (M := mX8_closes) [] rfl ?_
      exact r1 _ (e1 _ (Option.some.inj h1).symm)
    · have h1 := zti c16 h1
      refine g_aload_n (M := mX8_closes) dX8_closes_16 0 rfl rfl ?_
      refine g_dup (M := mX8_closes) dX8_closes_17 rfl ?_
      refine k_get (M := mX8_closes) (v := .int (iI (s1.1 44))) dX8_closes_18 kF_X8_415.r qMo (by omega) (zC_o) rfl ?_
      refine h_iconst (M := mX8_closes) dX8_closes_21 ?_
      refine h_isub (M := mX8_closes) dX8_closes_22 ?_
      refine c_put (M := mX8_closes) (k := 44) dX8_closes_23 kF_X8_415 (by omega) rfl rfl (by decide) rfl rfl ?_
      refine g_aload_n (M := mX8_closes) dX8_closes_26 0 rfl rfl ?_
      refine k_get (M := mX8_closes) (v := .ref (A (qMo + 15))) dX8_closes_27 kF_X8_60.r qMo (by omega) (zC_o) rfl ?_
      refine g_aload_n (M := mX8_closes) dX8_closes_30 0 rfl rfl ?_
      refine k_get (M := mX8_closes) (v := .int (iI (s1.1 42))) dX8_closes_31 kF_X8_421.r qMo (by omega) (zC_o) rfl ?_
      refine h_bipush (M := mX8_closes) dX8_closes_34 rfl ?_
      obtain ⟨g17, h1⟩ := zgi h1
      refine c_iast (M := mX8_closes) (len := 60) (d := (0, 60)) dX8_closes_36 14 rfl rfl (by omega) (Nat.le_of_ble_eq_true rfl) g17.1 g17.2 ?_
      refine g_aload_n (M := mX8_closes) dX8_closes_37 0 rfl rfl ?_
      refine g_dup (M := mX8_closes) dX8_closes_38 rfl ?_
      refine k_get (M := mX8_closes) (v := .int (iI (s1.1 42))) dX8_closes_39 kF_X8_421.r qMo (by omega) (zC_o) rfl ?_
      refine h_iconst (M := mX8_closes) dX8_closes_42 ?_
      refine h_iadd (M := mX8_closes) dX8_closes_43 ?_
      refine c_put (M := mX8_closes) (k := 42) dX8_closes_44 kF_X8_421 (by omega) rfl rfl (by decide) rfl rfl ?_
      refine g_aload_n (M := mX8_closes) dX8_closes_47 0 rfl rfl ?_
      obtain ⟨t18, u19, h1⟩ := zbi h1
      refine g_callVr (M := mX8_closes) [] hX dX8_closes_48 vX8_goOn kM_X8_149 (wX8_goOn hX zC_self (by omega)  u19) qMo (zWs_at (by omega) (zC_o)) rfl ⟨(Nat.le_of_ble_eq_true rfl), (Nat.le_of_ble_eq_true rfl)⟩ ⟨(Nat.le_of_ble_eq_true rfl), (Nat.le_of_ble_eq_true rfl)⟩ (Nat.le_of_ble_eq_true rfl) ?_
      refine g_ws (M := mX8_closes) (congrArg (zWs A n) zC_over) ?_
      refine g_aload_n (M := mX8_closes) dX8_closes_51 0 rfl rfl ?_
      refine h_bipush (M := mX8_closes) dX8_closes_52 rfl ?_
      obtain ⟨t20, u21, h1⟩ := zbi h1
      refine g_callVr (M := mX8_closes) [.int (iI 59)] hX dX8_closes_54 vX8_mustSign kM_X8_211 (wX8_mustSign hX zC_self (by omega)  u21) qMo (zWs_at (by omega) (zC_o)) rfl ⟨(Nat.le_of_ble_eq_true rfl), (Nat.le_of_ble_eq_true rfl)⟩ ⟨(Nat.le_of_ble_eq_true rfl), (Nat.le_of_ble_eq_true rfl)⟩ (Nat.le_of_ble_eq_true rfl) ?_
      refine g_ws (M := mX8_closes) (congrArg (zWs A n) zC_over) ?_
      refine g_goto (M := mX8_closes) (tgt := 0) dX8_closes_57 (by decide) ?_
      exact b1 _ (Option.some.inj h1).symm
set_option maxHeartbeats 4000000 in
set_option maxRecDepth 100000 in
theorem wX8_nearest {X : zX} (hX : zOK X) {A : Nat → Nat} {n : Nat} {S : Nat → va_E} {qMo : Nat} {VMo : CV} (hMo : isC X A shMo qMo VMo S) (bMo : qMo + 20 < n) {a1 : Int} {res : Int} (h : fX8_nearest VMo a1 = some res) : Con X yX8_nearest mX8_nearest 3 0 0 [.ref (A qMo), .int (iI a1)] (zWs A n S) (zRet (zWs A n S) (some (.int (iI res)))) := by
  refine con_of (lv := [(0, .ref (A qMo)), (1, .int (iI a1))]) (by decide) rfl (fun h => by cases h) rfl (Nat.le_of_ble_eq_true rfl) rfl ?_
  unfold fX8_nearest at h
  refine h_iconst (M := mX8_nearest) dX8_nearest_0 ?_
  refine g_istore_n (M := mX8_nearest) (lv' := [(0, .ref (A qMo)), (1, .int (iI a1)), (2, .int (iI (-1)))]) dX8_nearest_1 rfl (by decide) rfl ?_
  refine h_iconst (M := mX8_nearest) dX8_nearest_2 ?_
  refine g_istore_n (M := mX8_nearest) (lv' := [(0, .ref (A qMo)), (1, .int (iI a1)), (2, .int (iI (-1))), (3, .int (iI 0))]) dX8_nearest_3 rfl (by decide) rfl ?_
  refine h_iconst (M := mX8_nearest) dX8_nearest_4 ?_
  refine g_istore (M := mX8_nearest) (lv' := [(0, .ref (A qMo)), (1, .int (iI a1)), (2, .int (iI (-1))), (3, .int (iI 0)), (4, .int (iI 0))]) dX8_nearest_5 (by decide) rfl ?_
  obtain ⟨x1, l1, h⟩ := zbi h
  have r1 : ∀ y1, y1 = x1 → G X mX8_nearest (zPm X 3 0 0 (zRet (zWs A n S) (some (.int (iI res))))) 0 0 72 [(2, .int (iI y1.1))] [] (zWs A n S) := by
    intro y1 ey
    rw [← ey] at h
    refine g_iload_n (M := mX8_nearest) dX8_nearest_72 0 rfl rfl ?_
    have e := (Option.some.inj h)
    subst e
    exact g_iret (M := mX8_nearest) dX8_nearest_73 rfl (Nat.le_of_ble_eq_true rfl) (Nat.le_of_ble_eq_true rfl) ⟨rfl, rfl⟩
  refine zLp_J (J := fun s1 => G X mX8_nearest (zPm X 3 0 0 (zRet (zWs A n S) (some (.int (iI res))))) 0 0 7 [(0, .ref (A qMo)), (1, .int (iI a1)), (2, .int (iI s1.1)), (3, .int (iI s1.2.1)), (4, .int (iI s1.2.2))] [] (zWs A n S)) (fun s1 w1 h1 b1 e1 => ?_) _ _ l1
  refine g_iload (M := mX8_nearest) dX8_nearest_7 4 rfl ?_
  refine g_aload_n (M := mX8_nearest) dX8_nearest_9 0 rfl rfl ?_
  refine g_iload_n (M := mX8_nearest) dX8_nearest_10 1 rfl rfl ?_
  refine h_iconst (M := mX8_nearest) dX8_nearest_11 ?_
  obtain ⟨t15, u16, h1⟩ := zbi h1
  refine g_callVr (M := mX8_nearest) [.int (iI a1), .int (iI 0)] hX dX8_nearest_12 vX8_of kM_X8_166 (wX8_of hX hMo (by omega)  u16) qMo (zWs_at (by omega) (hMo.o)) rfl ⟨(Nat.le_of_ble_eq_true rfl), (Nat.le_of_ble_eq_true rfl)⟩ ⟨(Nat.le_of_ble_eq_true rfl), (Nat.le_of_ble_eq_true rfl)⟩ (Nat.le_of_ble_eq_true rfl) ?_
  obtain ⟨g18, h1⟩ := zgi h1
  refine h_icmp_ge (M := mX8_nearest) (tgt := 72) dX8_nearest_15 (by decide) g18.1 g18.2 (fun c17 => ?_) (fun c17 => ?_)
  · have h1 := zti c17 h1
    refine g_lv (M := mX8_nearest) [2] rfl ?_
    exact r1 _ (e1 _ (Option.some.inj h1).symm)
  · have h1 := zfi (Int.not_le.mpr c17) h1
    refine g_aload_n (M := mX8_nearest) dX8_nearest_18 0 rfl rfl ?_
    refine g_iload_n (M := mX8_nearest) dX8_nearest_19 1 rfl rfl ?_
    refine g_iload (M := mX8_nearest) dX8_nearest_20 4 rfl ?_
    obtain ⟨t19, u20, h1⟩ := zbi h1
    refine g_callVr (M := mX8_nearest) [.int (iI a1), .int (iI s1.2.2)] hX dX8_nearest_22 vX8_isPlace kM_X8_229 (wX8_isPlace hX hMo (by omega)  u20) qMo (zWs_at (by omega) (hMo.o)) rfl ⟨(Nat.le_of_ble_eq_true rfl), (Nat.le_of_ble_eq_true rfl)⟩ ⟨(Nat.le_of_ble_eq_true rfl), (Nat.le_of_ble_eq_true rfl)⟩ (Nat.le_of_ble_eq_true rfl) ?_
    refine h_bne (M := mX8_nearest) (tgt := 31) dX8_nearest_25 (by decide) (fun c21 => ?_) (fun c21 => ?_)
    · have h1 := zti c21 h1
      refine g_aload_n (M := mX8_nearest) dX8_nearest_31 0 rfl rfl ?_
      refine g_iload_n (M := mX8_nearest) dX8_nearest_32 1 rfl rfl ?_
      refine g_iload (M := mX8_nearest) dX8_nearest_33 4 rfl ?_
      refine g_aload_n (M := mX8_nearest) dX8_nearest_35 0 rfl rfl ?_
      refine k_get (M := mX8_nearest) (v := .ref (A (qMo + 2))) dX8_nearest_36 kF_X8_20.r qMo (by omega) (hMo.o) rfl ?_
      refine h_iconst (M := mX8_nearest) dX8_nearest_39 ?_
      refine k_iald (M := mX8_nearest) (len := 351) (f := VMo.2 2) dX8_nearest_40 (qMo + 2) (by omega) (hMo.a (d := (0, 351)) 1 rfl) (Nat.le_of_ble_eq_true rfl) (by decide) (by decide) ?_
      obtain ⟨t22, u23, h1⟩ := zbi h1
      refine g_callVr (M := mX8_nearest) [.int (iI a1), .int (iI s1.2.2), .int (iI (VMo.2 2 2))] hX dX8_nearest_41 vX8_differsAt kM_X8_235 (wX8_differsAt hX hMo (by omega)  u23) qMo (zWs_at (by omega) (hMo.o)) rfl ⟨(Nat.le_of_ble_eq_true rfl), (Nat.le_of_ble_eq_true rfl)⟩ ⟨(Nat.le_of_ble_eq_true rfl), (Nat.le_of_ble_eq_true rfl)⟩ (Nat.le_of_ble_eq_true rfl) ?_
      refine g_istore (M := mX8_nearest) (lv' := [(0, .ref (A qMo)), (1, .int (iI a1)), (2, .int (iI s1.1)), (3, .int (iI s1.2.1)), (4, .int (iI s1.2.2)), (5, .int (iI t22))]) dX8_nearest_44 (by decide) rfl ?_
      refine g_iload_n (M := mX8_nearest) dX8_nearest_46 2 rfl rfl ?_
      refine h_iconst (M := mX8_nearest) dX8_nearest_47 ?_
      obtain ⟨g25, h1⟩ := zgi h1
      refine h_icmp_eq (M := mX8_nearest) (tgt := 60) dX8_nearest_48 (by decide) g25 (by decide) (fun c24 => ?_) (fun c24 => ?_)
      · have h1 := zti c24 h1
        refine g_iload (M := mX8_nearest) dX8_nearest_60 4 rfl ?_
        refine g_istore_n (M := mX8_nearest) (lv' := [(0, .ref (A qMo)), (1, .int (iI a1)), (2, .int (iI s1.2.2)), (3, .int (iI s1.2.1)), (4, .int (iI s1.2.2)), (5, .int (iI t22))]) dX8_nearest_62 rfl (by decide) rfl ?_
        refine g_iload (M := mX8_nearest) dX8_nearest_63 5 rfl ?_
        refine g_istore_n (M := mX8_nearest) (lv' := [(0, .ref (A qMo)), (1, .int (iI a1)), (2, .int (iI s1.2.2)), (3, .int (iI t22)), (4, .int (iI s1.2.2)), (5, .int (iI t22))]) dX8_nearest_65 rfl (by decide) rfl ?_
        refine h_iinc (M := mX8_nearest) (j := 4) (lv' := [(0, .ref (A qMo)), (1, .int (iI a1)), (2, .int (iI s1.2.2)), (3, .int (iI t22)), (4, .int (iI (s1.2.2 + 1))), (5, .int (iI t22))]) dX8_nearest_66 rfl (Nat.le_of_ble_eq_true rfl) rfl ?_
        refine g_goto (M := mX8_nearest) (tgt := 7) dX8_nearest_69 (by decide) ?_
        refine g_lv (M := mX8_nearest) [0, 1, 2, 3, 4] rfl ?_
        exact b1 _ (Option.some.inj h1).symm
      · have h1 := zfi c24 h1
        refine g_iload (M := mX8_nearest) dX8_nearest_51 5 rfl ?_
        refine g_iload_n (M := mX8_nearest) dX8_nearest_53 3 rfl rfl ?_
        obtain ⟨g27, h1⟩ := zgi h1
        refine h_icmp_lt (M := mX8_nearest) (tgt := 60) dX8_nearest_54 (by decide) g27.1 g27.2 (fun c26 => ?_) (fun c26 => ?_)
        · have h1 := zti c26 h1
          refine g_iload (M := mX8_nearest) dX8_nearest_60 4 rfl ?_
          refine g_istore_n (M := mX8_nearest) (lv' := [(0, .ref (A qMo)), (1, .int (iI a1)), (2, .int (iI s1.2.2)), (3, .int (iI s1.2.1)), (4, .int (iI s1.2.2)), (5, .int (iI t22))]) dX8_nearest_62 rfl (by decide) rfl ?_
          refine g_iload (M := mX8_nearest) dX8_nearest_63 5 rfl ?_
          refine g_istore_n (M := mX8_nearest) (lv' := [(0, .ref (A qMo)), (1, .int (iI a1)), (2, .int (iI s1.2.2)), (3, .int (iI t22)), (4, .int (iI s1.2.2)), (5, .int (iI t22))]) dX8_nearest_65 rfl (by decide) rfl ?_
          refine h_iinc (M := mX8_nearest) (j := 4) (lv' := [(0, .ref (A qMo)), (1, .int (iI a1)), (2, .int (iI s1.2.2)), (3, .int (iI t22)), (4, .int (iI (s1.2.2 + 1))), (5, .int (iI t22))]) dX8_nearest_66 rfl (Nat.le_of_ble_eq_true rfl) rfl ?_
          refine g_goto (M := mX8_nearest) (tgt := 7) dX8_nearest_69 (by decide) ?_
          refine g_lv (M := mX8_nearest) [0, 1, 2, 3, 4] rfl ?_
          exact b1 _ (Option.some.inj h1).symm
        · have h1 := zfi (Int.not_lt.mpr c26) h1
          refine g_goto (M := mX8_nearest) (tgt := 66) dX8_nearest_57 (by decide) ?_
          refine h_iinc (M := mX8_nearest) (j := 4) (lv' := [(0, .ref (A qMo)), (1, .int (iI a1)), (2, .int (iI s1.1)), (3, .int (iI s1.2.1)), (4, .int (iI (s1.2.2 + 1))), (5, .int (iI t22))]) dX8_nearest_66 rfl (Nat.le_of_ble_eq_true rfl) rfl ?_
          refine g_goto (M := mX8_nearest) (tgt := 7) dX8_nearest_69 (by decide) ?_
          refine g_lv (M := mX8_nearest) [0, 1, 2, 3, 4] rfl ?_
          exact b1 _ (Option.some.inj h1).symm
    · have h1 := zfi (zbf c21) h1
      refine g_goto (M := mX8_nearest) (tgt := 66) dX8_nearest_28 (by decide) ?_
      refine h_iinc (M := mX8_nearest) (j := 4) (lv' := [(0, .ref (A qMo)), (1, .int (iI a1)), (2, .int (iI s1.1)), (3, .int (iI s1.2.1)), (4, .int (iI (s1.2.2 + 1)))]) dX8_nearest_66 rfl (Nat.le_of_ble_eq_true rfl) rfl ?_
      refine g_goto (M := mX8_nearest) (tgt := 7) dX8_nearest_69 (by decide) ?_
      exact b1 _ (Option.some.inj h1).symm
set_option maxHeartbeats 4000000 in
set_option maxRecDepth 100000 in
theorem wX8_closest {X : zX} (hX : zOK X) {A : Nat → Nat} {n : Nat} {S : Nat → va_E} {qMo : Nat} {VMo : CV} (hMo : isC X A shMo qMo VMo S) (bMo : qMo + 20 < n) {a1 : Int} {a2 : Int} {res : CV × Int} (h : fX8_closest VMo a1 a2 = some res) : Con X yX8_closest mX8_closest 4 0 0 [.ref (A qMo), .int (iI a1), .int (iI a2)] (zWs A n S) (zRet (zWs A n (zC X A shMo qMo res.1 S)) (some (.int (iI res.2)))) := by
  refine con_of (lv := [(0, .ref (A qMo)), (1, .int (iI a1)), (2, .int (iI a2))]) (by decide) rfl (fun h => by cases h) rfl (Nat.le_of_ble_eq_true rfl) rfl ?_
  refine g_ws (M := mX8_closest) (congrArg (zWs A n) hMo.symm) ?_
  unfold fX8_closest at h
  refine g_aload_n (M := mX8_closest) dX8_closest_0 0 rfl rfl ?_
  refine g_aload_n (M := mX8_closest) dX8_closest_1 0 rfl rfl ?_
  refine g_iload_n (M := mX8_closest) dX8_closest_2 1 rfl rfl ?_
  obtain ⟨t1, u2, h⟩ := zbi h
  refine g_callVr (M := mX8_closest) [.int (iI a1)] hX dX8_closest_3 vX8_isRow kM_X8_256 (wX8_isRow hX zC_self (by omega)  u2) qMo (zWs_at (by omega) (zC_o)) rfl ⟨(Nat.le_of_ble_eq_true rfl), (Nat.le_of_ble_eq_true rfl)⟩ ⟨(Nat.le_of_ble_eq_true rfl), (Nat.le_of_ble_eq_true rfl)⟩ (Nat.le_of_ble_eq_true rfl) ?_
  refine zJn_J (J := fun x12 => G X mX8_closest (zPm X 4 0 0 (zRet (zWs A n (zC X A shMo qMo res.1 S)) (some (.int (iI res.2))))) 0 0 22 [(0, .ref (A qMo)), (1, .int (iI a1)), (2, .int (iI a2))] [.int (iI x12), .ref (A qMo)] (zWs A n (zC X A shMo qMo VMo S))) h (fun x12 h => ?_) (fun j12 h => ?_)
  · obtain ⟨t13, u14, h⟩ := zbi h
    refine g_callVr (M := mX8_closest) [.int (iI x12)] hX dX8_closest_22 vX8_goes kM_X8_91 (wX8_goes hX zC_self (by omega)  u14) qMo (zWs_at (by omega) (zC_o)) rfl ⟨(Nat.le_of_ble_eq_true rfl), (Nat.le_of_ble_eq_true rfl)⟩ ⟨(Nat.le_of_ble_eq_true rfl), (Nat.le_of_ble_eq_true rfl)⟩ (Nat.le_of_ble_eq_true rfl) ?_
    refine g_ws (M := mX8_closest) (congrArg (zWs A n) zC_over) ?_
    refine h_bne (M := mX8_closest) (tgt := 30) dX8_closest_25 (by decide) (fun c15 => ?_) (fun c15 => ?_)
    · have h := zti c15 h
      refine g_aload_n (M := mX8_closest) dX8_closest_30 0 rfl rfl ?_
      refine g_iload_n (M := mX8_closest) dX8_closest_31 2 rfl rfl ?_
      obtain ⟨t16, u17, h⟩ := zbi h
      refine g_callVr (M := mX8_closest) [.int (iI a2)] hX dX8_closest_32 vX8_spells kM_X8_242 (wX8_spells hX zC_self (by omega)  u17) qMo (zWs_at (by omega) (zC_o)) rfl ⟨(Nat.le_of_ble_eq_true rfl), (Nat.le_of_ble_eq_true rfl)⟩ ⟨(Nat.le_of_ble_eq_true rfl), (Nat.le_of_ble_eq_true rfl)⟩ (Nat.le_of_ble_eq_true rfl) ?_
      refine g_ws (M := mX8_closest) (congrArg (zWs A n) zC_over) ?_
      refine g_aload_n (M := mX8_closest) dX8_closest_35 0 rfl rfl ?_
      refine g_iload_n (M := mX8_closest) dX8_closest_36 1 rfl rfl ?_
      obtain ⟨t18, u19, h⟩ := zbi h
      refine g_callVr (M := mX8_closest) [.int (iI a1)] hX dX8_closest_37 vX8_nearest kM_X8_277 (wX8_nearest hX zC_self (by omega)  u19) qMo (zWs_at (by omega) (zC_o)) rfl ⟨(Nat.le_of_ble_eq_true rfl), (Nat.le_of_ble_eq_true rfl)⟩ ⟨(Nat.le_of_ble_eq_true rfl), (Nat.le_of_ble_eq_true rfl)⟩ (Nat.le_of_ble_eq_true rfl) ?_
      have e := (Option.some.inj h)
      subst e
      exact g_iret (M := mX8_closest) dX8_closest_40 rfl (Nat.le_of_ble_eq_true rfl) (Nat.le_of_ble_eq_true rfl) ⟨rfl, rfl⟩
    · have h := zfi (zbf c15) h
      refine h_iconst (M := mX8_closest) dX8_closest_28 ?_
      have e := (Option.some.inj h)
      subst e
      exact g_iret (M := mX8_closest) dX8_closest_29 rfl (Nat.le_of_ble_eq_true rfl) (Nat.le_of_ble_eq_true rfl) ⟨rfl, rfl⟩
  · refine zJn_J (J := fun x24 => G X mX8_closest (zPm X 4 0 0 (zRet (zWs A n (zC X A shMo qMo res.1 S)) (some (.int (iI res.2))))) 0 0 21 [(0, .ref (A qMo)), (1, .int (iI a1)), (2, .int (iI a2))] [.ref (A qMo)] (zWs A n (zC X A shMo qMo VMo S))) h (fun x24 h => ?_) (fun j24 h => ?_)
    · refine h_iconst (M := mX8_closest) dX8_closest_21 ?_
      exact j12 0 h
    · refine h_beq (M := mX8_closest) (tgt := 21) dX8_closest_6 (by decide) (fun c25 => ?_) (fun c25 => ?_)
      · have h := zfi (zbf c25) h
        exact j24 () h
      · have h := zti c25 h
        refine g_aload_n (M := mX8_closest) dX8_closest_9 0 rfl rfl ?_
        refine g_iload_n (M := mX8_closest) dX8_closest_10 2 rfl rfl ?_
        obtain ⟨t26, u27, h⟩ := zbi h
        refine g_callVr (M := mX8_closest) [.int (iI a2)] hX dX8_closest_11 vX8_isOne kM_X8_268 (wX8_isOne hX zC_self (by omega)  u27) qMo (zWs_at (by omega) (zC_o)) rfl ⟨(Nat.le_of_ble_eq_true rfl), (Nat.le_of_ble_eq_true rfl)⟩ ⟨(Nat.le_of_ble_eq_true rfl), (Nat.le_of_ble_eq_true rfl)⟩ (Nat.le_of_ble_eq_true rfl) ?_
        refine h_beq (M := mX8_closest) (tgt := 21) dX8_closest_14 (by decide) (fun c28 => ?_) (fun c28 => ?_)
        · have h := zfi (zbf c28) h
          exact j24 () h
        · have h := zti c28 h
          refine h_iconst (M := mX8_closest) dX8_closest_17 ?_
          refine g_goto (M := mX8_closest) (tgt := 22) dX8_closest_18 (by decide) ?_
          exact j12 1 h
set_option maxHeartbeats 4000000 in
set_option maxRecDepth 100000 in
theorem wX8_isWord {X : zX} (hX : zOK X) {A : Nat → Nat} {n : Nat} {S : Nat → va_E} {qMo : Nat} {VMo : CV} (hMo : isC X A shMo qMo VMo S) (bMo : qMo + 20 < n) {a1 : Int} {res : Bool} (h : fX8_isWord VMo a1 = some res) : Con X yX8_isWord mX8_isWord 0 0 0 [.ref (A qMo), .long (iL a1)] (zWs A n S) (zRet (zWs A n S) (some (.int (iI (b2 res))))) := by
  refine con_of (lv := [(0, .ref (A qMo)), (1, .long (iL a1))]) (by decide) rfl (fun h => by cases h) rfl (Nat.le_of_ble_eq_true rfl) rfl ?_
  unfold fX8_isWord at h
  refine g_aload_n (M := mX8_isWord) dX8_isWord_0 0 rfl rfl ?_
  refine k_get (M := mX8_isWord) (v := .int (iI (VMo.1 9))) dX8_isWord_1 kF_X8_136.r qMo (by omega) (hMo.o) rfl ?_
  obtain ⟨g2, h⟩ := zgi h
  refine h_if_ne (M := mX8_isWord) (tgt := 37) dX8_isWord_4 (by decide) g2 (fun c1 => ?_) (fun c1 => ?_)
  · have h := zfi c1 h
    refine h_iconst (M := mX8_isWord) dX8_isWord_37 ?_
    have e := (Option.some.inj h)
    subst e
    exact g_zret (M := mX8_isWord) .boolean dX8_isWord_38 rfl rfl (Nat.le_of_ble_eq_true rfl) (Nat.le_of_ble_eq_true rfl) ⟨rfl, rfl⟩
  · have h := zti c1 h
    refine g_aload_n (M := mX8_isWord) dX8_isWord_7 0 rfl rfl ?_
    refine k_get (M := mX8_isWord) (v := .int (iI (VMo.1 6))) dX8_isWord_8 kF_X8_126.r qMo (by omega) (hMo.o) rfl ?_
    refine h_iconst (M := mX8_isWord) dX8_isWord_11 ?_
    obtain ⟨g4, h⟩ := zgi h
    refine h_icmp_ne (M := mX8_isWord) (tgt := 37) dX8_isWord_12 (by decide) g4 (by decide) (fun c3 => ?_) (fun c3 => ?_)
    · have h := zfi c3 h
      refine h_iconst (M := mX8_isWord) dX8_isWord_37 ?_
      have e := (Option.some.inj h)
      subst e
      exact g_zret (M := mX8_isWord) .boolean dX8_isWord_38 rfl rfl (Nat.le_of_ble_eq_true rfl) (Nat.le_of_ble_eq_true rfl) ⟨rfl, rfl⟩
    · have h := zti c3 h
      refine g_aload_n (M := mX8_isWord) dX8_isWord_15 0 rfl rfl ?_
      refine k_get (M := mX8_isWord) (v := .int (iI (VMo.1 8))) dX8_isWord_16 kF_X8_123.r qMo (by omega) (hMo.o) rfl ?_
      refine h_bipush (M := mX8_isWord) dX8_isWord_19 rfl ?_
      obtain ⟨g6, h⟩ := zgi h
      refine h_icmp_gt (M := mX8_isWord) (tgt := 37) dX8_isWord_21 (by decide) g6 (by decide) (fun c5 => ?_) (fun c5 => ?_)
      · have h := zti c5 h
        refine h_iconst (M := mX8_isWord) dX8_isWord_37 ?_
        have e := (Option.some.inj h)
        subst e
        exact g_zret (M := mX8_isWord) .boolean dX8_isWord_38 rfl rfl (Nat.le_of_ble_eq_true rfl) (Nat.le_of_ble_eq_true rfl) ⟨rfl, rfl⟩
      · have h := zfi (Int.not_lt.mpr c5) h
        refine g_aload_n (M := mX8_isWord) dX8_isWord_24 0 rfl rfl ?_
        refine k_get (M := mX8_isWord) (v := .long (iL (VMo.1 13))) dX8_isWord_25 kF_X8_116.r qMo (by omega) (hMo.o) rfl ?_
        refine g_lload_n (M := mX8_isWord) dX8_isWord_28 1 rfl rfl ?_
        obtain ⟨g7, h⟩ := zgi h
        refine g_lcmp (M := mX8_isWord) dX8_isWord_29 ?_
        refine h_topx (M := mX8_isWord) (b := zCmp (VMo.1 13) a1) (lg_cmp_i g7.1 g7.2) ?_
        refine h_if_ne (M := mX8_isWord) (tgt := 37) dX8_isWord_30 (by decide) (zCmp_r _ _) (fun c8 => ?_) (fun c8 => ?_)
        · have h := zfi c8 h
          refine h_iconst (M := mX8_isWord) dX8_isWord_37 ?_
          have e := (Option.some.inj h)
          subst e
          exact g_zret (M := mX8_isWord) .boolean dX8_isWord_38 rfl rfl (Nat.le_of_ble_eq_true rfl) (Nat.le_of_ble_eq_true rfl) ⟨rfl, rfl⟩
        · have h := zti c8 h
          refine h_iconst (M := mX8_isWord) dX8_isWord_33 ?_
          refine g_goto (M := mX8_isWord) (tgt := 38) dX8_isWord_34 (by decide) ?_
          have e := (Option.some.inj h)
          subst e
          exact g_zret (M := mX8_isWord) .boolean dX8_isWord_38 rfl rfl (Nat.le_of_ble_eq_true rfl) (Nat.le_of_ble_eq_true rfl) ⟨rfl, rfl⟩
set_option maxHeartbeats 4000000 in
set_option maxRecDepth 100000 in
theorem wX8_commandHere {X : zX} (hX : zOK X) {A : Nat → Nat} {n : Nat} {S : Nat → va_E} {qMo : Nat} {VMo : CV} (hMo : isC X A shMo qMo VMo S) (bMo : qMo + 20 < n) {res : Int} (h : fX8_commandHere VMo = some res) : Con X yX8_commandHere mX8_commandHere 1 0 0 [.ref (A qMo)] (zWs A n S) (zRet (zWs A n S) (some (.int (iI res)))) := by
  refine con_of (lv := [(0, .ref (A qMo))]) (by decide) rfl (fun h => by cases h) rfl (Nat.le_of_ble_eq_true rfl) rfl ?_
  unfold fX8_commandHere at h
  refine g_aload_n (M := mX8_commandHere) dX8_commandHere_0 0 rfl rfl ?_
  refine g_ldc2 (M := mX8_commandHere) (v := iL (109559397)) dX8_commandHere_1 kC_X8_394 ?_
  obtain ⟨t1, u2, h⟩ := zbi h
  refine g_callVr (M := mX8_commandHere) [.long (iL 109559397)] hX dX8_commandHere_4 vX8_isWord kM_X8_195 (wX8_isWord hX hMo (by omega)  u2) qMo (zWs_at (by omega) (hMo.o)) rfl ⟨(Nat.le_of_ble_eq_true rfl), (Nat.le_of_ble_eq_true rfl)⟩ ⟨(Nat.le_of_ble_eq_true rfl), (Nat.le_of_ble_eq_true rfl)⟩ (Nat.le_of_ble_eq_true rfl) ?_
  refine h_beq (M := mX8_commandHere) (tgt := 12) dX8_commandHere_7 (by decide) (fun c3 => ?_) (fun c3 => ?_)
  · have h := zfi (zbf c3) h
    refine g_aload_n (M := mX8_commandHere) dX8_commandHere_12 0 rfl rfl ?_
    refine g_ldc2 (M := mX8_commandHere) (v := iL (3544114)) dX8_commandHere_13 kC_X8_396 ?_
    obtain ⟨t4, u5, h⟩ := zbi h
    refine g_callVr (M := mX8_commandHere) [.long (iL 3544114)] hX dX8_commandHere_16 vX8_isWord kM_X8_195 (wX8_isWord hX hMo (by omega)  u5) qMo (zWs_at (by omega) (hMo.o)) rfl ⟨(Nat.le_of_ble_eq_true rfl), (Nat.le_of_ble_eq_true rfl)⟩ ⟨(Nat.le_of_ble_eq_true rfl), (Nat.le_of_ble_eq_true rfl)⟩ (Nat.le_of_ble_eq_true rfl) ?_
    refine h_beq (M := mX8_commandHere) (tgt := 24) dX8_commandHere_19 (by decide) (fun c6 => ?_) (fun c6 => ?_)
    · have h := zfi (zbf c6) h
      refine g_aload_n (M := mX8_commandHere) dX8_commandHere_24 0 rfl rfl ?_
      refine g_ldc2 (M := mX8_commandHere) (v := iL (73027762)) dX8_commandHere_25 kC_X8_398 ?_
      obtain ⟨t7, u8, h⟩ := zbi h
      refine g_callVr (M := mX8_commandHere) [.long (iL 73027762)] hX dX8_commandHere_28 vX8_isWord kM_X8_195 (wX8_isWord hX hMo (by omega)  u8) qMo (zWs_at (by omega) (hMo.o)) rfl ⟨(Nat.le_of_ble_eq_true rfl), (Nat.le_of_ble_eq_true rfl)⟩ ⟨(Nat.le_of_ble_eq_true rfl), (Nat.le_of_ble_eq_true rfl)⟩ (Nat.le_of_ble_eq_true rfl) ?_
      refine h_beq (M := mX8_commandHere) (tgt := 36) dX8_commandHere_31 (by decide) (fun c9 => ?_) (fun c9 => ?_)
      · have h := zfi (zbf c9) h
        refine g_aload_n (M := mX8_commandHere) dX8_commandHere_36 0 rfl rfl ?_
        refine g_ldc2 (M := mX8_commandHere) (v := iL (10117267141)) dX8_commandHere_37 kC_X8_400 ?_
        obtain ⟨t10, u11, h⟩ := zbi h
        refine g_callVr (M := mX8_commandHere) [.long (iL 10117267141)] hX dX8_commandHere_40 vX8_isWord kM_X8_195 (wX8_isWord hX hMo (by omega)  u11) qMo (zWs_at (by omega) (hMo.o)) rfl ⟨(Nat.le_of_ble_eq_true rfl), (Nat.le_of_ble_eq_true rfl)⟩ ⟨(Nat.le_of_ble_eq_true rfl), (Nat.le_of_ble_eq_true rfl)⟩ (Nat.le_of_ble_eq_true rfl) ?_
        refine h_beq (M := mX8_commandHere) (tgt := 48) dX8_commandHere_43 (by decide) (fun c12 => ?_) (fun c12 => ?_)
        · have h := zfi (zbf c12) h
          refine g_aload_n (M := mX8_commandHere) dX8_commandHere_48 0 rfl rfl ?_
          refine g_ldc2 (M := mX8_commandHere) (v := iL (656741)) dX8_commandHere_49 kC_X8_402 ?_
          obtain ⟨t13, u14, h⟩ := zbi h
          refine g_callVr (M := mX8_commandHere) [.long (iL 656741)] hX dX8_commandHere_52 vX8_isWord kM_X8_195 (wX8_isWord hX hMo (by omega)  u14) qMo (zWs_at (by omega) (hMo.o)) rfl ⟨(Nat.le_of_ble_eq_true rfl), (Nat.le_of_ble_eq_true rfl)⟩ ⟨(Nat.le_of_ble_eq_true rfl), (Nat.le_of_ble_eq_true rfl)⟩ (Nat.le_of_ble_eq_true rfl) ?_
          refine h_beq (M := mX8_commandHere) (tgt := 60) dX8_commandHere_55 (by decide) (fun c15 => ?_) (fun c15 => ?_)
          · have h := zfi (zbf c15) h
            refine g_aload_n (M := mX8_commandHere) dX8_commandHere_60 0 rfl rfl ?_
            refine g_ldc2 (M := mX8_commandHere) (v := iL (71284)) dX8_commandHere_61 kC_X8_404 ?_
            obtain ⟨t16, u17, h⟩ := zbi h
            refine g_callVr (M := mX8_commandHere) [.long (iL 71284)] hX dX8_commandHere_64 vX8_isWord kM_X8_195 (wX8_isWord hX hMo (by omega)  u17) qMo (zWs_at (by omega) (hMo.o)) rfl ⟨(Nat.le_of_ble_eq_true rfl), (Nat.le_of_ble_eq_true rfl)⟩ ⟨(Nat.le_of_ble_eq_true rfl), (Nat.le_of_ble_eq_true rfl)⟩ (Nat.le_of_ble_eq_true rfl) ?_
            refine h_beq (M := mX8_commandHere) (tgt := 72) dX8_commandHere_67 (by decide) (fun c18 => ?_) (fun c18 => ?_)
            · have h := zfi (zbf c18) h
              refine g_aload_n (M := mX8_commandHere) dX8_commandHere_72 0 rfl rfl ?_
              refine g_ldc2 (M := mX8_commandHere) (v := iL (16052)) dX8_commandHere_73 kC_X8_406 ?_
              obtain ⟨t19, u20, h⟩ := zbi h
              refine g_callVr (M := mX8_commandHere) [.long (iL 16052)] hX dX8_commandHere_76 vX8_isWord kM_X8_195 (wX8_isWord hX hMo (by omega)  u20) qMo (zWs_at (by omega) (hMo.o)) rfl ⟨(Nat.le_of_ble_eq_true rfl), (Nat.le_of_ble_eq_true rfl)⟩ ⟨(Nat.le_of_ble_eq_true rfl), (Nat.le_of_ble_eq_true rfl)⟩ (Nat.le_of_ble_eq_true rfl) ?_
              refine h_beq (M := mX8_commandHere) (tgt := 85) dX8_commandHere_79 (by decide) (fun c21 => ?_) (fun c21 => ?_)
              · have h := zfi (zbf c21) h
                refine g_aload_n (M := mX8_commandHere) dX8_commandHere_85 0 rfl rfl ?_
                refine g_ldc2 (M := mX8_commandHere) (v := iL (302)) dX8_commandHere_86 kC_X8_408 ?_
                obtain ⟨t22, u23, h⟩ := zbi h
                refine g_callVr (M := mX8_commandHere) [.long (iL 302)] hX dX8_commandHere_89 vX8_isWord kM_X8_195 (wX8_isWord hX hMo (by omega)  u23) qMo (zWs_at (by omega) (hMo.o)) rfl ⟨(Nat.le_of_ble_eq_true rfl), (Nat.le_of_ble_eq_true rfl)⟩ ⟨(Nat.le_of_ble_eq_true rfl), (Nat.le_of_ble_eq_true rfl)⟩ (Nat.le_of_ble_eq_true rfl) ?_
                refine h_beq (M := mX8_commandHere) (tgt := 98) dX8_commandHere_92 (by decide) (fun c24 => ?_) (fun c24 => ?_)
                · have h := zfi (zbf c24) h
                  refine g_aload_n (M := mX8_commandHere) dX8_commandHere_98 0 rfl rfl ?_
                  refine g_ldc2 (M := mX8_commandHere) (v := iL (3491175603)) dX8_commandHere_99 kC_X8_204 ?_
                  obtain ⟨t25, u26, h⟩ := zbi h
                  refine g_callVr (M := mX8_commandHere) [.long (iL 3491175603)] hX dX8_commandHere_102 vX8_isWord kM_X8_195 (wX8_isWord hX hMo (by omega)  u26) qMo (zWs_at (by omega) (hMo.o)) rfl ⟨(Nat.le_of_ble_eq_true rfl), (Nat.le_of_ble_eq_true rfl)⟩ ⟨(Nat.le_of_ble_eq_true rfl), (Nat.le_of_ble_eq_true rfl)⟩ (Nat.le_of_ble_eq_true rfl) ?_
                  refine h_beq (M := mX8_commandHere) (tgt := 111) dX8_commandHere_105 (by decide) (fun c27 => ?_) (fun c27 => ?_)
                  · have h := zfi (zbf c27) h
                    refine g_aload_n (M := mX8_commandHere) dX8_commandHere_111 0 rfl rfl ?_
                    refine g_ldc2 (M := mX8_commandHere) (v := iL (609752116)) dX8_commandHere_112 kC_X8_410 ?_
                    obtain ⟨t28, u29, h⟩ := zbi h
                    refine g_callVr (M := mX8_commandHere) [.long (iL 609752116)] hX dX8_commandHere_115 vX8_isWord kM_X8_195 (wX8_isWord hX hMo (by omega)  u29) qMo (zWs_at (by omega) (hMo.o)) rfl ⟨(Nat.le_of_ble_eq_true rfl), (Nat.le_of_ble_eq_true rfl)⟩ ⟨(Nat.le_of_ble_eq_true rfl), (Nat.le_of_ble_eq_true rfl)⟩ (Nat.le_of_ble_eq_true rfl) ?_
                    refine h_beq (M := mX8_commandHere) (tgt := 126) dX8_commandHere_118 (by decide) (fun c30 => ?_) (fun c30 => ?_)
                    · have h := zfi (zbf c30) h
                      refine h_iconst (M := mX8_commandHere) dX8_commandHere_126 ?_
                      have e := (Option.some.inj h)
                      subst e
                      exact g_iret (M := mX8_commandHere) dX8_commandHere_127 rfl (Nat.le_of_ble_eq_true rfl) (Nat.le_of_ble_eq_true rfl) ⟨rfl, rfl⟩
                    · have h := zti c30 h
                      refine h_bipush (M := mX8_commandHere) dX8_commandHere_121 rfl ?_
                      refine g_goto (M := mX8_commandHere) (tgt := 127) dX8_commandHere_123 (by decide) ?_
                      have e := (Option.some.inj h)
                      subst e
                      exact g_iret (M := mX8_commandHere) dX8_commandHere_127 rfl (Nat.le_of_ble_eq_true rfl) (Nat.le_of_ble_eq_true rfl) ⟨rfl, rfl⟩
                  · have h := zti c27 h
                    refine h_bipush (M := mX8_commandHere) dX8_commandHere_108 rfl ?_
                    have e := (Option.some.inj h)
                    subst e
                    exact g_iret (M := mX8_commandHere) dX8_commandHere_110 rfl (Nat.le_of_ble_eq_true rfl) (Nat.le_of_ble_eq_true rfl) ⟨rfl, rfl⟩
                · have h := zti c24 h
                  refine h_bipush (M := mX8_commandHere) dX8_commandHere_95 rfl ?_
                  have e := (Option.some.inj h)
                  subst e
                  exact g_iret (M := mX8_commandHere) dX8_commandHere_97 rfl (Nat.le_of_ble_eq_true rfl) (Nat.le_of_ble_eq_true rfl) ⟨rfl, rfl⟩
              · have h := zti c21 h
                refine h_bipush (M := mX8_commandHere) dX8_commandHere_82 rfl ?_
                have e := (Option.some.inj h)
                subst e
                exact g_iret (M := mX8_commandHere) dX8_commandHere_84 rfl (Nat.le_of_ble_eq_true rfl) (Nat.le_of_ble_eq_true rfl) ⟨rfl, rfl⟩
            · have h := zti c18 h
              refine h_iconst (M := mX8_commandHere) dX8_commandHere_70 ?_
              have e := (Option.some.inj h)
              subst e
              exact g_iret (M := mX8_commandHere) dX8_commandHere_71 rfl (Nat.le_of_ble_eq_true rfl) (Nat.le_of_ble_eq_true rfl) ⟨rfl, rfl⟩
          · have h := zti c15 h
            refine h_iconst (M := mX8_commandHere) dX8_commandHere_58 ?_
            have e := (Option.some.inj h)
            subst e
            exact g_iret (M := mX8_commandHere) dX8_commandHere_59 rfl (Nat.le_of_ble_eq_true rfl) (Nat.le_of_ble_eq_true rfl) ⟨rfl, rfl⟩
        · have h := zti c12 h
          refine h_iconst (M := mX8_commandHere) dX8_commandHere_46 ?_
          have e := (Option.some.inj h)
          subst e
          exact g_iret (M := mX8_commandHere) dX8_commandHere_47 rfl (Nat.le_of_ble_eq_true rfl) (Nat.le_of_ble_eq_true rfl) ⟨rfl, rfl⟩
      · have h := zti c9 h
        refine h_iconst (M := mX8_commandHere) dX8_commandHere_34 ?_
        have e := (Option.some.inj h)
        subst e
        exact g_iret (M := mX8_commandHere) dX8_commandHere_35 rfl (Nat.le_of_ble_eq_true rfl) (Nat.le_of_ble_eq_true rfl) ⟨rfl, rfl⟩
    · have h := zti c6 h
      refine h_iconst (M := mX8_commandHere) dX8_commandHere_22 ?_
      have e := (Option.some.inj h)
      subst e
      exact g_iret (M := mX8_commandHere) dX8_commandHere_23 rfl (Nat.le_of_ble_eq_true rfl) (Nat.le_of_ble_eq_true rfl) ⟨rfl, rfl⟩
  · have h := zti c3 h
    refine h_iconst (M := mX8_commandHere) dX8_commandHere_10 ?_
    have e := (Option.some.inj h)
    subst e
    exact g_iret (M := mX8_commandHere) dX8_commandHere_11 rfl (Nat.le_of_ble_eq_true rfl) (Nat.le_of_ble_eq_true rfl) ⟨rfl, rfl⟩
set_option maxHeartbeats 4000000 in
set_option maxRecDepth 100000 in
theorem wX8_mustName {X : zX} (hX : zOK X) {A : Nat → Nat} {n : Nat} {S : Nat → va_E} {qMo : Nat} {VMo : CV} (hMo : isC X A shMo qMo VMo S) (bMo : qMo + 20 < n) {res : CV} (h : fX8_mustName VMo = some res) : Con X yX8_mustName mX8_mustName 1 0 0 [.ref (A qMo)] (zWs A n S) (zRet (zWs A n (zC X A shMo qMo res S)) none) := by
  refine con_of (lv := [(0, .ref (A qMo))]) (by decide) rfl (fun h => by cases h) rfl (Nat.le_of_ble_eq_true rfl) rfl ?_
  refine g_ws (M := mX8_mustName) (congrArg (zWs A n) hMo.symm) ?_
  unfold fX8_mustName at h
  refine g_aload_n (M := mX8_mustName) dX8_mustName_0 0 rfl rfl ?_
  obtain ⟨t1, u2, h⟩ := zbi h
  refine g_callVr (M := mX8_mustName) [] hX dX8_mustName_1 vX8_isGood kM_X8_139 (wX8_isGood hX zC_self (by omega)  u2) qMo (zWs_at (by omega) (zC_o)) rfl ⟨(Nat.le_of_ble_eq_true rfl), (Nat.le_of_ble_eq_true rfl)⟩ ⟨(Nat.le_of_ble_eq_true rfl), (Nat.le_of_ble_eq_true rfl)⟩ (Nat.le_of_ble_eq_true rfl) ?_
  refine h_beq (M := mX8_mustName) (tgt := 29) dX8_mustName_4 (by decide) (fun c3 => ?_) (fun c3 => ?_)
  · have h := zfi (zbf c3) h
    have e := (Option.some.inj h)
    subst e
    exact g_vret (M := mX8_mustName) dX8_mustName_29 rfl (Nat.le_of_ble_eq_true rfl) (Nat.le_of_ble_eq_true rfl) ⟨rfl, rfl⟩
  · have h := zti c3 h
    refine g_aload_n (M := mX8_mustName) dX8_mustName_7 0 rfl rfl ?_
    refine k_get (M := mX8_mustName) (v := .int (iI (VMo.1 6))) dX8_mustName_8 kF_X8_126.r qMo (by omega) (zC_o) rfl ?_
    refine h_iconst (M := mX8_mustName) dX8_mustName_11 ?_
    refine zJn_J (J := fun x8 => G X mX8_mustName (zPm X 1 0 0 (zRet (zWs A n (zC X A shMo qMo res S)) none)) 0 0 24 [(0, .ref (A qMo))] [] (zWs A n (zC X A shMo qMo VMo S))) h (fun x8 h => ?_) (fun j8 h => ?_)
    · refine g_aload_n (M := mX8_mustName) dX8_mustName_24 0 rfl rfl ?_
      refine h_iconst (M := mX8_mustName) dX8_mustName_25 ?_
      obtain ⟨t9, u10, h⟩ := zbi h
      refine g_callVr (M := mX8_mustName) [.int (iI 1)] hX dX8_mustName_26 vX8_wrong kM_X8_146 (wX8_wrong hX zC_self (by omega)  u10) qMo (zWs_at (by omega) (zC_o)) rfl ⟨(Nat.le_of_ble_eq_true rfl), (Nat.le_of_ble_eq_true rfl)⟩ ⟨(Nat.le_of_ble_eq_true rfl), (Nat.le_of_ble_eq_true rfl)⟩ (Nat.le_of_ble_eq_true rfl) ?_
      refine g_ws (M := mX8_mustName) (congrArg (zWs A n) zC_over) ?_
      have e := (Option.some.inj h)
      subst e
      exact g_vret (M := mX8_mustName) dX8_mustName_29 rfl (Nat.le_of_ble_eq_true rfl) (Nat.le_of_ble_eq_true rfl) ⟨rfl, rfl⟩
    · obtain ⟨g12, h⟩ := zgi h
      refine h_icmp_ne (M := mX8_mustName) (tgt := 24) dX8_mustName_12 (by decide) g12 (by decide) (fun c11 => ?_) (fun c11 => ?_)
      · have h := zfi c11 h
        exact j8 () h
      · have h := zti c11 h
        refine g_aload_n (M := mX8_mustName) dX8_mustName_15 0 rfl rfl ?_
        refine k_get (M := mX8_mustName) (v := .int (iI (VMo.1 8))) dX8_mustName_16 kF_X8_123.r qMo (by omega) (zC_o) rfl ?_
        refine h_bipush (M := mX8_mustName) dX8_mustName_19 rfl ?_
        obtain ⟨g14, h⟩ := zgi h
        refine h_icmp_le (M := mX8_mustName) (tgt := 29) dX8_mustName_21 (by decide) g14 (by decide) (fun c13 => ?_) (fun c13 => ?_)
        · have h := zti c13 h
          have e := (Option.some.inj h)
          subst e
          exact g_vret (M := mX8_mustName) dX8_mustName_29 rfl (Nat.le_of_ble_eq_true rfl) (Nat.le_of_ble_eq_true rfl) ⟨rfl, rfl⟩
        · have h := zfi (Int.not_le.mpr c13) h
          exact j8 () h
set_option maxHeartbeats 4000000 in
set_option maxRecDepth 100000 in
theorem wX8_named {X : zX} (hX : zOK X) {A : Nat → Nat} {n : Nat} {S : Nat → va_E} {qMo : Nat} {VMo : CV} (hMo : isC X A shMo qMo VMo S) (bMo : qMo + 20 < n) {res : Int} (h : fX8_named VMo = some res) : Con X yX8_named mX8_named 0 0 0 [.ref (A qMo)] (zWs A n S) (zRet (zWs A n S) (some (.int (iI res)))) := by
  refine con_of (lv := [(0, .ref (A qMo))]) (by decide) rfl (fun h => by cases h) rfl (Nat.le_of_ble_eq_true rfl) rfl ?_
  unfold fX8_named at h
  refine h_iconst (M := mX8_named) dX8_named_0 ?_
  refine g_istore_n (M := mX8_named) (lv' := [(0, .ref (A qMo)), (1, .int (iI (-1)))]) dX8_named_1 rfl (by decide) rfl ?_
  refine h_iconst (M := mX8_named) dX8_named_2 ?_
  refine g_istore_n (M := mX8_named) (lv' := [(0, .ref (A qMo)), (1, .int (iI (-1))), (2, .int (iI 0))]) dX8_named_3 rfl (by decide) rfl ?_
  obtain ⟨x1, l1, h⟩ := zbi h
  have r1 : ∀ y1, y1 = x1 → G X mX8_named (zPm X 0 0 0 (zRet (zWs A n S) (some (.int (iI res))))) 0 0 40 [(1, .int (iI y1.1))] [] (zWs A n S) := by
    intro y1 ey
    rw [← ey] at h
    refine g_iload_n (M := mX8_named) dX8_named_40 0 rfl rfl ?_
    have e := (Option.some.inj h)
    subst e
    exact g_iret (M := mX8_named) dX8_named_41 rfl (Nat.le_of_ble_eq_true rfl) (Nat.le_of_ble_eq_true rfl) ⟨rfl, rfl⟩
  refine zLp_J (J := fun s1 => G X mX8_named (zPm X 0 0 0 (zRet (zWs A n S) (some (.int (iI res))))) 0 0 4 [(0, .ref (A qMo)), (1, .int (iI s1.1)), (2, .int (iI s1.2))] [] (zWs A n S)) (fun s1 w1 h1 b1 e1 => ?_) _ _ l1
  refine g_iload_n (M := mX8_named) dX8_named_4 2 rfl rfl ?_
  refine g_aload_n (M := mX8_named) dX8_named_5 0 rfl rfl ?_
  refine k_get (M := mX8_named) (v := .ref (A (qMo + 2))) dX8_named_6 kF_X8_20.r qMo (by omega) (hMo.o) rfl ?_
  refine h_iconst (M := mX8_named) dX8_named_9 ?_
  refine k_iald (M := mX8_named) (len := 351) (f := VMo.2 2) dX8_named_10 (qMo + 2) (by omega) (hMo.a (d := (0, 351)) 1 rfl) (Nat.le_of_ble_eq_true rfl) (by decide) (by decide) ?_
  obtain ⟨g8, h1⟩ := zgi h1
  refine h_icmp_ge (M := mX8_named) (tgt := 40) dX8_named_11 (by decide) g8.1 g8.2 (fun c7 => ?_) (fun c7 => ?_)
  · have h1 := zti c7 h1
    refine g_lv (M := mX8_named) [1] rfl ?_
    exact r1 _ (e1 _ (Option.some.inj h1).symm)
  · have h1 := zfi (Int.not_le.mpr c7) h1
    refine g_aload_n (M := mX8_named) dX8_named_14 0 rfl rfl ?_
    refine k_get (M := mX8_named) (v := .ref (A (qMo + 7))) dX8_named_15 kF_X8_35.r qMo (by omega) (hMo.o) rfl ?_
    refine g_iload_n (M := mX8_named) dX8_named_18 2 rfl rfl ?_
    obtain ⟨g9, h1⟩ := zgi h1
    refine k_lald (M := mX8_named) (len := 10) (f := VMo.2 7) dX8_named_19 (qMo + 7) (by omega) (hMo.a (d := (1, 10)) 6 rfl) (Nat.le_of_ble_eq_true rfl) g9.1 g9.2 ?_
    refine g_aload_n (M := mX8_named) dX8_named_20 0 rfl rfl ?_
    refine k_get (M := mX8_named) (v := .long (iL (VMo.1 13))) dX8_named_21 kF_X8_116.r qMo (by omega) (hMo.o) rfl ?_
    obtain ⟨g10, h1⟩ := zgi h1
    refine g_lcmp (M := mX8_named) dX8_named_24 ?_
    refine h_topx (M := mX8_named) (b := zCmp (VMo.2 7 s1.2) (VMo.1 13)) (lg_cmp_i g10.1 g10.2) ?_
    refine h_if_ne (M := mX8_named) (tgt := 32) dX8_named_25 (by decide) (zCmp_r _ _) (fun c11 => ?_) (fun c11 => ?_)
    · have h1 := zfi c11 h1
      refine g_iload_n (M := mX8_named) dX8_named_32 1 rfl rfl ?_
      refine g_istore_n (M := mX8_named) (lv' := [(0, .ref (A qMo)), (1, .int (iI s1.1)), (2, .int (iI s1.2))]) dX8_named_33 rfl (by decide) rfl ?_
      refine h_iinc (M := mX8_named) (j := 2) (lv' := [(0, .ref (A qMo)), (1, .int (iI s1.1)), (2, .int (iI (s1.2 + 1)))]) dX8_named_34 rfl (Nat.le_of_ble_eq_true rfl) rfl ?_
      refine g_goto (M := mX8_named) (tgt := 4) dX8_named_37 (by decide) ?_
      exact b1 _ (Option.some.inj h1).symm
    · have h1 := zti c11 h1
      refine g_iload_n (M := mX8_named) dX8_named_28 2 rfl rfl ?_
      refine g_goto (M := mX8_named) (tgt := 33) dX8_named_29 (by decide) ?_
      refine g_istore_n (M := mX8_named) (lv' := [(0, .ref (A qMo)), (1, .int (iI s1.2)), (2, .int (iI s1.2))]) dX8_named_33 rfl (by decide) rfl ?_
      refine h_iinc (M := mX8_named) (j := 2) (lv' := [(0, .ref (A qMo)), (1, .int (iI s1.2)), (2, .int (iI (s1.2 + 1)))]) dX8_named_34 rfl (Nat.le_of_ble_eq_true rfl) rfl ?_
      refine g_goto (M := mX8_named) (tgt := 4) dX8_named_37 (by decide) ?_
      exact b1 _ (Option.some.inj h1).symm
set_option maxHeartbeats 4000000 in
set_option maxRecDepth 100000 in
theorem wX8_toldRow {X : zX} (hX : zOK X) {A : Nat → Nat} {n : Nat} {S : Nat → va_E} {qMo : Nat} {VMo : CV} (hMo : isC X A shMo qMo VMo S) (bMo : qMo + 20 < n) {res : CV × Int} (h : fX8_toldRow VMo = some res) : Con X yX8_toldRow mX8_toldRow 2 0 0 [.ref (A qMo)] (zWs A n S) (zRet (zWs A n (zC X A shMo qMo res.1 S)) (some (.int (iI res.2)))) := by
  refine con_of (lv := [(0, .ref (A qMo))]) (by decide) rfl (fun h => by cases h) rfl (Nat.le_of_ble_eq_true rfl) rfl ?_
  refine g_ws (M := mX8_toldRow) (congrArg (zWs A n) hMo.symm) ?_
  unfold fX8_toldRow at h
  refine g_aload_n (M := mX8_toldRow) dX8_toldRow_0 0 rfl rfl ?_
  obtain ⟨t1, u2, h⟩ := zbi h
  refine g_callVr (M := mX8_toldRow) [] hX dX8_toldRow_1 vX8_mustName kM_X8_170 (wX8_mustName hX zC_self (by omega)  u2) qMo (zWs_at (by omega) (zC_o)) rfl ⟨(Nat.le_of_ble_eq_true rfl), (Nat.le_of_ble_eq_true rfl)⟩ ⟨(Nat.le_of_ble_eq_true rfl), (Nat.le_of_ble_eq_true rfl)⟩ (Nat.le_of_ble_eq_true rfl) ?_
  refine g_ws (M := mX8_toldRow) (congrArg (zWs A n) zC_over) ?_
  refine g_aload_n (M := mX8_toldRow) dX8_toldRow_4 0 rfl rfl ?_
  obtain ⟨t3, u4, h⟩ := zbi h
  refine g_callVr (M := mX8_toldRow) [] hX dX8_toldRow_5 vX8_named kM_X8_173 (wX8_named hX zC_self (by omega)  u4) qMo (zWs_at (by omega) (zC_o)) rfl ⟨(Nat.le_of_ble_eq_true rfl), (Nat.le_of_ble_eq_true rfl)⟩ ⟨(Nat.le_of_ble_eq_true rfl), (Nat.le_of_ble_eq_true rfl)⟩ (Nat.le_of_ble_eq_true rfl) ?_
  refine g_istore_n (M := mX8_toldRow) (lv' := [(0, .ref (A qMo)), (1, .int (iI t3))]) dX8_toldRow_8 rfl (by decide) rfl ?_
  refine g_aload_n (M := mX8_toldRow) dX8_toldRow_9 0 rfl rfl ?_
  obtain ⟨t5, u6, h⟩ := zbi h
  refine g_callVr (M := mX8_toldRow) [] hX dX8_toldRow_10 vX8_isGood kM_X8_139 (wX8_isGood hX zC_self (by omega)  u6) qMo (zWs_at (by omega) (zC_o)) rfl ⟨(Nat.le_of_ble_eq_true rfl), (Nat.le_of_ble_eq_true rfl)⟩ ⟨(Nat.le_of_ble_eq_true rfl), (Nat.le_of_ble_eq_true rfl)⟩ (Nat.le_of_ble_eq_true rfl) ?_
  refine zJn_J (J := fun x12 => G X mX8_toldRow (zPm X 2 0 0 (zRet (zWs A n (zC X A shMo qMo res.1 S)) (some (.int (iI res.2))))) 0 0 26 [(0, .ref (A qMo)), (1, .int (iI t3))] [] (zWs A n (zC X A shMo qMo x12 S))) h (fun x12 h => ?_) (fun j12 h => ?_)
  · refine g_aload_n (M := mX8_toldRow) dX8_toldRow_26 0 rfl rfl ?_
    obtain ⟨t13, u14, h⟩ := zbi h
    refine g_callVr (M := mX8_toldRow) [] hX dX8_toldRow_27 vX8_isGood kM_X8_139 (wX8_isGood hX zC_self (by omega)  u14) qMo (zWs_at (by omega) (zC_o)) rfl ⟨(Nat.le_of_ble_eq_true rfl), (Nat.le_of_ble_eq_true rfl)⟩ ⟨(Nat.le_of_ble_eq_true rfl), (Nat.le_of_ble_eq_true rfl)⟩ (Nat.le_of_ble_eq_true rfl) ?_
    refine h_beq (M := mX8_toldRow) (tgt := 37) dX8_toldRow_30 (by decide) (fun c15 => ?_) (fun c15 => ?_)
    · have h := zfi (zbf c15) h
      refine g_iload_n (M := mX8_toldRow) dX8_toldRow_37 1 rfl rfl ?_
      have e := (Option.some.inj h)
      subst e
      exact g_iret (M := mX8_toldRow) dX8_toldRow_38 rfl (Nat.le_of_ble_eq_true rfl) (Nat.le_of_ble_eq_true rfl) ⟨rfl, rfl⟩
    · have h := zti c15 h
      refine g_aload_n (M := mX8_toldRow) dX8_toldRow_33 0 rfl rfl ?_
      obtain ⟨t16, u17, h⟩ := zbi h
      refine g_callVr (M := mX8_toldRow) [] hX dX8_toldRow_34 vX8_goOn kM_X8_149 (wX8_goOn hX zC_self (by omega)  u17) qMo (zWs_at (by omega) (zC_o)) rfl ⟨(Nat.le_of_ble_eq_true rfl), (Nat.le_of_ble_eq_true rfl)⟩ ⟨(Nat.le_of_ble_eq_true rfl), (Nat.le_of_ble_eq_true rfl)⟩ (Nat.le_of_ble_eq_true rfl) ?_
      refine g_ws (M := mX8_toldRow) (congrArg (zWs A n) zC_over) ?_
      refine g_iload_n (M := mX8_toldRow) dX8_toldRow_37 1 rfl rfl ?_
      have e := (Option.some.inj h)
      subst e
      exact g_iret (M := mX8_toldRow) dX8_toldRow_38 rfl (Nat.le_of_ble_eq_true rfl) (Nat.le_of_ble_eq_true rfl) ⟨rfl, rfl⟩
  · refine h_beq (M := mX8_toldRow) (tgt := 26) dX8_toldRow_13 (by decide) (fun c18 => ?_) (fun c18 => ?_)
    · have h := zfi (zbf c18) h
      exact j12 t1 h
    · have h := zti c18 h
      refine g_iload_n (M := mX8_toldRow) dX8_toldRow_16 1 rfl rfl ?_
      refine h_iconst (M := mX8_toldRow) dX8_toldRow_17 ?_
      obtain ⟨g20, h⟩ := zgi h
      refine h_icmp_ne (M := mX8_toldRow) (tgt := 26) dX8_toldRow_18 (by decide) g20 (by decide) (fun c19 => ?_) (fun c19 => ?_)
      · have h := zfi c19 h
        exact j12 t1 h
      · have h := zti c19 h
        refine g_aload_n (M := mX8_toldRow) dX8_toldRow_21 0 rfl rfl ?_
        refine h_iconst (M := mX8_toldRow) dX8_toldRow_22 ?_
        obtain ⟨t21, u22, h⟩ := zbi h
        refine g_callVr (M := mX8_toldRow) [.int (iI 3)] hX dX8_toldRow_23 vX8_wrong kM_X8_146 (wX8_wrong hX zC_self (by omega)  u22) qMo (zWs_at (by omega) (zC_o)) rfl ⟨(Nat.le_of_ble_eq_true rfl), (Nat.le_of_ble_eq_true rfl)⟩ ⟨(Nat.le_of_ble_eq_true rfl), (Nat.le_of_ble_eq_true rfl)⟩ (Nat.le_of_ble_eq_true rfl) ?_
        refine g_ws (M := mX8_toldRow) (congrArg (zWs A n) zC_over) ?_
        exact j12 t21 h
set_option maxHeartbeats 4000000 in
set_option maxRecDepth 100000 in
theorem wX8_number {X : zX} (hX : zOK X) {A : Nat → Nat} {n : Nat} {S : Nat → va_E} {qMo : Nat} {VMo : CV} (hMo : isC X A shMo qMo VMo S) (bMo : qMo + 20 < n) {a1 : Int} {a2 : Int} {res : CV × Int} (h : fX8_number VMo a1 a2 = some res) : Con X yX8_number mX8_number 2 0 0 [.ref (A qMo), .int (iI a1), .int (iI a2)] (zWs A n S) (zRet (zWs A n (zC X A shMo qMo res.1 S)) (some (.int (iI res.2)))) := by
  refine con_of (lv := [(0, .ref (A qMo)), (1, .int (iI a1)), (2, .int (iI a2))]) (by decide) rfl (fun h => by cases h) rfl (Nat.le_of_ble_eq_true rfl) rfl ?_
  refine g_ws (M := mX8_number) (congrArg (zWs A n) hMo.symm) ?_
  unfold fX8_number at h
  refine g_aload_n (M := mX8_number) dX8_number_0 0 rfl rfl ?_
  obtain ⟨t1, u2, h⟩ := zbi h
  refine g_callVr (M := mX8_number) [] hX dX8_number_1 vX8_isGood kM_X8_139 (wX8_isGood hX zC_self (by omega)  u2) qMo (zWs_at (by omega) (zC_o)) rfl ⟨(Nat.le_of_ble_eq_true rfl), (Nat.le_of_ble_eq_true rfl)⟩ ⟨(Nat.le_of_ble_eq_true rfl), (Nat.le_of_ble_eq_true rfl)⟩ (Nat.le_of_ble_eq_true rfl) ?_
  refine zJn_J (J := fun x8 => G X mX8_number (zPm X 2 0 0 (zRet (zWs A n (zC X A shMo qMo res.1 S)) (some (.int (iI res.2))))) 0 0 20 [(0, .ref (A qMo)), (1, .int (iI a1)), (2, .int (iI a2))] [] (zWs A n (zC X A shMo qMo x8 S))) h (fun x8 h => ?_) (fun j8 h => ?_)
  · refine g_aload_n (M := mX8_number) dX8_number_20 0 rfl rfl ?_
    refine k_get (M := mX8_number) (v := .int (iI (x8.1 7))) dX8_number_21 kF_X8_120.r qMo (by omega) (zC_o) rfl ?_
    refine g_istore_n (M := mX8_number) (lv' := [(0, .ref (A qMo)), (1, .int (iI a1)), (2, .int (iI a2)), (3, .int (iI (x8.1 7)))]) dX8_number_24 rfl (by decide) rfl ?_
    refine g_aload_n (M := mX8_number) dX8_number_25 0 rfl rfl ?_
    obtain ⟨t9, u10, h⟩ := zbi h
    refine g_callVr (M := mX8_number) [] hX dX8_number_26 vX8_isGood kM_X8_139 (wX8_isGood hX zC_self (by omega)  u10) qMo (zWs_at (by omega) (zC_o)) rfl ⟨(Nat.le_of_ble_eq_true rfl), (Nat.le_of_ble_eq_true rfl)⟩ ⟨(Nat.le_of_ble_eq_true rfl), (Nat.le_of_ble_eq_true rfl)⟩ (Nat.le_of_ble_eq_true rfl) ?_
    refine zJn_J (J := fun x20 => G X mX8_number (zPm X 2 0 0 (zRet (zWs A n (zC X A shMo qMo res.1 S)) (some (.int (iI res.2))))) 0 0 49 [(0, .ref (A qMo)), (3, .int (iI (x8.1 7)))] [] (zWs A n (zC X A shMo qMo x20 S))) h (fun x20 h => ?_) (fun j20 h => ?_)
    · refine g_aload_n (M := mX8_number) dX8_number_49 0 rfl rfl ?_
      obtain ⟨t21, u22, h⟩ := zbi h
      refine g_callVr (M := mX8_number) [] hX dX8_number_50 vX8_isGood kM_X8_139 (wX8_isGood hX zC_self (by omega)  u22) qMo (zWs_at (by omega) (zC_o)) rfl ⟨(Nat.le_of_ble_eq_true rfl), (Nat.le_of_ble_eq_true rfl)⟩ ⟨(Nat.le_of_ble_eq_true rfl), (Nat.le_of_ble_eq_true rfl)⟩ (Nat.le_of_ble_eq_true rfl) ?_
      refine h_beq (M := mX8_number) (tgt := 60) dX8_number_53 (by decide) (fun c23 => ?_) (fun c23 => ?_)
      · have h := zfi (zbf c23) h
        refine g_iload_n (M := mX8_number) dX8_number_60 1 rfl rfl ?_
        have e := (Option.some.inj h)
        subst e
        exact g_iret (M := mX8_number) dX8_number_61 rfl (Nat.le_of_ble_eq_true rfl) (Nat.le_of_ble_eq_true rfl) ⟨rfl, rfl⟩
      · have h := zti c23 h
        refine g_aload_n (M := mX8_number) dX8_number_56 0 rfl rfl ?_
        obtain ⟨t24, u25, h⟩ := zbi h
        refine g_callVr (M := mX8_number) [] hX dX8_number_57 vX8_goOn kM_X8_149 (wX8_goOn hX zC_self (by omega)  u25) qMo (zWs_at (by omega) (zC_o)) rfl ⟨(Nat.le_of_ble_eq_true rfl), (Nat.le_of_ble_eq_true rfl)⟩ ⟨(Nat.le_of_ble_eq_true rfl), (Nat.le_of_ble_eq_true rfl)⟩ (Nat.le_of_ble_eq_true rfl) ?_
        refine g_ws (M := mX8_number) (congrArg (zWs A n) zC_over) ?_
        refine g_iload_n (M := mX8_number) dX8_number_60 1 rfl rfl ?_
        have e := (Option.some.inj h)
        subst e
        exact g_iret (M := mX8_number) dX8_number_61 rfl (Nat.le_of_ble_eq_true rfl) (Nat.le_of_ble_eq_true rfl) ⟨rfl, rfl⟩
    · refine h_beq (M := mX8_number) (tgt := 49) dX8_number_29 (by decide) (fun c26 => ?_) (fun c26 => ?_)
      · have h := zfi (zbf c26) h
        refine g_lv (M := mX8_number) [0, 3] rfl ?_
        exact j20 x8 h
      · have h := zti c26 h
        refine g_iload_n (M := mX8_number) dX8_number_32 3 rfl rfl ?_
        obtain ⟨g27, h⟩ := zgi h
        refine h_i2l (M := mX8_number) dX8_number_33 g27 ?_
        refine g_iload_n (M := mX8_number) dX8_number_34 1 rfl rfl ?_
        obtain ⟨g28, h⟩ := zgi h
        refine h_i2l (M := mX8_number) dX8_number_35 g28 ?_
        refine g_iload_n (M := mX8_number) dX8_number_36 2 rfl rfl ?_
        obtain ⟨g29, h⟩ := zgi h
        refine h_i2l (M := mX8_number) dX8_number_37 g29 ?_
        obtain ⟨t30, u31, h⟩ := zbi h
        refine g_callSr (M := mX8_number) [.long (iL (x8.1 7)), .long (iL a1), .long (iL a2)] hX dX8_number_38 vX8_isIn kM_X8_99 (wX8_isIn hX   u31) rfl ⟨(Nat.le_of_ble_eq_true rfl), (Nat.le_of_ble_eq_true rfl)⟩ ⟨(Nat.le_of_ble_eq_true rfl), (Nat.le_of_ble_eq_true rfl)⟩ (Nat.le_of_ble_eq_true rfl) ?_
        refine h_bne (M := mX8_number) (tgt := 49) dX8_number_41 (by decide) (fun c32 => ?_) (fun c32 => ?_)
        · have h := zti c32 h
          refine g_lv (M := mX8_number) [0, 3] rfl ?_
          exact j20 x8 h
        · have h := zfi (zbf c32) h
          refine g_aload_n (M := mX8_number) dX8_number_44 0 rfl rfl ?_
          refine h_iconst (M := mX8_number) dX8_number_45 ?_
          obtain ⟨t33, u34, h⟩ := zbi h
          refine g_callVr (M := mX8_number) [.int (iI 2)] hX dX8_number_46 vX8_wrong kM_X8_146 (wX8_wrong hX zC_self (by omega)  u34) qMo (zWs_at (by omega) (zC_o)) rfl ⟨(Nat.le_of_ble_eq_true rfl), (Nat.le_of_ble_eq_true rfl)⟩ ⟨(Nat.le_of_ble_eq_true rfl), (Nat.le_of_ble_eq_true rfl)⟩ (Nat.le_of_ble_eq_true rfl) ?_
          refine g_ws (M := mX8_number) (congrArg (zWs A n) zC_over) ?_
          refine g_lv (M := mX8_number) [0, 3] rfl ?_
          exact j20 t33 h
  · refine h_beq (M := mX8_number) (tgt := 20) dX8_number_4 (by decide) (fun c35 => ?_) (fun c35 => ?_)
    · have h := zfi (zbf c35) h
      exact j8 VMo h
    · have h := zti c35 h
      refine g_aload_n (M := mX8_number) dX8_number_7 0 rfl rfl ?_
      refine k_get (M := mX8_number) (v := .int (iI (VMo.1 6))) dX8_number_8 kF_X8_126.r qMo (by omega) (zC_o) rfl ?_
      refine h_iconst (M := mX8_number) dX8_number_11 ?_
      obtain ⟨g37, h⟩ := zgi h
      refine h_icmp_eq (M := mX8_number) (tgt := 20) dX8_number_12 (by decide) g37 (by decide) (fun c36 => ?_) (fun c36 => ?_)
      · have h := zti c36 h
        exact j8 VMo h
      · have h := zfi c36 h
        refine g_aload_n (M := mX8_number) dX8_number_15 0 rfl rfl ?_
        refine h_iconst (M := mX8_number) dX8_number_16 ?_
        obtain ⟨t38, u39, h⟩ := zbi h
        refine g_callVr (M := mX8_number) [.int (iI 1)] hX dX8_number_17 vX8_wrong kM_X8_146 (wX8_wrong hX zC_self (by omega)  u39) qMo (zWs_at (by omega) (zC_o)) rfl ⟨(Nat.le_of_ble_eq_true rfl), (Nat.le_of_ble_eq_true rfl)⟩ ⟨(Nat.le_of_ble_eq_true rfl), (Nat.le_of_ble_eq_true rfl)⟩ (Nat.le_of_ble_eq_true rfl) ?_
        refine g_ws (M := mX8_number) (congrArg (zWs A n) zC_over) ?_
        exact j8 t38 h
set_option maxHeartbeats 4000000 in
set_option maxRecDepth 100000 in
theorem wX8_hasLetters {X : zX} (hX : zOK X) {A : Nat → Nat} {n : Nat} {S : Nat → va_E} {qMo : Nat} {VMo : CV} (hMo : isC X A shMo qMo VMo S) (bMo : qMo + 20 < n) {res : Bool} (h : fX8_hasLetters VMo = some res) : Con X yX8_hasLetters mX8_hasLetters 0 0 0 [.ref (A qMo)] (zWs A n S) (zRet (zWs A n S) (some (.int (iI (b2 res))))) := by
  refine con_of (lv := [(0, .ref (A qMo))]) (by decide) rfl (fun h => by cases h) rfl (Nat.le_of_ble_eq_true rfl) rfl ?_
  unfold fX8_hasLetters at h
  refine h_iconst (M := mX8_hasLetters) dX8_hasLetters_0 ?_
  refine g_istore_n (M := mX8_hasLetters) (lv' := [(0, .ref (A qMo)), (1, .int (iI 1))]) dX8_hasLetters_1 rfl (by decide) rfl ?_
  refine h_iconst (M := mX8_hasLetters) dX8_hasLetters_2 ?_
  refine g_istore_n (M := mX8_hasLetters) (lv' := [(0, .ref (A qMo)), (1, .int (iI 1)), (2, .int (iI 0))]) dX8_hasLetters_3 rfl (by decide) rfl ?_
  obtain ⟨x1, l1, h⟩ := zbi h
  have r1 : ∀ y1, y1 = x1 → G X mX8_hasLetters (zPm X 0 0 0 (zRet (zWs A n S) (some (.int (iI (b2 res)))))) 0 0 51 [(1, .int (iI y1.1))] [] (zWs A n S) := by
    intro y1 ey
    rw [← ey] at h
    refine g_iload_n (M := mX8_hasLetters) dX8_hasLetters_51 0 rfl rfl ?_
    obtain ⟨g9, h⟩ := zgi h
    refine h_top (M := mX8_hasLetters) (b := b2 (decide (y1.1 = 1))) (b2_d g9) ?_
    have e := (Option.some.inj h)
    subst e
    exact g_zret (M := mX8_hasLetters) .boolean dX8_hasLetters_52 rfl (b2_nar _) (Nat.le_of_ble_eq_true rfl) (Nat.le_of_ble_eq_true rfl) ⟨rfl, rfl⟩
  refine zLp_J (J := fun s1 => G X mX8_hasLetters (zPm X 0 0 0 (zRet (zWs A n S) (some (.int (iI (b2 res)))))) 0 0 4 [(0, .ref (A qMo)), (1, .int (iI s1.1)), (2, .int (iI s1.2))] [] (zWs A n S)) (fun s1 w1 h1 b1 e1 => ?_) _ _ l1
  refine g_iload_n (M := mX8_hasLetters) dX8_hasLetters_4 2 rfl rfl ?_
  refine g_aload_n (M := mX8_hasLetters) dX8_hasLetters_5 0 rfl rfl ?_
  refine k_get (M := mX8_hasLetters) (v := .int (iI (VMo.1 8))) dX8_hasLetters_6 kF_X8_123.r qMo (by omega) (hMo.o) rfl ?_
  obtain ⟨g11, h1⟩ := zgi h1
  refine h_icmp_ge (M := mX8_hasLetters) (tgt := 51) dX8_hasLetters_9 (by decide) g11.1 g11.2 (fun c10 => ?_) (fun c10 => ?_)
  · have h1 := zti c10 h1
    refine g_lv (M := mX8_hasLetters) [1] rfl ?_
    exact r1 _ (e1 _ (Option.some.inj h1).symm)
  · have h1 := zfi (Int.not_le.mpr c10) h1
    refine g_iload_n (M := mX8_hasLetters) dX8_hasLetters_12 1 rfl rfl ?_
    obtain ⟨g13, h1⟩ := zgi h1
    refine h_if_eq (M := mX8_hasLetters) (tgt := 43) dX8_hasLetters_13 (by decide) g13 (fun c12 => ?_) (fun c12 => ?_)
    · have h1 := zti c12 h1
      refine h_iconst (M := mX8_hasLetters) dX8_hasLetters_43 ?_
      refine g_istore_n (M := mX8_hasLetters) (lv' := [(0, .ref (A qMo)), (1, .int (iI 0)), (2, .int (iI s1.2))]) dX8_hasLetters_44 rfl (by decide) rfl ?_
      refine h_iinc (M := mX8_hasLetters) (j := 2) (lv' := [(0, .ref (A qMo)), (1, .int (iI 0)), (2, .int (iI (s1.2 + 1)))]) dX8_hasLetters_45 rfl (Nat.le_of_ble_eq_true rfl) rfl ?_
      refine g_goto (M := mX8_hasLetters) (tgt := 4) dX8_hasLetters_48 (by decide) ?_
      exact b1 _ (Option.some.inj h1).symm
    · have h1 := zfi c12 h1
      refine g_aload_n (M := mX8_hasLetters) dX8_hasLetters_16 0 rfl rfl ?_
      refine k_get (M := mX8_hasLetters) (v := .ref (A (qMo + 1))) dX8_hasLetters_17 kF_X8_7.r qMo (by omega) (hMo.o) rfl ?_
      refine g_aload_n (M := mX8_hasLetters) dX8_hasLetters_20 0 rfl rfl ?_
      refine k_get (M := mX8_hasLetters) (v := .int (iI (VMo.1 5))) dX8_hasLetters_21 kF_X8_113.r qMo (by omega) (hMo.o) rfl ?_
      refine g_iload_n (M := mX8_hasLetters) dX8_hasLetters_24 2 rfl rfl ?_
      refine h_iadd (M := mX8_hasLetters) dX8_hasLetters_25 ?_
      obtain ⟨g14, h1⟩ := zgi h1
      refine k_iald (M := mX8_hasLetters) (len := 600) (f := VMo.2 1) dX8_hasLetters_26 (qMo + 1) (by omega) (hMo.a (d := (0, 600)) 0 rfl) (Nat.le_of_ble_eq_true rfl) g14.1 g14.2 ?_
      refine h_bipush (M := mX8_hasLetters) dX8_hasLetters_27 rfl ?_
      refine h_isub (M := mX8_hasLetters) dX8_hasLetters_29 ?_
      refine g_aload_n (M := mX8_hasLetters) dX8_hasLetters_30 0 rfl rfl ?_
      refine k_get (M := mX8_hasLetters) (v := .ref (A (qMo + 2))) dX8_hasLetters_31 kF_X8_20.r qMo (by omega) (hMo.o) rfl ?_
      refine h_iconst (M := mX8_hasLetters) dX8_hasLetters_34 ?_
      refine k_iald (M := mX8_hasLetters) (len := 351) (f := VMo.2 2) dX8_hasLetters_35 (qMo + 2) (by omega) (hMo.a (d := (0, 351)) 1 rfl) (Nat.le_of_ble_eq_true rfl) (by decide) (by decide) ?_
      obtain ⟨g16, h1⟩ := zgi h1
      refine h_icmp_ge (M := mX8_hasLetters) (tgt := 43) dX8_hasLetters_36 (by decide) g16.1 g16.2 (fun c15 => ?_) (fun c15 => ?_)
      · have h1 := zti c15 h1
        refine h_iconst (M := mX8_hasLetters) dX8_hasLetters_43 ?_
        refine g_istore_n (M := mX8_hasLetters) (lv' := [(0, .ref (A qMo)), (1, .int (iI 0)), (2, .int (iI s1.2))]) dX8_hasLetters_44 rfl (by decide) rfl ?_
        refine h_iinc (M := mX8_hasLetters) (j := 2) (lv' := [(0, .ref (A qMo)), (1, .int (iI 0)), (2, .int (iI (s1.2 + 1)))]) dX8_hasLetters_45 rfl (Nat.le_of_ble_eq_true rfl) rfl ?_
        refine g_goto (M := mX8_hasLetters) (tgt := 4) dX8_hasLetters_48 (by decide) ?_
        exact b1 _ (Option.some.inj h1).symm
      · have h1 := zfi (Int.not_le.mpr c15) h1
        refine h_iconst (M := mX8_hasLetters) dX8_hasLetters_39 ?_
        refine g_goto (M := mX8_hasLetters) (tgt := 44) dX8_hasLetters_40 (by decide) ?_
        refine g_istore_n (M := mX8_hasLetters) (lv' := [(0, .ref (A qMo)), (1, .int (iI 1)), (2, .int (iI s1.2))]) dX8_hasLetters_44 rfl (by decide) rfl ?_
        refine h_iinc (M := mX8_hasLetters) (j := 2) (lv' := [(0, .ref (A qMo)), (1, .int (iI 1)), (2, .int (iI (s1.2 + 1)))]) dX8_hasLetters_45 rfl (Nat.le_of_ble_eq_true rfl) rfl ?_
        refine g_goto (M := mX8_hasLetters) (tgt := 4) dX8_hasLetters_48 (by decide) ?_
        exact b1 _ (Option.some.inj h1).symm
set_option maxHeartbeats 4000000 in
set_option maxRecDepth 100000 in
theorem wX8_toldWord {X : zX} (hX : zOK X) {A : Nat → Nat} {n : Nat} {S : Nat → va_E} {qMo : Nat} {VMo : CV} (hMo : isC X A shMo qMo VMo S) (bMo : qMo + 20 < n) {res : CV × Int} (h : fX8_toldWord VMo = some res) : Con X yX8_toldWord mX8_toldWord 2 0 0 [.ref (A qMo)] (zWs A n S) (zRet (zWs A n (zC X A shMo qMo res.1 S)) (some (.int (iI res.2)))) := by
  refine con_of (lv := [(0, .ref (A qMo))]) (by decide) rfl (fun h => by cases h) rfl (Nat.le_of_ble_eq_true rfl) rfl ?_
  refine g_ws (M := mX8_toldWord) (congrArg (zWs A n) hMo.symm) ?_
  unfold fX8_toldWord at h
  refine g_aload_n (M := mX8_toldWord) dX8_toldWord_0 0 rfl rfl ?_
  obtain ⟨t1, u2, h⟩ := zbi h
  refine g_callVr (M := mX8_toldWord) [] hX dX8_toldWord_1 vX8_isGood kM_X8_139 (wX8_isGood hX zC_self (by omega)  u2) qMo (zWs_at (by omega) (zC_o)) rfl ⟨(Nat.le_of_ble_eq_true rfl), (Nat.le_of_ble_eq_true rfl)⟩ ⟨(Nat.le_of_ble_eq_true rfl), (Nat.le_of_ble_eq_true rfl)⟩ (Nat.le_of_ble_eq_true rfl) ?_
  refine zJn_J (J := fun x8 => G X mX8_toldWord (zPm X 2 0 0 (zRet (zWs A n (zC X A shMo qMo res.1 S)) (some (.int (iI res.2))))) 0 0 20 [(0, .ref (A qMo))] [] (zWs A n (zC X A shMo qMo x8 S))) h (fun x8 h => ?_) (fun j8 h => ?_)
  · refine g_aload_n (M := mX8_toldWord) dX8_toldWord_20 0 rfl rfl ?_
    obtain ⟨t9, u10, h⟩ := zbi h
    refine g_callVr (M := mX8_toldWord) [] hX dX8_toldWord_21 vX8_isGood kM_X8_139 (wX8_isGood hX zC_self (by omega)  u10) qMo (zWs_at (by omega) (zC_o)) rfl ⟨(Nat.le_of_ble_eq_true rfl), (Nat.le_of_ble_eq_true rfl)⟩ ⟨(Nat.le_of_ble_eq_true rfl), (Nat.le_of_ble_eq_true rfl)⟩ (Nat.le_of_ble_eq_true rfl) ?_
    refine zJn_J (J := fun x25 => G X mX8_toldWord (zPm X 2 0 0 (zRet (zWs A n (zC X A shMo qMo res.1 S)) (some (.int (iI res.2))))) 0 0 52 [(0, .ref (A qMo))] [] (zWs A n (zC X A shMo qMo x25 S))) h (fun x25 h => ?_) (fun j25 h => ?_)
    · refine h_iconst (M := mX8_toldWord) dX8_toldWord_52 ?_
      refine g_istore_n (M := mX8_toldWord) (lv' := [(0, .ref (A qMo)), (1, .int (iI 0))]) dX8_toldWord_53 rfl (by decide) rfl ?_
      refine h_iconst (M := mX8_toldWord) dX8_toldWord_54 ?_
      refine g_istore_n (M := mX8_toldWord) (lv' := [(0, .ref (A qMo)), (1, .int (iI 0)), (2, .int (iI 0))]) dX8_toldWord_55 rfl (by decide) rfl ?_
      obtain ⟨x26, l26, h⟩ := zbi h
      have r26 : ∀ y26, y26 = x26 → G X mX8_toldWord (zPm X 2 0 0 (zRet (zWs A n (zC X A shMo qMo res.1 S)) (some (.int (iI res.2))))) 0 0 103 [(0, .ref (A qMo)), (1, .int (iI y26.1))] [] (zWs A n (zC X A shMo qMo x25 S)) := by
        intro y26 ey
        rw [← ey] at h
        refine g_aload_n (M := mX8_toldWord) dX8_toldWord_103 0 rfl rfl ?_
        obtain ⟨t33, u34, h⟩ := zbi h
        refine g_callVr (M := mX8_toldWord) [] hX dX8_toldWord_104 vX8_isGood kM_X8_139 (wX8_isGood hX zC_self (by omega)  u34) qMo (zWs_at (by omega) (zC_o)) rfl ⟨(Nat.le_of_ble_eq_true rfl), (Nat.le_of_ble_eq_true rfl)⟩ ⟨(Nat.le_of_ble_eq_true rfl), (Nat.le_of_ble_eq_true rfl)⟩ (Nat.le_of_ble_eq_true rfl) ?_
        refine h_beq (M := mX8_toldWord) (tgt := 114) dX8_toldWord_107 (by decide) (fun c35 => ?_) (fun c35 => ?_)
        · have h := zfi (zbf c35) h
          refine g_iload_n (M := mX8_toldWord) dX8_toldWord_114 1 rfl rfl ?_
          have e := (Option.some.inj h)
          subst e
          exact g_iret (M := mX8_toldWord) dX8_toldWord_115 rfl (Nat.le_of_ble_eq_true rfl) (Nat.le_of_ble_eq_true rfl) ⟨rfl, rfl⟩
        · have h := zti c35 h
          refine g_aload_n (M := mX8_toldWord) dX8_toldWord_110 0 rfl rfl ?_
          obtain ⟨t36, u37, h⟩ := zbi h
          refine g_callVr (M := mX8_toldWord) [] hX dX8_toldWord_111 vX8_goOn kM_X8_149 (wX8_goOn hX zC_self (by omega)  u37) qMo (zWs_at (by omega) (zC_o)) rfl ⟨(Nat.le_of_ble_eq_true rfl), (Nat.le_of_ble_eq_true rfl)⟩ ⟨(Nat.le_of_ble_eq_true rfl), (Nat.le_of_ble_eq_true rfl)⟩ (Nat.le_of_ble_eq_true rfl) ?_
          refine g_ws (M := mX8_toldWord) (congrArg (zWs A n) zC_over) ?_
          refine g_iload_n (M := mX8_toldWord) dX8_toldWord_114 1 rfl rfl ?_
          have e := (Option.some.inj h)
          subst e
          exact g_iret (M := mX8_toldWord) dX8_toldWord_115 rfl (Nat.le_of_ble_eq_true rfl) (Nat.le_of_ble_eq_true rfl) ⟨rfl, rfl⟩
      refine zLp_J (J := fun s26 => G X mX8_toldWord (zPm X 2 0 0 (zRet (zWs A n (zC X A shMo qMo res.1 S)) (some (.int (iI res.2))))) 0 0 56 [(0, .ref (A qMo)), (1, .int (iI s26.1)), (2, .int (iI s26.2))] [] (zWs A n (zC X A shMo qMo x25 S))) (fun s26 w26 h26 b26 e26 => ?_) _ _ l26
      refine g_iload_n (M := mX8_toldWord) dX8_toldWord_56 2 rfl rfl ?_
      refine g_aload_n (M := mX8_toldWord) dX8_toldWord_57 0 rfl rfl ?_
      refine k_get (M := mX8_toldWord) (v := .ref (A (qMo + 2))) dX8_toldWord_58 kF_X8_20.r qMo (by omega) (zC_o) rfl ?_
      refine h_iconst (M := mX8_toldWord) dX8_toldWord_61 ?_
      refine k_iald (M := mX8_toldWord) (len := 351) (f := x25.2 2) dX8_toldWord_62 (qMo + 2) (by omega) (zC_a (d := (0, 351)) 1 rfl) (Nat.le_of_ble_eq_true rfl) (by decide) (by decide) ?_
      obtain ⟨g39, h26⟩ := zgi h26
      refine h_icmp_ge (M := mX8_toldWord) (tgt := 103) dX8_toldWord_63 (by decide) g39.1 g39.2 (fun c38 => ?_) (fun c38 => ?_)
      · have h26 := zti c38 h26
        refine g_lv (M := mX8_toldWord) [0, 1] rfl ?_
        exact r26 _ (e26 _ (Option.some.inj h26).symm)
      · have h26 := zfi (Int.not_le.mpr c38) h26
        refine g_aload_n (M := mX8_toldWord) dX8_toldWord_66 0 rfl rfl ?_
        obtain ⟨t40, u41, h26⟩ := zbi h26
        refine g_callVr (M := mX8_toldWord) [] hX dX8_toldWord_67 vX8_isGood kM_X8_139 (wX8_isGood hX zC_self (by omega)  u41) qMo (zWs_at (by omega) (zC_o)) rfl ⟨(Nat.le_of_ble_eq_true rfl), (Nat.le_of_ble_eq_true rfl)⟩ ⟨(Nat.le_of_ble_eq_true rfl), (Nat.le_of_ble_eq_true rfl)⟩ (Nat.le_of_ble_eq_true rfl) ?_
        refine h_beq (M := mX8_toldWord) (tgt := 103) dX8_toldWord_70 (by decide) (fun c42 => ?_) (fun c42 => ?_)
        · have h26 := zfi (zbf c42) h26
          refine g_lv (M := mX8_toldWord) [0, 1] rfl ?_
          exact r26 _ (e26 _ (Option.some.inj h26).symm)
        · have h26 := zti c42 h26
          refine g_aload_n (M := mX8_toldWord) dX8_toldWord_73 0 rfl rfl ?_
          refine k_get (M := mX8_toldWord) (v := .ref (A (qMo + 2))) dX8_toldWord_74 kF_X8_20.r qMo (by omega) (zC_o) rfl ?_
          refine h_iconst (M := mX8_toldWord) dX8_toldWord_77 ?_
          refine k_iald (M := mX8_toldWord) (len := 351) (f := x25.2 2) dX8_toldWord_78 (qMo + 2) (by omega) (zC_a (d := (0, 351)) 1 rfl) (Nat.le_of_ble_eq_true rfl) (by decide) (by decide) ?_
          refine g_iload_n (M := mX8_toldWord) dX8_toldWord_79 1 rfl rfl ?_
          refine h_imul (M := mX8_toldWord) dX8_toldWord_80 ?_
          refine g_aload_n (M := mX8_toldWord) dX8_toldWord_81 0 rfl rfl ?_
          refine k_get (M := mX8_toldWord) (v := .ref (A (qMo + 1))) dX8_toldWord_82 kF_X8_7.r qMo (by omega) (zC_o) rfl ?_
          refine g_aload_n (M := mX8_toldWord) dX8_toldWord_85 0 rfl rfl ?_
          refine k_get (M := mX8_toldWord) (v := .int (iI (x25.1 5))) dX8_toldWord_86 kF_X8_113.r qMo (by omega) (zC_o) rfl ?_
          refine g_iload_n (M := mX8_toldWord) dX8_toldWord_89 2 rfl rfl ?_
          refine h_iadd (M := mX8_toldWord) dX8_toldWord_90 ?_
          obtain ⟨g43, h26⟩ := zgi h26
          refine k_iald (M := mX8_toldWord) (len := 600) (f := x25.2 1) dX8_toldWord_91 (qMo + 1) (by omega) (zC_a (d := (0, 600)) 0 rfl) (Nat.le_of_ble_eq_true rfl) g43.1 g43.2 ?_
          refine h_iadd (M := mX8_toldWord) dX8_toldWord_92 ?_
          refine h_bipush (M := mX8_toldWord) dX8_toldWord_93 rfl ?_
          refine h_isub (M := mX8_toldWord) dX8_toldWord_95 ?_
          refine g_istore_n (M := mX8_toldWord) (lv' := [(0, .ref (A qMo)), (1, .int (iI ((((x25.2 2 1) * s26.1) + (x25.2 1 ((x25.1 5) + s26.2))) - 97))), (2, .int (iI s26.2))]) dX8_toldWord_96 rfl (by decide) rfl ?_
          refine h_iinc (M := mX8_toldWord) (j := 2) (lv' := [(0, .ref (A qMo)), (1, .int (iI ((((x25.2 2 1) * s26.1) + (x25.2 1 ((x25.1 5) + s26.2))) - 97))), (2, .int (iI (s26.2 + 1)))]) dX8_toldWord_97 rfl (Nat.le_of_ble_eq_true rfl) rfl ?_
          refine g_goto (M := mX8_toldWord) (tgt := 56) dX8_toldWord_100 (by decide) ?_
          exact b26 _ (Option.some.inj h26).symm
    · refine h_beq (M := mX8_toldWord) (tgt := 52) dX8_toldWord_24 (by decide) (fun c44 => ?_) (fun c44 => ?_)
      · have h := zfi (zbf c44) h
        exact j25 x8 h
      · have h := zti c44 h
        refine g_aload_n (M := mX8_toldWord) dX8_toldWord_27 0 rfl rfl ?_
        refine k_get (M := mX8_toldWord) (v := .int (iI (x8.1 8))) dX8_toldWord_28 kF_X8_123.r qMo (by omega) (zC_o) rfl ?_
        refine g_aload_n (M := mX8_toldWord) dX8_toldWord_31 0 rfl rfl ?_
        refine k_get (M := mX8_toldWord) (v := .ref (A (qMo + 2))) dX8_toldWord_32 kF_X8_20.r qMo (by omega) (zC_o) rfl ?_
        refine h_iconst (M := mX8_toldWord) dX8_toldWord_35 ?_
        refine k_iald (M := mX8_toldWord) (len := 351) (f := x8.2 2) dX8_toldWord_36 (qMo + 2) (by omega) (zC_a (d := (0, 351)) 1 rfl) (Nat.le_of_ble_eq_true rfl) (by decide) (by decide) ?_
        refine zJn_J (J := fun x50 => G X mX8_toldWord (zPm X 2 0 0 (zRet (zWs A n (zC X A shMo qMo res.1 S)) (some (.int (iI res.2))))) 0 0 47 [(0, .ref (A qMo))] [] (zWs A n (zC X A shMo qMo x8 S))) h (fun x50 h => ?_) (fun j50 h => ?_)
        · refine g_aload_n (M := mX8_toldWord) dX8_toldWord_47 0 rfl rfl ?_
          refine h_iconst (M := mX8_toldWord) dX8_toldWord_48 ?_
          obtain ⟨t51, u52, h⟩ := zbi h
          refine g_callVr (M := mX8_toldWord) [.int (iI 3)] hX dX8_toldWord_49 vX8_wrong kM_X8_146 (wX8_wrong hX zC_self (by omega)  u52) qMo (zWs_at (by omega) (zC_o)) rfl ⟨(Nat.le_of_ble_eq_true rfl), (Nat.le_of_ble_eq_true rfl)⟩ ⟨(Nat.le_of_ble_eq_true rfl), (Nat.le_of_ble_eq_true rfl)⟩ (Nat.le_of_ble_eq_true rfl) ?_
          refine g_ws (M := mX8_toldWord) (congrArg (zWs A n) zC_over) ?_
          exact j25 t51 h
        · obtain ⟨g54, h⟩ := zgi h
          refine h_icmp_ne (M := mX8_toldWord) (tgt := 47) dX8_toldWord_37 (by decide) g54.1 g54.2 (fun c53 => ?_) (fun c53 => ?_)
          · have h := zfi c53 h
            exact j50 () h
          · have h := zti c53 h
            refine g_aload_n (M := mX8_toldWord) dX8_toldWord_40 0 rfl rfl ?_
            obtain ⟨t55, u56, h⟩ := zbi h
            refine g_callVr (M := mX8_toldWord) [] hX dX8_toldWord_41 vX8_hasLetters kM_X8_176 (wX8_hasLetters hX zC_self (by omega)  u56) qMo (zWs_at (by omega) (zC_o)) rfl ⟨(Nat.le_of_ble_eq_true rfl), (Nat.le_of_ble_eq_true rfl)⟩ ⟨(Nat.le_of_ble_eq_true rfl), (Nat.le_of_ble_eq_true rfl)⟩ (Nat.le_of_ble_eq_true rfl) ?_
            refine h_bne (M := mX8_toldWord) (tgt := 52) dX8_toldWord_44 (by decide) (fun c57 => ?_) (fun c57 => ?_)
            · have h := zti c57 h
              exact j25 x8 h
            · have h := zfi (zbf c57) h
              exact j50 () h
  · refine h_beq (M := mX8_toldWord) (tgt := 20) dX8_toldWord_4 (by decide) (fun c58 => ?_) (fun c58 => ?_)
    · have h := zfi (zbf c58) h
      exact j8 VMo h
    · have h := zti c58 h
      refine g_aload_n (M := mX8_toldWord) dX8_toldWord_7 0 rfl rfl ?_
      refine k_get (M := mX8_toldWord) (v := .int (iI (VMo.1 6))) dX8_toldWord_8 kF_X8_126.r qMo (by omega) (zC_o) rfl ?_
      refine h_iconst (M := mX8_toldWord) dX8_toldWord_11 ?_
      obtain ⟨g60, h⟩ := zgi h
      refine h_icmp_eq (M := mX8_toldWord) (tgt := 20) dX8_toldWord_12 (by decide) g60 (by decide) (fun c59 => ?_) (fun c59 => ?_)
      · have h := zti c59 h
        exact j8 VMo h
      · have h := zfi c59 h
        refine g_aload_n (M := mX8_toldWord) dX8_toldWord_15 0 rfl rfl ?_
        refine h_iconst (M := mX8_toldWord) dX8_toldWord_16 ?_
        obtain ⟨t61, u62, h⟩ := zbi h
        refine g_callVr (M := mX8_toldWord) [.int (iI 1)] hX dX8_toldWord_17 vX8_wrong kM_X8_146 (wX8_wrong hX zC_self (by omega)  u62) qMo (zWs_at (by omega) (zC_o)) rfl ⟨(Nat.le_of_ble_eq_true rfl), (Nat.le_of_ble_eq_true rfl)⟩ ⟨(Nat.le_of_ble_eq_true rfl), (Nat.le_of_ble_eq_true rfl)⟩ (Nat.le_of_ble_eq_true rfl) ?_
        refine g_ws (M := mX8_toldWord) (congrArg (zWs A n) zC_over) ?_
        exact j8 t61 h
