set_option maxHeartbeats 4000000 in
set_option maxRecDepth 100000 in
theorem wX2_behind {X : zX} (hX : zOK X) {A : Nat → Nat} {n : Nat} {S : Nat → va_E} {qSc : Nat} {VSc : CV} (hSc : isC X A shSc qSc VSc S) (bSc : qSc + 5 < n) {a1 : Int} {res : Int} (h : fX2_behind VSc a1 = some res) : Con X yX2_behind mX2_behind 1 0 0 [.ref (A qSc), .int (iI a1)] (zWs A n S) (zRet (zWs A n S) (some (.int (iI res)))) := by
  refine con_of (lv := [(0, .ref (A qSc)), (1, .int (iI a1))]) (by decide) rfl (fun h => by cases h) rfl (Nat.le_of_ble_eq_true rfl) rfl ?_
  unfold fX2_behind at h
  refine g_iload_n (M := mX2_behind) dX2_behind_0 1 rfl rfl ?_
  refine h_iconst (M := mX2_behind) dX2_behind_1 ?_
  refine h_iadd (M := mX2_behind) dX2_behind_2 ?_
  refine g_aload_n (M := mX2_behind) dX2_behind_3 0 rfl rfl ?_
  refine k_get (M := mX2_behind) (v := .ref (A (qSc + 4))) dX2_behind_4 kF_X2_21.r qSc (by omega) (hSc.o) rfl ?_
  refine g_iload_n (M := mX2_behind) dX2_behind_7 1 rfl rfl ?_
  obtain ⟨g1, h⟩ := zgi h
  refine k_iald (M := mX2_behind) (len := 30) (f := VSc.2 4) dX2_behind_8 (qSc + 4) (by omega) (hSc.a (d := (0, 30)) 3 rfl) (Nat.le_of_ble_eq_true rfl) g1.1 g1.2 ?_
  obtain ⟨g2, h⟩ := zgi h
  refine h_max (M := mX2_behind) dX2_behind_9 kM_X2_27 g2.1 g2.2 (Nat.le_of_ble_eq_true rfl) (Nat.le_of_ble_eq_true rfl) (Nat.le_of_ble_eq_true rfl) (Nat.le_of_ble_eq_true rfl) ?_
  have e := (Option.some.inj h)
  subst e
  exact g_iret (M := mX2_behind) dX2_behind_12 rfl (Nat.le_of_ble_eq_true rfl) (Nat.le_of_ble_eq_true rfl) ⟨rfl, rfl⟩
set_option maxHeartbeats 4000000 in
set_option maxRecDepth 100000 in
theorem wX2_closeRepeat {X : zX} (hX : zOK X) {A : Nat → Nat} {n : Nat} {S : Nat → va_E} {qSc : Nat} {VSc : CV} (hSc : isC X A shSc qSc VSc S) (bSc : qSc + 5 < n) {qTo : Nat} {VTo : CV} (hTo : isC X A shTo qTo VTo S) (bTo : qTo + 1 < n) (dScTo : qSc + 5 < qTo ∨ qTo + 1 < qSc) {res : CV × CV} (h : fX2_closeRepeat VSc VTo = some res) : Con X yX2_closeRepeat mX2_closeRepeat 4 0 0 [.ref (A qSc), .ref (A qTo)] (zWs A n S) (zRet (zWs A n (zC X A shTo qTo res.2 (zC X A shSc qSc res.1 S))) none) := by
  refine con_of (lv := [(0, .ref (A qSc)), (1, .ref (A qTo))]) (by decide) rfl (fun h => by cases h) rfl (Nat.le_of_ble_eq_true rfl) rfl ?_
  refine g_ws (M := mX2_closeRepeat) (congrArg (zWs A n) hSc.symm) ?_
  refine g_ws (M := mX2_closeRepeat) (congrArg (zWs A n) (isC.keepN hTo 5 1 rfl rfl (by omega)).symm) ?_
  unfold fX2_closeRepeat at h
  refine g_aload_n (M := mX2_closeRepeat) dX2_closeRepeat_0 0 rfl rfl ?_
  refine g_dup (M := mX2_closeRepeat) dX2_closeRepeat_1 rfl ?_
  refine k_get (M := mX2_closeRepeat) (v := .int (iI (VSc.1 6))) dX2_closeRepeat_2 kF_X2_37.r qSc (by omega) ((zC_skipN 1 rfl (by omega)).trans (zC_o)) rfl ?_
  refine h_iconst (M := mX2_closeRepeat) dX2_closeRepeat_5 ?_
  refine h_isub (M := mX2_closeRepeat) dX2_closeRepeat_6 ?_
  refine g_ws (M := mX2_closeRepeat) (congrArg (fun z => zWs A n (z)) (zC_commN 1 5 rfl rfl (by omega))) ?_
  refine c_put (M := mX2_closeRepeat) (k := 6) dX2_closeRepeat_7 kF_X2_37 (by omega) rfl rfl (by decide) rfl rfl ?_
  refine g_aload_n (M := mX2_closeRepeat) dX2_closeRepeat_10 0 rfl rfl ?_
  refine k_get (M := mX2_closeRepeat) (v := .ref (A (qSc + 4))) dX2_closeRepeat_11 kF_X2_21.r qSc (by omega) (zC_o) rfl ?_
  refine g_aload_n (M := mX2_closeRepeat) dX2_closeRepeat_14 0 rfl rfl ?_
  refine k_get (M := mX2_closeRepeat) (v := .ref (A (qSc + 5))) dX2_closeRepeat_15 kF_X2_24.r qSc (by omega) (zC_o) rfl ?_
  refine g_aload_n (M := mX2_closeRepeat) dX2_closeRepeat_18 0 rfl rfl ?_
  refine k_get (M := mX2_closeRepeat) (v := .int (iI ((VSc.1 6) - 1))) dX2_closeRepeat_19 kF_X2_37.r qSc (by omega) (zC_o) rfl ?_
  obtain ⟨g1, h⟩ := zgi h
  refine k_iald (M := mX2_closeRepeat) (len := 2) (f := VSc.2 5) dX2_closeRepeat_22 (qSc + 5) (by omega) (zC_a (d := (0, 2)) 4 rfl) (Nat.le_of_ble_eq_true rfl) g1.1 g1.2 ?_
  refine g_aload_n (M := mX2_closeRepeat) dX2_closeRepeat_23 0 rfl rfl ?_
  refine k_get (M := mX2_closeRepeat) (v := .int (iI (VSc.1 3))) dX2_closeRepeat_24 kF_X2_33.r qSc (by omega) (zC_o) rfl ?_
  obtain ⟨g2, h⟩ := zgi h
  refine c_iast (M := mX2_closeRepeat) (len := 30) (d := (0, 30)) dX2_closeRepeat_27 3 rfl rfl (by omega) (Nat.le_of_ble_eq_true rfl) g2.1 g2.2 ?_
  refine g_aload_n (M := mX2_closeRepeat) dX2_closeRepeat_28 1 rfl rfl ?_
  refine g_ws (M := mX2_closeRepeat) (congrArg (fun z => zWs A n (z)) (zC_commN 5 1 rfl rfl (by omega))) ?_
  obtain ⟨t3, u4, h⟩ := zbi h
  refine g_callVr (M := mX2_closeRepeat) [] hX dX2_closeRepeat_29 vX6_next kM_X2_67 (wX6_next hX zC_self (by omega)  u4) qTo (zWs_at (by omega) (zC_o)) rfl ⟨(Nat.le_of_ble_eq_true rfl), (Nat.le_of_ble_eq_true rfl)⟩ ⟨(Nat.le_of_ble_eq_true rfl), (Nat.le_of_ble_eq_true rfl)⟩ (Nat.le_of_ble_eq_true rfl) ?_
  refine g_ws (M := mX2_closeRepeat) (congrArg (zWs A n) zC_over) ?_
  refine g_aload_n (M := mX2_closeRepeat) dX2_closeRepeat_32 1 rfl rfl ?_
  refine h_bipush (M := mX2_closeRepeat) dX2_closeRepeat_33 rfl ?_
  obtain ⟨t5, u6, h⟩ := zbi h
  refine g_callVr (M := mX2_closeRepeat) [.int (iI 59)] hX dX2_closeRepeat_35 vX6_passMark kM_X2_70 (wX6_passMark hX zC_self (by omega)  u6) qTo (zWs_at (by omega) (zC_o)) rfl ⟨(Nat.le_of_ble_eq_true rfl), (Nat.le_of_ble_eq_true rfl)⟩ ⟨(Nat.le_of_ble_eq_true rfl), (Nat.le_of_ble_eq_true rfl)⟩ (Nat.le_of_ble_eq_true rfl) ?_
  refine g_ws (M := mX2_closeRepeat) (congrArg (zWs A n) zC_over) ?_
  have e := (Option.some.inj h)
  subst e
  exact g_vret (M := mX2_closeRepeat) dX2_closeRepeat_38 rfl (Nat.le_of_ble_eq_true rfl) (Nat.le_of_ble_eq_true rfl) ⟨rfl, rfl⟩
set_option maxHeartbeats 4000000 in
set_option maxRecDepth 100000 in
theorem wX2_finishCommand {X : zX} (hX : zOK X) {A : Nat → Nat} {n : Nat} {S : Nat → va_E} {qSc : Nat} {VSc : CV} (hSc : isC X A shSc qSc VSc S) (bSc : qSc + 5 < n) {qTo : Nat} {VTo : CV} (hTo : isC X A shTo qTo VTo S) (bTo : qTo + 1 < n) (dScTo : qSc + 5 < qTo ∨ qTo + 1 < qSc) {a1 : Int} {res : CV × CV} (h : fX2_finishCommand VSc VTo a1 = some res) : Con X yX2_finishCommand mX2_finishCommand 4 0 0 [.ref (A qSc), .int (iI a1), .ref (A qTo)] (zWs A n S) (zRet (zWs A n (zC X A shTo qTo res.2 (zC X A shSc qSc res.1 S))) none) := by
  refine con_of (lv := [(0, .ref (A qSc)), (1, .int (iI a1)), (2, .ref (A qTo))]) (by decide) rfl (fun h => by cases h) rfl (Nat.le_of_ble_eq_true rfl) rfl ?_
  refine g_ws (M := mX2_finishCommand) (congrArg (zWs A n) hSc.symm) ?_
  refine g_ws (M := mX2_finishCommand) (congrArg (zWs A n) (isC.keepN hTo 5 1 rfl rfl (by omega)).symm) ?_
  unfold fX2_finishCommand at h
  refine g_iload_n (M := mX2_finishCommand) dX2_finishCommand_0 1 rfl rfl ?_
  refine h_bipush (M := mX2_finishCommand) dX2_finishCommand_1 rfl ?_
  obtain ⟨g2, h⟩ := zgi h
  refine h_icmp_ne (M := mX2_finishCommand) (tgt := 40) dX2_finishCommand_3 (by decide) g2 (by decide) (fun c1 => ?_) (fun c1 => ?_)
  · have h := zfi c1 h
    refine g_aload_n (M := mX2_finishCommand) dX2_finishCommand_40 2 rfl rfl ?_
    refine h_bipush (M := mX2_finishCommand) dX2_finishCommand_41 rfl ?_
    obtain ⟨t3, u4, h⟩ := zbi h
    refine g_callVr (M := mX2_finishCommand) [.int (iI 59)] hX dX2_finishCommand_43 vX6_passMark kM_X2_70 (wX6_passMark hX zC_self (by omega)  u4) qTo (zWs_at (by omega) (zC_o)) rfl ⟨(Nat.le_of_ble_eq_true rfl), (Nat.le_of_ble_eq_true rfl)⟩ ⟨(Nat.le_of_ble_eq_true rfl), (Nat.le_of_ble_eq_true rfl)⟩ (Nat.le_of_ble_eq_true rfl) ?_
    refine g_ws (M := mX2_finishCommand) (congrArg (zWs A n) zC_over) ?_
    have e := (Option.some.inj h)
    subst e
    exact g_vret (M := mX2_finishCommand) dX2_finishCommand_46 rfl (Nat.le_of_ble_eq_true rfl) (Nat.le_of_ble_eq_true rfl) ⟨rfl, rfl⟩
  · have h := zti c1 h
    refine g_aload_n (M := mX2_finishCommand) dX2_finishCommand_6 2 rfl rfl ?_
    refine h_bipush (M := mX2_finishCommand) dX2_finishCommand_7 rfl ?_
    obtain ⟨t5, u6, h⟩ := zbi h
    refine g_callVr (M := mX2_finishCommand) [.int (iI 40)] hX dX2_finishCommand_9 vX6_passMark kM_X2_70 (wX6_passMark hX zC_self (by omega)  u6) qTo (zWs_at (by omega) (zC_o)) rfl ⟨(Nat.le_of_ble_eq_true rfl), (Nat.le_of_ble_eq_true rfl)⟩ ⟨(Nat.le_of_ble_eq_true rfl), (Nat.le_of_ble_eq_true rfl)⟩ (Nat.le_of_ble_eq_true rfl) ?_
    refine g_ws (M := mX2_finishCommand) (congrArg (zWs A n) zC_over) ?_
    refine g_aload_n (M := mX2_finishCommand) dX2_finishCommand_12 0 rfl rfl ?_
    refine k_get (M := mX2_finishCommand) (v := .ref (A (qSc + 5))) dX2_finishCommand_13 kF_X2_24.r qSc (by omega) ((zC_skipN 1 rfl (by omega)).trans (zC_o)) rfl ?_
    refine g_aload_n (M := mX2_finishCommand) dX2_finishCommand_16 0 rfl rfl ?_
    refine k_get (M := mX2_finishCommand) (v := .int (iI (VSc.1 6))) dX2_finishCommand_17 kF_X2_37.r qSc (by omega) ((zC_skipN 1 rfl (by omega)).trans (zC_o)) rfl ?_
    refine g_aload_n (M := mX2_finishCommand) dX2_finishCommand_20 0 rfl rfl ?_
    refine k_get (M := mX2_finishCommand) (v := .int (iI (VSc.1 3))) dX2_finishCommand_21 kF_X2_33.r qSc (by omega) ((zC_skipN 1 rfl (by omega)).trans (zC_o)) rfl ?_
    refine h_iconst (M := mX2_finishCommand) dX2_finishCommand_24 ?_
    refine h_isub (M := mX2_finishCommand) dX2_finishCommand_25 ?_
    obtain ⟨g7, h⟩ := zgi h
    refine g_ws (M := mX2_finishCommand) (congrArg (fun z => zWs A n (z)) (zC_commN 1 5 rfl rfl (by omega))) ?_
    refine c_iast (M := mX2_finishCommand) (len := 2) (d := (0, 2)) dX2_finishCommand_26 4 rfl rfl (by omega) (Nat.le_of_ble_eq_true rfl) g7.1 g7.2 ?_
    refine g_aload_n (M := mX2_finishCommand) dX2_finishCommand_27 0 rfl rfl ?_
    refine g_dup (M := mX2_finishCommand) dX2_finishCommand_28 rfl ?_
    refine k_get (M := mX2_finishCommand) (v := .int (iI (VSc.1 6))) dX2_finishCommand_29 kF_X2_37.r qSc (by omega) (zC_o) rfl ?_
    refine h_iconst (M := mX2_finishCommand) dX2_finishCommand_32 ?_
    refine h_iadd (M := mX2_finishCommand) dX2_finishCommand_33 ?_
    refine c_put (M := mX2_finishCommand) (k := 6) dX2_finishCommand_34 kF_X2_37 (by omega) rfl rfl (by decide) rfl rfl ?_
    refine g_goto (M := mX2_finishCommand) (tgt := 46) dX2_finishCommand_37 (by decide) ?_
    refine g_ws (M := mX2_finishCommand) (congrArg (fun z => zWs A n (z)) (zC_commN 5 1 rfl rfl (by omega))) ?_
    have e := (Option.some.inj h)
    subst e
    exact g_vret (M := mX2_finishCommand) dX2_finishCommand_46 rfl (Nat.le_of_ble_eq_true rfl) (Nat.le_of_ble_eq_true rfl) ⟨rfl, rfl⟩
set_option maxHeartbeats 4000000 in
set_option maxRecDepth 100000 in
theorem wX2_hasName {X : zX} (hX : zOK X) {A : Nat → Nat} {n : Nat} {S : Nat → va_E} {a1 : Int} {res : Bool} (h : fX2_hasName a1 = some res) : Con X yX2_hasName mX2_hasName 0 0 0 [.int (iI a1)] (zWs A n S) (zRet (zWs A n S) (some (.int (iI (b2 res))))) := by
  refine con_of (lv := [(0, .int (iI a1))]) (by decide) rfl (fun h => by cases h) rfl (Nat.le_of_ble_eq_true rfl) rfl ?_
  unfold fX2_hasName at h
  refine g_iload_n (M := mX2_hasName) dX2_hasName_0 0 rfl rfl ?_
  refine h_iconst (M := mX2_hasName) dX2_hasName_1 ?_
  obtain ⟨g2, h⟩ := zgi h
  refine h_icmp_eq (M := mX2_hasName) (tgt := 27) dX2_hasName_2 (by decide) g2 (by decide) (fun c1 => ?_) (fun c1 => ?_)
  · have h := zti c1 h
    refine h_iconst (M := mX2_hasName) dX2_hasName_27 ?_
    refine g_goto (M := mX2_hasName) (tgt := 32) dX2_hasName_28 (by decide) ?_
    have e := (Option.some.inj h)
    subst e
    exact g_zret (M := mX2_hasName) .boolean dX2_hasName_32 rfl rfl (Nat.le_of_ble_eq_true rfl) (Nat.le_of_ble_eq_true rfl) ⟨rfl, rfl⟩
  · have h := zfi c1 h
    refine g_iload_n (M := mX2_hasName) dX2_hasName_5 0 rfl rfl ?_
    refine h_iconst (M := mX2_hasName) dX2_hasName_6 ?_
    refine h_icmp_eq (M := mX2_hasName) (tgt := 27) dX2_hasName_7 (by decide) g2 (by decide) (fun c3 => ?_) (fun c3 => ?_)
    · have h := zti c3 h
      refine h_iconst (M := mX2_hasName) dX2_hasName_27 ?_
      refine g_goto (M := mX2_hasName) (tgt := 32) dX2_hasName_28 (by decide) ?_
      have e := (Option.some.inj h)
      subst e
      exact g_zret (M := mX2_hasName) .boolean dX2_hasName_32 rfl rfl (Nat.le_of_ble_eq_true rfl) (Nat.le_of_ble_eq_true rfl) ⟨rfl, rfl⟩
    · have h := zfi c3 h
      refine g_iload_n (M := mX2_hasName) dX2_hasName_10 0 rfl rfl ?_
      refine h_iconst (M := mX2_hasName) dX2_hasName_11 ?_
      refine h_icmp_eq (M := mX2_hasName) (tgt := 27) dX2_hasName_12 (by decide) g2 (by decide) (fun c4 => ?_) (fun c4 => ?_)
      · have h := zti c4 h
        refine h_iconst (M := mX2_hasName) dX2_hasName_27 ?_
        refine g_goto (M := mX2_hasName) (tgt := 32) dX2_hasName_28 (by decide) ?_
        have e := (Option.some.inj h)
        subst e
        exact g_zret (M := mX2_hasName) .boolean dX2_hasName_32 rfl rfl (Nat.le_of_ble_eq_true rfl) (Nat.le_of_ble_eq_true rfl) ⟨rfl, rfl⟩
      · have h := zfi c4 h
        refine g_iload_n (M := mX2_hasName) dX2_hasName_15 0 rfl rfl ?_
        refine h_bipush (M := mX2_hasName) dX2_hasName_16 rfl ?_
        refine h_icmp_eq (M := mX2_hasName) (tgt := 27) dX2_hasName_18 (by decide) g2 (by decide) (fun c5 => ?_) (fun c5 => ?_)
        · have h := zti c5 h
          refine h_iconst (M := mX2_hasName) dX2_hasName_27 ?_
          refine g_goto (M := mX2_hasName) (tgt := 32) dX2_hasName_28 (by decide) ?_
          have e := (Option.some.inj h)
          subst e
          exact g_zret (M := mX2_hasName) .boolean dX2_hasName_32 rfl rfl (Nat.le_of_ble_eq_true rfl) (Nat.le_of_ble_eq_true rfl) ⟨rfl, rfl⟩
        · have h := zfi c5 h
          refine g_iload_n (M := mX2_hasName) dX2_hasName_21 0 rfl rfl ?_
          refine h_bipush (M := mX2_hasName) dX2_hasName_22 rfl ?_
          refine h_icmp_ne (M := mX2_hasName) (tgt := 31) dX2_hasName_24 (by decide) g2 (by decide) (fun c6 => ?_) (fun c6 => ?_)
          · have h := zfi c6 h
            refine h_iconst (M := mX2_hasName) dX2_hasName_31 ?_
            have e := (Option.some.inj h)
            subst e
            exact g_zret (M := mX2_hasName) .boolean dX2_hasName_32 rfl rfl (Nat.le_of_ble_eq_true rfl) (Nat.le_of_ble_eq_true rfl) ⟨rfl, rfl⟩
          · have h := zti c6 h
            refine h_iconst (M := mX2_hasName) dX2_hasName_27 ?_
            refine g_goto (M := mX2_hasName) (tgt := 32) dX2_hasName_28 (by decide) ?_
            have e := (Option.some.inj h)
            subst e
            exact g_zret (M := mX2_hasName) .boolean dX2_hasName_32 rfl rfl (Nat.le_of_ble_eq_true rfl) (Nat.le_of_ble_eq_true rfl) ⟨rfl, rfl⟩
set_option maxHeartbeats 4000000 in
set_option maxRecDepth 100000 in
theorem wX2_isAtEnd {X : zX} (hX : zOK X) {A : Nat → Nat} {n : Nat} {S : Nat → va_E} {qSc : Nat} {VSc : CV} (hSc : isC X A shSc qSc VSc S) (bSc : qSc + 5 < n) {qTo : Nat} {VTo : CV} (hTo : isC X A shTo qTo VTo S) (bTo : qTo + 1 < n) {res : Bool} (h : fX2_isAtEnd VSc VTo = some res) : Con X yX2_isAtEnd mX2_isAtEnd 0 0 0 [.ref (A qSc), .ref (A qTo)] (zWs A n S) (zRet (zWs A n S) (some (.int (iI (b2 res))))) := by
  refine con_of (lv := [(0, .ref (A qSc)), (1, .ref (A qTo))]) (by decide) rfl (fun h => by cases h) rfl (Nat.le_of_ble_eq_true rfl) rfl ?_
  unfold fX2_isAtEnd at h
  refine g_aload_n (M := mX2_isAtEnd) dX2_isAtEnd_0 0 rfl rfl ?_
  refine k_get (M := mX2_isAtEnd) (v := .int (iI (VSc.1 6))) dX2_isAtEnd_1 kF_X2_37.r qSc (by omega) (hSc.o) rfl ?_
  obtain ⟨g2, h⟩ := zgi h
  refine h_if_ne (M := mX2_isAtEnd) (tgt := 18) dX2_isAtEnd_4 (by decide) g2 (fun c1 => ?_) (fun c1 => ?_)
  · have h := zfi c1 h
    refine h_iconst (M := mX2_isAtEnd) dX2_isAtEnd_18 ?_
    have e := (Option.some.inj h)
    subst e
    exact g_zret (M := mX2_isAtEnd) .boolean dX2_isAtEnd_19 rfl rfl (Nat.le_of_ble_eq_true rfl) (Nat.le_of_ble_eq_true rfl) ⟨rfl, rfl⟩
  · have h := zti c1 h
    refine g_aload_n (M := mX2_isAtEnd) dX2_isAtEnd_7 1 rfl rfl ?_
    refine k_get (M := mX2_isAtEnd) (v := .int (iI (VTo.1 2))) dX2_isAtEnd_8 kF_X2_64.r qTo (by omega) (hTo.o) rfl ?_
    obtain ⟨g4, h⟩ := zgi h
    refine h_if_ne (M := mX2_isAtEnd) (tgt := 18) dX2_isAtEnd_11 (by decide) g4 (fun c3 => ?_) (fun c3 => ?_)
    · have h := zfi c3 h
      refine h_iconst (M := mX2_isAtEnd) dX2_isAtEnd_18 ?_
      have e := (Option.some.inj h)
      subst e
      exact g_zret (M := mX2_isAtEnd) .boolean dX2_isAtEnd_19 rfl rfl (Nat.le_of_ble_eq_true rfl) (Nat.le_of_ble_eq_true rfl) ⟨rfl, rfl⟩
    · have h := zti c3 h
      refine h_iconst (M := mX2_isAtEnd) dX2_isAtEnd_14 ?_
      refine g_goto (M := mX2_isAtEnd) (tgt := 19) dX2_isAtEnd_15 (by decide) ?_
      have e := (Option.some.inj h)
      subst e
      exact g_zret (M := mX2_isAtEnd) .boolean dX2_isAtEnd_19 rfl rfl (Nat.le_of_ble_eq_true rfl) (Nat.le_of_ble_eq_true rfl) ⟨rfl, rfl⟩
set_option maxHeartbeats 4000000 in
set_option maxRecDepth 100000 in
theorem wX2_kindOf {X : zX} (hX2 : zOK2 X) {A : Nat → Nat} {n : Nat} {S : Nat → va_E} {qTo : Nat} {VTo : CV} (hTo : isC X A shTo qTo VTo S) (bTo : qTo + 1 < n) {res : Int} (h : fX2_kindOf VTo = some res) : Con X yX2_kindOf mX2_kindOf 5 0 0 [.ref (A qTo)] (zWs A n S) (zRet (zWs A n S) (some (.int (iI res)))) := by
  refine con_of (lv := [(0, .ref (A qTo))]) (by decide) rfl (fun h => by cases h) rfl (Nat.le_of_ble_eq_true rfl) rfl ?_
  have hX := hX2.1
  unfold fX2_kindOf at h
  refine g_aload_n (M := mX2_kindOf) dX2_kindOf_0 0 rfl rfl ?_
  refine g_ldcS (M := mX2_kindOf) (tx := "choose") dX2_kindOf_1 (hX2.2.2.2 ("HiddenWords$Script", 98, "choose") (by decide)).1 ?_
  obtain ⟨t1, u2, h⟩ := zbi h
  refine g_callVr (M := mX2_kindOf) [.ref (X.2.2.2.2.2 ("HiddenWords$Script", 98))] hX dX2_kindOf_3 vX6_isWord kM_X2_100 (wX6_isWord hX2 hTo (by omega)  (hX2.2.2.2 ("HiddenWords$Script", 98, "choose") (by decide)).2 u2) qTo (zWs_at (by omega) (hTo.o)) rfl ⟨(Nat.le_of_ble_eq_true rfl), (Nat.le_of_ble_eq_true rfl)⟩ ⟨(Nat.le_of_ble_eq_true rfl), (Nat.le_of_ble_eq_true rfl)⟩ (Nat.le_of_ble_eq_true rfl) ?_
  refine h_beq (M := mX2_kindOf) (tgt := 11) dX2_kindOf_6 (by decide) (fun c3 => ?_) (fun c3 => ?_)
  · have h := zfi (zbf c3) h
    refine g_aload_n (M := mX2_kindOf) dX2_kindOf_11 0 rfl rfl ?_
    refine g_ldcS (M := mX2_kindOf) (tx := "clear") dX2_kindOf_12 (hX2.2.2.2 ("HiddenWords$Script", 104, "clear") (by decide)).1 ?_
    obtain ⟨t4, u5, h⟩ := zbi h
    refine g_callVr (M := mX2_kindOf) [.ref (X.2.2.2.2.2 ("HiddenWords$Script", 104))] hX dX2_kindOf_14 vX6_isWord kM_X2_100 (wX6_isWord hX2 hTo (by omega)  (hX2.2.2.2 ("HiddenWords$Script", 104, "clear") (by decide)).2 u5) qTo (zWs_at (by omega) (hTo.o)) rfl ⟨(Nat.le_of_ble_eq_true rfl), (Nat.le_of_ble_eq_true rfl)⟩ ⟨(Nat.le_of_ble_eq_true rfl), (Nat.le_of_ble_eq_true rfl)⟩ (Nat.le_of_ble_eq_true rfl) ?_
    refine h_beq (M := mX2_kindOf) (tgt := 22) dX2_kindOf_17 (by decide) (fun c6 => ?_) (fun c6 => ?_)
    · have h := zfi (zbf c6) h
      refine g_aload_n (M := mX2_kindOf) dX2_kindOf_22 0 rfl rfl ?_
      refine g_ldcS (M := mX2_kindOf) (tx := "better") dX2_kindOf_23 (hX2.2.2.2 ("HiddenWords$Script", 106, "better") (by decide)).1 ?_
      obtain ⟨t7, u8, h⟩ := zbi h
      refine g_callVr (M := mX2_kindOf) [.ref (X.2.2.2.2.2 ("HiddenWords$Script", 106))] hX dX2_kindOf_25 vX6_isWord kM_X2_100 (wX6_isWord hX2 hTo (by omega)  (hX2.2.2.2 ("HiddenWords$Script", 106, "better") (by decide)).2 u8) qTo (zWs_at (by omega) (hTo.o)) rfl ⟨(Nat.le_of_ble_eq_true rfl), (Nat.le_of_ble_eq_true rfl)⟩ ⟨(Nat.le_of_ble_eq_true rfl), (Nat.le_of_ble_eq_true rfl)⟩ (Nat.le_of_ble_eq_true rfl) ?_
      refine h_beq (M := mX2_kindOf) (tgt := 33) dX2_kindOf_28 (by decide) (fun c9 => ?_) (fun c9 => ?_)
      · have h := zfi (zbf c9) h
        refine g_aload_n (M := mX2_kindOf) dX2_kindOf_33 0 rfl rfl ?_
        refine g_ldcS (M := mX2_kindOf) (tx := "improve") dX2_kindOf_34 (hX2.2.2.2 ("HiddenWords$Script", 108, "improve") (by decide)).1 ?_
        obtain ⟨t10, u11, h⟩ := zbi h
        refine g_callVr (M := mX2_kindOf) [.ref (X.2.2.2.2.2 ("HiddenWords$Script", 108))] hX dX2_kindOf_36 vX6_isWord kM_X2_100 (wX6_isWord hX2 hTo (by omega)  (hX2.2.2.2 ("HiddenWords$Script", 108, "improve") (by decide)).2 u11) qTo (zWs_at (by omega) (hTo.o)) rfl ⟨(Nat.le_of_ble_eq_true rfl), (Nat.le_of_ble_eq_true rfl)⟩ ⟨(Nat.le_of_ble_eq_true rfl), (Nat.le_of_ble_eq_true rfl)⟩ (Nat.le_of_ble_eq_true rfl) ?_
        refine h_beq (M := mX2_kindOf) (tgt := 44) dX2_kindOf_39 (by decide) (fun c12 => ?_) (fun c12 => ?_)
        · have h := zfi (zbf c12) h
          refine g_aload_n (M := mX2_kindOf) dX2_kindOf_44 0 rfl rfl ?_
          refine g_ldcS (M := mX2_kindOf) (tx := "take") dX2_kindOf_45 (hX2.2.2.2 ("HiddenWords$Script", 110, "take") (by decide)).1 ?_
          obtain ⟨t13, u14, h⟩ := zbi h
          refine g_callVr (M := mX2_kindOf) [.ref (X.2.2.2.2.2 ("HiddenWords$Script", 110))] hX dX2_kindOf_47 vX6_isWord kM_X2_100 (wX6_isWord hX2 hTo (by omega)  (hX2.2.2.2 ("HiddenWords$Script", 110, "take") (by decide)).2 u14) qTo (zWs_at (by omega) (hTo.o)) rfl ⟨(Nat.le_of_ble_eq_true rfl), (Nat.le_of_ble_eq_true rfl)⟩ ⟨(Nat.le_of_ble_eq_true rfl), (Nat.le_of_ble_eq_true rfl)⟩ (Nat.le_of_ble_eq_true rfl) ?_
          refine h_beq (M := mX2_kindOf) (tgt := 55) dX2_kindOf_50 (by decide) (fun c15 => ?_) (fun c15 => ?_)
          · have h := zfi (zbf c15) h
            refine g_aload_n (M := mX2_kindOf) dX2_kindOf_55 0 rfl rfl ?_
            refine g_ldcS (M := mX2_kindOf) (tx := "best") dX2_kindOf_56 (hX2.2.2.2 ("HiddenWords$Script", 112, "best") (by decide)).1 ?_
            obtain ⟨t16, u17, h⟩ := zbi h
            refine g_callVr (M := mX2_kindOf) [.ref (X.2.2.2.2.2 ("HiddenWords$Script", 112))] hX dX2_kindOf_58 vX6_isWord kM_X2_100 (wX6_isWord hX2 hTo (by omega)  (hX2.2.2.2 ("HiddenWords$Script", 112, "best") (by decide)).2 u17) qTo (zWs_at (by omega) (hTo.o)) rfl ⟨(Nat.le_of_ble_eq_true rfl), (Nat.le_of_ble_eq_true rfl)⟩ ⟨(Nat.le_of_ble_eq_true rfl), (Nat.le_of_ble_eq_true rfl)⟩ (Nat.le_of_ble_eq_true rfl) ?_
            refine h_beq (M := mX2_kindOf) (tgt := 67) dX2_kindOf_61 (by decide) (fun c18 => ?_) (fun c18 => ?_)
            · have h := zfi (zbf c18) h
              refine g_aload_n (M := mX2_kindOf) dX2_kindOf_67 0 rfl rfl ?_
              refine g_ldcS (M := mX2_kindOf) (tx := "out") dX2_kindOf_68 (hX2.2.2.2 ("HiddenWords$Script", 114, "out") (by decide)).1 ?_
              obtain ⟨t19, u20, h⟩ := zbi h
              refine g_callVr (M := mX2_kindOf) [.ref (X.2.2.2.2.2 ("HiddenWords$Script", 114))] hX dX2_kindOf_70 vX6_isWord kM_X2_100 (wX6_isWord hX2 hTo (by omega)  (hX2.2.2.2 ("HiddenWords$Script", 114, "out") (by decide)).2 u20) qTo (zWs_at (by omega) (hTo.o)) rfl ⟨(Nat.le_of_ble_eq_true rfl), (Nat.le_of_ble_eq_true rfl)⟩ ⟨(Nat.le_of_ble_eq_true rfl), (Nat.le_of_ble_eq_true rfl)⟩ (Nat.le_of_ble_eq_true rfl) ?_
              refine h_beq (M := mX2_kindOf) (tgt := 79) dX2_kindOf_73 (by decide) (fun c21 => ?_) (fun c21 => ?_)
              · have h := zfi (zbf c21) h
                refine g_aload_n (M := mX2_kindOf) dX2_kindOf_79 0 rfl rfl ?_
                refine g_ldcS (M := mX2_kindOf) (tx := "in") dX2_kindOf_80 (hX2.2.2.2 ("HiddenWords$Script", 116, "in") (by decide)).1 ?_
                obtain ⟨t22, u23, h⟩ := zbi h
                refine g_callVr (M := mX2_kindOf) [.ref (X.2.2.2.2.2 ("HiddenWords$Script", 116))] hX dX2_kindOf_82 vX6_isWord kM_X2_100 (wX6_isWord hX2 hTo (by omega)  (hX2.2.2.2 ("HiddenWords$Script", 116, "in") (by decide)).2 u23) qTo (zWs_at (by omega) (hTo.o)) rfl ⟨(Nat.le_of_ble_eq_true rfl), (Nat.le_of_ble_eq_true rfl)⟩ ⟨(Nat.le_of_ble_eq_true rfl), (Nat.le_of_ble_eq_true rfl)⟩ (Nat.le_of_ble_eq_true rfl) ?_
                refine h_beq (M := mX2_kindOf) (tgt := 91) dX2_kindOf_85 (by decide) (fun c24 => ?_) (fun c24 => ?_)
                · have h := zfi (zbf c24) h
                  refine g_aload_n (M := mX2_kindOf) dX2_kindOf_91 0 rfl rfl ?_
                  refine g_ldcS (M := mX2_kindOf) (tx := "changes") dX2_kindOf_92 (hX2.2.2.2 ("HiddenWords$Script", 118, "changes") (by decide)).1 ?_
                  obtain ⟨t25, u26, h⟩ := zbi h
                  refine g_callVr (M := mX2_kindOf) [.ref (X.2.2.2.2.2 ("HiddenWords$Script", 118))] hX dX2_kindOf_94 vX6_isWord kM_X2_100 (wX6_isWord hX2 hTo (by omega)  (hX2.2.2.2 ("HiddenWords$Script", 118, "changes") (by decide)).2 u26) qTo (zWs_at (by omega) (hTo.o)) rfl ⟨(Nat.le_of_ble_eq_true rfl), (Nat.le_of_ble_eq_true rfl)⟩ ⟨(Nat.le_of_ble_eq_true rfl), (Nat.le_of_ble_eq_true rfl)⟩ (Nat.le_of_ble_eq_true rfl) ?_
                  refine h_beq (M := mX2_kindOf) (tgt := 103) dX2_kindOf_97 (by decide) (fun c27 => ?_) (fun c27 => ?_)
                  · have h := zfi (zbf c27) h
                    refine g_aload_n (M := mX2_kindOf) dX2_kindOf_103 0 rfl rfl ?_
                    refine g_ldcS (M := mX2_kindOf) (tx := "repeat") dX2_kindOf_104 (hX2.2.2.2 ("HiddenWords$Script", 120, "repeat") (by decide)).1 ?_
                    obtain ⟨t28, u29, h⟩ := zbi h
                    refine g_callVr (M := mX2_kindOf) [.ref (X.2.2.2.2.2 ("HiddenWords$Script", 120))] hX dX2_kindOf_106 vX6_isWord kM_X2_100 (wX6_isWord hX2 hTo (by omega)  (hX2.2.2.2 ("HiddenWords$Script", 120, "repeat") (by decide)).2 u29) qTo (zWs_at (by omega) (hTo.o)) rfl ⟨(Nat.le_of_ble_eq_true rfl), (Nat.le_of_ble_eq_true rfl)⟩ ⟨(Nat.le_of_ble_eq_true rfl), (Nat.le_of_ble_eq_true rfl)⟩ (Nat.le_of_ble_eq_true rfl) ?_
                    refine h_beq (M := mX2_kindOf) (tgt := 117) dX2_kindOf_109 (by decide) (fun c30 => ?_) (fun c30 => ?_)
                    · have h := zfi (zbf c30) h
                      refine h_iconst (M := mX2_kindOf) dX2_kindOf_117 ?_
                      have e := (Option.some.inj h)
                      subst e
                      exact g_iret (M := mX2_kindOf) dX2_kindOf_118 rfl (Nat.le_of_ble_eq_true rfl) (Nat.le_of_ble_eq_true rfl) ⟨rfl, rfl⟩
                    · have h := zti c30 h
                      refine h_bipush (M := mX2_kindOf) dX2_kindOf_112 rfl ?_
                      refine g_goto (M := mX2_kindOf) (tgt := 118) dX2_kindOf_114 (by decide) ?_
                      have e := (Option.some.inj h)
                      subst e
                      exact g_iret (M := mX2_kindOf) dX2_kindOf_118 rfl (Nat.le_of_ble_eq_true rfl) (Nat.le_of_ble_eq_true rfl) ⟨rfl, rfl⟩
                  · have h := zti c27 h
                    refine h_bipush (M := mX2_kindOf) dX2_kindOf_100 rfl ?_
                    have e := (Option.some.inj h)
                    subst e
                    exact g_iret (M := mX2_kindOf) dX2_kindOf_102 rfl (Nat.le_of_ble_eq_true rfl) (Nat.le_of_ble_eq_true rfl) ⟨rfl, rfl⟩
                · have h := zti c24 h
                  refine h_bipush (M := mX2_kindOf) dX2_kindOf_88 rfl ?_
                  have e := (Option.some.inj h)
                  subst e
                  exact g_iret (M := mX2_kindOf) dX2_kindOf_90 rfl (Nat.le_of_ble_eq_true rfl) (Nat.le_of_ble_eq_true rfl) ⟨rfl, rfl⟩
              · have h := zti c21 h
                refine h_bipush (M := mX2_kindOf) dX2_kindOf_76 rfl ?_
                have e := (Option.some.inj h)
                subst e
                exact g_iret (M := mX2_kindOf) dX2_kindOf_78 rfl (Nat.le_of_ble_eq_true rfl) (Nat.le_of_ble_eq_true rfl) ⟨rfl, rfl⟩
            · have h := zti c18 h
              refine h_bipush (M := mX2_kindOf) dX2_kindOf_64 rfl ?_
              have e := (Option.some.inj h)
              subst e
              exact g_iret (M := mX2_kindOf) dX2_kindOf_66 rfl (Nat.le_of_ble_eq_true rfl) (Nat.le_of_ble_eq_true rfl) ⟨rfl, rfl⟩
          · have h := zti c15 h
            refine h_iconst (M := mX2_kindOf) dX2_kindOf_53 ?_
            have e := (Option.some.inj h)
            subst e
            exact g_iret (M := mX2_kindOf) dX2_kindOf_54 rfl (Nat.le_of_ble_eq_true rfl) (Nat.le_of_ble_eq_true rfl) ⟨rfl, rfl⟩
        · have h := zti c12 h
          refine h_iconst (M := mX2_kindOf) dX2_kindOf_42 ?_
          have e := (Option.some.inj h)
          subst e
          exact g_iret (M := mX2_kindOf) dX2_kindOf_43 rfl (Nat.le_of_ble_eq_true rfl) (Nat.le_of_ble_eq_true rfl) ⟨rfl, rfl⟩
      · have h := zti c9 h
        refine h_iconst (M := mX2_kindOf) dX2_kindOf_31 ?_
        have e := (Option.some.inj h)
        subst e
        exact g_iret (M := mX2_kindOf) dX2_kindOf_32 rfl (Nat.le_of_ble_eq_true rfl) (Nat.le_of_ble_eq_true rfl) ⟨rfl, rfl⟩
    · have h := zti c6 h
      refine h_iconst (M := mX2_kindOf) dX2_kindOf_20 ?_
      have e := (Option.some.inj h)
      subst e
      exact g_iret (M := mX2_kindOf) dX2_kindOf_21 rfl (Nat.le_of_ble_eq_true rfl) (Nat.le_of_ble_eq_true rfl) ⟨rfl, rfl⟩
  · have h := zti c3 h
    refine h_iconst (M := mX2_kindOf) dX2_kindOf_9 ?_
    have e := (Option.some.inj h)
    subst e
    exact g_iret (M := mX2_kindOf) dX2_kindOf_10 rfl (Nat.le_of_ble_eq_true rfl) (Nat.le_of_ble_eq_true rfl) ⟨rfl, rfl⟩
set_option maxHeartbeats 4000000 in
set_option maxRecDepth 100000 in
theorem wX2_passWord {X : zX} (hX : zOK X) {A : Nat → Nat} {n : Nat} {S : Nat → va_E} {qTo : Nat} {VTo : CV} (hTo : isC X A shTo qTo VTo S) (bTo : qTo + 1 < n) {qB : Nat} {VB : CV} (hB : isC X A shB qB VB S) (bB : qB + 6 < n) (dToB : qTo + 1 < qB ∨ qB + 6 < qTo) {res : CV × Int} (h : fX2_passWord VTo VB = some res) : Con X yX2_passWord mX2_passWord 3 0 0 [.ref (A qTo), .ref (A qB)] (zWs A n S) (zRet (zWs A n (zC X A shTo qTo res.1 S)) (some (.int (iI res.2)))) := by
  refine con_of (lv := [(0, .ref (A qTo)), (1, .ref (A qB))]) (by decide) rfl (fun h => by cases h) rfl (Nat.le_of_ble_eq_true rfl) rfl ?_
  refine g_ws (M := mX2_passWord) (congrArg (zWs A n) hTo.symm) ?_
  unfold fX2_passWord at h
  refine g_aload_n (M := mX2_passWord) dX2_passWord_0 0 rfl rfl ?_
  refine g_aload_n (M := mX2_passWord) dX2_passWord_1 1 rfl rfl ?_
  refine k_get (M := mX2_passWord) (v := .int (iI (VB.1 0))) dX2_passWord_2 kF_X2_138.r qB (by omega) ((zC_skipN 1 rfl (by omega)).trans (hB.o)) rfl ?_
  obtain ⟨t1, u2, h⟩ := zbi h
  refine g_callVr (M := mX2_passWord) [.int (iI (VB.1 0))] hX dX2_passWord_5 vX6_wordCode kM_X2_141 (wX6_wordCode hX zC_self (by omega)  u2) qTo (zWs_at (by omega) (zC_o)) rfl ⟨(Nat.le_of_ble_eq_true rfl), (Nat.le_of_ble_eq_true rfl)⟩ ⟨(Nat.le_of_ble_eq_true rfl), (Nat.le_of_ble_eq_true rfl)⟩ (Nat.le_of_ble_eq_true rfl) ?_
  refine g_lstore_n (M := mX2_passWord) (lv' := [(0, .ref (A qTo)), (1, .ref (A qB)), (2, .long (iL t1))]) dX2_passWord_8 rfl (by decide) rfl ?_
  refine g_aload_n (M := mX2_passWord) dX2_passWord_9 0 rfl rfl ?_
  refine k_get (M := mX2_passWord) (v := .int (iI (VTo.1 2))) dX2_passWord_10 kF_X2_64.r qTo (by omega) (zC_o) rfl ?_
  refine h_iconst (M := mX2_passWord) dX2_passWord_13 ?_
  refine zJn_J (J := fun x24 => G X mX2_passWord (zPm X 3 0 0 (zRet (zWs A n (zC X A shTo qTo res.1 S)) (some (.int (iI res.2))))) 0 0 56 [(1, .ref (A qB)), (2, .long (iL t1))] [] (zWs A n (zC X A shTo qTo x24 S))) h (fun x24 h => ?_) (fun j24 h => ?_)
  · refine g_aload_n (M := mX2_passWord) dX2_passWord_56 0 rfl rfl ?_
    refine g_lload_n (M := mX2_passWord) dX2_passWord_57 1 rfl rfl ?_
    refine g_l2i (M := mX2_passWord) dX2_passWord_58 rfl ?_
    refine h_topx (M := mX2_passWord) (b := t1 % 4294967296) (iL_iG _) ?_
    obtain ⟨t25, u26, h⟩ := zbi h
    refine g_callVr (M := mX2_passWord) [.int (iI (t1 % 4294967296))] hX dX2_passWord_59 vX0_wordOf kM_X2_154 (wX0_wordOf hX (isC.keepN hB 1 6 rfl rfl (by omega)) (by omega)  u26) qB (zWs_at (by omega) ((zC_skipN 1 rfl (by omega)).trans (hB.o))) rfl ⟨(Nat.le_of_ble_eq_true rfl), (Nat.le_of_ble_eq_true rfl)⟩ ⟨(Nat.le_of_ble_eq_true rfl), (Nat.le_of_ble_eq_true rfl)⟩ (Nat.le_of_ble_eq_true rfl) ?_
    have e := (Option.some.inj h)
    subst e
    exact g_iret (M := mX2_passWord) dX2_passWord_62 rfl (Nat.le_of_ble_eq_true rfl) (Nat.le_of_ble_eq_true rfl) ⟨rfl, rfl⟩
  · obtain ⟨g28, h⟩ := zgi h
    refine h_icmp_eq (M := mX2_passWord) (tgt := 25) dX2_passWord_14 (by decide) g28 (by decide) (fun c27 => ?_) (fun c27 => ?_)
    · have h := zti c27 h
      refine g_aload_n (M := mX2_passWord) dX2_passWord_25 0 rfl rfl ?_
      obtain ⟨t29, u30, h⟩ := zbi h
      refine g_callVr (M := mX2_passWord) [] hX dX2_passWord_26 vX6_wordSize kM_X2_145 (wX6_wordSize hX zC_self (by omega)  u30) qTo (zWs_at (by omega) (zC_o)) rfl ⟨(Nat.le_of_ble_eq_true rfl), (Nat.le_of_ble_eq_true rfl)⟩ ⟨(Nat.le_of_ble_eq_true rfl), (Nat.le_of_ble_eq_true rfl)⟩ (Nat.le_of_ble_eq_true rfl) ?_
      refine g_aload_n (M := mX2_passWord) dX2_passWord_29 1 rfl rfl ?_
      refine k_get (M := mX2_passWord) (v := .int (iI (VB.1 1))) dX2_passWord_30 kF_X2_149.r qB (by omega) ((zC_skipN 1 rfl (by omega)).trans (hB.o)) rfl ?_
      refine zJn_J (J := fun x37 => G X mX2_passWord (zPm X 3 0 0 (zRet (zWs A n (zC X A shTo qTo res.1 S)) (some (.int (iI res.2))))) 0 0 44 [(0, .ref (A qTo)), (1, .ref (A qB)), (2, .long (iL t1))] [] (zWs A n (zC X A shTo qTo VTo S))) h (fun x37 h => ?_) (fun j37 h => ?_)
      · refine g_aload_n (M := mX2_passWord) dX2_passWord_44 0 rfl rfl ?_
        refine h_iconst (M := mX2_passWord) dX2_passWord_45 ?_
        obtain ⟨t38, u39, h⟩ := zbi h
        refine g_callVr (M := mX2_passWord) [.int (iI 3)] hX dX2_passWord_46 vX6_fail kM_X2_78 (wX6_fail hX zC_self (by omega)  u39) qTo (zWs_at (by omega) (zC_o)) rfl ⟨(Nat.le_of_ble_eq_true rfl), (Nat.le_of_ble_eq_true rfl)⟩ ⟨(Nat.le_of_ble_eq_true rfl), (Nat.le_of_ble_eq_true rfl)⟩ (Nat.le_of_ble_eq_true rfl) ?_
        refine g_ws (M := mX2_passWord) (congrArg (zWs A n) zC_over) ?_
        refine g_goto (M := mX2_passWord) (tgt := 56) dX2_passWord_49 (by decide) ?_
        refine g_lv (M := mX2_passWord) [1, 2] rfl ?_
        exact j24 t38 h
      · obtain ⟨g41, h⟩ := zgi h
        refine h_icmp_ne (M := mX2_passWord) (tgt := 44) dX2_passWord_33 (by decide) g41.1 g41.2 (fun c40 => ?_) (fun c40 => ?_)
        · have h := zfi c40 h
          exact j37 () h
        · have h := zti c40 h
          refine g_lload_n (M := mX2_passWord) dX2_passWord_36 2 rfl rfl ?_
          refine g_ldc2 (M := mX2_passWord) (v := iL (-1)) dX2_passWord_37 ((show (-1 : Int64) = iL (-1) from by decide) ▸ kC_X2_152) ?_
          obtain ⟨g42, h⟩ := zgi h
          refine g_lcmp (M := mX2_passWord) dX2_passWord_40 ?_
          refine h_topx (M := mX2_passWord) (b := zCmp t1 (-1)) (lg_cmp_i g42.1 g42.2) ?_
          refine h_if_ne (M := mX2_passWord) (tgt := 52) dX2_passWord_41 (by decide) (zCmp_r _ _) (fun c43 => ?_) (fun c43 => ?_)
          · have h := zfi c43 h
            refine g_aload_n (M := mX2_passWord) dX2_passWord_52 0 rfl rfl ?_
            obtain ⟨t44, u45, h⟩ := zbi h
            refine g_callVr (M := mX2_passWord) [] hX dX2_passWord_53 vX6_next kM_X2_67 (wX6_next hX zC_self (by omega)  u45) qTo (zWs_at (by omega) (zC_o)) rfl ⟨(Nat.le_of_ble_eq_true rfl), (Nat.le_of_ble_eq_true rfl)⟩ ⟨(Nat.le_of_ble_eq_true rfl), (Nat.le_of_ble_eq_true rfl)⟩ (Nat.le_of_ble_eq_true rfl) ?_
            refine g_ws (M := mX2_passWord) (congrArg (zWs A n) zC_over) ?_
            refine g_lv (M := mX2_passWord) [1, 2] rfl ?_
            exact j24 t44 h
          · have h := zti c43 h
            exact j37 () h
    · have h := zfi c27 h
      refine g_aload_n (M := mX2_passWord) dX2_passWord_17 0 rfl rfl ?_
      refine h_iconst (M := mX2_passWord) dX2_passWord_18 ?_
      obtain ⟨t46, u47, h⟩ := zbi h
      refine g_callVr (M := mX2_passWord) [.int (iI 1)] hX dX2_passWord_19 vX6_fail kM_X2_78 (wX6_fail hX zC_self (by omega)  u47) qTo (zWs_at (by omega) (zC_o)) rfl ⟨(Nat.le_of_ble_eq_true rfl), (Nat.le_of_ble_eq_true rfl)⟩ ⟨(Nat.le_of_ble_eq_true rfl), (Nat.le_of_ble_eq_true rfl)⟩ (Nat.le_of_ble_eq_true rfl) ?_
      refine g_ws (M := mX2_passWord) (congrArg (zWs A n) zC_over) ?_
      refine g_goto (M := mX2_passWord) (tgt := 56) dX2_passWord_22 (by decide) ?_
      refine g_lv (M := mX2_passWord) [1, 2] rfl ?_
      exact j24 t46 h
set_option maxHeartbeats 4000000 in
set_option maxRecDepth 100000 in
theorem wX2_passNumberOf {X : zX} (hX : zOK X) {A : Nat → Nat} {n : Nat} {S : Nat → va_E} {qTo : Nat} {VTo : CV} (hTo : isC X A shTo qTo VTo S) (bTo : qTo + 1 < n) {qB : Nat} {VB : CV} (hB : isC X A shB qB VB S) (bB : qB + 6 < n) (dToB : qTo + 1 < qB ∨ qB + 6 < qTo) {a1 : Int} {res : CV × Int} (h : fX2_passNumberOf VTo VB a1 = some res) : Con X yX2_passNumberOf mX2_passNumberOf 4 0 0 [.int (iI a1), .ref (A qTo), .ref (A qB)] (zWs A n S) (zRet (zWs A n (zC X A shTo qTo res.1 S)) (some (.int (iI res.2)))) := by
  refine con_of (lv := [(0, .int (iI a1)), (1, .ref (A qTo)), (2, .ref (A qB))]) (by decide) rfl (fun h => by cases h) rfl (Nat.le_of_ble_eq_true rfl) rfl ?_
  refine g_ws (M := mX2_passNumberOf) (congrArg (zWs A n) hTo.symm) ?_
  unfold fX2_passNumberOf at h
  refine g_iload_n (M := mX2_passNumberOf) dX2_passNumberOf_0 0 rfl rfl ?_
  obtain ⟨g1, h⟩ := zgi h
  by_cases c2 : a1 = 1
  · have h := zti c2 h
    refine g_tableIn (M := mX2_passNumberOf) (off := 55) (tgt := 56) dX2_passNumberOf_1 (iI_tlo g1 (by omega)) (iI_thi g1 (by omega)) (iI_tat g1 c2 rfl) (by decide) ?_
    refine g_aload_n (M := mX2_passNumberOf) dX2_passNumberOf_56 1 rfl rfl ?_
    refine h_iconst (M := mX2_passNumberOf) dX2_passNumberOf_57 ?_
    refine h_sipush (M := mX2_passNumberOf) dX2_passNumberOf_58 rfl ?_
    obtain ⟨t3, u4, h⟩ := zbi h
    refine g_callVr (M := mX2_passNumberOf) [.int (iI 0), .int (iI 999)] hX dX2_passNumberOf_61 vX6_passNumber kM_X2_132 (wX6_passNumber hX zC_self (by omega)  u4) qTo (zWs_at (by omega) (zC_o)) rfl ⟨(Nat.le_of_ble_eq_true rfl), (Nat.le_of_ble_eq_true rfl)⟩ ⟨(Nat.le_of_ble_eq_true rfl), (Nat.le_of_ble_eq_true rfl)⟩ (Nat.le_of_ble_eq_true rfl) ?_
    refine g_ws (M := mX2_passNumberOf) (congrArg (zWs A n) zC_over) ?_
    have e := (Option.some.inj h)
    subst e
    exact g_iret (M := mX2_passNumberOf) dX2_passNumberOf_64 rfl (Nat.le_of_ble_eq_true rfl) (Nat.le_of_ble_eq_true rfl) ⟨rfl, rfl⟩
  have h := zfi c2 h
  by_cases c5 : a1 = 2
  · have h := zti c5 h
    refine g_tableIn (M := mX2_passNumberOf) (off := 78) (tgt := 79) dX2_passNumberOf_1 (iI_tlo g1 (by omega)) (iI_thi g1 (by omega)) (iI_tat g1 c5 rfl) (by decide) ?_
    refine h_iconst (M := mX2_passNumberOf) dX2_passNumberOf_79 ?_
    have e := (Option.some.inj h)
    subst e
    exact g_iret (M := mX2_passNumberOf) dX2_passNumberOf_80 rfl (Nat.le_of_ble_eq_true rfl) (Nat.le_of_ble_eq_true rfl) ⟨rfl, rfl⟩
  have h := zfi c5 h
  by_cases c6 : a1 = 3
  · have h := zti c6 h
    refine g_tableIn (M := mX2_passNumberOf) (off := 78) (tgt := 79) dX2_passNumberOf_1 (iI_tlo g1 (by omega)) (iI_thi g1 (by omega)) (iI_tat g1 c6 rfl) (by decide) ?_
    refine h_iconst (M := mX2_passNumberOf) dX2_passNumberOf_79 ?_
    have e := (Option.some.inj h)
    subst e
    exact g_iret (M := mX2_passNumberOf) dX2_passNumberOf_80 rfl (Nat.le_of_ble_eq_true rfl) (Nat.le_of_ble_eq_true rfl) ⟨rfl, rfl⟩
  have h := zfi c6 h
  by_cases c7 : a1 = 4
  · have h := zti c7 h
    refine g_tableIn (M := mX2_passNumberOf) (off := 55) (tgt := 56) dX2_passNumberOf_1 (iI_tlo g1 (by omega)) (iI_thi g1 (by omega)) (iI_tat g1 c7 rfl) (by decide) ?_
    refine g_aload_n (M := mX2_passNumberOf) dX2_passNumberOf_56 1 rfl rfl ?_
    refine h_iconst (M := mX2_passNumberOf) dX2_passNumberOf_57 ?_
    refine h_sipush (M := mX2_passNumberOf) dX2_passNumberOf_58 rfl ?_
    obtain ⟨t8, u9, h⟩ := zbi h
    refine g_callVr (M := mX2_passNumberOf) [.int (iI 0), .int (iI 999)] hX dX2_passNumberOf_61 vX6_passNumber kM_X2_132 (wX6_passNumber hX zC_self (by omega)  u9) qTo (zWs_at (by omega) (zC_o)) rfl ⟨(Nat.le_of_ble_eq_true rfl), (Nat.le_of_ble_eq_true rfl)⟩ ⟨(Nat.le_of_ble_eq_true rfl), (Nat.le_of_ble_eq_true rfl)⟩ (Nat.le_of_ble_eq_true rfl) ?_
    refine g_ws (M := mX2_passNumberOf) (congrArg (zWs A n) zC_over) ?_
    have e := (Option.some.inj h)
    subst e
    exact g_iret (M := mX2_passNumberOf) dX2_passNumberOf_64 rfl (Nat.le_of_ble_eq_true rfl) (Nat.le_of_ble_eq_true rfl) ⟨rfl, rfl⟩
  have h := zfi c7 h
  by_cases c10 : a1 = 5
  · have h := zti c10 h
    refine g_tableIn (M := mX2_passNumberOf) (off := 72) (tgt := 73) dX2_passNumberOf_1 (iI_tlo g1 (by omega)) (iI_thi g1 (by omega)) (iI_tat g1 c10 rfl) (by decide) ?_
    refine g_aload_n (M := mX2_passNumberOf) dX2_passNumberOf_73 1 rfl rfl ?_
    refine g_aload_n (M := mX2_passNumberOf) dX2_passNumberOf_74 2 rfl rfl ?_
    obtain ⟨t11, u12, h⟩ := zbi h
    refine g_callSr (M := mX2_passNumberOf) [.ref (A qTo), .ref (A qB)] hX dX2_passNumberOf_75 vX2_passWord kM_X2_135 (wX2_passWord hX zC_self (by omega) (isC.keepN hB 1 6 rfl rfl (by omega)) (by omega) (by omega) u12) rfl ⟨(Nat.le_of_ble_eq_true rfl), (Nat.le_of_ble_eq_true rfl)⟩ ⟨(Nat.le_of_ble_eq_true rfl), (Nat.le_of_ble_eq_true rfl)⟩ (Nat.le_of_ble_eq_true rfl) ?_
    refine g_ws (M := mX2_passNumberOf) (congrArg (zWs A n) zC_over) ?_
    have e := (Option.some.inj h)
    subst e
    exact g_iret (M := mX2_passNumberOf) dX2_passNumberOf_78 rfl (Nat.le_of_ble_eq_true rfl) (Nat.le_of_ble_eq_true rfl) ⟨rfl, rfl⟩
  have h := zfi c10 h
  by_cases c13 : a1 = 6
  · have h := zti c13 h
    refine g_tableIn (M := mX2_passNumberOf) (off := 78) (tgt := 79) dX2_passNumberOf_1 (iI_tlo g1 (by omega)) (iI_thi g1 (by omega)) (iI_tat g1 c13 rfl) (by decide) ?_
    refine h_iconst (M := mX2_passNumberOf) dX2_passNumberOf_79 ?_
    have e := (Option.some.inj h)
    subst e
    exact g_iret (M := mX2_passNumberOf) dX2_passNumberOf_80 rfl (Nat.le_of_ble_eq_true rfl) (Nat.le_of_ble_eq_true rfl) ⟨rfl, rfl⟩
  have h := zfi c13 h
  by_cases c14 : a1 = 7
  · have h := zti c14 h
    refine g_tableIn (M := mX2_passNumberOf) (off := 78) (tgt := 79) dX2_passNumberOf_1 (iI_tlo g1 (by omega)) (iI_thi g1 (by omega)) (iI_tat g1 c14 rfl) (by decide) ?_
    refine h_iconst (M := mX2_passNumberOf) dX2_passNumberOf_79 ?_
    have e := (Option.some.inj h)
    subst e
    exact g_iret (M := mX2_passNumberOf) dX2_passNumberOf_80 rfl (Nat.le_of_ble_eq_true rfl) (Nat.le_of_ble_eq_true rfl) ⟨rfl, rfl⟩
  have h := zfi c14 h
  by_cases c15 : a1 = 8
  · have h := zti c15 h
    refine g_tableIn (M := mX2_passNumberOf) (off := 78) (tgt := 79) dX2_passNumberOf_1 (iI_tlo g1 (by omega)) (iI_thi g1 (by omega)) (iI_tat g1 c15 rfl) (by decide) ?_
    refine h_iconst (M := mX2_passNumberOf) dX2_passNumberOf_79 ?_
    have e := (Option.some.inj h)
    subst e
    exact g_iret (M := mX2_passNumberOf) dX2_passNumberOf_80 rfl (Nat.le_of_ble_eq_true rfl) (Nat.le_of_ble_eq_true rfl) ⟨rfl, rfl⟩
  have h := zfi c15 h
  by_cases c16 : a1 = 9
  · have h := zti c16 h
    refine g_tableIn (M := mX2_passNumberOf) (off := 55) (tgt := 56) dX2_passNumberOf_1 (iI_tlo g1 (by omega)) (iI_thi g1 (by omega)) (iI_tat g1 c16 rfl) (by decide) ?_
    refine g_aload_n (M := mX2_passNumberOf) dX2_passNumberOf_56 1 rfl rfl ?_
    refine h_iconst (M := mX2_passNumberOf) dX2_passNumberOf_57 ?_
    refine h_sipush (M := mX2_passNumberOf) dX2_passNumberOf_58 rfl ?_
    obtain ⟨t17, u18, h⟩ := zbi h
    refine g_callVr (M := mX2_passNumberOf) [.int (iI 0), .int (iI 999)] hX dX2_passNumberOf_61 vX6_passNumber kM_X2_132 (wX6_passNumber hX zC_self (by omega)  u18) qTo (zWs_at (by omega) (zC_o)) rfl ⟨(Nat.le_of_ble_eq_true rfl), (Nat.le_of_ble_eq_true rfl)⟩ ⟨(Nat.le_of_ble_eq_true rfl), (Nat.le_of_ble_eq_true rfl)⟩ (Nat.le_of_ble_eq_true rfl) ?_
    refine g_ws (M := mX2_passNumberOf) (congrArg (zWs A n) zC_over) ?_
    have e := (Option.some.inj h)
    subst e
    exact g_iret (M := mX2_passNumberOf) dX2_passNumberOf_64 rfl (Nat.le_of_ble_eq_true rfl) (Nat.le_of_ble_eq_true rfl) ⟨rfl, rfl⟩
  have h := zfi c16 h
  by_cases c19 : a1 = 10
  · have h := zti c19 h
    refine g_tableIn (M := mX2_passNumberOf) (off := 64) (tgt := 65) dX2_passNumberOf_1 (iI_tlo g1 (by omega)) (iI_thi g1 (by omega)) (iI_tat g1 c19 rfl) (by decide) ?_
    refine g_aload_n (M := mX2_passNumberOf) dX2_passNumberOf_65 1 rfl rfl ?_
    refine h_iconst (M := mX2_passNumberOf) dX2_passNumberOf_66 ?_
    refine h_bipush (M := mX2_passNumberOf) dX2_passNumberOf_67 rfl ?_
    obtain ⟨t20, u21, h⟩ := zbi h
    refine g_callVr (M := mX2_passNumberOf) [.int (iI 1), .int (iI 20)] hX dX2_passNumberOf_69 vX6_passNumber kM_X2_132 (wX6_passNumber hX zC_self (by omega)  u21) qTo (zWs_at (by omega) (zC_o)) rfl ⟨(Nat.le_of_ble_eq_true rfl), (Nat.le_of_ble_eq_true rfl)⟩ ⟨(Nat.le_of_ble_eq_true rfl), (Nat.le_of_ble_eq_true rfl)⟩ (Nat.le_of_ble_eq_true rfl) ?_
    refine g_ws (M := mX2_passNumberOf) (congrArg (zWs A n) zC_over) ?_
    have e := (Option.some.inj h)
    subst e
    exact g_iret (M := mX2_passNumberOf) dX2_passNumberOf_72 rfl (Nat.le_of_ble_eq_true rfl) (Nat.le_of_ble_eq_true rfl) ⟨rfl, rfl⟩
  have h := zfi c19 h
  refine g_tableOut (M := mX2_passNumberOf) (tgt := 79) dX2_passNumberOf_1 (iI_tout g1 (by omega)) (by decide) ?_
  refine h_iconst (M := mX2_passNumberOf) dX2_passNumberOf_79 ?_
  have e := (Option.some.inj h)
  subst e
  exact g_iret (M := mX2_passNumberOf) dX2_passNumberOf_80 rfl (Nat.le_of_ble_eq_true rfl) (Nat.le_of_ble_eq_true rfl) ⟨rfl, rfl⟩
set_option maxHeartbeats 4000000 in
set_option maxRecDepth 100000 in
theorem wX2_passRow {X : zX} (hX : zOK X) {A : Nat → Nat} {n : Nat} {S : Nat → va_E} {qTo : Nat} {VTo : CV} (hTo : isC X A shTo qTo VTo S) (bTo : qTo + 1 < n) {qB : Nat} {VB : CV} (hB : isC X A shB qB VB S) (bB : qB + 6 < n) (dToB : qTo + 1 < qB ∨ qB + 6 < qTo) {res : CV × Int} (h : fX2_passRow VTo VB = some res) : Con X yX2_passRow mX2_passRow 3 0 0 [.ref (A qTo), .ref (A qB)] (zWs A n S) (zRet (zWs A n (zC X A shTo qTo res.1 S)) (some (.int (iI res.2)))) := by
  refine con_of (lv := [(0, .ref (A qTo)), (1, .ref (A qB))]) (by decide) rfl (fun h => by cases h) rfl (Nat.le_of_ble_eq_true rfl) rfl ?_
  refine g_ws (M := mX2_passRow) (congrArg (zWs A n) hTo.symm) ?_
  unfold fX2_passRow at h
  refine g_aload_n (M := mX2_passRow) dX2_passRow_0 0 rfl rfl ?_
  obtain ⟨t1, u2, h⟩ := zbi h
  refine g_callVr (M := mX2_passRow) [] hX dX2_passRow_1 vX6_nameCode kM_X2_122 (wX6_nameCode hX zC_self (by omega)  u2) qTo (zWs_at (by omega) (zC_o)) rfl ⟨(Nat.le_of_ble_eq_true rfl), (Nat.le_of_ble_eq_true rfl)⟩ ⟨(Nat.le_of_ble_eq_true rfl), (Nat.le_of_ble_eq_true rfl)⟩ (Nat.le_of_ble_eq_true rfl) ?_
  refine g_lstore_n (M := mX2_passRow) (lv' := [(0, .ref (A qTo)), (1, .ref (A qB)), (2, .long (iL t1))]) dX2_passRow_4 rfl (by decide) rfl ?_
  refine g_aload_n (M := mX2_passRow) dX2_passRow_5 1 rfl rfl ?_
  refine g_lload_n (M := mX2_passRow) dX2_passRow_6 2 rfl rfl ?_
  obtain ⟨t3, u4, h⟩ := zbi h
  refine g_callVr (M := mX2_passRow) [.long (iL t1)] hX dX2_passRow_7 vX0_rowNamed kM_X2_126 (wX0_rowNamed hX (isC.keepN hB 1 6 rfl rfl (by omega)) (by omega)  u4) qB (zWs_at (by omega) ((zC_skipN 1 rfl (by omega)).trans (hB.o))) rfl ⟨(Nat.le_of_ble_eq_true rfl), (Nat.le_of_ble_eq_true rfl)⟩ ⟨(Nat.le_of_ble_eq_true rfl), (Nat.le_of_ble_eq_true rfl)⟩ (Nat.le_of_ble_eq_true rfl) ?_
  refine g_istore (M := mX2_passRow) (lv' := [(0, .ref (A qTo)), (1, .ref (A qB)), (2, .long (iL t1)), (4, .int (iI t3))]) dX2_passRow_10 (by decide) rfl ?_
  refine g_lload_n (M := mX2_passRow) dX2_passRow_12 2 rfl rfl ?_
  refine g_lconst (M := mX2_passRow) (v := iL 0) dX2_passRow_13 rfl ?_
  obtain ⟨g5, h⟩ := zgi h
  refine g_lcmp (M := mX2_passRow) dX2_passRow_14 ?_
  refine h_topx (M := mX2_passRow) (b := zCmp t1 0) (lg_cmp_i g5.1 g5.2) ?_
  refine h_if_ne (M := mX2_passRow) (tgt := 26) dX2_passRow_15 (by decide) (zCmp_r _ _) (fun c6 => ?_) (fun c6 => ?_)
  · have h := zfi c6 h
    refine g_iload (M := mX2_passRow) dX2_passRow_26 3 rfl ?_
    refine h_iconst (M := mX2_passRow) dX2_passRow_28 ?_
    obtain ⟨g8, h⟩ := zgi h
    refine h_icmp_ne (M := mX2_passRow) (tgt := 40) dX2_passRow_29 (by decide) g8 (by decide) (fun c7 => ?_) (fun c7 => ?_)
    · have h := zfi c7 h
      refine g_aload_n (M := mX2_passRow) dX2_passRow_40 0 rfl rfl ?_
      obtain ⟨t9, u10, h⟩ := zbi h
      refine g_callVr (M := mX2_passRow) [] hX dX2_passRow_41 vX6_next kM_X2_67 (wX6_next hX zC_self (by omega)  u10) qTo (zWs_at (by omega) (zC_o)) rfl ⟨(Nat.le_of_ble_eq_true rfl), (Nat.le_of_ble_eq_true rfl)⟩ ⟨(Nat.le_of_ble_eq_true rfl), (Nat.le_of_ble_eq_true rfl)⟩ (Nat.le_of_ble_eq_true rfl) ?_
      refine g_ws (M := mX2_passRow) (congrArg (zWs A n) zC_over) ?_
      refine g_iload (M := mX2_passRow) dX2_passRow_44 3 rfl ?_
      have e := (Option.some.inj h)
      subst e
      exact g_iret (M := mX2_passRow) dX2_passRow_46 rfl (Nat.le_of_ble_eq_true rfl) (Nat.le_of_ble_eq_true rfl) ⟨rfl, rfl⟩
    · have h := zti c7 h
      refine g_aload_n (M := mX2_passRow) dX2_passRow_32 0 rfl rfl ?_
      refine h_iconst (M := mX2_passRow) dX2_passRow_33 ?_
      obtain ⟨t11, u12, h⟩ := zbi h
      refine g_callVr (M := mX2_passRow) [.int (iI 3)] hX dX2_passRow_34 vX6_fail kM_X2_78 (wX6_fail hX zC_self (by omega)  u12) qTo (zWs_at (by omega) (zC_o)) rfl ⟨(Nat.le_of_ble_eq_true rfl), (Nat.le_of_ble_eq_true rfl)⟩ ⟨(Nat.le_of_ble_eq_true rfl), (Nat.le_of_ble_eq_true rfl)⟩ (Nat.le_of_ble_eq_true rfl) ?_
      refine g_ws (M := mX2_passRow) (congrArg (zWs A n) zC_over) ?_
      refine g_goto (M := mX2_passRow) (tgt := 44) dX2_passRow_37 (by decide) ?_
      refine g_iload (M := mX2_passRow) dX2_passRow_44 3 rfl ?_
      have e := (Option.some.inj h)
      subst e
      exact g_iret (M := mX2_passRow) dX2_passRow_46 rfl (Nat.le_of_ble_eq_true rfl) (Nat.le_of_ble_eq_true rfl) ⟨rfl, rfl⟩
  · have h := zti c6 h
    refine g_aload_n (M := mX2_passRow) dX2_passRow_18 0 rfl rfl ?_
    refine h_iconst (M := mX2_passRow) dX2_passRow_19 ?_
    obtain ⟨t13, u14, h⟩ := zbi h
    refine g_callVr (M := mX2_passRow) [.int (iI 1)] hX dX2_passRow_20 vX6_fail kM_X2_78 (wX6_fail hX zC_self (by omega)  u14) qTo (zWs_at (by omega) (zC_o)) rfl ⟨(Nat.le_of_ble_eq_true rfl), (Nat.le_of_ble_eq_true rfl)⟩ ⟨(Nat.le_of_ble_eq_true rfl), (Nat.le_of_ble_eq_true rfl)⟩ (Nat.le_of_ble_eq_true rfl) ?_
    refine g_ws (M := mX2_passRow) (congrArg (zWs A n) zC_over) ?_
    refine g_goto (M := mX2_passRow) (tgt := 44) dX2_passRow_23 (by decide) ?_
    refine g_iload (M := mX2_passRow) dX2_passRow_44 3 rfl ?_
    have e := (Option.some.inj h)
    subst e
    exact g_iret (M := mX2_passRow) dX2_passRow_46 rfl (Nat.le_of_ble_eq_true rfl) (Nat.le_of_ble_eq_true rfl) ⟨rfl, rfl⟩
set_option maxHeartbeats 4000000 in
set_option maxRecDepth 100000 in
theorem wX2_readCommand {X : zX} (hX2 : zOK2 X) {A : Nat → Nat} {n : Nat} {S : Nat → va_E} {qSc : Nat} {VSc : CV} (hSc : isC X A shSc qSc VSc S) (bSc : qSc + 5 < n) {qTo : Nat} {VTo : CV} (hTo : isC X A shTo qTo VTo S) (bTo : qTo + 1 < n) {qB : Nat} {VB : CV} (hB : isC X A shB qB VB S) (bB : qB + 6 < n) (dScTo : qSc + 5 < qTo ∨ qTo + 1 < qSc) (dScB : qSc + 5 < qB ∨ qB + 6 < qSc) (dToB : qTo + 1 < qB ∨ qB + 6 < qTo) {res : CV × CV} (h : fX2_readCommand VSc VTo VB = some res) : Con X yX2_readCommand mX2_readCommand 6 0 0 [.ref (A qSc), .ref (A qTo), .ref (A qB)] (zWs A n S) (zRet (zWs A n (zC X A shTo qTo res.2 (zC X A shSc qSc res.1 S))) none) := by
  refine con_of (lv := [(0, .ref (A qSc)), (1, .ref (A qTo)), (2, .ref (A qB))]) (by decide) rfl (fun h => by cases h) rfl (Nat.le_of_ble_eq_true rfl) rfl ?_
  have hX := hX2.1
  refine g_ws (M := mX2_readCommand) (congrArg (zWs A n) hSc.symm) ?_
  refine g_ws (M := mX2_readCommand) (congrArg (zWs A n) (isC.keepN hTo 5 1 rfl rfl (by omega)).symm) ?_
  unfold fX2_readCommand at h
  refine g_aload_n (M := mX2_readCommand) dX2_readCommand_0 1 rfl rfl ?_
  obtain ⟨t1, u2, h⟩ := zbi h
  refine g_callSr (M := mX2_readCommand) [.ref (A qTo)] hX dX2_readCommand_1 vX2_kindOf kM_X2_74 (wX2_kindOf hX2 zC_self (by omega)  u2) rfl ⟨(Nat.le_of_ble_eq_true rfl), (Nat.le_of_ble_eq_true rfl)⟩ ⟨(Nat.le_of_ble_eq_true rfl), (Nat.le_of_ble_eq_true rfl)⟩ (Nat.le_of_ble_eq_true rfl) ?_
  refine g_istore_n (M := mX2_readCommand) (lv' := [(0, .ref (A qSc)), (1, .ref (A qTo)), (2, .ref (A qB)), (3, .int (iI t1))]) dX2_readCommand_4 rfl (by decide) rfl ?_
  refine g_iload_n (M := mX2_readCommand) dX2_readCommand_5 3 rfl rfl ?_
  refine h_iconst (M := mX2_readCommand) dX2_readCommand_6 ?_
  obtain ⟨g4, h⟩ := zgi h
  refine h_icmp_ne (M := mX2_readCommand) (tgt := 18) dX2_readCommand_7 (by decide) g4 (by decide) (fun c3 => ?_) (fun c3 => ?_)
  · have h := zfi c3 h
    refine g_iload_n (M := mX2_readCommand) dX2_readCommand_18 3 rfl rfl ?_
    refine h_bipush (M := mX2_readCommand) dX2_readCommand_19 rfl ?_
    refine zJn_J (J := fun x10 => G X mX2_readCommand (zPm X 6 0 0 (zRet (zWs A n (zC X A shTo qTo res.2 (zC X A shSc qSc res.1 S))) none)) 0 0 40 [(0, .ref (A qSc)), (1, .ref (A qTo)), (2, .ref (A qB)), (3, .int (iI t1))] [] (zWs A n (zC X A shTo qTo VTo (zC X A shSc qSc VSc S)))) h (fun x10 h => ?_) (fun j10 h => ?_)
    · refine g_aload_n (M := mX2_readCommand) dX2_readCommand_40 0 rfl rfl ?_
      refine k_get (M := mX2_readCommand) (v := .int (iI (VSc.1 3))) dX2_readCommand_41 kF_X2_33.r qSc (by omega) ((zC_skipN 1 rfl (by omega)).trans (zC_o)) rfl ?_
      refine h_bipush (M := mX2_readCommand) dX2_readCommand_44 rfl ?_
      obtain ⟨g12, h⟩ := zgi h
      refine h_icmp_ne (M := mX2_readCommand) (tgt := 58) dX2_readCommand_46 (by decide) g12 (by decide) (fun c11 => ?_) (fun c11 => ?_)
      · have h := zfi c11 h
        refine g_aload_n (M := mX2_readCommand) dX2_readCommand_58 1 rfl rfl ?_
        obtain ⟨t13, u14, h⟩ := zbi h
        refine g_callVr (M := mX2_readCommand) [] hX dX2_readCommand_59 vX6_next kM_X2_67 (wX6_next hX zC_self (by omega)  u14) qTo (zWs_at (by omega) (zC_o)) rfl ⟨(Nat.le_of_ble_eq_true rfl), (Nat.le_of_ble_eq_true rfl)⟩ ⟨(Nat.le_of_ble_eq_true rfl), (Nat.le_of_ble_eq_true rfl)⟩ (Nat.le_of_ble_eq_true rfl) ?_
        refine g_ws (M := mX2_readCommand) (congrArg (zWs A n) zC_over) ?_
        refine g_aload_n (M := mX2_readCommand) dX2_readCommand_62 0 rfl rfl ?_
        refine k_get (M := mX2_readCommand) (v := .ref (A (qSc + 1))) dX2_readCommand_63 kF_X2_11.r qSc (by omega) ((zC_skipN 1 rfl (by omega)).trans (zC_o)) rfl ?_
        refine g_aload_n (M := mX2_readCommand) dX2_readCommand_66 0 rfl rfl ?_
        refine k_get (M := mX2_readCommand) (v := .int (iI (VSc.1 3))) dX2_readCommand_67 kF_X2_33.r qSc (by omega) ((zC_skipN 1 rfl (by omega)).trans (zC_o)) rfl ?_
        refine g_iload_n (M := mX2_readCommand) dX2_readCommand_70 3 rfl rfl ?_
        obtain ⟨g15, h⟩ := zgi h
        refine g_ws (M := mX2_readCommand) (congrArg (fun z => zWs A n (z)) (zC_commN 1 5 rfl rfl (by omega))) ?_
        refine c_iast (M := mX2_readCommand) (len := 30) (d := (0, 30)) dX2_readCommand_71 0 rfl rfl (by omega) (Nat.le_of_ble_eq_true rfl) g15.1 g15.2 ?_
        refine g_aload_n (M := mX2_readCommand) dX2_readCommand_72 0 rfl rfl ?_
        refine k_get (M := mX2_readCommand) (v := .ref (A (qSc + 2))) dX2_readCommand_73 kF_X2_15.r qSc (by omega) (zC_o) rfl ?_
        refine g_aload_n (M := mX2_readCommand) dX2_readCommand_76 0 rfl rfl ?_
        refine k_get (M := mX2_readCommand) (v := .int (iI (VSc.1 3))) dX2_readCommand_77 kF_X2_33.r qSc (by omega) (zC_o) rfl ?_
        refine g_iload_n (M := mX2_readCommand) dX2_readCommand_80 3 rfl rfl ?_
        obtain ⟨t16, u17, h⟩ := zbi h
        refine g_callSr (M := mX2_readCommand) [.int (iI t1)] hX dX2_readCommand_81 vX2_hasName kM_X2_82 (wX2_hasName hX   u17) rfl ⟨(Nat.le_of_ble_eq_true rfl), (Nat.le_of_ble_eq_true rfl)⟩ ⟨(Nat.le_of_ble_eq_true rfl), (Nat.le_of_ble_eq_true rfl)⟩ (Nat.le_of_ble_eq_true rfl) ?_
        refine zJn_J (J := fun x21 => G X mX2_readCommand (zPm X 6 0 0 (zRet (zWs A n (zC X A shTo qTo res.2 (zC X A shSc qSc res.1 S))) none)) 0 0 96 [(0, .ref (A qSc)), (1, .ref (A qTo)), (2, .ref (A qB)), (3, .int (iI t1))] [.int (iI x21.1), .int (iI (VSc.1 3)), .ref (A (qSc + 2))] (zWs A n (zC X A shSc qSc (zPa VSc 1 (VSc.1 3) t1) (zC X A shTo qTo x21.2 S)))) h (fun x21 h => ?_) (fun j21 h => ?_)
        · refine c_iast (M := mX2_readCommand) (len := 30) (d := (0, 30)) dX2_readCommand_96 1 rfl rfl (by omega) (Nat.le_of_ble_eq_true rfl) g15.1 g15.2 ?_
          refine g_aload_n (M := mX2_readCommand) dX2_readCommand_97 0 rfl rfl ?_
          refine k_get (M := mX2_readCommand) (v := .ref (A (qSc + 3))) dX2_readCommand_98 kF_X2_18.r qSc (by omega) (zC_o) rfl ?_
          refine g_aload_n (M := mX2_readCommand) dX2_readCommand_101 0 rfl rfl ?_
          refine k_get (M := mX2_readCommand) (v := .int (iI (VSc.1 3))) dX2_readCommand_102 kF_X2_33.r qSc (by omega) (zC_o) rfl ?_
          refine g_iload_n (M := mX2_readCommand) dX2_readCommand_105 3 rfl rfl ?_
          refine g_aload_n (M := mX2_readCommand) dX2_readCommand_106 1 rfl rfl ?_
          refine g_aload_n (M := mX2_readCommand) dX2_readCommand_107 2 rfl rfl ?_
          refine g_ws (M := mX2_readCommand) (congrArg (fun z => zWs A n (z)) (zC_commN 5 1 rfl rfl (by omega))) ?_
          obtain ⟨t22, u23, h⟩ := zbi h
          refine g_callSr (M := mX2_readCommand) [.int (iI t1), .ref (A qTo), .ref (A qB)] hX dX2_readCommand_108 vX2_passNumberOf kM_X2_90 (wX2_passNumberOf hX zC_self (by omega) (isC.keepN (isC.keepN hB 5 6 rfl rfl (by omega)) 1 6 rfl rfl (by omega)) (by omega) (by omega) u23) rfl ⟨(Nat.le_of_ble_eq_true rfl), (Nat.le_of_ble_eq_true rfl)⟩ ⟨(Nat.le_of_ble_eq_true rfl), (Nat.le_of_ble_eq_true rfl)⟩ (Nat.le_of_ble_eq_true rfl) ?_
          refine g_ws (M := mX2_readCommand) (congrArg (zWs A n) zC_over) ?_
          refine g_ws (M := mX2_readCommand) (congrArg (fun z => zWs A n (z)) (zC_commN 1 5 rfl rfl (by omega))) ?_
          refine c_iast (M := mX2_readCommand) (len := 30) (d := (0, 30)) dX2_readCommand_111 2 rfl rfl (by omega) (Nat.le_of_ble_eq_true rfl) g15.1 g15.2 ?_
          refine g_aload_n (M := mX2_readCommand) dX2_readCommand_112 0 rfl rfl ?_
          refine k_get (M := mX2_readCommand) (v := .ref (A (qSc + 4))) dX2_readCommand_113 kF_X2_21.r qSc (by omega) (zC_o) rfl ?_
          refine g_aload_n (M := mX2_readCommand) dX2_readCommand_116 0 rfl rfl ?_
          refine k_get (M := mX2_readCommand) (v := .int (iI (VSc.1 3))) dX2_readCommand_117 kF_X2_33.r qSc (by omega) (zC_o) rfl ?_
          refine g_aload_n (M := mX2_readCommand) dX2_readCommand_120 0 rfl rfl ?_
          refine k_get (M := mX2_readCommand) (v := .int (iI (VSc.1 3))) dX2_readCommand_121 kF_X2_33.r qSc (by omega) (zC_o) rfl ?_
          refine h_iconst (M := mX2_readCommand) dX2_readCommand_124 ?_
          refine h_iadd (M := mX2_readCommand) dX2_readCommand_125 ?_
          refine c_iast (M := mX2_readCommand) (len := 30) (d := (0, 30)) dX2_readCommand_126 3 rfl rfl (by omega) (Nat.le_of_ble_eq_true rfl) g15.1 g15.2 ?_
          refine g_aload_n (M := mX2_readCommand) dX2_readCommand_127 0 rfl rfl ?_
          refine g_dup (M := mX2_readCommand) dX2_readCommand_128 rfl ?_
          refine k_get (M := mX2_readCommand) (v := .int (iI (VSc.1 3))) dX2_readCommand_129 kF_X2_33.r qSc (by omega) (zC_o) rfl ?_
          refine h_iconst (M := mX2_readCommand) dX2_readCommand_132 ?_
          refine h_iadd (M := mX2_readCommand) dX2_readCommand_133 ?_
          refine c_put (M := mX2_readCommand) (k := 3) dX2_readCommand_134 kF_X2_33 (by omega) rfl rfl (by decide) rfl rfl ?_
          refine g_aload_n (M := mX2_readCommand) dX2_readCommand_137 0 rfl rfl ?_
          refine g_iload_n (M := mX2_readCommand) dX2_readCommand_138 3 rfl rfl ?_
          refine g_aload_n (M := mX2_readCommand) dX2_readCommand_139 1 rfl rfl ?_
          refine g_ws (M := mX2_readCommand) (congrArg (fun z => zWs A n (z)) (zC_commN 5 1 rfl rfl (by omega))) ?_
          obtain ⟨t24, u25, h⟩ := zbi h
          refine g_callVr (M := mX2_readCommand) [.int (iI t1), .ref (A qTo)] hX dX2_readCommand_140 vX2_finishCommand kM_X2_94 (wX2_finishCommand hX (isC.keepN zC_self 1 5 rfl rfl (by omega)) (by omega) zC_self (by omega) (by omega) u25) qSc (zWs_at (by omega) ((zC_skipN 1 rfl (by omega)).trans (zC_o))) rfl ⟨(Nat.le_of_ble_eq_true rfl), (Nat.le_of_ble_eq_true rfl)⟩ ⟨(Nat.le_of_ble_eq_true rfl), (Nat.le_of_ble_eq_true rfl)⟩ (Nat.le_of_ble_eq_true rfl) ?_
          refine g_ws (M := mX2_readCommand) (congrArg (zWs A n) (zC_over2 5 1 rfl rfl (by omega))) ?_
          have e := (Option.some.inj h)
          subst e
          exact g_vret (M := mX2_readCommand) dX2_readCommand_143 rfl (Nat.le_of_ble_eq_true rfl) (Nat.le_of_ble_eq_true rfl) ⟨rfl, rfl⟩
        · refine h_beq (M := mX2_readCommand) (tgt := 95) dX2_readCommand_84 (by decide) (fun c26 => ?_) (fun c26 => ?_)
          · have h := zfi (zbf c26) h
            refine h_iconst (M := mX2_readCommand) dX2_readCommand_95 ?_
            exact j21 ((-1), t13) h
          · have h := zti c26 h
            refine g_aload_n (M := mX2_readCommand) dX2_readCommand_87 1 rfl rfl ?_
            refine g_aload_n (M := mX2_readCommand) dX2_readCommand_88 2 rfl rfl ?_
            refine g_ws (M := mX2_readCommand) (congrArg (fun z => zWs A n (z)) (zC_commN 5 1 rfl rfl (by omega))) ?_
            obtain ⟨t27, u28, h⟩ := zbi h
            refine g_callSr (M := mX2_readCommand) [.ref (A qTo), .ref (A qB)] hX dX2_readCommand_89 vX2_passRow kM_X2_86 (wX2_passRow hX zC_self (by omega) (isC.keepN (isC.keepN hB 5 6 rfl rfl (by omega)) 1 6 rfl rfl (by omega)) (by omega) (by omega) u28) rfl ⟨(Nat.le_of_ble_eq_true rfl), (Nat.le_of_ble_eq_true rfl)⟩ ⟨(Nat.le_of_ble_eq_true rfl), (Nat.le_of_ble_eq_true rfl)⟩ (Nat.le_of_ble_eq_true rfl) ?_
            refine g_ws (M := mX2_readCommand) (congrArg (zWs A n) zC_over) ?_
            refine g_goto (M := mX2_readCommand) (tgt := 96) dX2_readCommand_92 (by decide) ?_
            refine g_ws (M := mX2_readCommand) (congrArg (fun z => zWs A n (z)) (zC_commN 1 5 rfl rfl (by omega))) ?_
            exact j21 (t27.2, t27.1) h
      · have h := zti c11 h
        refine g_aload_n (M := mX2_readCommand) dX2_readCommand_49 1 rfl rfl ?_
        refine h_bipush (M := mX2_readCommand) dX2_readCommand_50 rfl ?_
        obtain ⟨t29, u30, h⟩ := zbi h
        refine g_callVr (M := mX2_readCommand) [.int (iI 6)] hX dX2_readCommand_52 vX6_fail kM_X2_78 (wX6_fail hX zC_self (by omega)  u30) qTo (zWs_at (by omega) (zC_o)) rfl ⟨(Nat.le_of_ble_eq_true rfl), (Nat.le_of_ble_eq_true rfl)⟩ ⟨(Nat.le_of_ble_eq_true rfl), (Nat.le_of_ble_eq_true rfl)⟩ (Nat.le_of_ble_eq_true rfl) ?_
        refine g_ws (M := mX2_readCommand) (congrArg (zWs A n) zC_over) ?_
        refine g_goto (M := mX2_readCommand) (tgt := 143) dX2_readCommand_55 (by decide) ?_
        have e := (Option.some.inj h)
        subst e
        exact g_vret (M := mX2_readCommand) dX2_readCommand_143 rfl (Nat.le_of_ble_eq_true rfl) (Nat.le_of_ble_eq_true rfl) ⟨rfl, rfl⟩
    · refine h_icmp_ne (M := mX2_readCommand) (tgt := 40) dX2_readCommand_21 (by decide) g4 (by decide) (fun c31 => ?_) (fun c31 => ?_)
      · have h := zfi c31 h
        exact j10 () h
      · have h := zti c31 h
        refine g_aload_n (M := mX2_readCommand) dX2_readCommand_24 0 rfl rfl ?_
        refine k_get (M := mX2_readCommand) (v := .int (iI (VSc.1 6))) dX2_readCommand_25 kF_X2_37.r qSc (by omega) ((zC_skipN 1 rfl (by omega)).trans (zC_o)) rfl ?_
        refine h_iconst (M := mX2_readCommand) dX2_readCommand_28 ?_
        obtain ⟨g33, h⟩ := zgi h
        refine h_icmp_ne (M := mX2_readCommand) (tgt := 40) dX2_readCommand_29 (by decide) g33 (by decide) (fun c32 => ?_) (fun c32 => ?_)
        · have h := zfi c32 h
          exact j10 () h
        · have h := zti c32 h
          refine g_aload_n (M := mX2_readCommand) dX2_readCommand_32 1 rfl rfl ?_
          refine h_iconst (M := mX2_readCommand) dX2_readCommand_33 ?_
          obtain ⟨t34, u35, h⟩ := zbi h
          refine g_callVr (M := mX2_readCommand) [.int (iI 4)] hX dX2_readCommand_34 vX6_fail kM_X2_78 (wX6_fail hX zC_self (by omega)  u35) qTo (zWs_at (by omega) (zC_o)) rfl ⟨(Nat.le_of_ble_eq_true rfl), (Nat.le_of_ble_eq_true rfl)⟩ ⟨(Nat.le_of_ble_eq_true rfl), (Nat.le_of_ble_eq_true rfl)⟩ (Nat.le_of_ble_eq_true rfl) ?_
          refine g_ws (M := mX2_readCommand) (congrArg (zWs A n) zC_over) ?_
          refine g_goto (M := mX2_readCommand) (tgt := 143) dX2_readCommand_37 (by decide) ?_
          have e := (Option.some.inj h)
          subst e
          exact g_vret (M := mX2_readCommand) dX2_readCommand_143 rfl (Nat.le_of_ble_eq_true rfl) (Nat.le_of_ble_eq_true rfl) ⟨rfl, rfl⟩
  · have h := zti c3 h
    refine g_aload_n (M := mX2_readCommand) dX2_readCommand_10 1 rfl rfl ?_
    refine h_iconst (M := mX2_readCommand) dX2_readCommand_11 ?_
    obtain ⟨t36, u37, h⟩ := zbi h
    refine g_callVr (M := mX2_readCommand) [.int (iI 1)] hX dX2_readCommand_12 vX6_fail kM_X2_78 (wX6_fail hX zC_self (by omega)  u37) qTo (zWs_at (by omega) (zC_o)) rfl ⟨(Nat.le_of_ble_eq_true rfl), (Nat.le_of_ble_eq_true rfl)⟩ ⟨(Nat.le_of_ble_eq_true rfl), (Nat.le_of_ble_eq_true rfl)⟩ (Nat.le_of_ble_eq_true rfl) ?_
    refine g_ws (M := mX2_readCommand) (congrArg (zWs A n) zC_over) ?_
    refine g_goto (M := mX2_readCommand) (tgt := 143) dX2_readCommand_15 (by decide) ?_
    have e := (Option.some.inj h)
    subst e
    exact g_vret (M := mX2_readCommand) dX2_readCommand_143 rfl (Nat.le_of_ble_eq_true rfl) (Nat.le_of_ble_eq_true rfl) ⟨rfl, rfl⟩
set_option maxHeartbeats 4000000 in
set_option maxRecDepth 100000 in
theorem wX2_read {X : zX} (hX2 : zOK2 X) {A : Nat → Nat} {n : Nat} {S : Nat → va_E} {qSc : Nat} {VSc : CV} (hSc : isC X A shSc qSc VSc S) (bSc : qSc + 5 < n) {qTo : Nat} {VTo : CV} (hTo : isC X A shTo qTo VTo S) (bTo : qTo + 1 < n) {qB : Nat} {VB : CV} (hB : isC X A shB qB VB S) (bB : qB + 6 < n) (dScTo : qSc + 5 < qTo ∨ qTo + 1 < qSc) (dScB : qSc + 5 < qB ∨ qB + 6 < qSc) (dToB : qTo + 1 < qB ∨ qB + 6 < qTo) {res : CV × CV × Bool} (h : fX2_read VSc VTo VB = some res) : Con X yX2_read mX2_read 7 0 0 [.ref (A qSc), .ref (A qTo), .ref (A qB)] (zWs A n S) (zRet (zWs A n (zC X A shTo qTo res.2.1 (zC X A shSc qSc res.1 S))) (some (.int (iI (b2 res.2.2))))) := by
  refine con_of (lv := [(0, .ref (A qSc)), (1, .ref (A qTo)), (2, .ref (A qB))]) (by decide) rfl (fun h => by cases h) rfl (Nat.le_of_ble_eq_true rfl) rfl ?_
  have hX := hX2.1
  refine g_ws (M := mX2_read) (congrArg (zWs A n) hSc.symm) ?_
  refine g_ws (M := mX2_read) (congrArg (zWs A n) (isC.keepN hTo 5 1 rfl rfl (by omega)).symm) ?_
  unfold fX2_read at h
  refine g_aload_n (M := mX2_read) dX2_read_0 0 rfl rfl ?_
  refine h_iconst (M := mX2_read) dX2_read_1 ?_
  refine g_ws (M := mX2_read) (congrArg (fun z => zWs A n (z)) (zC_commN 1 5 rfl rfl (by omega))) ?_
  refine c_put (M := mX2_read) (k := 3) dX2_read_2 kF_X2_33 (by omega) rfl rfl (by decide) rfl rfl ?_
  refine g_aload_n (M := mX2_read) dX2_read_5 0 rfl rfl ?_
  refine h_iconst (M := mX2_read) dX2_read_6 ?_
  refine c_put (M := mX2_read) (k := 6) dX2_read_7 kF_X2_37 (by omega) rfl rfl (by decide) rfl rfl ?_
  refine g_aload_n (M := mX2_read) dX2_read_10 1 rfl rfl ?_
  refine g_ws (M := mX2_read) (congrArg (fun z => zWs A n (z)) (zC_commN 5 1 rfl rfl (by omega))) ?_
  obtain ⟨t1, u2, h⟩ := zbi h
  refine g_callVr (M := mX2_read) [] hX dX2_read_11 vX6_begin kM_X2_40 (wX6_begin hX zC_self (by omega)  u2) qTo (zWs_at (by omega) (zC_o)) rfl ⟨(Nat.le_of_ble_eq_true rfl), (Nat.le_of_ble_eq_true rfl)⟩ ⟨(Nat.le_of_ble_eq_true rfl), (Nat.le_of_ble_eq_true rfl)⟩ (Nat.le_of_ble_eq_true rfl) ?_
  refine g_ws (M := mX2_read) (congrArg (zWs A n) zC_over) ?_
  refine h_iconst (M := mX2_read) dX2_read_14 ?_
  refine g_istore_n (M := mX2_read) (lv' := [(0, .ref (A qSc)), (1, .ref (A qTo)), (2, .ref (A qB)), (3, .int (iI 0))]) dX2_read_15 rfl (by decide) rfl ?_
  obtain ⟨x3, l3, h⟩ := zbi h
  have r3 : ∀ y3, y3 = x3 → G X mX2_read (zPm X 7 0 0 (zRet (zWs A n (zC X A shTo qTo res.2.1 (zC X A shSc qSc res.1 S))) (some (.int (iI (b2 res.2.2)))))) 0 0 74 [(1, .ref (A qTo))] [] (zWs A n (zC X A shTo qTo y3.2.2 (zC X A shSc qSc y3.2.1 S))) := by
    intro y3 ey
    rw [← ey] at h
    refine g_aload_n (M := mX2_read) dX2_read_74 0 rfl rfl ?_
    refine k_get (M := mX2_read) (v := .int (iI (y3.2.2.1 6))) dX2_read_75 kF_X2_45.r qTo (by omega) (zC_o) rfl ?_
    obtain ⟨g29, h⟩ := zgi h
    refine h_if_ne (M := mX2_read) (tgt := 85) dX2_read_78 (by decide) g29 (fun c28 => ?_) (fun c28 => ?_)
    · have h := zfi c28 h
      refine h_iconst (M := mX2_read) dX2_read_85 ?_
      have e := (Option.some.inj h)
      subst e
      exact g_zret (M := mX2_read) .boolean dX2_read_86 rfl rfl (Nat.le_of_ble_eq_true rfl) (Nat.le_of_ble_eq_true rfl) ⟨rfl, rfl⟩
    · have h := zti c28 h
      refine h_iconst (M := mX2_read) dX2_read_81 ?_
      refine g_goto (M := mX2_read) (tgt := 86) dX2_read_82 (by decide) ?_
      have e := (Option.some.inj h)
      subst e
      exact g_zret (M := mX2_read) .boolean dX2_read_86 rfl rfl (Nat.le_of_ble_eq_true rfl) (Nat.le_of_ble_eq_true rfl) ⟨rfl, rfl⟩
  refine zLp_J (J := fun s3 => G X mX2_read (zPm X 7 0 0 (zRet (zWs A n (zC X A shTo qTo res.2.1 (zC X A shSc qSc res.1 S))) (some (.int (iI (b2 res.2.2)))))) 0 0 16 [(0, .ref (A qSc)), (1, .ref (A qTo)), (2, .ref (A qB)), (3, .int (iI s3.1))] [] (zWs A n (zC X A shTo qTo s3.2.2 (zC X A shSc qSc s3.2.1 S)))) (fun s3 w3 h3 b3 e3 => ?_) _ _ l3
  refine g_iload_n (M := mX2_read) dX2_read_16 3 rfl rfl ?_
  refine h_sipush (M := mX2_read) dX2_read_17 rfl ?_
  obtain ⟨g31, h3⟩ := zgi h3
  refine h_icmp_ge (M := mX2_read) (tgt := 74) dX2_read_20 (by decide) g31 (by decide) (fun c30 => ?_) (fun c30 => ?_)
  · have h3 := zti c30 h3
    refine g_lv (M := mX2_read) [1] rfl ?_
    exact r3 _ (e3 _ (Option.some.inj h3).symm)
  · have h3 := zfi (Int.not_le.mpr c30) h3
    refine g_aload_n (M := mX2_read) dX2_read_23 1 rfl rfl ?_
    refine k_get (M := mX2_read) (v := .int (iI (s3.2.2.1 6))) dX2_read_24 kF_X2_45.r qTo (by omega) (zC_o) rfl ?_
    obtain ⟨g33, h3⟩ := zgi h3
    refine h_if_ne (M := mX2_read) (tgt := 74) dX2_read_27 (by decide) g33 (fun c32 => ?_) (fun c32 => ?_)
    · have h3 := zfi c32 h3
      refine g_lv (M := mX2_read) [1] rfl ?_
      exact r3 _ (e3 _ (Option.some.inj h3).symm)
    · have h3 := zti c32 h3
      refine g_aload_n (M := mX2_read) dX2_read_30 0 rfl rfl ?_
      refine g_aload_n (M := mX2_read) dX2_read_31 1 rfl rfl ?_
      obtain ⟨t34, u35, h3⟩ := zbi h3
      refine g_callVr (M := mX2_read) [.ref (A qTo)] hX dX2_read_32 vX2_isAtEnd kM_X2_48 (wX2_isAtEnd hX (isC.keepN zC_self 1 5 rfl rfl (by omega)) (by omega) zC_self (by omega)  u35) qSc (zWs_at (by omega) ((zC_skipN 1 rfl (by omega)).trans (zC_o))) rfl ⟨(Nat.le_of_ble_eq_true rfl), (Nat.le_of_ble_eq_true rfl)⟩ ⟨(Nat.le_of_ble_eq_true rfl), (Nat.le_of_ble_eq_true rfl)⟩ (Nat.le_of_ble_eq_true rfl) ?_
      refine h_bne (M := mX2_read) (tgt := 74) dX2_read_35 (by decide) (fun c36 => ?_) (fun c36 => ?_)
      · have h3 := zti c36 h3
        refine g_lv (M := mX2_read) [1] rfl ?_
        exact r3 _ (e3 _ (Option.some.inj h3).symm)
      · have h3 := zfi (zbf c36) h3
        refine g_aload_n (M := mX2_read) dX2_read_38 0 rfl rfl ?_
        refine k_get (M := mX2_read) (v := .int (iI (s3.2.1.1 6))) dX2_read_39 kF_X2_37.r qSc (by omega) ((zC_skipN 1 rfl (by omega)).trans (zC_o)) rfl ?_
        refine zJn_J (J := fun x44 => G X mX2_read (zPm X 7 0 0 (zRet (zWs A n (zC X A shTo qTo res.2.1 (zC X A shSc qSc res.1 S))) (some (.int (iI (b2 res.2.2)))))) 0 0 62 [(0, .ref (A qSc)), (1, .ref (A qTo)), (2, .ref (A qB)), (3, .int (iI s3.1))] [] (zWs A n (zC X A shTo qTo s3.2.2 (zC X A shSc qSc s3.2.1 S)))) h3 (fun x44 h3 => ?_) (fun j44 h3 => ?_)
        · refine g_aload_n (M := mX2_read) dX2_read_62 0 rfl rfl ?_
          refine g_aload_n (M := mX2_read) dX2_read_63 1 rfl rfl ?_
          refine g_aload_n (M := mX2_read) dX2_read_64 2 rfl rfl ?_
          obtain ⟨t45, u46, h3⟩ := zbi h3
          refine g_callVr (M := mX2_read) [.ref (A qTo), .ref (A qB)] hX dX2_read_65 vX2_readCommand kM_X2_60 (wX2_readCommand hX2 (isC.keepN zC_self 1 5 rfl rfl (by omega)) (by omega) zC_self (by omega) (isC.keepN (isC.keepN hB 5 6 rfl rfl (by omega)) 1 6 rfl rfl (by omega)) (by omega) (by omega) (by omega) (by omega) u46) qSc (zWs_at (by omega) ((zC_skipN 1 rfl (by omega)).trans (zC_o))) rfl ⟨(Nat.le_of_ble_eq_true rfl), (Nat.le_of_ble_eq_true rfl)⟩ ⟨(Nat.le_of_ble_eq_true rfl), (Nat.le_of_ble_eq_true rfl)⟩ (Nat.le_of_ble_eq_true rfl) ?_
          refine g_ws (M := mX2_read) (congrArg (zWs A n) (zC_over2 5 1 rfl rfl (by omega))) ?_
          refine h_iinc (M := mX2_read) (j := 3) (lv' := [(0, .ref (A qSc)), (1, .ref (A qTo)), (2, .ref (A qB)), (3, .int (iI (s3.1 + 1)))]) dX2_read_68 rfl (Nat.le_of_ble_eq_true rfl) rfl ?_
          refine g_goto (M := mX2_read) (tgt := 16) dX2_read_71 (by decide) ?_
          exact b3 _ (Option.some.inj h3).symm
        · obtain ⟨g48, h3⟩ := zgi h3
          refine h_if_le (M := mX2_read) (tgt := 62) dX2_read_42 (by decide) g48 (fun c47 => ?_) (fun c47 => ?_)
          · have h3 := zti c47 h3
            exact j44 () h3
          · have h3 := zfi (Int.not_le.mpr c47) h3
            refine g_aload_n (M := mX2_read) dX2_read_45 1 rfl rfl ?_
            refine h_bipush (M := mX2_read) dX2_read_46 rfl ?_
            obtain ⟨t49, u50, h3⟩ := zbi h3
            refine g_callVr (M := mX2_read) [.int (iI 41)] hX dX2_read_48 vX6_isMark kM_X2_52 (wX6_isMark hX zC_self (by omega)  u50) qTo (zWs_at (by omega) (zC_o)) rfl ⟨(Nat.le_of_ble_eq_true rfl), (Nat.le_of_ble_eq_true rfl)⟩ ⟨(Nat.le_of_ble_eq_true rfl), (Nat.le_of_ble_eq_true rfl)⟩ (Nat.le_of_ble_eq_true rfl) ?_
            refine h_beq (M := mX2_read) (tgt := 62) dX2_read_51 (by decide) (fun c51 => ?_) (fun c51 => ?_)
            · have h3 := zfi (zbf c51) h3
              exact j44 () h3
            · have h3 := zti c51 h3
              refine g_aload_n (M := mX2_read) dX2_read_54 0 rfl rfl ?_
              refine g_aload_n (M := mX2_read) dX2_read_55 1 rfl rfl ?_
              obtain ⟨t52, u53, h3⟩ := zbi h3
              refine g_callVr (M := mX2_read) [.ref (A qTo)] hX dX2_read_56 vX2_closeRepeat kM_X2_56 (wX2_closeRepeat hX (isC.keepN zC_self 1 5 rfl rfl (by omega)) (by omega) zC_self (by omega) (by omega) u53) qSc (zWs_at (by omega) ((zC_skipN 1 rfl (by omega)).trans (zC_o))) rfl ⟨(Nat.le_of_ble_eq_true rfl), (Nat.le_of_ble_eq_true rfl)⟩ ⟨(Nat.le_of_ble_eq_true rfl), (Nat.le_of_ble_eq_true rfl)⟩ (Nat.le_of_ble_eq_true rfl) ?_
              refine g_ws (M := mX2_read) (congrArg (zWs A n) (zC_over2 5 1 rfl rfl (by omega))) ?_
              refine g_goto (M := mX2_read) (tgt := 68) dX2_read_59 (by decide) ?_
              refine h_iinc (M := mX2_read) (j := 3) (lv' := [(0, .ref (A qSc)), (1, .ref (A qTo)), (2, .ref (A qB)), (3, .int (iI (s3.1 + 1)))]) dX2_read_68 rfl (Nat.le_of_ble_eq_true rfl) rfl ?_
              refine g_goto (M := mX2_read) (tgt := 16) dX2_read_71 (by decide) ?_
              exact b3 _ (Option.some.inj h3).symm
