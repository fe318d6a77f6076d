set_option maxHeartbeats 4000000 in
set_option maxRecDepth 100000 in
theorem wX0_addRow {X : zX} (hX : zOK X) {A : Nat → Nat} {n : Nat} {S : Nat → va_E} {qB : Nat} {VB : CV} (hB : isC X A shB qB VB S) (bB : qB + 6 < n) {a1 : Int} {a2 : Int} {a3 : Int} {res : CV} (h : fX0_addRow VB a1 a2 a3 = some res) : Con X yX0_addRow mX0_addRow 0 0 0 [.ref (A qB), .long (iL a1), .long (iL a2), .int (iI a3)] (zWs A n S) (zRet (zWs A n (zC X A shB qB res S)) none) := by
  refine con_of (lv := [(0, .ref (A qB)), (1, .long (iL a1)), (3, .long (iL a2)), (5, .int (iI a3))]) (by decide) rfl (fun h => by cases h) rfl (Nat.le_of_ble_eq_true rfl) rfl ?_
  refine g_ws (M := mX0_addRow) (congrArg (zWs A n) hB.symm) ?_
  unfold fX0_addRow at h
  refine g_aload_n (M := mX0_addRow) dX0_addRow_0 0 rfl rfl ?_
  refine k_get (M := mX0_addRow) (v := .int (iI (VB.1 3))) dX0_addRow_1 kF_X0_41.r qB (by omega) (zC_o) rfl ?_
  refine h_bipush (M := mX0_addRow) dX0_addRow_4 rfl ?_
  obtain ⟨g2, h⟩ := zgi h
  refine h_icmp_ge (M := mX0_addRow) (tgt := 70) dX0_addRow_6 (by decide) g2 (by decide) (fun c1 => ?_) (fun c1 => ?_)
  · have h := zti c1 h
    have e := (Option.some.inj h)
    subst e
    exact g_vret (M := mX0_addRow) dX0_addRow_70 rfl (Nat.le_of_ble_eq_true rfl) (Nat.le_of_ble_eq_true rfl) ⟨rfl, rfl⟩
  · have h := zfi (Int.not_le.mpr c1) h
    refine g_aload_n (M := mX0_addRow) dX0_addRow_9 0 rfl rfl ?_
    refine k_get (M := mX0_addRow) (v := .ref (A (qB + 1))) dX0_addRow_10 kF_X0_21.r qB (by omega) (zC_o) rfl ?_
    refine g_aload_n (M := mX0_addRow) dX0_addRow_13 0 rfl rfl ?_
    refine k_get (M := mX0_addRow) (v := .int (iI (VB.1 3))) dX0_addRow_14 kF_X0_41.r qB (by omega) (zC_o) rfl ?_
    refine g_lload_n (M := mX0_addRow) dX0_addRow_17 1 rfl rfl ?_
    obtain ⟨g3, h⟩ := zgi h
    refine c_last (M := mX0_addRow) (len := 10) (d := (1, 10)) dX0_addRow_18 0 rfl rfl (by omega) (Nat.le_of_ble_eq_true rfl) g3.1 g3.2 ?_
    refine g_aload_n (M := mX0_addRow) dX0_addRow_19 0 rfl rfl ?_
    refine k_get (M := mX0_addRow) (v := .ref (A (qB + 2))) dX0_addRow_20 kF_X0_25.r qB (by omega) (zC_o) rfl ?_
    refine g_aload_n (M := mX0_addRow) dX0_addRow_23 0 rfl rfl ?_
    refine k_get (M := mX0_addRow) (v := .int (iI (VB.1 3))) dX0_addRow_24 kF_X0_41.r qB (by omega) (zC_o) rfl ?_
    refine g_lload_n (M := mX0_addRow) dX0_addRow_27 2 rfl rfl ?_
    refine c_last (M := mX0_addRow) (len := 10) (d := (1, 10)) dX0_addRow_28 1 rfl rfl (by omega) (Nat.le_of_ble_eq_true rfl) g3.1 g3.2 ?_
    refine g_aload_n (M := mX0_addRow) dX0_addRow_29 0 rfl rfl ?_
    refine k_get (M := mX0_addRow) (v := .ref (A (qB + 3))) dX0_addRow_30 kF_X0_28.r qB (by omega) (zC_o) rfl ?_
    refine g_aload_n (M := mX0_addRow) dX0_addRow_33 0 rfl rfl ?_
    refine k_get (M := mX0_addRow) (v := .int (iI (VB.1 3))) dX0_addRow_34 kF_X0_41.r qB (by omega) (zC_o) rfl ?_
    refine g_iload (M := mX0_addRow) dX0_addRow_37 3 rfl ?_
    refine c_iast (M := mX0_addRow) (len := 10) (d := (0, 10)) dX0_addRow_39 2 rfl rfl (by omega) (Nat.le_of_ble_eq_true rfl) g3.1 g3.2 ?_
    refine g_aload_n (M := mX0_addRow) dX0_addRow_40 0 rfl rfl ?_
    refine k_get (M := mX0_addRow) (v := .ref (A (qB + 4))) dX0_addRow_41 kF_X0_32.r qB (by omega) (zC_o) rfl ?_
    refine g_aload_n (M := mX0_addRow) dX0_addRow_44 0 rfl rfl ?_
    refine k_get (M := mX0_addRow) (v := .int (iI (VB.1 3))) dX0_addRow_45 kF_X0_41.r qB (by omega) (zC_o) rfl ?_
    refine h_iconst (M := mX0_addRow) dX0_addRow_48 ?_
    refine c_iast (M := mX0_addRow) (len := 10) (d := (0, 10)) dX0_addRow_49 3 rfl rfl (by omega) (Nat.le_of_ble_eq_true rfl) g3.1 g3.2 ?_
    refine g_aload_n (M := mX0_addRow) dX0_addRow_50 0 rfl rfl ?_
    refine k_get (M := mX0_addRow) (v := .ref (A (qB + 5))) dX0_addRow_51 kF_X0_35.r qB (by omega) (zC_o) rfl ?_
    refine g_aload_n (M := mX0_addRow) dX0_addRow_54 0 rfl rfl ?_
    refine k_get (M := mX0_addRow) (v := .int (iI (VB.1 3))) dX0_addRow_55 kF_X0_41.r qB (by omega) (zC_o) rfl ?_
    refine h_iconst (M := mX0_addRow) dX0_addRow_58 ?_
    refine c_iast (M := mX0_addRow) (len := 10) (d := (0, 10)) dX0_addRow_59 4 rfl rfl (by omega) (Nat.le_of_ble_eq_true rfl) g3.1 g3.2 ?_
    refine g_aload_n (M := mX0_addRow) dX0_addRow_60 0 rfl rfl ?_
    refine g_dup (M := mX0_addRow) dX0_addRow_61 rfl ?_
    refine k_get (M := mX0_addRow) (v := .int (iI (VB.1 3))) dX0_addRow_62 kF_X0_41.r qB (by omega) (zC_o) rfl ?_
    refine h_iconst (M := mX0_addRow) dX0_addRow_65 ?_
    refine h_iadd (M := mX0_addRow) dX0_addRow_66 ?_
    refine c_put (M := mX0_addRow) (k := 3) dX0_addRow_67 kF_X0_41 (by omega) rfl rfl (by decide) rfl rfl ?_
    have e := (Option.some.inj h)
    subst e
    exact g_vret (M := mX0_addRow) dX0_addRow_70 rfl (Nat.le_of_ble_eq_true rfl) (Nat.le_of_ble_eq_true rfl) ⟨rfl, rfl⟩
set_option maxHeartbeats 4000000 in
set_option maxRecDepth 100000 in
theorem wX0_allCovered {X : zX} (hX : zOK X) {A : Nat → Nat} {n : Nat} {S : Nat → va_E} {qB : Nat} {VB : CV} (hB : isC X A shB qB VB S) (bB : qB + 6 < n) {res : Int} (h : fX0_allCovered VB = some res) : Con X yX0_allCovered mX0_allCovered 1 0 0 [.ref (A qB)] (zWs A n S) (zRet (zWs A n S) (some (.int (iI res)))) := by
  refine con_of (lv := [(0, .ref (A qB))]) (by decide) rfl (fun h => by cases h) rfl (Nat.le_of_ble_eq_true rfl) rfl ?_
  unfold fX0_allCovered at h
  refine h_iconst (M := mX0_allCovered) dX0_allCovered_0 ?_
  refine g_istore_n (M := mX0_allCovered) (lv' := [(0, .ref (A qB)), (1, .int (iI 0))]) dX0_allCovered_1 rfl (by decide) rfl ?_
  refine h_iconst (M := mX0_allCovered) dX0_allCovered_2 ?_
  refine g_istore_n (M := mX0_allCovered) (lv' := [(0, .ref (A qB)), (1, .int (iI 0)), (2, .int (iI 0))]) dX0_allCovered_3 rfl (by decide) rfl ?_
  obtain ⟨x1, l1, h⟩ := zbi h
  have r1 : ∀ y1, y1 = x1 → G X mX0_allCovered (zPm X 1 0 0 (zRet (zWs A n S) (some (.int (iI res))))) 0 0 30 [(1, .int (iI y1.1))] [] (zWs A n S) := by
    intro y1 ey
    rw [← ey] at h
    refine g_iload_n (M := mX0_allCovered) dX0_allCovered_30 0 rfl rfl ?_
    have e := (Option.some.inj h)
    subst e
    exact g_iret (M := mX0_allCovered) dX0_allCovered_31 rfl (Nat.le_of_ble_eq_true rfl) (Nat.le_of_ble_eq_true rfl) ⟨rfl, rfl⟩
  refine zLp_J (J := fun s1 => G X mX0_allCovered (zPm X 1 0 0 (zRet (zWs A n S) (some (.int (iI res))))) 0 0 4 [(0, .ref (A qB)), (1, .int (iI s1.1)), (2, .int (iI s1.2))] [] (zWs A n S)) (fun s1 w1 h1 b1 e1 => ?_) _ _ l1
  refine g_iload_n (M := mX0_allCovered) dX0_allCovered_4 2 rfl rfl ?_
  refine g_aload_n (M := mX0_allCovered) dX0_allCovered_5 0 rfl rfl ?_
  refine k_get (M := mX0_allCovered) (v := .int (iI (VB.1 3))) dX0_allCovered_6 kF_X0_41.r qB (by omega) (hB.o) rfl ?_
  obtain ⟨g6, h1⟩ := zgi h1
  refine h_icmp_ge (M := mX0_allCovered) (tgt := 30) dX0_allCovered_9 (by decide) g6.1 g6.2 (fun c5 => ?_) (fun c5 => ?_)
  · have h1 := zti c5 h1
    refine g_lv (M := mX0_allCovered) [1] rfl ?_
    exact r1 _ (e1 _ (Option.some.inj h1).symm)
  · have h1 := zfi (Int.not_le.mpr c5) h1
    refine g_iload_n (M := mX0_allCovered) dX0_allCovered_12 1 rfl rfl ?_
    refine g_aload_n (M := mX0_allCovered) dX0_allCovered_13 0 rfl rfl ?_
    refine k_get (M := mX0_allCovered) (v := .ref (A (qB + 4))) dX0_allCovered_14 kF_X0_32.r qB (by omega) (hB.o) rfl ?_
    refine g_iload_n (M := mX0_allCovered) dX0_allCovered_17 2 rfl rfl ?_
    obtain ⟨g7, h1⟩ := zgi h1
    refine k_iald (M := mX0_allCovered) (len := 10) (f := VB.2 4) dX0_allCovered_18 (qB + 4) (by omega) (hB.a (d := (0, 10)) 3 rfl) (Nat.le_of_ble_eq_true rfl) g7.1 g7.2 ?_
    refine g_callSr (M := mX0_allCovered) [.int (iI (VB.2 4 s1.2))] hX dX0_allCovered_19 vJ6_bitCount_0f7a4 kM_X0_60 (cJ6_bitCount_0f7a4' (iI (VB.2 4 s1.2))) rfl ⟨(Nat.le_of_ble_eq_true rfl), (Nat.le_of_ble_eq_true rfl)⟩ ⟨(Nat.le_of_ble_eq_true rfl), (Nat.le_of_ble_eq_true rfl)⟩ (Nat.le_of_ble_eq_true rfl) ?_
    refine h_topx (M := mX0_allCovered) (b := zPop (VB.2 4 s1.2)) (zPop_e _) ?_
    refine h_iadd (M := mX0_allCovered) dX0_allCovered_22 ?_
    refine g_istore_n (M := mX0_allCovered) (lv' := [(0, .ref (A qB)), (1, .int (iI (s1.1 + (zPop (VB.2 4 s1.2))))), (2, .int (iI s1.2))]) dX0_allCovered_23 rfl (by decide) rfl ?_
    refine h_iinc (M := mX0_allCovered) (j := 2) (lv' := [(0, .ref (A qB)), (1, .int (iI (s1.1 + (zPop (VB.2 4 s1.2))))), (2, .int (iI (s1.2 + 1)))]) dX0_allCovered_24 rfl (Nat.le_of_ble_eq_true rfl) rfl ?_
    refine g_goto (M := mX0_allCovered) (tgt := 4) dX0_allCovered_27 (by decide) ?_
    exact b1 _ (Option.some.inj h1).symm
set_option maxHeartbeats 4000000 in
set_option maxRecDepth 100000 in
theorem wX0_lastStart {X : zX} (hX : zOK X) {A : Nat → Nat} {n : Nat} {S : Nat → va_E} {qB : Nat} {VB : CV} (hB : isC X A shB qB VB S) (bB : qB + 6 < n) {a1 : Int} {res : Int} (h : fX0_lastStart VB a1 = some res) : Con X yX0_lastStart mX0_lastStart 0 0 0 [.ref (A qB), .int (iI a1)] (zWs A n S) (zRet (zWs A n S) (some (.int (iI res)))) := by
  refine con_of (lv := [(0, .ref (A qB)), (1, .int (iI a1))]) (by decide) rfl (fun h => by cases h) rfl (Nat.le_of_ble_eq_true rfl) rfl ?_
  unfold fX0_lastStart at h
  refine g_aload_n (M := mX0_lastStart) dX0_lastStart_0 0 rfl rfl ?_
  refine k_get (M := mX0_lastStart) (v := .ref (A (qB + 3))) dX0_lastStart_1 kF_X0_28.r qB (by omega) (hB.o) rfl ?_
  refine g_iload_n (M := mX0_lastStart) dX0_lastStart_4 1 rfl rfl ?_
  obtain ⟨g1, h⟩ := zgi h
  refine k_iald (M := mX0_lastStart) (len := 10) (f := VB.2 3) dX0_lastStart_5 (qB + 3) (by omega) (hB.a (d := (0, 10)) 2 rfl) (Nat.le_of_ble_eq_true rfl) g1.1 g1.2 ?_
  refine g_aload_n (M := mX0_lastStart) dX0_lastStart_6 0 rfl rfl ?_
  refine k_get (M := mX0_lastStart) (v := .int (iI (VB.1 1))) dX0_lastStart_7 kF_X0_15.r qB (by omega) (hB.o) rfl ?_
  refine h_isub (M := mX0_lastStart) dX0_lastStart_10 ?_
  have e := (Option.some.inj h)
  subst e
  exact g_iret (M := mX0_lastStart) dX0_lastStart_11 rfl (Nat.le_of_ble_eq_true rfl) (Nat.le_of_ble_eq_true rfl) ⟨rfl, rfl⟩
set_option maxHeartbeats 4000000 in
set_option maxRecDepth 100000 in
theorem wX0_isOut {X : zX} (hX : zOK X) {A : Nat → Nat} {n : Nat} {S : Nat → va_E} {qB : Nat} {VB : CV} (hB : isC X A shB qB VB S) (bB : qB + 6 < n) {a1 : Int} {res : Bool} (h : fX0_isOut VB a1 = some res) : Con X yX0_isOut mX0_isOut 0 0 0 [.ref (A qB), .int (iI a1)] (zWs A n S) (zRet (zWs A n S) (some (.int (iI (b2 res))))) := by
  refine con_of (lv := [(0, .ref (A qB)), (1, .int (iI a1))]) (by decide) rfl (fun h => by cases h) rfl (Nat.le_of_ble_eq_true rfl) rfl ?_
  unfold fX0_isOut at h
  refine g_aload_n (M := mX0_isOut) dX0_isOut_0 0 rfl rfl ?_
  refine k_get (M := mX0_isOut) (v := .int (iI (VB.1 4))) dX0_isOut_1 kF_X0_44.r qB (by omega) (hB.o) rfl ?_
  refine g_iload_n (M := mX0_isOut) dX0_isOut_4 1 rfl rfl ?_
  obtain ⟨g1, h⟩ := zgi h
  refine g_iushr (M := mX0_isOut) dX0_isOut_5 rfl ?_
  refine h_topx (M := mX0_isOut) (b := (VB.1 4) / zP2 a1) (iI_ushr g1.1.1 g1.1.2 g1.2.1 g1.2.2) ?_
  refine h_iconst (M := mX0_isOut) dX0_isOut_6 ?_
  refine g_iand (M := mX0_isOut) dX0_isOut_7 ?_
  refine h_topx (M := mX0_isOut) (b := ((VB.1 4) / zP2 a1) % 2) (iI_mask _ 1 (by decide)) ?_
  obtain ⟨g3, h⟩ := zgi h
  refine h_if_eq (M := mX0_isOut) (tgt := 15) dX0_isOut_8 (by decide) g3 (fun c2 => ?_) (fun c2 => ?_)
  · have h := zti c2 h
    refine h_iconst (M := mX0_isOut) dX0_isOut_15 ?_
    have e := (Option.some.inj h)
    subst e
    exact g_zret (M := mX0_isOut) .boolean dX0_isOut_16 rfl rfl (Nat.le_of_ble_eq_true rfl) (Nat.le_of_ble_eq_true rfl) ⟨rfl, rfl⟩
  · have h := zfi c2 h
    refine h_iconst (M := mX0_isOut) dX0_isOut_11 ?_
    refine g_goto (M := mX0_isOut) (tgt := 16) dX0_isOut_12 (by decide) ?_
    have e := (Option.some.inj h)
    subst e
    exact g_zret (M := mX0_isOut) .boolean dX0_isOut_16 rfl rfl (Nat.le_of_ble_eq_true rfl) (Nat.le_of_ble_eq_true rfl) ⟨rfl, rfl⟩
set_option maxHeartbeats 4000000 in
set_option maxRecDepth 100000 in
theorem wX0_lettersFrom {X : zX} (hX : zOK X) {A : Nat → Nat} {n : Nat} {S : Nat → va_E} {qB : Nat} {VB : CV} (hB : isC X A shB qB VB S) (bB : qB + 6 < n) {a1 : Int} {res : Int} (h : fX0_lettersFrom VB a1 = some res) : Con X yX0_lettersFrom mX0_lettersFrom 0 0 0 [.ref (A qB), .int (iI a1)] (zWs A n S) (zRet (zWs A n S) (some (.int (iI res)))) := by
  refine con_of (lv := [(0, .ref (A qB)), (1, .int (iI a1))]) (by decide) rfl (fun h => by cases h) rfl (Nat.le_of_ble_eq_true rfl) rfl ?_
  unfold fX0_lettersFrom at h
  refine h_iconst (M := mX0_lettersFrom) dX0_lettersFrom_0 ?_
  refine g_aload_n (M := mX0_lettersFrom) dX0_lettersFrom_1 0 rfl rfl ?_
  refine k_get (M := mX0_lettersFrom) (v := .int (iI (VB.1 1))) dX0_lettersFrom_2 kF_X0_15.r qB (by omega) (hB.o) rfl ?_
  obtain ⟨g1, h⟩ := zgi h
  refine g_ishl (M := mX0_lettersFrom) dX0_lettersFrom_5 ?_
  refine h_topx (M := mX0_lettersFrom) (b := zP2 (VB.1 1)) (iI_shl1 g1.1 g1.2) ?_
  refine h_iconst (M := mX0_lettersFrom) dX0_lettersFrom_6 ?_
  refine h_isub (M := mX0_lettersFrom) dX0_lettersFrom_7 ?_
  refine g_iload_n (M := mX0_lettersFrom) dX0_lettersFrom_8 1 rfl rfl ?_
  obtain ⟨g2, h⟩ := zgi h
  refine g_ishl (M := mX0_lettersFrom) dX0_lettersFrom_9 ?_
  refine h_topx (M := mX0_lettersFrom) (b := ((zP2 (VB.1 1)) - 1) * zP2 a1) (iI_shl _ g2.1 g2.2) ?_
  have e := (Option.some.inj h)
  subst e
  exact g_iret (M := mX0_lettersFrom) dX0_lettersFrom_10 rfl (Nat.le_of_ble_eq_true rfl) (Nat.le_of_ble_eq_true rfl) ⟨rfl, rfl⟩
set_option maxHeartbeats 4000000 in
set_option maxRecDepth 100000 in
theorem wX0_isPlace {X : zX} (hX : zOK X) {A : Nat → Nat} {n : Nat} {S : Nat → va_E} {qB : Nat} {VB : CV} (hB : isC X A shB qB VB S) (bB : qB + 6 < n) {a1 : Int} {a2 : Int} {res : Bool} (h : fX0_isPlace VB a1 a2 = some res) : Con X yX0_isPlace mX0_isPlace 1 0 0 [.ref (A qB), .int (iI a1), .int (iI a2)] (zWs A n S) (zRet (zWs A n S) (some (.int (iI (b2 res))))) := by
  refine con_of (lv := [(0, .ref (A qB)), (1, .int (iI a1)), (2, .int (iI a2))]) (by decide) rfl (fun h => by cases h) rfl (Nat.le_of_ble_eq_true rfl) rfl ?_
  unfold fX0_isPlace at h
  refine g_iload_n (M := mX0_isPlace) dX0_isPlace_0 2 rfl rfl ?_
  obtain ⟨g2, h⟩ := zgi h
  refine h_if_lt (M := mX0_isPlace) (tgt := 40) dX0_isPlace_1 (by decide) g2 (fun c1 => ?_) (fun c1 => ?_)
  · have h := zti c1 h
    refine h_iconst (M := mX0_isPlace) dX0_isPlace_40 ?_
    have e := (Option.some.inj h)
    subst e
    exact g_zret (M := mX0_isPlace) .boolean dX0_isPlace_41 rfl rfl (Nat.le_of_ble_eq_true rfl) (Nat.le_of_ble_eq_true rfl) ⟨rfl, rfl⟩
  · have h := zfi (Int.not_lt.mpr c1) h
    refine g_iload_n (M := mX0_isPlace) dX0_isPlace_4 2 rfl rfl ?_
    refine g_aload_n (M := mX0_isPlace) dX0_isPlace_5 0 rfl rfl ?_
    refine g_iload_n (M := mX0_isPlace) dX0_isPlace_6 1 rfl rfl ?_
    obtain ⟨t3, u4, h⟩ := zbi h
    refine g_callVr (M := mX0_isPlace) [.int (iI a1)] hX dX0_isPlace_7 vX0_lastStart kM_X0_66 (wX0_lastStart hX hB (by omega)  u4) qB (zWs_at (by omega) (hB.o)) rfl ⟨(Nat.le_of_ble_eq_true rfl), (Nat.le_of_ble_eq_true rfl)⟩ ⟨(Nat.le_of_ble_eq_true rfl), (Nat.le_of_ble_eq_true rfl)⟩ (Nat.le_of_ble_eq_true rfl) ?_
    obtain ⟨g6, h⟩ := zgi h
    refine h_icmp_gt (M := mX0_isPlace) (tgt := 40) dX0_isPlace_10 (by decide) g2 g6 (fun c5 => ?_) (fun c5 => ?_)
    · have h := zti c5 h
      refine h_iconst (M := mX0_isPlace) dX0_isPlace_40 ?_
      have e := (Option.some.inj h)
      subst e
      exact g_zret (M := mX0_isPlace) .boolean dX0_isPlace_41 rfl rfl (Nat.le_of_ble_eq_true rfl) (Nat.le_of_ble_eq_true rfl) ⟨rfl, rfl⟩
    · have h := zfi (Int.not_lt.mpr c5) h
      refine g_aload_n (M := mX0_isPlace) dX0_isPlace_13 0 rfl rfl ?_
      refine g_iload_n (M := mX0_isPlace) dX0_isPlace_14 1 rfl rfl ?_
      obtain ⟨t7, u8, h⟩ := zbi h
      refine g_callVr (M := mX0_isPlace) [.int (iI a1)] hX dX0_isPlace_15 vX0_isOut kM_X0_69 (wX0_isOut hX hB (by omega)  u8) qB (zWs_at (by omega) (hB.o)) rfl ⟨(Nat.le_of_ble_eq_true rfl), (Nat.le_of_ble_eq_true rfl)⟩ ⟨(Nat.le_of_ble_eq_true rfl), (Nat.le_of_ble_eq_true rfl)⟩ (Nat.le_of_ble_eq_true rfl) ?_
      refine h_bne (M := mX0_isPlace) (tgt := 40) dX0_isPlace_18 (by decide) (fun c9 => ?_) (fun c9 => ?_)
      · have h := zti c9 h
        refine h_iconst (M := mX0_isPlace) dX0_isPlace_40 ?_
        have e := (Option.some.inj h)
        subst e
        exact g_zret (M := mX0_isPlace) .boolean dX0_isPlace_41 rfl rfl (Nat.le_of_ble_eq_true rfl) (Nat.le_of_ble_eq_true rfl) ⟨rfl, rfl⟩
      · have h := zfi (zbf c9) h
        refine g_aload_n (M := mX0_isPlace) dX0_isPlace_21 0 rfl rfl ?_
        refine k_get (M := mX0_isPlace) (v := .ref (A (qB + 4))) dX0_isPlace_22 kF_X0_32.r qB (by omega) (hB.o) rfl ?_
        refine g_iload_n (M := mX0_isPlace) dX0_isPlace_25 1 rfl rfl ?_
        obtain ⟨g10, h⟩ := zgi h
        refine k_iald (M := mX0_isPlace) (len := 10) (f := VB.2 4) dX0_isPlace_26 (qB + 4) (by omega) (hB.a (d := (0, 10)) 3 rfl) (Nat.le_of_ble_eq_true rfl) g10.1 g10.2 ?_
        refine g_aload_n (M := mX0_isPlace) dX0_isPlace_27 0 rfl rfl ?_
        refine g_iload_n (M := mX0_isPlace) dX0_isPlace_28 2 rfl rfl ?_
        obtain ⟨t11, u12, h⟩ := zbi h
        refine g_callVr (M := mX0_isPlace) [.int (iI a2)] hX dX0_isPlace_29 vX0_lettersFrom kM_X0_73 (wX0_lettersFrom hX hB (by omega)  u12) qB (zWs_at (by omega) (hB.o)) rfl ⟨(Nat.le_of_ble_eq_true rfl), (Nat.le_of_ble_eq_true rfl)⟩ ⟨(Nat.le_of_ble_eq_true rfl), (Nat.le_of_ble_eq_true rfl)⟩ (Nat.le_of_ble_eq_true rfl) ?_
        obtain ⟨g13, h⟩ := zgi h
        refine g_iand (M := mX0_isPlace) dX0_isPlace_32 ?_
        refine h_topx (M := mX0_isPlace) (b := zAnd (VB.2 4 a1) t11) (iI_and g13.1 g13.2) ?_
        obtain ⟨g15, h⟩ := zgi h
        refine h_if_ne (M := mX0_isPlace) (tgt := 40) dX0_isPlace_33 (by decide) g15 (fun c14 => ?_) (fun c14 => ?_)
        · have h := zfi c14 h
          refine h_iconst (M := mX0_isPlace) dX0_isPlace_40 ?_
          have e := (Option.some.inj h)
          subst e
          exact g_zret (M := mX0_isPlace) .boolean dX0_isPlace_41 rfl rfl (Nat.le_of_ble_eq_true rfl) (Nat.le_of_ble_eq_true rfl) ⟨rfl, rfl⟩
        · have h := zti c14 h
          refine h_iconst (M := mX0_isPlace) dX0_isPlace_36 ?_
          refine g_goto (M := mX0_isPlace) (tgt := 41) dX0_isPlace_37 (by decide) ?_
          have e := (Option.some.inj h)
          subst e
          exact g_zret (M := mX0_isPlace) .boolean dX0_isPlace_41 rfl rfl (Nat.le_of_ble_eq_true rfl) (Nat.le_of_ble_eq_true rfl) ⟨rfl, rfl⟩
set_option maxHeartbeats 4000000 in
set_option maxRecDepth 100000 in
theorem wX0_placesOf {X : zX} (hX : zOK X) {A : Nat → Nat} {n : Nat} {S : Nat → va_E} {qB : Nat} {VB : CV} (hB : isC X A shB qB VB S) (bB : qB + 6 < n) {a1 : Int} {res : Int} (h : fX0_placesOf VB a1 = some res) : Con X yX0_placesOf mX0_placesOf 2 0 0 [.ref (A qB), .int (iI a1)] (zWs A n S) (zRet (zWs A n S) (some (.int (iI res)))) := by
  refine con_of (lv := [(0, .ref (A qB)), (1, .int (iI a1))]) (by decide) rfl (fun h => by cases h) rfl (Nat.le_of_ble_eq_true rfl) rfl ?_
  unfold fX0_placesOf at h
  refine h_iconst (M := mX0_placesOf) dX0_placesOf_0 ?_
  refine g_istore_n (M := mX0_placesOf) (lv' := [(0, .ref (A qB)), (1, .int (iI a1)), (2, .int (iI 0))]) dX0_placesOf_1 rfl (by decide) rfl ?_
  refine h_iconst (M := mX0_placesOf) dX0_placesOf_2 ?_
  refine g_istore_n (M := mX0_placesOf) (lv' := [(0, .ref (A qB)), (1, .int (iI a1)), (2, .int (iI 0)), (3, .int (iI 0))]) dX0_placesOf_3 rfl (by decide) rfl ?_
  obtain ⟨x1, l1, h⟩ := zbi h
  have r1 : ∀ y1, y1 = x1 → G X mX0_placesOf (zPm X 2 0 0 (zRet (zWs A n S) (some (.int (iI res))))) 0 0 31 [(2, .int (iI y1.1))] [] (zWs A n S) := by
    intro y1 ey
    rw [← ey] at h
    refine g_iload_n (M := mX0_placesOf) dX0_placesOf_31 0 rfl rfl ?_
    have e := (Option.some.inj h)
    subst e
    exact g_iret (M := mX0_placesOf) dX0_placesOf_32 rfl (Nat.le_of_ble_eq_true rfl) (Nat.le_of_ble_eq_true rfl) ⟨rfl, rfl⟩
  refine zLp_J (J := fun s1 => G X mX0_placesOf (zPm X 2 0 0 (zRet (zWs A n S) (some (.int (iI res))))) 0 0 4 [(0, .ref (A qB)), (1, .int (iI a1)), (2, .int (iI s1.1)), (3, .int (iI s1.2))] [] (zWs A n S)) (fun s1 w1 h1 b1 e1 => ?_) _ _ l1
  refine g_iload_n (M := mX0_placesOf) dX0_placesOf_4 3 rfl rfl ?_
  refine g_aload_n (M := mX0_placesOf) dX0_placesOf_5 0 rfl rfl ?_
  refine g_iload_n (M := mX0_placesOf) dX0_placesOf_6 1 rfl rfl ?_
  obtain ⟨t9, u10, h1⟩ := zbi h1
  refine g_callVr (M := mX0_placesOf) [.int (iI a1)] hX dX0_placesOf_7 vX0_lastStart kM_X0_66 (wX0_lastStart hX hB (by omega)  u10) qB (zWs_at (by omega) (hB.o)) rfl ⟨(Nat.le_of_ble_eq_true rfl), (Nat.le_of_ble_eq_true rfl)⟩ ⟨(Nat.le_of_ble_eq_true rfl), (Nat.le_of_ble_eq_true rfl)⟩ (Nat.le_of_ble_eq_true rfl) ?_
  obtain ⟨g12, h1⟩ := zgi h1
  refine h_icmp_gt (M := mX0_placesOf) (tgt := 31) dX0_placesOf_10 (by decide) g12.1 g12.2 (fun c11 => ?_) (fun c11 => ?_)
  · have h1 := zti c11 h1
    refine g_lv (M := mX0_placesOf) [2] rfl ?_
    exact r1 _ (e1 _ (Option.some.inj h1).symm)
  · have h1 := zfi (Int.not_lt.mpr c11) h1
    refine g_aload_n (M := mX0_placesOf) dX0_placesOf_13 0 rfl rfl ?_
    refine g_iload_n (M := mX0_placesOf) dX0_placesOf_14 1 rfl rfl ?_
    refine g_iload_n (M := mX0_placesOf) dX0_placesOf_15 3 rfl rfl ?_
    obtain ⟨t13, u14, h1⟩ := zbi h1
    refine g_callVr (M := mX0_placesOf) [.int (iI a1), .int (iI s1.2)] hX dX0_placesOf_16 vX0_isPlace kM_X0_76 (wX0_isPlace hX hB (by omega)  u14) qB (zWs_at (by omega) (hB.o)) rfl ⟨(Nat.le_of_ble_eq_true rfl), (Nat.le_of_ble_eq_true rfl)⟩ ⟨(Nat.le_of_ble_eq_true rfl), (Nat.le_of_ble_eq_true rfl)⟩ (Nat.le_of_ble_eq_true rfl) ?_
    refine h_beq (M := mX0_placesOf) (tgt := 25) dX0_placesOf_19 (by decide) (fun c15 => ?_) (fun c15 => ?_)
    · have h1 := zfi (zbf c15) h1
      refine h_iinc (M := mX0_placesOf) (j := 3) (lv' := [(0, .ref (A qB)), (1, .int (iI a1)), (2, .int (iI s1.1)), (3, .int (iI (s1.2 + 1)))]) dX0_placesOf_25 rfl (Nat.le_of_ble_eq_true rfl) rfl ?_
      refine g_goto (M := mX0_placesOf) (tgt := 4) dX0_placesOf_28 (by decide) ?_
      exact b1 _ (Option.some.inj h1).symm
    · have h1 := zti c15 h1
      refine h_iinc (M := mX0_placesOf) (j := 2) (lv' := [(0, .ref (A qB)), (1, .int (iI a1)), (2, .int (iI (s1.1 + 1))), (3, .int (iI s1.2))]) dX0_placesOf_22 rfl (Nat.le_of_ble_eq_true rfl) rfl ?_
      refine h_iinc (M := mX0_placesOf) (j := 3) (lv' := [(0, .ref (A qB)), (1, .int (iI a1)), (2, .int (iI (s1.1 + 1))), (3, .int (iI (s1.2 + 1)))]) dX0_placesOf_25 rfl (Nat.le_of_ble_eq_true rfl) rfl ?_
      refine g_goto (M := mX0_placesOf) (tgt := 4) dX0_placesOf_28 (by decide) ?_
      exact b1 _ (Option.some.inj h1).symm
set_option maxHeartbeats 4000000 in
set_option maxRecDepth 100000 in
theorem wX0_allPlaces {X : zX} (hX : zOK X) {A : Nat → Nat} {n : Nat} {S : Nat → va_E} {qB : Nat} {VB : CV} (hB : isC X A shB qB VB S) (bB : qB + 6 < n) {res : Int} (h : fX0_allPlaces VB = some res) : Con X yX0_allPlaces mX0_allPlaces 3 0 0 [.ref (A qB)] (zWs A n S) (zRet (zWs A n S) (some (.int (iI res)))) := by
  refine con_of (lv := [(0, .ref (A qB))]) (by decide) rfl (fun h => by cases h) rfl (Nat.le_of_ble_eq_true rfl) rfl ?_
  unfold fX0_allPlaces at h
  refine h_iconst (M := mX0_allPlaces) dX0_allPlaces_0 ?_
  refine g_istore_n (M := mX0_allPlaces) (lv' := [(0, .ref (A qB)), (1, .int (iI 0))]) dX0_allPlaces_1 rfl (by decide) rfl ?_
  refine h_iconst (M := mX0_allPlaces) dX0_allPlaces_2 ?_
  refine g_istore_n (M := mX0_allPlaces) (lv' := [(0, .ref (A qB)), (1, .int (iI 0)), (2, .int (iI 0))]) dX0_allPlaces_3 rfl (by decide) rfl ?_
  obtain ⟨x1, l1, h⟩ := zbi h
  have r1 : ∀ y1, y1 = x1 → G X mX0_allPlaces (zPm X 3 0 0 (zRet (zWs A n S) (some (.int (iI res))))) 0 0 26 [(1, .int (iI y1.1))] [] (zWs A n S) := by
    intro y1 ey
    rw [← ey] at h
    refine g_iload_n (M := mX0_allPlaces) dX0_allPlaces_26 0 rfl rfl ?_
    have e := (Option.some.inj h)
    subst e
    exact g_iret (M := mX0_allPlaces) dX0_allPlaces_27 rfl (Nat.le_of_ble_eq_true rfl) (Nat.le_of_ble_eq_true rfl) ⟨rfl, rfl⟩
  refine zLp_J (J := fun s1 => G X mX0_allPlaces (zPm X 3 0 0 (zRet (zWs A n S) (some (.int (iI res))))) 0 0 4 [(0, .ref (A qB)), (1, .int (iI s1.1)), (2, .int (iI s1.2))] [] (zWs A n S)) (fun s1 w1 h1 b1 e1 => ?_) _ _ l1
  refine g_iload_n (M := mX0_allPlaces) dX0_allPlaces_4 2 rfl rfl ?_
  refine g_aload_n (M := mX0_allPlaces) dX0_allPlaces_5 0 rfl rfl ?_
  refine k_get (M := mX0_allPlaces) (v := .int (iI (VB.1 3))) dX0_allPlaces_6 kF_X0_41.r qB (by omega) (hB.o) rfl ?_
  obtain ⟨g7, h1⟩ := zgi h1
  refine h_icmp_ge (M := mX0_allPlaces) (tgt := 26) dX0_allPlaces_9 (by decide) g7.1 g7.2 (fun c6 => ?_) (fun c6 => ?_)
  · have h1 := zti c6 h1
    refine g_lv (M := mX0_allPlaces) [1] rfl ?_
    exact r1 _ (e1 _ (Option.some.inj h1).symm)
  · have h1 := zfi (Int.not_le.mpr c6) h1
    refine g_iload_n (M := mX0_allPlaces) dX0_allPlaces_12 1 rfl rfl ?_
    refine g_aload_n (M := mX0_allPlaces) dX0_allPlaces_13 0 rfl rfl ?_
    refine g_iload_n (M := mX0_allPlaces) dX0_allPlaces_14 2 rfl rfl ?_
    obtain ⟨t8, u9, h1⟩ := zbi h1
    refine g_callVr (M := mX0_allPlaces) [.int (iI s1.2)] hX dX0_allPlaces_15 vX0_placesOf kM_X0_80 (wX0_placesOf hX hB (by omega)  u9) qB (zWs_at (by omega) (hB.o)) rfl ⟨(Nat.le_of_ble_eq_true rfl), (Nat.le_of_ble_eq_true rfl)⟩ ⟨(Nat.le_of_ble_eq_true rfl), (Nat.le_of_ble_eq_true rfl)⟩ (Nat.le_of_ble_eq_true rfl) ?_
    refine h_iadd (M := mX0_allPlaces) dX0_allPlaces_18 ?_
    refine g_istore_n (M := mX0_allPlaces) (lv' := [(0, .ref (A qB)), (1, .int (iI (s1.1 + t8))), (2, .int (iI s1.2))]) dX0_allPlaces_19 rfl (by decide) rfl ?_
    refine h_iinc (M := mX0_allPlaces) (j := 2) (lv' := [(0, .ref (A qB)), (1, .int (iI (s1.1 + t8))), (2, .int (iI (s1.2 + 1)))]) dX0_allPlaces_20 rfl (Nat.le_of_ble_eq_true rfl) rfl ?_
    refine g_goto (M := mX0_allPlaces) (tgt := 4) dX0_allPlaces_23 (by decide) ?_
    exact b1 _ (Option.some.inj h1).symm
set_option maxHeartbeats 4000000 in
set_option maxRecDepth 100000 in
theorem wX0_codeAt {X : zX} (hX : zOK X) {A : Nat → Nat} {n : Nat} {S : Nat → va_E} {qB : Nat} {VB : CV} (hB : isC X A shB qB VB S) (bB : qB + 6 < n) {a1 : Int} {a2 : Int} {res : Int} (h : fX0_codeAt VB a1 a2 = some res) : Con X yX0_codeAt mX0_codeAt 0 0 0 [.ref (A qB), .int (iI a1), .int (iI a2)] (zWs A n S) (zRet (zWs A n S) (some (.int (iI res)))) := by
  refine con_of (lv := [(0, .ref (A qB)), (1, .int (iI a1)), (2, .int (iI a2))]) (by decide) rfl (fun h => by cases h) rfl (Nat.le_of_ble_eq_true rfl) rfl ?_
  unfold fX0_codeAt at h
  refine g_aload_n (M := mX0_codeAt) dX0_codeAt_0 0 rfl rfl ?_
  refine k_get (M := mX0_codeAt) (v := .ref (A (qB + 2))) dX0_codeAt_1 kF_X0_25.r qB (by omega) (hB.o) rfl ?_
  refine g_iload_n (M := mX0_codeAt) dX0_codeAt_4 1 rfl rfl ?_
  obtain ⟨g1, h⟩ := zgi h
  refine k_lald (M := mX0_codeAt) (len := 10) (f := VB.2 2) dX0_codeAt_5 (qB + 2) (by omega) (hB.a (d := (1, 10)) 1 rfl) (Nat.le_of_ble_eq_true rfl) g1.1 g1.2 ?_
  refine h_iconst (M := mX0_codeAt) dX0_codeAt_6 ?_
  refine g_iload_n (M := mX0_codeAt) dX0_codeAt_7 2 rfl rfl ?_
  refine h_imul (M := mX0_codeAt) dX0_codeAt_8 ?_
  obtain ⟨g2, h⟩ := zgi h
  refine g_lushr (M := mX0_codeAt) dX0_codeAt_9 rfl ?_
  refine h_topl (M := mX0_codeAt) (b := (VB.2 2 a1) / zP2 (2 * a2)) (iL_ushr g2.1.1 g2.1.2 g2.2.1 g2.2.2) ?_
  obtain ⟨g3, h⟩ := zgi h
  refine g_l2i (M := mX0_codeAt) dX0_codeAt_10 rfl ?_
  refine h_topx (M := mX0_codeAt) (b := (VB.2 2 a1) / zP2 (2 * a2)) (iL_i g3) ?_
  refine h_iconst (M := mX0_codeAt) dX0_codeAt_11 ?_
  refine h_iconst (M := mX0_codeAt) dX0_codeAt_12 ?_
  refine g_aload_n (M := mX0_codeAt) dX0_codeAt_13 0 rfl rfl ?_
  refine k_get (M := mX0_codeAt) (v := .int (iI (VB.1 1))) dX0_codeAt_14 kF_X0_15.r qB (by omega) (hB.o) rfl ?_
  refine h_imul (M := mX0_codeAt) dX0_codeAt_17 ?_
  obtain ⟨g4, h⟩ := zgi h
  refine g_ishl (M := mX0_codeAt) dX0_codeAt_18 ?_
  refine h_topx (M := mX0_codeAt) (b := zP2 (2 * (VB.1 1))) (iI_shl1 g4.1 g4.2) ?_
  refine h_iconst (M := mX0_codeAt) dX0_codeAt_19 ?_
  refine h_isub (M := mX0_codeAt) dX0_codeAt_20 ?_
  obtain ⟨g5, h⟩ := zgi h
  refine g_iand (M := mX0_codeAt) dX0_codeAt_21 ?_
  refine h_topx (M := mX0_codeAt) (b := ((VB.2 2 a1) / zP2 (2 * a2)) % zP2 (2 * (VB.1 1))) (iI_maskP g5.1 g5.2) ?_
  have e := (Option.some.inj h)
  subst e
  exact g_iret (M := mX0_codeAt) dX0_codeAt_22 rfl (Nat.le_of_ble_eq_true rfl) (Nat.le_of_ble_eq_true rfl) ⟨rfl, rfl⟩
set_option maxHeartbeats 4000000 in
set_option maxRecDepth 100000 in
theorem wX0_differing {X : zX} (hX : zOK X) {A : Nat → Nat} {n : Nat} {S : Nat → va_E} {a1 : Int} {a2 : Int} {a3 : Int} {res : Int} (h : fX0_differing a1 a2 a3 = some res) : Con X yX0_differing mX0_differing 1 0 0 [.int (iI a1), .int (iI a2), .int (iI a3)] (zWs A n S) (zRet (zWs A n S) (some (.int (iI res)))) := by
  refine con_of (lv := [(0, .int (iI a1)), (1, .int (iI a2)), (2, .int (iI a3))]) (by decide) rfl (fun h => by cases h) rfl (Nat.le_of_ble_eq_true rfl) rfl ?_
  unfold fX0_differing at h
  refine g_iload_n (M := mX0_differing) dX0_differing_0 0 rfl rfl ?_
  refine g_iload_n (M := mX0_differing) dX0_differing_1 1 rfl rfl ?_
  obtain ⟨g1, h⟩ := zgi h
  refine g_ixor (M := mX0_differing) dX0_differing_2 ?_
  refine h_topx (M := mX0_differing) (b := zXor a1 a2) (iI_xor g1.1 g1.2) ?_
  refine h_iconst (M := mX0_differing) dX0_differing_3 ?_
  refine h_iconst (M := mX0_differing) dX0_differing_4 ?_
  refine g_iload_n (M := mX0_differing) dX0_differing_5 2 rfl rfl ?_
  refine h_imul (M := mX0_differing) dX0_differing_6 ?_
  obtain ⟨g2, h⟩ := zgi h
  refine g_ishl (M := mX0_differing) dX0_differing_7 ?_
  refine h_topx (M := mX0_differing) (b := zP2 (2 * a3)) (iI_shl1 g2.1 g2.2) ?_
  refine h_iconst (M := mX0_differing) dX0_differing_8 ?_
  refine h_isub (M := mX0_differing) dX0_differing_9 ?_
  obtain ⟨g3, h⟩ := zgi h
  refine g_iand (M := mX0_differing) dX0_differing_10 ?_
  refine h_topx (M := mX0_differing) (b := (zXor a1 a2) % zP2 (2 * a3)) (iI_maskP g3.1 g3.2) ?_
  refine g_istore_n (M := mX0_differing) (lv' := [(0, .int (iI a1)), (1, .int (iI a2)), (2, .int (iI a3)), (3, .int (iI ((zXor a1 a2) % zP2 (2 * a3))))]) dX0_differing_11 rfl (by decide) rfl ?_
  refine g_iload_n (M := mX0_differing) dX0_differing_12 3 rfl rfl ?_
  refine g_iload_n (M := mX0_differing) dX0_differing_13 3 rfl rfl ?_
  refine h_iconst (M := mX0_differing) dX0_differing_14 ?_
  obtain ⟨g4, h⟩ := zgi h
  refine g_iushr (M := mX0_differing) dX0_differing_15 rfl ?_
  refine h_topx (M := mX0_differing) (b := ((zXor a1 a2) % zP2 (2 * a3)) / zP2 1) (iI_ushr g4.1 g4.2 (show (0 : Int) ≤ (1 : Int) ∧ (1 : Int) < (32 : Int) from by decide).1 (show (0 : Int) ≤ (1 : Int) ∧ (1 : Int) < (32 : Int) from by decide).2) ?_
  obtain ⟨g5, h⟩ := zgi h
  refine g_ior (M := mX0_differing) dX0_differing_16 ?_
  refine h_topx (M := mX0_differing) (b := zOr ((zXor a1 a2) % zP2 (2 * a3)) (((zXor a1 a2) % zP2 (2 * a3)) / zP2 1)) (iI_or g5.1 g5.2) ?_
  refine g_ldc (M := mX0_differing) (v := iI (1431655765)) dX0_differing_17 kC_X0_59 ?_
  obtain ⟨g6, h⟩ := zgi h
  refine g_iand (M := mX0_differing) dX0_differing_19 ?_
  refine h_topx (M := mX0_differing) (b := zAnd (zOr ((zXor a1 a2) % zP2 (2 * a3)) (((zXor a1 a2) % zP2 (2 * a3)) / zP2 1)) 1431655765) (iI_and g6 (by decide)) ?_
  refine g_callSr (M := mX0_differing) [.int (iI (zAnd (zOr ((zXor a1 a2) % zP2 (2 * a3)) (((zXor a1 a2) % zP2 (2 * a3)) / zP2 1)) 1431655765))] hX dX0_differing_20 vJ6_bitCount_0f7a4 kM_X0_60 (cJ6_bitCount_0f7a4' (iI (zAnd (zOr ((zXor a1 a2) % zP2 (2 * a3)) (((zXor a1 a2) % zP2 (2 * a3)) / zP2 1)) 1431655765))) rfl ⟨(Nat.le_of_ble_eq_true rfl), (Nat.le_of_ble_eq_true rfl)⟩ ⟨(Nat.le_of_ble_eq_true rfl), (Nat.le_of_ble_eq_true rfl)⟩ (Nat.le_of_ble_eq_true rfl) ?_
  refine h_topx (M := mX0_differing) (b := zPop (zAnd (zOr ((zXor a1 a2) % zP2 (2 * a3)) (((zXor a1 a2) % zP2 (2 * a3)) / zP2 1)) 1431655765)) (zPop_e _) ?_
  have e := (Option.some.inj h)
  subst e
  exact g_iret (M := mX0_differing) dX0_differing_23 rfl (Nat.le_of_ble_eq_true rfl) (Nat.le_of_ble_eq_true rfl) ⟨rfl, rfl⟩
set_option maxHeartbeats 4000000 in
set_option maxRecDepth 100000 in
theorem wX0_nearest {X : zX} (hX : zOK X) {A : Nat → Nat} {n : Nat} {S : Nat → va_E} {qB : Nat} {VB : CV} (hB : isC X A shB qB VB S) (bB : qB + 6 < n) {a1 : Int} {a2 : Int} {a3 : Int} {res : Int} (h : fX0_nearest VB a1 a2 a3 = some res) : Con X yX0_nearest mX0_nearest 2 0 0 [.ref (A qB), .int (iI a1), .int (iI a2), .int (iI a3)] (zWs A n S) (zRet (zWs A n S) (some (.int (iI res)))) := by
  refine con_of (lv := [(0, .ref (A qB)), (1, .int (iI a1)), (2, .int (iI a2)), (3, .int (iI a3))]) (by decide) rfl (fun h => by cases h) rfl (Nat.le_of_ble_eq_true rfl) rfl ?_
  unfold fX0_nearest at h
  refine g_iload_n (M := mX0_nearest) dX0_nearest_0 3 rfl rfl ?_
  refine g_istore (M := mX0_nearest) (lv' := [(0, .ref (A qB)), (1, .int (iI a1)), (2, .int (iI a2)), (3, .int (iI a3)), (4, .int (iI a3))]) dX0_nearest_1 (by decide) rfl ?_
  refine h_iconst (M := mX0_nearest) dX0_nearest_3 ?_
  refine g_istore (M := mX0_nearest) (lv' := [(0, .ref (A qB)), (1, .int (iI a1)), (2, .int (iI a2)), (3, .int (iI a3)), (4, .int (iI a3)), (5, .int (iI 0))]) dX0_nearest_4 (by decide) rfl ?_
  obtain ⟨x1, l1, h⟩ := zbi h
  have r1 : ∀ y1, y1 = x1 → G X mX0_nearest (zPm X 2 0 0 (zRet (zWs A n S) (some (.int (iI res))))) 0 0 51 [(4, .int (iI y1.1))] [] (zWs A n S) := by
    intro y1 ey
    rw [← ey] at h
    refine g_iload (M := mX0_nearest) dX0_nearest_51 0 rfl ?_
    have e := (Option.some.inj h)
    subst e
    exact g_iret (M := mX0_nearest) dX0_nearest_53 rfl (Nat.le_of_ble_eq_true rfl) (Nat.le_of_ble_eq_true rfl) ⟨rfl, rfl⟩
  refine zLp_J (J := fun s1 => G X mX0_nearest (zPm X 2 0 0 (zRet (zWs A n S) (some (.int (iI res))))) 0 0 6 [(0, .ref (A qB)), (1, .int (iI a1)), (2, .int (iI a2)), (3, .int (iI a3)), (4, .int (iI s1.1)), (5, .int (iI s1.2))] [] (zWs A n S)) (fun s1 w1 h1 b1 e1 => ?_) _ _ l1
  refine g_iload (M := mX0_nearest) dX0_nearest_6 5 rfl ?_
  refine g_aload_n (M := mX0_nearest) dX0_nearest_8 0 rfl rfl ?_
  refine g_iload_n (M := mX0_nearest) dX0_nearest_9 1 rfl rfl ?_
  obtain ⟨t14, u15, h1⟩ := zbi h1
  refine g_callVr (M := mX0_nearest) [.int (iI a1)] hX dX0_nearest_10 vX0_lastStart kM_X0_66 (wX0_lastStart hX hB (by omega)  u15) qB (zWs_at (by omega) (hB.o)) rfl ⟨(Nat.le_of_ble_eq_true rfl), (Nat.le_of_ble_eq_true rfl)⟩ ⟨(Nat.le_of_ble_eq_true rfl), (Nat.le_of_ble_eq_true rfl)⟩ (Nat.le_of_ble_eq_true rfl) ?_
  obtain ⟨g17, h1⟩ := zgi h1
  refine h_icmp_gt (M := mX0_nearest) (tgt := 51) dX0_nearest_13 (by decide) g17.1 g17.2 (fun c16 => ?_) (fun c16 => ?_)
  · have h1 := zti c16 h1
    refine g_lv (M := mX0_nearest) [4] rfl ?_
    exact r1 _ (e1 _ (Option.some.inj h1).symm)
  · have h1 := zfi (Int.not_lt.mpr c16) h1
    refine g_aload_n (M := mX0_nearest) dX0_nearest_16 0 rfl rfl ?_
    refine g_iload_n (M := mX0_nearest) dX0_nearest_17 1 rfl rfl ?_
    refine g_iload (M := mX0_nearest) dX0_nearest_18 5 rfl ?_
    obtain ⟨t18, u19, h1⟩ := zbi h1
    refine g_callVr (M := mX0_nearest) [.int (iI a1), .int (iI s1.2)] hX dX0_nearest_20 vX0_isPlace kM_X0_76 (wX0_isPlace hX hB (by omega)  u19) qB (zWs_at (by omega) (hB.o)) rfl ⟨(Nat.le_of_ble_eq_true rfl), (Nat.le_of_ble_eq_true rfl)⟩ ⟨(Nat.le_of_ble_eq_true rfl), (Nat.le_of_ble_eq_true rfl)⟩ (Nat.le_of_ble_eq_true rfl) ?_
    refine h_beq (M := mX0_nearest) (tgt := 45) dX0_nearest_23 (by decide) (fun c20 => ?_) (fun c20 => ?_)
    · have h1 := zfi (zbf c20) h1
      refine h_iinc (M := mX0_nearest) (j := 5) (lv' := [(0, .ref (A qB)), (1, .int (iI a1)), (2, .int (iI a2)), (3, .int (iI a3)), (4, .int (iI s1.1)), (5, .int (iI (s1.2 + 1)))]) dX0_nearest_45 rfl (Nat.le_of_ble_eq_true rfl) rfl ?_
      refine g_goto (M := mX0_nearest) (tgt := 6) dX0_nearest_48 (by decide) ?_
      exact b1 _ (Option.some.inj h1).symm
    · have h1 := zti c20 h1
      refine g_iload (M := mX0_nearest) dX0_nearest_26 4 rfl ?_
      refine g_aload_n (M := mX0_nearest) dX0_nearest_28 0 rfl rfl ?_
      refine g_iload_n (M := mX0_nearest) dX0_nearest_29 1 rfl rfl ?_
      refine g_iload (M := mX0_nearest) dX0_nearest_30 5 rfl ?_
      obtain ⟨t21, u22, h1⟩ := zbi h1
      refine g_callVr (M := mX0_nearest) [.int (iI a1), .int (iI s1.2)] hX dX0_nearest_32 vX0_codeAt kM_X0_83 (wX0_codeAt hX hB (by omega)  u22) qB (zWs_at (by omega) (hB.o)) rfl ⟨(Nat.le_of_ble_eq_true rfl), (Nat.le_of_ble_eq_true rfl)⟩ ⟨(Nat.le_of_ble_eq_true rfl), (Nat.le_of_ble_eq_true rfl)⟩ (Nat.le_of_ble_eq_true rfl) ?_
      refine g_iload_n (M := mX0_nearest) dX0_nearest_35 2 rfl rfl ?_
      refine g_iload_n (M := mX0_nearest) dX0_nearest_36 3 rfl rfl ?_
      obtain ⟨t23, u24, h1⟩ := zbi h1
      refine g_callSr (M := mX0_nearest) [.int (iI t21), .int (iI a2), .int (iI a3)] hX dX0_nearest_37 vX0_differing kM_X0_86 (wX0_differing hX   u24) rfl ⟨(Nat.le_of_ble_eq_true rfl), (Nat.le_of_ble_eq_true rfl)⟩ ⟨(Nat.le_of_ble_eq_true rfl), (Nat.le_of_ble_eq_true rfl)⟩ (Nat.le_of_ble_eq_true rfl) ?_
      obtain ⟨g25, h1⟩ := zgi h1
      refine h_min (M := mX0_nearest) dX0_nearest_40 kM_X0_90 g25.1 g25.2 (Nat.le_of_ble_eq_true rfl) (Nat.le_of_ble_eq_true rfl) (Nat.le_of_ble_eq_true rfl) (Nat.le_of_ble_eq_true rfl) ?_
      refine g_istore (M := mX0_nearest) (lv' := [(0, .ref (A qB)), (1, .int (iI a1)), (2, .int (iI a2)), (3, .int (iI a3)), (4, .int (iI (zMin s1.1 t23))), (5, .int (iI s1.2))]) dX0_nearest_43 (by decide) rfl ?_
      refine h_iinc (M := mX0_nearest) (j := 5) (lv' := [(0, .ref (A qB)), (1, .int (iI a1)), (2, .int (iI a2)), (3, .int (iI a3)), (4, .int (iI (zMin s1.1 t23))), (5, .int (iI (s1.2 + 1)))]) dX0_nearest_45 rfl (Nat.le_of_ble_eq_true rfl) rfl ?_
      refine g_goto (M := mX0_nearest) (tgt := 6) dX0_nearest_48 (by decide) ?_
      exact b1 _ (Option.some.inj h1).symm
set_option maxHeartbeats 4000000 in
set_option maxRecDepth 100000 in
theorem wX0_boundOf {X : zX} (hX : zOK X) {A : Nat → Nat} {n : Nat} {S : Nat → va_E} {qB : Nat} {VB : CV} (hB : isC X A shB qB VB S) (bB : qB + 6 < n) {a1 : Int} {a2 : Int} {res : Int} (h : fX0_boundOf VB a1 a2 = some res) : Con X yX0_boundOf mX0_boundOf 3 0 0 [.ref (A qB), .int (iI a1), .int (iI a2)] (zWs A n S) (zRet (zWs A n S) (some (.int (iI res)))) := by
  refine con_of (lv := [(0, .ref (A qB)), (1, .int (iI a1)), (2, .int (iI a2))]) (by decide) rfl (fun h => by cases h) rfl (Nat.le_of_ble_eq_true rfl) rfl ?_
  unfold fX0_boundOf at h
  refine h_iconst (M := mX0_boundOf) dX0_boundOf_0 ?_
  refine g_istore_n (M := mX0_boundOf) (lv' := [(0, .ref (A qB)), (1, .int (iI a1)), (2, .int (iI a2)), (3, .int (iI 0))]) dX0_boundOf_1 rfl (by decide) rfl ?_
  refine h_iconst (M := mX0_boundOf) dX0_boundOf_2 ?_
  refine g_istore (M := mX0_boundOf) (lv' := [(0, .ref (A qB)), (1, .int (iI a1)), (2, .int (iI a2)), (3, .int (iI 0)), (4, .int (iI 0))]) dX0_boundOf_3 (by decide) rfl ?_
  obtain ⟨x1, l1, h⟩ := zbi h
  have r1 : ∀ y1, y1 = x1 → G X mX0_boundOf (zPm X 3 0 0 (zRet (zWs A n S) (some (.int (iI res))))) 0 0 40 [(3, .int (iI y1.1))] [] (zWs A n S) := by
    intro y1 ey
    rw [← ey] at h
    refine g_iload_n (M := mX0_boundOf) dX0_boundOf_40 0 rfl rfl ?_
    have e := (Option.some.inj h)
    subst e
    exact g_iret (M := mX0_boundOf) dX0_boundOf_41 rfl (Nat.le_of_ble_eq_true rfl) (Nat.le_of_ble_eq_true rfl) ⟨rfl, rfl⟩
  refine zLp_J (J := fun s1 => G X mX0_boundOf (zPm X 3 0 0 (zRet (zWs A n S) (some (.int (iI res))))) 0 0 5 [(0, .ref (A qB)), (1, .int (iI a1)), (2, .int (iI a2)), (3, .int (iI s1.1)), (4, .int (iI s1.2))] [] (zWs A n S)) (fun s1 w1 h1 b1 e1 => ?_) _ _ l1
  refine g_iload (M := mX0_boundOf) dX0_boundOf_5 4 rfl ?_
  refine g_aload_n (M := mX0_boundOf) dX0_boundOf_7 0 rfl rfl ?_
  refine k_get (M := mX0_boundOf) (v := .int (iI (VB.1 3))) dX0_boundOf_8 kF_X0_41.r qB (by omega) (hB.o) rfl ?_
  obtain ⟨g10, h1⟩ := zgi h1
  refine h_icmp_ge (M := mX0_boundOf) (tgt := 40) dX0_boundOf_11 (by decide) g10.1 g10.2 (fun c9 => ?_) (fun c9 => ?_)
  · have h1 := zti c9 h1
    refine g_lv (M := mX0_boundOf) [3] rfl ?_
    exact r1 _ (e1 _ (Option.some.inj h1).symm)
  · have h1 := zfi (Int.not_le.mpr c9) h1
    refine g_aload_n (M := mX0_boundOf) dX0_boundOf_14 0 rfl rfl ?_
    refine g_iload (M := mX0_boundOf) dX0_boundOf_15 4 rfl ?_
    obtain ⟨t11, u12, h1⟩ := zbi h1
    refine g_callVr (M := mX0_boundOf) [.int (iI s1.2)] hX dX0_boundOf_17 vX0_isOut kM_X0_69 (wX0_isOut hX hB (by omega)  u12) qB (zWs_at (by omega) (hB.o)) rfl ⟨(Nat.le_of_ble_eq_true rfl), (Nat.le_of_ble_eq_true rfl)⟩ ⟨(Nat.le_of_ble_eq_true rfl), (Nat.le_of_ble_eq_true rfl)⟩ (Nat.le_of_ble_eq_true rfl) ?_
    refine h_bne (M := mX0_boundOf) (tgt := 34) dX0_boundOf_20 (by decide) (fun c13 => ?_) (fun c13 => ?_)
    · have h1 := zti c13 h1
      refine h_iinc (M := mX0_boundOf) (j := 4) (lv' := [(0, .ref (A qB)), (1, .int (iI a1)), (2, .int (iI a2)), (3, .int (iI s1.1)), (4, .int (iI (s1.2 + 1)))]) dX0_boundOf_34 rfl (Nat.le_of_ble_eq_true rfl) rfl ?_
      refine g_goto (M := mX0_boundOf) (tgt := 5) dX0_boundOf_37 (by decide) ?_
      exact b1 _ (Option.some.inj h1).symm
    · have h1 := zfi (zbf c13) h1
      refine g_iload_n (M := mX0_boundOf) dX0_boundOf_23 3 rfl rfl ?_
      refine g_aload_n (M := mX0_boundOf) dX0_boundOf_24 0 rfl rfl ?_
      refine g_iload (M := mX0_boundOf) dX0_boundOf_25 4 rfl ?_
      refine g_iload_n (M := mX0_boundOf) dX0_boundOf_27 1 rfl rfl ?_
      refine g_iload_n (M := mX0_boundOf) dX0_boundOf_28 2 rfl rfl ?_
      obtain ⟨t14, u15, h1⟩ := zbi h1
      refine g_callVr (M := mX0_boundOf) [.int (iI s1.2), .int (iI a1), .int (iI a2)] hX dX0_boundOf_29 vX0_nearest kM_X0_93 (wX0_nearest hX hB (by omega)  u15) qB (zWs_at (by omega) (hB.o)) rfl ⟨(Nat.le_of_ble_eq_true rfl), (Nat.le_of_ble_eq_true rfl)⟩ ⟨(Nat.le_of_ble_eq_true rfl), (Nat.le_of_ble_eq_true rfl)⟩ (Nat.le_of_ble_eq_true rfl) ?_
      refine h_iadd (M := mX0_boundOf) dX0_boundOf_32 ?_
      refine g_istore_n (M := mX0_boundOf) (lv' := [(0, .ref (A qB)), (1, .int (iI a1)), (2, .int (iI a2)), (3, .int (iI (s1.1 + t14))), (4, .int (iI s1.2))]) dX0_boundOf_33 rfl (by decide) rfl ?_
      refine h_iinc (M := mX0_boundOf) (j := 4) (lv' := [(0, .ref (A qB)), (1, .int (iI a1)), (2, .int (iI a2)), (3, .int (iI (s1.1 + t14))), (4, .int (iI (s1.2 + 1)))]) dX0_boundOf_34 rfl (Nat.le_of_ble_eq_true rfl) rfl ?_
      refine g_goto (M := mX0_boundOf) (tgt := 5) dX0_boundOf_37 (by decide) ?_
      exact b1 _ (Option.some.inj h1).symm
set_option maxHeartbeats 4000000 in
set_option maxRecDepth 100000 in
theorem wX0_chosenRows {X : zX} (hX : zOK X) {A : Nat → Nat} {n : Nat} {S : Nat → va_E} {qB : Nat} {VB : CV} (hB : isC X A shB qB VB S) (bB : qB + 6 < n) {res : Int} (h : fX0_chosenRows VB = some res) : Con X yX0_chosenRows mX0_chosenRows 0 0 0 [.ref (A qB)] (zWs A n S) (zRet (zWs A n S) (some (.int (iI res)))) := by
  refine con_of (lv := [(0, .ref (A qB))]) (by decide) rfl (fun h => by cases h) rfl (Nat.le_of_ble_eq_true rfl) rfl ?_
  unfold fX0_chosenRows at h
  refine h_iconst (M := mX0_chosenRows) dX0_chosenRows_0 ?_
  refine g_istore_n (M := mX0_chosenRows) (lv' := [(0, .ref (A qB)), (1, .int (iI 0))]) dX0_chosenRows_1 rfl (by decide) rfl ?_
  refine h_iconst (M := mX0_chosenRows) dX0_chosenRows_2 ?_
  refine g_istore_n (M := mX0_chosenRows) (lv' := [(0, .ref (A qB)), (1, .int (iI 0)), (2, .int (iI 0))]) dX0_chosenRows_3 rfl (by decide) rfl ?_
  obtain ⟨x1, l1, h⟩ := zbi h
  have r1 : ∀ y1, y1 = x1 → G X mX0_chosenRows (zPm X 0 0 0 (zRet (zWs A n S) (some (.int (iI res))))) 0 0 31 [(1, .int (iI y1.1))] [] (zWs A n S) := by
    intro y1 ey
    rw [← ey] at h
    refine g_iload_n (M := mX0_chosenRows) dX0_chosenRows_31 0 rfl rfl ?_
    have e := (Option.some.inj h)
    subst e
    exact g_iret (M := mX0_chosenRows) dX0_chosenRows_32 rfl (Nat.le_of_ble_eq_true rfl) (Nat.le_of_ble_eq_true rfl) ⟨rfl, rfl⟩
  refine zLp_J (J := fun s1 => G X mX0_chosenRows (zPm X 0 0 0 (zRet (zWs A n S) (some (.int (iI res))))) 0 0 4 [(0, .ref (A qB)), (1, .int (iI s1.1)), (2, .int (iI s1.2))] [] (zWs A n S)) (fun s1 w1 h1 b1 e1 => ?_) _ _ l1
  refine g_iload_n (M := mX0_chosenRows) dX0_chosenRows_4 2 rfl rfl ?_
  refine g_aload_n (M := mX0_chosenRows) dX0_chosenRows_5 0 rfl rfl ?_
  refine k_get (M := mX0_chosenRows) (v := .int (iI (VB.1 3))) dX0_chosenRows_6 kF_X0_41.r qB (by omega) (hB.o) rfl ?_
  obtain ⟨g8, h1⟩ := zgi h1
  refine h_icmp_ge (M := mX0_chosenRows) (tgt := 31) dX0_chosenRows_9 (by decide) g8.1 g8.2 (fun c7 => ?_) (fun c7 => ?_)
  · have h1 := zti c7 h1
    refine g_lv (M := mX0_chosenRows) [1] rfl ?_
    exact r1 _ (e1 _ (Option.some.inj h1).symm)
  · have h1 := zfi (Int.not_le.mpr c7) h1
    refine g_aload_n (M := mX0_chosenRows) dX0_chosenRows_12 0 rfl rfl ?_
    refine k_get (M := mX0_chosenRows) (v := .ref (A (qB + 5))) dX0_chosenRows_13 kF_X0_35.r qB (by omega) (hB.o) rfl ?_
    refine g_iload_n (M := mX0_chosenRows) dX0_chosenRows_16 2 rfl rfl ?_
    obtain ⟨g9, h1⟩ := zgi h1
    refine k_iald (M := mX0_chosenRows) (len := 10) (f := VB.2 5) dX0_chosenRows_17 (qB + 5) (by omega) (hB.a (d := (0, 10)) 4 rfl) (Nat.le_of_ble_eq_true rfl) g9.1 g9.2 ?_
    refine h_iconst (M := mX0_chosenRows) dX0_chosenRows_18 ?_
    obtain ⟨g11, h1⟩ := zgi h1
    refine h_icmp_eq (M := mX0_chosenRows) (tgt := 25) dX0_chosenRows_19 (by decide) g11 (by decide) (fun c10 => ?_) (fun c10 => ?_)
    · have h1 := zti c10 h1
      refine h_iinc (M := mX0_chosenRows) (j := 2) (lv' := [(0, .ref (A qB)), (1, .int (iI s1.1)), (2, .int (iI (s1.2 + 1)))]) dX0_chosenRows_25 rfl (Nat.le_of_ble_eq_true rfl) rfl ?_
      refine g_goto (M := mX0_chosenRows) (tgt := 4) dX0_chosenRows_28 (by decide) ?_
      exact b1 _ (Option.some.inj h1).symm
    · have h1 := zfi c10 h1
      refine h_iinc (M := mX0_chosenRows) (j := 1) (lv' := [(0, .ref (A qB)), (1, .int (iI (s1.1 + 1))), (2, .int (iI s1.2))]) dX0_chosenRows_22 rfl (Nat.le_of_ble_eq_true rfl) rfl ?_
      refine h_iinc (M := mX0_chosenRows) (j := 2) (lv' := [(0, .ref (A qB)), (1, .int (iI (s1.1 + 1))), (2, .int (iI (s1.2 + 1)))]) dX0_chosenRows_25 rfl (Nat.le_of_ble_eq_true rfl) rfl ?_
      refine g_goto (M := mX0_chosenRows) (tgt := 4) dX0_chosenRows_28 (by decide) ?_
      exact b1 _ (Option.some.inj h1).symm
set_option maxHeartbeats 4000000 in
set_option maxRecDepth 100000 in
theorem wX0_codeOf {X : zX} (hX : zOK X) {A : Nat → Nat} {n : Nat} {S : Nat → va_E} {qB : Nat} {VB : CV} (hB : isC X A shB qB VB S) (bB : qB + 6 < n) {a1 : Int} {res : Int} (h : fX0_codeOf VB a1 = some res) : Con X yX0_codeOf mX0_codeOf 1 0 0 [.ref (A qB), .int (iI a1)] (zWs A n S) (zRet (zWs A n S) (some (.int (iI res)))) := by
  refine con_of (lv := [(0, .ref (A qB)), (1, .int (iI a1))]) (by decide) rfl (fun h => by cases h) rfl (Nat.le_of_ble_eq_true rfl) rfl ?_
  unfold fX0_codeOf at h
  refine h_iconst (M := mX0_codeOf) dX0_codeOf_0 ?_
  refine g_aload_n (M := mX0_codeOf) dX0_codeOf_1 0 rfl rfl ?_
  refine k_get (M := mX0_codeOf) (v := .int (iI (VB.1 0))) dX0_codeOf_2 kF_X0_9.r qB (by omega) (hB.o) rfl ?_
  obtain ⟨g1, h⟩ := zgi h
  refine h_max (M := mX0_codeOf) dX0_codeOf_5 kM_X0_50 (by decide) g1 (Nat.le_of_ble_eq_true rfl) (Nat.le_of_ble_eq_true rfl) (Nat.le_of_ble_eq_true rfl) (Nat.le_of_ble_eq_true rfl) ?_
  refine g_istore_n (M := mX0_codeOf) (lv' := [(0, .ref (A qB)), (1, .int (iI a1)), (2, .int (iI (zMax 2 (VB.1 0))))]) dX0_codeOf_8 rfl (by decide) rfl ?_
  refine h_iconst (M := mX0_codeOf) dX0_codeOf_9 ?_
  refine g_istore_n (M := mX0_codeOf) (lv' := [(0, .ref (A qB)), (1, .int (iI a1)), (2, .int (iI (zMax 2 (VB.1 0)))), (3, .int (iI 0))]) dX0_codeOf_10 rfl (by decide) rfl ?_
  refine g_iload_n (M := mX0_codeOf) dX0_codeOf_11 1 rfl rfl ?_
  refine g_istore (M := mX0_codeOf) (lv' := [(0, .ref (A qB)), (1, .int (iI a1)), (2, .int (iI (zMax 2 (VB.1 0)))), (3, .int (iI 0)), (4, .int (iI a1))]) dX0_codeOf_12 (by decide) rfl ?_
  refine g_aload_n (M := mX0_codeOf) dX0_codeOf_14 0 rfl rfl ?_
  refine k_get (M := mX0_codeOf) (v := .int (iI (VB.1 1))) dX0_codeOf_15 kF_X0_15.r qB (by omega) (hB.o) rfl ?_
  refine h_iconst (M := mX0_codeOf) dX0_codeOf_18 ?_
  refine h_isub (M := mX0_codeOf) dX0_codeOf_19 ?_
  refine g_istore (M := mX0_codeOf) (lv' := [(0, .ref (A qB)), (1, .int (iI a1)), (2, .int (iI (zMax 2 (VB.1 0)))), (3, .int (iI 0)), (4, .int (iI a1)), (5, .int (iI ((VB.1 1) - 1)))]) dX0_codeOf_20 (by decide) rfl ?_
  obtain ⟨x2, l2, h⟩ := zbi h
  have r2 : ∀ y2, y2 = x2 → G X mX0_codeOf (zPm X 1 0 0 (zRet (zWs A n S) (some (.int (iI res))))) 0 0 51 [(3, .int (iI y2.1))] [] (zWs A n S) := by
    intro y2 ey
    rw [← ey] at h
    refine g_iload_n (M := mX0_codeOf) dX0_codeOf_51 0 rfl rfl ?_
    have e := (Option.some.inj h)
    subst e
    exact g_iret (M := mX0_codeOf) dX0_codeOf_52 rfl (Nat.le_of_ble_eq_true rfl) (Nat.le_of_ble_eq_true rfl) ⟨rfl, rfl⟩
  refine g_lv (M := mX0_codeOf) [2, 3, 4, 5] rfl ?_
  refine zLp_J (J := fun s2 => G X mX0_codeOf (zPm X 1 0 0 (zRet (zWs A n S) (some (.int (iI res))))) 0 0 22 [(2, .int (iI (zMax 2 (VB.1 0)))), (3, .int (iI s2.1)), (4, .int (iI s2.2.1)), (5, .int (iI s2.2.2))] [] (zWs A n S)) (fun s2 w2 h2 b2 e2 => ?_) _ _ l2
  refine g_iload (M := mX0_codeOf) dX0_codeOf_22 3 rfl ?_
  obtain ⟨g9, h2⟩ := zgi h2
  refine h_if_lt (M := mX0_codeOf) (tgt := 51) dX0_codeOf_24 (by decide) g9 (fun c8 => ?_) (fun c8 => ?_)
  · have h2 := zti c8 h2
    refine g_lv (M := mX0_codeOf) [1] rfl ?_
    exact r2 _ (e2 _ (Option.some.inj h2).symm)
  · have h2 := zfi (Int.not_lt.mpr c8) h2
    refine g_iload_n (M := mX0_codeOf) dX0_codeOf_27 1 rfl rfl ?_
    refine g_iload (M := mX0_codeOf) dX0_codeOf_28 2 rfl ?_
    refine g_iload_n (M := mX0_codeOf) dX0_codeOf_30 0 rfl rfl ?_
    obtain ⟨g10, h2⟩ := zgi h2
    refine g_irem (M := mX0_codeOf) dX0_codeOf_31 (iI_ne0 g10.2.1 g10.2.2) ?_
    refine h_topx (M := mX0_codeOf) (b := s2.2.1 % (zMax 2 (VB.1 0))) (iI_rem g10.1.1 g10.1.2 g10.2.1 g10.2.2) ?_
    refine h_iconst (M := mX0_codeOf) dX0_codeOf_32 ?_
    refine g_iload (M := mX0_codeOf) dX0_codeOf_33 3 rfl ?_
    refine h_imul (M := mX0_codeOf) dX0_codeOf_35 ?_
    obtain ⟨g11, h2⟩ := zgi h2
    refine g_ishl (M := mX0_codeOf) dX0_codeOf_36 ?_
    refine h_topx (M := mX0_codeOf) (b := (s2.2.1 % (zMax 2 (VB.1 0))) * zP2 (2 * s2.2.2)) (iI_shl _ g11.1 g11.2) ?_
    obtain ⟨g12, h2⟩ := zgi h2
    refine g_ior (M := mX0_codeOf) dX0_codeOf_37 ?_
    refine h_topx (M := mX0_codeOf) (b := zOr s2.1 ((s2.2.1 % (zMax 2 (VB.1 0))) * zP2 (2 * s2.2.2))) (iI_or g12.1 g12.2) ?_
    refine g_istore_n (M := mX0_codeOf) (lv' := [(2, .int (iI (zMax 2 (VB.1 0)))), (3, .int (iI (zOr s2.1 ((s2.2.1 % (zMax 2 (VB.1 0))) * zP2 (2 * s2.2.2))))), (4, .int (iI s2.2.1)), (5, .int (iI s2.2.2))]) dX0_codeOf_38 rfl (by decide) rfl ?_
    refine g_iload (M := mX0_codeOf) dX0_codeOf_39 2 rfl ?_
    refine g_iload_n (M := mX0_codeOf) dX0_codeOf_41 0 rfl rfl ?_
    refine g_idiv (M := mX0_codeOf) dX0_codeOf_42 (iI_ne0 g10.2.1 g10.2.2) ?_
    refine h_topx (M := mX0_codeOf) (b := s2.2.1 / (zMax 2 (VB.1 0))) (iI_div g10.1.1 g10.1.2 g10.2.1 g10.2.2) ?_
    refine g_istore (M := mX0_codeOf) (lv' := [(2, .int (iI (zMax 2 (VB.1 0)))), (3, .int (iI (zOr s2.1 ((s2.2.1 % (zMax 2 (VB.1 0))) * zP2 (2 * s2.2.2))))), (4, .int (iI (s2.2.1 / (zMax 2 (VB.1 0))))), (5, .int (iI s2.2.2))]) dX0_codeOf_43 (by decide) rfl ?_
    refine h_iinc (M := mX0_codeOf) (j := 3) (lv' := [(2, .int (iI (zMax 2 (VB.1 0)))), (3, .int (iI (zOr s2.1 ((s2.2.1 % (zMax 2 (VB.1 0))) * zP2 (2 * s2.2.2))))), (4, .int (iI (s2.2.1 / (zMax 2 (VB.1 0))))), (5, .int (iI (s2.2.2 + (-1))))]) dX0_codeOf_45 rfl (Nat.le_of_ble_eq_true rfl) rfl ?_
    refine g_goto (M := mX0_codeOf) (tgt := 22) dX0_codeOf_48 (by decide) ?_
    exact b2 _ (Option.some.inj h2).symm
set_option maxHeartbeats 4000000 in
set_option maxRecDepth 100000 in
theorem wX0_copyFrom {X : zX} (hX : zOK X) {A : Nat → Nat} {n : Nat} {S : Nat → va_E} {qB : Nat} {VB : CV} (hB : isC X A shB qB VB S) (bB : qB + 6 < n) {qB2 : Nat} {VB2 : CV} (hB2 : isC X A shB qB2 VB2 S) (bB2 : qB2 + 6 < n) (dBB2 : qB + 6 < qB2 ∨ qB2 + 6 < qB) {res : CV} (h : fX0_copyFrom VB VB2 = some res) : Con X yX0_copyFrom mX0_copyFrom 0 0 0 [.ref (A qB), .ref (A qB2)] (zWs A n S) (zRet (zWs A n (zC X A shB qB res S)) none) := by
  refine con_of (lv := [(0, .ref (A qB)), (1, .ref (A qB2))]) (by decide) rfl (fun h => by cases h) rfl (Nat.le_of_ble_eq_true rfl) rfl ?_
  refine g_ws (M := mX0_copyFrom) (congrArg (zWs A n) hB.symm) ?_
  unfold fX0_copyFrom at h
  refine g_aload_n (M := mX0_copyFrom) dX0_copyFrom_0 0 rfl rfl ?_
  refine g_aload_n (M := mX0_copyFrom) dX0_copyFrom_1 1 rfl rfl ?_
  refine k_get (M := mX0_copyFrom) (v := .int (iI (VB2.1 0))) dX0_copyFrom_2 kF_X0_9.r qB2 (by omega) ((zC_skipN 6 rfl (by omega)).trans (hB2.o)) rfl ?_
  refine c_put (M := mX0_copyFrom) (k := 0) dX0_copyFrom_5 kF_X0_9 (by omega) rfl rfl (by decide) rfl rfl ?_
  refine g_aload_n (M := mX0_copyFrom) dX0_copyFrom_8 0 rfl rfl ?_
  refine g_aload_n (M := mX0_copyFrom) dX0_copyFrom_9 1 rfl rfl ?_
  refine k_get (M := mX0_copyFrom) (v := .int (iI (VB2.1 1))) dX0_copyFrom_10 kF_X0_15.r qB2 (by omega) ((zC_skipN 6 rfl (by omega)).trans (hB2.o)) rfl ?_
  refine c_put (M := mX0_copyFrom) (k := 1) dX0_copyFrom_13 kF_X0_15 (by omega) rfl rfl (by decide) rfl rfl ?_
  refine g_aload_n (M := mX0_copyFrom) dX0_copyFrom_16 0 rfl rfl ?_
  refine g_aload_n (M := mX0_copyFrom) dX0_copyFrom_17 1 rfl rfl ?_
  refine k_get (M := mX0_copyFrom) (v := .int (iI (VB2.1 2))) dX0_copyFrom_18 kF_X0_18.r qB2 (by omega) ((zC_skipN 6 rfl (by omega)).trans (hB2.o)) rfl ?_
  refine c_put (M := mX0_copyFrom) (k := 2) dX0_copyFrom_21 kF_X0_18 (by omega) rfl rfl (by decide) rfl rfl ?_
  refine g_aload_n (M := mX0_copyFrom) dX0_copyFrom_24 0 rfl rfl ?_
  refine g_aload_n (M := mX0_copyFrom) dX0_copyFrom_25 1 rfl rfl ?_
  refine k_get (M := mX0_copyFrom) (v := .int (iI (VB2.1 3))) dX0_copyFrom_26 kF_X0_41.r qB2 (by omega) ((zC_skipN 6 rfl (by omega)).trans (hB2.o)) rfl ?_
  refine c_put (M := mX0_copyFrom) (k := 3) dX0_copyFrom_29 kF_X0_41 (by omega) rfl rfl (by decide) rfl rfl ?_
  refine g_aload_n (M := mX0_copyFrom) dX0_copyFrom_32 0 rfl rfl ?_
  refine g_aload_n (M := mX0_copyFrom) dX0_copyFrom_33 1 rfl rfl ?_
  refine k_get (M := mX0_copyFrom) (v := .int (iI (VB2.1 4))) dX0_copyFrom_34 kF_X0_44.r qB2 (by omega) ((zC_skipN 6 rfl (by omega)).trans (hB2.o)) rfl ?_
  refine c_put (M := mX0_copyFrom) (k := 4) dX0_copyFrom_37 kF_X0_44 (by omega) rfl rfl (by decide) rfl rfl ?_
  refine g_aload_n (M := mX0_copyFrom) dX0_copyFrom_40 0 rfl rfl ?_
  refine g_aload_n (M := mX0_copyFrom) dX0_copyFrom_41 1 rfl rfl ?_
  refine k_get (M := mX0_copyFrom) (v := .int (iI (VB2.1 5))) dX0_copyFrom_42 kF_X0_47.r qB2 (by omega) ((zC_skipN 6 rfl (by omega)).trans (hB2.o)) rfl ?_
  refine c_put (M := mX0_copyFrom) (k := 5) dX0_copyFrom_45 kF_X0_47 (by omega) rfl rfl (by decide) rfl rfl ?_
  refine h_iconst (M := mX0_copyFrom) dX0_copyFrom_48 ?_
  refine g_istore_n (M := mX0_copyFrom) (lv' := [(0, .ref (A qB)), (1, .ref (A qB2)), (2, .int (iI 0))]) dX0_copyFrom_49 rfl (by decide) rfl ?_
  obtain ⟨x1, l1, h⟩ := zbi h
  have r1 : ∀ y1, y1 = x1 → G X mX0_copyFrom (zPm X 0 0 0 (zRet (zWs A n (zC X A shB qB res S)) none)) 0 0 122 [(0, .ref (A qB)), (1, .ref (A qB2))] [] (zWs A n (zC X A shB qB y1.2 S)) := by
    intro y1 ey
    rw [← ey] at h
    refine h_iconst (M := mX0_copyFrom) dX0_copyFrom_122 ?_
    refine g_istore_n (M := mX0_copyFrom) (lv' := [(0, .ref (A qB)), (1, .ref (A qB2)), (2, .int (iI 0))]) dX0_copyFrom_123 rfl (by decide) rfl ?_
    obtain ⟨x5, l5, h⟩ := zbi h
    have r5 : ∀ y5, y5 = x5 → G X mX0_copyFrom (zPm X 0 0 0 (zRet (zWs A n (zC X A shB qB res S)) none)) 0 0 148 [] [] (zWs A n (zC X A shB qB y5.2 S)) := by
      intro y5 ey
      rw [← ey] at h
      have e := (Option.some.inj h)
      subst e
      exact g_vret (M := mX0_copyFrom) dX0_copyFrom_148 rfl (Nat.le_of_ble_eq_true rfl) (Nat.le_of_ble_eq_true rfl) ⟨rfl, rfl⟩
    refine zLp_J (J := fun s5 => G X mX0_copyFrom (zPm X 0 0 0 (zRet (zWs A n (zC X A shB qB res S)) none)) 0 0 124 [(0, .ref (A qB)), (1, .ref (A qB2)), (2, .int (iI s5.1))] [] (zWs A n (zC X A shB qB s5.2 S))) (fun s5 w5 h5 b5 e5 => ?_) _ _ l5
    refine g_iload_n (M := mX0_copyFrom) dX0_copyFrom_124 2 rfl rfl ?_
    refine h_bipush (M := mX0_copyFrom) dX0_copyFrom_125 rfl ?_
    obtain ⟨g10, h5⟩ := zgi h5
    refine h_icmp_ge (M := mX0_copyFrom) (tgt := 148) dX0_copyFrom_127 (by decide) g10 (by decide) (fun c9 => ?_) (fun c9 => ?_)
    · have h5 := zti c9 h5
      refine g_lv (M := mX0_copyFrom) [] rfl ?_
      exact r5 _ (e5 _ (Option.some.inj h5).symm)
    · have h5 := zfi (Int.not_le.mpr c9) h5
      refine g_aload_n (M := mX0_copyFrom) dX0_copyFrom_130 0 rfl rfl ?_
      refine k_get (M := mX0_copyFrom) (v := .ref (A (qB + 6))) dX0_copyFrom_131 kF_X0_38.r qB (by omega) (zC_o) rfl ?_
      refine g_iload_n (M := mX0_copyFrom) dX0_copyFrom_134 2 rfl rfl ?_
      refine g_aload_n (M := mX0_copyFrom) dX0_copyFrom_135 1 rfl rfl ?_
      refine k_get (M := mX0_copyFrom) (v := .ref (A (qB2 + 6))) dX0_copyFrom_136 kF_X0_38.r qB2 (by omega) ((zC_skipN 6 rfl (by omega)).trans (hB2.o)) rfl ?_
      refine g_iload_n (M := mX0_copyFrom) dX0_copyFrom_139 2 rfl rfl ?_
      obtain ⟨g11, h5⟩ := zgi h5
      refine k_iald (M := mX0_copyFrom) (len := 6) (f := VB2.2 6) dX0_copyFrom_140 (qB2 + 6) (by omega) ((zC_skipN 6 rfl (by omega)).trans (hB2.a (d := (0, 6)) 5 rfl)) (Nat.le_of_ble_eq_true rfl) g11.1 g11.2 ?_
      refine c_iast (M := mX0_copyFrom) (len := 6) (d := (0, 6)) dX0_copyFrom_141 5 rfl rfl (by omega) (Nat.le_of_ble_eq_true rfl) g11.1 g11.2 ?_
      refine h_iinc (M := mX0_copyFrom) (j := 2) (lv' := [(0, .ref (A qB)), (1, .ref (A qB2)), (2, .int (iI (s5.1 + 1)))]) dX0_copyFrom_142 rfl (Nat.le_of_ble_eq_true rfl) rfl ?_
      refine g_goto (M := mX0_copyFrom) (tgt := 124) dX0_copyFrom_145 (by decide) ?_
      exact b5 _ (Option.some.inj h5).symm
  refine zLp_J (J := fun s1 => G X mX0_copyFrom (zPm X 0 0 0 (zRet (zWs A n (zC X A shB qB res S)) none)) 0 0 50 [(0, .ref (A qB)), (1, .ref (A qB2)), (2, .int (iI s1.1))] [] (zWs A n (zC X A shB qB s1.2 S))) (fun s1 w1 h1 b1 e1 => ?_) _ _ l1
  refine g_iload_n (M := mX0_copyFrom) dX0_copyFrom_50 2 rfl rfl ?_
  refine h_bipush (M := mX0_copyFrom) dX0_copyFrom_51 rfl ?_
  obtain ⟨g13, h1⟩ := zgi h1
  refine h_icmp_ge (M := mX0_copyFrom) (tgt := 122) dX0_copyFrom_53 (by decide) g13 (by decide) (fun c12 => ?_) (fun c12 => ?_)
  · have h1 := zti c12 h1
    refine g_lv (M := mX0_copyFrom) [0, 1] rfl ?_
    exact r1 _ (e1 _ (Option.some.inj h1).symm)
  · have h1 := zfi (Int.not_le.mpr c12) h1
    refine g_aload_n (M := mX0_copyFrom) dX0_copyFrom_56 0 rfl rfl ?_
    refine k_get (M := mX0_copyFrom) (v := .ref (A (qB + 1))) dX0_copyFrom_57 kF_X0_21.r qB (by omega) (zC_o) rfl ?_
    refine g_iload_n (M := mX0_copyFrom) dX0_copyFrom_60 2 rfl rfl ?_
    refine g_aload_n (M := mX0_copyFrom) dX0_copyFrom_61 1 rfl rfl ?_
    refine k_get (M := mX0_copyFrom) (v := .ref (A (qB2 + 1))) dX0_copyFrom_62 kF_X0_21.r qB2 (by omega) ((zC_skipN 6 rfl (by omega)).trans (hB2.o)) rfl ?_
    refine g_iload_n (M := mX0_copyFrom) dX0_copyFrom_65 2 rfl rfl ?_
    obtain ⟨g14, h1⟩ := zgi h1
    refine k_lald (M := mX0_copyFrom) (len := 10) (f := VB2.2 1) dX0_copyFrom_66 (qB2 + 1) (by omega) ((zC_skipN 6 rfl (by omega)).trans (hB2.a (d := (1, 10)) 0 rfl)) (Nat.le_of_ble_eq_true rfl) g14.1 g14.2 ?_
    refine c_last (M := mX0_copyFrom) (len := 10) (d := (1, 10)) dX0_copyFrom_67 0 rfl rfl (by omega) (Nat.le_of_ble_eq_true rfl) g14.1 g14.2 ?_
    refine g_aload_n (M := mX0_copyFrom) dX0_copyFrom_68 0 rfl rfl ?_
    refine k_get (M := mX0_copyFrom) (v := .ref (A (qB + 2))) dX0_copyFrom_69 kF_X0_25.r qB (by omega) (zC_o) rfl ?_
    refine g_iload_n (M := mX0_copyFrom) dX0_copyFrom_72 2 rfl rfl ?_
    refine g_aload_n (M := mX0_copyFrom) dX0_copyFrom_73 1 rfl rfl ?_
    refine k_get (M := mX0_copyFrom) (v := .ref (A (qB2 + 2))) dX0_copyFrom_74 kF_X0_25.r qB2 (by omega) ((zC_skipN 6 rfl (by omega)).trans (hB2.o)) rfl ?_
    refine g_iload_n (M := mX0_copyFrom) dX0_copyFrom_77 2 rfl rfl ?_
    refine k_lald (M := mX0_copyFrom) (len := 10) (f := VB2.2 2) dX0_copyFrom_78 (qB2 + 2) (by omega) ((zC_skipN 6 rfl (by omega)).trans (hB2.a (d := (1, 10)) 1 rfl)) (Nat.le_of_ble_eq_true rfl) g14.1 g14.2 ?_
    refine c_last (M := mX0_copyFrom) (len := 10) (d := (1, 10)) dX0_copyFrom_79 1 rfl rfl (by omega) (Nat.le_of_ble_eq_true rfl) g14.1 g14.2 ?_
    refine g_aload_n (M := mX0_copyFrom) dX0_copyFrom_80 0 rfl rfl ?_
    refine k_get (M := mX0_copyFrom) (v := .ref (A (qB + 3))) dX0_copyFrom_81 kF_X0_28.r qB (by omega) (zC_o) rfl ?_
    refine g_iload_n (M := mX0_copyFrom) dX0_copyFrom_84 2 rfl rfl ?_
    refine g_aload_n (M := mX0_copyFrom) dX0_copyFrom_85 1 rfl rfl ?_
    refine k_get (M := mX0_copyFrom) (v := .ref (A (qB2 + 3))) dX0_copyFrom_86 kF_X0_28.r qB2 (by omega) ((zC_skipN 6 rfl (by omega)).trans (hB2.o)) rfl ?_
    refine g_iload_n (M := mX0_copyFrom) dX0_copyFrom_89 2 rfl rfl ?_
    refine k_iald (M := mX0_copyFrom) (len := 10) (f := VB2.2 3) dX0_copyFrom_90 (qB2 + 3) (by omega) ((zC_skipN 6 rfl (by omega)).trans (hB2.a (d := (0, 10)) 2 rfl)) (Nat.le_of_ble_eq_true rfl) g14.1 g14.2 ?_
    refine c_iast (M := mX0_copyFrom) (len := 10) (d := (0, 10)) dX0_copyFrom_91 2 rfl rfl (by omega) (Nat.le_of_ble_eq_true rfl) g14.1 g14.2 ?_
    refine g_aload_n (M := mX0_copyFrom) dX0_copyFrom_92 0 rfl rfl ?_
    refine k_get (M := mX0_copyFrom) (v := .ref (A (qB + 4))) dX0_copyFrom_93 kF_X0_32.r qB (by omega) (zC_o) rfl ?_
    refine g_iload_n (M := mX0_copyFrom) dX0_copyFrom_96 2 rfl rfl ?_
    refine g_aload_n (M := mX0_copyFrom) dX0_copyFrom_97 1 rfl rfl ?_
    refine k_get (M := mX0_copyFrom) (v := .ref (A (qB2 + 4))) dX0_copyFrom_98 kF_X0_32.r qB2 (by omega) ((zC_skipN 6 rfl (by omega)).trans (hB2.o)) rfl ?_
    refine g_iload_n (M := mX0_copyFrom) dX0_copyFrom_101 2 rfl rfl ?_
    refine k_iald (M := mX0_copyFrom) (len := 10) (f := VB2.2 4) dX0_copyFrom_102 (qB2 + 4) (by omega) ((zC_skipN 6 rfl (by omega)).trans (hB2.a (d := (0, 10)) 3 rfl)) (Nat.le_of_ble_eq_true rfl) g14.1 g14.2 ?_
    refine c_iast (M := mX0_copyFrom) (len := 10) (d := (0, 10)) dX0_copyFrom_103 3 rfl rfl (by omega) (Nat.le_of_ble_eq_true rfl) g14.1 g14.2 ?_
    refine g_aload_n (M := mX0_copyFrom) dX0_copyFrom_104 0 rfl rfl ?_
    refine k_get (M := mX0_copyFrom) (v := .ref (A (qB + 5))) dX0_copyFrom_105 kF_X0_35.r qB (by omega) (zC_o) rfl ?_
    refine g_iload_n (M := mX0_copyFrom) dX0_copyFrom_108 2 rfl rfl ?_
    refine g_aload_n (M := mX0_copyFrom) dX0_copyFrom_109 1 rfl rfl ?_
    refine k_get (M := mX0_copyFrom) (v := .ref (A (qB2 + 5))) dX0_copyFrom_110 kF_X0_35.r qB2 (by omega) ((zC_skipN 6 rfl (by omega)).trans (hB2.o)) rfl ?_
    refine g_iload_n (M := mX0_copyFrom) dX0_copyFrom_113 2 rfl rfl ?_
    refine k_iald (M := mX0_copyFrom) (len := 10) (f := VB2.2 5) dX0_copyFrom_114 (qB2 + 5) (by omega) ((zC_skipN 6 rfl (by omega)).trans (hB2.a (d := (0, 10)) 4 rfl)) (Nat.le_of_ble_eq_true rfl) g14.1 g14.2 ?_
    refine c_iast (M := mX0_copyFrom) (len := 10) (d := (0, 10)) dX0_copyFrom_115 4 rfl rfl (by omega) (Nat.le_of_ble_eq_true rfl) g14.1 g14.2 ?_
    refine h_iinc (M := mX0_copyFrom) (j := 2) (lv' := [(0, .ref (A qB)), (1, .ref (A qB2)), (2, .int (iI (s1.1 + 1)))]) dX0_copyFrom_116 rfl (Nat.le_of_ble_eq_true rfl) rfl ?_
    refine g_goto (M := mX0_copyFrom) (tgt := 50) dX0_copyFrom_119 (by decide) ?_
    exact b1 _ (Option.some.inj h1).symm
set_option maxHeartbeats 4000000 in
set_option maxRecDepth 100000 in
theorem wX0_rowsHaving {X : zX} (hX : zOK X) {A : Nat → Nat} {n : Nat} {S : Nat → va_E} {qB : Nat} {VB : CV} (hB : isC X A shB qB VB S) (bB : qB + 6 < n) {a1 : Int} {res : Int} (h : fX0_rowsHaving VB a1 = some res) : Con X yX0_rowsHaving mX0_rowsHaving 3 0 0 [.ref (A qB), .int (iI a1)] (zWs A n S) (zRet (zWs A n S) (some (.int (iI res)))) := by
  refine con_of (lv := [(0, .ref (A qB)), (1, .int (iI a1))]) (by decide) rfl (fun h => by cases h) rfl (Nat.le_of_ble_eq_true rfl) rfl ?_
  unfold fX0_rowsHaving at h
  refine h_iconst (M := mX0_rowsHaving) dX0_rowsHaving_0 ?_
  refine g_istore_n (M := mX0_rowsHaving) (lv' := [(0, .ref (A qB)), (1, .int (iI a1)), (2, .int (iI 0))]) dX0_rowsHaving_1 rfl (by decide) rfl ?_
  refine h_iconst (M := mX0_rowsHaving) dX0_rowsHaving_2 ?_
  refine g_istore_n (M := mX0_rowsHaving) (lv' := [(0, .ref (A qB)), (1, .int (iI a1)), (2, .int (iI 0)), (3, .int (iI 0))]) dX0_rowsHaving_3 rfl (by decide) rfl ?_
  obtain ⟨x1, l1, h⟩ := zbi h
  have r1 : ∀ y1, y1 = x1 → G X mX0_rowsHaving (zPm X 3 0 0 (zRet (zWs A n S) (some (.int (iI res))))) 0 0 49 [(2, .int (iI y1.1))] [] (zWs A n S) := by
    intro y1 ey
    rw [← ey] at h
    refine g_iload_n (M := mX0_rowsHaving) dX0_rowsHaving_49 0 rfl rfl ?_
    have e := (Option.some.inj h)
    subst e
    exact g_iret (M := mX0_rowsHaving) dX0_rowsHaving_50 rfl (Nat.le_of_ble_eq_true rfl) (Nat.le_of_ble_eq_true rfl) ⟨rfl, rfl⟩
  refine zLp_J (J := fun s1 => G X mX0_rowsHaving (zPm X 3 0 0 (zRet (zWs A n S) (some (.int (iI res))))) 0 0 4 [(0, .ref (A qB)), (1, .int (iI a1)), (2, .int (iI s1.1)), (3, .int (iI s1.2))] [] (zWs A n S)) (fun s1 w1 h1 b1 e1 => ?_) _ _ l1
  refine g_iload_n (M := mX0_rowsHaving) dX0_rowsHaving_4 3 rfl rfl ?_
  refine g_aload_n (M := mX0_rowsHaving) dX0_rowsHaving_5 0 rfl rfl ?_
  refine k_get (M := mX0_rowsHaving) (v := .int (iI (VB.1 3))) dX0_rowsHaving_6 kF_X0_41.r qB (by omega) (hB.o) rfl ?_
  obtain ⟨g14, h1⟩ := zgi h1
  refine h_icmp_ge (M := mX0_rowsHaving) (tgt := 49) dX0_rowsHaving_9 (by decide) g14.1 g14.2 (fun c13 => ?_) (fun c13 => ?_)
  · have h1 := zti c13 h1
    refine g_lv (M := mX0_rowsHaving) [2] rfl ?_
    exact r1 _ (e1 _ (Option.some.inj h1).symm)
  · have h1 := zfi (Int.not_le.mpr c13) h1
    refine g_aload_n (M := mX0_rowsHaving) dX0_rowsHaving_12 0 rfl rfl ?_
    refine g_iload_n (M := mX0_rowsHaving) dX0_rowsHaving_13 3 rfl rfl ?_
    obtain ⟨t15, u16, h1⟩ := zbi h1
    refine g_callVr (M := mX0_rowsHaving) [.int (iI s1.2)] hX dX0_rowsHaving_14 vX0_isOut kM_X0_69 (wX0_isOut hX hB (by omega)  u16) qB (zWs_at (by omega) (hB.o)) rfl ⟨(Nat.le_of_ble_eq_true rfl), (Nat.le_of_ble_eq_true rfl)⟩ ⟨(Nat.le_of_ble_eq_true rfl), (Nat.le_of_ble_eq_true rfl)⟩ (Nat.le_of_ble_eq_true rfl) ?_
    refine h_bne (M := mX0_rowsHaving) (tgt := 43) dX0_rowsHaving_17 (by decide) (fun c17 => ?_) (fun c17 => ?_)
    · have h1 := zti c17 h1
      refine h_iinc (M := mX0_rowsHaving) (j := 3) (lv' := [(0, .ref (A qB)), (1, .int (iI a1)), (2, .int (iI s1.1)), (3, .int (iI (s1.2 + 1)))]) dX0_rowsHaving_43 rfl (Nat.le_of_ble_eq_true rfl) rfl ?_
      refine g_goto (M := mX0_rowsHaving) (tgt := 4) dX0_rowsHaving_46 (by decide) ?_
      exact b1 _ (Option.some.inj h1).symm
    · have h1 := zfi (zbf c17) h1
      refine g_aload_n (M := mX0_rowsHaving) dX0_rowsHaving_20 0 rfl rfl ?_
      refine g_iload_n (M := mX0_rowsHaving) dX0_rowsHaving_21 3 rfl rfl ?_
      refine g_iload_n (M := mX0_rowsHaving) dX0_rowsHaving_22 1 rfl rfl ?_
      refine g_aload_n (M := mX0_rowsHaving) dX0_rowsHaving_23 0 rfl rfl ?_
      refine k_get (M := mX0_rowsHaving) (v := .int (iI (VB.1 1))) dX0_rowsHaving_24 kF_X0_15.r qB (by omega) (hB.o) rfl ?_
      obtain ⟨t18, u19, h1⟩ := zbi h1
      refine g_callVr (M := mX0_rowsHaving) [.int (iI s1.2), .int (iI a1), .int (iI (VB.1 1))] hX dX0_rowsHaving_27 vX0_nearest kM_X0_93 (wX0_nearest hX hB (by omega)  u19) qB (zWs_at (by omega) (hB.o)) rfl ⟨(Nat.le_of_ble_eq_true rfl), (Nat.le_of_ble_eq_true rfl)⟩ ⟨(Nat.le_of_ble_eq_true rfl), (Nat.le_of_ble_eq_true rfl)⟩ (Nat.le_of_ble_eq_true rfl) ?_
      refine g_aload_n (M := mX0_rowsHaving) dX0_rowsHaving_30 0 rfl rfl ?_
      refine k_get (M := mX0_rowsHaving) (v := .int (iI (VB.1 2))) dX0_rowsHaving_31 kF_X0_18.r qB (by omega) (hB.o) rfl ?_
      obtain ⟨g21, h1⟩ := zgi h1
      refine h_icmp_gt (M := mX0_rowsHaving) (tgt := 43) dX0_rowsHaving_34 (by decide) g21.1 g21.2 (fun c20 => ?_) (fun c20 => ?_)
      · have h1 := zti c20 h1
        refine h_iinc (M := mX0_rowsHaving) (j := 3) (lv' := [(0, .ref (A qB)), (1, .int (iI a1)), (2, .int (iI s1.1)), (3, .int (iI (s1.2 + 1)))]) dX0_rowsHaving_43 rfl (Nat.le_of_ble_eq_true rfl) rfl ?_
        refine g_goto (M := mX0_rowsHaving) (tgt := 4) dX0_rowsHaving_46 (by decide) ?_
        exact b1 _ (Option.some.inj h1).symm
      · have h1 := zfi (Int.not_lt.mpr c20) h1
        refine g_iload_n (M := mX0_rowsHaving) dX0_rowsHaving_37 2 rfl rfl ?_
        refine h_iconst (M := mX0_rowsHaving) dX0_rowsHaving_38 ?_
        refine g_iload_n (M := mX0_rowsHaving) dX0_rowsHaving_39 3 rfl rfl ?_
        obtain ⟨g22, h1⟩ := zgi h1
        refine g_ishl (M := mX0_rowsHaving) dX0_rowsHaving_40 ?_
        refine h_topx (M := mX0_rowsHaving) (b := zP2 s1.2) (iI_shl1 g22.1 g22.2) ?_
        obtain ⟨g23, h1⟩ := zgi h1
        refine g_ior (M := mX0_rowsHaving) dX0_rowsHaving_41 ?_
        refine h_topx (M := mX0_rowsHaving) (b := zOr s1.1 (zP2 s1.2)) (iI_or g23.1 g23.2) ?_
        refine g_istore_n (M := mX0_rowsHaving) (lv' := [(0, .ref (A qB)), (1, .int (iI a1)), (2, .int (iI (zOr s1.1 (zP2 s1.2)))), (3, .int (iI s1.2))]) dX0_rowsHaving_42 rfl (by decide) rfl ?_
        refine h_iinc (M := mX0_rowsHaving) (j := 3) (lv' := [(0, .ref (A qB)), (1, .int (iI a1)), (2, .int (iI (zOr s1.1 (zP2 s1.2)))), (3, .int (iI (s1.2 + 1)))]) dX0_rowsHaving_43 rfl (Nat.le_of_ble_eq_true rfl) rfl ?_
        refine g_goto (M := mX0_rowsHaving) (tgt := 4) dX0_rowsHaving_46 (by decide) ?_
        exact b1 _ (Option.some.inj h1).symm
set_option maxHeartbeats 4000000 in
set_option maxRecDepth 100000 in
theorem wX0_nearestStart {X : zX} (hX : zOK X) {A : Nat → Nat} {n : Nat} {S : Nat → va_E} {qB : Nat} {VB : CV} (hB : isC X A shB qB VB S) (bB : qB + 6 < n) {a1 : Int} {a2 : Int} {res : Int} (h : fX0_nearestStart VB a1 a2 = some res) : Con X yX0_nearestStart mX0_nearestStart 2 0 0 [.ref (A qB), .int (iI a1), .int (iI a2)] (zWs A n S) (zRet (zWs A n S) (some (.int (iI res)))) := by
  refine con_of (lv := [(0, .ref (A qB)), (1, .int (iI a1)), (2, .int (iI a2))]) (by decide) rfl (fun h => by cases h) rfl (Nat.le_of_ble_eq_true rfl) rfl ?_
  unfold fX0_nearestStart at h
  refine h_iconst (M := mX0_nearestStart) dX0_nearestStart_0 ?_
  refine g_istore_n (M := mX0_nearestStart) (lv' := [(0, .ref (A qB)), (1, .int (iI a1)), (2, .int (iI a2)), (3, .int (iI (-1)))]) dX0_nearestStart_1 rfl (by decide) rfl ?_
  refine h_iconst (M := mX0_nearestStart) dX0_nearestStart_2 ?_
  refine g_istore (M := mX0_nearestStart) (lv' := [(0, .ref (A qB)), (1, .int (iI a1)), (2, .int (iI a2)), (3, .int (iI (-1))), (4, .int (iI 0))]) dX0_nearestStart_3 (by decide) rfl ?_
  refine h_iconst (M := mX0_nearestStart) dX0_nearestStart_5 ?_
  refine g_istore (M := mX0_nearestStart) (lv' := [(0, .ref (A qB)), (1, .int (iI a1)), (2, .int (iI a2)), (3, .int (iI (-1))), (4, .int (iI 0)), (5, .int (iI 0))]) dX0_nearestStart_6 (by decide) rfl ?_
  obtain ⟨x1, l1, h⟩ := zbi h
  have r1 : ∀ y1, y1 = x1 → G X mX0_nearestStart (zPm X 2 0 0 (zRet (zWs A n S) (some (.int (iI res))))) 0 0 70 [(3, .int (iI y1.1))] [] (zWs A n S) := by
    intro y1 ey
    rw [← ey] at h
    refine g_iload_n (M := mX0_nearestStart) dX0_nearestStart_70 0 rfl rfl ?_
    have e := (Option.some.inj h)
    subst e
    exact g_iret (M := mX0_nearestStart) dX0_nearestStart_71 rfl (Nat.le_of_ble_eq_true rfl) (Nat.le_of_ble_eq_true rfl) ⟨rfl, rfl⟩
  refine zLp_J (J := fun s1 => G X mX0_nearestStart (zPm X 2 0 0 (zRet (zWs A n S) (some (.int (iI res))))) 0 0 8 [(0, .ref (A qB)), (1, .int (iI a1)), (2, .int (iI a2)), (3, .int (iI s1.1)), (4, .int (iI s1.2.1)), (5, .int (iI s1.2.2))] [] (zWs A n S)) (fun s1 w1 h1 b1 e1 => ?_) _ _ l1
  refine g_iload (M := mX0_nearestStart) dX0_nearestStart_8 5 rfl ?_
  refine g_aload_n (M := mX0_nearestStart) dX0_nearestStart_10 0 rfl rfl ?_
  refine g_iload_n (M := mX0_nearestStart) dX0_nearestStart_11 1 rfl rfl ?_
  obtain ⟨t17, u18, h1⟩ := zbi h1
  refine g_callVr (M := mX0_nearestStart) [.int (iI a1)] hX dX0_nearestStart_12 vX0_lastStart kM_X0_66 (wX0_lastStart hX hB (by omega)  u18) qB (zWs_at (by omega) (hB.o)) rfl ⟨(Nat.le_of_ble_eq_true rfl), (Nat.le_of_ble_eq_true rfl)⟩ ⟨(Nat.le_of_ble_eq_true rfl), (Nat.le_of_ble_eq_true rfl)⟩ (Nat.le_of_ble_eq_true rfl) ?_
  obtain ⟨g20, h1⟩ := zgi h1
  refine h_icmp_gt (M := mX0_nearestStart) (tgt := 70) dX0_nearestStart_15 (by decide) g20.1 g20.2 (fun c19 => ?_) (fun c19 => ?_)
  · have h1 := zti c19 h1
    refine g_lv (M := mX0_nearestStart) [3] rfl ?_
    exact r1 _ (e1 _ (Option.some.inj h1).symm)
  · have h1 := zfi (Int.not_lt.mpr c19) h1
    refine g_aload_n (M := mX0_nearestStart) dX0_nearestStart_18 0 rfl rfl ?_
    refine g_iload_n (M := mX0_nearestStart) dX0_nearestStart_19 1 rfl rfl ?_
    refine g_iload (M := mX0_nearestStart) dX0_nearestStart_20 5 rfl ?_
    obtain ⟨t21, u22, h1⟩ := zbi h1
    refine g_callVr (M := mX0_nearestStart) [.int (iI a1), .int (iI s1.2.2)] hX dX0_nearestStart_22 vX0_isPlace kM_X0_76 (wX0_isPlace hX hB (by omega)  u22) qB (zWs_at (by omega) (hB.o)) rfl ⟨(Nat.le_of_ble_eq_true rfl), (Nat.le_of_ble_eq_true rfl)⟩ ⟨(Nat.le_of_ble_eq_true rfl), (Nat.le_of_ble_eq_true rfl)⟩ (Nat.le_of_ble_eq_true rfl) ?_
    refine h_beq (M := mX0_nearestStart) (tgt := 64) dX0_nearestStart_25 (by decide) (fun c23 => ?_) (fun c23 => ?_)
    · have h1 := zfi (zbf c23) h1
      refine h_iinc (M := mX0_nearestStart) (j := 5) (lv' := [(0, .ref (A qB)), (1, .int (iI a1)), (2, .int (iI a2)), (3, .int (iI s1.1)), (4, .int (iI s1.2.1)), (5, .int (iI (s1.2.2 + 1)))]) dX0_nearestStart_64 rfl (Nat.le_of_ble_eq_true rfl) rfl ?_
      refine g_goto (M := mX0_nearestStart) (tgt := 8) dX0_nearestStart_67 (by decide) ?_
      exact b1 _ (Option.some.inj h1).symm
    · have h1 := zti c23 h1
      refine g_aload_n (M := mX0_nearestStart) dX0_nearestStart_28 0 rfl rfl ?_
      refine g_iload_n (M := mX0_nearestStart) dX0_nearestStart_29 1 rfl rfl ?_
      refine g_iload (M := mX0_nearestStart) dX0_nearestStart_30 5 rfl ?_
      obtain ⟨t24, u25, h1⟩ := zbi h1
      refine g_callVr (M := mX0_nearestStart) [.int (iI a1), .int (iI s1.2.2)] hX dX0_nearestStart_32 vX0_codeAt kM_X0_83 (wX0_codeAt hX hB (by omega)  u25) qB (zWs_at (by omega) (hB.o)) rfl ⟨(Nat.le_of_ble_eq_true rfl), (Nat.le_of_ble_eq_true rfl)⟩ ⟨(Nat.le_of_ble_eq_true rfl), (Nat.le_of_ble_eq_true rfl)⟩ (Nat.le_of_ble_eq_true rfl) ?_
      refine g_iload_n (M := mX0_nearestStart) dX0_nearestStart_35 2 rfl rfl ?_
      refine g_aload_n (M := mX0_nearestStart) dX0_nearestStart_36 0 rfl rfl ?_
      refine k_get (M := mX0_nearestStart) (v := .int (iI (VB.1 1))) dX0_nearestStart_37 kF_X0_15.r qB (by omega) (hB.o) rfl ?_
      obtain ⟨t26, u27, h1⟩ := zbi h1
      refine g_callSr (M := mX0_nearestStart) [.int (iI t24), .int (iI a2), .int (iI (VB.1 1))] hX dX0_nearestStart_40 vX0_differing kM_X0_86 (wX0_differing hX   u27) rfl ⟨(Nat.le_of_ble_eq_true rfl), (Nat.le_of_ble_eq_true rfl)⟩ ⟨(Nat.le_of_ble_eq_true rfl), (Nat.le_of_ble_eq_true rfl)⟩ (Nat.le_of_ble_eq_true rfl) ?_
      refine g_istore (M := mX0_nearestStart) (lv' := [(0, .ref (A qB)), (1, .int (iI a1)), (2, .int (iI a2)), (3, .int (iI s1.1)), (4, .int (iI s1.2.1)), (5, .int (iI s1.2.2)), (6, .int (iI t26))]) dX0_nearestStart_43 (by decide) rfl ?_
      refine g_iload_n (M := mX0_nearestStart) dX0_nearestStart_45 3 rfl rfl ?_
      refine h_iconst (M := mX0_nearestStart) dX0_nearestStart_46 ?_
      obtain ⟨g29, h1⟩ := zgi h1
      refine h_icmp_eq (M := mX0_nearestStart) (tgt := 57) dX0_nearestStart_47 (by decide) g29 (by decide) (fun c28 => ?_) (fun c28 => ?_)
      · have h1 := zti c28 h1
        refine g_iload (M := mX0_nearestStart) dX0_nearestStart_57 5 rfl ?_
        refine g_istore_n (M := mX0_nearestStart) (lv' := [(0, .ref (A qB)), (1, .int (iI a1)), (2, .int (iI a2)), (3, .int (iI s1.2.2)), (4, .int (iI s1.2.1)), (5, .int (iI s1.2.2)), (6, .int (iI t26))]) dX0_nearestStart_59 rfl (by decide) rfl ?_
        refine g_iload (M := mX0_nearestStart) dX0_nearestStart_60 6 rfl ?_
        refine g_istore (M := mX0_nearestStart) (lv' := [(0, .ref (A qB)), (1, .int (iI a1)), (2, .int (iI a2)), (3, .int (iI s1.2.2)), (4, .int (iI t26)), (5, .int (iI s1.2.2)), (6, .int (iI t26))]) dX0_nearestStart_62 (by decide) rfl ?_
        refine h_iinc (M := mX0_nearestStart) (j := 5) (lv' := [(0, .ref (A qB)), (1, .int (iI a1)), (2, .int (iI a2)), (3, .int (iI s1.2.2)), (4, .int (iI t26)), (5, .int (iI (s1.2.2 + 1))), (6, .int (iI t26))]) dX0_nearestStart_64 rfl (Nat.le_of_ble_eq_true rfl) rfl ?_
        refine g_goto (M := mX0_nearestStart) (tgt := 8) dX0_nearestStart_67 (by decide) ?_
        refine g_lv (M := mX0_nearestStart) [0, 1, 2, 3, 4, 5] rfl ?_
        exact b1 _ (Option.some.inj h1).symm
      · have h1 := zfi c28 h1
        refine g_iload (M := mX0_nearestStart) dX0_nearestStart_50 6 rfl ?_
        refine g_iload (M := mX0_nearestStart) dX0_nearestStart_52 4 rfl ?_
        obtain ⟨g31, h1⟩ := zgi h1
        refine h_icmp_ge (M := mX0_nearestStart) (tgt := 64) dX0_nearestStart_54 (by decide) g31.1 g31.2 (fun c30 => ?_) (fun c30 => ?_)
        · have h1 := zti c30 h1
          refine h_iinc (M := mX0_nearestStart) (j := 5) (lv' := [(0, .ref (A qB)), (1, .int (iI a1)), (2, .int (iI a2)), (3, .int (iI s1.1)), (4, .int (iI s1.2.1)), (5, .int (iI (s1.2.2 + 1))), (6, .int (iI t26))]) dX0_nearestStart_64 rfl (Nat.le_of_ble_eq_true rfl) rfl ?_
          refine g_goto (M := mX0_nearestStart) (tgt := 8) dX0_nearestStart_67 (by decide) ?_
          refine g_lv (M := mX0_nearestStart) [0, 1, 2, 3, 4, 5] rfl ?_
          exact b1 _ (Option.some.inj h1).symm
        · have h1 := zfi (Int.not_le.mpr c30) h1
          refine g_iload (M := mX0_nearestStart) dX0_nearestStart_57 5 rfl ?_
          refine g_istore_n (M := mX0_nearestStart) (lv' := [(0, .ref (A qB)), (1, .int (iI a1)), (2, .int (iI a2)), (3, .int (iI s1.2.2)), (4, .int (iI s1.2.1)), (5, .int (iI s1.2.2)), (6, .int (iI t26))]) dX0_nearestStart_59 rfl (by decide) rfl ?_
          refine g_iload (M := mX0_nearestStart) dX0_nearestStart_60 6 rfl ?_
          refine g_istore (M := mX0_nearestStart) (lv' := [(0, .ref (A qB)), (1, .int (iI a1)), (2, .int (iI a2)), (3, .int (iI s1.2.2)), (4, .int (iI t26)), (5, .int (iI s1.2.2)), (6, .int (iI t26))]) dX0_nearestStart_62 (by decide) rfl ?_
          refine h_iinc (M := mX0_nearestStart) (j := 5) (lv' := [(0, .ref (A qB)), (1, .int (iI a1)), (2, .int (iI a2)), (3, .int (iI s1.2.2)), (4, .int (iI t26)), (5, .int (iI (s1.2.2 + 1))), (6, .int (iI t26))]) dX0_nearestStart_64 rfl (Nat.le_of_ble_eq_true rfl) rfl ?_
          refine g_goto (M := mX0_nearestStart) (tgt := 8) dX0_nearestStart_67 (by decide) ?_
          refine g_lv (M := mX0_nearestStart) [0, 1, 2, 3, 4, 5] rfl ?_
          exact b1 _ (Option.some.inj h1).symm
set_option maxHeartbeats 4000000 in
set_option maxRecDepth 100000 in
theorem wX0_cover {X : zX} (hX : zOK X) {A : Nat → Nat} {n : Nat} {S : Nat → va_E} {qB : Nat} {VB : CV} (hB : isC X A shB qB VB S) (bB : qB + 6 < n) {a1 : Int} {res : CV × Int} (h : fX0_cover VB a1 = some res) : Con X yX0_cover mX0_cover 4 0 0 [.ref (A qB), .int (iI a1)] (zWs A n S) (zRet (zWs A n (zC X A shB qB res.1 S)) (some (.int (iI res.2)))) := by
  refine con_of (lv := [(0, .ref (A qB)), (1, .int (iI a1))]) (by decide) rfl (fun h => by cases h) rfl (Nat.le_of_ble_eq_true rfl) rfl ?_
  refine g_ws (M := mX0_cover) (congrArg (zWs A n) hB.symm) ?_
  unfold fX0_cover at h
  refine g_aload_n (M := mX0_cover) dX0_cover_0 0 rfl rfl ?_
  refine g_iload_n (M := mX0_cover) dX0_cover_1 1 rfl rfl ?_
  obtain ⟨t1, u2, h⟩ := zbi h
  refine g_callVr (M := mX0_cover) [.int (iI a1)] hX dX0_cover_2 vX0_codeOf kM_X0_100 (wX0_codeOf hX zC_self (by omega)  u2) qB (zWs_at (by omega) (zC_o)) rfl ⟨(Nat.le_of_ble_eq_true rfl), (Nat.le_of_ble_eq_true rfl)⟩ ⟨(Nat.le_of_ble_eq_true rfl), (Nat.le_of_ble_eq_true rfl)⟩ (Nat.le_of_ble_eq_true rfl) ?_
  refine g_istore_n (M := mX0_cover) (lv' := [(0, .ref (A qB)), (1, .int (iI a1)), (2, .int (iI t1))]) dX0_cover_5 rfl (by decide) rfl ?_
  refine g_aload_n (M := mX0_cover) dX0_cover_6 0 rfl rfl ?_
  refine k_get (M := mX0_cover) (v := .int (iI (VB.1 5))) dX0_cover_7 kF_X0_47.r qB (by omega) (zC_o) rfl ?_
  refine h_bipush (M := mX0_cover) dX0_cover_10 rfl ?_
  refine zJn_J (J := fun x7 => G X mX0_cover (zPm X 4 0 0 (zRet (zWs A n (zC X A shB qB res.1 S)) (some (.int (iI res.2))))) 0 0 24 [(0, .ref (A qB)), (1, .int (iI a1)), (2, .int (iI t1))] [.int (iI x7)] (zWs A n (zC X A shB qB VB S))) h (fun x7 h => ?_) (fun j7 h => ?_)
  · refine g_istore_n (M := mX0_cover) (lv' := [(0, .ref (A qB)), (1, .int (iI a1)), (2, .int (iI t1)), (3, .int (iI x7))]) dX0_cover_24 rfl (by decide) rfl ?_
    refine g_iload_n (M := mX0_cover) dX0_cover_25 3 rfl rfl ?_
    obtain ⟨g9, h⟩ := zgi h
    refine h_if_ne (M := mX0_cover) (tgt := 31) dX0_cover_26 (by decide) g9 (fun c8 => ?_) (fun c8 => ?_)
    · have h := zfi c8 h
      refine g_aload_n (M := mX0_cover) dX0_cover_31 0 rfl rfl ?_
      refine k_get (M := mX0_cover) (v := .ref (A (qB + 6))) dX0_cover_32 kF_X0_38.r qB (by omega) (zC_o) rfl ?_
      refine g_aload_n (M := mX0_cover) dX0_cover_35 0 rfl rfl ?_
      refine k_get (M := mX0_cover) (v := .int (iI (VB.1 5))) dX0_cover_36 kF_X0_47.r qB (by omega) (zC_o) rfl ?_
      refine g_iload_n (M := mX0_cover) dX0_cover_39 1 rfl rfl ?_
      obtain ⟨g10, h⟩ := zgi h
      refine c_iast (M := mX0_cover) (len := 6) (d := (0, 6)) dX0_cover_40 5 rfl rfl (by omega) (Nat.le_of_ble_eq_true rfl) g10.1 g10.2 ?_
      refine g_aload_n (M := mX0_cover) dX0_cover_41 0 rfl rfl ?_
      refine g_dup (M := mX0_cover) dX0_cover_42 rfl ?_
      refine k_get (M := mX0_cover) (v := .int (iI (VB.1 5))) dX0_cover_43 kF_X0_47.r qB (by omega) (zC_o) rfl ?_
      refine h_iconst (M := mX0_cover) dX0_cover_46 ?_
      refine h_iadd (M := mX0_cover) dX0_cover_47 ?_
      refine c_put (M := mX0_cover) (k := 5) dX0_cover_48 kF_X0_47 (by omega) rfl rfl (by decide) rfl rfl ?_
      refine h_iconst (M := mX0_cover) dX0_cover_51 ?_
      refine g_istore (M := mX0_cover) (lv' := [(0, .ref (A qB)), (1, .int (iI a1)), (2, .int (iI t1)), (3, .int (iI x7)), (4, .int (iI 0))]) dX0_cover_52 (by decide) rfl ?_
      obtain ⟨x11, l11, h⟩ := zbi h
      have r11 : ∀ y11, y11 = x11 → G X mX0_cover (zPm X 4 0 0 (zRet (zWs A n (zC X A shB qB res.1 S)) (some (.int (iI res.2))))) 0 0 148 [(3, .int (iI x7))] [] (zWs A n (zC X A shB qB y11.2 S)) := by
        intro y11 ey
        rw [← ey] at h
        refine g_iload_n (M := mX0_cover) dX0_cover_148 0 rfl rfl ?_
        refine g_callSr (M := mX0_cover) [.int (iI x7)] hX dX0_cover_149 vJ6_bitCount_0f7a4 kM_X0_60 (cJ6_bitCount_0f7a4' (iI x7)) rfl ⟨(Nat.le_of_ble_eq_true rfl), (Nat.le_of_ble_eq_true rfl)⟩ ⟨(Nat.le_of_ble_eq_true rfl), (Nat.le_of_ble_eq_true rfl)⟩ (Nat.le_of_ble_eq_true rfl) ?_
        refine h_topx (M := mX0_cover) (b := zPop x7) (zPop_e _) ?_
        have e := (Option.some.inj h)
        subst e
        exact g_iret (M := mX0_cover) dX0_cover_152 rfl (Nat.le_of_ble_eq_true rfl) (Nat.le_of_ble_eq_true rfl) ⟨rfl, rfl⟩
      refine g_lv (M := mX0_cover) [0, 2, 3, 4] rfl ?_
      refine zLp_J (J := fun s11 => G X mX0_cover (zPm X 4 0 0 (zRet (zWs A n (zC X A shB qB res.1 S)) (some (.int (iI res.2))))) 0 0 54 [(0, .ref (A qB)), (2, .int (iI t1)), (3, .int (iI x7)), (4, .int (iI s11.1))] [] (zWs A n (zC X A shB qB s11.2 S))) (fun s11 w11 h11 b11 e11 => ?_) _ _ l11
      refine g_iload (M := mX0_cover) dX0_cover_54 3 rfl ?_
      refine g_aload_n (M := mX0_cover) dX0_cover_56 0 rfl rfl ?_
      refine k_get (M := mX0_cover) (v := .int (iI (s11.2.1 3))) dX0_cover_57 kF_X0_41.r qB (by omega) (zC_o) rfl ?_
      obtain ⟨g44, h11⟩ := zgi h11
      refine h_icmp_ge (M := mX0_cover) (tgt := 148) dX0_cover_60 (by decide) g44.1 g44.2 (fun c43 => ?_) (fun c43 => ?_)
      · have h11 := zti c43 h11
        refine g_lv (M := mX0_cover) [2] rfl ?_
        exact r11 _ (e11 _ (Option.some.inj h11).symm)
      · have h11 := zfi (Int.not_le.mpr c43) h11
        refine g_iload_n (M := mX0_cover) dX0_cover_63 2 rfl rfl ?_
        refine g_iload (M := mX0_cover) dX0_cover_64 3 rfl ?_
        obtain ⟨g45, h11⟩ := zgi h11
        refine g_iushr (M := mX0_cover) dX0_cover_66 rfl ?_
        refine h_topx (M := mX0_cover) (b := x7 / zP2 s11.1) (iI_ushr g45.1.1 g45.1.2 g45.2.1 g45.2.2) ?_
        refine h_iconst (M := mX0_cover) dX0_cover_67 ?_
        refine g_iand (M := mX0_cover) dX0_cover_68 ?_
        refine h_topx (M := mX0_cover) (b := (x7 / zP2 s11.1) % 2) (iI_mask _ 1 (by decide)) ?_
        refine zJn_J (J := fun x50 => G X mX0_cover (zPm X 4 0 0 (zRet (zWs A n (zC X A shB qB res.1 S)) (some (.int (iI res.2))))) 0 0 83 [(0, .ref (A qB)), (2, .int (iI t1)), (3, .int (iI x7)), (4, .int (iI s11.1))] [.int (iI x50)] (zWs A n (zC X A shB qB s11.2 S))) h11 (fun x50 h11 => ?_) (fun j50 h11 => ?_)
        · refine g_istore (M := mX0_cover) (lv' := [(0, .ref (A qB)), (2, .int (iI t1)), (3, .int (iI x7)), (4, .int (iI s11.1)), (5, .int (iI x50))]) dX0_cover_83 (by decide) rfl ?_
          refine g_iload (M := mX0_cover) dX0_cover_85 4 rfl ?_
          refine h_iconst (M := mX0_cover) dX0_cover_87 ?_
          refine zJn_J (J := fun x57 => G X mX0_cover (zPm X 4 0 0 (zRet (zWs A n (zC X A shB qB res.1 S)) (some (.int (iI res.2))))) 0 0 107 [(0, .ref (A qB)), (2, .int (iI t1)), (3, .int (iI x7)), (4, .int (iI s11.1))] [] (zWs A n (zC X A shB qB x57 S))) h11 (fun x57 h11 => ?_) (fun j57 h11 => ?_)
          · refine g_aload_n (M := mX0_cover) dX0_cover_107 0 rfl rfl ?_
            refine k_get (M := mX0_cover) (v := .ref (A (qB + 5))) dX0_cover_108 kF_X0_35.r qB (by omega) (zC_o) rfl ?_
            refine g_iload (M := mX0_cover) dX0_cover_111 3 rfl ?_
            obtain ⟨g58, h11⟩ := zgi h11
            refine k_iald (M := mX0_cover) (len := 10) (f := x57.2 5) dX0_cover_113 (qB + 5) (by omega) (zC_a (d := (0, 10)) 4 rfl) (Nat.le_of_ble_eq_true rfl) g58.1 g58.2 ?_
            refine h_iconst (M := mX0_cover) dX0_cover_114 ?_
            obtain ⟨g60, h11⟩ := zgi h11
            refine h_icmp_eq (M := mX0_cover) (tgt := 142) dX0_cover_115 (by decide) g60 (by decide) (fun c59 => ?_) (fun c59 => ?_)
            · have h11 := zti c59 h11
              refine h_iinc (M := mX0_cover) (j := 3) (lv' := [(0, .ref (A qB)), (2, .int (iI t1)), (3, .int (iI x7)), (4, .int (iI (s11.1 + 1)))]) dX0_cover_142 rfl (Nat.le_of_ble_eq_true rfl) rfl ?_
              refine g_goto (M := mX0_cover) (tgt := 54) dX0_cover_145 (by decide) ?_
              exact b11 _ (Option.some.inj h11).symm
            · have h11 := zfi c59 h11
              refine g_aload_n (M := mX0_cover) dX0_cover_118 0 rfl rfl ?_
              refine g_iload (M := mX0_cover) dX0_cover_119 3 rfl ?_
              refine g_aload_n (M := mX0_cover) dX0_cover_121 0 rfl rfl ?_
              refine k_get (M := mX0_cover) (v := .ref (A (qB + 5))) dX0_cover_122 kF_X0_35.r qB (by omega) (zC_o) rfl ?_
              refine g_iload (M := mX0_cover) dX0_cover_125 3 rfl ?_
              refine k_iald (M := mX0_cover) (len := 10) (f := x57.2 5) dX0_cover_127 (qB + 5) (by omega) (zC_a (d := (0, 10)) 4 rfl) (Nat.le_of_ble_eq_true rfl) g58.1 g58.2 ?_
              obtain ⟨t61, u62, h11⟩ := zbi h11
              refine g_callVr (M := mX0_cover) [.int (iI s11.1), .int (iI (x57.2 5 s11.1))] hX dX0_cover_128 vX0_isPlace kM_X0_76 (wX0_isPlace hX zC_self (by omega)  u62) qB (zWs_at (by omega) (zC_o)) rfl ⟨(Nat.le_of_ble_eq_true rfl), (Nat.le_of_ble_eq_true rfl)⟩ ⟨(Nat.le_of_ble_eq_true rfl), (Nat.le_of_ble_eq_true rfl)⟩ (Nat.le_of_ble_eq_true rfl) ?_
              refine h_bne (M := mX0_cover) (tgt := 142) dX0_cover_131 (by decide) (fun c63 => ?_) (fun c63 => ?_)
              · have h11 := zti c63 h11
                refine h_iinc (M := mX0_cover) (j := 3) (lv' := [(0, .ref (A qB)), (2, .int (iI t1)), (3, .int (iI x7)), (4, .int (iI (s11.1 + 1)))]) dX0_cover_142 rfl (Nat.le_of_ble_eq_true rfl) rfl ?_
                refine g_goto (M := mX0_cover) (tgt := 54) dX0_cover_145 (by decide) ?_
                exact b11 _ (Option.some.inj h11).symm
              · have h11 := zfi (zbf c63) h11
                refine g_aload_n (M := mX0_cover) dX0_cover_134 0 rfl rfl ?_
                refine k_get (M := mX0_cover) (v := .ref (A (qB + 5))) dX0_cover_135 kF_X0_35.r qB (by omega) (zC_o) rfl ?_
                refine g_iload (M := mX0_cover) dX0_cover_138 3 rfl ?_
                refine h_iconst (M := mX0_cover) dX0_cover_140 ?_
                refine c_iast (M := mX0_cover) (len := 10) (d := (0, 10)) dX0_cover_141 4 rfl rfl (by omega) (Nat.le_of_ble_eq_true rfl) g58.1 g58.2 ?_
                refine h_iinc (M := mX0_cover) (j := 3) (lv' := [(0, .ref (A qB)), (2, .int (iI t1)), (3, .int (iI x7)), (4, .int (iI (s11.1 + 1)))]) dX0_cover_142 rfl (Nat.le_of_ble_eq_true rfl) rfl ?_
                refine g_goto (M := mX0_cover) (tgt := 54) dX0_cover_145 (by decide) ?_
                exact b11 _ (Option.some.inj h11).symm
          · obtain ⟨g65, h11⟩ := zgi h11
            refine h_icmp_eq (M := mX0_cover) (tgt := 107) dX0_cover_88 (by decide) g65 (by decide) (fun c64 => ?_) (fun c64 => ?_)
            · have h11 := zti c64 h11
              refine g_lv (M := mX0_cover) [0, 1, 2, 3] rfl ?_
              exact j57 s11.2 h11
            · have h11 := zfi c64 h11
              refine g_aload_n (M := mX0_cover) dX0_cover_91 0 rfl rfl ?_
              refine k_get (M := mX0_cover) (v := .ref (A (qB + 4))) dX0_cover_92 kF_X0_32.r qB (by omega) (zC_o) rfl ?_
              refine g_iload (M := mX0_cover) dX0_cover_95 3 rfl ?_
              refine g_dup2_11 (M := mX0_cover) dX0_cover_97 rfl rfl ?_
              obtain ⟨g66, h11⟩ := zgi h11
              refine k_iald (M := mX0_cover) (len := 10) (f := s11.2.2 4) dX0_cover_98 (qB + 4) (by omega) (zC_a (d := (0, 10)) 3 rfl) (Nat.le_of_ble_eq_true rfl) g66.1 g66.2 ?_
              refine g_aload_n (M := mX0_cover) dX0_cover_99 0 rfl rfl ?_
              refine g_iload (M := mX0_cover) dX0_cover_100 4 rfl ?_
              obtain ⟨t67, u68, h11⟩ := zbi h11
              refine g_callVr (M := mX0_cover) [.int (iI x50)] hX dX0_cover_102 vX0_lettersFrom kM_X0_73 (wX0_lettersFrom hX zC_self (by omega)  u68) qB (zWs_at (by omega) (zC_o)) rfl ⟨(Nat.le_of_ble_eq_true rfl), (Nat.le_of_ble_eq_true rfl)⟩ ⟨(Nat.le_of_ble_eq_true rfl), (Nat.le_of_ble_eq_true rfl)⟩ (Nat.le_of_ble_eq_true rfl) ?_
              obtain ⟨g69, h11⟩ := zgi h11
              refine g_ior (M := mX0_cover) dX0_cover_105 ?_
              refine h_topx (M := mX0_cover) (b := zOr (s11.2.2 4 s11.1) t67) (iI_or g69.1 g69.2) ?_
              refine c_iast (M := mX0_cover) (len := 10) (d := (0, 10)) dX0_cover_106 3 rfl rfl (by omega) (Nat.le_of_ble_eq_true rfl) g66.1 g66.2 ?_
              refine g_lv (M := mX0_cover) [0, 1, 2, 3] rfl ?_
              exact j57 (zPa s11.2 4 s11.1 (zOr (s11.2.2 4 s11.1) t67)) h11
        · obtain ⟨g71, h11⟩ := zgi h11
          refine h_if_eq (M := mX0_cover) (tgt := 82) dX0_cover_69 (by decide) g71 (fun c70 => ?_) (fun c70 => ?_)
          · have h11 := zti c70 h11
            refine h_iconst (M := mX0_cover) dX0_cover_82 ?_
            exact j50 (-1) h11
          · have h11 := zfi c70 h11
            refine g_aload_n (M := mX0_cover) dX0_cover_72 0 rfl rfl ?_
            refine g_iload (M := mX0_cover) dX0_cover_73 3 rfl ?_
            refine g_iload_n (M := mX0_cover) dX0_cover_75 1 rfl rfl ?_
            obtain ⟨t72, u73, h11⟩ := zbi h11
            refine g_callVr (M := mX0_cover) [.int (iI s11.1), .int (iI t1)] hX dX0_cover_76 vX0_nearestStart kM_X0_106 (wX0_nearestStart hX zC_self (by omega)  u73) qB (zWs_at (by omega) (zC_o)) rfl ⟨(Nat.le_of_ble_eq_true rfl), (Nat.le_of_ble_eq_true rfl)⟩ ⟨(Nat.le_of_ble_eq_true rfl), (Nat.le_of_ble_eq_true rfl)⟩ (Nat.le_of_ble_eq_true rfl) ?_
            refine g_goto (M := mX0_cover) (tgt := 83) dX0_cover_79 (by decide) ?_
            exact j50 t72 h11
    · have h := zti c8 h
      refine h_iconst (M := mX0_cover) dX0_cover_29 ?_
      have e := (Option.some.inj h)
      subst e
      exact g_iret (M := mX0_cover) dX0_cover_30 rfl (Nat.le_of_ble_eq_true rfl) (Nat.le_of_ble_eq_true rfl) ⟨rfl, rfl⟩
  · obtain ⟨g75, h⟩ := zgi h
    refine h_icmp_ge (M := mX0_cover) (tgt := 23) dX0_cover_12 (by decide) g75 (by decide) (fun c74 => ?_) (fun c74 => ?_)
    · have h := zti c74 h
      refine h_iconst (M := mX0_cover) dX0_cover_23 ?_
      exact j7 0 h
    · have h := zfi (Int.not_le.mpr c74) h
      refine g_aload_n (M := mX0_cover) dX0_cover_15 0 rfl rfl ?_
      refine g_iload_n (M := mX0_cover) dX0_cover_16 2 rfl rfl ?_
      obtain ⟨t76, u77, h⟩ := zbi h
      refine g_callVr (M := mX0_cover) [.int (iI t1)] hX dX0_cover_17 vX0_rowsHaving kM_X0_103 (wX0_rowsHaving hX zC_self (by omega)  u77) qB (zWs_at (by omega) (zC_o)) rfl ⟨(Nat.le_of_ble_eq_true rfl), (Nat.le_of_ble_eq_true rfl)⟩ ⟨(Nat.le_of_ble_eq_true rfl), (Nat.le_of_ble_eq_true rfl)⟩ (Nat.le_of_ble_eq_true rfl) ?_
      refine g_goto (M := mX0_cover) (tgt := 24) dX0_cover_20 (by decide) ?_
      exact j7 t76 h
set_option maxHeartbeats 4000000 in
set_option maxRecDepth 100000 in
theorem wX0_empty {X : zX} (hX : zOK X) {A : Nat → Nat} {n : Nat} {S : Nat → va_E} {qB : Nat} {VB : CV} (hB : isC X A shB qB VB S) (bB : qB + 6 < n) {res : CV} (h : fX0_empty VB = some res) : Con X yX0_empty mX0_empty 0 0 0 [.ref (A qB)] (zWs A n S) (zRet (zWs A n (zC X A shB qB res S)) none) := by
  refine con_of (lv := [(0, .ref (A qB))]) (by decide) rfl (fun h => by cases h) rfl (Nat.le_of_ble_eq_true rfl) rfl ?_
  refine g_ws (M := mX0_empty) (congrArg (zWs A n) hB.symm) ?_
  unfold fX0_empty at h
  refine g_aload_n (M := mX0_empty) dX0_empty_0 0 rfl rfl ?_
  refine h_iconst (M := mX0_empty) dX0_empty_1 ?_
  refine c_put (M := mX0_empty) (k := 0) dX0_empty_2 kF_X0_9 (by omega) rfl rfl (by decide) rfl rfl ?_
  refine g_aload_n (M := mX0_empty) dX0_empty_5 0 rfl rfl ?_
  refine h_iconst (M := mX0_empty) dX0_empty_6 ?_
  refine c_put (M := mX0_empty) (k := 1) dX0_empty_7 kF_X0_15 (by omega) rfl rfl (by decide) rfl rfl ?_
  refine g_aload_n (M := mX0_empty) dX0_empty_10 0 rfl rfl ?_
  refine h_iconst (M := mX0_empty) dX0_empty_11 ?_
  refine c_put (M := mX0_empty) (k := 2) dX0_empty_12 kF_X0_18 (by omega) rfl rfl (by decide) rfl rfl ?_
  refine g_aload_n (M := mX0_empty) dX0_empty_15 0 rfl rfl ?_
  refine h_iconst (M := mX0_empty) dX0_empty_16 ?_
  refine c_put (M := mX0_empty) (k := 3) dX0_empty_17 kF_X0_41 (by omega) rfl rfl (by decide) rfl rfl ?_
  refine g_aload_n (M := mX0_empty) dX0_empty_20 0 rfl rfl ?_
  refine h_iconst (M := mX0_empty) dX0_empty_21 ?_
  refine c_put (M := mX0_empty) (k := 4) dX0_empty_22 kF_X0_44 (by omega) rfl rfl (by decide) rfl rfl ?_
  refine g_aload_n (M := mX0_empty) dX0_empty_25 0 rfl rfl ?_
  refine h_iconst (M := mX0_empty) dX0_empty_26 ?_
  refine c_put (M := mX0_empty) (k := 5) dX0_empty_27 kF_X0_47 (by omega) rfl rfl (by decide) rfl rfl ?_
  have e := (Option.some.inj h)
  subst e
  exact g_vret (M := mX0_empty) dX0_empty_30 rfl (Nat.le_of_ble_eq_true rfl) (Nat.le_of_ble_eq_true rfl) ⟨rfl, rfl⟩
set_option maxHeartbeats 4000000 in
set_option maxRecDepth 100000 in
theorem wX0_isHit {X : zX} (hX : zOK X) {A : Nat → Nat} {n : Nat} {S : Nat → va_E} {qB : Nat} {VB : CV} (hB : isC X A shB qB VB S) (bB : qB + 6 < n) {a1 : Int} {a2 : Int} {a3 : Int} {res : Bool} (h : fX0_isHit VB a1 a2 a3 = some res) : Con X yX0_isHit mX0_isHit 2 0 0 [.ref (A qB), .int (iI a1), .int (iI a2), .int (iI a3)] (zWs A n S) (zRet (zWs A n S) (some (.int (iI (b2 res))))) := by
  refine con_of (lv := [(0, .ref (A qB)), (1, .int (iI a1)), (2, .int (iI a2)), (3, .int (iI a3))]) (by decide) rfl (fun h => by cases h) rfl (Nat.le_of_ble_eq_true rfl) rfl ?_
  unfold fX0_isHit at h
  refine g_aload_n (M := mX0_isHit) dX0_isHit_0 0 rfl rfl ?_
  refine g_iload_n (M := mX0_isHit) dX0_isHit_1 1 rfl rfl ?_
  refine g_iload_n (M := mX0_isHit) dX0_isHit_2 2 rfl rfl ?_
  obtain ⟨t1, u2, h⟩ := zbi h
  refine g_callVr (M := mX0_isHit) [.int (iI a1), .int (iI a2)] hX dX0_isHit_3 vX0_isPlace kM_X0_76 (wX0_isPlace hX hB (by omega)  u2) qB (zWs_at (by omega) (hB.o)) rfl ⟨(Nat.le_of_ble_eq_true rfl), (Nat.le_of_ble_eq_true rfl)⟩ ⟨(Nat.le_of_ble_eq_true rfl), (Nat.le_of_ble_eq_true rfl)⟩ (Nat.le_of_ble_eq_true rfl) ?_
  refine h_beq (M := mX0_isHit) (tgt := 34) dX0_isHit_6 (by decide) (fun c3 => ?_) (fun c3 => ?_)
  · have h := zfi (zbf c3) h
    refine h_iconst (M := mX0_isHit) dX0_isHit_34 ?_
    have e := (Option.some.inj h)
    subst e
    exact g_zret (M := mX0_isHit) .boolean dX0_isHit_35 rfl rfl (Nat.le_of_ble_eq_true rfl) (Nat.le_of_ble_eq_true rfl) ⟨rfl, rfl⟩
  · have h := zti c3 h
    refine g_aload_n (M := mX0_isHit) dX0_isHit_9 0 rfl rfl ?_
    refine g_iload_n (M := mX0_isHit) dX0_isHit_10 1 rfl rfl ?_
    refine g_iload_n (M := mX0_isHit) dX0_isHit_11 2 rfl rfl ?_
    obtain ⟨t4, u5, h⟩ := zbi h
    refine g_callVr (M := mX0_isHit) [.int (iI a1), .int (iI a2)] hX dX0_isHit_12 vX0_codeAt kM_X0_83 (wX0_codeAt hX hB (by omega)  u5) qB (zWs_at (by omega) (hB.o)) rfl ⟨(Nat.le_of_ble_eq_true rfl), (Nat.le_of_ble_eq_true rfl)⟩ ⟨(Nat.le_of_ble_eq_true rfl), (Nat.le_of_ble_eq_true rfl)⟩ (Nat.le_of_ble_eq_true rfl) ?_
    refine g_iload_n (M := mX0_isHit) dX0_isHit_15 3 rfl rfl ?_
    refine g_aload_n (M := mX0_isHit) dX0_isHit_16 0 rfl rfl ?_
    refine k_get (M := mX0_isHit) (v := .int (iI (VB.1 1))) dX0_isHit_17 kF_X0_15.r qB (by omega) (hB.o) rfl ?_
    obtain ⟨t6, u7, h⟩ := zbi h
    refine g_callSr (M := mX0_isHit) [.int (iI t4), .int (iI a3), .int (iI (VB.1 1))] hX dX0_isHit_20 vX0_differing kM_X0_86 (wX0_differing hX   u7) rfl ⟨(Nat.le_of_ble_eq_true rfl), (Nat.le_of_ble_eq_true rfl)⟩ ⟨(Nat.le_of_ble_eq_true rfl), (Nat.le_of_ble_eq_true rfl)⟩ (Nat.le_of_ble_eq_true rfl) ?_
    refine g_aload_n (M := mX0_isHit) dX0_isHit_23 0 rfl rfl ?_
    refine k_get (M := mX0_isHit) (v := .int (iI (VB.1 2))) dX0_isHit_24 kF_X0_18.r qB (by omega) (hB.o) rfl ?_
    obtain ⟨g9, h⟩ := zgi h
    refine h_icmp_gt (M := mX0_isHit) (tgt := 34) dX0_isHit_27 (by decide) g9.1 g9.2 (fun c8 => ?_) (fun c8 => ?_)
    · have h := zti c8 h
      refine h_iconst (M := mX0_isHit) dX0_isHit_34 ?_
      have e := (Option.some.inj h)
      subst e
      exact g_zret (M := mX0_isHit) .boolean dX0_isHit_35 rfl rfl (Nat.le_of_ble_eq_true rfl) (Nat.le_of_ble_eq_true rfl) ⟨rfl, rfl⟩
    · have h := zfi (Int.not_lt.mpr c8) h
      refine h_iconst (M := mX0_isHit) dX0_isHit_30 ?_
      refine g_goto (M := mX0_isHit) (tgt := 35) dX0_isHit_31 (by decide) ?_
      have e := (Option.some.inj h)
      subst e
      exact g_zret (M := mX0_isHit) .boolean dX0_isHit_35 rfl rfl (Nat.le_of_ble_eq_true rfl) (Nat.le_of_ble_eq_true rfl) ⟨rfl, rfl⟩
set_option maxHeartbeats 4000000 in
set_option maxRecDepth 100000 in
theorem wX0_hitNumber {X : zX} (hX : zOK X) {A : Nat → Nat} {n : Nat} {S : Nat → va_E} {qB : Nat} {VB : CV} (hB : isC X A shB qB VB S) (bB : qB + 6 < n) {a1 : Int} {a2 : Int} {res : Int} (h : fX0_hitNumber VB a1 a2 = some res) : Con X yX0_hitNumber mX0_hitNumber 3 0 0 [.ref (A qB), .int (iI a1), .int (iI a2)] (zWs A n S) (zRet (zWs A n S) (some (.int (iI res)))) := by
  refine con_of (lv := [(0, .ref (A qB)), (1, .int (iI a1)), (2, .int (iI a2))]) (by decide) rfl (fun h => by cases h) rfl (Nat.le_of_ble_eq_true rfl) rfl ?_
  unfold fX0_hitNumber at h
  refine h_iconst (M := mX0_hitNumber) dX0_hitNumber_0 ?_
  refine g_istore_n (M := mX0_hitNumber) (lv' := [(0, .ref (A qB)), (1, .int (iI a1)), (2, .int (iI a2)), (3, .int (iI 0))]) dX0_hitNumber_1 rfl (by decide) rfl ?_
  refine h_iconst (M := mX0_hitNumber) dX0_hitNumber_2 ?_
  refine g_istore (M := mX0_hitNumber) (lv' := [(0, .ref (A qB)), (1, .int (iI a1)), (2, .int (iI a2)), (3, .int (iI 0)), (4, .int (iI 0))]) dX0_hitNumber_3 (by decide) rfl ?_
  obtain ⟨x1, l1, h⟩ := zbi h
  have r1 : ∀ y1, .inl y1 = x1 → G X mX0_hitNumber (zPm X 3 0 0 (zRet (zWs A n S) (some (.int (iI res))))) 0 0 69 [] [] (zWs A n S) := by
    intro y1 ey
    rw [← ey] at h
    have h := zsl h
    refine h_iconst (M := mX0_hitNumber) dX0_hitNumber_69 ?_
    have e := (Option.some.inj h)
    subst e
    exact g_iret (M := mX0_hitNumber) dX0_hitNumber_70 rfl (Nat.le_of_ble_eq_true rfl) (Nat.le_of_ble_eq_true rfl) ⟨rfl, rfl⟩
  have q1 : ∀ r, .inr r = x1 → r = res := by
    intro r er
    rw [← er] at h
    exact Option.some.inj h
  refine zLp_J (J := fun s1 => G X mX0_hitNumber (zPm X 3 0 0 (zRet (zWs A n S) (some (.int (iI res))))) 0 0 5 [(0, .ref (A qB)), (1, .int (iI a1)), (2, .int (iI a2)), (3, .int (iI s1.1)), (4, .int (iI s1.2))] [] (zWs A n S)) (fun s1 w1 h1 b1 e1 => ?_) _ _ l1
  refine g_iload (M := mX0_hitNumber) dX0_hitNumber_5 4 rfl ?_
  refine g_aload_n (M := mX0_hitNumber) dX0_hitNumber_7 0 rfl rfl ?_
  refine k_get (M := mX0_hitNumber) (v := .int (iI (VB.1 3))) dX0_hitNumber_8 kF_X0_41.r qB (by omega) (hB.o) rfl ?_
  obtain ⟨g24, h1⟩ := zgi h1
  refine h_icmp_ge (M := mX0_hitNumber) (tgt := 69) dX0_hitNumber_11 (by decide) g24.1 g24.2 (fun c23 => ?_) (fun c23 => ?_)
  · have h1 := zti c23 h1
    refine g_lv (M := mX0_hitNumber) [] rfl ?_
    exact r1 _ (e1 _ (Option.some.inj h1).symm)
  · have h1 := zfi (Int.not_le.mpr c23) h1
    refine h_iconst (M := mX0_hitNumber) dX0_hitNumber_14 ?_
    refine g_istore (M := mX0_hitNumber) (lv' := [(0, .ref (A qB)), (1, .int (iI a1)), (2, .int (iI a2)), (3, .int (iI s1.1)), (4, .int (iI s1.2)), (5, .int (iI 0))]) dX0_hitNumber_15 (by decide) rfl ?_
    obtain ⟨x25, l25, h1⟩ := zbi h1
    have r25 : ∀ y25, .inl y25 = x25 → G X mX0_hitNumber (zPm X 3 0 0 (zRet (zWs A n S) (some (.int (iI res))))) 0 0 63 [(0, .ref (A qB)), (1, .int (iI a1)), (2, .int (iI a2)), (3, .int (iI y25.1)), (4, .int (iI s1.2))] [] (zWs A n S) := by
      intro y25 ey
      rw [← ey] at h1
      have h1 := zsl h1
      refine h_iinc (M := mX0_hitNumber) (j := 4) (lv' := [(0, .ref (A qB)), (1, .int (iI a1)), (2, .int (iI a2)), (3, .int (iI y25.1)), (4, .int (iI (s1.2 + 1)))]) dX0_hitNumber_63 rfl (Nat.le_of_ble_eq_true rfl) rfl ?_
      refine g_goto (M := mX0_hitNumber) (tgt := 5) dX0_hitNumber_66 (by decide) ?_
      exact b1 _ (Option.some.inj h1).symm
    have q25 : ∀ r, .inr r = x25 → r = w1 := by
      intro r er
      rw [← er] at h1
      exact Option.some.inj h1
    refine zLp_J (J := fun s25 => G X mX0_hitNumber (zPm X 3 0 0 (zRet (zWs A n S) (some (.int (iI res))))) 0 0 17 [(0, .ref (A qB)), (1, .int (iI a1)), (2, .int (iI a2)), (3, .int (iI s25.1)), (4, .int (iI s1.2)), (5, .int (iI s25.2))] [] (zWs A n S)) (fun s25 w25 h25 b25 e25 => ?_) _ _ l25
    refine g_iload (M := mX0_hitNumber) dX0_hitNumber_17 5 rfl ?_
    refine g_aload_n (M := mX0_hitNumber) dX0_hitNumber_19 0 rfl rfl ?_
    refine g_iload (M := mX0_hitNumber) dX0_hitNumber_20 4 rfl ?_
    obtain ⟨t35, u36, h25⟩ := zbi h25
    refine g_callVr (M := mX0_hitNumber) [.int (iI s1.2)] hX dX0_hitNumber_22 vX0_lastStart kM_X0_66 (wX0_lastStart hX hB (by omega)  u36) qB (zWs_at (by omega) (hB.o)) rfl ⟨(Nat.le_of_ble_eq_true rfl), (Nat.le_of_ble_eq_true rfl)⟩ ⟨(Nat.le_of_ble_eq_true rfl), (Nat.le_of_ble_eq_true rfl)⟩ (Nat.le_of_ble_eq_true rfl) ?_
    obtain ⟨g38, h25⟩ := zgi h25
    refine h_icmp_gt (M := mX0_hitNumber) (tgt := 63) dX0_hitNumber_25 (by decide) g38.1 g38.2 (fun c37 => ?_) (fun c37 => ?_)
    · have h25 := zti c37 h25
      refine g_lv (M := mX0_hitNumber) [0, 1, 2, 3, 4] rfl ?_
      exact r25 _ (e25 _ (Option.some.inj h25).symm)
    · have h25 := zfi (Int.not_lt.mpr c37) h25
      refine g_aload_n (M := mX0_hitNumber) dX0_hitNumber_28 0 rfl rfl ?_
      refine g_iload (M := mX0_hitNumber) dX0_hitNumber_29 4 rfl ?_
      refine g_iload (M := mX0_hitNumber) dX0_hitNumber_31 5 rfl ?_
      refine g_iload_n (M := mX0_hitNumber) dX0_hitNumber_33 1 rfl rfl ?_
      obtain ⟨t39, u40, h25⟩ := zbi h25
      refine g_callVr (M := mX0_hitNumber) [.int (iI s1.2), .int (iI s25.2), .int (iI a1)] hX dX0_hitNumber_34 vX0_isHit kM_X0_96 (wX0_isHit hX hB (by omega)  u40) qB (zWs_at (by omega) (hB.o)) rfl ⟨(Nat.le_of_ble_eq_true rfl), (Nat.le_of_ble_eq_true rfl)⟩ ⟨(Nat.le_of_ble_eq_true rfl), (Nat.le_of_ble_eq_true rfl)⟩ (Nat.le_of_ble_eq_true rfl) ?_
      refine h_beq (M := mX0_hitNumber) (tgt := 57) dX0_hitNumber_37 (by decide) (fun c41 => ?_) (fun c41 => ?_)
      · have h25 := zfi (zbf c41) h25
        refine h_iinc (M := mX0_hitNumber) (j := 5) (lv' := [(0, .ref (A qB)), (1, .int (iI a1)), (2, .int (iI a2)), (3, .int (iI s25.1)), (4, .int (iI s1.2)), (5, .int (iI (s25.2 + 1)))]) dX0_hitNumber_57 rfl (Nat.le_of_ble_eq_true rfl) rfl ?_
        refine g_goto (M := mX0_hitNumber) (tgt := 17) dX0_hitNumber_60 (by decide) ?_
        exact b25 _ (Option.some.inj h25).symm
      · have h25 := zti c41 h25
        refine g_iload_n (M := mX0_hitNumber) dX0_hitNumber_40 3 rfl rfl ?_
        refine g_iload_n (M := mX0_hitNumber) dX0_hitNumber_41 2 rfl rfl ?_
        obtain ⟨g43, h25⟩ := zgi h25
        refine h_icmp_ne (M := mX0_hitNumber) (tgt := 54) dX0_hitNumber_42 (by decide) g43.1 g43.2 (fun c42 => ?_) (fun c42 => ?_)
        · have h25 := zfi c42 h25
          refine h_iinc (M := mX0_hitNumber) (j := 3) (lv' := [(0, .ref (A qB)), (1, .int (iI a1)), (2, .int (iI a2)), (3, .int (iI (s25.1 + 1))), (4, .int (iI s1.2)), (5, .int (iI s25.2))]) dX0_hitNumber_54 rfl (Nat.le_of_ble_eq_true rfl) rfl ?_
          refine h_iinc (M := mX0_hitNumber) (j := 5) (lv' := [(0, .ref (A qB)), (1, .int (iI a1)), (2, .int (iI a2)), (3, .int (iI (s25.1 + 1))), (4, .int (iI s1.2)), (5, .int (iI (s25.2 + 1)))]) dX0_hitNumber_57 rfl (Nat.le_of_ble_eq_true rfl) rfl ?_
          refine g_goto (M := mX0_hitNumber) (tgt := 17) dX0_hitNumber_60 (by decide) ?_
          exact b25 _ (Option.some.inj h25).symm
        · have h25 := zti c42 h25
          refine h_bipush (M := mX0_hitNumber) dX0_hitNumber_45 rfl ?_
          refine g_iload (M := mX0_hitNumber) dX0_hitNumber_47 4 rfl ?_
          refine h_imul (M := mX0_hitNumber) dX0_hitNumber_49 ?_
          refine g_iload (M := mX0_hitNumber) dX0_hitNumber_50 5 rfl ?_
          refine h_iadd (M := mX0_hitNumber) dX0_hitNumber_52 ?_
          have e := (q1 _ (e1 _ (q25 _ (e25 _ (Option.some.inj h25).symm)).symm))
          subst e
          exact g_iret (M := mX0_hitNumber) dX0_hitNumber_53 rfl (Nat.le_of_ble_eq_true rfl) (Nat.le_of_ble_eq_true rfl) ⟨rfl, rfl⟩
set_option maxHeartbeats 4000000 in
set_option maxRecDepth 100000 in
theorem wX0_letterAt {X : zX} (hX : zOK X) {A : Nat → Nat} {n : Nat} {S : Nat → va_E} {qB : Nat} {VB : CV} (hB : isC X A shB qB VB S) (bB : qB + 6 < n) {a1 : Int} {a2 : Int} {res : Int} (h : fX0_letterAt VB a1 a2 = some res) : Con X yX0_letterAt mX0_letterAt 0 0 0 [.ref (A qB), .int (iI a1), .int (iI a2)] (zWs A n S) (zRet (zWs A n S) (some (.int (iI res)))) := by
  refine con_of (lv := [(0, .ref (A qB)), (1, .int (iI a1)), (2, .int (iI a2))]) (by decide) rfl (fun h => by cases h) rfl (Nat.le_of_ble_eq_true rfl) rfl ?_
  unfold fX0_letterAt at h
  refine g_aload_n (M := mX0_letterAt) dX0_letterAt_0 0 rfl rfl ?_
  refine k_get (M := mX0_letterAt) (v := .ref (A (qB + 2))) dX0_letterAt_1 kF_X0_25.r qB (by omega) (hB.o) rfl ?_
  refine g_iload_n (M := mX0_letterAt) dX0_letterAt_4 1 rfl rfl ?_
  obtain ⟨g1, h⟩ := zgi h
  refine k_lald (M := mX0_letterAt) (len := 10) (f := VB.2 2) dX0_letterAt_5 (qB + 2) (by omega) (hB.a (d := (1, 10)) 1 rfl) (Nat.le_of_ble_eq_true rfl) g1.1 g1.2 ?_
  refine h_iconst (M := mX0_letterAt) dX0_letterAt_6 ?_
  refine g_iload_n (M := mX0_letterAt) dX0_letterAt_7 2 rfl rfl ?_
  refine h_imul (M := mX0_letterAt) dX0_letterAt_8 ?_
  obtain ⟨g2, h⟩ := zgi h
  refine g_lushr (M := mX0_letterAt) dX0_letterAt_9 rfl ?_
  refine h_topl (M := mX0_letterAt) (b := (VB.2 2 a1) / zP2 (2 * a2)) (iL_ushr g2.1.1 g2.1.2 g2.2.1 g2.2.2) ?_
  obtain ⟨g3, h⟩ := zgi h
  refine g_l2i (M := mX0_letterAt) dX0_letterAt_10 rfl ?_
  refine h_topx (M := mX0_letterAt) (b := (VB.2 2 a1) / zP2 (2 * a2)) (iL_i g3) ?_
  refine h_iconst (M := mX0_letterAt) dX0_letterAt_11 ?_
  refine g_iand (M := mX0_letterAt) dX0_letterAt_12 ?_
  refine h_topx (M := mX0_letterAt) (b := ((VB.2 2 a1) / zP2 (2 * a2)) % 4) (iI_mask _ 2 (by decide)) ?_
  have e := (Option.some.inj h)
  subst e
  exact g_iret (M := mX0_letterAt) dX0_letterAt_13 rfl (Nat.le_of_ble_eq_true rfl) (Nat.le_of_ble_eq_true rfl) ⟨rfl, rfl⟩
set_option maxHeartbeats 4000000 in
set_option maxRecDepth 100000 in
theorem wX0_letterOf {X : zX} (hX : zOK X) {A : Nat → Nat} {n : Nat} {S : Nat → va_E} {a1 : Int} {a2 : Int} {res : Int} (h : fX0_letterOf a1 a2 = some res) : Con X yX0_letterOf mX0_letterOf 0 0 0 [.int (iI a1), .int (iI a2)] (zWs A n S) (zRet (zWs A n S) (some (.int (iI res)))) := by
  refine con_of (lv := [(0, .int (iI a1)), (1, .int (iI a2))]) (by decide) rfl (fun h => by cases h) rfl (Nat.le_of_ble_eq_true rfl) rfl ?_
  unfold fX0_letterOf at h
  refine g_iload_n (M := mX0_letterOf) dX0_letterOf_0 0 rfl rfl ?_
  refine h_iconst (M := mX0_letterOf) dX0_letterOf_1 ?_
  refine g_iload_n (M := mX0_letterOf) dX0_letterOf_2 1 rfl rfl ?_
  refine h_imul (M := mX0_letterOf) dX0_letterOf_3 ?_
  obtain ⟨g1, h⟩ := zgi h
  refine g_iushr (M := mX0_letterOf) dX0_letterOf_4 rfl ?_
  refine h_topx (M := mX0_letterOf) (b := a1 / zP2 (2 * a2)) (iI_ushr g1.1.1 g1.1.2 g1.2.1 g1.2.2) ?_
  refine h_iconst (M := mX0_letterOf) dX0_letterOf_5 ?_
  refine g_iand (M := mX0_letterOf) dX0_letterOf_6 ?_
  refine h_topx (M := mX0_letterOf) (b := (a1 / zP2 (2 * a2)) % 4) (iI_mask _ 2 (by decide)) ?_
  have e := (Option.some.inj h)
  subst e
  exact g_iret (M := mX0_letterOf) dX0_letterOf_7 rfl (Nat.le_of_ble_eq_true rfl) (Nat.le_of_ble_eq_true rfl) ⟨rfl, rfl⟩
set_option maxHeartbeats 4000000 in
set_option maxRecDepth 100000 in
theorem wX0_reasonAgainst {X : zX} (hX : zOK X) {A : Nat → Nat} {n : Nat} {S : Nat → va_E} {qB : Nat} {VB : CV} (hB : isC X A shB qB VB S) (bB : qB + 6 < n) {a1 : Int} {res : Int} (h : fX0_reasonAgainst VB a1 = some res) : Con X yX0_reasonAgainst mX0_reasonAgainst 4 0 0 [.ref (A qB), .int (iI a1)] (zWs A n S) (zRet (zWs A n S) (some (.int (iI res)))) := by
  refine con_of (lv := [(0, .ref (A qB)), (1, .int (iI a1))]) (by decide) rfl (fun h => by cases h) rfl (Nat.le_of_ble_eq_true rfl) rfl ?_
  unfold fX0_reasonAgainst at h
  refine g_aload_n (M := mX0_reasonAgainst) dX0_reasonAgainst_0 0 rfl rfl ?_
  refine k_get (M := mX0_reasonAgainst) (v := .int (iI (VB.1 5))) dX0_reasonAgainst_1 kF_X0_47.r qB (by omega) (hB.o) rfl ?_
  refine h_bipush (M := mX0_reasonAgainst) dX0_reasonAgainst_4 rfl ?_
  obtain ⟨g2, h⟩ := zgi h
  refine h_icmp_lt (M := mX0_reasonAgainst) (tgt := 11) dX0_reasonAgainst_6 (by decide) g2 (by decide) (fun c1 => ?_) (fun c1 => ?_)
  · have h := zti c1 h
    refine g_aload_n (M := mX0_reasonAgainst) dX0_reasonAgainst_11 0 rfl rfl ?_
    refine g_aload_n (M := mX0_reasonAgainst) dX0_reasonAgainst_12 0 rfl rfl ?_
    refine g_iload_n (M := mX0_reasonAgainst) dX0_reasonAgainst_13 1 rfl rfl ?_
    obtain ⟨t3, u4, h⟩ := zbi h
    refine g_callVr (M := mX0_reasonAgainst) [.int (iI a1)] hX dX0_reasonAgainst_14 vX0_codeOf kM_X0_100 (wX0_codeOf hX hB (by omega)  u4) qB (zWs_at (by omega) (hB.o)) rfl ⟨(Nat.le_of_ble_eq_true rfl), (Nat.le_of_ble_eq_true rfl)⟩ ⟨(Nat.le_of_ble_eq_true rfl), (Nat.le_of_ble_eq_true rfl)⟩ (Nat.le_of_ble_eq_true rfl) ?_
    obtain ⟨t5, u6, h⟩ := zbi h
    refine g_callVr (M := mX0_reasonAgainst) [.int (iI t3)] hX dX0_reasonAgainst_17 vX0_rowsHaving kM_X0_103 (wX0_rowsHaving hX hB (by omega)  u6) qB (zWs_at (by omega) (hB.o)) rfl ⟨(Nat.le_of_ble_eq_true rfl), (Nat.le_of_ble_eq_true rfl)⟩ ⟨(Nat.le_of_ble_eq_true rfl), (Nat.le_of_ble_eq_true rfl)⟩ (Nat.le_of_ble_eq_true rfl) ?_
    obtain ⟨g8, h⟩ := zgi h
    refine h_if_ne (M := mX0_reasonAgainst) (tgt := 27) dX0_reasonAgainst_20 (by decide) g8 (fun c7 => ?_) (fun c7 => ?_)
    · have h := zfi c7 h
      refine h_iconst (M := mX0_reasonAgainst) dX0_reasonAgainst_27 ?_
      have e := (Option.some.inj h)
      subst e
      exact g_iret (M := mX0_reasonAgainst) dX0_reasonAgainst_28 rfl (Nat.le_of_ble_eq_true rfl) (Nat.le_of_ble_eq_true rfl) ⟨rfl, rfl⟩
    · have h := zti c7 h
      refine h_iconst (M := mX0_reasonAgainst) dX0_reasonAgainst_23 ?_
      refine g_goto (M := mX0_reasonAgainst) (tgt := 28) dX0_reasonAgainst_24 (by decide) ?_
      have e := (Option.some.inj h)
      subst e
      exact g_iret (M := mX0_reasonAgainst) dX0_reasonAgainst_28 rfl (Nat.le_of_ble_eq_true rfl) (Nat.le_of_ble_eq_true rfl) ⟨rfl, rfl⟩
  · have h := zfi (Int.not_lt.mpr c1) h
    refine h_iconst (M := mX0_reasonAgainst) dX0_reasonAgainst_9 ?_
    have e := (Option.some.inj h)
    subst e
    exact g_iret (M := mX0_reasonAgainst) dX0_reasonAgainst_10 rfl (Nat.le_of_ble_eq_true rfl) (Nat.le_of_ble_eq_true rfl) ⟨rfl, rfl⟩
set_option maxHeartbeats 4000000 in
set_option maxRecDepth 100000 in
theorem wX0_rowNamed {X : zX} (hX : zOK X) {A : Nat → Nat} {n : Nat} {S : Nat → va_E} {qB : Nat} {VB : CV} (hB : isC X A shB qB VB S) (bB : qB + 6 < n) {a1 : Int} {res : Int} (h : fX0_rowNamed VB a1 = some res) : Con X yX0_rowNamed mX0_rowNamed 0 0 0 [.ref (A qB), .long (iL a1)] (zWs A n S) (zRet (zWs A n S) (some (.int (iI res)))) := by
  refine con_of (lv := [(0, .ref (A qB)), (1, .long (iL a1))]) (by decide) rfl (fun h => by cases h) rfl (Nat.le_of_ble_eq_true rfl) rfl ?_
  unfold fX0_rowNamed at h
  refine h_iconst (M := mX0_rowNamed) dX0_rowNamed_0 ?_
  refine g_istore_n (M := mX0_rowNamed) (lv' := [(0, .ref (A qB)), (1, .long (iL a1)), (3, .int (iI 0))]) dX0_rowNamed_1 rfl (by decide) rfl ?_
  obtain ⟨x1, l1, h⟩ := zbi h
  have r1 : ∀ y1, .inl y1 = x1 → G X mX0_rowNamed (zPm X 0 0 0 (zRet (zWs A n S) (some (.int (iI res))))) 0 0 29 [] [] (zWs A n S) := by
    intro y1 ey
    rw [← ey] at h
    have h := zsl h
    refine h_iconst (M := mX0_rowNamed) dX0_rowNamed_29 ?_
    have e := (Option.some.inj h)
    subst e
    exact g_iret (M := mX0_rowNamed) dX0_rowNamed_30 rfl (Nat.le_of_ble_eq_true rfl) (Nat.le_of_ble_eq_true rfl) ⟨rfl, rfl⟩
  have q1 : ∀ r, .inr r = x1 → r = res := by
    intro r er
    rw [← er] at h
    exact Option.some.inj h
  refine zLp_J (J := fun s1 => G X mX0_rowNamed (zPm X 0 0 0 (zRet (zWs A n S) (some (.int (iI res))))) 0 0 2 [(0, .ref (A qB)), (1, .long (iL a1)), (3, .int (iI s1))] [] (zWs A n S)) (fun s1 w1 h1 b1 e1 => ?_) _ _ l1
  refine g_iload_n (M := mX0_rowNamed) dX0_rowNamed_2 2 rfl rfl ?_
  refine g_aload_n (M := mX0_rowNamed) dX0_rowNamed_3 0 rfl rfl ?_
  refine k_get (M := mX0_rowNamed) (v := .int (iI (VB.1 3))) dX0_rowNamed_4 kF_X0_41.r qB (by omega) (hB.o) rfl ?_
  obtain ⟨g8, h1⟩ := zgi h1
  refine h_icmp_ge (M := mX0_rowNamed) (tgt := 29) dX0_rowNamed_7 (by decide) g8.1 g8.2 (fun c7 => ?_) (fun c7 => ?_)
  · have h1 := zti c7 h1
    refine g_lv (M := mX0_rowNamed) [] rfl ?_
    exact r1 _ (e1 _ (Option.some.inj h1).symm)
  · have h1 := zfi (Int.not_le.mpr c7) h1
    refine g_aload_n (M := mX0_rowNamed) dX0_rowNamed_10 0 rfl rfl ?_
    refine k_get (M := mX0_rowNamed) (v := .ref (A (qB + 1))) dX0_rowNamed_11 kF_X0_21.r qB (by omega) (hB.o) rfl ?_
    refine g_iload_n (M := mX0_rowNamed) dX0_rowNamed_14 2 rfl rfl ?_
    obtain ⟨g9, h1⟩ := zgi h1
    refine k_lald (M := mX0_rowNamed) (len := 10) (f := VB.2 1) dX0_rowNamed_15 (qB + 1) (by omega) (hB.a (d := (1, 10)) 0 rfl) (Nat.le_of_ble_eq_true rfl) g9.1 g9.2 ?_
    refine g_lload_n (M := mX0_rowNamed) dX0_rowNamed_16 1 rfl rfl ?_
    obtain ⟨g10, h1⟩ := zgi h1
    refine g_lcmp (M := mX0_rowNamed) dX0_rowNamed_17 ?_
    refine h_topx (M := mX0_rowNamed) (b := zCmp (VB.2 1 s1) a1) (lg_cmp_i g10.1 g10.2) ?_
    refine h_if_ne (M := mX0_rowNamed) (tgt := 23) dX0_rowNamed_18 (by decide) (zCmp_r _ _) (fun c11 => ?_) (fun c11 => ?_)
    · have h1 := zfi c11 h1
      refine h_iinc (M := mX0_rowNamed) (j := 2) (lv' := [(0, .ref (A qB)), (1, .long (iL a1)), (3, .int (iI (s1 + 1)))]) dX0_rowNamed_23 rfl (Nat.le_of_ble_eq_true rfl) rfl ?_
      refine g_goto (M := mX0_rowNamed) (tgt := 2) dX0_rowNamed_26 (by decide) ?_
      exact b1 _ (Option.some.inj h1).symm
    · have h1 := zti c11 h1
      refine g_iload_n (M := mX0_rowNamed) dX0_rowNamed_21 2 rfl rfl ?_
      have e := (q1 _ (e1 _ (Option.some.inj h1).symm))
      subst e
      exact g_iret (M := mX0_rowNamed) dX0_rowNamed_22 rfl (Nat.le_of_ble_eq_true rfl) (Nat.le_of_ble_eq_true rfl) ⟨rfl, rfl⟩
set_option maxHeartbeats 4000000 in
set_option maxRecDepth 100000 in
theorem wX0_signOfName {X : zX} (hX : zOK X) {A : Nat → Nat} {n : Nat} {S : Nat → va_E} {a1 : Int} {a2 : Int} {res : Int} (h : fX0_signOfName a1 a2 = some res) : Con X yX0_signOfName mX0_signOfName 0 0 0 [.long (iL a1), .int (iI a2)] (zWs A n S) (zRet (zWs A n S) (some (.int (iI res)))) := by
  refine con_of (lv := [(0, .long (iL a1)), (2, .int (iI a2))]) (by decide) rfl (fun h => by cases h) rfl (Nat.le_of_ble_eq_true rfl) rfl ?_
  unfold fX0_signOfName at h
  refine g_lload_n (M := mX0_signOfName) dX0_signOfName_0 0 rfl rfl ?_
  refine h_bipush (M := mX0_signOfName) dX0_signOfName_1 rfl ?_
  refine g_iload_n (M := mX0_signOfName) dX0_signOfName_3 1 rfl rfl ?_
  refine h_imul (M := mX0_signOfName) dX0_signOfName_4 ?_
  obtain ⟨g1, h⟩ := zgi h
  refine g_lushr (M := mX0_signOfName) dX0_signOfName_5 rfl ?_
  refine h_topl (M := mX0_signOfName) (b := a1 / zP2 (8 * a2)) (iL_ushr g1.1.1 g1.1.2 g1.2.1 g1.2.2) ?_
  obtain ⟨g2, h⟩ := zgi h
  refine g_l2i (M := mX0_signOfName) dX0_signOfName_6 rfl ?_
  refine h_topx (M := mX0_signOfName) (b := a1 / zP2 (8 * a2)) (iL_i g2) ?_
  refine h_sipush (M := mX0_signOfName) dX0_signOfName_7 rfl ?_
  refine g_iand (M := mX0_signOfName) dX0_signOfName_10 ?_
  refine h_topx (M := mX0_signOfName) (b := (a1 / zP2 (8 * a2)) % 256) (iI_mask _ 8 (by decide)) ?_
  have e := (Option.some.inj h)
  subst e
  exact g_iret (M := mX0_signOfName) dX0_signOfName_11 rfl (Nat.le_of_ble_eq_true rfl) (Nat.le_of_ble_eq_true rfl) ⟨rfl, rfl⟩
set_option maxHeartbeats 4000000 in
set_option maxRecDepth 100000 in
theorem wX0_withLetter {X : zX} (hX : zOK X) {A : Nat → Nat} {n : Nat} {S : Nat → va_E} {a1 : Int} {a2 : Int} {a3 : Int} {res : Int} (h : fX0_withLetter a1 a2 a3 = some res) : Con X yX0_withLetter mX0_withLetter 0 0 0 [.long (iL a1), .int (iI a2), .int (iI a3)] (zWs A n S) (zRet (zWs A n S) (some (.long (iL res)))) := by
  refine con_of (lv := [(0, .long (iL a1)), (2, .int (iI a2)), (3, .int (iI a3))]) (by decide) rfl (fun h => by cases h) rfl (Nat.le_of_ble_eq_true rfl) rfl ?_
  unfold fX0_withLetter at h
  refine g_lload_n (M := mX0_withLetter) dX0_withLetter_0 0 rfl rfl ?_
  refine g_iload_n (M := mX0_withLetter) dX0_withLetter_1 2 rfl rfl ?_
  obtain ⟨g1, h⟩ := zgi h
  refine h_i2l (M := mX0_withLetter) dX0_withLetter_2 g1 ?_
  refine h_iconst (M := mX0_withLetter) dX0_withLetter_3 ?_
  refine g_iload_n (M := mX0_withLetter) dX0_withLetter_4 1 rfl rfl ?_
  refine h_imul (M := mX0_withLetter) dX0_withLetter_5 ?_
  obtain ⟨g2, h⟩ := zgi h
  refine g_lshl (M := mX0_withLetter) dX0_withLetter_6 rfl ?_
  refine h_topl (M := mX0_withLetter) (b := a3 * zP2 (2 * a2)) (iL_shl g2.1 g2.2) ?_
  obtain ⟨g3, h⟩ := zgi h
  refine g_lor (M := mX0_withLetter) dX0_withLetter_7 ?_
  refine h_topl (M := mX0_withLetter) (b := zOr a1 (a3 * zP2 (2 * a2))) (iL_or g3.1 g3.2) ?_
  have e := (Option.some.inj h)
  subst e
  exact g_lret (M := mX0_withLetter) dX0_withLetter_8 rfl (Nat.le_of_ble_eq_true rfl) (Nat.le_of_ble_eq_true rfl) ⟨rfl, rfl⟩
set_option maxHeartbeats 4000000 in
set_option maxRecDepth 100000 in
theorem wX0_withSign {X : zX} (hX : zOK X) {A : Nat → Nat} {n : Nat} {S : Nat → va_E} {a1 : Int} {a2 : Int} {a3 : Int} {res : Int} (h : fX0_withSign a1 a2 a3 = some res) : Con X yX0_withSign mX0_withSign 0 0 0 [.long (iL a1), .int (iI a2), .int (iI a3)] (zWs A n S) (zRet (zWs A n S) (some (.long (iL res)))) := by
  refine con_of (lv := [(0, .long (iL a1)), (2, .int (iI a2)), (3, .int (iI a3))]) (by decide) rfl (fun h => by cases h) rfl (Nat.le_of_ble_eq_true rfl) rfl ?_
  unfold fX0_withSign at h
  refine g_lload_n (M := mX0_withSign) dX0_withSign_0 0 rfl rfl ?_
  refine g_iload_n (M := mX0_withSign) dX0_withSign_1 2 rfl rfl ?_
  obtain ⟨g1, h⟩ := zgi h
  refine h_i2l (M := mX0_withSign) dX0_withSign_2 g1 ?_
  refine h_bipush (M := mX0_withSign) dX0_withSign_3 rfl ?_
  refine g_iload_n (M := mX0_withSign) dX0_withSign_5 1 rfl rfl ?_
  refine h_imul (M := mX0_withSign) dX0_withSign_6 ?_
  obtain ⟨g2, h⟩ := zgi h
  refine g_lshl (M := mX0_withSign) dX0_withSign_7 rfl ?_
  refine h_topl (M := mX0_withSign) (b := a3 * zP2 (8 * a2)) (iL_shl g2.1 g2.2) ?_
  obtain ⟨g3, h⟩ := zgi h
  refine g_lor (M := mX0_withSign) dX0_withSign_8 ?_
  refine h_topl (M := mX0_withSign) (b := zOr a1 (a3 * zP2 (8 * a2))) (iL_or g3.1 g3.2) ?_
  have e := (Option.some.inj h)
  subst e
  exact g_lret (M := mX0_withSign) dX0_withSign_9 rfl (Nat.le_of_ble_eq_true rfl) (Nat.le_of_ble_eq_true rfl) ⟨rfl, rfl⟩
set_option maxHeartbeats 4000000 in
set_option maxRecDepth 100000 in
theorem wX0_wordCount {X : zX} (hX : zOK X) {A : Nat → Nat} {n : Nat} {S : Nat → va_E} {qB : Nat} {VB : CV} (hB : isC X A shB qB VB S) (bB : qB + 6 < n) {res : Int} (h : fX0_wordCount VB = some res) : Con X yX0_wordCount mX0_wordCount 0 0 0 [.ref (A qB)] (zWs A n S) (zRet (zWs A n S) (some (.int (iI res)))) := by
  refine con_of (lv := [(0, .ref (A qB))]) (by decide) rfl (fun h => by cases h) rfl (Nat.le_of_ble_eq_true rfl) rfl ?_
  unfold fX0_wordCount at h
  refine h_iconst (M := mX0_wordCount) dX0_wordCount_0 ?_
  refine g_istore_n (M := mX0_wordCount) (lv' := [(0, .ref (A qB)), (1, .int (iI 1))]) dX0_wordCount_1 rfl (by decide) rfl ?_
  refine h_iconst (M := mX0_wordCount) dX0_wordCount_2 ?_
  refine g_istore_n (M := mX0_wordCount) (lv' := [(0, .ref (A qB)), (1, .int (iI 1)), (2, .int (iI 0))]) dX0_wordCount_3 rfl (by decide) rfl ?_
  obtain ⟨x1, l1, h⟩ := zbi h
  have r1 : ∀ y1, y1 = x1 → G X mX0_wordCount (zPm X 0 0 0 (zRet (zWs A n S) (some (.int (iI res))))) 0 0 25 [(1, .int (iI y1.1))] [] (zWs A n S) := by
    intro y1 ey
    rw [← ey] at h
    refine g_iload_n (M := mX0_wordCount) dX0_wordCount_25 0 rfl rfl ?_
    have e := (Option.some.inj h)
    subst e
    exact g_iret (M := mX0_wordCount) dX0_wordCount_26 rfl (Nat.le_of_ble_eq_true rfl) (Nat.le_of_ble_eq_true rfl) ⟨rfl, rfl⟩
  refine zLp_J (J := fun s1 => G X mX0_wordCount (zPm X 0 0 0 (zRet (zWs A n S) (some (.int (iI res))))) 0 0 4 [(0, .ref (A qB)), (1, .int (iI s1.1)), (2, .int (iI s1.2))] [] (zWs A n S)) (fun s1 w1 h1 b1 e1 => ?_) _ _ l1
  refine g_iload_n (M := mX0_wordCount) dX0_wordCount_4 2 rfl rfl ?_
  refine g_aload_n (M := mX0_wordCount) dX0_wordCount_5 0 rfl rfl ?_
  refine k_get (M := mX0_wordCount) (v := .int (iI (VB.1 1))) dX0_wordCount_6 kF_X0_15.r qB (by omega) (hB.o) rfl ?_
  obtain ⟨g5, h1⟩ := zgi h1
  refine h_icmp_ge (M := mX0_wordCount) (tgt := 25) dX0_wordCount_9 (by decide) g5.1 g5.2 (fun c4 => ?_) (fun c4 => ?_)
  · have h1 := zti c4 h1
    refine g_lv (M := mX0_wordCount) [1] rfl ?_
    exact r1 _ (e1 _ (Option.some.inj h1).symm)
  · have h1 := zfi (Int.not_le.mpr c4) h1
    refine g_iload_n (M := mX0_wordCount) dX0_wordCount_12 1 rfl rfl ?_
    refine g_aload_n (M := mX0_wordCount) dX0_wordCount_13 0 rfl rfl ?_
    refine k_get (M := mX0_wordCount) (v := .int (iI (VB.1 0))) dX0_wordCount_14 kF_X0_9.r qB (by omega) (hB.o) rfl ?_
    refine h_imul (M := mX0_wordCount) dX0_wordCount_17 ?_
    refine g_istore_n (M := mX0_wordCount) (lv' := [(0, .ref (A qB)), (1, .int (iI (s1.1 * (VB.1 0)))), (2, .int (iI s1.2))]) dX0_wordCount_18 rfl (by decide) rfl ?_
    refine h_iinc (M := mX0_wordCount) (j := 2) (lv' := [(0, .ref (A qB)), (1, .int (iI (s1.1 * (VB.1 0)))), (2, .int (iI (s1.2 + 1)))]) dX0_wordCount_19 rfl (Nat.le_of_ble_eq_true rfl) rfl ?_
    refine g_goto (M := mX0_wordCount) (tgt := 4) dX0_wordCount_22 (by decide) ?_
    exact b1 _ (Option.some.inj h1).symm
set_option maxHeartbeats 4000000 in
set_option maxRecDepth 100000 in
theorem wX0_wordOf {X : zX} (hX : zOK X) {A : Nat → Nat} {n : Nat} {S : Nat → va_E} {qB : Nat} {VB : CV} (hB : isC X A shB qB VB S) (bB : qB + 6 < n) {a1 : Int} {res : Int} (h : fX0_wordOf VB a1 = some res) : Con X yX0_wordOf mX0_wordOf 1 0 0 [.ref (A qB), .int (iI a1)] (zWs A n S) (zRet (zWs A n S) (some (.int (iI res)))) := by
  refine con_of (lv := [(0, .ref (A qB)), (1, .int (iI a1))]) (by decide) rfl (fun h => by cases h) rfl (Nat.le_of_ble_eq_true rfl) rfl ?_
  unfold fX0_wordOf at h
  refine h_iconst (M := mX0_wordOf) dX0_wordOf_0 ?_
  refine g_istore_n (M := mX0_wordOf) (lv' := [(0, .ref (A qB)), (1, .int (iI a1)), (2, .int (iI 0))]) dX0_wordOf_1 rfl (by decide) rfl ?_
  refine h_iconst (M := mX0_wordOf) dX0_wordOf_2 ?_
  refine g_istore_n (M := mX0_wordOf) (lv' := [(0, .ref (A qB)), (1, .int (iI a1)), (2, .int (iI 0)), (3, .int (iI 0))]) dX0_wordOf_3 rfl (by decide) rfl ?_
  obtain ⟨x1, l1, h⟩ := zbi h
  have r1 : ∀ y1, y1 = x1 → G X mX0_wordOf (zPm X 1 0 0 (zRet (zWs A n S) (some (.int (iI res))))) 0 0 31 [(2, .int (iI y1.1))] [] (zWs A n S) := by
    intro y1 ey
    rw [← ey] at h
    refine g_iload_n (M := mX0_wordOf) dX0_wordOf_31 0 rfl rfl ?_
    have e := (Option.some.inj h)
    subst e
    exact g_iret (M := mX0_wordOf) dX0_wordOf_32 rfl (Nat.le_of_ble_eq_true rfl) (Nat.le_of_ble_eq_true rfl) ⟨rfl, rfl⟩
  refine zLp_J (J := fun s1 => G X mX0_wordOf (zPm X 1 0 0 (zRet (zWs A n S) (some (.int (iI res))))) 0 0 4 [(0, .ref (A qB)), (1, .int (iI a1)), (2, .int (iI s1.1)), (3, .int (iI s1.2))] [] (zWs A n S)) (fun s1 w1 h1 b1 e1 => ?_) _ _ l1
  refine g_iload_n (M := mX0_wordOf) dX0_wordOf_4 3 rfl rfl ?_
  refine g_aload_n (M := mX0_wordOf) dX0_wordOf_5 0 rfl rfl ?_
  refine k_get (M := mX0_wordOf) (v := .int (iI (VB.1 1))) dX0_wordOf_6 kF_X0_15.r qB (by omega) (hB.o) rfl ?_
  obtain ⟨g7, h1⟩ := zgi h1
  refine h_icmp_ge (M := mX0_wordOf) (tgt := 31) dX0_wordOf_9 (by decide) g7.1 g7.2 (fun c6 => ?_) (fun c6 => ?_)
  · have h1 := zti c6 h1
    refine g_lv (M := mX0_wordOf) [2] rfl ?_
    exact r1 _ (e1 _ (Option.some.inj h1).symm)
  · have h1 := zfi (Int.not_le.mpr c6) h1
    refine g_iload_n (M := mX0_wordOf) dX0_wordOf_12 2 rfl rfl ?_
    refine g_aload_n (M := mX0_wordOf) dX0_wordOf_13 0 rfl rfl ?_
    refine k_get (M := mX0_wordOf) (v := .int (iI (VB.1 0))) dX0_wordOf_14 kF_X0_9.r qB (by omega) (hB.o) rfl ?_
    refine h_imul (M := mX0_wordOf) dX0_wordOf_17 ?_
    refine g_iload_n (M := mX0_wordOf) dX0_wordOf_18 1 rfl rfl ?_
    refine g_iload_n (M := mX0_wordOf) dX0_wordOf_19 3 rfl rfl ?_
    obtain ⟨t8, u9, h1⟩ := zbi h1
    refine g_callSr (M := mX0_wordOf) [.int (iI a1), .int (iI s1.2)] hX dX0_wordOf_20 vX0_letterOf kM_X0_56 (wX0_letterOf hX   u9) rfl ⟨(Nat.le_of_ble_eq_true rfl), (Nat.le_of_ble_eq_true rfl)⟩ ⟨(Nat.le_of_ble_eq_true rfl), (Nat.le_of_ble_eq_true rfl)⟩ (Nat.le_of_ble_eq_true rfl) ?_
    refine h_iadd (M := mX0_wordOf) dX0_wordOf_23 ?_
    refine g_istore_n (M := mX0_wordOf) (lv' := [(0, .ref (A qB)), (1, .int (iI a1)), (2, .int (iI ((s1.1 * (VB.1 0)) + t8))), (3, .int (iI s1.2))]) dX0_wordOf_24 rfl (by decide) rfl ?_
    refine h_iinc (M := mX0_wordOf) (j := 3) (lv' := [(0, .ref (A qB)), (1, .int (iI a1)), (2, .int (iI ((s1.1 * (VB.1 0)) + t8))), (3, .int (iI (s1.2 + 1)))]) dX0_wordOf_25 rfl (Nat.le_of_ble_eq_true rfl) rfl ?_
    refine g_goto (M := mX0_wordOf) (tgt := 4) dX0_wordOf_28 (by decide) ?_
    exact b1 _ (Option.some.inj h1).symm
