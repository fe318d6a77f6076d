set_option maxHeartbeats 4000000 in
set_option maxRecDepth 100000 in
theorem wX1_fill {X : zX} (hX : zOK X) {A : Nat → Nat} {n : Nat} {S : Nat → va_E} {qP : Nat} {VP : CV} (hP : isC X A shP qP VP S) (bP : qP + 1 < n) {qB : Nat} {VB : CV} (hB : isC X A shB qB VB S) (bB : qB + 6 < n) (dPB : qP + 1 < qB ∨ qB + 6 < qP) {a1 : Int} {res : CV} (h : fX1_fill VP VB a1 = some res) : Con X yX1_fill mX1_fill 1 0 0 [.ref (A qP), .ref (A qB), .int (iI a1)] (zWs A n S) (zRet (zWs A n (zC X A shP qP res S)) none) := by
  refine con_of (lv := [(0, .ref (A qP)), (1, .ref (A qB)), (2, .int (iI a1))]) (by decide) rfl (fun h => by cases h) rfl (Nat.le_of_ble_eq_true rfl) rfl ?_
  refine g_ws (M := mX1_fill) (congrArg (zWs A n) hP.symm) ?_
  unfold fX1_fill at h
  refine g_aload_n (M := mX1_fill) dX1_fill_0 0 rfl rfl ?_
  refine g_aload_n (M := mX1_fill) dX1_fill_1 1 rfl rfl ?_
  refine k_get (M := mX1_fill) (v := .int (iI (VB.1 0))) dX1_fill_2 kF_X1_15.r qB (by omega) ((zC_skipN 1 rfl (by omega)).trans (hB.o)) rfl ?_
  refine c_put (M := mX1_fill) (k := 1) dX1_fill_5 kF_X1_21 (by omega) rfl rfl (by decide) rfl rfl ?_
  refine g_aload_n (M := mX1_fill) dX1_fill_8 0 rfl rfl ?_
  refine g_aload_n (M := mX1_fill) dX1_fill_9 1 rfl rfl ?_
  refine k_get (M := mX1_fill) (v := .int (iI (VB.1 1))) dX1_fill_10 kF_X1_22.r qB (by omega) ((zC_skipN 1 rfl (by omega)).trans (hB.o)) rfl ?_
  refine c_put (M := mX1_fill) (k := 2) dX1_fill_13 kF_X1_25 (by omega) rfl rfl (by decide) rfl rfl ?_
  refine h_iconst (M := mX1_fill) dX1_fill_16 ?_
  refine g_istore_n (M := mX1_fill) (lv' := [(0, .ref (A qP)), (1, .ref (A qB)), (2, .int (iI a1)), (3, .int (iI 0))]) dX1_fill_17 rfl (by decide) rfl ?_
  obtain ⟨x1, l1, h⟩ := zbi h
  have r1 : ∀ y1, y1 = x1 → G X mX1_fill (zPm X 1 0 0 (zRet (zWs A n (zC X A shP qP res S)) none)) 0 0 40 [(0, .ref (A qP)), (1, .ref (A qB)), (2, .int (iI a1))] [] (zWs A n (zC X A shP qP y1.2 S)) := by
    intro y1 ey
    rw [← ey] at h
    refine h_iconst (M := mX1_fill) dX1_fill_40 ?_
    refine g_istore_n (M := mX1_fill) (lv' := [(0, .ref (A qP)), (1, .ref (A qB)), (2, .int (iI a1)), (3, .int (iI 0))]) dX1_fill_41 rfl (by decide) rfl ?_
    obtain ⟨x5, l5, h⟩ := zbi h
    have r5 : ∀ y5, y5 = x5 → G X mX1_fill (zPm X 1 0 0 (zRet (zWs A n (zC X A shP qP res S)) none)) 0 0 123 [] [] (zWs A n (zC X A shP qP y5.2 S)) := by
      intro y5 ey
      rw [← ey] at h
      have e := (Option.some.inj h)
      subst e
      exact g_vret (M := mX1_fill) dX1_fill_123 rfl (Nat.le_of_ble_eq_true rfl) (Nat.le_of_ble_eq_true rfl) ⟨rfl, rfl⟩
    refine zLp_J (J := fun s5 => G X mX1_fill (zPm X 1 0 0 (zRet (zWs A n (zC X A shP qP res S)) none)) 0 0 42 [(0, .ref (A qP)), (1, .ref (A qB)), (2, .int (iI a1)), (3, .int (iI s5.1))] [] (zWs A n (zC X A shP qP s5.2 S))) (fun s5 w5 h5 b5 e5 => ?_) _ _ l5
    refine g_iload_n (M := mX1_fill) dX1_fill_42 3 rfl rfl ?_
    refine g_aload_n (M := mX1_fill) dX1_fill_43 1 rfl rfl ?_
    refine k_get (M := mX1_fill) (v := .int (iI (VB.1 3))) dX1_fill_44 kF_X1_26.r qB (by omega) ((zC_skipN 1 rfl (by omega)).trans (hB.o)) rfl ?_
    obtain ⟨g27, h5⟩ := zgi h5
    refine h_icmp_ge (M := mX1_fill) (tgt := 123) dX1_fill_47 (by decide) g27.1 g27.2 (fun c26 => ?_) (fun c26 => ?_)
    · have h5 := zti c26 h5
      refine g_lv (M := mX1_fill) [] rfl ?_
      exact r5 _ (e5 _ (Option.some.inj h5).symm)
    · have h5 := zfi (Int.not_le.mpr c26) h5
      refine g_iload_n (M := mX1_fill) dX1_fill_50 3 rfl rfl ?_
      refine g_iload_n (M := mX1_fill) dX1_fill_51 2 rfl rfl ?_
      obtain ⟨g29, h5⟩ := zgi h5
      refine h_icmp_eq (M := mX1_fill) (tgt := 117) dX1_fill_52 (by decide) g27.1 g29 (fun c28 => ?_) (fun c28 => ?_)
      · have h5 := zti c28 h5
        refine h_iinc (M := mX1_fill) (j := 3) (lv' := [(0, .ref (A qP)), (1, .ref (A qB)), (2, .int (iI a1)), (3, .int (iI (s5.1 + 1)))]) dX1_fill_117 rfl (Nat.le_of_ble_eq_true rfl) rfl ?_
        refine g_goto (M := mX1_fill) (tgt := 42) dX1_fill_120 (by decide) ?_
        exact b5 _ (Option.some.inj h5).symm
      · have h5 := zfi c28 h5
        refine g_aload_n (M := mX1_fill) dX1_fill_55 1 rfl rfl ?_
        refine k_get (M := mX1_fill) (v := .ref (A (qB + 5))) dX1_fill_56 kF_X1_29 qB (by omega) ((zC_skipN 1 rfl (by omega)).trans (hB.o)) rfl ?_
        refine g_iload_n (M := mX1_fill) dX1_fill_59 3 rfl rfl ?_
        obtain ⟨g30, h5⟩ := zgi h5
        refine k_iald (M := mX1_fill) (len := 10) (f := VB.2 5) dX1_fill_60 (qB + 5) (by omega) ((zC_skipN 1 rfl (by omega)).trans (hB.a (d := (0, 10)) 4 rfl)) (Nat.le_of_ble_eq_true rfl) g30.1 g30.2 ?_
        refine h_iconst (M := mX1_fill) dX1_fill_61 ?_
        obtain ⟨g32, h5⟩ := zgi h5
        refine h_icmp_eq (M := mX1_fill) (tgt := 117) dX1_fill_62 (by decide) g32 (by decide) (fun c31 => ?_) (fun c31 => ?_)
        · have h5 := zti c31 h5
          refine h_iinc (M := mX1_fill) (j := 3) (lv' := [(0, .ref (A qP)), (1, .ref (A qB)), (2, .int (iI a1)), (3, .int (iI (s5.1 + 1)))]) dX1_fill_117 rfl (Nat.le_of_ble_eq_true rfl) rfl ?_
          refine g_goto (M := mX1_fill) (tgt := 42) dX1_fill_120 (by decide) ?_
          exact b5 _ (Option.some.inj h5).symm
        · have h5 := zfi c31 h5
          refine g_aload_n (M := mX1_fill) dX1_fill_65 1 rfl rfl ?_
          refine g_iload_n (M := mX1_fill) dX1_fill_66 3 rfl rfl ?_
          refine g_aload_n (M := mX1_fill) dX1_fill_67 1 rfl rfl ?_
          refine k_get (M := mX1_fill) (v := .ref (A (qB + 5))) dX1_fill_68 kF_X1_29 qB (by omega) ((zC_skipN 1 rfl (by omega)).trans (hB.o)) rfl ?_
          refine g_iload_n (M := mX1_fill) dX1_fill_71 3 rfl rfl ?_
          refine k_iald (M := mX1_fill) (len := 10) (f := VB.2 5) dX1_fill_72 (qB + 5) (by omega) ((zC_skipN 1 rfl (by omega)).trans (hB.a (d := (0, 10)) 4 rfl)) (Nat.le_of_ble_eq_true rfl) g30.1 g30.2 ?_
          obtain ⟨t33, u34, h5⟩ := zbi h5
          refine g_callVr (M := mX1_fill) [.int (iI s5.1), .int (iI (VB.2 5 s5.1))] hX dX1_fill_73 vX0_codeAt kM_X1_32 (wX0_codeAt hX (isC.keepN hB 1 6 rfl rfl (by omega)) (by omega)  u34) qB (zWs_at (by omega) ((zC_skipN 1 rfl (by omega)).trans (hB.o))) rfl ⟨(Nat.le_of_ble_eq_true rfl), (Nat.le_of_ble_eq_true rfl)⟩ ⟨(Nat.le_of_ble_eq_true rfl), (Nat.le_of_ble_eq_true rfl)⟩ (Nat.le_of_ble_eq_true rfl) ?_
          refine g_istore (M := mX1_fill) (lv' := [(0, .ref (A qP)), (1, .ref (A qB)), (2, .int (iI a1)), (3, .int (iI s5.1)), (4, .int (iI t33))]) dX1_fill_76 (by decide) rfl ?_
          refine h_iconst (M := mX1_fill) dX1_fill_78 ?_
          refine g_istore (M := mX1_fill) (lv' := [(0, .ref (A qP)), (1, .ref (A qB)), (2, .int (iI a1)), (3, .int (iI s5.1)), (4, .int (iI t33)), (5, .int (iI 0))]) dX1_fill_79 (by decide) rfl ?_
          obtain ⟨x35, l35, h5⟩ := zbi h5
          have r35 : ∀ y35, y35 = x35 → G X mX1_fill (zPm X 1 0 0 (zRet (zWs A n (zC X A shP qP res S)) none)) 0 0 117 [(0, .ref (A qP)), (1, .ref (A qB)), (2, .int (iI a1)), (3, .int (iI s5.1))] [] (zWs A n (zC X A shP qP y35.2 S)) := by
            intro y35 ey
            rw [← ey] at h5
            refine h_iinc (M := mX1_fill) (j := 3) (lv' := [(0, .ref (A qP)), (1, .ref (A qB)), (2, .int (iI a1)), (3, .int (iI (s5.1 + 1)))]) dX1_fill_117 rfl (Nat.le_of_ble_eq_true rfl) rfl ?_
            refine g_goto (M := mX1_fill) (tgt := 42) dX1_fill_120 (by decide) ?_
            exact b5 _ (Option.some.inj h5).symm
          refine zLp_J (J := fun s35 => G X mX1_fill (zPm X 1 0 0 (zRet (zWs A n (zC X A shP qP res S)) none)) 0 0 81 [(0, .ref (A qP)), (1, .ref (A qB)), (2, .int (iI a1)), (3, .int (iI s5.1)), (4, .int (iI t33)), (5, .int (iI s35.1))] [] (zWs A n (zC X A shP qP s35.2 S))) (fun s35 w35 h35 b35 e35 => ?_) _ _ l35
          refine g_iload (M := mX1_fill) dX1_fill_81 5 rfl ?_
          refine g_aload_n (M := mX1_fill) dX1_fill_83 0 rfl rfl ?_
          refine k_get (M := mX1_fill) (v := .int (iI (s35.2.1 2))) dX1_fill_84 kF_X1_25.r qP (by omega) (zC_o) rfl ?_
          obtain ⟨g42, h35⟩ := zgi h35
          refine h_icmp_ge (M := mX1_fill) (tgt := 117) dX1_fill_87 (by decide) g42.1 g42.2 (fun c41 => ?_) (fun c41 => ?_)
          · have h35 := zti c41 h35
            refine g_lv (M := mX1_fill) [0, 1, 2, 3] rfl ?_
            exact r35 _ (e35 _ (Option.some.inj h35).symm)
          · have h35 := zfi (Int.not_le.mpr c41) h35
            refine g_aload_n (M := mX1_fill) dX1_fill_90 0 rfl rfl ?_
            refine k_get (M := mX1_fill) (v := .ref (A (qP + 1))) dX1_fill_91 kF_X1_9.r qP (by omega) (zC_o) rfl ?_
            refine h_iconst (M := mX1_fill) dX1_fill_94 ?_
            refine g_iload (M := mX1_fill) dX1_fill_95 5 rfl ?_
            refine h_imul (M := mX1_fill) dX1_fill_97 ?_
            refine g_iload (M := mX1_fill) dX1_fill_98 4 rfl ?_
            refine g_iload (M := mX1_fill) dX1_fill_100 5 rfl ?_
            obtain ⟨t43, u44, h35⟩ := zbi h35
            refine g_callSr (M := mX1_fill) [.int (iI t33), .int (iI s35.1)] hX dX1_fill_102 vX0_letterOf kM_X1_36 (wX0_letterOf hX   u44) rfl ⟨(Nat.le_of_ble_eq_true rfl), (Nat.le_of_ble_eq_true rfl)⟩ ⟨(Nat.le_of_ble_eq_true rfl), (Nat.le_of_ble_eq_true rfl)⟩ (Nat.le_of_ble_eq_true rfl) ?_
            refine h_iadd (M := mX1_fill) dX1_fill_105 ?_
            refine g_dup2_11 (M := mX1_fill) dX1_fill_106 rfl rfl ?_
            obtain ⟨g45, h35⟩ := zgi h35
            refine k_iald (M := mX1_fill) (len := 24) (f := s35.2.2 1) dX1_fill_107 (qP + 1) (by omega) (zC_a (d := (0, 24)) 0 rfl) (Nat.le_of_ble_eq_true rfl) g45.1 g45.2 ?_
            refine h_iconst (M := mX1_fill) dX1_fill_108 ?_
            refine h_iadd (M := mX1_fill) dX1_fill_109 ?_
            refine c_iast (M := mX1_fill) (len := 24) (d := (0, 24)) dX1_fill_110 0 rfl rfl (by omega) (Nat.le_of_ble_eq_true rfl) g45.1 g45.2 ?_
            refine h_iinc (M := mX1_fill) (j := 5) (lv' := [(0, .ref (A qP)), (1, .ref (A qB)), (2, .int (iI a1)), (3, .int (iI s5.1)), (4, .int (iI t33)), (5, .int (iI (s35.1 + 1)))]) dX1_fill_111 rfl (Nat.le_of_ble_eq_true rfl) rfl ?_
            refine g_goto (M := mX1_fill) (tgt := 81) dX1_fill_114 (by decide) ?_
            exact b35 _ (Option.some.inj h35).symm
  refine zLp_J (J := fun s1 => G X mX1_fill (zPm X 1 0 0 (zRet (zWs A n (zC X A shP qP res S)) none)) 0 0 18 [(0, .ref (A qP)), (1, .ref (A qB)), (2, .int (iI a1)), (3, .int (iI s1.1))] [] (zWs A n (zC X A shP qP s1.2 S))) (fun s1 w1 h1 b1 e1 => ?_) _ _ l1
  refine g_iload_n (M := mX1_fill) dX1_fill_18 3 rfl rfl ?_
  refine g_aload_n (M := mX1_fill) dX1_fill_19 0 rfl rfl ?_
  refine k_get (M := mX1_fill) (v := .ref (A (qP + 1))) dX1_fill_20 kF_X1_9.r qP (by omega) (zC_o) rfl ?_
  refine g_alen (M := mX1_fill) (t := 0) (v := iI 24) dX1_fill_23 (qP + 1) (zWs_at (by omega) (zC_a (d := (0, 24)) 0 rfl)) rfl rfl ?_
  obtain ⟨g47, h1⟩ := zgi h1
  refine h_icmp_ge (M := mX1_fill) (tgt := 40) dX1_fill_24 (by decide) g47 (by decide) (fun c46 => ?_) (fun c46 => ?_)
  · have h1 := zti c46 h1
    refine g_lv (M := mX1_fill) [0, 1, 2] rfl ?_
    exact r1 _ (e1 _ (Option.some.inj h1).symm)
  · have h1 := zfi (Int.not_le.mpr c46) h1
    refine g_aload_n (M := mX1_fill) dX1_fill_27 0 rfl rfl ?_
    refine k_get (M := mX1_fill) (v := .ref (A (qP + 1))) dX1_fill_28 kF_X1_9.r qP (by omega) (zC_o) rfl ?_
    refine g_iload_n (M := mX1_fill) dX1_fill_31 3 rfl rfl ?_
    refine h_iconst (M := mX1_fill) dX1_fill_32 ?_
    obtain ⟨g48, h1⟩ := zgi h1
    refine c_iast (M := mX1_fill) (len := 24) (d := (0, 24)) dX1_fill_33 0 rfl rfl (by omega) (Nat.le_of_ble_eq_true rfl) g48.1 g48.2 ?_
    refine h_iinc (M := mX1_fill) (j := 3) (lv' := [(0, .ref (A qP)), (1, .ref (A qB)), (2, .int (iI a1)), (3, .int (iI (s1.1 + 1)))]) dX1_fill_34 rfl (Nat.le_of_ble_eq_true rfl) rfl ?_
    refine g_goto (M := mX1_fill) (tgt := 18) dX1_fill_37 (by decide) ?_
    exact b1 _ (Option.some.inj h1).symm
set_option maxHeartbeats 4000000 in
set_option maxRecDepth 100000 in
theorem wX1_countOf {X : zX} (hX : zOK X) {A : Nat → Nat} {n : Nat} {S : Nat → va_E} {qP : Nat} {VP : CV} (hP : isC X A shP qP VP S) (bP : qP + 1 < n) {a1 : Int} {a2 : Int} {res : Int} (h : fX1_countOf VP a1 a2 = some res) : Con X yX1_countOf mX1_countOf 0 0 0 [.ref (A qP), .int (iI a1), .int (iI a2)] (zWs A n S) (zRet (zWs A n S) (some (.int (iI res)))) := by
  refine con_of (lv := [(0, .ref (A qP)), (1, .int (iI a1)), (2, .int (iI a2))]) (by decide) rfl (fun h => by cases h) rfl (Nat.le_of_ble_eq_true rfl) rfl ?_
  unfold fX1_countOf at h
  refine g_aload_n (M := mX1_countOf) dX1_countOf_0 0 rfl rfl ?_
  refine k_get (M := mX1_countOf) (v := .ref (A (qP + 1))) dX1_countOf_1 kF_X1_9.r qP (by omega) (hP.o) rfl ?_
  refine h_iconst (M := mX1_countOf) dX1_countOf_4 ?_
  refine g_iload_n (M := mX1_countOf) dX1_countOf_5 1 rfl rfl ?_
  refine h_imul (M := mX1_countOf) dX1_countOf_6 ?_
  refine g_iload_n (M := mX1_countOf) dX1_countOf_7 2 rfl rfl ?_
  refine h_iadd (M := mX1_countOf) dX1_countOf_8 ?_
  obtain ⟨g1, h⟩ := zgi h
  refine k_iald (M := mX1_countOf) (len := 24) (f := VP.2 1) dX1_countOf_9 (qP + 1) (by omega) (hP.a (d := (0, 24)) 0 rfl) (Nat.le_of_ble_eq_true rfl) g1.1 g1.2 ?_
  have e := (Option.some.inj h)
  subst e
  exact g_iret (M := mX1_countOf) dX1_countOf_10 rfl (Nat.le_of_ble_eq_true rfl) (Nat.le_of_ble_eq_true rfl) ⟨rfl, rfl⟩
set_option maxHeartbeats 4000000 in
set_option maxRecDepth 100000 in
theorem wX1_commonLetter {X : zX} (hX : zOK X) {A : Nat → Nat} {n : Nat} {S : Nat → va_E} {qP : Nat} {VP : CV} (hP : isC X A shP qP VP S) (bP : qP + 1 < n) {a1 : Int} {res : Int} (h : fX1_commonLetter VP a1 = some res) : Con X yX1_commonLetter mX1_commonLetter 1 0 0 [.ref (A qP), .int (iI a1)] (zWs A n S) (zRet (zWs A n S) (some (.int (iI res)))) := by
  refine con_of (lv := [(0, .ref (A qP)), (1, .int (iI a1))]) (by decide) rfl (fun h => by cases h) rfl (Nat.le_of_ble_eq_true rfl) rfl ?_
  unfold fX1_commonLetter at h
  refine h_iconst (M := mX1_commonLetter) dX1_commonLetter_0 ?_
  refine g_istore_n (M := mX1_commonLetter) (lv' := [(0, .ref (A qP)), (1, .int (iI a1)), (2, .int (iI 0))]) dX1_commonLetter_1 rfl (by decide) rfl ?_
  refine h_iconst (M := mX1_commonLetter) dX1_commonLetter_2 ?_
  refine g_istore_n (M := mX1_commonLetter) (lv' := [(0, .ref (A qP)), (1, .int (iI a1)), (2, .int (iI 0)), (3, .int (iI 1))]) dX1_commonLetter_3 rfl (by decide) rfl ?_
  obtain ⟨x1, l1, h⟩ := zbi h
  have r1 : ∀ y1, y1 = x1 → G X mX1_commonLetter (zPm X 1 0 0 (zRet (zWs A n S) (some (.int (iI res))))) 0 0 35 [(2, .int (iI y1.1))] [] (zWs A n S) := by
    intro y1 ey
    rw [← ey] at h
    refine g_iload_n (M := mX1_commonLetter) dX1_commonLetter_35 0 rfl rfl ?_
    have e := (Option.some.inj h)
    subst e
    exact g_iret (M := mX1_commonLetter) dX1_commonLetter_36 rfl (Nat.le_of_ble_eq_true rfl) (Nat.le_of_ble_eq_true rfl) ⟨rfl, rfl⟩
  refine zLp_J (J := fun s1 => G X mX1_commonLetter (zPm X 1 0 0 (zRet (zWs A n S) (some (.int (iI res))))) 0 0 4 [(0, .ref (A qP)), (1, .int (iI a1)), (2, .int (iI s1.1)), (3, .int (iI s1.2))] [] (zWs A n S)) (fun s1 w1 h1 b1 e1 => ?_) _ _ l1
  refine g_iload_n (M := mX1_commonLetter) dX1_commonLetter_4 3 rfl rfl ?_
  refine g_aload_n (M := mX1_commonLetter) dX1_commonLetter_5 0 rfl rfl ?_
  refine k_get (M := mX1_commonLetter) (v := .int (iI (VP.1 1))) dX1_commonLetter_6 kF_X1_21.r qP (by omega) (hP.o) rfl ?_
  obtain ⟨g11, h1⟩ := zgi h1
  refine h_icmp_ge (M := mX1_commonLetter) (tgt := 35) dX1_commonLetter_9 (by decide) g11.1 g11.2 (fun c10 => ?_) (fun c10 => ?_)
  · have h1 := zti c10 h1
    refine g_lv (M := mX1_commonLetter) [2] rfl ?_
    exact r1 _ (e1 _ (Option.some.inj h1).symm)
  · have h1 := zfi (Int.not_le.mpr c10) h1
    refine g_aload_n (M := mX1_commonLetter) dX1_commonLetter_12 0 rfl rfl ?_
    refine g_iload_n (M := mX1_commonLetter) dX1_commonLetter_13 1 rfl rfl ?_
    refine g_iload_n (M := mX1_commonLetter) dX1_commonLetter_14 3 rfl rfl ?_
    obtain ⟨t12, u13, h1⟩ := zbi h1
    refine g_callVr (M := mX1_commonLetter) [.int (iI a1), .int (iI s1.2)] hX dX1_commonLetter_15 vX1_countOf kM_X1_39 (wX1_countOf hX hP (by omega)  u13) qP (zWs_at (by omega) (hP.o)) rfl ⟨(Nat.le_of_ble_eq_true rfl), (Nat.le_of_ble_eq_true rfl)⟩ ⟨(Nat.le_of_ble_eq_true rfl), (Nat.le_of_ble_eq_true rfl)⟩ (Nat.le_of_ble_eq_true rfl) ?_
    refine g_aload_n (M := mX1_commonLetter) dX1_commonLetter_18 0 rfl rfl ?_
    refine g_iload_n (M := mX1_commonLetter) dX1_commonLetter_19 1 rfl rfl ?_
    refine g_iload_n (M := mX1_commonLetter) dX1_commonLetter_20 2 rfl rfl ?_
    obtain ⟨t14, u15, h1⟩ := zbi h1
    refine g_callVr (M := mX1_commonLetter) [.int (iI a1), .int (iI s1.1)] hX dX1_commonLetter_21 vX1_countOf kM_X1_39 (wX1_countOf hX hP (by omega)  u15) qP (zWs_at (by omega) (hP.o)) rfl ⟨(Nat.le_of_ble_eq_true rfl), (Nat.le_of_ble_eq_true rfl)⟩ ⟨(Nat.le_of_ble_eq_true rfl), (Nat.le_of_ble_eq_true rfl)⟩ (Nat.le_of_ble_eq_true rfl) ?_
    obtain ⟨g17, h1⟩ := zgi h1
    refine h_icmp_le (M := mX1_commonLetter) (tgt := 29) dX1_commonLetter_24 (by decide) g17.1 g17.2 (fun c16 => ?_) (fun c16 => ?_)
    · have h1 := zti c16 h1
      refine h_iinc (M := mX1_commonLetter) (j := 3) (lv' := [(0, .ref (A qP)), (1, .int (iI a1)), (2, .int (iI s1.1)), (3, .int (iI (s1.2 + 1)))]) dX1_commonLetter_29 rfl (Nat.le_of_ble_eq_true rfl) rfl ?_
      refine g_goto (M := mX1_commonLetter) (tgt := 4) dX1_commonLetter_32 (by decide) ?_
      exact b1 _ (Option.some.inj h1).symm
    · have h1 := zfi (Int.not_le.mpr c16) h1
      refine g_iload_n (M := mX1_commonLetter) dX1_commonLetter_27 3 rfl rfl ?_
      refine g_istore_n (M := mX1_commonLetter) (lv' := [(0, .ref (A qP)), (1, .int (iI a1)), (2, .int (iI s1.2)), (3, .int (iI s1.2))]) dX1_commonLetter_28 rfl (by decide) rfl ?_
      refine h_iinc (M := mX1_commonLetter) (j := 3) (lv' := [(0, .ref (A qP)), (1, .int (iI a1)), (2, .int (iI s1.2)), (3, .int (iI (s1.2 + 1)))]) dX1_commonLetter_29 rfl (Nat.le_of_ble_eq_true rfl) rfl ?_
      refine g_goto (M := mX1_commonLetter) (tgt := 4) dX1_commonLetter_32 (by decide) ?_
      exact b1 _ (Option.some.inj h1).symm
set_option maxHeartbeats 4000000 in
set_option maxRecDepth 100000 in
theorem wX1_agreementOf {X : zX} (hX : zOK X) {A : Nat → Nat} {n : Nat} {S : Nat → va_E} {qP : Nat} {VP : CV} (hP : isC X A shP qP VP S) (bP : qP + 1 < n) {qB : Nat} {VB : CV} (hB : isC X A shB qB VB S) (bB : qB + 6 < n) (dPB : qP + 1 < qB ∨ qB + 6 < qP) {res : CV × Int} (h : fX1_agreementOf VP VB = some res) : Con X yX1_agreementOf mX1_agreementOf 2 0 0 [.ref (A qP), .ref (A qB)] (zWs A n S) (zRet (zWs A n (zC X A shP qP res.1 S)) (some (.int (iI res.2)))) := by
  refine con_of (lv := [(0, .ref (A qP)), (1, .ref (A qB))]) (by decide) rfl (fun h => by cases h) rfl (Nat.le_of_ble_eq_true rfl) rfl ?_
  refine g_ws (M := mX1_agreementOf) (congrArg (zWs A n) hP.symm) ?_
  unfold fX1_agreementOf at h
  refine g_aload_n (M := mX1_agreementOf) dX1_agreementOf_0 0 rfl rfl ?_
  refine g_aload_n (M := mX1_agreementOf) dX1_agreementOf_1 1 rfl rfl ?_
  refine h_iconst (M := mX1_agreementOf) dX1_agreementOf_2 ?_
  obtain ⟨t1, u2, h⟩ := zbi h
  refine g_callVr (M := mX1_agreementOf) [.ref (A qB), .int (iI (-1))] hX dX1_agreementOf_3 vX1_fill kM_X1_50 (wX1_fill hX zC_self (by omega) (isC.keepN hB 1 6 rfl rfl (by omega)) (by omega) (by omega) u2) qP (zWs_at (by omega) (zC_o)) rfl ⟨(Nat.le_of_ble_eq_true rfl), (Nat.le_of_ble_eq_true rfl)⟩ ⟨(Nat.le_of_ble_eq_true rfl), (Nat.le_of_ble_eq_true rfl)⟩ (Nat.le_of_ble_eq_true rfl) ?_
  refine g_ws (M := mX1_agreementOf) (congrArg (zWs A n) zC_over) ?_
  refine h_iconst (M := mX1_agreementOf) dX1_agreementOf_6 ?_
  refine g_istore_n (M := mX1_agreementOf) (lv' := [(0, .ref (A qP)), (1, .ref (A qB)), (2, .int (iI 0))]) dX1_agreementOf_7 rfl (by decide) rfl ?_
  refine h_iconst (M := mX1_agreementOf) dX1_agreementOf_8 ?_
  refine g_istore_n (M := mX1_agreementOf) (lv' := [(0, .ref (A qP)), (1, .ref (A qB)), (2, .int (iI 0)), (3, .int (iI 0))]) dX1_agreementOf_9 rfl (by decide) rfl ?_
  obtain ⟨x3, l3, h⟩ := zbi h
  have r3 : ∀ y3, y3 = x3 → G X mX1_agreementOf (zPm X 2 0 0 (zRet (zWs A n (zC X A shP qP res.1 S)) (some (.int (iI res.2))))) 0 0 37 [(2, .int (iI y3.1))] [] (zWs A n (zC X A shP qP t1 S)) := by
    intro y3 ey
    rw [← ey] at h
    refine g_iload_n (M := mX1_agreementOf) dX1_agreementOf_37 0 rfl rfl ?_
    have e := (Option.some.inj h)
    subst e
    exact g_iret (M := mX1_agreementOf) dX1_agreementOf_38 rfl (Nat.le_of_ble_eq_true rfl) (Nat.le_of_ble_eq_true rfl) ⟨rfl, rfl⟩
  refine g_lv (M := mX1_agreementOf) [0, 2, 3] rfl ?_
  refine zLp_J (J := fun s3 => G X mX1_agreementOf (zPm X 2 0 0 (zRet (zWs A n (zC X A shP qP res.1 S)) (some (.int (iI res.2))))) 0 0 10 [(0, .ref (A qP)), (2, .int (iI s3.1)), (3, .int (iI s3.2))] [] (zWs A n (zC X A shP qP t1 S))) (fun s3 w3 h3 b3 e3 => ?_) _ _ l3
  refine g_iload_n (M := mX1_agreementOf) dX1_agreementOf_10 2 rfl rfl ?_
  refine g_aload_n (M := mX1_agreementOf) dX1_agreementOf_11 0 rfl rfl ?_
  refine k_get (M := mX1_agreementOf) (v := .int (iI (t1.1 2))) dX1_agreementOf_12 kF_X1_25.r qP (by omega) (zC_o) rfl ?_
  obtain ⟨g11, h3⟩ := zgi h3
  refine h_icmp_ge (M := mX1_agreementOf) (tgt := 37) dX1_agreementOf_15 (by decide) g11.1 g11.2 (fun c10 => ?_) (fun c10 => ?_)
  · have h3 := zti c10 h3
    refine g_lv (M := mX1_agreementOf) [1] rfl ?_
    exact r3 _ (e3 _ (Option.some.inj h3).symm)
  · have h3 := zfi (Int.not_le.mpr c10) h3
    refine g_iload_n (M := mX1_agreementOf) dX1_agreementOf_18 1 rfl rfl ?_
    refine g_aload_n (M := mX1_agreementOf) dX1_agreementOf_19 0 rfl rfl ?_
    refine g_iload_n (M := mX1_agreementOf) dX1_agreementOf_20 2 rfl rfl ?_
    refine g_aload_n (M := mX1_agreementOf) dX1_agreementOf_21 0 rfl rfl ?_
    refine g_iload_n (M := mX1_agreementOf) dX1_agreementOf_22 2 rfl rfl ?_
    obtain ⟨t12, u13, h3⟩ := zbi h3
    refine g_callVr (M := mX1_agreementOf) [.int (iI s3.2)] hX dX1_agreementOf_23 vX1_commonLetter kM_X1_42 (wX1_commonLetter hX zC_self (by omega)  u13) qP (zWs_at (by omega) (zC_o)) rfl ⟨(Nat.le_of_ble_eq_true rfl), (Nat.le_of_ble_eq_true rfl)⟩ ⟨(Nat.le_of_ble_eq_true rfl), (Nat.le_of_ble_eq_true rfl)⟩ (Nat.le_of_ble_eq_true rfl) ?_
    obtain ⟨t14, u15, h3⟩ := zbi h3
    refine g_callVr (M := mX1_agreementOf) [.int (iI s3.2), .int (iI t12)] hX dX1_agreementOf_26 vX1_countOf kM_X1_39 (wX1_countOf hX zC_self (by omega)  u15) qP (zWs_at (by omega) (zC_o)) rfl ⟨(Nat.le_of_ble_eq_true rfl), (Nat.le_of_ble_eq_true rfl)⟩ ⟨(Nat.le_of_ble_eq_true rfl), (Nat.le_of_ble_eq_true rfl)⟩ (Nat.le_of_ble_eq_true rfl) ?_
    refine h_iadd (M := mX1_agreementOf) dX1_agreementOf_29 ?_
    refine g_istore_n (M := mX1_agreementOf) (lv' := [(0, .ref (A qP)), (2, .int (iI (s3.1 + t14))), (3, .int (iI s3.2))]) dX1_agreementOf_30 rfl (by decide) rfl ?_
    refine h_iinc (M := mX1_agreementOf) (j := 2) (lv' := [(0, .ref (A qP)), (2, .int (iI (s3.1 + t14))), (3, .int (iI (s3.2 + 1)))]) dX1_agreementOf_31 rfl (Nat.le_of_ble_eq_true rfl) rfl ?_
    refine g_goto (M := mX1_agreementOf) (tgt := 10) dX1_agreementOf_34 (by decide) ?_
    exact b3 _ (Option.some.inj h3).symm
set_option maxHeartbeats 4000000 in
set_option maxRecDepth 100000 in
theorem wX1_weightOf {X : zX} (hX : zOK X) {A : Nat → Nat} {n : Nat} {S : Nat → va_E} {qP : Nat} {VP : CV} (hP : isC X A shP qP VP S) (bP : qP + 1 < n) {a1 : Int} {res : Int} (h : fX1_weightOf VP a1 = some res) : Con X yX1_weightOf mX1_weightOf 1 0 0 [.ref (A qP), .int (iI a1)] (zWs A n S) (zRet (zWs A n S) (some (.int (iI res)))) := by
  refine con_of (lv := [(0, .ref (A qP)), (1, .int (iI a1))]) (by decide) rfl (fun h => by cases h) rfl (Nat.le_of_ble_eq_true rfl) rfl ?_
  unfold fX1_weightOf at h
  refine h_iconst (M := mX1_weightOf) dX1_weightOf_0 ?_
  refine g_istore_n (M := mX1_weightOf) (lv' := [(0, .ref (A qP)), (1, .int (iI a1)), (2, .int (iI 1))]) dX1_weightOf_1 rfl (by decide) rfl ?_
  refine h_iconst (M := mX1_weightOf) dX1_weightOf_2 ?_
  refine g_istore_n (M := mX1_weightOf) (lv' := [(0, .ref (A qP)), (1, .int (iI a1)), (2, .int (iI 1)), (3, .int (iI 0))]) dX1_weightOf_3 rfl (by decide) rfl ?_
  obtain ⟨x1, l1, h⟩ := zbi h
  have r1 : ∀ y1, y1 = x1 → G X mX1_weightOf (zPm X 1 0 0 (zRet (zWs A n S) (some (.int (iI res))))) 0 0 33 [(2, .int (iI y1.1))] [] (zWs A n S) := by
    intro y1 ey
    rw [← ey] at h
    refine g_iload_n (M := mX1_weightOf) dX1_weightOf_33 0 rfl rfl ?_
    have e := (Option.some.inj h)
    subst e
    exact g_iret (M := mX1_weightOf) dX1_weightOf_34 rfl (Nat.le_of_ble_eq_true rfl) (Nat.le_of_ble_eq_true rfl) ⟨rfl, rfl⟩
  refine zLp_J (J := fun s1 => G X mX1_weightOf (zPm X 1 0 0 (zRet (zWs A n S) (some (.int (iI res))))) 0 0 4 [(0, .ref (A qP)), (1, .int (iI a1)), (2, .int (iI s1.1)), (3, .int (iI s1.2))] [] (zWs A n S)) (fun s1 w1 h1 b1 e1 => ?_) _ _ l1
  refine g_iload_n (M := mX1_weightOf) dX1_weightOf_4 3 rfl rfl ?_
  refine g_aload_n (M := mX1_weightOf) dX1_weightOf_5 0 rfl rfl ?_
  refine k_get (M := mX1_weightOf) (v := .int (iI (VP.1 2))) dX1_weightOf_6 kF_X1_25.r qP (by omega) (hP.o) rfl ?_
  obtain ⟨g9, h1⟩ := zgi h1
  refine h_icmp_ge (M := mX1_weightOf) (tgt := 33) dX1_weightOf_9 (by decide) g9.1 g9.2 (fun c8 => ?_) (fun c8 => ?_)
  · have h1 := zti c8 h1
    refine g_lv (M := mX1_weightOf) [2] rfl ?_
    exact r1 _ (e1 _ (Option.some.inj h1).symm)
  · have h1 := zfi (Int.not_le.mpr c8) h1
    refine g_iload_n (M := mX1_weightOf) dX1_weightOf_12 2 rfl rfl ?_
    refine h_iconst (M := mX1_weightOf) dX1_weightOf_13 ?_
    refine g_aload_n (M := mX1_weightOf) dX1_weightOf_14 0 rfl rfl ?_
    refine g_iload_n (M := mX1_weightOf) dX1_weightOf_15 3 rfl rfl ?_
    refine g_iload_n (M := mX1_weightOf) dX1_weightOf_16 1 rfl rfl ?_
    refine g_iload_n (M := mX1_weightOf) dX1_weightOf_17 3 rfl rfl ?_
    obtain ⟨t10, u11, h1⟩ := zbi h1
    refine g_callSr (M := mX1_weightOf) [.int (iI a1), .int (iI s1.2)] hX dX1_weightOf_18 vX0_letterOf kM_X1_36 (wX0_letterOf hX   u11) rfl ⟨(Nat.le_of_ble_eq_true rfl), (Nat.le_of_ble_eq_true rfl)⟩ ⟨(Nat.le_of_ble_eq_true rfl), (Nat.le_of_ble_eq_true rfl)⟩ (Nat.le_of_ble_eq_true rfl) ?_
    obtain ⟨t12, u13, h1⟩ := zbi h1
    refine g_callVr (M := mX1_weightOf) [.int (iI s1.2), .int (iI t10)] hX dX1_weightOf_21 vX1_countOf kM_X1_39 (wX1_countOf hX hP (by omega)  u13) qP (zWs_at (by omega) (hP.o)) rfl ⟨(Nat.le_of_ble_eq_true rfl), (Nat.le_of_ble_eq_true rfl)⟩ ⟨(Nat.le_of_ble_eq_true rfl), (Nat.le_of_ble_eq_true rfl)⟩ (Nat.le_of_ble_eq_true rfl) ?_
    refine h_iadd (M := mX1_weightOf) dX1_weightOf_24 ?_
    refine h_imul (M := mX1_weightOf) dX1_weightOf_25 ?_
    refine g_istore_n (M := mX1_weightOf) (lv' := [(0, .ref (A qP)), (1, .int (iI a1)), (2, .int (iI (s1.1 * (1 + t12)))), (3, .int (iI s1.2))]) dX1_weightOf_26 rfl (by decide) rfl ?_
    refine h_iinc (M := mX1_weightOf) (j := 3) (lv' := [(0, .ref (A qP)), (1, .int (iI a1)), (2, .int (iI (s1.1 * (1 + t12)))), (3, .int (iI (s1.2 + 1)))]) dX1_weightOf_27 rfl (Nat.le_of_ble_eq_true rfl) rfl ?_
    refine g_goto (M := mX1_weightOf) (tgt := 4) dX1_weightOf_30 (by decide) ?_
    exact b1 _ (Option.some.inj h1).symm
set_option maxHeartbeats 4000000 in
set_option maxRecDepth 100000 in
theorem wX1_betterRow {X : zX} (hX : zOK X) {A : Nat → Nat} {n : Nat} {S : Nat → va_E} {qP : Nat} {VP : CV} (hP : isC X A shP qP VP S) (bP : qP + 1 < n) {qB : Nat} {VB : CV} (hB : isC X A shB qB VB S) (bB : qB + 6 < n) (dPB : qP + 1 < qB ∨ qB + 6 < qP) {a1 : Int} {res : CV × CV × Bool} (h : fX1_betterRow VP VB a1 = some res) : Con X yX1_betterRow mX1_betterRow 2 0 0 [.ref (A qP), .ref (A qB), .int (iI a1)] (zWs A n S) (zRet (zWs A n (zC X A shB qB res.2.1 (zC X A shP qP res.1 S))) (some (.int (iI (b2 res.2.2))))) := by
  refine con_of (lv := [(0, .ref (A qP)), (1, .ref (A qB)), (2, .int (iI a1))]) (by decide) rfl (fun h => by cases h) rfl (Nat.le_of_ble_eq_true rfl) rfl ?_
  refine g_ws (M := mX1_betterRow) (congrArg (zWs A n) hP.symm) ?_
  refine g_ws (M := mX1_betterRow) (congrArg (zWs A n) (isC.keepN hB 1 6 rfl rfl (by omega)).symm) ?_
  unfold fX1_betterRow at h
  refine g_aload_n (M := mX1_betterRow) dX1_betterRow_0 0 rfl rfl ?_
  refine g_aload_n (M := mX1_betterRow) dX1_betterRow_1 1 rfl rfl ?_
  refine g_iload_n (M := mX1_betterRow) dX1_betterRow_2 2 rfl rfl ?_
  refine g_ws (M := mX1_betterRow) (congrArg (fun z => zWs A n (z)) (zC_commN 6 1 rfl rfl (by omega))) ?_
  obtain ⟨t1, u2, h⟩ := zbi h
  refine g_callVr (M := mX1_betterRow) [.ref (A qB), .int (iI a1)] hX dX1_betterRow_3 vX1_fill kM_X1_50 (wX1_fill hX zC_self (by omega) (isC.keepN zC_self 1 6 rfl rfl (by omega)) (by omega) (by omega) u2) qP (zWs_at (by omega) (zC_o)) rfl ⟨(Nat.le_of_ble_eq_true rfl), (Nat.le_of_ble_eq_true rfl)⟩ ⟨(Nat.le_of_ble_eq_true rfl), (Nat.le_of_ble_eq_true rfl)⟩ (Nat.le_of_ble_eq_true rfl) ?_
  refine g_ws (M := mX1_betterRow) (congrArg (zWs A n) zC_over) ?_
  refine h_iconst (M := mX1_betterRow) dX1_betterRow_6 ?_
  refine g_istore_n (M := mX1_betterRow) (lv' := [(0, .ref (A qP)), (1, .ref (A qB)), (2, .int (iI a1)), (3, .int (iI (-1)))]) dX1_betterRow_7 rfl (by decide) rfl ?_
  refine h_iconst (M := mX1_betterRow) dX1_betterRow_8 ?_
  refine g_istore (M := mX1_betterRow) (lv' := [(0, .ref (A qP)), (1, .ref (A qB)), (2, .int (iI a1)), (3, .int (iI (-1))), (4, .int (iI 0))]) dX1_betterRow_9 (by decide) rfl ?_
  refine h_iconst (M := mX1_betterRow) dX1_betterRow_11 ?_
  refine g_istore (M := mX1_betterRow) (lv' := [(0, .ref (A qP)), (1, .ref (A qB)), (2, .int (iI a1)), (3, .int (iI (-1))), (4, .int (iI 0)), (5, .int (iI 0))]) dX1_betterRow_12 (by decide) rfl ?_
  obtain ⟨x3, l3, h⟩ := zbi h
  have r3 : ∀ y3, y3 = x3 → G X mX1_betterRow (zPm X 2 0 0 (zRet (zWs A n (zC X A shB qB res.2.1 (zC X A shP qP res.1 S))) (some (.int (iI (b2 res.2.2)))))) 0 0 67 [(1, .ref (A qB)), (2, .int (iI a1)), (3, .int (iI y3.1))] [] (zWs A n (zC X A shP qP t1 (zC X A shB qB VB S))) := by
    intro y3 ey
    rw [← ey] at h
    refine g_aload_n (M := mX1_betterRow) dX1_betterRow_67 0 rfl rfl ?_
    refine k_get (M := mX1_betterRow) (v := .ref (A (qB + 5))) dX1_betterRow_68 kF_X1_29 qB (by omega) ((zC_skipN 1 rfl (by omega)).trans (zC_o)) rfl ?_
    refine g_iload_n (M := mX1_betterRow) dX1_betterRow_71 1 rfl rfl ?_
    obtain ⟨g17, h⟩ := zgi h
    refine k_iald (M := mX1_betterRow) (len := 10) (f := VB.2 5) dX1_betterRow_72 (qB + 5) (by omega) ((zC_skipN 1 rfl (by omega)).trans (zC_a (d := (0, 10)) 4 rfl)) (Nat.le_of_ble_eq_true rfl) g17.1 g17.2 ?_
    refine g_iload_n (M := mX1_betterRow) dX1_betterRow_73 2 rfl rfl ?_
    obtain ⟨g19, h⟩ := zgi h
    refine h_icmp_eq (M := mX1_betterRow) (tgt := 81) dX1_betterRow_74 (by decide) g19.1 g19.2 (fun c18 => ?_) (fun c18 => ?_)
    · have h := zti c18 h
      refine h_iconst (M := mX1_betterRow) dX1_betterRow_81 ?_
      refine g_istore (M := mX1_betterRow) (lv' := [(1, .ref (A qB)), (2, .int (iI a1)), (3, .int (iI y3.1)), (5, .int (iI 0))]) dX1_betterRow_82 (by decide) rfl ?_
      refine g_aload_n (M := mX1_betterRow) dX1_betterRow_84 0 rfl rfl ?_
      refine k_get (M := mX1_betterRow) (v := .ref (A (qB + 5))) dX1_betterRow_85 kF_X1_29 qB (by omega) ((zC_skipN 1 rfl (by omega)).trans (zC_o)) rfl ?_
      refine g_iload_n (M := mX1_betterRow) dX1_betterRow_88 1 rfl rfl ?_
      refine g_iload_n (M := mX1_betterRow) dX1_betterRow_89 2 rfl rfl ?_
      refine g_ws (M := mX1_betterRow) (congrArg (fun z => zWs A n (z)) (zC_commN 1 6 rfl rfl (by omega))) ?_
      refine c_iast (M := mX1_betterRow) (len := 10) (d := (0, 10)) dX1_betterRow_90 4 rfl rfl (by omega) (Nat.le_of_ble_eq_true rfl) g17.1 g17.2 ?_
      refine g_iload (M := mX1_betterRow) dX1_betterRow_91 3 rfl ?_
      have e := (Option.some.inj h)
      subst e
      exact g_zret (M := mX1_betterRow) .boolean dX1_betterRow_93 rfl rfl (Nat.le_of_ble_eq_true rfl) (Nat.le_of_ble_eq_true rfl) ⟨rfl, rfl⟩
    · have h := zfi c18 h
      refine h_iconst (M := mX1_betterRow) dX1_betterRow_77 ?_
      refine g_goto (M := mX1_betterRow) (tgt := 82) dX1_betterRow_78 (by decide) ?_
      refine g_istore (M := mX1_betterRow) (lv' := [(1, .ref (A qB)), (2, .int (iI a1)), (3, .int (iI y3.1)), (5, .int (iI 1))]) dX1_betterRow_82 (by decide) rfl ?_
      refine g_aload_n (M := mX1_betterRow) dX1_betterRow_84 0 rfl rfl ?_
      refine k_get (M := mX1_betterRow) (v := .ref (A (qB + 5))) dX1_betterRow_85 kF_X1_29 qB (by omega) ((zC_skipN 1 rfl (by omega)).trans (zC_o)) rfl ?_
      refine g_iload_n (M := mX1_betterRow) dX1_betterRow_88 1 rfl rfl ?_
      refine g_iload_n (M := mX1_betterRow) dX1_betterRow_89 2 rfl rfl ?_
      refine g_ws (M := mX1_betterRow) (congrArg (fun z => zWs A n (z)) (zC_commN 1 6 rfl rfl (by omega))) ?_
      refine c_iast (M := mX1_betterRow) (len := 10) (d := (0, 10)) dX1_betterRow_90 4 rfl rfl (by omega) (Nat.le_of_ble_eq_true rfl) g17.1 g17.2 ?_
      refine g_iload (M := mX1_betterRow) dX1_betterRow_91 3 rfl ?_
      have e := (Option.some.inj h)
      subst e
      exact g_zret (M := mX1_betterRow) .boolean dX1_betterRow_93 rfl rfl (Nat.le_of_ble_eq_true rfl) (Nat.le_of_ble_eq_true rfl) ⟨rfl, rfl⟩
  refine zLp_J (J := fun s3 => G X mX1_betterRow (zPm X 2 0 0 (zRet (zWs A n (zC X A shB qB res.2.1 (zC X A shP qP res.1 S))) (some (.int (iI (b2 res.2.2)))))) 0 0 14 [(0, .ref (A qP)), (1, .ref (A qB)), (2, .int (iI a1)), (3, .int (iI s3.1)), (4, .int (iI s3.2.1)), (5, .int (iI s3.2.2))] [] (zWs A n (zC X A shP qP t1 (zC X A shB qB VB S)))) (fun s3 w3 h3 b3 e3 => ?_) _ _ l3
  refine g_iload (M := mX1_betterRow) dX1_betterRow_14 5 rfl ?_
  refine g_aload_n (M := mX1_betterRow) dX1_betterRow_16 1 rfl rfl ?_
  refine g_iload_n (M := mX1_betterRow) dX1_betterRow_17 2 rfl rfl ?_
  obtain ⟨t20, u21, h3⟩ := zbi h3
  refine g_callVr (M := mX1_betterRow) [.int (iI a1)] hX dX1_betterRow_18 vX0_lastStart kM_X1_54 (wX0_lastStart hX (isC.keepN zC_self 1 6 rfl rfl (by omega)) (by omega)  u21) qB (zWs_at (by omega) ((zC_skipN 1 rfl (by omega)).trans (zC_o))) rfl ⟨(Nat.le_of_ble_eq_true rfl), (Nat.le_of_ble_eq_true rfl)⟩ ⟨(Nat.le_of_ble_eq_true rfl), (Nat.le_of_ble_eq_true rfl)⟩ (Nat.le_of_ble_eq_true rfl) ?_
  obtain ⟨g23, h3⟩ := zgi h3
  refine h_icmp_gt (M := mX1_betterRow) (tgt := 67) dX1_betterRow_21 (by decide) g23.1 g23.2 (fun c22 => ?_) (fun c22 => ?_)
  · have h3 := zti c22 h3
    refine g_lv (M := mX1_betterRow) [1, 2, 3] rfl ?_
    exact r3 _ (e3 _ (Option.some.inj h3).symm)
  · have h3 := zfi (Int.not_lt.mpr c22) h3
    refine g_aload_n (M := mX1_betterRow) dX1_betterRow_24 1 rfl rfl ?_
    refine g_iload_n (M := mX1_betterRow) dX1_betterRow_25 2 rfl rfl ?_
    refine g_iload (M := mX1_betterRow) dX1_betterRow_26 5 rfl ?_
    obtain ⟨t24, u25, h3⟩ := zbi h3
    refine g_callVr (M := mX1_betterRow) [.int (iI a1), .int (iI s3.2.2)] hX dX1_betterRow_28 vX0_isPlace kM_X1_57 (wX0_isPlace hX (isC.keepN zC_self 1 6 rfl rfl (by omega)) (by omega)  u25) qB (zWs_at (by omega) ((zC_skipN 1 rfl (by omega)).trans (zC_o))) rfl ⟨(Nat.le_of_ble_eq_true rfl), (Nat.le_of_ble_eq_true rfl)⟩ ⟨(Nat.le_of_ble_eq_true rfl), (Nat.le_of_ble_eq_true rfl)⟩ (Nat.le_of_ble_eq_true rfl) ?_
    refine h_beq (M := mX1_betterRow) (tgt := 61) dX1_betterRow_31 (by decide) (fun c26 => ?_) (fun c26 => ?_)
    · have h3 := zfi (zbf c26) h3
      refine h_iinc (M := mX1_betterRow) (j := 5) (lv' := [(0, .ref (A qP)), (1, .ref (A qB)), (2, .int (iI a1)), (3, .int (iI s3.1)), (4, .int (iI s3.2.1)), (5, .int (iI (s3.2.2 + 1)))]) dX1_betterRow_61 rfl (Nat.le_of_ble_eq_true rfl) rfl ?_
      refine g_goto (M := mX1_betterRow) (tgt := 14) dX1_betterRow_64 (by decide) ?_
      exact b3 _ (Option.some.inj h3).symm
    · have h3 := zti c26 h3
      refine g_aload_n (M := mX1_betterRow) dX1_betterRow_34 0 rfl rfl ?_
      refine g_aload_n (M := mX1_betterRow) dX1_betterRow_35 1 rfl rfl ?_
      refine g_iload_n (M := mX1_betterRow) dX1_betterRow_36 2 rfl rfl ?_
      refine g_iload (M := mX1_betterRow) dX1_betterRow_37 5 rfl ?_
      obtain ⟨t27, u28, h3⟩ := zbi h3
      refine g_callVr (M := mX1_betterRow) [.int (iI a1), .int (iI s3.2.2)] hX dX1_betterRow_39 vX0_codeAt kM_X1_32 (wX0_codeAt hX (isC.keepN zC_self 1 6 rfl rfl (by omega)) (by omega)  u28) qB (zWs_at (by omega) ((zC_skipN 1 rfl (by omega)).trans (zC_o))) rfl ⟨(Nat.le_of_ble_eq_true rfl), (Nat.le_of_ble_eq_true rfl)⟩ ⟨(Nat.le_of_ble_eq_true rfl), (Nat.le_of_ble_eq_true rfl)⟩ (Nat.le_of_ble_eq_true rfl) ?_
      obtain ⟨t29, u30, h3⟩ := zbi h3
      refine g_callVr (M := mX1_betterRow) [.int (iI t27)] hX dX1_betterRow_42 vX1_weightOf kM_X1_61 (wX1_weightOf hX zC_self (by omega)  u30) qP (zWs_at (by omega) (zC_o)) rfl ⟨(Nat.le_of_ble_eq_true rfl), (Nat.le_of_ble_eq_true rfl)⟩ ⟨(Nat.le_of_ble_eq_true rfl), (Nat.le_of_ble_eq_true rfl)⟩ (Nat.le_of_ble_eq_true rfl) ?_
      refine g_istore (M := mX1_betterRow) (lv' := [(0, .ref (A qP)), (1, .ref (A qB)), (2, .int (iI a1)), (3, .int (iI s3.1)), (4, .int (iI s3.2.1)), (5, .int (iI s3.2.2)), (6, .int (iI t29))]) dX1_betterRow_45 (by decide) rfl ?_
      refine g_iload (M := mX1_betterRow) dX1_betterRow_47 6 rfl ?_
      refine g_iload (M := mX1_betterRow) dX1_betterRow_49 4 rfl ?_
      obtain ⟨g32, h3⟩ := zgi h3
      refine h_icmp_le (M := mX1_betterRow) (tgt := 61) dX1_betterRow_51 (by decide) g32.1 g32.2 (fun c31 => ?_) (fun c31 => ?_)
      · have h3 := zti c31 h3
        refine h_iinc (M := mX1_betterRow) (j := 5) (lv' := [(0, .ref (A qP)), (1, .ref (A qB)), (2, .int (iI a1)), (3, .int (iI s3.1)), (4, .int (iI s3.2.1)), (5, .int (iI (s3.2.2 + 1))), (6, .int (iI t29))]) dX1_betterRow_61 rfl (Nat.le_of_ble_eq_true rfl) rfl ?_
        refine g_goto (M := mX1_betterRow) (tgt := 14) dX1_betterRow_64 (by decide) ?_
        refine g_lv (M := mX1_betterRow) [0, 1, 2, 3, 4, 5] rfl ?_
        exact b3 _ (Option.some.inj h3).symm
      · have h3 := zfi (Int.not_le.mpr c31) h3
        refine g_iload (M := mX1_betterRow) dX1_betterRow_54 5 rfl ?_
        refine g_istore_n (M := mX1_betterRow) (lv' := [(0, .ref (A qP)), (1, .ref (A qB)), (2, .int (iI a1)), (3, .int (iI s3.2.2)), (4, .int (iI s3.2.1)), (5, .int (iI s3.2.2)), (6, .int (iI t29))]) dX1_betterRow_56 rfl (by decide) rfl ?_
        refine g_iload (M := mX1_betterRow) dX1_betterRow_57 6 rfl ?_
        refine g_istore (M := mX1_betterRow) (lv' := [(0, .ref (A qP)), (1, .ref (A qB)), (2, .int (iI a1)), (3, .int (iI s3.2.2)), (4, .int (iI t29)), (5, .int (iI s3.2.2)), (6, .int (iI t29))]) dX1_betterRow_59 (by decide) rfl ?_
        refine h_iinc (M := mX1_betterRow) (j := 5) (lv' := [(0, .ref (A qP)), (1, .ref (A qB)), (2, .int (iI a1)), (3, .int (iI s3.2.2)), (4, .int (iI t29)), (5, .int (iI (s3.2.2 + 1))), (6, .int (iI t29))]) dX1_betterRow_61 rfl (Nat.le_of_ble_eq_true rfl) rfl ?_
        refine g_goto (M := mX1_betterRow) (tgt := 14) dX1_betterRow_64 (by decide) ?_
        refine g_lv (M := mX1_betterRow) [0, 1, 2, 3, 4, 5] rfl ?_
        exact b3 _ (Option.some.inj h3).symm
set_option maxHeartbeats 4000000 in
set_option maxRecDepth 100000 in
theorem wX1_commonCode {X : zX} (hX : zOK X) {A : Nat → Nat} {n : Nat} {S : Nat → va_E} {qP : Nat} {VP : CV} (hP : isC X A shP qP VP S) (bP : qP + 1 < n) {res : Int} (h : fX1_commonCode VP = some res) : Con X yX1_commonCode mX1_commonCode 2 0 0 [.ref (A qP)] (zWs A n S) (zRet (zWs A n S) (some (.int (iI res)))) := by
  refine con_of (lv := [(0, .ref (A qP))]) (by decide) rfl (fun h => by cases h) rfl (Nat.le_of_ble_eq_true rfl) rfl ?_
  unfold fX1_commonCode at h
  refine g_lconst (M := mX1_commonCode) (v := iL 0) dX1_commonCode_0 rfl ?_
  refine g_lstore_n (M := mX1_commonCode) (lv' := [(0, .ref (A qP)), (1, .long (iL 0))]) dX1_commonCode_1 rfl (by decide) rfl ?_
  refine h_iconst (M := mX1_commonCode) dX1_commonCode_2 ?_
  refine g_istore_n (M := mX1_commonCode) (lv' := [(0, .ref (A qP)), (1, .long (iL 0)), (3, .int (iI 0))]) dX1_commonCode_3 rfl (by decide) rfl ?_
  obtain ⟨x1, l1, h⟩ := zbi h
  have r1 : ∀ y1, y1 = x1 → G X mX1_commonCode (zPm X 2 0 0 (zRet (zWs A n S) (some (.int (iI res))))) 0 0 29 [(1, .long (iL y1.1))] [] (zWs A n S) := by
    intro y1 ey
    rw [← ey] at h
    refine g_lload_n (M := mX1_commonCode) dX1_commonCode_29 0 rfl rfl ?_
    obtain ⟨g8, h⟩ := zgi h
    refine g_l2i (M := mX1_commonCode) dX1_commonCode_30 rfl ?_
    refine h_topx (M := mX1_commonCode) (b := y1.1) (iL_i g8) ?_
    have e := (Option.some.inj h)
    subst e
    exact g_iret (M := mX1_commonCode) dX1_commonCode_31 rfl (Nat.le_of_ble_eq_true rfl) (Nat.le_of_ble_eq_true rfl) ⟨rfl, rfl⟩
  refine zLp_J (J := fun s1 => G X mX1_commonCode (zPm X 2 0 0 (zRet (zWs A n S) (some (.int (iI res))))) 0 0 4 [(0, .ref (A qP)), (1, .long (iL s1.1)), (3, .int (iI s1.2))] [] (zWs A n S)) (fun s1 w1 h1 b1 e1 => ?_) _ _ l1
  refine g_iload_n (M := mX1_commonCode) dX1_commonCode_4 2 rfl rfl ?_
  refine g_aload_n (M := mX1_commonCode) dX1_commonCode_5 0 rfl rfl ?_
  refine k_get (M := mX1_commonCode) (v := .int (iI (VP.1 2))) dX1_commonCode_6 kF_X1_25.r qP (by omega) (hP.o) rfl ?_
  obtain ⟨g10, h1⟩ := zgi h1
  refine h_icmp_ge (M := mX1_commonCode) (tgt := 29) dX1_commonCode_9 (by decide) g10.1 g10.2 (fun c9 => ?_) (fun c9 => ?_)
  · have h1 := zti c9 h1
    refine g_lv (M := mX1_commonCode) [1] rfl ?_
    exact r1 _ (e1 _ (Option.some.inj h1).symm)
  · have h1 := zfi (Int.not_le.mpr c9) h1
    refine g_lload_n (M := mX1_commonCode) dX1_commonCode_12 1 rfl rfl ?_
    refine g_iload_n (M := mX1_commonCode) dX1_commonCode_13 2 rfl rfl ?_
    refine g_aload_n (M := mX1_commonCode) dX1_commonCode_14 0 rfl rfl ?_
    refine g_iload_n (M := mX1_commonCode) dX1_commonCode_15 2 rfl rfl ?_
    obtain ⟨t11, u12, h1⟩ := zbi h1
    refine g_callVr (M := mX1_commonCode) [.int (iI s1.2)] hX dX1_commonCode_16 vX1_commonLetter kM_X1_42 (wX1_commonLetter hX hP (by omega)  u12) qP (zWs_at (by omega) (hP.o)) rfl ⟨(Nat.le_of_ble_eq_true rfl), (Nat.le_of_ble_eq_true rfl)⟩ ⟨(Nat.le_of_ble_eq_true rfl), (Nat.le_of_ble_eq_true rfl)⟩ (Nat.le_of_ble_eq_true rfl) ?_
    obtain ⟨t13, u14, h1⟩ := zbi h1
    refine g_callSr (M := mX1_commonCode) [.long (iL s1.1), .int (iI s1.2), .int (iI t11)] hX dX1_commonCode_19 vX0_withLetter kM_X1_46 (wX0_withLetter hX   u14) rfl ⟨(Nat.le_of_ble_eq_true rfl), (Nat.le_of_ble_eq_true rfl)⟩ ⟨(Nat.le_of_ble_eq_true rfl), (Nat.le_of_ble_eq_true rfl)⟩ (Nat.le_of_ble_eq_true rfl) ?_
    refine g_lstore_n (M := mX1_commonCode) (lv' := [(0, .ref (A qP)), (1, .long (iL t13)), (3, .int (iI s1.2))]) dX1_commonCode_22 rfl (by decide) rfl ?_
    refine h_iinc (M := mX1_commonCode) (j := 2) (lv' := [(0, .ref (A qP)), (1, .long (iL t13)), (3, .int (iI (s1.2 + 1)))]) dX1_commonCode_23 rfl (Nat.le_of_ble_eq_true rfl) rfl ?_
    refine g_goto (M := mX1_commonCode) (tgt := 4) dX1_commonCode_26 (by decide) ?_
    exact b1 _ (Option.some.inj h1).symm
set_option maxHeartbeats 4000000 in
set_option maxRecDepth 100000 in
theorem wX1_improveOnce {X : zX} (hX : zOK X) {A : Nat → Nat} {n : Nat} {S : Nat → va_E} {qP : Nat} {VP : CV} (hP : isC X A shP qP VP S) (bP : qP + 1 < n) {qB : Nat} {VB : CV} (hB : isC X A shB qB VB S) (bB : qB + 6 < n) (dPB : qP + 1 < qB ∨ qB + 6 < qP) {res : CV × CV × Bool} (h : fX1_improveOnce VP VB = some res) : Con X yX1_improveOnce mX1_improveOnce 3 0 0 [.ref (A qP), .ref (A qB)] (zWs A n S) (zRet (zWs A n (zC X A shB qB res.2.1 (zC X A shP qP res.1 S))) (some (.int (iI (b2 res.2.2))))) := by
  refine con_of (lv := [(0, .ref (A qP)), (1, .ref (A qB))]) (by decide) rfl (fun h => by cases h) rfl (Nat.le_of_ble_eq_true rfl) rfl ?_
  refine g_ws (M := mX1_improveOnce) (congrArg (zWs A n) hP.symm) ?_
  refine g_ws (M := mX1_improveOnce) (congrArg (zWs A n) (isC.keepN hB 1 6 rfl rfl (by omega)).symm) ?_
  unfold fX1_improveOnce at h
  refine h_iconst (M := mX1_improveOnce) dX1_improveOnce_0 ?_
  refine g_istore_n (M := mX1_improveOnce) (lv' := [(0, .ref (A qP)), (1, .ref (A qB)), (2, .int (iI 0))]) dX1_improveOnce_1 rfl (by decide) rfl ?_
  refine h_iconst (M := mX1_improveOnce) dX1_improveOnce_2 ?_
  refine g_istore_n (M := mX1_improveOnce) (lv' := [(0, .ref (A qP)), (1, .ref (A qB)), (2, .int (iI 0)), (3, .int (iI 0))]) dX1_improveOnce_3 rfl (by decide) rfl ?_
  obtain ⟨x1, l1, h⟩ := zbi h
  have r1 : ∀ y1, y1 = x1 → G X mX1_improveOnce (zPm X 3 0 0 (zRet (zWs A n (zC X A shB qB res.2.1 (zC X A shP qP res.1 S))) (some (.int (iI (b2 res.2.2)))))) 0 0 37 [(2, .int (iI y1.1))] [] (zWs A n (zC X A shB qB y1.2.2.2 (zC X A shP qP y1.2.2.1 S))) := by
    intro y1 ey
    rw [← ey] at h
    refine g_iload_n (M := mX1_improveOnce) dX1_improveOnce_37 0 rfl rfl ?_
    obtain ⟨g10, h⟩ := zgi h
    refine h_top (M := mX1_improveOnce) (b := b2 (decide (y1.1 = 1))) (b2_d g10) ?_
    have e := (Option.some.inj h)
    subst e
    exact g_zret (M := mX1_improveOnce) .boolean dX1_improveOnce_38 rfl (b2_nar _) (Nat.le_of_ble_eq_true rfl) (Nat.le_of_ble_eq_true rfl) ⟨rfl, rfl⟩
  refine zLp_J (J := fun s1 => G X mX1_improveOnce (zPm X 3 0 0 (zRet (zWs A n (zC X A shB qB res.2.1 (zC X A shP qP res.1 S))) (some (.int (iI (b2 res.2.2)))))) 0 0 4 [(0, .ref (A qP)), (1, .ref (A qB)), (2, .int (iI s1.1)), (3, .int (iI s1.2.1))] [] (zWs A n (zC X A shB qB s1.2.2.2 (zC X A shP qP s1.2.2.1 S)))) (fun s1 w1 h1 b1 e1 => ?_) _ _ l1
  refine g_iload_n (M := mX1_improveOnce) dX1_improveOnce_4 3 rfl rfl ?_
  refine g_aload_n (M := mX1_improveOnce) dX1_improveOnce_5 1 rfl rfl ?_
  refine k_get (M := mX1_improveOnce) (v := .int (iI (s1.2.2.2.1 3))) dX1_improveOnce_6 kF_X1_26.r qB (by omega) (zC_o) rfl ?_
  obtain ⟨g12, h1⟩ := zgi h1
  refine h_icmp_ge (M := mX1_improveOnce) (tgt := 37) dX1_improveOnce_9 (by decide) g12.1 g12.2 (fun c11 => ?_) (fun c11 => ?_)
  · have h1 := zti c11 h1
    refine g_lv (M := mX1_improveOnce) [2] rfl ?_
    exact r1 _ (e1 _ (Option.some.inj h1).symm)
  · have h1 := zfi (Int.not_le.mpr c11) h1
    refine g_aload_n (M := mX1_improveOnce) dX1_improveOnce_12 1 rfl rfl ?_
    refine g_iload_n (M := mX1_improveOnce) dX1_improveOnce_13 3 rfl rfl ?_
    obtain ⟨t13, u14, h1⟩ := zbi h1
    refine g_callVr (M := mX1_improveOnce) [.int (iI s1.2.1)] hX dX1_improveOnce_14 vX0_isOut kM_X1_64 (wX0_isOut hX zC_self (by omega)  u14) qB (zWs_at (by omega) (zC_o)) rfl ⟨(Nat.le_of_ble_eq_true rfl), (Nat.le_of_ble_eq_true rfl)⟩ ⟨(Nat.le_of_ble_eq_true rfl), (Nat.le_of_ble_eq_true rfl)⟩ (Nat.le_of_ble_eq_true rfl) ?_
    refine h_bne (M := mX1_improveOnce) (tgt := 31) dX1_improveOnce_17 (by decide) (fun c15 => ?_) (fun c15 => ?_)
    · have h1 := zti c15 h1
      refine h_iinc (M := mX1_improveOnce) (j := 3) (lv' := [(0, .ref (A qP)), (1, .ref (A qB)), (2, .int (iI s1.1)), (3, .int (iI (s1.2.1 + 1)))]) dX1_improveOnce_31 rfl (Nat.le_of_ble_eq_true rfl) rfl ?_
      refine g_goto (M := mX1_improveOnce) (tgt := 4) dX1_improveOnce_34 (by decide) ?_
      exact b1 _ (Option.some.inj h1).symm
    · have h1 := zfi (zbf c15) h1
      refine g_aload_n (M := mX1_improveOnce) dX1_improveOnce_20 0 rfl rfl ?_
      refine g_aload_n (M := mX1_improveOnce) dX1_improveOnce_21 1 rfl rfl ?_
      refine g_iload_n (M := mX1_improveOnce) dX1_improveOnce_22 3 rfl rfl ?_
      obtain ⟨t16, u17, h1⟩ := zbi h1
      refine g_callVr (M := mX1_improveOnce) [.ref (A qB), .int (iI s1.2.1)] hX dX1_improveOnce_23 vX1_betterRow kM_X1_68 (wX1_betterRow hX (isC.keepN zC_self 6 1 rfl rfl (by omega)) (by omega) zC_self (by omega) (by omega) u17) qP (zWs_at (by omega) ((zC_skipN 6 rfl (by omega)).trans (zC_o))) rfl ⟨(Nat.le_of_ble_eq_true rfl), (Nat.le_of_ble_eq_true rfl)⟩ ⟨(Nat.le_of_ble_eq_true rfl), (Nat.le_of_ble_eq_true rfl)⟩ (Nat.le_of_ble_eq_true rfl) ?_
      refine g_ws (M := mX1_improveOnce) (congrArg (zWs A n) (zC_over2 1 6 rfl rfl (by omega))) ?_
      refine h_beq (M := mX1_improveOnce) (tgt := 31) dX1_improveOnce_26 (by decide) (fun c18 => ?_) (fun c18 => ?_)
      · have h1 := zfi (zbf c18) h1
        refine h_iinc (M := mX1_improveOnce) (j := 3) (lv' := [(0, .ref (A qP)), (1, .ref (A qB)), (2, .int (iI s1.1)), (3, .int (iI (s1.2.1 + 1)))]) dX1_improveOnce_31 rfl (Nat.le_of_ble_eq_true rfl) rfl ?_
        refine g_goto (M := mX1_improveOnce) (tgt := 4) dX1_improveOnce_34 (by decide) ?_
        exact b1 _ (Option.some.inj h1).symm
      · have h1 := zti c18 h1
        refine h_iconst (M := mX1_improveOnce) dX1_improveOnce_29 ?_
        refine g_istore_n (M := mX1_improveOnce) (lv' := [(0, .ref (A qP)), (1, .ref (A qB)), (2, .int (iI 1)), (3, .int (iI s1.2.1))]) dX1_improveOnce_30 rfl (by decide) rfl ?_
        refine h_iinc (M := mX1_improveOnce) (j := 3) (lv' := [(0, .ref (A qP)), (1, .ref (A qB)), (2, .int (iI 1)), (3, .int (iI (s1.2.1 + 1)))]) dX1_improveOnce_31 rfl (Nat.le_of_ble_eq_true rfl) rfl ?_
        refine g_goto (M := mX1_improveOnce) (tgt := 4) dX1_improveOnce_34 (by decide) ?_
        exact b1 _ (Option.some.inj h1).symm
set_option maxHeartbeats 4000000 in
set_option maxRecDepth 100000 in
theorem wX1_improveAtMost {X : zX} (hX : zOK X) {A : Nat → Nat} {n : Nat} {S : Nat → va_E} {qP : Nat} {VP : CV} (hP : isC X A shP qP VP S) (bP : qP + 1 < n) {qB : Nat} {VB : CV} (hB : isC X A shB qB VB S) (bB : qB + 6 < n) (dPB : qP + 1 < qB ∨ qB + 6 < qP) {a1 : Int} {res : CV × CV × Int} (h : fX1_improveAtMost VP VB a1 = some res) : Con X yX1_improveAtMost mX1_improveAtMost 4 0 0 [.ref (A qP), .ref (A qB), .int (iI a1)] (zWs A n S) (zRet (zWs A n (zC X A shB qB res.2.1 (zC X A shP qP res.1 S))) (some (.int (iI res.2.2)))) := by
  refine con_of (lv := [(0, .ref (A qP)), (1, .ref (A qB)), (2, .int (iI a1))]) (by decide) rfl (fun h => by cases h) rfl (Nat.le_of_ble_eq_true rfl) rfl ?_
  refine g_ws (M := mX1_improveAtMost) (congrArg (zWs A n) hP.symm) ?_
  refine g_ws (M := mX1_improveAtMost) (congrArg (zWs A n) (isC.keepN hB 1 6 rfl rfl (by omega)).symm) ?_
  unfold fX1_improveAtMost at h
  refine h_iconst (M := mX1_improveAtMost) dX1_improveAtMost_0 ?_
  refine g_istore_n (M := mX1_improveAtMost) (lv' := [(0, .ref (A qP)), (1, .ref (A qB)), (2, .int (iI a1)), (3, .int (iI 1))]) dX1_improveAtMost_1 rfl (by decide) rfl ?_
  obtain ⟨x1, l1, h⟩ := zbi h
  have r1 : ∀ y1, .inl y1 = x1 → G X mX1_improveAtMost (zPm X 4 0 0 (zRet (zWs A n (zC X A shB qB res.2.1 (zC X A shP qP res.1 S))) (some (.int (iI res.2.2))))) 0 0 23 [(0, .ref (A qP)), (1, .ref (A qB)), (2, .int (iI a1))] [] (zWs A n (zC X A shB qB y1.2.2 (zC X A shP qP y1.2.1 S))) := by
    intro y1 ey
    rw [← ey] at h
    have h := zsl h
    refine g_aload_n (M := mX1_improveAtMost) dX1_improveAtMost_23 0 rfl rfl ?_
    refine g_aload_n (M := mX1_improveAtMost) dX1_improveAtMost_24 1 rfl rfl ?_
    obtain ⟨t7, u8, h⟩ := zbi h
    refine g_callVr (M := mX1_improveAtMost) [.ref (A qB)] hX dX1_improveAtMost_25 vX1_improveOnce kM_X1_72 (wX1_improveOnce hX (isC.keepN zC_self 6 1 rfl rfl (by omega)) (by omega) zC_self (by omega) (by omega) u8) qP (zWs_at (by omega) ((zC_skipN 6 rfl (by omega)).trans (zC_o))) rfl ⟨(Nat.le_of_ble_eq_true rfl), (Nat.le_of_ble_eq_true rfl)⟩ ⟨(Nat.le_of_ble_eq_true rfl), (Nat.le_of_ble_eq_true rfl)⟩ (Nat.le_of_ble_eq_true rfl) ?_
    refine g_ws (M := mX1_improveAtMost) (congrArg (zWs A n) (zC_over2 1 6 rfl rfl (by omega))) ?_
    refine g_pop (M := mX1_improveAtMost) dX1_improveAtMost_28 rfl ?_
    refine g_iload_n (M := mX1_improveAtMost) dX1_improveAtMost_29 2 rfl rfl ?_
    have e := (Option.some.inj h)
    subst e
    exact g_iret (M := mX1_improveAtMost) dX1_improveAtMost_30 rfl (Nat.le_of_ble_eq_true rfl) (Nat.le_of_ble_eq_true rfl) ⟨rfl, rfl⟩
  have q1 : ∀ r, .inr r = x1 → r = res := by
    intro r er
    rw [← er] at h
    exact Option.some.inj h
  refine zLp_J (J := fun s1 => G X mX1_improveAtMost (zPm X 4 0 0 (zRet (zWs A n (zC X A shB qB res.2.1 (zC X A shP qP res.1 S))) (some (.int (iI res.2.2))))) 0 0 2 [(0, .ref (A qP)), (1, .ref (A qB)), (2, .int (iI a1)), (3, .int (iI s1.1))] [] (zWs A n (zC X A shB qB s1.2.2 (zC X A shP qP s1.2.1 S)))) (fun s1 w1 h1 b1 e1 => ?_) _ _ l1
  refine g_iload_n (M := mX1_improveAtMost) dX1_improveAtMost_2 3 rfl rfl ?_
  refine g_iload_n (M := mX1_improveAtMost) dX1_improveAtMost_3 2 rfl rfl ?_
  obtain ⟨g10, h1⟩ := zgi h1
  refine h_icmp_ge (M := mX1_improveAtMost) (tgt := 23) dX1_improveAtMost_4 (by decide) g10.1 g10.2 (fun c9 => ?_) (fun c9 => ?_)
  · have h1 := zti c9 h1
    refine g_lv (M := mX1_improveAtMost) [0, 1, 2] rfl ?_
    exact r1 _ (e1 _ (Option.some.inj h1).symm)
  · have h1 := zfi (Int.not_le.mpr c9) h1
    refine g_aload_n (M := mX1_improveAtMost) dX1_improveAtMost_7 0 rfl rfl ?_
    refine g_aload_n (M := mX1_improveAtMost) dX1_improveAtMost_8 1 rfl rfl ?_
    obtain ⟨t11, u12, h1⟩ := zbi h1
    refine g_callVr (M := mX1_improveAtMost) [.ref (A qB)] hX dX1_improveAtMost_9 vX1_improveOnce kM_X1_72 (wX1_improveOnce hX (isC.keepN zC_self 6 1 rfl rfl (by omega)) (by omega) zC_self (by omega) (by omega) u12) qP (zWs_at (by omega) ((zC_skipN 6 rfl (by omega)).trans (zC_o))) rfl ⟨(Nat.le_of_ble_eq_true rfl), (Nat.le_of_ble_eq_true rfl)⟩ ⟨(Nat.le_of_ble_eq_true rfl), (Nat.le_of_ble_eq_true rfl)⟩ (Nat.le_of_ble_eq_true rfl) ?_
    refine g_ws (M := mX1_improveAtMost) (congrArg (zWs A n) (zC_over2 1 6 rfl rfl (by omega))) ?_
    refine h_bne (M := mX1_improveAtMost) (tgt := 17) dX1_improveAtMost_12 (by decide) (fun c13 => ?_) (fun c13 => ?_)
    · have h1 := zti c13 h1
      refine h_iinc (M := mX1_improveAtMost) (j := 3) (lv' := [(0, .ref (A qP)), (1, .ref (A qB)), (2, .int (iI a1)), (3, .int (iI (s1.1 + 1)))]) dX1_improveAtMost_17 rfl (Nat.le_of_ble_eq_true rfl) rfl ?_
      refine g_goto (M := mX1_improveAtMost) (tgt := 2) dX1_improveAtMost_20 (by decide) ?_
      exact b1 _ (Option.some.inj h1).symm
    · have h1 := zfi (zbf c13) h1
      refine g_iload_n (M := mX1_improveAtMost) dX1_improveAtMost_15 3 rfl rfl ?_
      have e := (q1 _ (e1 _ (Option.some.inj h1).symm))
      subst e
      exact g_iret (M := mX1_improveAtMost) dX1_improveAtMost_16 rfl (Nat.le_of_ble_eq_true rfl) (Nat.le_of_ble_eq_true rfl) ⟨rfl, rfl⟩
