set_option maxHeartbeats 4000000 in
set_option maxRecDepth 100000 in
theorem wX8_report {X : zX} (hX : zOK X) {A : Nat → Nat} {n : Nat} {S : Nat → va_E} {qMo : Nat} {VMo : CV} (hMo : isC X A shMo qMo VMo S) (bMo : qMo + 20 < n) {res : CV × Int} (h : fX8_report VMo = some res) : Con X yX8_report mX8_report 2 0 0 [.ref (A qMo)] (zWs A n S) (zRet (zWs A n (zC X A shMo qMo res.1 S)) (some (.int (iI res.2)))) := by
  refine con_of (lv := [(0, .ref (A qMo))]) (by decide) rfl (fun h => by cases h) rfl (Nat.le_of_ble_eq_true rfl) rfl ?_
  refine g_ws (M := mX8_report) (congrArg (zWs A n) hMo.symm) ?_
  unfold fX8_report at h
  refine g_aload_n (M := mX8_report) dX8_report_0 0 rfl rfl ?_
  refine h_iconst (M := mX8_report) dX8_report_1 ?_
  refine c_put (M := mX8_report) (k := 0) dX8_report_2 kF_X8_81 (by omega) rfl rfl (by decide) rfl rfl ?_
  refine g_aload_n (M := mX8_report) dX8_report_5 0 rfl rfl ?_
  refine h_iconst (M := mX8_report) dX8_report_6 ?_
  refine c_put (M := mX8_report) (k := 47) dX8_report_7 kF_X8_449 (by omega) rfl rfl (by decide) rfl rfl ?_
  refine g_aload_n (M := mX8_report) dX8_report_10 0 rfl rfl ?_
  refine h_iconst (M := mX8_report) dX8_report_11 ?_
  refine c_put (M := mX8_report) (k := 48) dX8_report_12 kF_X8_457 (by omega) rfl rfl (by decide) rfl rfl ?_
  refine h_iconst (M := mX8_report) dX8_report_15 ?_
  refine g_istore_n (M := mX8_report) (lv' := [(0, .ref (A qMo)), (1, .int (iI 0))]) dX8_report_16 rfl (by decide) rfl ?_
  obtain ⟨x1, l1, h⟩ := zbi h
  have r1 : ∀ y1, y1 = x1 → G X mX8_report (zPm X 2 0 0 (zRet (zWs A n (zC X A shMo qMo res.1 S)) (some (.int (iI res.2))))) 0 0 168 [(0, .ref (A qMo))] [] (zWs A n (zC X A shMo qMo y1.2 S)) := by
    intro y1 ey
    rw [← ey] at h
    refine g_aload_n (M := mX8_report) dX8_report_168 0 rfl rfl ?_
    refine k_get (M := mX8_report) (v := .int (iI (y1.2.1 47))) dX8_report_169 kF_X8_449.r qMo (by omega) (zC_o) rfl ?_
    have e := (Option.some.inj h)
    subst e
    exact g_iret (M := mX8_report) dX8_report_172 rfl (Nat.le_of_ble_eq_true rfl) (Nat.le_of_ble_eq_true rfl) ⟨rfl, rfl⟩
  refine zLp_J (J := fun s1 => G X mX8_report (zPm X 2 0 0 (zRet (zWs A n (zC X A shMo qMo res.1 S)) (some (.int (iI res.2))))) 0 0 17 [(0, .ref (A qMo)), (1, .int (iI s1.1))] [] (zWs A n (zC X A shMo qMo s1.2 S))) (fun s1 w1 h1 b1 e1 => ?_) _ _ l1
  refine g_iload_n (M := mX8_report) dX8_report_17 1 rfl rfl ?_
  refine g_aload_n (M := mX8_report) dX8_report_18 0 rfl rfl ?_
  refine k_get (M := mX8_report) (v := .ref (A (qMo + 2))) dX8_report_19 kF_X8_20.r qMo (by omega) (zC_o) rfl ?_
  refine h_iconst (M := mX8_report) dX8_report_22 ?_
  refine k_iald (M := mX8_report) (len := 351) (f := s1.2.2 2) dX8_report_23 (qMo + 2) (by omega) (zC_a (d := (0, 351)) 1 rfl) (Nat.le_of_ble_eq_true rfl) (by decide) (by decide) ?_
  obtain ⟨g132, h1⟩ := zgi h1
  refine h_icmp_ge (M := mX8_report) (tgt := 168) dX8_report_24 (by decide) g132.1 g132.2 (fun c131 => ?_) (fun c131 => ?_)
  · have h1 := zti c131 h1
    refine g_lv (M := mX8_report) [0] rfl ?_
    exact r1 _ (e1 _ (Option.some.inj h1).symm)
  · have h1 := zfi (Int.not_le.mpr c131) h1
    refine g_aload_n (M := mX8_report) dX8_report_27 0 rfl rfl ?_
    refine g_iload_n (M := mX8_report) dX8_report_28 1 rfl rfl ?_
    obtain ⟨t133, u134, h1⟩ := zbi h1
    refine g_callVr (M := mX8_report) [.int (iI s1.1)] hX dX8_report_29 vX8_isOut kM_X8_226 (wX8_isOut hX zC_self (by omega)  u134) qMo (zWs_at (by omega) (zC_o)) rfl ⟨(Nat.le_of_ble_eq_true rfl), (Nat.le_of_ble_eq_true rfl)⟩ ⟨(Nat.le_of_ble_eq_true rfl), (Nat.le_of_ble_eq_true rfl)⟩ (Nat.le_of_ble_eq_true rfl) ?_
    refine zJn_J (J := fun x138 => G X mX8_report (zPm X 2 0 0 (zRet (zWs A n (zC X A shMo qMo res.1 S)) (some (.int (iI res.2))))) 0 0 41 [(0, .ref (A qMo)), (1, .int (iI s1.1))] [] (zWs A n (zC X A shMo qMo x138 S))) h1 (fun x138 h1 => ?_) (fun j138 h1 => ?_)
    · refine g_aload_n (M := mX8_report) dX8_report_41 0 rfl rfl ?_
      refine g_aload_n (M := mX8_report) dX8_report_42 0 rfl rfl ?_
      refine k_get (M := mX8_report) (v := .ref (A (qMo + 7))) dX8_report_43 kF_X8_35.r qMo (by omega) (zC_o) rfl ?_
      refine g_iload_n (M := mX8_report) dX8_report_46 1 rfl rfl ?_
      obtain ⟨g139, h1⟩ := zgi h1
      refine k_lald (M := mX8_report) (len := 10) (f := x138.2 7) dX8_report_47 (qMo + 7) (by omega) (zC_a (d := (1, 10)) 6 rfl) (Nat.le_of_ble_eq_true rfl) g139.1 g139.2 ?_
      obtain ⟨t140, u141, h1⟩ := zbi h1
      refine g_callVr (M := mX8_report) [.long (iL (x138.2 7 s1.1))] hX dX8_report_48 vX8_tellName kM_X8_460 (wX8_tellName hX zC_self (by omega)  u141) qMo (zWs_at (by omega) (zC_o)) rfl ⟨(Nat.le_of_ble_eq_true rfl), (Nat.le_of_ble_eq_true rfl)⟩ ⟨(Nat.le_of_ble_eq_true rfl), (Nat.le_of_ble_eq_true rfl)⟩ (Nat.le_of_ble_eq_true rfl) ?_
      refine g_ws (M := mX8_report) (congrArg (zWs A n) zC_over) ?_
      refine g_aload_n (M := mX8_report) dX8_report_51 0 rfl rfl ?_
      refine h_bipush (M := mX8_report) dX8_report_52 rfl ?_
      obtain ⟨t142, u143, h1⟩ := zbi h1
      refine g_callVr (M := mX8_report) [.int (iI 32)] hX dX8_report_54 vX8_tell kM_X8_454 (wX8_tell hX zC_self (by omega)  u143) qMo (zWs_at (by omega) (zC_o)) rfl ⟨(Nat.le_of_ble_eq_true rfl), (Nat.le_of_ble_eq_true rfl)⟩ ⟨(Nat.le_of_ble_eq_true rfl), (Nat.le_of_ble_eq_true rfl)⟩ (Nat.le_of_ble_eq_true rfl) ?_
      refine g_ws (M := mX8_report) (congrArg (zWs A n) zC_over) ?_
      refine g_aload_n (M := mX8_report) dX8_report_57 0 rfl rfl ?_
      refine g_iload_n (M := mX8_report) dX8_report_58 1 rfl rfl ?_
      refine h_iconst (M := mX8_report) dX8_report_59 ?_
      obtain ⟨t144, u145, h1⟩ := zbi h1
      refine g_callVr (M := mX8_report) [.int (iI s1.1), .int (iI 1)] hX dX8_report_60 vX8_of kM_X8_166 (wX8_of hX zC_self (by omega)  u145) qMo (zWs_at (by omega) (zC_o)) rfl ⟨(Nat.le_of_ble_eq_true rfl), (Nat.le_of_ble_eq_true rfl)⟩ ⟨(Nat.le_of_ble_eq_true rfl), (Nat.le_of_ble_eq_true rfl)⟩ (Nat.le_of_ble_eq_true rfl) ?_
      refine g_istore_n (M := mX8_report) (lv' := [(0, .ref (A qMo)), (1, .int (iI s1.1)), (2, .int (iI t144))]) dX8_report_63 rfl (by decide) rfl ?_
      refine h_iconst (M := mX8_report) dX8_report_64 ?_
      refine g_istore_n (M := mX8_report) (lv' := [(0, .ref (A qMo)), (1, .int (iI s1.1)), (2, .int (iI t144)), (3, .int (iI 0))]) dX8_report_65 rfl (by decide) rfl ?_
      obtain ⟨x146, l146, h1⟩ := zbi h1
      have r146 : ∀ y146, y146 = x146 → G X mX8_report (zPm X 2 0 0 (zRet (zWs A n (zC X A shMo qMo res.1 S)) (some (.int (iI res.2))))) 0 0 156 [(0, .ref (A qMo)), (1, .int (iI s1.1))] [] (zWs A n (zC X A shMo qMo y146.2 S)) := by
        intro y146 ey
        rw [← ey] at h1
        refine g_aload_n (M := mX8_report) dX8_report_156 0 rfl rfl ?_
        refine h_bipush (M := mX8_report) dX8_report_157 rfl ?_
        obtain ⟨t201, u202, h1⟩ := zbi h1
        refine g_callVr (M := mX8_report) [.int (iI 10)] hX dX8_report_159 vX8_tell kM_X8_454 (wX8_tell hX zC_self (by omega)  u202) qMo (zWs_at (by omega) (zC_o)) rfl ⟨(Nat.le_of_ble_eq_true rfl), (Nat.le_of_ble_eq_true rfl)⟩ ⟨(Nat.le_of_ble_eq_true rfl), (Nat.le_of_ble_eq_true rfl)⟩ (Nat.le_of_ble_eq_true rfl) ?_
        refine g_ws (M := mX8_report) (congrArg (zWs A n) zC_over) ?_
        refine h_iinc (M := mX8_report) (j := 1) (lv' := [(0, .ref (A qMo)), (1, .int (iI (s1.1 + 1)))]) dX8_report_162 rfl (Nat.le_of_ble_eq_true rfl) rfl ?_
        refine g_goto (M := mX8_report) (tgt := 17) dX8_report_165 (by decide) ?_
        exact b1 _ (Option.some.inj h1).symm
      refine zLp_J (J := fun s146 => G X mX8_report (zPm X 2 0 0 (zRet (zWs A n (zC X A shMo qMo res.1 S)) (some (.int (iI res.2))))) 0 0 66 [(0, .ref (A qMo)), (1, .int (iI s1.1)), (2, .int (iI t144)), (3, .int (iI s146.1))] [] (zWs A n (zC X A shMo qMo s146.2 S))) (fun s146 w146 h146 b146 e146 => ?_) _ _ l146
      refine g_iload_n (M := mX8_report) dX8_report_66 3 rfl rfl ?_
      refine g_aload_n (M := mX8_report) dX8_report_67 0 rfl rfl ?_
      refine g_iload_n (M := mX8_report) dX8_report_68 1 rfl rfl ?_
      refine h_iconst (M := mX8_report) dX8_report_69 ?_
      obtain ⟨t203, u204, h146⟩ := zbi h146
      refine g_callVr (M := mX8_report) [.int (iI s1.1), .int (iI 0)] hX dX8_report_70 vX8_of kM_X8_166 (wX8_of hX zC_self (by omega)  u204) qMo (zWs_at (by omega) (zC_o)) rfl ⟨(Nat.le_of_ble_eq_true rfl), (Nat.le_of_ble_eq_true rfl)⟩ ⟨(Nat.le_of_ble_eq_true rfl), (Nat.le_of_ble_eq_true rfl)⟩ (Nat.le_of_ble_eq_true rfl) ?_
      obtain ⟨g206, h146⟩ := zgi h146
      refine h_icmp_ge (M := mX8_report) (tgt := 156) dX8_report_73 (by decide) g206.1 g206.2 (fun c205 => ?_) (fun c205 => ?_)
      · have h146 := zti c205 h146
        refine g_lv (M := mX8_report) [0, 1] rfl ?_
        exact r146 _ (e146 _ (Option.some.inj h146).symm)
      · have h146 := zfi (Int.not_le.mpr c205) h146
        refine g_iload_n (M := mX8_report) dX8_report_76 2 rfl rfl ?_
        refine h_iconst (M := mX8_report) dX8_report_77 ?_
        refine zJn_J (J := fun x220 => G X mX8_report (zPm X 2 0 0 (zRet (zWs A n (zC X A shMo qMo res.1 S)) (some (.int (iI res.2))))) 0 0 107 [(0, .ref (A qMo)), (1, .int (iI s1.1)), (2, .int (iI t144)), (3, .int (iI s146.1))] [.int (iI x220)] (zWs A n (zC X A shMo qMo s146.2 S))) h146 (fun x220 h146 => ?_) (fun j220 h146 => ?_)
        · refine g_istore (M := mX8_report) (lv' := [(0, .ref (A qMo)), (1, .int (iI s1.1)), (2, .int (iI t144)), (3, .int (iI s146.1)), (4, .int (iI x220))]) dX8_report_107 (by decide) rfl ?_
          refine g_aload_n (M := mX8_report) dX8_report_109 0 rfl rfl ?_
          refine g_aload_n (M := mX8_report) dX8_report_110 0 rfl rfl ?_
          refine g_iload_n (M := mX8_report) dX8_report_111 1 rfl rfl ?_
          refine h_iconst (M := mX8_report) dX8_report_112 ?_
          obtain ⟨t221, u222, h146⟩ := zbi h146
          refine g_callVr (M := mX8_report) [.int (iI s1.1), .int (iI 3)] hX dX8_report_113 vX8_of kM_X8_166 (wX8_of hX zC_self (by omega)  u222) qMo (zWs_at (by omega) (zC_o)) rfl ⟨(Nat.le_of_ble_eq_true rfl), (Nat.le_of_ble_eq_true rfl)⟩ ⟨(Nat.le_of_ble_eq_true rfl), (Nat.le_of_ble_eq_true rfl)⟩ (Nat.le_of_ble_eq_true rfl) ?_
          refine g_iload_n (M := mX8_report) dX8_report_116 3 rfl rfl ?_
          obtain ⟨t223, u224, h146⟩ := zbi h146
          refine g_callSr (M := mX8_report) [.int (iI t221), .int (iI s146.1)] hX dX8_report_117 vX8_hasBit kM_X8_186 (wX8_hasBit hX   u224) rfl ⟨(Nat.le_of_ble_eq_true rfl), (Nat.le_of_ble_eq_true rfl)⟩ ⟨(Nat.le_of_ble_eq_true rfl), (Nat.le_of_ble_eq_true rfl)⟩ (Nat.le_of_ble_eq_true rfl) ?_
          refine zJn_J (J := fun x233 => G X mX8_report (zPm X 2 0 0 (zRet (zWs A n (zC X A shMo qMo res.1 S)) (some (.int (iI res.2))))) 0 0 147 [(0, .ref (A qMo)), (1, .int (iI s1.1)), (2, .int (iI t144)), (3, .int (iI s146.1))] [.int (iI x233), .ref (A qMo)] (zWs A n (zC X A shMo qMo s146.2 S))) h146 (fun x233 h146 => ?_) (fun j233 h146 => ?_)
          · obtain ⟨t234, u235, h146⟩ := zbi h146
            refine g_callVr (M := mX8_report) [.int (iI x233)] hX dX8_report_147 vX8_tell kM_X8_454 (wX8_tell hX zC_self (by omega)  u235) qMo (zWs_at (by omega) (zC_o)) rfl ⟨(Nat.le_of_ble_eq_true rfl), (Nat.le_of_ble_eq_true rfl)⟩ ⟨(Nat.le_of_ble_eq_true rfl), (Nat.le_of_ble_eq_true rfl)⟩ (Nat.le_of_ble_eq_true rfl) ?_
            refine g_ws (M := mX8_report) (congrArg (zWs A n) zC_over) ?_
            refine h_iinc (M := mX8_report) (j := 3) (lv' := [(0, .ref (A qMo)), (1, .int (iI s1.1)), (2, .int (iI t144)), (3, .int (iI (s146.1 + 1)))]) dX8_report_150 rfl (Nat.le_of_ble_eq_true rfl) rfl ?_
            refine g_goto (M := mX8_report) (tgt := 66) dX8_report_153 (by decide) ?_
            exact b146 _ (Option.some.inj h146).symm
          · refine h_beq (M := mX8_report) (tgt := 128) dX8_report_120 (by decide) (fun c236 => ?_) (fun c236 => ?_)
            · have h146 := zfi (zbf c236) h146
              refine g_iload (M := mX8_report) dX8_report_128 4 rfl ?_
              refine zJn_J (J := fun x239 => G X mX8_report (zPm X 2 0 0 (zRet (zWs A n (zC X A shMo qMo res.1 S)) (some (.int (iI res.2))))) 0 0 140 [(0, .ref (A qMo)), (1, .int (iI s1.1)), (2, .int (iI t144)), (3, .int (iI s146.1))] [.int (iI x239), .ref (A qMo)] (zWs A n (zC X A shMo qMo s146.2 S))) h146 (fun x239 h146 => ?_) (fun j239 h146 => ?_)
              · refine g_aload_n (M := mX8_report) dX8_report_140 0 rfl rfl ?_
                refine g_iload_n (M := mX8_report) dX8_report_141 1 rfl rfl ?_
                refine g_iload_n (M := mX8_report) dX8_report_142 3 rfl rfl ?_
                obtain ⟨t240, u241, h146⟩ := zbi h146
                refine g_callVr (M := mX8_report) [.int (iI s1.1), .int (iI s146.1)] hX dX8_report_143 vX8_letterAt kM_X8_232 (wX8_letterAt hX zC_self (by omega)  u241) qMo (zWs_at (by omega) (zC_o)) rfl ⟨(Nat.le_of_ble_eq_true rfl), (Nat.le_of_ble_eq_true rfl)⟩ ⟨(Nat.le_of_ble_eq_true rfl), (Nat.le_of_ble_eq_true rfl)⟩ (Nat.le_of_ble_eq_true rfl) ?_
                refine h_iadd (M := mX8_report) dX8_report_146 ?_
                exact j233 (x239 + t240) h146
              · obtain ⟨g243, h146⟩ := zgi h146
                refine h_if_eq (M := mX8_report) (tgt := 138) dX8_report_130 (by decide) g243 (fun c242 => ?_) (fun c242 => ?_)
                · have h146 := zti c242 h146
                  refine h_bipush (M := mX8_report) dX8_report_138 rfl ?_
                  refine g_lv (M := mX8_report) [0, 1, 2, 3] rfl ?_
                  exact j239 97 h146
                · have h146 := zfi c242 h146
                  refine h_bipush (M := mX8_report) dX8_report_133 rfl ?_
                  refine g_goto (M := mX8_report) (tgt := 140) dX8_report_135 (by decide) ?_
                  refine g_lv (M := mX8_report) [0, 1, 2, 3] rfl ?_
                  exact j239 65 h146
            · have h146 := zti c236 h146
              refine h_bipush (M := mX8_report) dX8_report_123 rfl ?_
              refine g_goto (M := mX8_report) (tgt := 147) dX8_report_125 (by decide) ?_
              refine g_lv (M := mX8_report) [0, 1, 2, 3] rfl ?_
              exact j233 42 h146
        · refine zJn_J (J := fun x250 => G X mX8_report (zPm X 2 0 0 (zRet (zWs A n (zC X A shMo qMo res.1 S)) (some (.int (iI res.2))))) 0 0 106 [(0, .ref (A qMo)), (1, .int (iI s1.1)), (2, .int (iI t144)), (3, .int (iI s146.1))] [] (zWs A n (zC X A shMo qMo s146.2 S))) h146 (fun x250 h146 => ?_) (fun j250 h146 => ?_)
          · refine h_iconst (M := mX8_report) dX8_report_106 ?_
            exact j220 0 h146
          · obtain ⟨g252, h146⟩ := zgi h146
            refine h_icmp_eq (M := mX8_report) (tgt := 106) dX8_report_78 (by decide) g252 (by decide) (fun c251 => ?_) (fun c251 => ?_)
            · have h146 := zti c251 h146
              exact j250 () h146
            · have h146 := zfi c251 h146
              refine g_iload_n (M := mX8_report) dX8_report_81 3 rfl rfl ?_
              refine h_i2l (M := mX8_report) dX8_report_82 g206.1 ?_
              refine g_iload_n (M := mX8_report) dX8_report_83 2 rfl rfl ?_
              refine h_i2l (M := mX8_report) dX8_report_84 g252 ?_
              refine g_iload_n (M := mX8_report) dX8_report_85 2 rfl rfl ?_
              refine g_aload_n (M := mX8_report) dX8_report_86 0 rfl rfl ?_
              refine k_get (M := mX8_report) (v := .ref (A (qMo + 2))) dX8_report_87 kF_X8_20.r qMo (by omega) (zC_o) rfl ?_
              refine h_iconst (M := mX8_report) dX8_report_90 ?_
              refine k_iald (M := mX8_report) (len := 351) (f := s146.2.2 2) dX8_report_91 (qMo + 2) (by omega) (zC_a (d := (0, 351)) 1 rfl) (Nat.le_of_ble_eq_true rfl) (by decide) (by decide) ?_
              refine h_iadd (M := mX8_report) dX8_report_92 ?_
              refine h_iconst (M := mX8_report) dX8_report_93 ?_
              refine h_isub (M := mX8_report) dX8_report_94 ?_
              obtain ⟨g253, h146⟩ := zgi h146
              refine h_i2l (M := mX8_report) dX8_report_95 g253 ?_
              obtain ⟨t254, u255, h146⟩ := zbi h146
              refine g_callSr (M := mX8_report) [.long (iL s146.1), .long (iL t144), .long (iL ((t144 + (s146.2.2 2 2)) - 1))] hX dX8_report_96 vX8_isIn kM_X8_99 (wX8_isIn hX   u255) rfl ⟨(Nat.le_of_ble_eq_true rfl), (Nat.le_of_ble_eq_true rfl)⟩ ⟨(Nat.le_of_ble_eq_true rfl), (Nat.le_of_ble_eq_true rfl)⟩ (Nat.le_of_ble_eq_true rfl) ?_
              refine h_beq (M := mX8_report) (tgt := 106) dX8_report_99 (by decide) (fun c256 => ?_) (fun c256 => ?_)
              · have h146 := zfi (zbf c256) h146
                exact j250 () h146
              · have h146 := zti c256 h146
                refine h_iconst (M := mX8_report) dX8_report_102 ?_
                refine g_goto (M := mX8_report) (tgt := 107) dX8_report_103 (by decide) ?_
                exact j220 1 h146
    · refine h_beq (M := mX8_report) (tgt := 41) dX8_report_32 (by decide) (fun c257 => ?_) (fun c257 => ?_)
      · have h1 := zfi (zbf c257) h1
        exact j138 s1.2 h1
      · have h1 := zti c257 h1
        refine g_aload_n (M := mX8_report) dX8_report_35 0 rfl rfl ?_
        refine h_bipush (M := mX8_report) dX8_report_36 rfl ?_
        obtain ⟨t258, u259, h1⟩ := zbi h1
        refine g_callVr (M := mX8_report) [.int (iI 45)] hX dX8_report_38 vX8_tell kM_X8_454 (wX8_tell hX zC_self (by omega)  u259) qMo (zWs_at (by omega) (zC_o)) rfl ⟨(Nat.le_of_ble_eq_true rfl), (Nat.le_of_ble_eq_true rfl)⟩ ⟨(Nat.le_of_ble_eq_true rfl), (Nat.le_of_ble_eq_true rfl)⟩ (Nat.le_of_ble_eq_true rfl) ?_
        refine g_ws (M := mX8_report) (congrArg (zWs A n) zC_over) ?_
        exact j138 t258 h1
set_option maxHeartbeats 4000000 in
set_option maxRecDepth 100000 in
theorem wX8_reportByte {X : zX} (hX : zOK X) {A : Nat → Nat} {n : Nat} {S : Nat → va_E} {qMo : Nat} {VMo : CV} (hMo : isC X A shMo qMo VMo S) (bMo : qMo + 20 < n) {a1 : Int} {res : CV × Int} (h : fX8_reportByte VMo a1 = some res) : Con X yX8_reportByte mX8_reportByte 2 0 0 [.ref (A qMo), .int (iI a1)] (zWs A n S) (zRet (zWs A n (zC X A shMo qMo res.1 S)) (some (.int (iI res.2)))) := by
  refine con_of (lv := [(0, .ref (A qMo)), (1, .int (iI a1))]) (by decide) rfl (fun h => by cases h) rfl (Nat.le_of_ble_eq_true rfl) rfl ?_
  refine g_ws (M := mX8_reportByte) (congrArg (zWs A n) hMo.symm) ?_
  unfold fX8_reportByte at h
  refine g_aload_n (M := mX8_reportByte) dX8_reportByte_0 0 rfl rfl ?_
  refine g_aload_n (M := mX8_reportByte) dX8_reportByte_1 0 rfl rfl ?_
  refine k_get (M := mX8_reportByte) (v := .int (iI (VMo.1 48))) dX8_reportByte_2 kF_X8_457.r qMo (by omega) (zC_o) rfl ?_
  refine zJn_J (J := fun x16 => G X mX8_reportByte (zPm X 2 0 0 (zRet (zWs A n (zC X A shMo qMo res.1 S)) (some (.int (iI res.2))))) 0 0 29 [(0, .ref (A qMo)), (1, .int (iI a1))] [.int (iI x16), .ref (A qMo)] (zWs A n (zC X A shMo qMo VMo S))) h (fun x16 h => ?_) (fun j16 h => ?_)
  · obtain ⟨t17, u18, h⟩ := zbi h
    refine g_callVr (M := mX8_reportByte) [.int (iI x16)] hX dX8_reportByte_29 vX8_goes kM_X8_91 (wX8_goes hX zC_self (by omega)  u18) qMo (zWs_at (by omega) (zC_o)) rfl ⟨(Nat.le_of_ble_eq_true rfl), (Nat.le_of_ble_eq_true rfl)⟩ ⟨(Nat.le_of_ble_eq_true rfl), (Nat.le_of_ble_eq_true rfl)⟩ (Nat.le_of_ble_eq_true rfl) ?_
    refine g_ws (M := mX8_reportByte) (congrArg (zWs A n) zC_over) ?_
    refine h_beq (M := mX8_reportByte) (tgt := 44) dX8_reportByte_32 (by decide) (fun c19 => ?_) (fun c19 => ?_)
    · have h := zfi (zbf c19) h
      refine h_iconst (M := mX8_reportByte) dX8_reportByte_44 ?_
      have e := (Option.some.inj h)
      subst e
      exact g_iret (M := mX8_reportByte) dX8_reportByte_45 rfl (Nat.le_of_ble_eq_true rfl) (Nat.le_of_ble_eq_true rfl) ⟨rfl, rfl⟩
    · have h := zti c19 h
      refine g_aload_n (M := mX8_reportByte) dX8_reportByte_35 0 rfl rfl ?_
      refine k_get (M := mX8_reportByte) (v := .ref (A (qMo + 20))) dX8_reportByte_36 kF_X8_75.r qMo (by omega) (zC_o) rfl ?_
      refine g_iload_n (M := mX8_reportByte) dX8_reportByte_39 1 rfl rfl ?_
      obtain ⟨g20, h⟩ := zgi h
      refine k_iald (M := mX8_reportByte) (len := 500) (f := t17.1.2 20) dX8_reportByte_40 (qMo + 20) (by omega) (zC_a (d := (0, 500)) 19 rfl) (Nat.le_of_ble_eq_true rfl) g20.1 g20.2 ?_
      refine g_goto (M := mX8_reportByte) (tgt := 45) dX8_reportByte_41 (by decide) ?_
      have e := (Option.some.inj h)
      subst e
      exact g_iret (M := mX8_reportByte) dX8_reportByte_45 rfl (Nat.le_of_ble_eq_true rfl) (Nat.le_of_ble_eq_true rfl) ⟨rfl, rfl⟩
  · refine zJn_J (J := fun x28 => G X mX8_reportByte (zPm X 2 0 0 (zRet (zWs A n (zC X A shMo qMo res.1 S)) (some (.int (iI res.2))))) 0 0 28 [(0, .ref (A qMo)), (1, .int (iI a1))] [.ref (A qMo)] (zWs A n (zC X A shMo qMo VMo S))) h (fun x28 h => ?_) (fun j28 h => ?_)
    · refine h_iconst (M := mX8_reportByte) dX8_reportByte_28 ?_
      exact j16 0 h
    · obtain ⟨g30, h⟩ := zgi h
      refine h_if_eq (M := mX8_reportByte) (tgt := 28) dX8_reportByte_5 (by decide) g30 (fun c29 => ?_) (fun c29 => ?_)
      · have h := zti c29 h
        exact j28 () h
      · have h := zfi c29 h
        refine g_iload_n (M := mX8_reportByte) dX8_reportByte_8 1 rfl rfl ?_
        obtain ⟨g31, h⟩ := zgi h
        refine h_i2l (M := mX8_reportByte) dX8_reportByte_9 g31 ?_
        refine g_lconst (M := mX8_reportByte) (v := iL 0) dX8_reportByte_10 rfl ?_
        refine g_aload_n (M := mX8_reportByte) dX8_reportByte_11 0 rfl rfl ?_
        refine k_get (M := mX8_reportByte) (v := .int (iI (VMo.1 47))) dX8_reportByte_12 kF_X8_449.r qMo (by omega) (zC_o) rfl ?_
        refine h_iconst (M := mX8_reportByte) dX8_reportByte_15 ?_
        refine h_isub (M := mX8_reportByte) dX8_reportByte_16 ?_
        obtain ⟨g32, h⟩ := zgi h
        refine h_i2l (M := mX8_reportByte) dX8_reportByte_17 g32 ?_
        obtain ⟨t33, u34, h⟩ := zbi h
        refine g_callSr (M := mX8_reportByte) [.long (iL a1), .long (iL 0), .long (iL ((VMo.1 47) - 1))] hX dX8_reportByte_18 vX8_isIn kM_X8_99 (wX8_isIn hX   u34) rfl ⟨(Nat.le_of_ble_eq_true rfl), (Nat.le_of_ble_eq_true rfl)⟩ ⟨(Nat.le_of_ble_eq_true rfl), (Nat.le_of_ble_eq_true rfl)⟩ (Nat.le_of_ble_eq_true rfl) ?_
        refine h_beq (M := mX8_reportByte) (tgt := 28) dX8_reportByte_21 (by decide) (fun c35 => ?_) (fun c35 => ?_)
        · have h := zfi (zbf c35) h
          exact j28 () h
        · have h := zti c35 h
          refine h_iconst (M := mX8_reportByte) dX8_reportByte_24 ?_
          refine g_goto (M := mX8_reportByte) (tgt := 29) dX8_reportByte_25 (by decide) ?_
          exact j16 1 h
set_option maxHeartbeats 4000000 in
set_option maxRecDepth 100000 in
theorem wX8_restore {X : zX} (hX : zOK X) {A : Nat → Nat} {n : Nat} {S : Nat → va_E} {qMo : Nat} {VMo : CV} (hMo : isC X A shMo qMo VMo S) (bMo : qMo + 20 < n) {res : CV × Int} (h : fX8_restore VMo = some res) : Con X yX8_restore mX8_restore 2 0 0 [.ref (A qMo)] (zWs A n S) (zRet (zWs A n (zC X A shMo qMo res.1 S)) (some (.int (iI res.2)))) := by
  refine con_of (lv := [(0, .ref (A qMo))]) (by decide) rfl (fun h => by cases h) rfl (Nat.le_of_ble_eq_true rfl) rfl ?_
  refine g_ws (M := mX8_restore) (congrArg (zWs A n) hMo.symm) ?_
  unfold fX8_restore at h
  refine g_aload_n (M := mX8_restore) dX8_restore_0 0 rfl rfl ?_
  refine g_aload_n (M := mX8_restore) dX8_restore_1 0 rfl rfl ?_
  refine k_get (M := mX8_restore) (v := .int (iI (VMo.1 23))) dX8_restore_2 kF_X8_158.r qMo (by omega) (zC_o) rfl ?_
  obtain ⟨t1, u2, h⟩ := zbi h
  refine g_callVr (M := mX8_restore) [.int (iI (VMo.1 23))] hX dX8_restore_5 vX8_goes kM_X8_91 (wX8_goes hX zC_self (by omega)  u2) qMo (zWs_at (by omega) (zC_o)) rfl ⟨(Nat.le_of_ble_eq_true rfl), (Nat.le_of_ble_eq_true rfl)⟩ ⟨(Nat.le_of_ble_eq_true rfl), (Nat.le_of_ble_eq_true rfl)⟩ (Nat.le_of_ble_eq_true rfl) ?_
  refine g_ws (M := mX8_restore) (congrArg (zWs A n) zC_over) ?_
  refine h_bne (M := mX8_restore) (tgt := 13) dX8_restore_8 (by decide) (fun c3 => ?_) (fun c3 => ?_)
  · have h := zti c3 h
    refine h_iconst (M := mX8_restore) dX8_restore_13 ?_
    refine g_istore_n (M := mX8_restore) (lv' := [(0, .ref (A qMo)), (1, .int (iI 0))]) dX8_restore_14 rfl (by decide) rfl ?_
    obtain ⟨x4, l4, h⟩ := zbi h
    have r4 : ∀ y4, y4 = x4 → G X mX8_restore (zPm X 2 0 0 (zRet (zWs A n (zC X A shMo qMo res.1 S)) (some (.int (iI res.2))))) 0 0 40 [(0, .ref (A qMo))] [] (zWs A n (zC X A shMo qMo y4.2 S)) := by
      intro y4 ey
      rw [← ey] at h
      refine h_iconst (M := mX8_restore) dX8_restore_40 ?_
      refine g_istore_n (M := mX8_restore) (lv' := [(0, .ref (A qMo)), (1, .int (iI 0))]) dX8_restore_41 rfl (by decide) rfl ?_
      obtain ⟨x8, l8, h⟩ := zbi h
      have r8 : ∀ y8, y8 = x8 → G X mX8_restore (zPm X 2 0 0 (zRet (zWs A n (zC X A shMo qMo res.1 S)) (some (.int (iI res.2))))) 0 0 66 [(0, .ref (A qMo))] [] (zWs A n (zC X A shMo qMo y8.2 S)) := by
        intro y8 ey
        rw [← ey] at h
        refine g_aload_n (M := mX8_restore) dX8_restore_66 0 rfl rfl ?_
        refine h_iconst (M := mX8_restore) dX8_restore_67 ?_
        refine c_put (M := mX8_restore) (k := 22) dX8_restore_68 kF_X8_155 (by omega) rfl rfl (by decide) rfl rfl ?_
        refine g_aload_n (M := mX8_restore) dX8_restore_71 0 rfl rfl ?_
        refine k_get (M := mX8_restore) (v := .ref (A (qMo + 2))) dX8_restore_72 kF_X8_20.r qMo (by omega) (zC_o) rfl ?_
        refine h_iconst (M := mX8_restore) dX8_restore_75 ?_
        refine k_iald (M := mX8_restore) (len := 351) (f := y8.2.2 2) dX8_restore_76 (qMo + 2) (by omega) (zC_a (d := (0, 351)) 1 rfl) (Nat.le_of_ble_eq_true rfl) (by decide) (by decide) ?_
        have e := (Option.some.inj h)
        subst e
        exact g_iret (M := mX8_restore) dX8_restore_77 rfl (Nat.le_of_ble_eq_true rfl) (Nat.le_of_ble_eq_true rfl) ⟨rfl, rfl⟩
      refine zLp_J (J := fun s8 => G X mX8_restore (zPm X 2 0 0 (zRet (zWs A n (zC X A shMo qMo res.1 S)) (some (.int (iI res.2))))) 0 0 42 [(0, .ref (A qMo)), (1, .int (iI s8.1))] [] (zWs A n (zC X A shMo qMo s8.2 S))) (fun s8 w8 h8 b8 e8 => ?_) _ _ l8
      refine g_iload_n (M := mX8_restore) dX8_restore_42 1 rfl rfl ?_
      refine h_bipush (M := mX8_restore) dX8_restore_43 rfl ?_
      obtain ⟨g13, h8⟩ := zgi h8
      refine h_icmp_ge (M := mX8_restore) (tgt := 66) dX8_restore_45 (by decide) g13 (by decide) (fun c12 => ?_) (fun c12 => ?_)
      · have h8 := zti c12 h8
        refine g_lv (M := mX8_restore) [0] rfl ?_
        exact r8 _ (e8 _ (Option.some.inj h8).symm)
      · have h8 := zfi (Int.not_le.mpr c12) h8
        refine g_aload_n (M := mX8_restore) dX8_restore_48 0 rfl rfl ?_
        refine k_get (M := mX8_restore) (v := .ref (A (qMo + 7))) dX8_restore_49 kF_X8_35.r qMo (by omega) (zC_o) rfl ?_
        refine g_iload_n (M := mX8_restore) dX8_restore_52 1 rfl rfl ?_
        refine g_aload_n (M := mX8_restore) dX8_restore_53 0 rfl rfl ?_
        refine k_get (M := mX8_restore) (v := .ref (A (qMo + 8))) dX8_restore_54 kF_X8_39.r qMo (by omega) (zC_o) rfl ?_
        refine g_iload_n (M := mX8_restore) dX8_restore_57 1 rfl rfl ?_
        obtain ⟨g14, h8⟩ := zgi h8
        refine k_lald (M := mX8_restore) (len := 10) (f := s8.2.2 8) dX8_restore_58 (qMo + 8) (by omega) (zC_a (d := (1, 10)) 7 rfl) (Nat.le_of_ble_eq_true rfl) g14.1 g14.2 ?_
        refine c_last (M := mX8_restore) (len := 10) (d := (1, 10)) dX8_restore_59 6 rfl rfl (by omega) (Nat.le_of_ble_eq_true rfl) g14.1 g14.2 ?_
        refine h_iinc (M := mX8_restore) (j := 1) (lv' := [(0, .ref (A qMo)), (1, .int (iI (s8.1 + 1)))]) dX8_restore_60 rfl (Nat.le_of_ble_eq_true rfl) rfl ?_
        refine g_goto (M := mX8_restore) (tgt := 42) dX8_restore_63 (by decide) ?_
        exact b8 _ (Option.some.inj h8).symm
    refine zLp_J (J := fun s4 => G X mX8_restore (zPm X 2 0 0 (zRet (zWs A n (zC X A shMo qMo res.1 S)) (some (.int (iI res.2))))) 0 0 15 [(0, .ref (A qMo)), (1, .int (iI s4.1))] [] (zWs A n (zC X A shMo qMo s4.2 S))) (fun s4 w4 h4 b4 e4 => ?_) _ _ l4
    refine g_iload_n (M := mX8_restore) dX8_restore_15 1 rfl rfl ?_
    refine h_sipush (M := mX8_restore) dX8_restore_16 rfl ?_
    obtain ⟨g16, h4⟩ := zgi h4
    refine h_icmp_ge (M := mX8_restore) (tgt := 40) dX8_restore_19 (by decide) g16 (by decide) (fun c15 => ?_) (fun c15 => ?_)
    · have h4 := zti c15 h4
      refine g_lv (M := mX8_restore) [0] rfl ?_
      exact r4 _ (e4 _ (Option.some.inj h4).symm)
    · have h4 := zfi (Int.not_le.mpr c15) h4
      refine g_aload_n (M := mX8_restore) dX8_restore_22 0 rfl rfl ?_
      refine k_get (M := mX8_restore) (v := .ref (A (qMo + 2))) dX8_restore_23 kF_X8_20.r qMo (by omega) (zC_o) rfl ?_
      refine g_iload_n (M := mX8_restore) dX8_restore_26 1 rfl rfl ?_
      refine g_aload_n (M := mX8_restore) dX8_restore_27 0 rfl rfl ?_
      refine k_get (M := mX8_restore) (v := .ref (A (qMo + 3))) dX8_restore_28 kF_X8_23.r qMo (by omega) (zC_o) rfl ?_
      refine g_iload_n (M := mX8_restore) dX8_restore_31 1 rfl rfl ?_
      obtain ⟨g17, h4⟩ := zgi h4
      refine k_iald (M := mX8_restore) (len := 351) (f := s4.2.2 3) dX8_restore_32 (qMo + 3) (by omega) (zC_a (d := (0, 351)) 2 rfl) (Nat.le_of_ble_eq_true rfl) g17.1 g17.2 ?_
      refine c_iast (M := mX8_restore) (len := 351) (d := (0, 351)) dX8_restore_33 1 rfl rfl (by omega) (Nat.le_of_ble_eq_true rfl) g17.1 g17.2 ?_
      refine h_iinc (M := mX8_restore) (j := 1) (lv' := [(0, .ref (A qMo)), (1, .int (iI (s4.1 + 1)))]) dX8_restore_34 rfl (Nat.le_of_ble_eq_true rfl) rfl ?_
      refine g_goto (M := mX8_restore) (tgt := 15) dX8_restore_37 (by decide) ?_
      exact b4 _ (Option.some.inj h4).symm
  · have h := zfi (zbf c3) h
    refine h_iconst (M := mX8_restore) dX8_restore_11 ?_
    have e := (Option.some.inj h)
    subst e
    exact g_iret (M := mX8_restore) dX8_restore_12 rfl (Nat.le_of_ble_eq_true rfl) (Nat.le_of_ble_eq_true rfl) ⟨rfl, rfl⟩
set_option maxHeartbeats 4000000 in
set_option maxRecDepth 100000 in
theorem wX8_row {X : zX} (hX : zOK X) {A : Nat → Nat} {n : Nat} {S : Nat → va_E} {qMo : Nat} {VMo : CV} (hMo : isC X A shMo qMo VMo S) (bMo : qMo + 20 < n) {a1 : Int} {a2 : Int} {res : CV × Int} (h : fX8_row VMo a1 a2 = some res) : Con X yX8_row mX8_row 4 0 0 [.ref (A qMo), .int (iI a1), .int (iI a2)] (zWs A n S) (zRet (zWs A n (zC X A shMo qMo res.1 S)) (some (.int (iI res.2)))) := by
  refine con_of (lv := [(0, .ref (A qMo)), (1, .int (iI a1)), (2, .int (iI a2))]) (by decide) rfl (fun h => by cases h) rfl (Nat.le_of_ble_eq_true rfl) rfl ?_
  refine g_ws (M := mX8_row) (congrArg (zWs A n) hMo.symm) ?_
  unfold fX8_row at h
  refine g_aload_n (M := mX8_row) dX8_row_0 0 rfl rfl ?_
  refine g_aload_n (M := mX8_row) dX8_row_1 0 rfl rfl ?_
  refine g_iload_n (M := mX8_row) dX8_row_2 1 rfl rfl ?_
  obtain ⟨t1, u2, h⟩ := zbi h
  refine g_callVr (M := mX8_row) [.int (iI a1)] hX dX8_row_3 vX8_isRow kM_X8_256 (wX8_isRow hX zC_self (by omega)  u2) qMo (zWs_at (by omega) (zC_o)) rfl ⟨(Nat.le_of_ble_eq_true rfl), (Nat.le_of_ble_eq_true rfl)⟩ ⟨(Nat.le_of_ble_eq_true rfl), (Nat.le_of_ble_eq_true rfl)⟩ (Nat.le_of_ble_eq_true rfl) ?_
  refine g_iload_n (M := mX8_row) dX8_row_6 2 rfl rfl ?_
  obtain ⟨g3, h⟩ := zgi h
  refine h_i2l (M := mX8_row) dX8_row_7 g3 ?_
  refine g_lconst (M := mX8_row) (v := iL 0) dX8_row_8 rfl ?_
  refine g_ldc2 (M := mX8_row) (v := iL (4)) dX8_row_9 kC_X8_259 ?_
  obtain ⟨t4, u5, h⟩ := zbi h
  refine g_callSr (M := mX8_row) [.long (iL a2), .long (iL 0), .long (iL 4)] hX dX8_row_12 vX8_isIn kM_X8_99 (wX8_isIn hX   u5) rfl ⟨(Nat.le_of_ble_eq_true rfl), (Nat.le_of_ble_eq_true rfl)⟩ ⟨(Nat.le_of_ble_eq_true rfl), (Nat.le_of_ble_eq_true rfl)⟩ (Nat.le_of_ble_eq_true rfl) ?_
  obtain ⟨t6, u7, h⟩ := zbi h
  refine g_callVr (M := mX8_row) [.int (iI (b2 t1)), .int (iI (b2 t4))] hX dX8_row_15 vX8_goesBoth kM_X8_261 (wX8_goesBoth hX zC_self (by omega)  u7) qMo (zWs_at (by omega) (zC_o)) rfl ⟨(Nat.le_of_ble_eq_true rfl), (Nat.le_of_ble_eq_true rfl)⟩ ⟨(Nat.le_of_ble_eq_true rfl), (Nat.le_of_ble_eq_true rfl)⟩ (Nat.le_of_ble_eq_true rfl) ?_
  refine g_ws (M := mX8_row) (congrArg (zWs A n) zC_over) ?_
  refine h_bne (M := mX8_row) (tgt := 23) dX8_row_18 (by decide) (fun c8 => ?_) (fun c8 => ?_)
  · have h := zti c8 h
    refine g_iload_n (M := mX8_row) dX8_row_23 2 rfl rfl ?_
    by_cases c9 : a2 = 0
    · have h := zti c9 h
      refine g_tableIn (M := mX8_row) (off := 32) (tgt := 56) dX8_row_24 (iI_tlo g3 (by omega)) (iI_thi g3 (by omega)) (iI_tat g3 c9 rfl) (by decide) ?_
      refine g_aload_n (M := mX8_row) dX8_row_56 0 rfl rfl ?_
      refine g_iload_n (M := mX8_row) dX8_row_57 1 rfl rfl ?_
      refine h_iconst (M := mX8_row) dX8_row_58 ?_
      obtain ⟨t10, u11, h⟩ := zbi h
      refine g_callVr (M := mX8_row) [.int (iI a1), .int (iI 0)] hX dX8_row_59 vX8_of kM_X8_166 (wX8_of hX zC_self (by omega)  u11) qMo (zWs_at (by omega) (zC_o)) rfl ⟨(Nat.le_of_ble_eq_true rfl), (Nat.le_of_ble_eq_true rfl)⟩ ⟨(Nat.le_of_ble_eq_true rfl), (Nat.le_of_ble_eq_true rfl)⟩ (Nat.le_of_ble_eq_true rfl) ?_
      have e := (Option.some.inj h)
      subst e
      exact g_iret (M := mX8_row) dX8_row_62 rfl (Nat.le_of_ble_eq_true rfl) (Nat.le_of_ble_eq_true rfl) ⟨rfl, rfl⟩
    have h := zfi c9 h
    by_cases c12 : a2 = 1
    · have h := zti c12 h
      refine g_tableIn (M := mX8_row) (off := 39) (tgt := 63) dX8_row_24 (iI_tlo g3 (by omega)) (iI_thi g3 (by omega)) (iI_tat g3 c12 rfl) (by decide) ?_
      refine g_aload_n (M := mX8_row) dX8_row_63 0 rfl rfl ?_
      refine g_iload_n (M := mX8_row) dX8_row_64 1 rfl rfl ?_
      obtain ⟨t13, u14, h⟩ := zbi h
      refine g_callVr (M := mX8_row) [.int (iI a1)] hX dX8_row_65 vX8_placesOf kM_X8_250 (wX8_placesOf hX zC_self (by omega)  u14) qMo (zWs_at (by omega) (zC_o)) rfl ⟨(Nat.le_of_ble_eq_true rfl), (Nat.le_of_ble_eq_true rfl)⟩ ⟨(Nat.le_of_ble_eq_true rfl), (Nat.le_of_ble_eq_true rfl)⟩ (Nat.le_of_ble_eq_true rfl) ?_
      have e := (Option.some.inj h)
      subst e
      exact g_iret (M := mX8_row) dX8_row_68 rfl (Nat.le_of_ble_eq_true rfl) (Nat.le_of_ble_eq_true rfl) ⟨rfl, rfl⟩
    have h := zfi c12 h
    by_cases c15 : a2 = 2
    · have h := zti c15 h
      refine g_tableIn (M := mX8_row) (off := 45) (tgt := 69) dX8_row_24 (iI_tlo g3 (by omega)) (iI_thi g3 (by omega)) (iI_tat g3 c15 rfl) (by decide) ?_
      refine g_aload_n (M := mX8_row) dX8_row_69 0 rfl rfl ?_
      refine g_iload_n (M := mX8_row) dX8_row_70 1 rfl rfl ?_
      refine h_iconst (M := mX8_row) dX8_row_71 ?_
      obtain ⟨t16, u17, h⟩ := zbi h
      refine g_callVr (M := mX8_row) [.int (iI a1), .int (iI 1)] hX dX8_row_72 vX8_of kM_X8_166 (wX8_of hX zC_self (by omega)  u17) qMo (zWs_at (by omega) (zC_o)) rfl ⟨(Nat.le_of_ble_eq_true rfl), (Nat.le_of_ble_eq_true rfl)⟩ ⟨(Nat.le_of_ble_eq_true rfl), (Nat.le_of_ble_eq_true rfl)⟩ (Nat.le_of_ble_eq_true rfl) ?_
      have e := (Option.some.inj h)
      subst e
      exact g_iret (M := mX8_row) dX8_row_75 rfl (Nat.le_of_ble_eq_true rfl) (Nat.le_of_ble_eq_true rfl) ⟨rfl, rfl⟩
    have h := zfi c15 h
    by_cases c18 : a2 = 3
    · have h := zti c18 h
      refine g_tableIn (M := mX8_row) (off := 52) (tgt := 76) dX8_row_24 (iI_tlo g3 (by omega)) (iI_thi g3 (by omega)) (iI_tat g3 c18 rfl) (by decide) ?_
      refine g_aload_n (M := mX8_row) dX8_row_76 0 rfl rfl ?_
      refine g_iload_n (M := mX8_row) dX8_row_77 1 rfl rfl ?_
      refine h_iconst (M := mX8_row) dX8_row_78 ?_
      obtain ⟨t19, u20, h⟩ := zbi h
      refine g_callVr (M := mX8_row) [.int (iI a1), .int (iI 2)] hX dX8_row_79 vX8_of kM_X8_166 (wX8_of hX zC_self (by omega)  u20) qMo (zWs_at (by omega) (zC_o)) rfl ⟨(Nat.le_of_ble_eq_true rfl), (Nat.le_of_ble_eq_true rfl)⟩ ⟨(Nat.le_of_ble_eq_true rfl), (Nat.le_of_ble_eq_true rfl)⟩ (Nat.le_of_ble_eq_true rfl) ?_
      have e := (Option.some.inj h)
      subst e
      exact g_iret (M := mX8_row) dX8_row_82 rfl (Nat.le_of_ble_eq_true rfl) (Nat.le_of_ble_eq_true rfl) ⟨rfl, rfl⟩
    have h := zfi c18 h
    refine g_tableOut (M := mX8_row) (tgt := 83) dX8_row_24 (iI_tout g3 (by omega)) (by decide) ?_
    refine g_aload_n (M := mX8_row) dX8_row_83 0 rfl rfl ?_
    refine g_iload_n (M := mX8_row) dX8_row_84 1 rfl rfl ?_
    refine h_iconst (M := mX8_row) dX8_row_85 ?_
    obtain ⟨t21, u22, h⟩ := zbi h
    refine g_callVr (M := mX8_row) [.int (iI a1), .int (iI 3)] hX dX8_row_86 vX8_of kM_X8_166 (wX8_of hX zC_self (by omega)  u22) qMo (zWs_at (by omega) (zC_o)) rfl ⟨(Nat.le_of_ble_eq_true rfl), (Nat.le_of_ble_eq_true rfl)⟩ ⟨(Nat.le_of_ble_eq_true rfl), (Nat.le_of_ble_eq_true rfl)⟩ (Nat.le_of_ble_eq_true rfl) ?_
    have e := (Option.some.inj h)
    subst e
    exact g_iret (M := mX8_row) dX8_row_89 rfl (Nat.le_of_ble_eq_true rfl) (Nat.le_of_ble_eq_true rfl) ⟨rfl, rfl⟩
  · have h := zfi (zbf c8) h
    refine h_iconst (M := mX8_row) dX8_row_21 ?_
    have e := (Option.some.inj h)
    subst e
    exact g_iret (M := mX8_row) dX8_row_22 rfl (Nat.le_of_ble_eq_true rfl) (Nat.le_of_ble_eq_true rfl) ⟨rfl, rfl⟩
set_option maxHeartbeats 4000000 in
set_option maxRecDepth 100000 in
theorem wX8_runs {X : zX} (hX : zOK X) {A : Nat → Nat} {n : Nat} {S : Nat → va_E} {qMo : Nat} {VMo : CV} (hMo : isC X A shMo qMo VMo S) (bMo : qMo + 20 < n) {res : CV × Int} (h : fX8_runs VMo = some res) : Con X yX8_runs mX8_runs 8 0 0 [.ref (A qMo)] (zWs A n S) (zRet (zWs A n (zC X A shMo qMo res.1 S)) (some (.int (iI res.2)))) := by
  refine con_of (lv := [(0, .ref (A qMo))]) (by decide) rfl (fun h => by cases h) rfl (Nat.le_of_ble_eq_true rfl) rfl ?_
  refine g_ws (M := mX8_runs) (congrArg (zWs A n) hMo.symm) ?_
  unfold fX8_runs at h
  refine h_iconst (M := mX8_runs) dX8_runs_0 ?_
  refine g_istore_n (M := mX8_runs) (lv' := [(0, .ref (A qMo)), (1, .int (iI 0))]) dX8_runs_1 rfl (by decide) rfl ?_
  refine h_iconst (M := mX8_runs) dX8_runs_2 ?_
  refine g_istore_n (M := mX8_runs) (lv' := [(0, .ref (A qMo)), (1, .int (iI 0)), (2, .int (iI 0))]) dX8_runs_3 rfl (by decide) rfl ?_
  refine h_iconst (M := mX8_runs) dX8_runs_4 ?_
  refine g_istore_n (M := mX8_runs) (lv' := [(0, .ref (A qMo)), (1, .int (iI 0)), (2, .int (iI 0)), (3, .int (iI 0))]) dX8_runs_5 rfl (by decide) rfl ?_
  refine h_iconst (M := mX8_runs) dX8_runs_6 ?_
  refine g_istore (M := mX8_runs) (lv' := [(0, .ref (A qMo)), (1, .int (iI 0)), (2, .int (iI 0)), (3, .int (iI 0)), (4, .int (iI 1))]) dX8_runs_7 (by decide) rfl ?_
  obtain ⟨x1, l1, h⟩ := zbi h
  have r1 : ∀ y1, y1 = x1 → G X mX8_runs (zPm X 8 0 0 (zRet (zWs A n (zC X A shMo qMo res.1 S)) (some (.int (iI res.2))))) 0 0 187 [(1, .int (iI y1.1))] [] (zWs A n (zC X A shMo qMo y1.2.2.2.2 S)) := by
    intro y1 ey
    rw [← ey] at h
    refine g_iload_n (M := mX8_runs) dX8_runs_187 0 rfl rfl ?_
    have e := (Option.some.inj h)
    subst e
    exact g_iret (M := mX8_runs) dX8_runs_188 rfl (Nat.le_of_ble_eq_true rfl) (Nat.le_of_ble_eq_true rfl) ⟨rfl, rfl⟩
  refine zLp_J (J := fun s1 => G X mX8_runs (zPm X 8 0 0 (zRet (zWs A n (zC X A shMo qMo res.1 S)) (some (.int (iI res.2))))) 0 0 9 [(0, .ref (A qMo)), (1, .int (iI s1.1)), (2, .int (iI s1.2.1)), (3, .int (iI s1.2.2.1)), (4, .int (iI s1.2.2.2.1))] [] (zWs A n (zC X A shMo qMo s1.2.2.2.2 S))) (fun s1 w1 h1 b1 e1 => ?_) _ _ l1
  refine g_iload (M := mX8_runs) dX8_runs_9 4 rfl ?_
  obtain ⟨g36, h1⟩ := zgi h1
  refine h_if_eq (M := mX8_runs) (tgt := 187) dX8_runs_11 (by decide) g36 (fun c35 => ?_) (fun c35 => ?_)
  · have h1 := zti c35 h1
    refine g_lv (M := mX8_runs) [1] rfl ?_
    exact r1 _ (e1 _ (Option.some.inj h1).symm)
  · have h1 := zfi c35 h1
    refine g_iload_n (M := mX8_runs) dX8_runs_14 3 rfl rfl ?_
    refine g_aload_n (M := mX8_runs) dX8_runs_15 0 rfl rfl ?_
    refine k_get (M := mX8_runs) (v := .int (iI (s1.2.2.2.2.1 42))) dX8_runs_16 kF_X8_421.r qMo (by omega) (zC_o) rfl ?_
    obtain ⟨g38, h1⟩ := zgi h1
    refine h_icmp_ge (M := mX8_runs) (tgt := 187) dX8_runs_19 (by decide) g38.1 g38.2 (fun c37 => ?_) (fun c37 => ?_)
    · have h1 := zti c37 h1
      refine g_lv (M := mX8_runs) [1] rfl ?_
      exact r1 _ (e1 _ (Option.some.inj h1).symm)
    · have h1 := zfi (Int.not_le.mpr c37) h1
      refine g_iload_n (M := mX8_runs) dX8_runs_22 1 rfl rfl ?_
      refine h_bipush (M := mX8_runs) dX8_runs_23 rfl ?_
      obtain ⟨g40, h1⟩ := zgi h1
      refine h_icmp_ge (M := mX8_runs) (tgt := 187) dX8_runs_25 (by decide) g40 (by decide) (fun c39 => ?_) (fun c39 => ?_)
      · have h1 := zti c39 h1
        refine g_lv (M := mX8_runs) [1] rfl ?_
        exact r1 _ (e1 _ (Option.some.inj h1).symm)
      · have h1 := zfi (Int.not_le.mpr c39) h1
        refine g_aload_n (M := mX8_runs) dX8_runs_28 0 rfl rfl ?_
        refine k_get (M := mX8_runs) (v := .ref (A (qMo + 15))) dX8_runs_29 kF_X8_60.r qMo (by omega) (zC_o) rfl ?_
        refine g_iload_n (M := mX8_runs) dX8_runs_32 3 rfl rfl ?_
        obtain ⟨g41, h1⟩ := zgi h1
        refine k_iald (M := mX8_runs) (len := 60) (f := s1.2.2.2.2.2 15) dX8_runs_33 (qMo + 15) (by omega) (zC_a (d := (0, 60)) 14 rfl) (Nat.le_of_ble_eq_true rfl) g41.1 g41.2 ?_
        refine h_bipush (M := mX8_runs) dX8_runs_34 rfl ?_
        obtain ⟨g43, h1⟩ := zgi h1
        refine h_icmp_ne (M := mX8_runs) (tgt := 67) dX8_runs_36 (by decide) g43 (by decide) (fun c42 => ?_) (fun c42 => ?_)
        · have h1 := zfi c42 h1
          refine g_aload_n (M := mX8_runs) dX8_runs_67 0 rfl rfl ?_
          refine k_get (M := mX8_runs) (v := .ref (A (qMo + 15))) dX8_runs_68 kF_X8_60.r qMo (by omega) (zC_o) rfl ?_
          refine g_iload_n (M := mX8_runs) dX8_runs_71 3 rfl rfl ?_
          refine k_iald (M := mX8_runs) (len := 60) (f := s1.2.2.2.2.2 15) dX8_runs_72 (qMo + 15) (by omega) (zC_a (d := (0, 60)) 14 rfl) (Nat.le_of_ble_eq_true rfl) g41.1 g41.2 ?_
          refine h_bipush (M := mX8_runs) dX8_runs_73 rfl ?_
          refine h_icmp_ne (M := mX8_runs) (tgt := 149) dX8_runs_75 (by decide) g43 (by decide) (fun c44 => ?_) (fun c44 => ?_)
          · have h1 := zfi c44 h1
            refine g_aload_n (M := mX8_runs) dX8_runs_149 0 rfl rfl ?_
            refine g_aload_n (M := mX8_runs) dX8_runs_150 0 rfl rfl ?_
            refine k_get (M := mX8_runs) (v := .ref (A (qMo + 15))) dX8_runs_151 kF_X8_60.r qMo (by omega) (zC_o) rfl ?_
            refine g_iload_n (M := mX8_runs) dX8_runs_154 3 rfl rfl ?_
            refine k_iald (M := mX8_runs) (len := 60) (f := s1.2.2.2.2.2 15) dX8_runs_155 (qMo + 15) (by omega) (zC_a (d := (0, 60)) 14 rfl) (Nat.le_of_ble_eq_true rfl) g41.1 g41.2 ?_
            refine g_aload_n (M := mX8_runs) dX8_runs_156 0 rfl rfl ?_
            refine k_get (M := mX8_runs) (v := .ref (A (qMo + 16))) dX8_runs_157 kF_X8_63.r qMo (by omega) (zC_o) rfl ?_
            refine g_iload_n (M := mX8_runs) dX8_runs_160 3 rfl rfl ?_
            refine k_iald (M := mX8_runs) (len := 60) (f := s1.2.2.2.2.2 16) dX8_runs_161 (qMo + 16) (by omega) (zC_a (d := (0, 60)) 15 rfl) (Nat.le_of_ble_eq_true rfl) g41.1 g41.2 ?_
            refine g_aload_n (M := mX8_runs) dX8_runs_162 0 rfl rfl ?_
            refine k_get (M := mX8_runs) (v := .ref (A (qMo + 17))) dX8_runs_163 kF_X8_66.r qMo (by omega) (zC_o) rfl ?_
            refine g_iload_n (M := mX8_runs) dX8_runs_166 3 rfl rfl ?_
            refine k_iald (M := mX8_runs) (len := 60) (f := s1.2.2.2.2.2 17) dX8_runs_167 (qMo + 17) (by omega) (zC_a (d := (0, 60)) 16 rfl) (Nat.le_of_ble_eq_true rfl) g41.1 g41.2 ?_
            obtain ⟨t45, u46, h1⟩ := zbi h1
            refine g_callVr (M := mX8_runs) [.int (iI (s1.2.2.2.2.2 15 s1.2.2.1)), .int (iI (s1.2.2.2.2.2 16 s1.2.2.1)), .int (iI (s1.2.2.2.2.2 17 s1.2.2.1))] hX dX8_runs_168 vX8_does kM_X8_446 (wX8_does hX zC_self (by omega)  u46) qMo (zWs_at (by omega) (zC_o)) rfl ⟨(Nat.le_of_ble_eq_true rfl), (Nat.le_of_ble_eq_true rfl)⟩ ⟨(Nat.le_of_ble_eq_true rfl), (Nat.le_of_ble_eq_true rfl)⟩ (Nat.le_of_ble_eq_true rfl) ?_
            refine g_ws (M := mX8_runs) (congrArg (zWs A n) zC_over) ?_
            refine g_istore (M := mX8_runs) (lv' := [(0, .ref (A qMo)), (1, .int (iI s1.1)), (2, .int (iI s1.2.1)), (3, .int (iI s1.2.2.1)), (4, .int (iI (b2 t45.2)))]) dX8_runs_171 (by decide) rfl ?_
            refine g_iload_n (M := mX8_runs) dX8_runs_173 1 rfl rfl ?_
            refine g_iload (M := mX8_runs) dX8_runs_174 4 rfl ?_
            obtain ⟨t47, u48, h1⟩ := zbi h1
            refine g_callSr (M := mX8_runs) [.int (iI (b2 t45.2))] hX dX8_runs_176 vX8_truth kM_X8_84 (wX8_truth hX   u48) rfl ⟨(Nat.le_of_ble_eq_true rfl), (Nat.le_of_ble_eq_true rfl)⟩ ⟨(Nat.le_of_ble_eq_true rfl), (Nat.le_of_ble_eq_true rfl)⟩ (Nat.le_of_ble_eq_true rfl) ?_
            refine h_iadd (M := mX8_runs) dX8_runs_179 ?_
            refine g_istore_n (M := mX8_runs) (lv' := [(0, .ref (A qMo)), (1, .int (iI (s1.1 + t47))), (2, .int (iI s1.2.1)), (3, .int (iI s1.2.2.1)), (4, .int (iI (b2 t45.2)))]) dX8_runs_180 rfl (by decide) rfl ?_
            refine h_iinc (M := mX8_runs) (j := 3) (lv' := [(0, .ref (A qMo)), (1, .int (iI (s1.1 + t47))), (2, .int (iI s1.2.1)), (3, .int (iI (s1.2.2.1 + 1))), (4, .int (iI (b2 t45.2)))]) dX8_runs_181 rfl (Nat.le_of_ble_eq_true rfl) rfl ?_
            refine g_goto (M := mX8_runs) (tgt := 9) dX8_runs_184 (by decide) ?_
            exact b1 _ (Option.some.inj h1).symm
          · have h1 := zti c44 h1
            refine g_aload_n (M := mX8_runs) dX8_runs_78 0 rfl rfl ?_
            refine k_get (M := mX8_runs) (v := .ref (A (qMo + 19))) dX8_runs_79 kF_X8_72.r qMo (by omega) (zC_o) rfl ?_
            refine g_iload_n (M := mX8_runs) dX8_runs_82 2 rfl rfl ?_
            refine h_iconst (M := mX8_runs) dX8_runs_83 ?_
            refine h_isub (M := mX8_runs) dX8_runs_84 ?_
            refine g_dup2_11 (M := mX8_runs) dX8_runs_85 rfl rfl ?_
            obtain ⟨g49, h1⟩ := zgi h1
            refine k_iald (M := mX8_runs) (len := 2) (f := s1.2.2.2.2.2 19) dX8_runs_86 (qMo + 19) (by omega) (zC_a (d := (0, 2)) 18 rfl) (Nat.le_of_ble_eq_true rfl) g49.1 g49.2 ?_
            refine h_iconst (M := mX8_runs) dX8_runs_87 ?_
            refine h_isub (M := mX8_runs) dX8_runs_88 ?_
            refine c_iast (M := mX8_runs) (len := 2) (d := (0, 2)) dX8_runs_89 18 rfl rfl (by omega) (Nat.le_of_ble_eq_true rfl) g49.1 g49.2 ?_
            refine g_aload_n (M := mX8_runs) dX8_runs_90 0 rfl rfl ?_
            refine k_get (M := mX8_runs) (v := .ref (A (qMo + 19))) dX8_runs_91 kF_X8_72.r qMo (by omega) (zC_o) rfl ?_
            refine g_iload_n (M := mX8_runs) dX8_runs_94 2 rfl rfl ?_
            refine h_iconst (M := mX8_runs) dX8_runs_95 ?_
            refine h_isub (M := mX8_runs) dX8_runs_96 ?_
            refine k_iald (M := mX8_runs) (len := 2) (f := (zup (s1.2.2.2.2.2 19) (s1.2.1 - 1) ((s1.2.2.2.2.2 19 (s1.2.1 - 1)) - 1))) dX8_runs_97 (qMo + 19) (by omega) (zC_a (d := (0, 2)) 18 rfl) (Nat.le_of_ble_eq_true rfl) g49.1 g49.2 ?_
            refine zJn_J (J := fun x52 => G X mX8_runs (zPm X 8 0 0 (zRet (zWs A n (zC X A shMo qMo res.1 S)) (some (.int (iI res.2))))) 0 0 106 [(0, .ref (A qMo)), (1, .int (iI s1.1)), (2, .int (iI s1.2.1)), (3, .int (iI s1.2.2.1)), (4, .int (iI s1.2.2.2.1))] [.int (iI x52)] (zWs A n (zC X A shMo qMo (zPa s1.2.2.2.2 19 (s1.2.1 - 1) ((s1.2.2.2.2.2 19 (s1.2.1 - 1)) - 1)) S))) h1 (fun x52 h1 => ?_) (fun j52 h1 => ?_)
            · refine g_istore (M := mX8_runs) (lv' := [(0, .ref (A qMo)), (1, .int (iI s1.1)), (2, .int (iI s1.2.1)), (3, .int (iI s1.2.2.1)), (4, .int (iI s1.2.2.2.1)), (5, .int (iI x52))]) dX8_runs_106 (by decide) rfl ?_
              refine g_iload (M := mX8_runs) dX8_runs_108 5 rfl ?_
              refine zJn_J (J := fun x55 => G X mX8_runs (zPm X 8 0 0 (zRet (zWs A n (zC X A shMo qMo res.1 S)) (some (.int (iI res.2))))) 0 0 129 [(0, .ref (A qMo)), (1, .int (iI s1.1)), (2, .int (iI s1.2.1)), (4, .int (iI s1.2.2.2.1)), (5, .int (iI x52))] [.int (iI x55)] (zWs A n (zC X A shMo qMo (zPa s1.2.2.2.2 19 (s1.2.1 - 1) ((s1.2.2.2.2.2 19 (s1.2.1 - 1)) - 1)) S))) h1 (fun x55 h1 => ?_) (fun j55 h1 => ?_)
              · refine g_istore_n (M := mX8_runs) (lv' := [(0, .ref (A qMo)), (1, .int (iI s1.1)), (2, .int (iI s1.2.1)), (4, .int (iI s1.2.2.2.1)), (5, .int (iI x52)), (3, .int (iI x55))]) dX8_runs_129 rfl (by decide) rfl ?_
                refine g_iload_n (M := mX8_runs) dX8_runs_130 2 rfl rfl ?_
                refine g_iload (M := mX8_runs) dX8_runs_131 4 rfl ?_
                refine zJn_J (J := fun x58 => G X mX8_runs (zPm X 8 0 0 (zRet (zWs A n (zC X A shMo qMo res.1 S)) (some (.int (iI res.2))))) 0 0 141 [(0, .ref (A qMo)), (1, .int (iI s1.1)), (4, .int (iI s1.2.2.2.1)), (3, .int (iI x55))] [.int (iI x58), .int (iI s1.2.1)] (zWs A n (zC X A shMo qMo (zPa s1.2.2.2.2 19 (s1.2.1 - 1) ((s1.2.2.2.2.2 19 (s1.2.1 - 1)) - 1)) S))) h1 (fun x58 h1 => ?_) (fun j58 h1 => ?_)
                · obtain ⟨t59, u60, h1⟩ := zbi h1
                  refine g_callSr (M := mX8_runs) [.int (iI x58)] hX dX8_runs_141 vX8_truth kM_X8_84 (wX8_truth hX   u60) rfl ⟨(Nat.le_of_ble_eq_true rfl), (Nat.le_of_ble_eq_true rfl)⟩ ⟨(Nat.le_of_ble_eq_true rfl), (Nat.le_of_ble_eq_true rfl)⟩ (Nat.le_of_ble_eq_true rfl) ?_
                  refine h_isub (M := mX8_runs) dX8_runs_144 ?_
                  refine g_istore_n (M := mX8_runs) (lv' := [(0, .ref (A qMo)), (1, .int (iI s1.1)), (4, .int (iI s1.2.2.2.1)), (3, .int (iI x55)), (2, .int (iI (s1.2.1 - t59)))]) dX8_runs_145 rfl (by decide) rfl ?_
                  refine g_goto (M := mX8_runs) (tgt := 9) dX8_runs_146 (by decide) ?_
                  refine g_lv (M := mX8_runs) [0, 1, 4, 3, 2] rfl ?_
                  exact b1 _ (Option.some.inj h1).symm
                · obtain ⟨g62, h1⟩ := zgi h1
                  refine h_if_ne (M := mX8_runs) (tgt := 140) dX8_runs_133 (by decide) g62 (fun c61 => ?_) (fun c61 => ?_)
                  · have h1 := zfi c61 h1
                    refine h_iconst (M := mX8_runs) dX8_runs_140 ?_
                    refine g_lv (M := mX8_runs) [0, 1, 3, 5] rfl ?_
                    exact j58 0 h1
                  · have h1 := zti c61 h1
                    refine h_iconst (M := mX8_runs) dX8_runs_136 ?_
                    refine g_goto (M := mX8_runs) (tgt := 141) dX8_runs_137 (by decide) ?_
                    refine g_lv (M := mX8_runs) [0, 1, 3, 5] rfl ?_
                    exact j58 1 h1
              · obtain ⟨g64, h1⟩ := zgi h1
                refine h_if_eq (M := mX8_runs) (tgt := 126) dX8_runs_110 (by decide) g64 (fun c63 => ?_) (fun c63 => ?_)
                · have h1 := zti c63 h1
                  refine g_iload_n (M := mX8_runs) dX8_runs_126 3 rfl rfl ?_
                  refine h_iconst (M := mX8_runs) dX8_runs_127 ?_
                  refine h_iadd (M := mX8_runs) dX8_runs_128 ?_
                  refine g_lv (M := mX8_runs) [0, 1, 2, 4, 5] rfl ?_
                  exact j55 (s1.2.2.1 + 1) h1
                · have h1 := zfi c63 h1
                  refine g_aload_n (M := mX8_runs) dX8_runs_113 0 rfl rfl ?_
                  refine k_get (M := mX8_runs) (v := .ref (A (qMo + 18))) dX8_runs_114 kF_X8_69.r qMo (by omega) (zC_o) rfl ?_
                  refine g_iload_n (M := mX8_runs) dX8_runs_117 2 rfl rfl ?_
                  refine h_iconst (M := mX8_runs) dX8_runs_118 ?_
                  refine h_isub (M := mX8_runs) dX8_runs_119 ?_
                  refine k_iald (M := mX8_runs) (len := 2) (f := s1.2.2.2.2.2 18) dX8_runs_120 (qMo + 18) (by omega) (zC_a (d := (0, 2)) 17 rfl) (Nat.le_of_ble_eq_true rfl) g49.1 g49.2 ?_
                  refine h_iconst (M := mX8_runs) dX8_runs_121 ?_
                  refine h_iadd (M := mX8_runs) dX8_runs_122 ?_
                  refine g_goto (M := mX8_runs) (tgt := 129) dX8_runs_123 (by decide) ?_
                  refine g_lv (M := mX8_runs) [0, 1, 2, 4, 5] rfl ?_
                  exact j55 ((s1.2.2.2.2.2 18 (s1.2.1 - 1)) + 1) h1
            · obtain ⟨g66, h1⟩ := zgi h1
              refine h_if_le (M := mX8_runs) (tgt := 105) dX8_runs_98 (by decide) g66 (fun c65 => ?_) (fun c65 => ?_)
              · have h1 := zti c65 h1
                refine h_iconst (M := mX8_runs) dX8_runs_105 ?_
                exact j52 0 h1
              · have h1 := zfi (Int.not_le.mpr c65) h1
                refine h_iconst (M := mX8_runs) dX8_runs_101 ?_
                refine g_goto (M := mX8_runs) (tgt := 106) dX8_runs_102 (by decide) ?_
                exact j52 1 h1
        · have h1 := zti c42 h1
          refine g_aload_n (M := mX8_runs) dX8_runs_39 0 rfl rfl ?_
          refine k_get (M := mX8_runs) (v := .ref (A (qMo + 18))) dX8_runs_40 kF_X8_69.r qMo (by omega) (zC_o) rfl ?_
          refine g_iload_n (M := mX8_runs) dX8_runs_43 2 rfl rfl ?_
          refine g_iload_n (M := mX8_runs) dX8_runs_44 3 rfl rfl ?_
          obtain ⟨g67, h1⟩ := zgi h1
          refine c_iast (M := mX8_runs) (len := 2) (d := (0, 2)) dX8_runs_45 17 rfl rfl (by omega) (Nat.le_of_ble_eq_true rfl) g67.1 g67.2 ?_
          refine g_aload_n (M := mX8_runs) dX8_runs_46 0 rfl rfl ?_
          refine k_get (M := mX8_runs) (v := .ref (A (qMo + 19))) dX8_runs_47 kF_X8_72.r qMo (by omega) (zC_o) rfl ?_
          refine g_iload_n (M := mX8_runs) dX8_runs_50 2 rfl rfl ?_
          refine g_aload_n (M := mX8_runs) dX8_runs_51 0 rfl rfl ?_
          refine k_get (M := mX8_runs) (v := .ref (A (qMo + 16))) dX8_runs_52 kF_X8_63.r qMo (by omega) (zC_o) rfl ?_
          refine g_iload_n (M := mX8_runs) dX8_runs_55 3 rfl rfl ?_
          refine k_iald (M := mX8_runs) (len := 60) (f := s1.2.2.2.2.2 16) dX8_runs_56 (qMo + 16) (by omega) (zC_a (d := (0, 60)) 15 rfl) (Nat.le_of_ble_eq_true rfl) g41.1 g41.2 ?_
          refine c_iast (M := mX8_runs) (len := 2) (d := (0, 2)) dX8_runs_57 18 rfl rfl (by omega) (Nat.le_of_ble_eq_true rfl) g67.1 g67.2 ?_
          refine h_iinc (M := mX8_runs) (j := 2) (lv' := [(0, .ref (A qMo)), (1, .int (iI s1.1)), (2, .int (iI (s1.2.1 + 1))), (3, .int (iI s1.2.2.1)), (4, .int (iI s1.2.2.2.1))]) dX8_runs_58 rfl (Nat.le_of_ble_eq_true rfl) rfl ?_
          refine h_iinc (M := mX8_runs) (j := 3) (lv' := [(0, .ref (A qMo)), (1, .int (iI s1.1)), (2, .int (iI (s1.2.1 + 1))), (3, .int (iI (s1.2.2.1 + 1))), (4, .int (iI s1.2.2.2.1))]) dX8_runs_61 rfl (Nat.le_of_ble_eq_true rfl) rfl ?_
          refine g_goto (M := mX8_runs) (tgt := 9) dX8_runs_64 (by decide) ?_
          exact b1 _ (Option.some.inj h1).symm
set_option maxHeartbeats 4000000 in
set_option maxRecDepth 100000 in
theorem wX8_runScript {X : zX} (hX : zOK X) {A : Nat → Nat} {n : Nat} {S : Nat → va_E} {qMo : Nat} {VMo : CV} (hMo : isC X A shMo qMo VMo S) (bMo : qMo + 20 < n) {res : CV × Int} (h : fX8_runScript VMo = some res) : Con X yX8_runScript mX8_runScript 9 0 0 [.ref (A qMo)] (zWs A n S) (zRet (zWs A n (zC X A shMo qMo res.1 S)) (some (.int (iI res.2)))) := by
  refine con_of (lv := [(0, .ref (A qMo))]) (by decide) rfl (fun h => by cases h) rfl (Nat.le_of_ble_eq_true rfl) rfl ?_
  refine g_ws (M := mX8_runScript) (congrArg (zWs A n) hMo.symm) ?_
  unfold fX8_runScript at h
  refine g_aload_n (M := mX8_runScript) dX8_runScript_0 0 rfl rfl ?_
  obtain ⟨t1, u2, h⟩ := zbi h
  refine g_callVr (M := mX8_runScript) [] hX dX8_runScript_1 vX8_beginsText kM_X8_214 (wX8_beginsText hX zC_self (by omega)  u2) qMo (zWs_at (by omega) (zC_o)) rfl ⟨(Nat.le_of_ble_eq_true rfl), (Nat.le_of_ble_eq_true rfl)⟩ ⟨(Nat.le_of_ble_eq_true rfl), (Nat.le_of_ble_eq_true rfl)⟩ (Nat.le_of_ble_eq_true rfl) ?_
  refine g_ws (M := mX8_runScript) (congrArg (zWs A n) zC_over) ?_
  refine g_aload_n (M := mX8_runScript) dX8_runScript_4 0 rfl rfl ?_
  refine h_iconst (M := mX8_runScript) dX8_runScript_5 ?_
  refine c_put (M := mX8_runScript) (k := 42) dX8_runScript_6 kF_X8_421 (by omega) rfl rfl (by decide) rfl rfl ?_
  refine g_aload_n (M := mX8_runScript) dX8_runScript_9 0 rfl rfl ?_
  refine h_iconst (M := mX8_runScript) dX8_runScript_10 ?_
  refine c_put (M := mX8_runScript) (k := 43) dX8_runScript_11 kF_X8_418 (by omega) rfl rfl (by decide) rfl rfl ?_
  refine g_aload_n (M := mX8_runScript) dX8_runScript_14 0 rfl rfl ?_
  refine h_iconst (M := mX8_runScript) dX8_runScript_15 ?_
  refine c_put (M := mX8_runScript) (k := 44) dX8_runScript_16 kF_X8_415 (by omega) rfl rfl (by decide) rfl rfl ?_
  obtain ⟨x3, l3, h⟩ := zbi h
  have r3 : ∀ y3, y3 = x3 → G X mX8_runScript (zPm X 9 0 0 (zRet (zWs A n (zC X A shMo qMo res.1 S)) (some (.int (iI res.2))))) 0 0 63 [(0, .ref (A qMo))] [] (zWs A n (zC X A shMo qMo y3 S)) := by
    intro y3 ey
    rw [← ey] at h
    refine g_aload_n (M := mX8_runScript) dX8_runScript_63 0 rfl rfl ?_
    obtain ⟨t22, u23, h⟩ := zbi h
    refine g_callVr (M := mX8_runScript) [] hX dX8_runScript_64 vX8_isGood kM_X8_139 (wX8_isGood hX zC_self (by omega)  u23) qMo (zWs_at (by omega) (zC_o)) rfl ⟨(Nat.le_of_ble_eq_true rfl), (Nat.le_of_ble_eq_true rfl)⟩ ⟨(Nat.le_of_ble_eq_true rfl), (Nat.le_of_ble_eq_true rfl)⟩ (Nat.le_of_ble_eq_true rfl) ?_
    refine zJn_J (J := fun x29 => G X mX8_runScript (zPm X 9 0 0 (zRet (zWs A n (zC X A shMo qMo res.1 S)) (some (.int (iI res.2))))) 0 0 82 [(0, .ref (A qMo))] [] (zWs A n (zC X A shMo qMo x29 S))) h (fun x29 h => ?_) (fun j29 h => ?_)
    · refine g_aload_n (M := mX8_runScript) dX8_runScript_82 0 rfl rfl ?_
      obtain ⟨t30, u31, h⟩ := zbi h
      refine g_callVr (M := mX8_runScript) [] hX dX8_runScript_83 vX8_endsText kM_X8_223 (wX8_endsText hX zC_self (by omega)  u31) qMo (zWs_at (by omega) (zC_o)) rfl ⟨(Nat.le_of_ble_eq_true rfl), (Nat.le_of_ble_eq_true rfl)⟩ ⟨(Nat.le_of_ble_eq_true rfl), (Nat.le_of_ble_eq_true rfl)⟩ (Nat.le_of_ble_eq_true rfl) ?_
      refine g_ws (M := mX8_runScript) (congrArg (zWs A n) zC_over) ?_
      refine h_bne (M := mX8_runScript) (tgt := 91) dX8_runScript_86 (by decide) (fun c32 => ?_) (fun c32 => ?_)
      · have h := zti c32 h
        refine g_aload_n (M := mX8_runScript) dX8_runScript_91 0 rfl rfl ?_
        obtain ⟨t33, u34, h⟩ := zbi h
        refine g_callVr (M := mX8_runScript) [] hX dX8_runScript_92 vX8_laysAside kM_X8_217 (wX8_laysAside hX zC_self (by omega)  u34) qMo (zWs_at (by omega) (zC_o)) rfl ⟨(Nat.le_of_ble_eq_true rfl), (Nat.le_of_ble_eq_true rfl)⟩ ⟨(Nat.le_of_ble_eq_true rfl), (Nat.le_of_ble_eq_true rfl)⟩ (Nat.le_of_ble_eq_true rfl) ?_
        refine g_ws (M := mX8_runScript) (congrArg (zWs A n) zC_over) ?_
        refine g_aload_n (M := mX8_runScript) dX8_runScript_95 0 rfl rfl ?_
        obtain ⟨t35, u36, h⟩ := zbi h
        refine g_callVr (M := mX8_runScript) [] hX dX8_runScript_96 vX8_runs kM_X8_443 (wX8_runs hX zC_self (by omega)  u36) qMo (zWs_at (by omega) (zC_o)) rfl ⟨(Nat.le_of_ble_eq_true rfl), (Nat.le_of_ble_eq_true rfl)⟩ ⟨(Nat.le_of_ble_eq_true rfl), (Nat.le_of_ble_eq_true rfl)⟩ (Nat.le_of_ble_eq_true rfl) ?_
        refine g_ws (M := mX8_runScript) (congrArg (zWs A n) zC_over) ?_
        refine g_istore_n (M := mX8_runScript) (lv' := [(0, .ref (A qMo)), (1, .int (iI t35.2))]) dX8_runScript_99 rfl (by decide) rfl ?_
        refine g_aload_n (M := mX8_runScript) dX8_runScript_100 0 rfl rfl ?_
        obtain ⟨t37, u38, h⟩ := zbi h
        refine g_callVr (M := mX8_runScript) [] hX dX8_runScript_101 vX8_keeps kM_X8_376 (wX8_keeps hX zC_self (by omega)  u38) qMo (zWs_at (by omega) (zC_o)) rfl ⟨(Nat.le_of_ble_eq_true rfl), (Nat.le_of_ble_eq_true rfl)⟩ ⟨(Nat.le_of_ble_eq_true rfl), (Nat.le_of_ble_eq_true rfl)⟩ (Nat.le_of_ble_eq_true rfl) ?_
        refine g_ws (M := mX8_runScript) (congrArg (zWs A n) zC_over) ?_
        refine g_iload_n (M := mX8_runScript) dX8_runScript_104 1 rfl rfl ?_
        have e := (Option.some.inj h)
        subst e
        exact g_iret (M := mX8_runScript) dX8_runScript_105 rfl (Nat.le_of_ble_eq_true rfl) (Nat.le_of_ble_eq_true rfl) ⟨rfl, rfl⟩
      · have h := zfi (zbf c32) h
        refine h_iconst (M := mX8_runScript) dX8_runScript_89 ?_
        have e := (Option.some.inj h)
        subst e
        exact g_iret (M := mX8_runScript) dX8_runScript_90 rfl (Nat.le_of_ble_eq_true rfl) (Nat.le_of_ble_eq_true rfl) ⟨rfl, rfl⟩
    · refine h_beq (M := mX8_runScript) (tgt := 82) dX8_runScript_67 (by decide) (fun c39 => ?_) (fun c39 => ?_)
      · have h := zfi (zbf c39) h
        exact j29 y3 h
      · have h := zti c39 h
        refine g_aload_n (M := mX8_runScript) dX8_runScript_70 0 rfl rfl ?_
        refine k_get (M := mX8_runScript) (v := .int (iI (y3.1 44))) dX8_runScript_71 kF_X8_415.r qMo (by omega) (zC_o) rfl ?_
        obtain ⟨g41, h⟩ := zgi h
        refine h_if_le (M := mX8_runScript) (tgt := 82) dX8_runScript_74 (by decide) g41 (fun c40 => ?_) (fun c40 => ?_)
        · have h := zti c40 h
          exact j29 y3 h
        · have h := zfi (Int.not_le.mpr c40) h
          refine g_aload_n (M := mX8_runScript) dX8_runScript_77 0 rfl rfl ?_
          refine h_iconst (M := mX8_runScript) dX8_runScript_78 ?_
          obtain ⟨t42, u43, h⟩ := zbi h
          refine g_callVr (M := mX8_runScript) [.int (iI 1)] hX dX8_runScript_79 vX8_wrong kM_X8_146 (wX8_wrong hX zC_self (by omega)  u43) qMo (zWs_at (by omega) (zC_o)) rfl ⟨(Nat.le_of_ble_eq_true rfl), (Nat.le_of_ble_eq_true rfl)⟩ ⟨(Nat.le_of_ble_eq_true rfl), (Nat.le_of_ble_eq_true rfl)⟩ (Nat.le_of_ble_eq_true rfl) ?_
          refine g_ws (M := mX8_runScript) (congrArg (zWs A n) zC_over) ?_
          exact j29 t42 h
  refine zLp_J (J := fun s3 => G X mX8_runScript (zPm X 9 0 0 (zRet (zWs A n (zC X A shMo qMo res.1 S)) (some (.int (iI res.2))))) 0 0 19 [(0, .ref (A qMo))] [] (zWs A n (zC X A shMo qMo s3 S))) (fun s3 w3 h3 b3 e3 => ?_) _ _ l3
  refine g_aload_n (M := mX8_runScript) dX8_runScript_19 0 rfl rfl ?_
  obtain ⟨t44, u45, h3⟩ := zbi h3
  refine g_callVr (M := mX8_runScript) [] hX dX8_runScript_20 vX8_isGood kM_X8_139 (wX8_isGood hX zC_self (by omega)  u45) qMo (zWs_at (by omega) (zC_o)) rfl ⟨(Nat.le_of_ble_eq_true rfl), (Nat.le_of_ble_eq_true rfl)⟩ ⟨(Nat.le_of_ble_eq_true rfl), (Nat.le_of_ble_eq_true rfl)⟩ (Nat.le_of_ble_eq_true rfl) ?_
  refine h_beq (M := mX8_runScript) (tgt := 63) dX8_runScript_23 (by decide) (fun c46 => ?_) (fun c46 => ?_)
  · have h3 := zfi (zbf c46) h3
    exact r3 _ (e3 _ (Option.some.inj h3).symm)
  · have h3 := zti c46 h3
    refine g_aload_n (M := mX8_runScript) dX8_runScript_26 0 rfl rfl ?_
    refine k_get (M := mX8_runScript) (v := .int (iI (s3.1 6))) dX8_runScript_27 kF_X8_126.r qMo (by omega) (zC_o) rfl ?_
    obtain ⟨g48, h3⟩ := zgi h3
    refine h_if_eq (M := mX8_runScript) (tgt := 63) dX8_runScript_30 (by decide) g48 (fun c47 => ?_) (fun c47 => ?_)
    · have h3 := zti c47 h3
      exact r3 _ (e3 _ (Option.some.inj h3).symm)
    · have h3 := zfi c47 h3
      refine g_aload_n (M := mX8_runScript) dX8_runScript_33 0 rfl rfl ?_
      refine k_get (M := mX8_runScript) (v := .int (iI (s3.1 44))) dX8_runScript_34 kF_X8_415.r qMo (by omega) (zC_o) rfl ?_
      refine g_istore_n (M := mX8_runScript) (lv' := [(0, .ref (A qMo)), (1, .int (iI (s3.1 44)))]) dX8_runScript_37 rfl (by decide) rfl ?_
      refine g_aload_n (M := mX8_runScript) dX8_runScript_38 0 rfl rfl ?_
      obtain ⟨t49, u50, h3⟩ := zbi h3
      refine g_callVr (M := mX8_runScript) [] hX dX8_runScript_39 vX8_command kM_X8_437 (wX8_command hX zC_self (by omega)  u50) qMo (zWs_at (by omega) (zC_o)) rfl ⟨(Nat.le_of_ble_eq_true rfl), (Nat.le_of_ble_eq_true rfl)⟩ ⟨(Nat.le_of_ble_eq_true rfl), (Nat.le_of_ble_eq_true rfl)⟩ (Nat.le_of_ble_eq_true rfl) ?_
      refine g_ws (M := mX8_runScript) (congrArg (zWs A n) zC_over) ?_
      refine g_aload_n (M := mX8_runScript) dX8_runScript_42 0 rfl rfl ?_
      refine k_get (M := mX8_runScript) (v := .int (iI (t49.1 44))) dX8_runScript_43 kF_X8_415.r qMo (by omega) (zC_o) rfl ?_
      refine g_iload_n (M := mX8_runScript) dX8_runScript_46 1 rfl rfl ?_
      refine zJn_J (J := fun x55 => G X mX8_runScript (zPm X 9 0 0 (zRet (zWs A n (zC X A shMo qMo res.1 S)) (some (.int (iI res.2))))) 0 0 56 [(0, .ref (A qMo))] [] (zWs A n (zC X A shMo qMo x55 S))) h3 (fun x55 h3 => ?_) (fun j55 h3 => ?_)
      · refine g_aload_n (M := mX8_runScript) dX8_runScript_56 0 rfl rfl ?_
        obtain ⟨t56, u57, h3⟩ := zbi h3
        refine g_callVr (M := mX8_runScript) [] hX dX8_runScript_57 vX8_closes kM_X8_440 (wX8_closes hX zC_self (by omega)  u57) qMo (zWs_at (by omega) (zC_o)) rfl ⟨(Nat.le_of_ble_eq_true rfl), (Nat.le_of_ble_eq_true rfl)⟩ ⟨(Nat.le_of_ble_eq_true rfl), (Nat.le_of_ble_eq_true rfl)⟩ (Nat.le_of_ble_eq_true rfl) ?_
        refine g_ws (M := mX8_runScript) (congrArg (zWs A n) zC_over) ?_
        refine g_goto (M := mX8_runScript) (tgt := 19) dX8_runScript_60 (by decide) ?_
        exact b3 _ (Option.some.inj h3).symm
      · obtain ⟨g59, h3⟩ := zgi h3
        refine h_icmp_ne (M := mX8_runScript) (tgt := 56) dX8_runScript_47 (by decide) g59.1 g59.2 (fun c58 => ?_) (fun c58 => ?_)
        · have h3 := zfi c58 h3
          refine g_lv (M := mX8_runScript) [0] rfl ?_
          exact j55 t49 h3
        · have h3 := zti c58 h3
          refine g_aload_n (M := mX8_runScript) dX8_runScript_50 0 rfl rfl ?_
          refine h_bipush (M := mX8_runScript) dX8_runScript_51 rfl ?_
          obtain ⟨t60, u61, h3⟩ := zbi h3
          refine g_callVr (M := mX8_runScript) [.int (iI 59)] hX dX8_runScript_53 vX8_mustSign kM_X8_211 (wX8_mustSign hX zC_self (by omega)  u61) qMo (zWs_at (by omega) (zC_o)) rfl ⟨(Nat.le_of_ble_eq_true rfl), (Nat.le_of_ble_eq_true rfl)⟩ ⟨(Nat.le_of_ble_eq_true rfl), (Nat.le_of_ble_eq_true rfl)⟩ (Nat.le_of_ble_eq_true rfl) ?_
          refine g_ws (M := mX8_runScript) (congrArg (zWs A n) zC_over) ?_
          refine g_lv (M := mX8_runScript) [0] rfl ?_
          exact j55 t60 h3
set_option maxHeartbeats 4000000 in
set_option maxRecDepth 100000 in
theorem wX8_save {X : zX} (hX : zOK X) {A : Nat → Nat} {n : Nat} {S : Nat → va_E} {qMo : Nat} {VMo : CV} (hMo : isC X A shMo qMo VMo S) (bMo : qMo + 20 < n) {res : CV × Int} (h : fX8_save VMo = some res) : Con X yX8_save mX8_save 0 0 0 [.ref (A qMo)] (zWs A n S) (zRet (zWs A n (zC X A shMo qMo res.1 S)) (some (.int (iI res.2)))) := by
  refine con_of (lv := [(0, .ref (A qMo))]) (by decide) rfl (fun h => by cases h) rfl (Nat.le_of_ble_eq_true rfl) rfl ?_
  refine g_ws (M := mX8_save) (congrArg (zWs A n) hMo.symm) ?_
  unfold fX8_save at h
  refine g_aload_n (M := mX8_save) dX8_save_0 0 rfl rfl ?_
  refine h_iconst (M := mX8_save) dX8_save_1 ?_
  refine c_put (M := mX8_save) (k := 0) dX8_save_2 kF_X8_81 (by omega) rfl rfl (by decide) rfl rfl ?_
  refine h_iconst (M := mX8_save) dX8_save_5 ?_
  refine g_istore_n (M := mX8_save) (lv' := [(0, .ref (A qMo)), (1, .int (iI 0))]) dX8_save_6 rfl (by decide) rfl ?_
  obtain ⟨x1, l1, h⟩ := zbi h
  have r1 : ∀ y1, y1 = x1 → G X mX8_save (zPm X 0 0 0 (zRet (zWs A n (zC X A shMo qMo res.1 S)) (some (.int (iI res.2))))) 0 0 32 [(0, .ref (A qMo))] [] (zWs A n (zC X A shMo qMo y1.2 S)) := by
    intro y1 ey
    rw [← ey] at h
    refine h_iconst (M := mX8_save) dX8_save_32 ?_
    refine g_istore_n (M := mX8_save) (lv' := [(0, .ref (A qMo)), (1, .int (iI 0))]) dX8_save_33 rfl (by decide) rfl ?_
    obtain ⟨x5, l5, h⟩ := zbi h
    have r5 : ∀ y5, y5 = x5 → G X mX8_save (zPm X 0 0 0 (zRet (zWs A n (zC X A shMo qMo res.1 S)) (some (.int (iI res.2))))) 0 0 58 [(0, .ref (A qMo))] [] (zWs A n (zC X A shMo qMo y5.2 S)) := by
      intro y5 ey
      rw [← ey] at h
      refine g_aload_n (M := mX8_save) dX8_save_58 0 rfl rfl ?_
      refine h_iconst (M := mX8_save) dX8_save_59 ?_
      refine c_put (M := mX8_save) (k := 23) dX8_save_60 kF_X8_158 (by omega) rfl rfl (by decide) rfl rfl ?_
      refine g_aload_n (M := mX8_save) dX8_save_63 0 rfl rfl ?_
      refine k_get (M := mX8_save) (v := .ref (A (qMo + 2))) dX8_save_64 kF_X8_20.r qMo (by omega) (zC_o) rfl ?_
      refine h_iconst (M := mX8_save) dX8_save_67 ?_
      refine k_iald (M := mX8_save) (len := 351) (f := y5.2.2 2) dX8_save_68 (qMo + 2) (by omega) (zC_a (d := (0, 351)) 1 rfl) (Nat.le_of_ble_eq_true rfl) (by decide) (by decide) ?_
      have e := (Option.some.inj h)
      subst e
      exact g_iret (M := mX8_save) dX8_save_69 rfl (Nat.le_of_ble_eq_true rfl) (Nat.le_of_ble_eq_true rfl) ⟨rfl, rfl⟩
    refine zLp_J (J := fun s5 => G X mX8_save (zPm X 0 0 0 (zRet (zWs A n (zC X A shMo qMo res.1 S)) (some (.int (iI res.2))))) 0 0 34 [(0, .ref (A qMo)), (1, .int (iI s5.1))] [] (zWs A n (zC X A shMo qMo s5.2 S))) (fun s5 w5 h5 b5 e5 => ?_) _ _ l5
    refine g_iload_n (M := mX8_save) dX8_save_34 1 rfl rfl ?_
    refine h_bipush (M := mX8_save) dX8_save_35 rfl ?_
    obtain ⟨g10, h5⟩ := zgi h5
    refine h_icmp_ge (M := mX8_save) (tgt := 58) dX8_save_37 (by decide) g10 (by decide) (fun c9 => ?_) (fun c9 => ?_)
    · have h5 := zti c9 h5
      refine g_lv (M := mX8_save) [0] rfl ?_
      exact r5 _ (e5 _ (Option.some.inj h5).symm)
    · have h5 := zfi (Int.not_le.mpr c9) h5
      refine g_aload_n (M := mX8_save) dX8_save_40 0 rfl rfl ?_
      refine k_get (M := mX8_save) (v := .ref (A (qMo + 8))) dX8_save_41 kF_X8_39.r qMo (by omega) (zC_o) rfl ?_
      refine g_iload_n (M := mX8_save) dX8_save_44 1 rfl rfl ?_
      refine g_aload_n (M := mX8_save) dX8_save_45 0 rfl rfl ?_
      refine k_get (M := mX8_save) (v := .ref (A (qMo + 7))) dX8_save_46 kF_X8_35.r qMo (by omega) (zC_o) rfl ?_
      refine g_iload_n (M := mX8_save) dX8_save_49 1 rfl rfl ?_
      obtain ⟨g11, h5⟩ := zgi h5
      refine k_lald (M := mX8_save) (len := 10) (f := s5.2.2 7) dX8_save_50 (qMo + 7) (by omega) (zC_a (d := (1, 10)) 6 rfl) (Nat.le_of_ble_eq_true rfl) g11.1 g11.2 ?_
      refine c_last (M := mX8_save) (len := 10) (d := (1, 10)) dX8_save_51 7 rfl rfl (by omega) (Nat.le_of_ble_eq_true rfl) g11.1 g11.2 ?_
      refine h_iinc (M := mX8_save) (j := 1) (lv' := [(0, .ref (A qMo)), (1, .int (iI (s5.1 + 1)))]) dX8_save_52 rfl (Nat.le_of_ble_eq_true rfl) rfl ?_
      refine g_goto (M := mX8_save) (tgt := 34) dX8_save_55 (by decide) ?_
      exact b5 _ (Option.some.inj h5).symm
  refine zLp_J (J := fun s1 => G X mX8_save (zPm X 0 0 0 (zRet (zWs A n (zC X A shMo qMo res.1 S)) (some (.int (iI res.2))))) 0 0 7 [(0, .ref (A qMo)), (1, .int (iI s1.1))] [] (zWs A n (zC X A shMo qMo s1.2 S))) (fun s1 w1 h1 b1 e1 => ?_) _ _ l1
  refine g_iload_n (M := mX8_save) dX8_save_7 1 rfl rfl ?_
  refine h_sipush (M := mX8_save) dX8_save_8 rfl ?_
  obtain ⟨g13, h1⟩ := zgi h1
  refine h_icmp_ge (M := mX8_save) (tgt := 32) dX8_save_11 (by decide) g13 (by decide) (fun c12 => ?_) (fun c12 => ?_)
  · have h1 := zti c12 h1
    refine g_lv (M := mX8_save) [0] rfl ?_
    exact r1 _ (e1 _ (Option.some.inj h1).symm)
  · have h1 := zfi (Int.not_le.mpr c12) h1
    refine g_aload_n (M := mX8_save) dX8_save_14 0 rfl rfl ?_
    refine k_get (M := mX8_save) (v := .ref (A (qMo + 3))) dX8_save_15 kF_X8_23.r qMo (by omega) (zC_o) rfl ?_
    refine g_iload_n (M := mX8_save) dX8_save_18 1 rfl rfl ?_
    refine g_aload_n (M := mX8_save) dX8_save_19 0 rfl rfl ?_
    refine k_get (M := mX8_save) (v := .ref (A (qMo + 2))) dX8_save_20 kF_X8_20.r qMo (by omega) (zC_o) rfl ?_
    refine g_iload_n (M := mX8_save) dX8_save_23 1 rfl rfl ?_
    obtain ⟨g14, h1⟩ := zgi h1
    refine k_iald (M := mX8_save) (len := 351) (f := s1.2.2 2) dX8_save_24 (qMo + 2) (by omega) (zC_a (d := (0, 351)) 1 rfl) (Nat.le_of_ble_eq_true rfl) g14.1 g14.2 ?_
    refine c_iast (M := mX8_save) (len := 351) (d := (0, 351)) dX8_save_25 2 rfl rfl (by omega) (Nat.le_of_ble_eq_true rfl) g14.1 g14.2 ?_
    refine h_iinc (M := mX8_save) (j := 1) (lv' := [(0, .ref (A qMo)), (1, .int (iI (s1.1 + 1)))]) dX8_save_26 rfl (Nat.le_of_ble_eq_true rfl) rfl ?_
    refine g_goto (M := mX8_save) (tgt := 7) dX8_save_29 (by decide) ?_
    exact b1 _ (Option.some.inj h1).symm
set_option maxHeartbeats 4000000 in
set_option maxRecDepth 100000 in
theorem wX8_score {X : zX} (hX : zOK X) {A : Nat → Nat} {n : Nat} {S : Nat → va_E} {qMo : Nat} {VMo : CV} (hMo : isC X A shMo qMo VMo S) (bMo : qMo + 20 < n) {a1 : Int} {res : CV × Int} (h : fX8_score VMo a1 = some res) : Con X yX8_score mX8_score 6 0 0 [.ref (A qMo), .int (iI a1)] (zWs A n S) (zRet (zWs A n (zC X A shMo qMo res.1 S)) (some (.int (iI res.2)))) := by
  refine con_of (lv := [(0, .ref (A qMo)), (1, .int (iI a1))]) (by decide) rfl (fun h => by cases h) rfl (Nat.le_of_ble_eq_true rfl) rfl ?_
  refine g_ws (M := mX8_score) (congrArg (zWs A n) hMo.symm) ?_
  unfold fX8_score at h
  refine g_aload_n (M := mX8_score) dX8_score_0 0 rfl rfl ?_
  refine g_aload_n (M := mX8_score) dX8_score_1 0 rfl rfl ?_
  refine g_iload_n (M := mX8_score) dX8_score_2 1 rfl rfl ?_
  obtain ⟨t1, u2, h⟩ := zbi h
  refine g_callVr (M := mX8_score) [.int (iI a1)] hX dX8_score_3 vX8_isOne kM_X8_268 (wX8_isOne hX zC_self (by omega)  u2) qMo (zWs_at (by omega) (zC_o)) rfl ⟨(Nat.le_of_ble_eq_true rfl), (Nat.le_of_ble_eq_true rfl)⟩ ⟨(Nat.le_of_ble_eq_true rfl), (Nat.le_of_ble_eq_true rfl)⟩ (Nat.le_of_ble_eq_true rfl) ?_
  obtain ⟨t3, u4, h⟩ := zbi h
  refine g_callVr (M := mX8_score) [.int (iI (b2 t1))] hX dX8_score_6 vX8_goes kM_X8_91 (wX8_goes hX zC_self (by omega)  u4) qMo (zWs_at (by omega) (zC_o)) rfl ⟨(Nat.le_of_ble_eq_true rfl), (Nat.le_of_ble_eq_true rfl)⟩ ⟨(Nat.le_of_ble_eq_true rfl), (Nat.le_of_ble_eq_true rfl)⟩ (Nat.le_of_ble_eq_true rfl) ?_
  refine g_ws (M := mX8_score) (congrArg (zWs A n) zC_over) ?_
  refine h_beq (M := mX8_score) (tgt := 20) dX8_score_9 (by decide) (fun c5 => ?_) (fun c5 => ?_)
  · have h := zfi (zbf c5) h
    refine h_iconst (M := mX8_score) dX8_score_20 ?_
    have e := (Option.some.inj h)
    subst e
    exact g_iret (M := mX8_score) dX8_score_21 rfl (Nat.le_of_ble_eq_true rfl) (Nat.le_of_ble_eq_true rfl) ⟨rfl, rfl⟩
  · have h := zti c5 h
    refine g_aload_n (M := mX8_score) dX8_score_12 0 rfl rfl ?_
    refine g_iload_n (M := mX8_score) dX8_score_13 1 rfl rfl ?_
    obtain ⟨t6, u7, h⟩ := zbi h
    refine g_callVr (M := mX8_score) [.int (iI a1)] hX dX8_score_14 vX8_scoreOf kM_X8_271 (wX8_scoreOf hX zC_self (by omega)  u7) qMo (zWs_at (by omega) (zC_o)) rfl ⟨(Nat.le_of_ble_eq_true rfl), (Nat.le_of_ble_eq_true rfl)⟩ ⟨(Nat.le_of_ble_eq_true rfl), (Nat.le_of_ble_eq_true rfl)⟩ (Nat.le_of_ble_eq_true rfl) ?_
    refine g_ws (M := mX8_score) (congrArg (zWs A n) zC_over) ?_
    refine g_goto (M := mX8_score) (tgt := 21) dX8_score_17 (by decide) ?_
    have e := (Option.some.inj h)
    subst e
    exact g_iret (M := mX8_score) dX8_score_21 rfl (Nat.le_of_ble_eq_true rfl) (Nat.le_of_ble_eq_true rfl) ⟨rfl, rfl⟩
set_option maxHeartbeats 4000000 in
set_option maxRecDepth 100000 in
theorem wX8_scoreWithout {X : zX} (hX : zOK X) {A : Nat → Nat} {n : Nat} {S : Nat → va_E} {qMo : Nat} {VMo : CV} (hMo : isC X A shMo qMo VMo S) (bMo : qMo + 20 < n) {a1 : Int} {res : CV × Int} (h : fX8_scoreWithout VMo a1 = some res) : Con X yX8_scoreWithout mX8_scoreWithout 7 0 0 [.ref (A qMo), .int (iI a1)] (zWs A n S) (zRet (zWs A n (zC X A shMo qMo res.1 S)) (some (.int (iI res.2)))) := by
  refine con_of (lv := [(0, .ref (A qMo)), (1, .int (iI a1))]) (by decide) rfl (fun h => by cases h) rfl (Nat.le_of_ble_eq_true rfl) rfl ?_
  refine g_ws (M := mX8_scoreWithout) (congrArg (zWs A n) hMo.symm) ?_
  unfold fX8_scoreWithout at h
  refine g_aload_n (M := mX8_scoreWithout) dX8_scoreWithout_0 0 rfl rfl ?_
  refine g_aload_n (M := mX8_scoreWithout) dX8_scoreWithout_1 0 rfl rfl ?_
  refine g_iload_n (M := mX8_scoreWithout) dX8_scoreWithout_2 1 rfl rfl ?_
  obtain ⟨t1, u2, h⟩ := zbi h
  refine g_callVr (M := mX8_scoreWithout) [.int (iI a1)] hX dX8_scoreWithout_3 vX8_isRow kM_X8_256 (wX8_isRow hX zC_self (by omega)  u2) qMo (zWs_at (by omega) (zC_o)) rfl ⟨(Nat.le_of_ble_eq_true rfl), (Nat.le_of_ble_eq_true rfl)⟩ ⟨(Nat.le_of_ble_eq_true rfl), (Nat.le_of_ble_eq_true rfl)⟩ (Nat.le_of_ble_eq_true rfl) ?_
  obtain ⟨t3, u4, h⟩ := zbi h
  refine g_callVr (M := mX8_scoreWithout) [.int (iI (b2 t1))] hX dX8_scoreWithout_6 vX8_goes kM_X8_91 (wX8_goes hX zC_self (by omega)  u4) qMo (zWs_at (by omega) (zC_o)) rfl ⟨(Nat.le_of_ble_eq_true rfl), (Nat.le_of_ble_eq_true rfl)⟩ ⟨(Nat.le_of_ble_eq_true rfl), (Nat.le_of_ble_eq_true rfl)⟩ (Nat.le_of_ble_eq_true rfl) ?_
  refine g_ws (M := mX8_scoreWithout) (congrArg (zWs A n) zC_over) ?_
  refine h_beq (M := mX8_scoreWithout) (tgt := 20) dX8_scoreWithout_9 (by decide) (fun c5 => ?_) (fun c5 => ?_)
  · have h := zfi (zbf c5) h
    refine h_iconst (M := mX8_scoreWithout) dX8_scoreWithout_20 ?_
    have e := (Option.some.inj h)
    subst e
    exact g_iret (M := mX8_scoreWithout) dX8_scoreWithout_21 rfl (Nat.le_of_ble_eq_true rfl) (Nat.le_of_ble_eq_true rfl) ⟨rfl, rfl⟩
  · have h := zti c5 h
    refine g_aload_n (M := mX8_scoreWithout) dX8_scoreWithout_12 0 rfl rfl ?_
    refine g_iload_n (M := mX8_scoreWithout) dX8_scoreWithout_13 1 rfl rfl ?_
    obtain ⟨t6, u7, h⟩ := zbi h
    refine g_callVr (M := mX8_scoreWithout) [.int (iI a1)] hX dX8_scoreWithout_14 vX8_without kM_X8_326 (wX8_without hX zC_self (by omega)  u7) qMo (zWs_at (by omega) (zC_o)) rfl ⟨(Nat.le_of_ble_eq_true rfl), (Nat.le_of_ble_eq_true rfl)⟩ ⟨(Nat.le_of_ble_eq_true rfl), (Nat.le_of_ble_eq_true rfl)⟩ (Nat.le_of_ble_eq_true rfl) ?_
    refine g_ws (M := mX8_scoreWithout) (congrArg (zWs A n) zC_over) ?_
    refine g_goto (M := mX8_scoreWithout) (tgt := 21) dX8_scoreWithout_17 (by decide) ?_
    have e := (Option.some.inj h)
    subst e
    exact g_iret (M := mX8_scoreWithout) dX8_scoreWithout_21 rfl (Nat.le_of_ble_eq_true rfl) (Nat.le_of_ble_eq_true rfl) ⟨rfl, rfl⟩
set_option maxHeartbeats 4000000 in
set_option maxRecDepth 100000 in
theorem wX8_second {X : zX} (hX : zOK X) {A : Nat → Nat} {n : Nat} {S : Nat → va_E} {qMo : Nat} {VMo : CV} (hMo : isC X A shMo qMo VMo S) (bMo : qMo + 20 < n) {a1 : Int} {res : CV × Int} (h : fX8_second VMo a1 = some res) : Con X yX8_second mX8_second 6 0 0 [.ref (A qMo), .int (iI a1)] (zWs A n S) (zRet (zWs A n (zC X A shMo qMo res.1 S)) (some (.int (iI res.2)))) := by
  refine con_of (lv := [(0, .ref (A qMo)), (1, .int (iI a1))]) (by decide) rfl (fun h => by cases h) rfl (Nat.le_of_ble_eq_true rfl) rfl ?_
  refine g_ws (M := mX8_second) (congrArg (zWs A n) hMo.symm) ?_
  unfold fX8_second at h
  refine g_aload_n (M := mX8_second) dX8_second_0 0 rfl rfl ?_
  refine g_iload_n (M := mX8_second) dX8_second_1 1 rfl rfl ?_
  obtain ⟨g1, h⟩ := zgi h
  refine h_i2l (M := mX8_second) dX8_second_2 g1 ?_
  refine g_lconst (M := mX8_second) (v := iL 0) dX8_second_3 rfl ?_
  refine g_lconst (M := mX8_second) (v := iL 1) dX8_second_4 rfl ?_
  obtain ⟨t2, u3, h⟩ := zbi h
  refine g_callSr (M := mX8_second) [.long (iL a1), .long (iL 0), .long (iL 1)] hX dX8_second_5 vX8_isIn kM_X8_99 (wX8_isIn hX   u3) rfl ⟨(Nat.le_of_ble_eq_true rfl), (Nat.le_of_ble_eq_true rfl)⟩ ⟨(Nat.le_of_ble_eq_true rfl), (Nat.le_of_ble_eq_true rfl)⟩ (Nat.le_of_ble_eq_true rfl) ?_
  obtain ⟨t4, u5, h⟩ := zbi h
  refine g_callVr (M := mX8_second) [.int (iI (b2 t2))] hX dX8_second_8 vX8_goes kM_X8_91 (wX8_goes hX zC_self (by omega)  u5) qMo (zWs_at (by omega) (zC_o)) rfl ⟨(Nat.le_of_ble_eq_true rfl), (Nat.le_of_ble_eq_true rfl)⟩ ⟨(Nat.le_of_ble_eq_true rfl), (Nat.le_of_ble_eq_true rfl)⟩ (Nat.le_of_ble_eq_true rfl) ?_
  refine g_ws (M := mX8_second) (congrArg (zWs A n) zC_over) ?_
  refine h_bne (M := mX8_second) (tgt := 16) dX8_second_11 (by decide) (fun c6 => ?_) (fun c6 => ?_)
  · have h := zti c6 h
    refine g_aload_n (M := mX8_second) dX8_second_16 0 rfl rfl ?_
    obtain ⟨t7, u8, h⟩ := zbi h
    refine g_callVr (M := mX8_second) [] hX dX8_second_17 vX8_searches kM_X8_323 (wX8_searches hX zC_self (by omega)  u8) qMo (zWs_at (by omega) (zC_o)) rfl ⟨(Nat.le_of_ble_eq_true rfl), (Nat.le_of_ble_eq_true rfl)⟩ ⟨(Nat.le_of_ble_eq_true rfl), (Nat.le_of_ble_eq_true rfl)⟩ (Nat.le_of_ble_eq_true rfl) ?_
    refine g_ws (M := mX8_second) (congrArg (zWs A n) zC_over) ?_
    refine g_aload_n (M := mX8_second) dX8_second_20 0 rfl rfl ?_
    refine g_aload_n (M := mX8_second) dX8_second_21 0 rfl rfl ?_
    refine k_get (M := mX8_second) (v := .int (iI (t7.1 31))) dX8_second_22 kF_X8_306.r qMo (by omega) (zC_o) rfl ?_
    obtain ⟨t9, u10, h⟩ := zbi h
    refine g_callVr (M := mX8_second) [.int (iI (t7.1 31))] hX dX8_second_25 vX8_whyTake kM_X8_335 (wX8_whyTake hX zC_self (by omega)  u10) qMo (zWs_at (by omega) (zC_o)) rfl ⟨(Nat.le_of_ble_eq_true rfl), (Nat.le_of_ble_eq_true rfl)⟩ ⟨(Nat.le_of_ble_eq_true rfl), (Nat.le_of_ble_eq_true rfl)⟩ (Nat.le_of_ble_eq_true rfl) ?_
    refine g_ws (M := mX8_second) (congrArg (zWs A n) zC_over) ?_
    obtain ⟨g12, h⟩ := zgi h
    refine h_if_le (M := mX8_second) (tgt := 33) dX8_second_28 (by decide) g12 (fun c11 => ?_) (fun c11 => ?_)
    · have h := zti c11 h
      refine g_aload_n (M := mX8_second) dX8_second_33 0 rfl rfl ?_
      obtain ⟨t13, u14, h⟩ := zbi h
      refine g_callVr (M := mX8_second) [] hX dX8_second_34 vX8_thinks kM_X8_338 (wX8_thinks hX zC_self (by omega)  u14) qMo (zWs_at (by omega) (zC_o)) rfl ⟨(Nat.le_of_ble_eq_true rfl), (Nat.le_of_ble_eq_true rfl)⟩ ⟨(Nat.le_of_ble_eq_true rfl), (Nat.le_of_ble_eq_true rfl)⟩ (Nat.le_of_ble_eq_true rfl) ?_
      refine g_ws (M := mX8_second) (congrArg (zWs A n) zC_over) ?_
      refine g_aload_n (M := mX8_second) dX8_second_37 0 rfl rfl ?_
      refine g_aload_n (M := mX8_second) dX8_second_38 0 rfl rfl ?_
      refine k_get (M := mX8_second) (v := .int (iI (t13.1 31))) dX8_second_39 kF_X8_306.r qMo (by omega) (zC_o) rfl ?_
      obtain ⟨t15, u16, h⟩ := zbi h
      refine g_callVr (M := mX8_second) [.int (iI (t13.1 31))] hX dX8_second_42 vX8_takes kM_X8_341 (wX8_takes hX zC_self (by omega)  u16) qMo (zWs_at (by omega) (zC_o)) rfl ⟨(Nat.le_of_ble_eq_true rfl), (Nat.le_of_ble_eq_true rfl)⟩ ⟨(Nat.le_of_ble_eq_true rfl), (Nat.le_of_ble_eq_true rfl)⟩ (Nat.le_of_ble_eq_true rfl) ?_
      refine g_ws (M := mX8_second) (congrArg (zWs A n) zC_over) ?_
      refine g_istore_n (M := mX8_second) (lv' := [(0, .ref (A qMo)), (1, .int (iI a1)), (2, .int (iI t15.2))]) dX8_second_45 rfl (by decide) rfl ?_
      refine g_aload_n (M := mX8_second) dX8_second_46 0 rfl rfl ?_
      obtain ⟨t17, u18, h⟩ := zbi h
      refine g_callVr (M := mX8_second) [] hX dX8_second_47 vX8_searches kM_X8_323 (wX8_searches hX zC_self (by omega)  u18) qMo (zWs_at (by omega) (zC_o)) rfl ⟨(Nat.le_of_ble_eq_true rfl), (Nat.le_of_ble_eq_true rfl)⟩ ⟨(Nat.le_of_ble_eq_true rfl), (Nat.le_of_ble_eq_true rfl)⟩ (Nat.le_of_ble_eq_true rfl) ?_
      refine g_ws (M := mX8_second) (congrArg (zWs A n) zC_over) ?_
      refine g_aload_n (M := mX8_second) dX8_second_50 0 rfl rfl ?_
      obtain ⟨t19, u20, h⟩ := zbi h
      refine g_callVr (M := mX8_second) [] hX dX8_second_51 vX8_thinksNoMore kM_X8_344 (wX8_thinksNoMore hX zC_self (by omega)  u20) qMo (zWs_at (by omega) (zC_o)) rfl ⟨(Nat.le_of_ble_eq_true rfl), (Nat.le_of_ble_eq_true rfl)⟩ ⟨(Nat.le_of_ble_eq_true rfl), (Nat.le_of_ble_eq_true rfl)⟩ (Nat.le_of_ble_eq_true rfl) ?_
      refine g_ws (M := mX8_second) (congrArg (zWs A n) zC_over) ?_
      refine g_iload_n (M := mX8_second) dX8_second_54 1 rfl rfl ?_
      refine h_if_ne (M := mX8_second) (tgt := 65) dX8_second_55 (by decide) g1 (fun c21 => ?_) (fun c21 => ?_)
      · have h := zfi c21 h
        refine g_aload_n (M := mX8_second) dX8_second_65 0 rfl rfl ?_
        refine k_get (M := mX8_second) (v := .int (iI (t19.1 32))) dX8_second_66 kF_X8_309.r qMo (by omega) (zC_o) rfl ?_
        have e := (Option.some.inj h)
        subst e
        exact g_iret (M := mX8_second) dX8_second_69 rfl (Nat.le_of_ble_eq_true rfl) (Nat.le_of_ble_eq_true rfl) ⟨rfl, rfl⟩
      · have h := zti c21 h
        refine g_aload_n (M := mX8_second) dX8_second_58 0 rfl rfl ?_
        refine k_get (M := mX8_second) (v := .int (iI (t19.1 31))) dX8_second_59 kF_X8_306.r qMo (by omega) (zC_o) rfl ?_
        refine g_goto (M := mX8_second) (tgt := 69) dX8_second_62 (by decide) ?_
        have e := (Option.some.inj h)
        subst e
        exact g_iret (M := mX8_second) dX8_second_69 rfl (Nat.le_of_ble_eq_true rfl) (Nat.le_of_ble_eq_true rfl) ⟨rfl, rfl⟩
    · have h := zfi (Int.not_le.mpr c11) h
      refine h_iconst (M := mX8_second) dX8_second_31 ?_
      have e := (Option.some.inj h)
      subst e
      exact g_iret (M := mX8_second) dX8_second_32 rfl (Nat.le_of_ble_eq_true rfl) (Nat.le_of_ble_eq_true rfl) ⟨rfl, rfl⟩
  · have h := zfi (zbf c6) h
    refine h_iconst (M := mX8_second) dX8_second_14 ?_
    have e := (Option.some.inj h)
    subst e
    exact g_iret (M := mX8_second) dX8_second_15 rfl (Nat.le_of_ble_eq_true rfl) (Nat.le_of_ble_eq_true rfl) ⟨rfl, rfl⟩
set_option maxHeartbeats 4000000 in
set_option maxRecDepth 100000 in
theorem wX8_setChanges {X : zX} (hX : zOK X) {A : Nat → Nat} {n : Nat} {S : Nat → va_E} {qMo : Nat} {VMo : CV} (hMo : isC X A shMo qMo VMo S) (bMo : qMo + 20 < n) {a1 : Int} {res : CV × Int} (h : fX8_setChanges VMo a1 = some res) : Con X yX8_setChanges mX8_setChanges 2 0 0 [.ref (A qMo), .int (iI a1)] (zWs A n S) (zRet (zWs A n (zC X A shMo qMo res.1 S)) (some (.int (iI res.2)))) := by
  refine con_of (lv := [(0, .ref (A qMo)), (1, .int (iI a1))]) (by decide) rfl (fun h => by cases h) rfl (Nat.le_of_ble_eq_true rfl) rfl ?_
  refine g_ws (M := mX8_setChanges) (congrArg (zWs A n) hMo.symm) ?_
  unfold fX8_setChanges at h
  refine g_aload_n (M := mX8_setChanges) dX8_setChanges_0 0 rfl rfl ?_
  refine g_iload_n (M := mX8_setChanges) dX8_setChanges_1 1 rfl rfl ?_
  obtain ⟨g1, h⟩ := zgi h
  refine h_i2l (M := mX8_setChanges) dX8_setChanges_2 g1 ?_
  refine g_lconst (M := mX8_setChanges) (v := iL 0) dX8_setChanges_3 rfl ?_
  refine g_ldc2 (M := mX8_setChanges) (v := iL (3)) dX8_setChanges_4 kC_X8_321 ?_
  obtain ⟨t2, u3, h⟩ := zbi h
  refine g_callSr (M := mX8_setChanges) [.long (iL a1), .long (iL 0), .long (iL 3)] hX dX8_setChanges_7 vX8_isIn kM_X8_99 (wX8_isIn hX   u3) rfl ⟨(Nat.le_of_ble_eq_true rfl), (Nat.le_of_ble_eq_true rfl)⟩ ⟨(Nat.le_of_ble_eq_true rfl), (Nat.le_of_ble_eq_true rfl)⟩ (Nat.le_of_ble_eq_true rfl) ?_
  obtain ⟨t4, u5, h⟩ := zbi h
  refine g_callVr (M := mX8_setChanges) [.int (iI (b2 t2))] hX dX8_setChanges_10 vX8_goes kM_X8_91 (wX8_goes hX zC_self (by omega)  u5) qMo (zWs_at (by omega) (zC_o)) rfl ⟨(Nat.le_of_ble_eq_true rfl), (Nat.le_of_ble_eq_true rfl)⟩ ⟨(Nat.le_of_ble_eq_true rfl), (Nat.le_of_ble_eq_true rfl)⟩ (Nat.le_of_ble_eq_true rfl) ?_
  refine g_ws (M := mX8_setChanges) (congrArg (zWs A n) zC_over) ?_
  refine h_bne (M := mX8_setChanges) (tgt := 18) dX8_setChanges_13 (by decide) (fun c6 => ?_) (fun c6 => ?_)
  · have h := zti c6 h
    refine g_aload_n (M := mX8_setChanges) dX8_setChanges_18 0 rfl rfl ?_
    obtain ⟨t7, u8, h⟩ := zbi h
    refine g_callVr (M := mX8_setChanges) [] hX dX8_setChanges_19 vX8_laysAside kM_X8_217 (wX8_laysAside hX zC_self (by omega)  u8) qMo (zWs_at (by omega) (zC_o)) rfl ⟨(Nat.le_of_ble_eq_true rfl), (Nat.le_of_ble_eq_true rfl)⟩ ⟨(Nat.le_of_ble_eq_true rfl), (Nat.le_of_ble_eq_true rfl)⟩ (Nat.le_of_ble_eq_true rfl) ?_
    refine g_ws (M := mX8_setChanges) (congrArg (zWs A n) zC_over) ?_
    refine g_aload_n (M := mX8_setChanges) dX8_setChanges_22 0 rfl rfl ?_
    refine g_aload_n (M := mX8_setChanges) dX8_setChanges_23 0 rfl rfl ?_
    refine g_iload_n (M := mX8_setChanges) dX8_setChanges_24 1 rfl rfl ?_
    obtain ⟨t9, u10, h⟩ := zbi h
    refine g_callVr (M := mX8_setChanges) [.int (iI a1)] hX dX8_setChanges_25 vX8_setsChanges kM_X8_391 (wX8_setsChanges hX zC_self (by omega)  u10) qMo (zWs_at (by omega) (zC_o)) rfl ⟨(Nat.le_of_ble_eq_true rfl), (Nat.le_of_ble_eq_true rfl)⟩ ⟨(Nat.le_of_ble_eq_true rfl), (Nat.le_of_ble_eq_true rfl)⟩ (Nat.le_of_ble_eq_true rfl) ?_
    refine g_ws (M := mX8_setChanges) (congrArg (zWs A n) zC_over) ?_
    obtain ⟨t11, u12, h⟩ := zbi h
    refine g_callVr (M := mX8_setChanges) [.int (iI t9.2)] hX dX8_setChanges_28 vX8_kept kM_X8_382 (wX8_kept hX zC_self (by omega)  u12) qMo (zWs_at (by omega) (zC_o)) rfl ⟨(Nat.le_of_ble_eq_true rfl), (Nat.le_of_ble_eq_true rfl)⟩ ⟨(Nat.le_of_ble_eq_true rfl), (Nat.le_of_ble_eq_true rfl)⟩ (Nat.le_of_ble_eq_true rfl) ?_
    refine g_ws (M := mX8_setChanges) (congrArg (zWs A n) zC_over) ?_
    have e := (Option.some.inj h)
    subst e
    exact g_iret (M := mX8_setChanges) dX8_setChanges_31 rfl (Nat.le_of_ble_eq_true rfl) (Nat.le_of_ble_eq_true rfl) ⟨rfl, rfl⟩
  · have h := zfi (zbf c6) h
    refine h_iconst (M := mX8_setChanges) dX8_setChanges_16 ?_
    have e := (Option.some.inj h)
    subst e
    exact g_iret (M := mX8_setChanges) dX8_setChanges_17 rfl (Nat.le_of_ble_eq_true rfl) (Nat.le_of_ble_eq_true rfl) ⟨rfl, rfl⟩
set_option maxHeartbeats 4000000 in
set_option maxRecDepth 100000 in
theorem wX8_setOut {X : zX} (hX : zOK X) {A : Nat → Nat} {n : Nat} {S : Nat → va_E} {qMo : Nat} {VMo : CV} (hMo : isC X A shMo qMo VMo S) (bMo : qMo + 20 < n) {a1 : Int} {a2 : Int} {res : CV × Int} (h : fX8_setOut VMo a1 a2 = some res) : Con X yX8_setOut mX8_setOut 2 0 0 [.ref (A qMo), .int (iI a1), .int (iI a2)] (zWs A n S) (zRet (zWs A n (zC X A shMo qMo res.1 S)) (some (.int (iI res.2)))) := by
  refine con_of (lv := [(0, .ref (A qMo)), (1, .int (iI a1)), (2, .int (iI a2))]) (by decide) rfl (fun h => by cases h) rfl (Nat.le_of_ble_eq_true rfl) rfl ?_
  refine g_ws (M := mX8_setOut) (congrArg (zWs A n) hMo.symm) ?_
  unfold fX8_setOut at h
  refine g_aload_n (M := mX8_setOut) dX8_setOut_0 0 rfl rfl ?_
  refine g_iload_n (M := mX8_setOut) dX8_setOut_1 1 rfl rfl ?_
  obtain ⟨t1, u2, h⟩ := zbi h
  refine g_callVr (M := mX8_setOut) [.int (iI a1)] hX dX8_setOut_2 vX8_isRow kM_X8_256 (wX8_isRow hX zC_self (by omega)  u2) qMo (zWs_at (by omega) (zC_o)) rfl ⟨(Nat.le_of_ble_eq_true rfl), (Nat.le_of_ble_eq_true rfl)⟩ ⟨(Nat.le_of_ble_eq_true rfl), (Nat.le_of_ble_eq_true rfl)⟩ (Nat.le_of_ble_eq_true rfl) ?_
  refine g_istore_n (M := mX8_setOut) (lv' := [(0, .ref (A qMo)), (1, .int (iI a1)), (2, .int (iI a2)), (3, .int (iI (b2 t1)))]) dX8_setOut_5 rfl (by decide) rfl ?_
  refine g_aload_n (M := mX8_setOut) dX8_setOut_6 0 rfl rfl ?_
  refine g_iload_n (M := mX8_setOut) dX8_setOut_7 3 rfl rfl ?_
  refine g_iload_n (M := mX8_setOut) dX8_setOut_8 3 rfl rfl ?_
  refine zJn_J (J := fun x14 => G X mX8_setOut (zPm X 2 0 0 (zRet (zWs A n (zC X A shMo qMo res.1 S)) (some (.int (iI res.2))))) 0 0 26 [(0, .ref (A qMo)), (1, .int (iI a1)), (2, .int (iI a2))] [.int (iI x14), .int (iI (b2 t1)), .ref (A qMo)] (zWs A n (zC X A shMo qMo VMo S))) h (fun x14 h => ?_) (fun j14 h => ?_)
  · obtain ⟨t15, u16, h⟩ := zbi h
    refine g_callVr (M := mX8_setOut) [.int (iI (b2 t1)), .int (iI x14)] hX dX8_setOut_26 vX8_goesBoth kM_X8_261 (wX8_goesBoth hX zC_self (by omega)  u16) qMo (zWs_at (by omega) (zC_o)) rfl ⟨(Nat.le_of_ble_eq_true rfl), (Nat.le_of_ble_eq_true rfl)⟩ ⟨(Nat.le_of_ble_eq_true rfl), (Nat.le_of_ble_eq_true rfl)⟩ (Nat.le_of_ble_eq_true rfl) ?_
    refine g_ws (M := mX8_setOut) (congrArg (zWs A n) zC_over) ?_
    refine h_bne (M := mX8_setOut) (tgt := 34) dX8_setOut_29 (by decide) (fun c17 => ?_) (fun c17 => ?_)
    · have h := zti c17 h
      refine g_aload_n (M := mX8_setOut) dX8_setOut_34 0 rfl rfl ?_
      obtain ⟨t18, u19, h⟩ := zbi h
      refine g_callVr (M := mX8_setOut) [] hX dX8_setOut_35 vX8_laysAside kM_X8_217 (wX8_laysAside hX zC_self (by omega)  u19) qMo (zWs_at (by omega) (zC_o)) rfl ⟨(Nat.le_of_ble_eq_true rfl), (Nat.le_of_ble_eq_true rfl)⟩ ⟨(Nat.le_of_ble_eq_true rfl), (Nat.le_of_ble_eq_true rfl)⟩ (Nat.le_of_ble_eq_true rfl) ?_
      refine g_ws (M := mX8_setOut) (congrArg (zWs A n) zC_over) ?_
      refine g_aload_n (M := mX8_setOut) dX8_setOut_38 0 rfl rfl ?_
      refine g_aload_n (M := mX8_setOut) dX8_setOut_39 0 rfl rfl ?_
      refine g_iload_n (M := mX8_setOut) dX8_setOut_40 1 rfl rfl ?_
      refine g_iload_n (M := mX8_setOut) dX8_setOut_41 2 rfl rfl ?_
      obtain ⟨t20, u21, h⟩ := zbi h
      refine g_callVr (M := mX8_setOut) [.int (iI a1), .int (iI a2)] hX dX8_setOut_42 vX8_setsOut kM_X8_387 (wX8_setsOut hX zC_self (by omega)  u21) qMo (zWs_at (by omega) (zC_o)) rfl ⟨(Nat.le_of_ble_eq_true rfl), (Nat.le_of_ble_eq_true rfl)⟩ ⟨(Nat.le_of_ble_eq_true rfl), (Nat.le_of_ble_eq_true rfl)⟩ (Nat.le_of_ble_eq_true rfl) ?_
      refine g_ws (M := mX8_setOut) (congrArg (zWs A n) zC_over) ?_
      obtain ⟨t22, u23, h⟩ := zbi h
      refine g_callVr (M := mX8_setOut) [.int (iI t20.2)] hX dX8_setOut_45 vX8_kept kM_X8_382 (wX8_kept hX zC_self (by omega)  u23) qMo (zWs_at (by omega) (zC_o)) rfl ⟨(Nat.le_of_ble_eq_true rfl), (Nat.le_of_ble_eq_true rfl)⟩ ⟨(Nat.le_of_ble_eq_true rfl), (Nat.le_of_ble_eq_true rfl)⟩ (Nat.le_of_ble_eq_true rfl) ?_
      refine g_ws (M := mX8_setOut) (congrArg (zWs A n) zC_over) ?_
      have e := (Option.some.inj h)
      subst e
      exact g_iret (M := mX8_setOut) dX8_setOut_48 rfl (Nat.le_of_ble_eq_true rfl) (Nat.le_of_ble_eq_true rfl) ⟨rfl, rfl⟩
    · have h := zfi (zbf c17) h
      refine h_iconst (M := mX8_setOut) dX8_setOut_32 ?_
      have e := (Option.some.inj h)
      subst e
      exact g_iret (M := mX8_setOut) dX8_setOut_33 rfl (Nat.le_of_ble_eq_true rfl) (Nat.le_of_ble_eq_true rfl) ⟨rfl, rfl⟩
  · refine zJn_J (J := fun x29 => G X mX8_setOut (zPm X 2 0 0 (zRet (zWs A n (zC X A shMo qMo res.1 S)) (some (.int (iI res.2))))) 0 0 25 [(0, .ref (A qMo)), (1, .int (iI a1)), (2, .int (iI a2))] [.int (iI (b2 t1)), .ref (A qMo)] (zWs A n (zC X A shMo qMo VMo S))) h (fun x29 h => ?_) (fun j29 h => ?_)
    · refine h_iconst (M := mX8_setOut) dX8_setOut_25 ?_
      exact j14 0 h
    · refine h_beq (M := mX8_setOut) (tgt := 25) dX8_setOut_9 (by decide) (fun c30 => ?_) (fun c30 => ?_)
      · have h := zfi (zbf c30) h
        refine g_lv (M := mX8_setOut) [0, 1, 2] rfl ?_
        exact j29 () h
      · have h := zti c30 h
        refine g_aload_n (M := mX8_setOut) dX8_setOut_12 0 rfl rfl ?_
        refine g_iload_n (M := mX8_setOut) dX8_setOut_13 1 rfl rfl ?_
        obtain ⟨t31, u32, h⟩ := zbi h
        refine g_callVr (M := mX8_setOut) [.int (iI a1)] hX dX8_setOut_14 vX8_isOut kM_X8_226 (wX8_isOut hX zC_self (by omega)  u32) qMo (zWs_at (by omega) (zC_o)) rfl ⟨(Nat.le_of_ble_eq_true rfl), (Nat.le_of_ble_eq_true rfl)⟩ ⟨(Nat.le_of_ble_eq_true rfl), (Nat.le_of_ble_eq_true rfl)⟩ (Nat.le_of_ble_eq_true rfl) ?_
        refine g_iload_n (M := mX8_setOut) dX8_setOut_17 2 rfl rfl ?_
        obtain ⟨g34, h⟩ := zgi h
        refine h_icmp_eq (M := mX8_setOut) (tgt := 25) dX8_setOut_18 (by decide) (b2_r _) g34 (fun c33 => ?_) (fun c33 => ?_)
        · have h := zti c33 h
          refine g_lv (M := mX8_setOut) [0, 1, 2] rfl ?_
          exact j29 () h
        · have h := zfi c33 h
          refine h_iconst (M := mX8_setOut) dX8_setOut_21 ?_
          refine g_goto (M := mX8_setOut) (tgt := 26) dX8_setOut_22 (by decide) ?_
          refine g_lv (M := mX8_setOut) [0, 1, 2] rfl ?_
          exact j14 1 h
set_option maxHeartbeats 4000000 in
set_option maxRecDepth 100000 in
theorem wX8_setting {X : zX} (hX : zOK X) {A : Nat → Nat} {n : Nat} {S : Nat → va_E} {qMo : Nat} {VMo : CV} (hMo : isC X A shMo qMo VMo S) (bMo : qMo + 20 < n) {a1 : Int} {res : CV × Int} (h : fX8_setting VMo a1 = some res) : Con X yX8_setting mX8_setting 4 0 0 [.ref (A qMo), .int (iI a1)] (zWs A n S) (zRet (zWs A n (zC X A shMo qMo res.1 S)) (some (.int (iI res.2)))) := by
  refine con_of (lv := [(0, .ref (A qMo)), (1, .int (iI a1))]) (by decide) rfl (fun h => by cases h) rfl (Nat.le_of_ble_eq_true rfl) rfl ?_
  refine g_ws (M := mX8_setting) (congrArg (zWs A n) hMo.symm) ?_
  unfold fX8_setting at h
  refine g_aload_n (M := mX8_setting) dX8_setting_0 0 rfl rfl ?_
  refine g_iload_n (M := mX8_setting) dX8_setting_1 1 rfl rfl ?_
  obtain ⟨g1, h⟩ := zgi h
  refine h_i2l (M := mX8_setting) dX8_setting_2 g1 ?_
  refine g_lconst (M := mX8_setting) (v := iL 0) dX8_setting_3 rfl ?_
  refine g_ldc2 (M := mX8_setting) (v := iL (9)) dX8_setting_4 kC_X8_248 ?_
  obtain ⟨t2, u3, h⟩ := zbi h
  refine g_callSr (M := mX8_setting) [.long (iL a1), .long (iL 0), .long (iL 9)] hX dX8_setting_7 vX8_isIn kM_X8_99 (wX8_isIn hX   u3) rfl ⟨(Nat.le_of_ble_eq_true rfl), (Nat.le_of_ble_eq_true rfl)⟩ ⟨(Nat.le_of_ble_eq_true rfl), (Nat.le_of_ble_eq_true rfl)⟩ (Nat.le_of_ble_eq_true rfl) ?_
  obtain ⟨t4, u5, h⟩ := zbi h
  refine g_callVr (M := mX8_setting) [.int (iI (b2 t2))] hX dX8_setting_10 vX8_goes kM_X8_91 (wX8_goes hX zC_self (by omega)  u5) qMo (zWs_at (by omega) (zC_o)) rfl ⟨(Nat.le_of_ble_eq_true rfl), (Nat.le_of_ble_eq_true rfl)⟩ ⟨(Nat.le_of_ble_eq_true rfl), (Nat.le_of_ble_eq_true rfl)⟩ (Nat.le_of_ble_eq_true rfl) ?_
  refine g_ws (M := mX8_setting) (congrArg (zWs A n) zC_over) ?_
  refine h_bne (M := mX8_setting) (tgt := 18) dX8_setting_13 (by decide) (fun c6 => ?_) (fun c6 => ?_)
  · have h := zti c6 h
    refine h_iconst (M := mX8_setting) dX8_setting_18 ?_
    refine g_istore_n (M := mX8_setting) (lv' := [(0, .ref (A qMo)), (1, .int (iI a1)), (2, .int (iI 0))]) dX8_setting_19 rfl (by decide) rfl ?_
    refine h_iconst (M := mX8_setting) dX8_setting_20 ?_
    refine g_istore_n (M := mX8_setting) (lv' := [(0, .ref (A qMo)), (1, .int (iI a1)), (2, .int (iI 0)), (3, .int (iI 0))]) dX8_setting_21 rfl (by decide) rfl ?_
    refine h_iconst (M := mX8_setting) dX8_setting_22 ?_
    refine g_istore (M := mX8_setting) (lv' := [(0, .ref (A qMo)), (1, .int (iI a1)), (2, .int (iI 0)), (3, .int (iI 0)), (4, .int (iI 0))]) dX8_setting_23 (by decide) rfl ?_
    refine h_iconst (M := mX8_setting) dX8_setting_25 ?_
    refine g_istore (M := mX8_setting) (lv' := [(0, .ref (A qMo)), (1, .int (iI a1)), (2, .int (iI 0)), (3, .int (iI 0)), (4, .int (iI 0)), (5, .int (iI 0))]) dX8_setting_26 (by decide) rfl ?_
    refine h_iconst (M := mX8_setting) dX8_setting_28 ?_
    refine g_istore (M := mX8_setting) (lv' := [(0, .ref (A qMo)), (1, .int (iI a1)), (2, .int (iI 0)), (3, .int (iI 0)), (4, .int (iI 0)), (5, .int (iI 0)), (6, .int (iI 0))]) dX8_setting_29 (by decide) rfl ?_
    obtain ⟨x7, l7, h⟩ := zbi h
    have r7 : ∀ y7, y7 = x7 → G X mX8_setting (zPm X 4 0 0 (zRet (zWs A n (zC X A shMo qMo res.1 S)) (some (.int (iI res.2))))) 0 0 106 [(0, .ref (A qMo)), (1, .int (iI a1)), (2, .int (iI y7.1)), (3, .int (iI y7.2.1)), (4, .int (iI y7.2.2.1)), (5, .int (iI y7.2.2.2.1))] [] (zWs A n (zC X A shMo qMo t4.1 S)) := by
      intro y7 ey
      rw [← ey] at h
      refine g_iload_n (M := mX8_setting) dX8_setting_106 1 rfl rfl ?_
      by_cases c27 : a1 = 4
      · have h := zti c27 h
        refine g_tableIn (M := mX8_setting) (off := 37) (tgt := 144) dX8_setting_107 (iI_tlo g1 (by omega)) (iI_thi g1 (by omega)) (iI_tat g1 c27 rfl) (by decide) ?_
        refine g_aload_n (M := mX8_setting) dX8_setting_144 0 rfl rfl ?_
        obtain ⟨t28, u29, h⟩ := zbi h
        refine g_callVr (M := mX8_setting) [] hX dX8_setting_145 vX8_words kM_X8_162 (wX8_words hX zC_self (by omega)  u29) qMo (zWs_at (by omega) (zC_o)) rfl ⟨(Nat.le_of_ble_eq_true rfl), (Nat.le_of_ble_eq_true rfl)⟩ ⟨(Nat.le_of_ble_eq_true rfl), (Nat.le_of_ble_eq_true rfl)⟩ (Nat.le_of_ble_eq_true rfl) ?_
        have e := (Option.some.inj h)
        subst e
        exact g_iret (M := mX8_setting) dX8_setting_148 rfl (Nat.le_of_ble_eq_true rfl) (Nat.le_of_ble_eq_true rfl) ⟨rfl, rfl⟩
      have h := zfi c27 h
      by_cases c30 : a1 = 5
      · have h := zti c30 h
        refine g_tableIn (M := mX8_setting) (off := 42) (tgt := 149) dX8_setting_107 (iI_tlo g1 (by omega)) (iI_thi g1 (by omega)) (iI_tat g1 c30 rfl) (by decide) ?_
        refine g_iload_n (M := mX8_setting) dX8_setting_149 2 rfl rfl ?_
        have e := (Option.some.inj h)
        subst e
        exact g_iret (M := mX8_setting) dX8_setting_150 rfl (Nat.le_of_ble_eq_true rfl) (Nat.le_of_ble_eq_true rfl) ⟨rfl, rfl⟩
      have h := zfi c30 h
      by_cases c31 : a1 = 6
      · have h := zti c31 h
        refine g_tableIn (M := mX8_setting) (off := 44) (tgt := 151) dX8_setting_107 (iI_tlo g1 (by omega)) (iI_thi g1 (by omega)) (iI_tat g1 c31 rfl) (by decide) ?_
        refine g_iload_n (M := mX8_setting) dX8_setting_151 3 rfl rfl ?_
        have e := (Option.some.inj h)
        subst e
        exact g_iret (M := mX8_setting) dX8_setting_152 rfl (Nat.le_of_ble_eq_true rfl) (Nat.le_of_ble_eq_true rfl) ⟨rfl, rfl⟩
      have h := zfi c31 h
      by_cases c32 : a1 = 7
      · have h := zti c32 h
        refine g_tableIn (M := mX8_setting) (off := 46) (tgt := 153) dX8_setting_107 (iI_tlo g1 (by omega)) (iI_thi g1 (by omega)) (iI_tat g1 c32 rfl) (by decide) ?_
        refine g_iload (M := mX8_setting) dX8_setting_153 4 rfl ?_
        have e := (Option.some.inj h)
        subst e
        exact g_iret (M := mX8_setting) dX8_setting_155 rfl (Nat.le_of_ble_eq_true rfl) (Nat.le_of_ble_eq_true rfl) ⟨rfl, rfl⟩
      have h := zfi c32 h
      by_cases c33 : a1 = 8
      · have h := zti c33 h
        refine g_tableIn (M := mX8_setting) (off := 49) (tgt := 156) dX8_setting_107 (iI_tlo g1 (by omega)) (iI_thi g1 (by omega)) (iI_tat g1 c33 rfl) (by decide) ?_
        refine g_aload_n (M := mX8_setting) dX8_setting_156 0 rfl rfl ?_
        refine k_get (M := mX8_setting) (v := .ref (A (qMo + 2))) dX8_setting_157 kF_X8_20.r qMo (by omega) (zC_o) rfl ?_
        refine h_iconst (M := mX8_setting) dX8_setting_160 ?_
        refine k_iald (M := mX8_setting) (len := 351) (f := t4.1.2 2) dX8_setting_161 (qMo + 2) (by omega) (zC_a (d := (0, 351)) 1 rfl) (Nat.le_of_ble_eq_true rfl) (by decide) (by decide) ?_
        have e := (Option.some.inj h)
        subst e
        exact g_iret (M := mX8_setting) dX8_setting_162 rfl (Nat.le_of_ble_eq_true rfl) (Nat.le_of_ble_eq_true rfl) ⟨rfl, rfl⟩
      have h := zfi c33 h
      by_cases c34 : a1 = 9
      · have h := zti c34 h
        refine g_tableIn (M := mX8_setting) (off := 56) (tgt := 163) dX8_setting_107 (iI_tlo g1 (by omega)) (iI_thi g1 (by omega)) (iI_tat g1 c34 rfl) (by decide) ?_
        refine g_iload (M := mX8_setting) dX8_setting_163 5 rfl ?_
        have e := (Option.some.inj h)
        subst e
        exact g_iret (M := mX8_setting) dX8_setting_165 rfl (Nat.le_of_ble_eq_true rfl) (Nat.le_of_ble_eq_true rfl) ⟨rfl, rfl⟩
      have h := zfi c34 h
      refine g_tableOut (M := mX8_setting) (tgt := 166) dX8_setting_107 (iI_tout g1 (by omega)) (by decide) ?_
      refine g_aload_n (M := mX8_setting) dX8_setting_166 0 rfl rfl ?_
      refine k_get (M := mX8_setting) (v := .ref (A (qMo + 2))) dX8_setting_167 kF_X8_20.r qMo (by omega) (zC_o) rfl ?_
      refine g_iload_n (M := mX8_setting) dX8_setting_170 1 rfl rfl ?_
      obtain ⟨g35, h⟩ := zgi h
      refine k_iald (M := mX8_setting) (len := 351) (f := t4.1.2 2) dX8_setting_171 (qMo + 2) (by omega) (zC_a (d := (0, 351)) 1 rfl) (Nat.le_of_ble_eq_true rfl) g35.1 g35.2 ?_
      have e := (Option.some.inj h)
      subst e
      exact g_iret (M := mX8_setting) dX8_setting_172 rfl (Nat.le_of_ble_eq_true rfl) (Nat.le_of_ble_eq_true rfl) ⟨rfl, rfl⟩
    refine zLp_J (J := fun s7 => G X mX8_setting (zPm X 4 0 0 (zRet (zWs A n (zC X A shMo qMo res.1 S)) (some (.int (iI res.2))))) 0 0 31 [(0, .ref (A qMo)), (1, .int (iI a1)), (2, .int (iI s7.1)), (3, .int (iI s7.2.1)), (4, .int (iI s7.2.2.1)), (5, .int (iI s7.2.2.2.1)), (6, .int (iI s7.2.2.2.2))] [] (zWs A n (zC X A shMo qMo t4.1 S))) (fun s7 w7 h7 b7 e7 => ?_) _ _ l7
    refine g_iload (M := mX8_setting) dX8_setting_31 6 rfl ?_
    refine g_aload_n (M := mX8_setting) dX8_setting_33 0 rfl rfl ?_
    refine k_get (M := mX8_setting) (v := .ref (A (qMo + 2))) dX8_setting_34 kF_X8_20.r qMo (by omega) (zC_o) rfl ?_
    refine h_iconst (M := mX8_setting) dX8_setting_37 ?_
    refine k_iald (M := mX8_setting) (len := 351) (f := t4.1.2 2) dX8_setting_38 (qMo + 2) (by omega) (zC_a (d := (0, 351)) 1 rfl) (Nat.le_of_ble_eq_true rfl) (by decide) (by decide) ?_
    obtain ⟨g37, h7⟩ := zgi h7
    refine h_icmp_ge (M := mX8_setting) (tgt := 106) dX8_setting_39 (by decide) g37.1 g37.2 (fun c36 => ?_) (fun c36 => ?_)
    · have h7 := zti c36 h7
      refine g_lv (M := mX8_setting) [0, 1, 2, 3, 4, 5] rfl ?_
      exact r7 _ (e7 _ (Option.some.inj h7).symm)
    · have h7 := zfi (Int.not_le.mpr c36) h7
      refine g_iload_n (M := mX8_setting) dX8_setting_42 2 rfl rfl ?_
      refine g_aload_n (M := mX8_setting) dX8_setting_43 0 rfl rfl ?_
      refine g_iload (M := mX8_setting) dX8_setting_44 6 rfl ?_
      obtain ⟨t38, u39, h7⟩ := zbi h7
      refine g_callVr (M := mX8_setting) [.int (iI s7.2.2.2.2)] hX dX8_setting_46 vX8_placesOf kM_X8_250 (wX8_placesOf hX zC_self (by omega)  u39) qMo (zWs_at (by omega) (zC_o)) rfl ⟨(Nat.le_of_ble_eq_true rfl), (Nat.le_of_ble_eq_true rfl)⟩ ⟨(Nat.le_of_ble_eq_true rfl), (Nat.le_of_ble_eq_true rfl)⟩ (Nat.le_of_ble_eq_true rfl) ?_
      refine h_iadd (M := mX8_setting) dX8_setting_49 ?_
      refine g_istore_n (M := mX8_setting) (lv' := [(0, .ref (A qMo)), (1, .int (iI a1)), (2, .int (iI (s7.1 + t38))), (3, .int (iI s7.2.1)), (4, .int (iI s7.2.2.1)), (5, .int (iI s7.2.2.2.1)), (6, .int (iI s7.2.2.2.2))]) dX8_setting_50 rfl (by decide) rfl ?_
      refine g_iload_n (M := mX8_setting) dX8_setting_51 3 rfl rfl ?_
      refine g_aload_n (M := mX8_setting) dX8_setting_52 0 rfl rfl ?_
      refine g_iload (M := mX8_setting) dX8_setting_53 6 rfl ?_
      refine h_iconst (M := mX8_setting) dX8_setting_55 ?_
      obtain ⟨t40, u41, h7⟩ := zbi h7
      refine g_callVr (M := mX8_setting) [.int (iI s7.2.2.2.2), .int (iI 2)] hX dX8_setting_56 vX8_of kM_X8_166 (wX8_of hX zC_self (by omega)  u41) qMo (zWs_at (by omega) (zC_o)) rfl ⟨(Nat.le_of_ble_eq_true rfl), (Nat.le_of_ble_eq_true rfl)⟩ ⟨(Nat.le_of_ble_eq_true rfl), (Nat.le_of_ble_eq_true rfl)⟩ (Nat.le_of_ble_eq_true rfl) ?_
      refine h_iadd (M := mX8_setting) dX8_setting_59 ?_
      refine g_istore_n (M := mX8_setting) (lv' := [(0, .ref (A qMo)), (1, .int (iI a1)), (2, .int (iI (s7.1 + t38))), (3, .int (iI (s7.2.1 + t40))), (4, .int (iI s7.2.2.1)), (5, .int (iI s7.2.2.2.1)), (6, .int (iI s7.2.2.2.2))]) dX8_setting_60 rfl (by decide) rfl ?_
      refine g_iload (M := mX8_setting) dX8_setting_61 4 rfl ?_
      refine g_aload_n (M := mX8_setting) dX8_setting_63 0 rfl rfl ?_
      refine g_iload (M := mX8_setting) dX8_setting_64 6 rfl ?_
      refine h_iconst (M := mX8_setting) dX8_setting_66 ?_
      obtain ⟨t42, u43, h7⟩ := zbi h7
      refine g_callVr (M := mX8_setting) [.int (iI s7.2.2.2.2), .int (iI 3)] hX dX8_setting_67 vX8_of kM_X8_166 (wX8_of hX zC_self (by omega)  u43) qMo (zWs_at (by omega) (zC_o)) rfl ⟨(Nat.le_of_ble_eq_true rfl), (Nat.le_of_ble_eq_true rfl)⟩ ⟨(Nat.le_of_ble_eq_true rfl), (Nat.le_of_ble_eq_true rfl)⟩ (Nat.le_of_ble_eq_true rfl) ?_
      obtain ⟨t44, u45, h7⟩ := zbi h7
      refine g_callSr (M := mX8_setting) [.int (iI t42)] hX dX8_setting_70 vX8_ones kM_X8_253 (wX8_ones hX   u45) rfl ⟨(Nat.le_of_ble_eq_true rfl), (Nat.le_of_ble_eq_true rfl)⟩ ⟨(Nat.le_of_ble_eq_true rfl), (Nat.le_of_ble_eq_true rfl)⟩ (Nat.le_of_ble_eq_true rfl) ?_
      refine h_iadd (M := mX8_setting) dX8_setting_73 ?_
      refine g_istore (M := mX8_setting) (lv' := [(0, .ref (A qMo)), (1, .int (iI a1)), (2, .int (iI (s7.1 + t38))), (3, .int (iI (s7.2.1 + t40))), (4, .int (iI (s7.2.2.1 + t44))), (5, .int (iI s7.2.2.2.1)), (6, .int (iI s7.2.2.2.2))]) dX8_setting_74 (by decide) rfl ?_
      refine g_iload (M := mX8_setting) dX8_setting_76 5 rfl ?_
      refine g_aload_n (M := mX8_setting) dX8_setting_78 0 rfl rfl ?_
      refine g_iload (M := mX8_setting) dX8_setting_79 6 rfl ?_
      refine h_iconst (M := mX8_setting) dX8_setting_81 ?_
      obtain ⟨t46, u47, h7⟩ := zbi h7
      refine g_callVr (M := mX8_setting) [.int (iI s7.2.2.2.2), .int (iI 1)] hX dX8_setting_82 vX8_of kM_X8_166 (wX8_of hX zC_self (by omega)  u47) qMo (zWs_at (by omega) (zC_o)) rfl ⟨(Nat.le_of_ble_eq_true rfl), (Nat.le_of_ble_eq_true rfl)⟩ ⟨(Nat.le_of_ble_eq_true rfl), (Nat.le_of_ble_eq_true rfl)⟩ (Nat.le_of_ble_eq_true rfl) ?_
      refine h_iconst (M := mX8_setting) dX8_setting_85 ?_
      refine zJn_J (J := fun x50 => G X mX8_setting (zPm X 4 0 0 (zRet (zWs A n (zC X A shMo qMo res.1 S)) (some (.int (iI res.2))))) 0 0 94 [(0, .ref (A qMo)), (1, .int (iI a1)), (2, .int (iI (s7.1 + t38))), (3, .int (iI (s7.2.1 + t40))), (4, .int (iI (s7.2.2.1 + t44))), (6, .int (iI s7.2.2.2.2))] [.int (iI x50), .int (iI s7.2.2.2.1)] (zWs A n (zC X A shMo qMo t4.1 S))) h7 (fun x50 h7 => ?_) (fun j50 h7 => ?_)
      · obtain ⟨t51, u52, h7⟩ := zbi h7
        refine g_callSr (M := mX8_setting) [.int (iI x50)] hX dX8_setting_94 vX8_truth kM_X8_84 (wX8_truth hX   u52) rfl ⟨(Nat.le_of_ble_eq_true rfl), (Nat.le_of_ble_eq_true rfl)⟩ ⟨(Nat.le_of_ble_eq_true rfl), (Nat.le_of_ble_eq_true rfl)⟩ (Nat.le_of_ble_eq_true rfl) ?_
        refine h_iadd (M := mX8_setting) dX8_setting_97 ?_
        refine g_istore (M := mX8_setting) (lv' := [(0, .ref (A qMo)), (1, .int (iI a1)), (2, .int (iI (s7.1 + t38))), (3, .int (iI (s7.2.1 + t40))), (4, .int (iI (s7.2.2.1 + t44))), (6, .int (iI s7.2.2.2.2)), (5, .int (iI (s7.2.2.2.1 + t51)))]) dX8_setting_98 (by decide) rfl ?_
        refine h_iinc (M := mX8_setting) (j := 5) (lv' := [(0, .ref (A qMo)), (1, .int (iI a1)), (2, .int (iI (s7.1 + t38))), (3, .int (iI (s7.2.1 + t40))), (4, .int (iI (s7.2.2.1 + t44))), (6, .int (iI (s7.2.2.2.2 + 1))), (5, .int (iI (s7.2.2.2.1 + t51)))]) dX8_setting_100 rfl (Nat.le_of_ble_eq_true rfl) rfl ?_
        refine g_goto (M := mX8_setting) (tgt := 31) dX8_setting_103 (by decide) ?_
        refine g_lv (M := mX8_setting) [0, 1, 2, 3, 4, 6, 5] rfl ?_
        exact b7 _ (Option.some.inj h7).symm
      · obtain ⟨g54, h7⟩ := zgi h7
        refine h_icmp_eq (M := mX8_setting) (tgt := 93) dX8_setting_86 (by decide) g54 (by decide) (fun c53 => ?_) (fun c53 => ?_)
        · have h7 := zti c53 h7
          refine h_iconst (M := mX8_setting) dX8_setting_93 ?_
          refine g_lv (M := mX8_setting) [0, 1, 2, 3, 4, 6] rfl ?_
          exact j50 0 h7
        · have h7 := zfi c53 h7
          refine h_iconst (M := mX8_setting) dX8_setting_89 ?_
          refine g_goto (M := mX8_setting) (tgt := 94) dX8_setting_90 (by decide) ?_
          refine g_lv (M := mX8_setting) [0, 1, 2, 3, 4, 6] rfl ?_
          exact j50 1 h7
  · have h := zfi (zbf c6) h
    refine h_iconst (M := mX8_setting) dX8_setting_16 ?_
    have e := (Option.some.inj h)
    subst e
    exact g_iret (M := mX8_setting) dX8_setting_17 rfl (Nat.le_of_ble_eq_true rfl) (Nat.le_of_ble_eq_true rfl) ⟨rfl, rfl⟩
set_option maxHeartbeats 4000000 in
set_option maxRecDepth 100000 in
theorem wX8_sharedAbove {X : zX} (hX : zOK X) {A : Nat → Nat} {n : Nat} {S : Nat → va_E} {qMo : Nat} {VMo : CV} (hMo : isC X A shMo qMo VMo S) (bMo : qMo + 20 < n) {a1 : Int} {a2 : Int} {a3 : Int} {res : Int} (h : fX8_sharedAbove VMo a1 a2 a3 = some res) : Con X yX8_sharedAbove mX8_sharedAbove 4 0 0 [.ref (A qMo), .int (iI a1), .int (iI a2), .int (iI a3)] (zWs A n S) (zRet (zWs A n S) (some (.int (iI res)))) := by
  refine con_of (lv := [(0, .ref (A qMo)), (1, .int (iI a1)), (2, .int (iI a2)), (3, .int (iI a3))]) (by decide) rfl (fun h => by cases h) rfl (Nat.le_of_ble_eq_true rfl) rfl ?_
  unfold fX8_sharedAbove at h
  refine h_iconst (M := mX8_sharedAbove) dX8_sharedAbove_0 ?_
  refine g_istore (M := mX8_sharedAbove) (lv' := [(0, .ref (A qMo)), (1, .int (iI a1)), (2, .int (iI a2)), (3, .int (iI a3)), (4, .int (iI (-1)))]) dX8_sharedAbove_1 (by decide) rfl ?_
  refine h_iconst (M := mX8_sharedAbove) dX8_sharedAbove_3 ?_
  refine g_istore (M := mX8_sharedAbove) (lv' := [(0, .ref (A qMo)), (1, .int (iI a1)), (2, .int (iI a2)), (3, .int (iI a3)), (4, .int (iI (-1))), (5, .int (iI 0))]) dX8_sharedAbove_4 (by decide) rfl ?_
  obtain ⟨x1, l1, h⟩ := zbi h
  have r1 : ∀ y1, y1 = x1 → G X mX8_sharedAbove (zPm X 4 0 0 (zRet (zWs A n S) (some (.int (iI res))))) 0 0 78 [(4, .int (iI y1.1))] [] (zWs A n S) := by
    intro y1 ey
    rw [← ey] at h
    refine g_iload (M := mX8_sharedAbove) dX8_sharedAbove_78 0 rfl ?_
    have e := (Option.some.inj h)
    subst e
    exact g_iret (M := mX8_sharedAbove) dX8_sharedAbove_80 rfl (Nat.le_of_ble_eq_true rfl) (Nat.le_of_ble_eq_true rfl) ⟨rfl, rfl⟩
  refine zLp_J (J := fun s1 => G X mX8_sharedAbove (zPm X 4 0 0 (zRet (zWs A n S) (some (.int (iI res))))) 0 0 6 [(0, .ref (A qMo)), (1, .int (iI a1)), (2, .int (iI a2)), (3, .int (iI a3)), (4, .int (iI s1.1)), (5, .int (iI s1.2))] [] (zWs A n S)) (fun s1 w1 h1 b1 e1 => ?_) _ _ l1
  refine g_iload (M := mX8_sharedAbove) dX8_sharedAbove_6 5 rfl ?_
  refine g_aload_n (M := mX8_sharedAbove) dX8_sharedAbove_8 0 rfl rfl ?_
  refine g_iload_n (M := mX8_sharedAbove) dX8_sharedAbove_9 1 rfl rfl ?_
  refine h_iconst (M := mX8_sharedAbove) dX8_sharedAbove_10 ?_
  obtain ⟨t23, u24, h1⟩ := zbi h1
  refine g_callVr (M := mX8_sharedAbove) [.int (iI a1), .int (iI 0)] hX dX8_sharedAbove_11 vX8_of kM_X8_166 (wX8_of hX hMo (by omega)  u24) qMo (zWs_at (by omega) (hMo.o)) rfl ⟨(Nat.le_of_ble_eq_true rfl), (Nat.le_of_ble_eq_true rfl)⟩ ⟨(Nat.le_of_ble_eq_true rfl), (Nat.le_of_ble_eq_true rfl)⟩ (Nat.le_of_ble_eq_true rfl) ?_
  obtain ⟨g26, h1⟩ := zgi h1
  refine h_icmp_ge (M := mX8_sharedAbove) (tgt := 78) dX8_sharedAbove_14 (by decide) g26.1 g26.2 (fun c25 => ?_) (fun c25 => ?_)
  · have h1 := zti c25 h1
    refine g_lv (M := mX8_sharedAbove) [4] rfl ?_
    exact r1 _ (e1 _ (Option.some.inj h1).symm)
  · have h1 := zfi (Int.not_le.mpr c25) h1
    refine g_aload_n (M := mX8_sharedAbove) dX8_sharedAbove_17 0 rfl rfl ?_
    refine g_iload_n (M := mX8_sharedAbove) dX8_sharedAbove_18 1 rfl rfl ?_
    refine g_iload (M := mX8_sharedAbove) dX8_sharedAbove_19 5 rfl ?_
    obtain ⟨t27, u28, h1⟩ := zbi h1
    refine g_callVr (M := mX8_sharedAbove) [.int (iI a1), .int (iI s1.2)] hX dX8_sharedAbove_21 vX8_isPlace kM_X8_229 (wX8_isPlace hX hMo (by omega)  u28) qMo (zWs_at (by omega) (hMo.o)) rfl ⟨(Nat.le_of_ble_eq_true rfl), (Nat.le_of_ble_eq_true rfl)⟩ ⟨(Nat.le_of_ble_eq_true rfl), (Nat.le_of_ble_eq_true rfl)⟩ (Nat.le_of_ble_eq_true rfl) ?_
    refine h_bne (M := mX8_sharedAbove) (tgt := 30) dX8_sharedAbove_24 (by decide) (fun c29 => ?_) (fun c29 => ?_)
    · have h1 := zti c29 h1
      refine g_aload_n (M := mX8_sharedAbove) dX8_sharedAbove_30 0 rfl rfl ?_
      refine g_iload_n (M := mX8_sharedAbove) dX8_sharedAbove_31 1 rfl rfl ?_
      refine g_iload (M := mX8_sharedAbove) dX8_sharedAbove_32 5 rfl ?_
      obtain ⟨t30, u31, h1⟩ := zbi h1
      refine g_callVr (M := mX8_sharedAbove) [.int (iI a1), .int (iI s1.2)] hX dX8_sharedAbove_34 vX8_wordThere kM_X8_265 (wX8_wordThere hX hMo (by omega)  u31) qMo (zWs_at (by omega) (hMo.o)) rfl ⟨(Nat.le_of_ble_eq_true rfl), (Nat.le_of_ble_eq_true rfl)⟩ ⟨(Nat.le_of_ble_eq_true rfl), (Nat.le_of_ble_eq_true rfl)⟩ (Nat.le_of_ble_eq_true rfl) ?_
      refine g_istore (M := mX8_sharedAbove) (lv' := [(0, .ref (A qMo)), (1, .int (iI a1)), (2, .int (iI a2)), (3, .int (iI a3)), (4, .int (iI s1.1)), (5, .int (iI s1.2)), (6, .int (iI t30))]) dX8_sharedAbove_37 (by decide) rfl ?_
      refine g_iload (M := mX8_sharedAbove) dX8_sharedAbove_39 6 rfl ?_
      refine g_iload_n (M := mX8_sharedAbove) dX8_sharedAbove_41 3 rfl rfl ?_
      obtain ⟨g33, h1⟩ := zgi h1
      refine h_icmp_le (M := mX8_sharedAbove) (tgt := 72) dX8_sharedAbove_42 (by decide) g33.1 g33.2 (fun c32 => ?_) (fun c32 => ?_)
      · have h1 := zti c32 h1
        refine h_iinc (M := mX8_sharedAbove) (j := 5) (lv' := [(0, .ref (A qMo)), (1, .int (iI a1)), (2, .int (iI a2)), (3, .int (iI a3)), (4, .int (iI s1.1)), (5, .int (iI (s1.2 + 1))), (6, .int (iI t30))]) dX8_sharedAbove_72 rfl (Nat.le_of_ble_eq_true rfl) rfl ?_
        refine g_goto (M := mX8_sharedAbove) (tgt := 6) dX8_sharedAbove_75 (by decide) ?_
        refine g_lv (M := mX8_sharedAbove) [0, 1, 2, 3, 4, 5] rfl ?_
        exact b1 _ (Option.some.inj h1).symm
      · have h1 := zfi (Int.not_le.mpr c32) h1
        refine g_iload (M := mX8_sharedAbove) dX8_sharedAbove_45 4 rfl ?_
        refine h_iconst (M := mX8_sharedAbove) dX8_sharedAbove_47 ?_
        refine zJn_J (J := fun x37 => G X mX8_sharedAbove (zPm X 4 0 0 (zRet (zWs A n S) (some (.int (iI res))))) 0 0 58 [(0, .ref (A qMo)), (1, .int (iI a1)), (2, .int (iI a2)), (3, .int (iI a3)), (4, .int (iI s1.1)), (5, .int (iI s1.2)), (6, .int (iI t30))] [] (zWs A n S)) h1 (fun x37 h1 => ?_) (fun j37 h1 => ?_)
        · refine g_aload_n (M := mX8_sharedAbove) dX8_sharedAbove_58 0 rfl rfl ?_
          refine g_iload_n (M := mX8_sharedAbove) dX8_sharedAbove_59 2 rfl rfl ?_
          refine g_iload (M := mX8_sharedAbove) dX8_sharedAbove_60 6 rfl ?_
          obtain ⟨t38, u39, h1⟩ := zbi h1
          refine g_callVr (M := mX8_sharedAbove) [.int (iI a2), .int (iI t30)] hX dX8_sharedAbove_62 vX8_isAt kM_X8_280 (wX8_isAt hX hMo (by omega)  u39) qMo (zWs_at (by omega) (hMo.o)) rfl ⟨(Nat.le_of_ble_eq_true rfl), (Nat.le_of_ble_eq_true rfl)⟩ ⟨(Nat.le_of_ble_eq_true rfl), (Nat.le_of_ble_eq_true rfl)⟩ (Nat.le_of_ble_eq_true rfl) ?_
          refine h_beq (M := mX8_sharedAbove) (tgt := 72) dX8_sharedAbove_65 (by decide) (fun c40 => ?_) (fun c40 => ?_)
          · have h1 := zfi (zbf c40) h1
            refine h_iinc (M := mX8_sharedAbove) (j := 5) (lv' := [(0, .ref (A qMo)), (1, .int (iI a1)), (2, .int (iI a2)), (3, .int (iI a3)), (4, .int (iI s1.1)), (5, .int (iI (s1.2 + 1))), (6, .int (iI t30))]) dX8_sharedAbove_72 rfl (Nat.le_of_ble_eq_true rfl) rfl ?_
            refine g_goto (M := mX8_sharedAbove) (tgt := 6) dX8_sharedAbove_75 (by decide) ?_
            refine g_lv (M := mX8_sharedAbove) [0, 1, 2, 3, 4, 5] rfl ?_
            exact b1 _ (Option.some.inj h1).symm
          · have h1 := zti c40 h1
            refine g_iload (M := mX8_sharedAbove) dX8_sharedAbove_68 6 rfl ?_
            refine g_istore (M := mX8_sharedAbove) (lv' := [(0, .ref (A qMo)), (1, .int (iI a1)), (2, .int (iI a2)), (3, .int (iI a3)), (4, .int (iI t30)), (5, .int (iI s1.2)), (6, .int (iI t30))]) dX8_sharedAbove_70 (by decide) rfl ?_
            refine h_iinc (M := mX8_sharedAbove) (j := 5) (lv' := [(0, .ref (A qMo)), (1, .int (iI a1)), (2, .int (iI a2)), (3, .int (iI a3)), (4, .int (iI t30)), (5, .int (iI (s1.2 + 1))), (6, .int (iI t30))]) dX8_sharedAbove_72 rfl (Nat.le_of_ble_eq_true rfl) rfl ?_
            refine g_goto (M := mX8_sharedAbove) (tgt := 6) dX8_sharedAbove_75 (by decide) ?_
            refine g_lv (M := mX8_sharedAbove) [0, 1, 2, 3, 4, 5] rfl ?_
            exact b1 _ (Option.some.inj h1).symm
        · obtain ⟨g42, h1⟩ := zgi h1
          refine h_icmp_eq (M := mX8_sharedAbove) (tgt := 58) dX8_sharedAbove_48 (by decide) g42 (by decide) (fun c41 => ?_) (fun c41 => ?_)
          · have h1 := zti c41 h1
            exact j37 () h1
          · have h1 := zfi c41 h1
            refine g_iload (M := mX8_sharedAbove) dX8_sharedAbove_51 6 rfl ?_
            refine g_iload (M := mX8_sharedAbove) dX8_sharedAbove_53 4 rfl ?_
            refine h_icmp_ge (M := mX8_sharedAbove) (tgt := 72) dX8_sharedAbove_55 (by decide) g33.1 g42 (fun c43 => ?_) (fun c43 => ?_)
            · have h1 := zti c43 h1
              refine h_iinc (M := mX8_sharedAbove) (j := 5) (lv' := [(0, .ref (A qMo)), (1, .int (iI a1)), (2, .int (iI a2)), (3, .int (iI a3)), (4, .int (iI s1.1)), (5, .int (iI (s1.2 + 1))), (6, .int (iI t30))]) dX8_sharedAbove_72 rfl (Nat.le_of_ble_eq_true rfl) rfl ?_
              refine g_goto (M := mX8_sharedAbove) (tgt := 6) dX8_sharedAbove_75 (by decide) ?_
              refine g_lv (M := mX8_sharedAbove) [0, 1, 2, 3, 4, 5] rfl ?_
              exact b1 _ (Option.some.inj h1).symm
            · have h1 := zfi (Int.not_le.mpr c43) h1
              exact j37 () h1
    · have h1 := zfi (zbf c29) h1
      refine g_goto (M := mX8_sharedAbove) (tgt := 72) dX8_sharedAbove_27 (by decide) ?_
      refine h_iinc (M := mX8_sharedAbove) (j := 5) (lv' := [(0, .ref (A qMo)), (1, .int (iI a1)), (2, .int (iI a2)), (3, .int (iI a3)), (4, .int (iI s1.1)), (5, .int (iI (s1.2 + 1)))]) dX8_sharedAbove_72 rfl (Nat.le_of_ble_eq_true rfl) rfl ?_
      refine g_goto (M := mX8_sharedAbove) (tgt := 6) dX8_sharedAbove_75 (by decide) ?_
      exact b1 _ (Option.some.inj h1).symm
