set_option maxHeartbeats 4000000 in
set_option maxRecDepth 100000 in
theorem wX8_searches {X : zX} (hX : zOK X) {A : Nat → Nat} {n : Nat} {S : Nat → va_E} {qMo : Nat} {VMo : CV} (hMo : isC X A shMo qMo VMo S) (bMo : qMo + 20 < n) {res : CV} (h : fX8_searches VMo = some res) : Con X yX8_searches mX8_searches 5 0 0 [.ref (A qMo)] (zWs A n S) (zRet (zWs A n (zC X A shMo qMo res S)) none) := by
  refine con_of (lv := [(0, .ref (A qMo))]) (by decide) rfl (fun h => by cases h) rfl (Nat.le_of_ble_eq_true rfl) rfl ?_
  refine g_ws (M := mX8_searches) (congrArg (zWs A n) hMo.symm) ?_
  unfold fX8_searches at h
  refine g_aload_n (M := mX8_searches) dX8_searches_0 0 rfl rfl ?_
  refine h_iconst (M := mX8_searches) dX8_searches_1 ?_
  refine c_put (M := mX8_searches) (k := 31) dX8_searches_2 kF_X8_306 (by omega) rfl rfl (by decide) rfl rfl ?_
  refine g_aload_n (M := mX8_searches) dX8_searches_5 0 rfl rfl ?_
  refine h_iconst (M := mX8_searches) dX8_searches_6 ?_
  refine c_put (M := mX8_searches) (k := 32) dX8_searches_7 kF_X8_309 (by omega) rfl rfl (by decide) rfl rfl ?_
  refine g_aload_n (M := mX8_searches) dX8_searches_10 0 rfl rfl ?_
  refine h_iconst (M := mX8_searches) dX8_searches_11 ?_
  refine c_put (M := mX8_searches) (k := 33) dX8_searches_12 kF_X8_312 (by omega) rfl rfl (by decide) rfl rfl ?_
  refine g_aload_n (M := mX8_searches) dX8_searches_15 0 rfl rfl ?_
  refine h_iconst (M := mX8_searches) dX8_searches_16 ?_
  refine c_put (M := mX8_searches) (k := 34) dX8_searches_17 kF_X8_315 (by omega) rfl rfl (by decide) rfl rfl ?_
  refine h_iconst (M := mX8_searches) dX8_searches_20 ?_
  refine g_istore_n (M := mX8_searches) (lv' := [(0, .ref (A qMo)), (1, .int (iI 1))]) dX8_searches_21 rfl (by decide) rfl ?_
  refine g_aload_n (M := mX8_searches) dX8_searches_22 0 rfl rfl ?_
  refine k_get (M := mX8_searches) (v := .ref (A (qMo + 10))) dX8_searches_23 kF_X8_45.r qMo (by omega) (zC_o) rfl ?_
  refine h_iconst (M := mX8_searches) dX8_searches_26 ?_
  refine h_iconst (M := mX8_searches) dX8_searches_27 ?_
  refine c_iast (M := mX8_searches) (len := 6) (d := (0, 6)) dX8_searches_28 9 rfl rfl (by omega) (Nat.le_of_ble_eq_true rfl) (by decide) (by decide) ?_
  obtain ⟨x1, l1, h⟩ := zbi h
  have r1 : ∀ y1, y1 = x1 → G X mX8_searches (zPm X 5 0 0 (zRet (zWs A n (zC X A shMo qMo res S)) none)) 0 0 186 [] [] (zWs A n (zC X A shMo qMo y1.2 S)) := by
    intro y1 ey
    rw [← ey] at h
    have e := (Option.some.inj h)
    subst e
    exact g_vret (M := mX8_searches) dX8_searches_186 rfl (Nat.le_of_ble_eq_true rfl) (Nat.le_of_ble_eq_true rfl) ⟨rfl, rfl⟩
  refine zLp_J (J := fun s1 => G X mX8_searches (zPm X 5 0 0 (zRet (zWs A n (zC X A shMo qMo res S)) none)) 0 0 29 [(0, .ref (A qMo)), (1, .int (iI s1.1))] [] (zWs A n (zC X A shMo qMo s1.2 S))) (fun s1 w1 h1 b1 e1 => ?_) _ _ l1
  refine g_iload_n (M := mX8_searches) dX8_searches_29 1 rfl rfl ?_
  obtain ⟨g65, h1⟩ := zgi h1
  refine h_if_le (M := mX8_searches) (tgt := 186) dX8_searches_30 (by decide) g65 (fun c64 => ?_) (fun c64 => ?_)
  · have h1 := zti c64 h1
    refine g_lv (M := mX8_searches) [] rfl ?_
    exact r1 _ (e1 _ (Option.some.inj h1).symm)
  · have h1 := zfi (Int.not_le.mpr c64) h1
    refine g_aload_n (M := mX8_searches) dX8_searches_33 0 rfl rfl ?_
    refine g_dup (M := mX8_searches) dX8_searches_34 rfl ?_
    refine k_get (M := mX8_searches) (v := .int (iI (s1.2.1 33))) dX8_searches_35 kF_X8_312.r qMo (by omega) (zC_o) rfl ?_
    refine h_iconst (M := mX8_searches) dX8_searches_38 ?_
    refine h_iadd (M := mX8_searches) dX8_searches_39 ?_
    refine c_put (M := mX8_searches) (k := 33) dX8_searches_40 kF_X8_312 (by omega) rfl rfl (by decide) rfl rfl ?_
    refine g_aload_n (M := mX8_searches) dX8_searches_43 0 rfl rfl ?_
    refine g_iload_n (M := mX8_searches) dX8_searches_44 1 rfl rfl ?_
    obtain ⟨t66, u67, h1⟩ := zbi h1
    refine g_callVr (M := mX8_searches) [.int (iI s1.1)] hX dX8_searches_45 vX8_bounds kM_X8_245 (wX8_bounds hX zC_self (by omega)  u67) qMo (zWs_at (by omega) (zC_o)) rfl ⟨(Nat.le_of_ble_eq_true rfl), (Nat.le_of_ble_eq_true rfl)⟩ ⟨(Nat.le_of_ble_eq_true rfl), (Nat.le_of_ble_eq_true rfl)⟩ (Nat.le_of_ble_eq_true rfl) ?_
    refine g_istore_n (M := mX8_searches) (lv' := [(0, .ref (A qMo)), (1, .int (iI s1.1)), (2, .int (iI t66))]) dX8_searches_48 rfl (by decide) rfl ?_
    refine g_aload_n (M := mX8_searches) dX8_searches_49 0 rfl rfl ?_
    refine k_get (M := mX8_searches) (v := .int (iI (s1.2.1 31))) dX8_searches_50 kF_X8_306.r qMo (by omega) (zC_o) rfl ?_
    refine h_iconst (M := mX8_searches) dX8_searches_53 ?_
    refine zJn_J (J := fun x77 => G X mX8_searches (zPm X 5 0 0 (zRet (zWs A n (zC X A shMo qMo res S)) none)) 0 0 70 [(0, .ref (A qMo)), (1, .int (iI s1.1)), (2, .int (iI t66))] [.int (iI x77)] (zWs A n (zC X A shMo qMo (zPu s1.2 33 ((s1.2.1 33) + 1)) S))) h1 (fun x77 h1 => ?_) (fun j77 h1 => ?_)
    · refine g_istore_n (M := mX8_searches) (lv' := [(0, .ref (A qMo)), (1, .int (iI s1.1)), (2, .int (iI t66)), (3, .int (iI x77))]) dX8_searches_70 rfl (by decide) rfl ?_
      refine g_aload_n (M := mX8_searches) dX8_searches_71 0 rfl rfl ?_
      refine g_dup (M := mX8_searches) dX8_searches_72 rfl ?_
      refine k_get (M := mX8_searches) (v := .int (iI (s1.2.1 34))) dX8_searches_73 kF_X8_315.r qMo (by omega) (zC_o) rfl ?_
      refine g_iload_n (M := mX8_searches) dX8_searches_76 3 rfl rfl ?_
      obtain ⟨t78, u79, h1⟩ := zbi h1
      refine g_callSr (M := mX8_searches) [.int (iI x77)] hX dX8_searches_77 vX8_truth kM_X8_84 (wX8_truth hX   u79) rfl ⟨(Nat.le_of_ble_eq_true rfl), (Nat.le_of_ble_eq_true rfl)⟩ ⟨(Nat.le_of_ble_eq_true rfl), (Nat.le_of_ble_eq_true rfl)⟩ (Nat.le_of_ble_eq_true rfl) ?_
      refine h_iadd (M := mX8_searches) dX8_searches_80 ?_
      refine c_put (M := mX8_searches) (k := 34) dX8_searches_81 kF_X8_315 (by omega) rfl rfl (by decide) rfl rfl ?_
      refine g_iload_n (M := mX8_searches) dX8_searches_84 3 rfl rfl ?_
      refine zJn_J (J := fun x86 => G X mX8_searches (zPm X 5 0 0 (zRet (zWs A n (zC X A shMo qMo res S)) none)) 0 0 111 [(0, .ref (A qMo)), (1, .int (iI s1.1)), (3, .int (iI x77))] [] (zWs A n (zC X A shMo qMo x86 S))) h1 (fun x86 h1 => ?_) (fun j86 h1 => ?_)
      · refine g_iload_n (M := mX8_searches) dX8_searches_111 2 rfl rfl ?_
        refine zJn_J (J := fun x92 => G X mX8_searches (zPm X 5 0 0 (zRet (zWs A n (zC X A shMo qMo res S)) none)) 0 0 138 [(0, .ref (A qMo)), (1, .int (iI s1.1))] [] (zWs A n (zC X A shMo qMo x86 S))) h1 (fun x92 h1 => ?_) (fun j92 h1 => ?_)
        · obtain ⟨x93, l93, h1⟩ := zbi h1
          have r93 : ∀ y93, y93 = x93 → G X mX8_searches (zPm X 5 0 0 (zRet (zWs A n (zC X A shMo qMo res S)) none)) 0 0 167 [(0, .ref (A qMo)), (1, .int (iI y93))] [] (zWs A n (zC X A shMo qMo x86 S)) := by
            intro y93 ey
            rw [← ey] at h1
            refine g_iload_n (M := mX8_searches) dX8_searches_167 1 rfl rfl ?_
            obtain ⟨g100, h1⟩ := zgi h1
            refine h_if_le (M := mX8_searches) (tgt := 183) dX8_searches_168 (by decide) g100 (fun c99 => ?_) (fun c99 => ?_)
            · have h1 := zti c99 h1
              refine g_goto (M := mX8_searches) (tgt := 29) dX8_searches_183 (by decide) ?_
              exact b1 _ (Option.some.inj h1).symm
            · have h1 := zfi (Int.not_le.mpr c99) h1
              refine g_aload_n (M := mX8_searches) dX8_searches_171 0 rfl rfl ?_
              refine k_get (M := mX8_searches) (v := .ref (A (qMo + 10))) dX8_searches_172 kF_X8_45.r qMo (by omega) (zC_o) rfl ?_
              refine g_iload_n (M := mX8_searches) dX8_searches_175 1 rfl rfl ?_
              refine h_iconst (M := mX8_searches) dX8_searches_176 ?_
              refine h_isub (M := mX8_searches) dX8_searches_177 ?_
              refine g_dup2_11 (M := mX8_searches) dX8_searches_178 rfl rfl ?_
              obtain ⟨g101, h1⟩ := zgi h1
              refine k_iald (M := mX8_searches) (len := 6) (f := x86.2 10) dX8_searches_179 (qMo + 10) (by omega) (zC_a (d := (0, 6)) 9 rfl) (Nat.le_of_ble_eq_true rfl) g101.1 g101.2 ?_
              refine h_iconst (M := mX8_searches) dX8_searches_180 ?_
              refine h_iadd (M := mX8_searches) dX8_searches_181 ?_
              refine c_iast (M := mX8_searches) (len := 6) (d := (0, 6)) dX8_searches_182 9 rfl rfl (by omega) (Nat.le_of_ble_eq_true rfl) g101.1 g101.2 ?_
              refine g_goto (M := mX8_searches) (tgt := 29) dX8_searches_183 (by decide) ?_
              exact b1 _ (Option.some.inj h1).symm
          refine zLp_J (J := fun s93 => G X mX8_searches (zPm X 5 0 0 (zRet (zWs A n (zC X A shMo qMo res S)) none)) 0 0 138 [(0, .ref (A qMo)), (1, .int (iI s93))] [] (zWs A n (zC X A shMo qMo x86 S))) (fun s93 w93 h93 b93 e93 => ?_) _ _ l93
          refine g_iload_n (M := mX8_searches) dX8_searches_138 1 rfl rfl ?_
          obtain ⟨g103, h93⟩ := zgi h93
          refine h_if_le (M := mX8_searches) (tgt := 167) dX8_searches_139 (by decide) g103 (fun c102 => ?_) (fun c102 => ?_)
          · have h93 := zti c102 h93
            exact r93 _ (e93 _ (Option.some.inj h93).symm)
          · have h93 := zfi (Int.not_le.mpr c102) h93
            refine g_aload_n (M := mX8_searches) dX8_searches_142 0 rfl rfl ?_
            refine k_get (M := mX8_searches) (v := .ref (A (qMo + 10))) dX8_searches_143 kF_X8_45.r qMo (by omega) (zC_o) rfl ?_
            refine g_iload_n (M := mX8_searches) dX8_searches_146 1 rfl rfl ?_
            refine h_iconst (M := mX8_searches) dX8_searches_147 ?_
            refine h_isub (M := mX8_searches) dX8_searches_148 ?_
            obtain ⟨g104, h93⟩ := zgi h93
            refine k_iald (M := mX8_searches) (len := 6) (f := x86.2 10) dX8_searches_149 (qMo + 10) (by omega) (zC_a (d := (0, 6)) 9 rfl) (Nat.le_of_ble_eq_true rfl) g104.1 g104.2 ?_
            refine g_aload_n (M := mX8_searches) dX8_searches_150 0 rfl rfl ?_
            refine k_get (M := mX8_searches) (v := .ref (A (qMo + 2))) dX8_searches_151 kF_X8_20.r qMo (by omega) (zC_o) rfl ?_
            refine h_iconst (M := mX8_searches) dX8_searches_154 ?_
            refine k_iald (M := mX8_searches) (len := 351) (f := x86.2 2) dX8_searches_155 (qMo + 2) (by omega) (zC_a (d := (0, 351)) 1 rfl) (Nat.le_of_ble_eq_true rfl) (by decide) (by decide) ?_
            refine h_iconst (M := mX8_searches) dX8_searches_156 ?_
            refine h_isub (M := mX8_searches) dX8_searches_157 ?_
            obtain ⟨g106, h93⟩ := zgi h93
            refine h_icmp_ne (M := mX8_searches) (tgt := 167) dX8_searches_158 (by decide) g106.1 g106.2 (fun c105 => ?_) (fun c105 => ?_)
            · have h93 := zfi c105 h93
              exact r93 _ (e93 _ (Option.some.inj h93).symm)
            · have h93 := zti c105 h93
              refine h_iinc (M := mX8_searches) (j := 1) (lv' := [(0, .ref (A qMo)), (1, .int (iI (s93 + (-1))))]) dX8_searches_161 rfl (Nat.le_of_ble_eq_true rfl) rfl ?_
              refine g_goto (M := mX8_searches) (tgt := 138) dX8_searches_164 (by decide) ?_
              exact b93 _ (Option.some.inj h93).symm
        · obtain ⟨g108, h1⟩ := zgi h1
          refine h_if_ne (M := mX8_searches) (tgt := 138) dX8_searches_112 (by decide) g108 (fun c107 => ?_) (fun c107 => ?_)
          · have h1 := zfi c107 h1
            refine g_lv (M := mX8_searches) [0, 1] rfl ?_
            exact j92 () h1
          · have h1 := zti c107 h1
            refine g_iload_n (M := mX8_searches) dX8_searches_115 1 rfl rfl ?_
            refine g_aload_n (M := mX8_searches) dX8_searches_116 0 rfl rfl ?_
            refine k_get (M := mX8_searches) (v := .ref (A (qMo + 2))) dX8_searches_117 kF_X8_20.r qMo (by omega) (zC_o) rfl ?_
            refine h_iconst (M := mX8_searches) dX8_searches_120 ?_
            refine k_iald (M := mX8_searches) (len := 351) (f := x86.2 2) dX8_searches_121 (qMo + 2) (by omega) (zC_a (d := (0, 351)) 1 rfl) (Nat.le_of_ble_eq_true rfl) (by decide) (by decide) ?_
            obtain ⟨g110, h1⟩ := zgi h1
            refine h_icmp_ge (M := mX8_searches) (tgt := 138) dX8_searches_122 (by decide) g65 g110 (fun c109 => ?_) (fun c109 => ?_)
            · have h1 := zti c109 h1
              refine g_lv (M := mX8_searches) [0, 1] rfl ?_
              exact j92 () h1
            · have h1 := zfi (Int.not_le.mpr c109) h1
              refine g_aload_n (M := mX8_searches) dX8_searches_125 0 rfl rfl ?_
              refine k_get (M := mX8_searches) (v := .ref (A (qMo + 10))) dX8_searches_126 kF_X8_45.r qMo (by omega) (zC_o) rfl ?_
              refine g_iload_n (M := mX8_searches) dX8_searches_129 1 rfl rfl ?_
              refine h_iconst (M := mX8_searches) dX8_searches_130 ?_
              obtain ⟨g111, h1⟩ := zgi h1
              refine c_iast (M := mX8_searches) (len := 6) (d := (0, 6)) dX8_searches_131 9 rfl rfl (by omega) (Nat.le_of_ble_eq_true rfl) g111.1 g111.2 ?_
              refine h_iinc (M := mX8_searches) (j := 1) (lv' := [(0, .ref (A qMo)), (1, .int (iI (s1.1 + 1))), (3, .int (iI x77))]) dX8_searches_132 rfl (Nat.le_of_ble_eq_true rfl) rfl ?_
              refine g_goto (M := mX8_searches) (tgt := 29) dX8_searches_135 (by decide) ?_
              refine g_lv (M := mX8_searches) [0, 1] rfl ?_
              exact b1 _ (Option.some.inj h1).symm
      · obtain ⟨g113, h1⟩ := zgi h1
        refine h_if_ne (M := mX8_searches) (tgt := 111) dX8_searches_85 (by decide) g113 (fun c112 => ?_) (fun c112 => ?_)
        · have h1 := zfi c112 h1
          refine g_lv (M := mX8_searches) [0, 1, 3] rfl ?_
          exact j86 (zPu (zPu s1.2 33 ((s1.2.1 33) + 1)) 34 ((s1.2.1 34) + t78)) h1
        · have h1 := zti c112 h1
          refine g_iload_n (M := mX8_searches) dX8_searches_88 1 rfl rfl ?_
          refine g_aload_n (M := mX8_searches) dX8_searches_89 0 rfl rfl ?_
          refine k_get (M := mX8_searches) (v := .ref (A (qMo + 2))) dX8_searches_90 kF_X8_20.r qMo (by omega) (zC_o) rfl ?_
          refine h_iconst (M := mX8_searches) dX8_searches_93 ?_
          refine k_iald (M := mX8_searches) (len := 351) (f := s1.2.2 2) dX8_searches_94 (qMo + 2) (by omega) (zC_a (d := (0, 351)) 1 rfl) (Nat.le_of_ble_eq_true rfl) (by decide) (by decide) ?_
          obtain ⟨g115, h1⟩ := zgi h1
          refine h_icmp_ne (M := mX8_searches) (tgt := 111) dX8_searches_95 (by decide) g65 g115 (fun c114 => ?_) (fun c114 => ?_)
          · have h1 := zfi c114 h1
            refine g_lv (M := mX8_searches) [0, 1, 3] rfl ?_
            exact j86 (zPu (zPu s1.2 33 ((s1.2.1 33) + 1)) 34 ((s1.2.1 34) + t78)) h1
          · have h1 := zti c114 h1
            refine g_aload_n (M := mX8_searches) dX8_searches_98 0 rfl rfl ?_
            refine g_aload_n (M := mX8_searches) dX8_searches_99 0 rfl rfl ?_
            obtain ⟨t116, u117, h1⟩ := zbi h1
            refine g_callVr (M := mX8_searches) [] hX dX8_searches_100 vX8_numberOfSpelt kM_X8_318 (wX8_numberOfSpelt hX zC_self (by omega)  u117) qMo (zWs_at (by omega) (zC_o)) rfl ⟨(Nat.le_of_ble_eq_true rfl), (Nat.le_of_ble_eq_true rfl)⟩ ⟨(Nat.le_of_ble_eq_true rfl), (Nat.le_of_ble_eq_true rfl)⟩ (Nat.le_of_ble_eq_true rfl) ?_
            refine c_put (M := mX8_searches) (k := 31) dX8_searches_103 kF_X8_306 (by omega) rfl rfl (by decide) rfl rfl ?_
            refine g_aload_n (M := mX8_searches) dX8_searches_106 0 rfl rfl ?_
            refine g_iload_n (M := mX8_searches) dX8_searches_107 2 rfl rfl ?_
            refine c_put (M := mX8_searches) (k := 32) dX8_searches_108 kF_X8_309 (by omega) rfl rfl (by decide) rfl rfl ?_
            refine g_lv (M := mX8_searches) [0, 1, 3] rfl ?_
            exact j86 (zPu (zPu (zPu (zPu s1.2 33 ((s1.2.1 33) + 1)) 34 ((s1.2.1 34) + t78)) 31 t116) 32 t66) h1
    · refine zJn_J (J := fun x122 => G X mX8_searches (zPm X 5 0 0 (zRet (zWs A n (zC X A shMo qMo res S)) none)) 0 0 69 [(0, .ref (A qMo)), (1, .int (iI s1.1)), (2, .int (iI t66))] [] (zWs A n (zC X A shMo qMo (zPu s1.2 33 ((s1.2.1 33) + 1)) S))) h1 (fun x122 h1 => ?_) (fun j122 h1 => ?_)
      · refine h_iconst (M := mX8_searches) dX8_searches_69 ?_
        exact j77 0 h1
      · obtain ⟨g124, h1⟩ := zgi h1
        refine h_icmp_eq (M := mX8_searches) (tgt := 69) dX8_searches_54 (by decide) g124 (by decide) (fun c123 => ?_) (fun c123 => ?_)
        · have h1 := zti c123 h1
          exact j122 () h1
        · have h1 := zfi c123 h1
          refine g_iload_n (M := mX8_searches) dX8_searches_57 2 rfl rfl ?_
          refine g_aload_n (M := mX8_searches) dX8_searches_58 0 rfl rfl ?_
          refine k_get (M := mX8_searches) (v := .int (iI (s1.2.1 32))) dX8_searches_59 kF_X8_309.r qMo (by omega) (zC_o) rfl ?_
          obtain ⟨g126, h1⟩ := zgi h1
          refine h_icmp_lt (M := mX8_searches) (tgt := 69) dX8_searches_62 (by decide) g126.1 g126.2 (fun c125 => ?_) (fun c125 => ?_)
          · have h1 := zti c125 h1
            exact j122 () h1
          · have h1 := zfi (Int.not_lt.mpr c125) h1
            refine h_iconst (M := mX8_searches) dX8_searches_65 ?_
            refine g_goto (M := mX8_searches) (tgt := 70) dX8_searches_66 (by decide) ?_
            exact j77 1 h1
set_option maxHeartbeats 4000000 in
set_option maxRecDepth 100000 in
theorem wX8_best {X : zX} (hX : zOK X) {A : Nat → Nat} {n : Nat} {S : Nat → va_E} {qMo : Nat} {VMo : CV} (hMo : isC X A shMo qMo VMo S) (bMo : qMo + 20 < n) {a1 : Int} {res : CV × Int} (h : fX8_best VMo a1 = some res) : Con X yX8_best mX8_best 6 0 0 [.ref (A qMo), .int (iI a1)] (zWs A n S) (zRet (zWs A n (zC X A shMo qMo res.1 S)) (some (.int (iI res.2)))) := by
  refine con_of (lv := [(0, .ref (A qMo)), (1, .int (iI a1))]) (by decide) rfl (fun h => by cases h) rfl (Nat.le_of_ble_eq_true rfl) rfl ?_
  refine g_ws (M := mX8_best) (congrArg (zWs A n) hMo.symm) ?_
  unfold fX8_best at h
  refine g_aload_n (M := mX8_best) dX8_best_0 0 rfl rfl ?_
  refine g_iload_n (M := mX8_best) dX8_best_1 1 rfl rfl ?_
  obtain ⟨g1, h⟩ := zgi h
  refine h_i2l (M := mX8_best) dX8_best_2 g1 ?_
  refine g_lconst (M := mX8_best) (v := iL 0) dX8_best_3 rfl ?_
  refine g_ldc2 (M := mX8_best) (v := iL (3)) dX8_best_4 kC_X8_321 ?_
  obtain ⟨t2, u3, h⟩ := zbi h
  refine g_callSr (M := mX8_best) [.long (iL a1), .long (iL 0), .long (iL 3)] hX dX8_best_7 vX8_isIn kM_X8_99 (wX8_isIn hX   u3) rfl ⟨(Nat.le_of_ble_eq_true rfl), (Nat.le_of_ble_eq_true rfl)⟩ ⟨(Nat.le_of_ble_eq_true rfl), (Nat.le_of_ble_eq_true rfl)⟩ (Nat.le_of_ble_eq_true rfl) ?_
  obtain ⟨t4, u5, h⟩ := zbi h
  refine g_callVr (M := mX8_best) [.int (iI (b2 t2))] hX dX8_best_10 vX8_goes kM_X8_91 (wX8_goes hX zC_self (by omega)  u5) qMo (zWs_at (by omega) (zC_o)) rfl ⟨(Nat.le_of_ble_eq_true rfl), (Nat.le_of_ble_eq_true rfl)⟩ ⟨(Nat.le_of_ble_eq_true rfl), (Nat.le_of_ble_eq_true rfl)⟩ (Nat.le_of_ble_eq_true rfl) ?_
  refine g_ws (M := mX8_best) (congrArg (zWs A n) zC_over) ?_
  refine h_bne (M := mX8_best) (tgt := 18) dX8_best_13 (by decide) (fun c6 => ?_) (fun c6 => ?_)
  · have h := zti c6 h
    refine g_aload_n (M := mX8_best) dX8_best_18 0 rfl rfl ?_
    obtain ⟨t7, u8, h⟩ := zbi h
    refine g_callVr (M := mX8_best) [] hX dX8_best_19 vX8_searches kM_X8_323 (wX8_searches hX zC_self (by omega)  u8) qMo (zWs_at (by omega) (zC_o)) rfl ⟨(Nat.le_of_ble_eq_true rfl), (Nat.le_of_ble_eq_true rfl)⟩ ⟨(Nat.le_of_ble_eq_true rfl), (Nat.le_of_ble_eq_true rfl)⟩ (Nat.le_of_ble_eq_true rfl) ?_
    refine g_ws (M := mX8_best) (congrArg (zWs A n) zC_over) ?_
    refine g_iload_n (M := mX8_best) dX8_best_22 1 rfl rfl ?_
    refine h_if_ne (M := mX8_best) (tgt := 33) dX8_best_23 (by decide) g1 (fun c9 => ?_) (fun c9 => ?_)
    · have h := zfi c9 h
      refine g_iload_n (M := mX8_best) dX8_best_33 1 rfl rfl ?_
      refine h_iconst (M := mX8_best) dX8_best_34 ?_
      refine h_icmp_ne (M := mX8_best) (tgt := 45) dX8_best_35 (by decide) g1 (by decide) (fun c10 => ?_) (fun c10 => ?_)
      · have h := zfi c10 h
        refine g_iload_n (M := mX8_best) dX8_best_45 1 rfl rfl ?_
        refine h_iconst (M := mX8_best) dX8_best_46 ?_
        refine h_icmp_ne (M := mX8_best) (tgt := 57) dX8_best_47 (by decide) g1 (by decide) (fun c11 => ?_) (fun c11 => ?_)
        · have h := zfi c11 h
          refine g_aload_n (M := mX8_best) dX8_best_57 0 rfl rfl ?_
          refine k_get (M := mX8_best) (v := .int (iI (t7.1 34))) dX8_best_58 kF_X8_315.r qMo (by omega) (zC_o) rfl ?_
          have e := (Option.some.inj h)
          subst e
          exact g_iret (M := mX8_best) dX8_best_61 rfl (Nat.le_of_ble_eq_true rfl) (Nat.le_of_ble_eq_true rfl) ⟨rfl, rfl⟩
        · have h := zti c11 h
          refine g_aload_n (M := mX8_best) dX8_best_50 0 rfl rfl ?_
          refine k_get (M := mX8_best) (v := .int (iI (t7.1 33))) dX8_best_51 kF_X8_312.r qMo (by omega) (zC_o) rfl ?_
          refine g_goto (M := mX8_best) (tgt := 61) dX8_best_54 (by decide) ?_
          have e := (Option.some.inj h)
          subst e
          exact g_iret (M := mX8_best) dX8_best_61 rfl (Nat.le_of_ble_eq_true rfl) (Nat.le_of_ble_eq_true rfl) ⟨rfl, rfl⟩
      · have h := zti c10 h
        refine g_aload_n (M := mX8_best) dX8_best_38 0 rfl rfl ?_
        refine k_get (M := mX8_best) (v := .int (iI (t7.1 32))) dX8_best_39 kF_X8_309.r qMo (by omega) (zC_o) rfl ?_
        refine g_goto (M := mX8_best) (tgt := 61) dX8_best_42 (by decide) ?_
        have e := (Option.some.inj h)
        subst e
        exact g_iret (M := mX8_best) dX8_best_61 rfl (Nat.le_of_ble_eq_true rfl) (Nat.le_of_ble_eq_true rfl) ⟨rfl, rfl⟩
    · have h := zti c9 h
      refine g_aload_n (M := mX8_best) dX8_best_26 0 rfl rfl ?_
      refine k_get (M := mX8_best) (v := .int (iI (t7.1 31))) dX8_best_27 kF_X8_306.r qMo (by omega) (zC_o) rfl ?_
      refine g_goto (M := mX8_best) (tgt := 61) dX8_best_30 (by decide) ?_
      have e := (Option.some.inj h)
      subst e
      exact g_iret (M := mX8_best) dX8_best_61 rfl (Nat.le_of_ble_eq_true rfl) (Nat.le_of_ble_eq_true rfl) ⟨rfl, rfl⟩
  · have h := zfi (zbf c6) h
    refine h_iconst (M := mX8_best) dX8_best_16 ?_
    have e := (Option.some.inj h)
    subst e
    exact g_iret (M := mX8_best) dX8_best_17 rfl (Nat.le_of_ble_eq_true rfl) (Nat.le_of_ble_eq_true rfl) ⟨rfl, rfl⟩
set_option maxHeartbeats 4000000 in
set_option maxRecDepth 100000 in
theorem wX8_isRow {X : zX} (hX : zOK X) {A : Nat → Nat} {n : Nat} {S : Nat → va_E} {qMo : Nat} {VMo : CV} (hMo : isC X A shMo qMo VMo S) (bMo : qMo + 20 < n) {a1 : Int} {res : Bool} (h : fX8_isRow VMo a1 = some res) : Con X yX8_isRow mX8_isRow 1 0 0 [.ref (A qMo), .int (iI a1)] (zWs A n S) (zRet (zWs A n S) (some (.int (iI (b2 res))))) := by
  refine con_of (lv := [(0, .ref (A qMo)), (1, .int (iI a1))]) (by decide) rfl (fun h => by cases h) rfl (Nat.le_of_ble_eq_true rfl) rfl ?_
  unfold fX8_isRow at h
  refine g_iload_n (M := mX8_isRow) dX8_isRow_0 1 rfl rfl ?_
  obtain ⟨g1, h⟩ := zgi h
  refine h_i2l (M := mX8_isRow) dX8_isRow_1 g1 ?_
  refine g_lconst (M := mX8_isRow) (v := iL 0) dX8_isRow_2 rfl ?_
  refine g_aload_n (M := mX8_isRow) dX8_isRow_3 0 rfl rfl ?_
  refine k_get (M := mX8_isRow) (v := .ref (A (qMo + 2))) dX8_isRow_4 kF_X8_20.r qMo (by omega) (hMo.o) rfl ?_
  refine h_iconst (M := mX8_isRow) dX8_isRow_7 ?_
  refine k_iald (M := mX8_isRow) (len := 351) (f := VMo.2 2) dX8_isRow_8 (qMo + 2) (by omega) (hMo.a (d := (0, 351)) 1 rfl) (Nat.le_of_ble_eq_true rfl) (by decide) (by decide) ?_
  refine h_iconst (M := mX8_isRow) dX8_isRow_9 ?_
  refine h_isub (M := mX8_isRow) dX8_isRow_10 ?_
  obtain ⟨g2, h⟩ := zgi h
  refine h_i2l (M := mX8_isRow) dX8_isRow_11 g2 ?_
  obtain ⟨t3, u4, h⟩ := zbi h
  refine g_callSr (M := mX8_isRow) [.long (iL a1), .long (iL 0), .long (iL ((VMo.2 2 0) - 1))] hX dX8_isRow_12 vX8_isIn kM_X8_99 (wX8_isIn hX   u4) rfl ⟨(Nat.le_of_ble_eq_true rfl), (Nat.le_of_ble_eq_true rfl)⟩ ⟨(Nat.le_of_ble_eq_true rfl), (Nat.le_of_ble_eq_true rfl)⟩ (Nat.le_of_ble_eq_true rfl) ?_
  have e := (Option.some.inj h)
  subst e
  exact g_zret (M := mX8_isRow) .boolean dX8_isRow_15 rfl (b2_nar _) (Nat.le_of_ble_eq_true rfl) (Nat.le_of_ble_eq_true rfl) ⟨rfl, rfl⟩
set_option maxHeartbeats 4000000 in
set_option maxRecDepth 100000 in
theorem wX8_thinks {X : zX} (hX : zOK X) {A : Nat → Nat} {n : Nat} {S : Nat → va_E} {qMo : Nat} {VMo : CV} (hMo : isC X A shMo qMo VMo S) (bMo : qMo + 20 < n) {res : CV} (h : fX8_thinks VMo = some res) : Con X yX8_thinks mX8_thinks 0 0 0 [.ref (A qMo)] (zWs A n S) (zRet (zWs A n (zC X A shMo qMo res S)) none) := by
  refine con_of (lv := [(0, .ref (A qMo))]) (by decide) rfl (fun h => by cases h) rfl (Nat.le_of_ble_eq_true rfl) rfl ?_
  refine g_ws (M := mX8_thinks) (congrArg (zWs A n) hMo.symm) ?_
  unfold fX8_thinks at h
  refine h_iconst (M := mX8_thinks) dX8_thinks_0 ?_
  refine g_istore_n (M := mX8_thinks) (lv' := [(0, .ref (A qMo)), (1, .int (iI 0))]) dX8_thinks_1 rfl (by decide) rfl ?_
  obtain ⟨x1, l1, h⟩ := zbi h
  have r1 : ∀ y1, y1 = x1 → G X mX8_thinks (zPm X 0 0 0 (zRet (zWs A n (zC X A shMo qMo res S)) none)) 0 0 27 [] [] (zWs A n (zC X A shMo qMo y1.2 S)) := by
    intro y1 ey
    rw [← ey] at h
    have e := (Option.some.inj h)
    subst e
    exact g_vret (M := mX8_thinks) dX8_thinks_27 rfl (Nat.le_of_ble_eq_true rfl) (Nat.le_of_ble_eq_true rfl) ⟨rfl, rfl⟩
  refine zLp_J (J := fun s1 => G X mX8_thinks (zPm X 0 0 0 (zRet (zWs A n (zC X A shMo qMo res S)) none)) 0 0 2 [(0, .ref (A qMo)), (1, .int (iI s1.1))] [] (zWs A n (zC X A shMo qMo s1.2 S))) (fun s1 w1 h1 b1 e1 => ?_) _ _ l1
  refine g_iload_n (M := mX8_thinks) dX8_thinks_2 1 rfl rfl ?_
  refine h_sipush (M := mX8_thinks) dX8_thinks_3 rfl ?_
  obtain ⟨g6, h1⟩ := zgi h1
  refine h_icmp_ge (M := mX8_thinks) (tgt := 27) dX8_thinks_6 (by decide) g6 (by decide) (fun c5 => ?_) (fun c5 => ?_)
  · have h1 := zti c5 h1
    refine g_lv (M := mX8_thinks) [] rfl ?_
    exact r1 _ (e1 _ (Option.some.inj h1).symm)
  · have h1 := zfi (Int.not_le.mpr c5) h1
    refine g_aload_n (M := mX8_thinks) dX8_thinks_9 0 rfl rfl ?_
    refine k_get (M := mX8_thinks) (v := .ref (A (qMo + 6))) dX8_thinks_10 kF_X8_32.r qMo (by omega) (zC_o) rfl ?_
    refine g_iload_n (M := mX8_thinks) dX8_thinks_13 1 rfl rfl ?_
    refine g_aload_n (M := mX8_thinks) dX8_thinks_14 0 rfl rfl ?_
    refine k_get (M := mX8_thinks) (v := .ref (A (qMo + 2))) dX8_thinks_15 kF_X8_20.r qMo (by omega) (zC_o) rfl ?_
    refine g_iload_n (M := mX8_thinks) dX8_thinks_18 1 rfl rfl ?_
    obtain ⟨g7, h1⟩ := zgi h1
    refine k_iald (M := mX8_thinks) (len := 351) (f := s1.2.2 2) dX8_thinks_19 (qMo + 2) (by omega) (zC_a (d := (0, 351)) 1 rfl) (Nat.le_of_ble_eq_true rfl) g7.1 g7.2 ?_
    refine c_iast (M := mX8_thinks) (len := 351) (d := (0, 351)) dX8_thinks_20 5 rfl rfl (by omega) (Nat.le_of_ble_eq_true rfl) g7.1 g7.2 ?_
    refine h_iinc (M := mX8_thinks) (j := 1) (lv' := [(0, .ref (A qMo)), (1, .int (iI (s1.1 + 1)))]) dX8_thinks_21 rfl (Nat.le_of_ble_eq_true rfl) rfl ?_
    refine g_goto (M := mX8_thinks) (tgt := 2) dX8_thinks_24 (by decide) ?_
    exact b1 _ (Option.some.inj h1).symm
set_option maxHeartbeats 4000000 in
set_option maxRecDepth 100000 in
theorem wX8_lays {X : zX} (hX : zOK X) {A : Nat → Nat} {n : Nat} {S : Nat → va_E} {qMo : Nat} {VMo : CV} (hMo : isC X A shMo qMo VMo S) (bMo : qMo + 20 < n) {a1 : Int} {a2 : Int} {a3 : Int} {res : CV} (h : fX8_lays VMo a1 a2 a3 = some res) : Con X yX8_lays mX8_lays 0 0 0 [.ref (A qMo), .int (iI a1), .int (iI a2), .int (iI a3)] (zWs A n S) (zRet (zWs A n (zC X A shMo qMo res S)) none) := by
  refine con_of (lv := [(0, .ref (A qMo)), (1, .int (iI a1)), (2, .int (iI a2)), (3, .int (iI a3))]) (by decide) rfl (fun h => by cases h) rfl (Nat.le_of_ble_eq_true rfl) rfl ?_
  refine g_ws (M := mX8_lays) (congrArg (zWs A n) hMo.symm) ?_
  unfold fX8_lays at h
  refine g_aload_n (M := mX8_lays) dX8_lays_0 0 rfl rfl ?_
  refine k_get (M := mX8_lays) (v := .ref (A (qMo + 2))) dX8_lays_1 kF_X8_20.r qMo (by omega) (zC_o) rfl ?_
  refine h_bipush (M := mX8_lays) dX8_lays_4 rfl ?_
  refine h_iconst (M := mX8_lays) dX8_lays_6 ?_
  refine g_iload_n (M := mX8_lays) dX8_lays_7 1 rfl rfl ?_
  refine h_imul (M := mX8_lays) dX8_lays_8 ?_
  refine h_iadd (M := mX8_lays) dX8_lays_9 ?_
  refine g_iload_n (M := mX8_lays) dX8_lays_10 2 rfl rfl ?_
  refine h_iadd (M := mX8_lays) dX8_lays_11 ?_
  refine g_iload_n (M := mX8_lays) dX8_lays_12 3 rfl rfl ?_
  obtain ⟨g1, h⟩ := zgi h
  refine c_iast (M := mX8_lays) (len := 351) (d := (0, 351)) dX8_lays_13 1 rfl rfl (by omega) (Nat.le_of_ble_eq_true rfl) g1.1 g1.2 ?_
  have e := (Option.some.inj h)
  subst e
  exact g_vret (M := mX8_lays) dX8_lays_14 rfl (Nat.le_of_ble_eq_true rfl) (Nat.le_of_ble_eq_true rfl) ⟨rfl, rfl⟩
set_option maxHeartbeats 4000000 in
set_option maxRecDepth 100000 in
theorem wX8_weighs {X : zX} (hX : zOK X) {A : Nat → Nat} {n : Nat} {S : Nat → va_E} {qMo : Nat} {VMo : CV} (hMo : isC X A shMo qMo VMo S) (bMo : qMo + 20 < n) {a1 : Int} {a2 : Int} {res : Int} (h : fX8_weighs VMo a1 a2 = some res) : Con X yX8_weighs mX8_weighs 1 0 0 [.ref (A qMo), .int (iI a1), .int (iI a2)] (zWs A n S) (zRet (zWs A n S) (some (.int (iI res)))) := by
  refine con_of (lv := [(0, .ref (A qMo)), (1, .int (iI a1)), (2, .int (iI a2))]) (by decide) rfl (fun h => by cases h) rfl (Nat.le_of_ble_eq_true rfl) rfl ?_
  unfold fX8_weighs at h
  refine h_iconst (M := mX8_weighs) dX8_weighs_0 ?_
  refine g_istore_n (M := mX8_weighs) (lv' := [(0, .ref (A qMo)), (1, .int (iI a1)), (2, .int (iI a2)), (3, .int (iI 1))]) dX8_weighs_1 rfl (by decide) rfl ?_
  refine h_iconst (M := mX8_weighs) dX8_weighs_2 ?_
  refine g_istore (M := mX8_weighs) (lv' := [(0, .ref (A qMo)), (1, .int (iI a1)), (2, .int (iI a2)), (3, .int (iI 1)), (4, .int (iI 0))]) dX8_weighs_3 (by decide) rfl ?_
  obtain ⟨x1, l1, h⟩ := zbi h
  have r1 : ∀ y1, y1 = x1 → G X mX8_weighs (zPm X 1 0 0 (zRet (zWs A n S) (some (.int (iI res))))) 0 0 46 [(3, .int (iI y1.1))] [] (zWs A n S) := by
    intro y1 ey
    rw [← ey] at h
    refine g_iload_n (M := mX8_weighs) dX8_weighs_46 0 rfl rfl ?_
    have e := (Option.some.inj h)
    subst e
    exact g_iret (M := mX8_weighs) dX8_weighs_47 rfl (Nat.le_of_ble_eq_true rfl) (Nat.le_of_ble_eq_true rfl) ⟨rfl, rfl⟩
  refine zLp_J (J := fun s1 => G X mX8_weighs (zPm X 1 0 0 (zRet (zWs A n S) (some (.int (iI res))))) 0 0 5 [(0, .ref (A qMo)), (1, .int (iI a1)), (2, .int (iI a2)), (3, .int (iI s1.1)), (4, .int (iI s1.2))] [] (zWs A n S)) (fun s1 w1 h1 b1 e1 => ?_) _ _ l1
  refine g_iload (M := mX8_weighs) dX8_weighs_5 4 rfl ?_
  refine g_aload_n (M := mX8_weighs) dX8_weighs_7 0 rfl rfl ?_
  refine k_get (M := mX8_weighs) (v := .ref (A (qMo + 2))) dX8_weighs_8 kF_X8_20.r qMo (by omega) (hMo.o) rfl ?_
  refine h_iconst (M := mX8_weighs) dX8_weighs_11 ?_
  refine k_iald (M := mX8_weighs) (len := 351) (f := VMo.2 2) dX8_weighs_12 (qMo + 2) (by omega) (hMo.a (d := (0, 351)) 1 rfl) (Nat.le_of_ble_eq_true rfl) (by decide) (by decide) ?_
  obtain ⟨g8, h1⟩ := zgi h1
  refine h_icmp_ge (M := mX8_weighs) (tgt := 46) dX8_weighs_13 (by decide) g8.1 g8.2 (fun c7 => ?_) (fun c7 => ?_)
  · have h1 := zti c7 h1
    refine g_lv (M := mX8_weighs) [3] rfl ?_
    exact r1 _ (e1 _ (Option.some.inj h1).symm)
  · have h1 := zfi (Int.not_le.mpr c7) h1
    refine g_iload_n (M := mX8_weighs) dX8_weighs_16 3 rfl rfl ?_
    refine h_iconst (M := mX8_weighs) dX8_weighs_17 ?_
    refine g_aload_n (M := mX8_weighs) dX8_weighs_18 0 rfl rfl ?_
    refine k_get (M := mX8_weighs) (v := .ref (A (qMo + 14))) dX8_weighs_19 kF_X8_57.r qMo (by omega) (hMo.o) rfl ?_
    refine h_iconst (M := mX8_weighs) dX8_weighs_22 ?_
    refine g_iload (M := mX8_weighs) dX8_weighs_23 4 rfl ?_
    refine h_imul (M := mX8_weighs) dX8_weighs_25 ?_
    refine g_aload_n (M := mX8_weighs) dX8_weighs_26 0 rfl rfl ?_
    refine g_iload_n (M := mX8_weighs) dX8_weighs_27 1 rfl rfl ?_
    refine g_iload_n (M := mX8_weighs) dX8_weighs_28 2 rfl rfl ?_
    refine g_iload (M := mX8_weighs) dX8_weighs_29 4 rfl ?_
    refine h_iadd (M := mX8_weighs) dX8_weighs_31 ?_
    obtain ⟨t9, u10, h1⟩ := zbi h1
    refine g_callVr (M := mX8_weighs) [.int (iI a1), .int (iI (a2 + s1.2))] hX dX8_weighs_32 vX8_letterAt kM_X8_232 (wX8_letterAt hX hMo (by omega)  u10) qMo (zWs_at (by omega) (hMo.o)) rfl ⟨(Nat.le_of_ble_eq_true rfl), (Nat.le_of_ble_eq_true rfl)⟩ ⟨(Nat.le_of_ble_eq_true rfl), (Nat.le_of_ble_eq_true rfl)⟩ (Nat.le_of_ble_eq_true rfl) ?_
    refine h_iadd (M := mX8_weighs) dX8_weighs_35 ?_
    obtain ⟨g11, h1⟩ := zgi h1
    refine k_iald (M := mX8_weighs) (len := 24) (f := VMo.2 14) dX8_weighs_36 (qMo + 14) (by omega) (hMo.a (d := (0, 24)) 13 rfl) (Nat.le_of_ble_eq_true rfl) g11.1 g11.2 ?_
    refine h_iadd (M := mX8_weighs) dX8_weighs_37 ?_
    refine h_imul (M := mX8_weighs) dX8_weighs_38 ?_
    refine g_istore_n (M := mX8_weighs) (lv' := [(0, .ref (A qMo)), (1, .int (iI a1)), (2, .int (iI a2)), (3, .int (iI (s1.1 * (1 + (VMo.2 14 ((4 * s1.2) + t9)))))), (4, .int (iI s1.2))]) dX8_weighs_39 rfl (by decide) rfl ?_
    refine h_iinc (M := mX8_weighs) (j := 4) (lv' := [(0, .ref (A qMo)), (1, .int (iI a1)), (2, .int (iI a2)), (3, .int (iI (s1.1 * (1 + (VMo.2 14 ((4 * s1.2) + t9)))))), (4, .int (iI (s1.2 + 1)))]) dX8_weighs_40 rfl (Nat.le_of_ble_eq_true rfl) rfl ?_
    refine g_goto (M := mX8_weighs) (tgt := 5) dX8_weighs_43 (by decide) ?_
    exact b1 _ (Option.some.inj h1).symm
set_option maxHeartbeats 4000000 in
set_option maxRecDepth 100000 in
theorem wX8_betters {X : zX} (hX : zOK X) {A : Nat → Nat} {n : Nat} {S : Nat → va_E} {qMo : Nat} {VMo : CV} (hMo : isC X A shMo qMo VMo S) (bMo : qMo + 20 < n) {a1 : Int} {res : CV × Int} (h : fX8_betters VMo a1 = some res) : Con X yX8_betters mX8_betters 3 0 0 [.ref (A qMo), .int (iI a1)] (zWs A n S) (zRet (zWs A n (zC X A shMo qMo res.1 S)) (some (.int (iI res.2)))) := by
  refine con_of (lv := [(0, .ref (A qMo)), (1, .int (iI a1))]) (by decide) rfl (fun h => by cases h) rfl (Nat.le_of_ble_eq_true rfl) rfl ?_
  refine g_ws (M := mX8_betters) (congrArg (zWs A n) hMo.symm) ?_
  unfold fX8_betters at h
  refine g_aload_n (M := mX8_betters) dX8_betters_0 0 rfl rfl ?_
  refine g_iload_n (M := mX8_betters) dX8_betters_1 1 rfl rfl ?_
  obtain ⟨t1, u2, h⟩ := zbi h
  refine g_callVr (M := mX8_betters) [.int (iI a1)] hX dX8_betters_2 vX8_laysProfile kM_X8_347 (wX8_laysProfile hX zC_self (by omega)  u2) qMo (zWs_at (by omega) (zC_o)) rfl ⟨(Nat.le_of_ble_eq_true rfl), (Nat.le_of_ble_eq_true rfl)⟩ ⟨(Nat.le_of_ble_eq_true rfl), (Nat.le_of_ble_eq_true rfl)⟩ (Nat.le_of_ble_eq_true rfl) ?_
  refine g_ws (M := mX8_betters) (congrArg (zWs A n) zC_over) ?_
  refine h_iconst (M := mX8_betters) dX8_betters_5 ?_
  refine g_istore_n (M := mX8_betters) (lv' := [(0, .ref (A qMo)), (1, .int (iI a1)), (2, .int (iI (-1)))]) dX8_betters_6 rfl (by decide) rfl ?_
  refine h_iconst (M := mX8_betters) dX8_betters_7 ?_
  refine g_istore_n (M := mX8_betters) (lv' := [(0, .ref (A qMo)), (1, .int (iI a1)), (2, .int (iI (-1))), (3, .int (iI 0))]) dX8_betters_8 rfl (by decide) rfl ?_
  refine h_iconst (M := mX8_betters) dX8_betters_9 ?_
  refine g_istore (M := mX8_betters) (lv' := [(0, .ref (A qMo)), (1, .int (iI a1)), (2, .int (iI (-1))), (3, .int (iI 0)), (4, .int (iI 0))]) dX8_betters_10 (by decide) rfl ?_
  obtain ⟨x3, l3, h⟩ := zbi h
  have r3 : ∀ y3, y3 = x3 → G X mX8_betters (zPm X 3 0 0 (zRet (zWs A n (zC X A shMo qMo res.1 S)) (some (.int (iI res.2))))) 0 0 71 [(0, .ref (A qMo)), (1, .int (iI a1)), (2, .int (iI y3.1))] [] (zWs A n (zC X A shMo qMo t1 S)) := by
    intro y3 ey
    rw [← ey] at h
    refine g_aload_n (M := mX8_betters) dX8_betters_71 0 rfl rfl ?_
    refine g_iload_n (M := mX8_betters) dX8_betters_72 1 rfl rfl ?_
    refine h_iconst (M := mX8_betters) dX8_betters_73 ?_
    refine g_iload_n (M := mX8_betters) dX8_betters_74 2 rfl rfl ?_
    obtain ⟨t17, u18, h⟩ := zbi h
    refine g_callVr (M := mX8_betters) [.int (iI a1), .int (iI 1), .int (iI y3.1)] hX dX8_betters_75 vX8_lays kM_X8_179 (wX8_lays hX zC_self (by omega)  u18) qMo (zWs_at (by omega) (zC_o)) rfl ⟨(Nat.le_of_ble_eq_true rfl), (Nat.le_of_ble_eq_true rfl)⟩ ⟨(Nat.le_of_ble_eq_true rfl), (Nat.le_of_ble_eq_true rfl)⟩ (Nat.le_of_ble_eq_true rfl) ?_
    refine g_ws (M := mX8_betters) (congrArg (zWs A n) zC_over) ?_
    refine g_iload_n (M := mX8_betters) dX8_betters_78 2 rfl rfl ?_
    have e := (Option.some.inj h)
    subst e
    exact g_iret (M := mX8_betters) dX8_betters_79 rfl (Nat.le_of_ble_eq_true rfl) (Nat.le_of_ble_eq_true rfl) ⟨rfl, rfl⟩
  refine zLp_J (J := fun s3 => G X mX8_betters (zPm X 3 0 0 (zRet (zWs A n (zC X A shMo qMo res.1 S)) (some (.int (iI res.2))))) 0 0 12 [(0, .ref (A qMo)), (1, .int (iI a1)), (2, .int (iI s3.1)), (3, .int (iI s3.2.1)), (4, .int (iI s3.2.2))] [] (zWs A n (zC X A shMo qMo t1 S))) (fun s3 w3 h3 b3 e3 => ?_) _ _ l3
  refine g_iload (M := mX8_betters) dX8_betters_12 4 rfl ?_
  refine g_aload_n (M := mX8_betters) dX8_betters_14 0 rfl rfl ?_
  refine g_iload_n (M := mX8_betters) dX8_betters_15 1 rfl rfl ?_
  refine h_iconst (M := mX8_betters) dX8_betters_16 ?_
  obtain ⟨t19, u20, h3⟩ := zbi h3
  refine g_callVr (M := mX8_betters) [.int (iI a1), .int (iI 0)] hX dX8_betters_17 vX8_of kM_X8_166 (wX8_of hX zC_self (by omega)  u20) qMo (zWs_at (by omega) (zC_o)) rfl ⟨(Nat.le_of_ble_eq_true rfl), (Nat.le_of_ble_eq_true rfl)⟩ ⟨(Nat.le_of_ble_eq_true rfl), (Nat.le_of_ble_eq_true rfl)⟩ (Nat.le_of_ble_eq_true rfl) ?_
  obtain ⟨g22, h3⟩ := zgi h3
  refine h_icmp_ge (M := mX8_betters) (tgt := 71) dX8_betters_20 (by decide) g22.1 g22.2 (fun c21 => ?_) (fun c21 => ?_)
  · have h3 := zti c21 h3
    refine g_lv (M := mX8_betters) [0, 1, 2] rfl ?_
    exact r3 _ (e3 _ (Option.some.inj h3).symm)
  · have h3 := zfi (Int.not_le.mpr c21) h3
    refine g_aload_n (M := mX8_betters) dX8_betters_23 0 rfl rfl ?_
    refine g_iload_n (M := mX8_betters) dX8_betters_24 1 rfl rfl ?_
    refine g_iload (M := mX8_betters) dX8_betters_25 4 rfl ?_
    obtain ⟨t23, u24, h3⟩ := zbi h3
    refine g_callVr (M := mX8_betters) [.int (iI a1), .int (iI s3.2.2)] hX dX8_betters_27 vX8_isPlace kM_X8_229 (wX8_isPlace hX zC_self (by omega)  u24) qMo (zWs_at (by omega) (zC_o)) rfl ⟨(Nat.le_of_ble_eq_true rfl), (Nat.le_of_ble_eq_true rfl)⟩ ⟨(Nat.le_of_ble_eq_true rfl), (Nat.le_of_ble_eq_true rfl)⟩ (Nat.le_of_ble_eq_true rfl) ?_
    refine h_bne (M := mX8_betters) (tgt := 36) dX8_betters_30 (by decide) (fun c25 => ?_) (fun c25 => ?_)
    · have h3 := zti c25 h3
      refine g_aload_n (M := mX8_betters) dX8_betters_36 0 rfl rfl ?_
      refine g_iload_n (M := mX8_betters) dX8_betters_37 1 rfl rfl ?_
      refine g_iload (M := mX8_betters) dX8_betters_38 4 rfl ?_
      obtain ⟨t26, u27, h3⟩ := zbi h3
      refine g_callVr (M := mX8_betters) [.int (iI a1), .int (iI s3.2.2)] hX dX8_betters_40 vX8_weighs kM_X8_359 (wX8_weighs hX zC_self (by omega)  u27) qMo (zWs_at (by omega) (zC_o)) rfl ⟨(Nat.le_of_ble_eq_true rfl), (Nat.le_of_ble_eq_true rfl)⟩ ⟨(Nat.le_of_ble_eq_true rfl), (Nat.le_of_ble_eq_true rfl)⟩ (Nat.le_of_ble_eq_true rfl) ?_
      refine g_istore (M := mX8_betters) (lv' := [(0, .ref (A qMo)), (1, .int (iI a1)), (2, .int (iI s3.1)), (3, .int (iI s3.2.1)), (4, .int (iI s3.2.2)), (5, .int (iI t26))]) dX8_betters_43 (by decide) rfl ?_
      refine g_iload_n (M := mX8_betters) dX8_betters_45 2 rfl rfl ?_
      refine h_iconst (M := mX8_betters) dX8_betters_46 ?_
      obtain ⟨g29, h3⟩ := zgi h3
      refine h_icmp_eq (M := mX8_betters) (tgt := 59) dX8_betters_47 (by decide) g29 (by decide) (fun c28 => ?_) (fun c28 => ?_)
      · have h3 := zti c28 h3
        refine g_iload (M := mX8_betters) dX8_betters_59 4 rfl ?_
        refine g_istore_n (M := mX8_betters) (lv' := [(0, .ref (A qMo)), (1, .int (iI a1)), (2, .int (iI s3.2.2)), (3, .int (iI s3.2.1)), (4, .int (iI s3.2.2)), (5, .int (iI t26))]) dX8_betters_61 rfl (by decide) rfl ?_
        refine g_iload (M := mX8_betters) dX8_betters_62 5 rfl ?_
        refine g_istore_n (M := mX8_betters) (lv' := [(0, .ref (A qMo)), (1, .int (iI a1)), (2, .int (iI s3.2.2)), (3, .int (iI t26)), (4, .int (iI s3.2.2)), (5, .int (iI t26))]) dX8_betters_64 rfl (by decide) rfl ?_
        refine h_iinc (M := mX8_betters) (j := 4) (lv' := [(0, .ref (A qMo)), (1, .int (iI a1)), (2, .int (iI s3.2.2)), (3, .int (iI t26)), (4, .int (iI (s3.2.2 + 1))), (5, .int (iI t26))]) dX8_betters_65 rfl (Nat.le_of_ble_eq_true rfl) rfl ?_
        refine g_goto (M := mX8_betters) (tgt := 12) dX8_betters_68 (by decide) ?_
        refine g_lv (M := mX8_betters) [0, 1, 2, 3, 4] rfl ?_
        exact b3 _ (Option.some.inj h3).symm
      · have h3 := zfi c28 h3
        refine g_iload (M := mX8_betters) dX8_betters_50 5 rfl ?_
        refine g_iload_n (M := mX8_betters) dX8_betters_52 3 rfl rfl ?_
        obtain ⟨g31, h3⟩ := zgi h3
        refine h_icmp_gt (M := mX8_betters) (tgt := 59) dX8_betters_53 (by decide) g31.1 g31.2 (fun c30 => ?_) (fun c30 => ?_)
        · have h3 := zti c30 h3
          refine g_iload (M := mX8_betters) dX8_betters_59 4 rfl ?_
          refine g_istore_n (M := mX8_betters) (lv' := [(0, .ref (A qMo)), (1, .int (iI a1)), (2, .int (iI s3.2.2)), (3, .int (iI s3.2.1)), (4, .int (iI s3.2.2)), (5, .int (iI t26))]) dX8_betters_61 rfl (by decide) rfl ?_
          refine g_iload (M := mX8_betters) dX8_betters_62 5 rfl ?_
          refine g_istore_n (M := mX8_betters) (lv' := [(0, .ref (A qMo)), (1, .int (iI a1)), (2, .int (iI s3.2.2)), (3, .int (iI t26)), (4, .int (iI s3.2.2)), (5, .int (iI t26))]) dX8_betters_64 rfl (by decide) rfl ?_
          refine h_iinc (M := mX8_betters) (j := 4) (lv' := [(0, .ref (A qMo)), (1, .int (iI a1)), (2, .int (iI s3.2.2)), (3, .int (iI t26)), (4, .int (iI (s3.2.2 + 1))), (5, .int (iI t26))]) dX8_betters_65 rfl (Nat.le_of_ble_eq_true rfl) rfl ?_
          refine g_goto (M := mX8_betters) (tgt := 12) dX8_betters_68 (by decide) ?_
          refine g_lv (M := mX8_betters) [0, 1, 2, 3, 4] rfl ?_
          exact b3 _ (Option.some.inj h3).symm
        · have h3 := zfi (Int.not_lt.mpr c30) h3
          refine g_goto (M := mX8_betters) (tgt := 65) dX8_betters_56 (by decide) ?_
          refine h_iinc (M := mX8_betters) (j := 4) (lv' := [(0, .ref (A qMo)), (1, .int (iI a1)), (2, .int (iI s3.1)), (3, .int (iI s3.2.1)), (4, .int (iI (s3.2.2 + 1))), (5, .int (iI t26))]) dX8_betters_65 rfl (Nat.le_of_ble_eq_true rfl) rfl ?_
          refine g_goto (M := mX8_betters) (tgt := 12) dX8_betters_68 (by decide) ?_
          refine g_lv (M := mX8_betters) [0, 1, 2, 3, 4] rfl ?_
          exact b3 _ (Option.some.inj h3).symm
    · have h3 := zfi (zbf c25) h3
      refine g_goto (M := mX8_betters) (tgt := 65) dX8_betters_33 (by decide) ?_
      refine h_iinc (M := mX8_betters) (j := 4) (lv' := [(0, .ref (A qMo)), (1, .int (iI a1)), (2, .int (iI s3.1)), (3, .int (iI s3.2.1)), (4, .int (iI (s3.2.2 + 1)))]) dX8_betters_65 rfl (Nat.le_of_ble_eq_true rfl) rfl ?_
      refine g_goto (M := mX8_betters) (tgt := 12) dX8_betters_68 (by decide) ?_
      exact b3 _ (Option.some.inj h3).symm
set_option maxHeartbeats 4000000 in
set_option maxRecDepth 100000 in
theorem wX8_improvesOnce {X : zX} (hX : zOK X) {A : Nat → Nat} {n : Nat} {S : Nat → va_E} {qMo : Nat} {VMo : CV} (hMo : isC X A shMo qMo VMo S) (bMo : qMo + 20 < n) {res : CV × Bool} (h : fX8_improvesOnce VMo = some res) : Con X yX8_improvesOnce mX8_improvesOnce 4 0 0 [.ref (A qMo)] (zWs A n S) (zRet (zWs A n (zC X A shMo qMo res.1 S)) (some (.int (iI (b2 res.2))))) := by
  refine con_of (lv := [(0, .ref (A qMo))]) (by decide) rfl (fun h => by cases h) rfl (Nat.le_of_ble_eq_true rfl) rfl ?_
  refine g_ws (M := mX8_improvesOnce) (congrArg (zWs A n) hMo.symm) ?_
  unfold fX8_improvesOnce at h
  refine h_iconst (M := mX8_improvesOnce) dX8_improvesOnce_0 ?_
  refine g_istore_n (M := mX8_improvesOnce) (lv' := [(0, .ref (A qMo)), (1, .int (iI 0))]) dX8_improvesOnce_1 rfl (by decide) rfl ?_
  refine h_iconst (M := mX8_improvesOnce) dX8_improvesOnce_2 ?_
  refine g_istore_n (M := mX8_improvesOnce) (lv' := [(0, .ref (A qMo)), (1, .int (iI 0)), (2, .int (iI 0))]) dX8_improvesOnce_3 rfl (by decide) rfl ?_
  obtain ⟨x1, l1, h⟩ := zbi h
  have r1 : ∀ y1, y1 = x1 → G X mX8_improvesOnce (zPm X 4 0 0 (zRet (zWs A n (zC X A shMo qMo res.1 S)) (some (.int (iI (b2 res.2)))))) 0 0 57 [(1, .int (iI y1.1))] [] (zWs A n (zC X A shMo qMo y1.2.2 S)) := by
    intro y1 ey
    rw [← ey] at h
    refine g_iload_n (M := mX8_improvesOnce) dX8_improvesOnce_57 0 rfl rfl ?_
    obtain ⟨g15, h⟩ := zgi h
    refine h_top (M := mX8_improvesOnce) (b := b2 (decide (y1.1 = 1))) (b2_d g15) ?_
    have e := (Option.some.inj h)
    subst e
    exact g_zret (M := mX8_improvesOnce) .boolean dX8_improvesOnce_58 rfl (b2_nar _) (Nat.le_of_ble_eq_true rfl) (Nat.le_of_ble_eq_true rfl) ⟨rfl, rfl⟩
  refine zLp_J (J := fun s1 => G X mX8_improvesOnce (zPm X 4 0 0 (zRet (zWs A n (zC X A shMo qMo res.1 S)) (some (.int (iI (b2 res.2)))))) 0 0 4 [(0, .ref (A qMo)), (1, .int (iI s1.1)), (2, .int (iI s1.2.1))] [] (zWs A n (zC X A shMo qMo s1.2.2 S))) (fun s1 w1 h1 b1 e1 => ?_) _ _ l1
  refine g_iload_n (M := mX8_improvesOnce) dX8_improvesOnce_4 2 rfl rfl ?_
  refine g_aload_n (M := mX8_improvesOnce) dX8_improvesOnce_5 0 rfl rfl ?_
  refine k_get (M := mX8_improvesOnce) (v := .ref (A (qMo + 2))) dX8_improvesOnce_6 kF_X8_20.r qMo (by omega) (zC_o) rfl ?_
  refine h_iconst (M := mX8_improvesOnce) dX8_improvesOnce_9 ?_
  refine k_iald (M := mX8_improvesOnce) (len := 351) (f := s1.2.2.2 2) dX8_improvesOnce_10 (qMo + 2) (by omega) (zC_a (d := (0, 351)) 1 rfl) (Nat.le_of_ble_eq_true rfl) (by decide) (by decide) ?_
  obtain ⟨g17, h1⟩ := zgi h1
  refine h_icmp_ge (M := mX8_improvesOnce) (tgt := 57) dX8_improvesOnce_11 (by decide) g17.1 g17.2 (fun c16 => ?_) (fun c16 => ?_)
  · have h1 := zti c16 h1
    refine g_lv (M := mX8_improvesOnce) [1] rfl ?_
    exact r1 _ (e1 _ (Option.some.inj h1).symm)
  · have h1 := zfi (Int.not_le.mpr c16) h1
    refine g_aload_n (M := mX8_improvesOnce) dX8_improvesOnce_14 0 rfl rfl ?_
    refine g_iload_n (M := mX8_improvesOnce) dX8_improvesOnce_15 2 rfl rfl ?_
    obtain ⟨t18, u19, h1⟩ := zbi h1
    refine g_callVr (M := mX8_improvesOnce) [.int (iI s1.2.1)] hX dX8_improvesOnce_16 vX8_isOut kM_X8_226 (wX8_isOut hX zC_self (by omega)  u19) qMo (zWs_at (by omega) (zC_o)) rfl ⟨(Nat.le_of_ble_eq_true rfl), (Nat.le_of_ble_eq_true rfl)⟩ ⟨(Nat.le_of_ble_eq_true rfl), (Nat.le_of_ble_eq_true rfl)⟩ (Nat.le_of_ble_eq_true rfl) ?_
    refine h_beq (M := mX8_improvesOnce) (tgt := 25) dX8_improvesOnce_19 (by decide) (fun c20 => ?_) (fun c20 => ?_)
    · have h1 := zfi (zbf c20) h1
      refine g_aload_n (M := mX8_improvesOnce) dX8_improvesOnce_25 0 rfl rfl ?_
      refine g_iload_n (M := mX8_improvesOnce) dX8_improvesOnce_26 2 rfl rfl ?_
      refine h_iconst (M := mX8_improvesOnce) dX8_improvesOnce_27 ?_
      obtain ⟨t21, u22, h1⟩ := zbi h1
      refine g_callVr (M := mX8_improvesOnce) [.int (iI s1.2.1), .int (iI 1)] hX dX8_improvesOnce_28 vX8_of kM_X8_166 (wX8_of hX zC_self (by omega)  u22) qMo (zWs_at (by omega) (zC_o)) rfl ⟨(Nat.le_of_ble_eq_true rfl), (Nat.le_of_ble_eq_true rfl)⟩ ⟨(Nat.le_of_ble_eq_true rfl), (Nat.le_of_ble_eq_true rfl)⟩ (Nat.le_of_ble_eq_true rfl) ?_
      refine g_istore_n (M := mX8_improvesOnce) (lv' := [(0, .ref (A qMo)), (1, .int (iI s1.1)), (2, .int (iI s1.2.1)), (3, .int (iI t21))]) dX8_improvesOnce_31 rfl (by decide) rfl ?_
      refine g_aload_n (M := mX8_improvesOnce) dX8_improvesOnce_32 0 rfl rfl ?_
      refine g_iload_n (M := mX8_improvesOnce) dX8_improvesOnce_33 2 rfl rfl ?_
      obtain ⟨t23, u24, h1⟩ := zbi h1
      refine g_callVr (M := mX8_improvesOnce) [.int (iI s1.2.1)] hX dX8_improvesOnce_34 vX8_betters kM_X8_362 (wX8_betters hX zC_self (by omega)  u24) qMo (zWs_at (by omega) (zC_o)) rfl ⟨(Nat.le_of_ble_eq_true rfl), (Nat.le_of_ble_eq_true rfl)⟩ ⟨(Nat.le_of_ble_eq_true rfl), (Nat.le_of_ble_eq_true rfl)⟩ (Nat.le_of_ble_eq_true rfl) ?_
      refine g_ws (M := mX8_improvesOnce) (congrArg (zWs A n) zC_over) ?_
      refine g_iload_n (M := mX8_improvesOnce) dX8_improvesOnce_37 3 rfl rfl ?_
      obtain ⟨g26, h1⟩ := zgi h1
      refine h_icmp_ne (M := mX8_improvesOnce) (tgt := 45) dX8_improvesOnce_38 (by decide) g26.1 g26.2 (fun c25 => ?_) (fun c25 => ?_)
      · have h1 := zfi c25 h1
        refine h_iconst (M := mX8_improvesOnce) dX8_improvesOnce_45 ?_
        refine g_goto (M := mX8_improvesOnce) (tgt := 50) dX8_improvesOnce_46 (by decide) ?_
        refine g_istore_n (M := mX8_improvesOnce) (lv' := [(0, .ref (A qMo)), (1, .int (iI 1)), (2, .int (iI s1.2.1)), (3, .int (iI t21))]) dX8_improvesOnce_50 rfl (by decide) rfl ?_
        refine h_iinc (M := mX8_improvesOnce) (j := 2) (lv' := [(0, .ref (A qMo)), (1, .int (iI 1)), (2, .int (iI (s1.2.1 + 1))), (3, .int (iI t21))]) dX8_improvesOnce_51 rfl (Nat.le_of_ble_eq_true rfl) rfl ?_
        refine g_goto (M := mX8_improvesOnce) (tgt := 4) dX8_improvesOnce_54 (by decide) ?_
        refine g_lv (M := mX8_improvesOnce) [0, 1, 2] rfl ?_
        exact b1 _ (Option.some.inj h1).symm
      · have h1 := zti c25 h1
        refine g_iload_n (M := mX8_improvesOnce) dX8_improvesOnce_41 1 rfl rfl ?_
        obtain ⟨g28, h1⟩ := zgi h1
        refine h_if_eq (M := mX8_improvesOnce) (tgt := 49) dX8_improvesOnce_42 (by decide) g28 (fun c27 => ?_) (fun c27 => ?_)
        · have h1 := zti c27 h1
          refine h_iconst (M := mX8_improvesOnce) dX8_improvesOnce_49 ?_
          refine g_istore_n (M := mX8_improvesOnce) (lv' := [(0, .ref (A qMo)), (1, .int (iI 0)), (2, .int (iI s1.2.1)), (3, .int (iI t21))]) dX8_improvesOnce_50 rfl (by decide) rfl ?_
          refine h_iinc (M := mX8_improvesOnce) (j := 2) (lv' := [(0, .ref (A qMo)), (1, .int (iI 0)), (2, .int (iI (s1.2.1 + 1))), (3, .int (iI t21))]) dX8_improvesOnce_51 rfl (Nat.le_of_ble_eq_true rfl) rfl ?_
          refine g_goto (M := mX8_improvesOnce) (tgt := 4) dX8_improvesOnce_54 (by decide) ?_
          refine g_lv (M := mX8_improvesOnce) [0, 1, 2] rfl ?_
          exact b1 _ (Option.some.inj h1).symm
        · have h1 := zfi c27 h1
          refine h_iconst (M := mX8_improvesOnce) dX8_improvesOnce_45 ?_
          refine g_goto (M := mX8_improvesOnce) (tgt := 50) dX8_improvesOnce_46 (by decide) ?_
          refine g_istore_n (M := mX8_improvesOnce) (lv' := [(0, .ref (A qMo)), (1, .int (iI 1)), (2, .int (iI s1.2.1)), (3, .int (iI t21))]) dX8_improvesOnce_50 rfl (by decide) rfl ?_
          refine h_iinc (M := mX8_improvesOnce) (j := 2) (lv' := [(0, .ref (A qMo)), (1, .int (iI 1)), (2, .int (iI (s1.2.1 + 1))), (3, .int (iI t21))]) dX8_improvesOnce_51 rfl (Nat.le_of_ble_eq_true rfl) rfl ?_
          refine g_goto (M := mX8_improvesOnce) (tgt := 4) dX8_improvesOnce_54 (by decide) ?_
          refine g_lv (M := mX8_improvesOnce) [0, 1, 2] rfl ?_
          exact b1 _ (Option.some.inj h1).symm
    · have h1 := zti c20 h1
      refine g_goto (M := mX8_improvesOnce) (tgt := 51) dX8_improvesOnce_22 (by decide) ?_
      refine h_iinc (M := mX8_improvesOnce) (j := 2) (lv' := [(0, .ref (A qMo)), (1, .int (iI s1.1)), (2, .int (iI (s1.2.1 + 1)))]) dX8_improvesOnce_51 rfl (Nat.le_of_ble_eq_true rfl) rfl ?_
      refine g_goto (M := mX8_improvesOnce) (tgt := 4) dX8_improvesOnce_54 (by decide) ?_
      exact b1 _ (Option.some.inj h1).symm
set_option maxHeartbeats 4000000 in
set_option maxRecDepth 100000 in
theorem wX8_improves {X : zX} (hX : zOK X) {A : Nat → Nat} {n : Nat} {S : Nat → va_E} {qMo : Nat} {VMo : CV} (hMo : isC X A shMo qMo VMo S) (bMo : qMo + 20 < n) {a1 : Int} {res : CV × Int} (h : fX8_improves VMo a1 = some res) : Con X yX8_improves mX8_improves 5 0 0 [.ref (A qMo), .int (iI a1)] (zWs A n S) (zRet (zWs A n (zC X A shMo qMo res.1 S)) (some (.int (iI res.2)))) := by
  refine con_of (lv := [(0, .ref (A qMo)), (1, .int (iI a1))]) (by decide) rfl (fun h => by cases h) rfl (Nat.le_of_ble_eq_true rfl) rfl ?_
  refine g_ws (M := mX8_improves) (congrArg (zWs A n) hMo.symm) ?_
  unfold fX8_improves at h
  refine h_iconst (M := mX8_improves) dX8_improves_0 ?_
  refine g_istore_n (M := mX8_improves) (lv' := [(0, .ref (A qMo)), (1, .int (iI a1)), (2, .int (iI 0))]) dX8_improves_1 rfl (by decide) rfl ?_
  refine h_iconst (M := mX8_improves) dX8_improves_2 ?_
  refine g_istore_n (M := mX8_improves) (lv' := [(0, .ref (A qMo)), (1, .int (iI a1)), (2, .int (iI 0)), (3, .int (iI 1))]) dX8_improves_3 rfl (by decide) rfl ?_
  obtain ⟨x1, l1, h⟩ := zbi h
  have r1 : ∀ y1, y1 = x1 → G X mX8_improves (zPm X 5 0 0 (zRet (zWs A n (zC X A shMo qMo res.1 S)) (some (.int (iI res.2))))) 0 0 24 [(2, .int (iI y1.1))] [] (zWs A n (zC X A shMo qMo y1.2.2 S)) := by
    intro y1 ey
    rw [← ey] at h
    refine g_iload_n (M := mX8_improves) dX8_improves_24 0 rfl rfl ?_
    have e := (Option.some.inj h)
    subst e
    exact g_iret (M := mX8_improves) dX8_improves_25 rfl (Nat.le_of_ble_eq_true rfl) (Nat.le_of_ble_eq_true rfl) ⟨rfl, rfl⟩
  refine zLp_J (J := fun s1 => G X mX8_improves (zPm X 5 0 0 (zRet (zWs A n (zC X A shMo qMo res.1 S)) (some (.int (iI res.2))))) 0 0 4 [(0, .ref (A qMo)), (1, .int (iI a1)), (2, .int (iI s1.1)), (3, .int (iI s1.2.1))] [] (zWs A n (zC X A shMo qMo s1.2.2 S))) (fun s1 w1 h1 b1 e1 => ?_) _ _ l1
  refine g_iload_n (M := mX8_improves) dX8_improves_4 2 rfl rfl ?_
  refine g_iload_n (M := mX8_improves) dX8_improves_5 1 rfl rfl ?_
  obtain ⟨g9, h1⟩ := zgi h1
  refine h_icmp_ge (M := mX8_improves) (tgt := 24) dX8_improves_6 (by decide) g9.1 g9.2 (fun c8 => ?_) (fun c8 => ?_)
  · have h1 := zti c8 h1
    refine g_lv (M := mX8_improves) [2] rfl ?_
    exact r1 _ (e1 _ (Option.some.inj h1).symm)
  · have h1 := zfi (Int.not_le.mpr c8) h1
    refine g_iload_n (M := mX8_improves) dX8_improves_9 3 rfl rfl ?_
    obtain ⟨g11, h1⟩ := zgi h1
    refine h_if_eq (M := mX8_improves) (tgt := 24) dX8_improves_10 (by decide) g11 (fun c10 => ?_) (fun c10 => ?_)
    · have h1 := zti c10 h1
      refine g_lv (M := mX8_improves) [2] rfl ?_
      exact r1 _ (e1 _ (Option.some.inj h1).symm)
    · have h1 := zfi c10 h1
      refine g_aload_n (M := mX8_improves) dX8_improves_13 0 rfl rfl ?_
      obtain ⟨t12, u13, h1⟩ := zbi h1
      refine g_callVr (M := mX8_improves) [] hX dX8_improves_14 vX8_improvesOnce kM_X8_365 (wX8_improvesOnce hX zC_self (by omega)  u13) qMo (zWs_at (by omega) (zC_o)) rfl ⟨(Nat.le_of_ble_eq_true rfl), (Nat.le_of_ble_eq_true rfl)⟩ ⟨(Nat.le_of_ble_eq_true rfl), (Nat.le_of_ble_eq_true rfl)⟩ (Nat.le_of_ble_eq_true rfl) ?_
      refine g_ws (M := mX8_improves) (congrArg (zWs A n) zC_over) ?_
      refine g_istore_n (M := mX8_improves) (lv' := [(0, .ref (A qMo)), (1, .int (iI a1)), (2, .int (iI s1.1)), (3, .int (iI (b2 t12.2)))]) dX8_improves_17 rfl (by decide) rfl ?_
      refine h_iinc (M := mX8_improves) (j := 2) (lv' := [(0, .ref (A qMo)), (1, .int (iI a1)), (2, .int (iI (s1.1 + 1))), (3, .int (iI (b2 t12.2)))]) dX8_improves_18 rfl (Nat.le_of_ble_eq_true rfl) rfl ?_
      refine g_goto (M := mX8_improves) (tgt := 4) dX8_improves_21 (by decide) ?_
      exact b1 _ (Option.some.inj h1).symm
set_option maxHeartbeats 4000000 in
set_option maxRecDepth 100000 in
theorem wX8_thinksNoMore {X : zX} (hX : zOK X) {A : Nat → Nat} {n : Nat} {S : Nat → va_E} {qMo : Nat} {VMo : CV} (hMo : isC X A shMo qMo VMo S) (bMo : qMo + 20 < n) {res : CV} (h : fX8_thinksNoMore VMo = some res) : Con X yX8_thinksNoMore mX8_thinksNoMore 0 0 0 [.ref (A qMo)] (zWs A n S) (zRet (zWs A n (zC X A shMo qMo res S)) none) := by
  refine con_of (lv := [(0, .ref (A qMo))]) (by decide) rfl (fun h => by cases h) rfl (Nat.le_of_ble_eq_true rfl) rfl ?_
  refine g_ws (M := mX8_thinksNoMore) (congrArg (zWs A n) hMo.symm) ?_
  unfold fX8_thinksNoMore at h
  refine h_iconst (M := mX8_thinksNoMore) dX8_thinksNoMore_0 ?_
  refine g_istore_n (M := mX8_thinksNoMore) (lv' := [(0, .ref (A qMo)), (1, .int (iI 0))]) dX8_thinksNoMore_1 rfl (by decide) rfl ?_
  obtain ⟨x1, l1, h⟩ := zbi h
  have r1 : ∀ y1, y1 = x1 → G X mX8_thinksNoMore (zPm X 0 0 0 (zRet (zWs A n (zC X A shMo qMo res S)) none)) 0 0 27 [] [] (zWs A n (zC X A shMo qMo y1.2 S)) := by
    intro y1 ey
    rw [← ey] at h
    have e := (Option.some.inj h)
    subst e
    exact g_vret (M := mX8_thinksNoMore) dX8_thinksNoMore_27 rfl (Nat.le_of_ble_eq_true rfl) (Nat.le_of_ble_eq_true rfl) ⟨rfl, rfl⟩
  refine zLp_J (J := fun s1 => G X mX8_thinksNoMore (zPm X 0 0 0 (zRet (zWs A n (zC X A shMo qMo res S)) none)) 0 0 2 [(0, .ref (A qMo)), (1, .int (iI s1.1))] [] (zWs A n (zC X A shMo qMo s1.2 S))) (fun s1 w1 h1 b1 e1 => ?_) _ _ l1
  refine g_iload_n (M := mX8_thinksNoMore) dX8_thinksNoMore_2 1 rfl rfl ?_
  refine h_sipush (M := mX8_thinksNoMore) dX8_thinksNoMore_3 rfl ?_
  obtain ⟨g6, h1⟩ := zgi h1
  refine h_icmp_ge (M := mX8_thinksNoMore) (tgt := 27) dX8_thinksNoMore_6 (by decide) g6 (by decide) (fun c5 => ?_) (fun c5 => ?_)
  · have h1 := zti c5 h1
    refine g_lv (M := mX8_thinksNoMore) [] rfl ?_
    exact r1 _ (e1 _ (Option.some.inj h1).symm)
  · have h1 := zfi (Int.not_le.mpr c5) h1
    refine g_aload_n (M := mX8_thinksNoMore) dX8_thinksNoMore_9 0 rfl rfl ?_
    refine k_get (M := mX8_thinksNoMore) (v := .ref (A (qMo + 2))) dX8_thinksNoMore_10 kF_X8_20.r qMo (by omega) (zC_o) rfl ?_
    refine g_iload_n (M := mX8_thinksNoMore) dX8_thinksNoMore_13 1 rfl rfl ?_
    refine g_aload_n (M := mX8_thinksNoMore) dX8_thinksNoMore_14 0 rfl rfl ?_
    refine k_get (M := mX8_thinksNoMore) (v := .ref (A (qMo + 6))) dX8_thinksNoMore_15 kF_X8_32.r qMo (by omega) (zC_o) rfl ?_
    refine g_iload_n (M := mX8_thinksNoMore) dX8_thinksNoMore_18 1 rfl rfl ?_
    obtain ⟨g7, h1⟩ := zgi h1
    refine k_iald (M := mX8_thinksNoMore) (len := 351) (f := s1.2.2 6) dX8_thinksNoMore_19 (qMo + 6) (by omega) (zC_a (d := (0, 351)) 5 rfl) (Nat.le_of_ble_eq_true rfl) g7.1 g7.2 ?_
    refine c_iast (M := mX8_thinksNoMore) (len := 351) (d := (0, 351)) dX8_thinksNoMore_20 1 rfl rfl (by omega) (Nat.le_of_ble_eq_true rfl) g7.1 g7.2 ?_
    refine h_iinc (M := mX8_thinksNoMore) (j := 1) (lv' := [(0, .ref (A qMo)), (1, .int (iI (s1.1 + 1)))]) dX8_thinksNoMore_21 rfl (Nat.le_of_ble_eq_true rfl) rfl ?_
    refine g_goto (M := mX8_thinksNoMore) (tgt := 2) dX8_thinksNoMore_24 (by decide) ?_
    exact b1 _ (Option.some.inj h1).symm
set_option maxHeartbeats 4000000 in
set_option maxRecDepth 100000 in
theorem wX8_tries {X : zX} (hX : zOK X) {A : Nat → Nat} {n : Nat} {S : Nat → va_E} {qMo : Nat} {VMo : CV} (hMo : isC X A shMo qMo VMo S) (bMo : qMo + 20 < n) {a1 : Int} {a2 : Int} {res : CV × Int} (h : fX8_tries VMo a1 a2 = some res) : Con X yX8_tries mX8_tries 6 0 0 [.ref (A qMo), .int (iI a1), .int (iI a2)] (zWs A n S) (zRet (zWs A n (zC X A shMo qMo res.1 S)) (some (.int (iI res.2)))) := by
  refine con_of (lv := [(0, .ref (A qMo)), (1, .int (iI a1)), (2, .int (iI a2))]) (by decide) rfl (fun h => by cases h) rfl (Nat.le_of_ble_eq_true rfl) rfl ?_
  refine g_ws (M := mX8_tries) (congrArg (zWs A n) hMo.symm) ?_
  unfold fX8_tries at h
  refine g_aload_n (M := mX8_tries) dX8_tries_0 0 rfl rfl ?_
  obtain ⟨t1, u2, h⟩ := zbi h
  refine g_callVr (M := mX8_tries) [] hX dX8_tries_1 vX8_thinks kM_X8_338 (wX8_thinks hX zC_self (by omega)  u2) qMo (zWs_at (by omega) (zC_o)) rfl ⟨(Nat.le_of_ble_eq_true rfl), (Nat.le_of_ble_eq_true rfl)⟩ ⟨(Nat.le_of_ble_eq_true rfl), (Nat.le_of_ble_eq_true rfl)⟩ (Nat.le_of_ble_eq_true rfl) ?_
  refine g_ws (M := mX8_tries) (congrArg (zWs A n) zC_over) ?_
  refine h_iconst (M := mX8_tries) dX8_tries_4 ?_
  refine g_istore_n (M := mX8_tries) (lv' := [(0, .ref (A qMo)), (1, .int (iI a1)), (2, .int (iI a2)), (3, .int (iI 0))]) dX8_tries_5 rfl (by decide) rfl ?_
  obtain ⟨x3, l3, h⟩ := zbi h
  have r3 : ∀ y3, y3 = x3 → G X mX8_tries (zPm X 6 0 0 (zRet (zWs A n (zC X A shMo qMo res.1 S)) (some (.int (iI res.2))))) 0 0 38 [(0, .ref (A qMo))] [] (zWs A n (zC X A shMo qMo y3.2 S)) := by
    intro y3 ey
    rw [← ey] at h
    refine g_aload_n (M := mX8_tries) dX8_tries_38 0 rfl rfl ?_
    refine h_bipush (M := mX8_tries) dX8_tries_39 rfl ?_
    obtain ⟨t13, u14, h⟩ := zbi h
    refine g_callVr (M := mX8_tries) [.int (iI 50)] hX dX8_tries_41 vX8_improves kM_X8_368 (wX8_improves hX zC_self (by omega)  u14) qMo (zWs_at (by omega) (zC_o)) rfl ⟨(Nat.le_of_ble_eq_true rfl), (Nat.le_of_ble_eq_true rfl)⟩ ⟨(Nat.le_of_ble_eq_true rfl), (Nat.le_of_ble_eq_true rfl)⟩ (Nat.le_of_ble_eq_true rfl) ?_
    refine g_ws (M := mX8_tries) (congrArg (zWs A n) zC_over) ?_
    refine g_istore_n (M := mX8_tries) (lv' := [(0, .ref (A qMo)), (3, .int (iI t13.2))]) dX8_tries_44 rfl (by decide) rfl ?_
    refine g_aload_n (M := mX8_tries) dX8_tries_45 0 rfl rfl ?_
    obtain ⟨t15, u16, h⟩ := zbi h
    refine g_callVr (M := mX8_tries) [] hX dX8_tries_46 vX8_agrees kM_X8_356 (wX8_agrees hX zC_self (by omega)  u16) qMo (zWs_at (by omega) (zC_o)) rfl ⟨(Nat.le_of_ble_eq_true rfl), (Nat.le_of_ble_eq_true rfl)⟩ ⟨(Nat.le_of_ble_eq_true rfl), (Nat.le_of_ble_eq_true rfl)⟩ (Nat.le_of_ble_eq_true rfl) ?_
    refine g_ws (M := mX8_tries) (congrArg (zWs A n) zC_over) ?_
    refine g_istore (M := mX8_tries) (lv' := [(0, .ref (A qMo)), (3, .int (iI t13.2)), (4, .int (iI t15.2))]) dX8_tries_49 (by decide) rfl ?_
    refine g_aload_n (M := mX8_tries) dX8_tries_51 0 rfl rfl ?_
    obtain ⟨t17, u18, h⟩ := zbi h
    refine g_callVr (M := mX8_tries) [] hX dX8_tries_52 vX8_thinksNoMore kM_X8_344 (wX8_thinksNoMore hX zC_self (by omega)  u18) qMo (zWs_at (by omega) (zC_o)) rfl ⟨(Nat.le_of_ble_eq_true rfl), (Nat.le_of_ble_eq_true rfl)⟩ ⟨(Nat.le_of_ble_eq_true rfl), (Nat.le_of_ble_eq_true rfl)⟩ (Nat.le_of_ble_eq_true rfl) ?_
    refine g_ws (M := mX8_tries) (congrArg (zWs A n) zC_over) ?_
    refine g_iload (M := mX8_tries) dX8_tries_55 2 rfl ?_
    have e := (Option.some.inj h)
    subst e
    exact g_iret (M := mX8_tries) dX8_tries_57 rfl (Nat.le_of_ble_eq_true rfl) (Nat.le_of_ble_eq_true rfl) ⟨rfl, rfl⟩
  refine zLp_J (J := fun s3 => G X mX8_tries (zPm X 6 0 0 (zRet (zWs A n (zC X A shMo qMo res.1 S)) (some (.int (iI res.2))))) 0 0 6 [(0, .ref (A qMo)), (1, .int (iI a1)), (2, .int (iI a2)), (3, .int (iI s3.1))] [] (zWs A n (zC X A shMo qMo s3.2 S))) (fun s3 w3 h3 b3 e3 => ?_) _ _ l3
  refine g_iload_n (M := mX8_tries) dX8_tries_6 3 rfl rfl ?_
  refine g_aload_n (M := mX8_tries) dX8_tries_7 0 rfl rfl ?_
  refine k_get (M := mX8_tries) (v := .ref (A (qMo + 2))) dX8_tries_8 kF_X8_20.r qMo (by omega) (zC_o) rfl ?_
  refine h_iconst (M := mX8_tries) dX8_tries_11 ?_
  refine k_iald (M := mX8_tries) (len := 351) (f := s3.2.2 2) dX8_tries_12 (qMo + 2) (by omega) (zC_a (d := (0, 351)) 1 rfl) (Nat.le_of_ble_eq_true rfl) (by decide) (by decide) ?_
  obtain ⟨g20, h3⟩ := zgi h3
  refine h_icmp_ge (M := mX8_tries) (tgt := 38) dX8_tries_13 (by decide) g20.1 g20.2 (fun c19 => ?_) (fun c19 => ?_)
  · have h3 := zti c19 h3
    refine g_lv (M := mX8_tries) [0] rfl ?_
    exact r3 _ (e3 _ (Option.some.inj h3).symm)
  · have h3 := zfi (Int.not_le.mpr c19) h3
    refine g_aload_n (M := mX8_tries) dX8_tries_16 0 rfl rfl ?_
    refine g_iload_n (M := mX8_tries) dX8_tries_17 3 rfl rfl ?_
    refine h_iconst (M := mX8_tries) dX8_tries_18 ?_
    refine g_iload_n (M := mX8_tries) dX8_tries_19 3 rfl rfl ?_
    refine g_iload_n (M := mX8_tries) dX8_tries_20 1 rfl rfl ?_
    refine zJn_J (J := fun x23 => G X mX8_tries (zPm X 6 0 0 (zRet (zWs A n (zC X A shMo qMo res.1 S)) (some (.int (iI res.2))))) 0 0 29 [(0, .ref (A qMo)), (1, .int (iI a1)), (2, .int (iI a2)), (3, .int (iI s3.1))] [.int (iI x23), .int (iI 1), .int (iI s3.1), .ref (A qMo)] (zWs A n (zC X A shMo qMo s3.2 S))) h3 (fun x23 h3 => ?_) (fun j23 h3 => ?_)
    · obtain ⟨t24, u25, h3⟩ := zbi h3
      refine g_callVr (M := mX8_tries) [.int (iI s3.1), .int (iI 1), .int (iI x23)] hX dX8_tries_29 vX8_lays kM_X8_179 (wX8_lays hX zC_self (by omega)  u25) qMo (zWs_at (by omega) (zC_o)) rfl ⟨(Nat.le_of_ble_eq_true rfl), (Nat.le_of_ble_eq_true rfl)⟩ ⟨(Nat.le_of_ble_eq_true rfl), (Nat.le_of_ble_eq_true rfl)⟩ (Nat.le_of_ble_eq_true rfl) ?_
      refine g_ws (M := mX8_tries) (congrArg (zWs A n) zC_over) ?_
      refine h_iinc (M := mX8_tries) (j := 3) (lv' := [(0, .ref (A qMo)), (1, .int (iI a1)), (2, .int (iI a2)), (3, .int (iI (s3.1 + 1)))]) dX8_tries_32 rfl (Nat.le_of_ble_eq_true rfl) rfl ?_
      refine g_goto (M := mX8_tries) (tgt := 6) dX8_tries_35 (by decide) ?_
      exact b3 _ (Option.some.inj h3).symm
    · obtain ⟨g27, h3⟩ := zgi h3
      refine h_icmp_ne (M := mX8_tries) (tgt := 28) dX8_tries_21 (by decide) g20.1 g27 (fun c26 => ?_) (fun c26 => ?_)
      · have h3 := zfi c26 h3
        refine h_iconst (M := mX8_tries) dX8_tries_28 ?_
        exact j23 (-1) h3
      · have h3 := zti c26 h3
        refine g_iload_n (M := mX8_tries) dX8_tries_24 2 rfl rfl ?_
        refine g_goto (M := mX8_tries) (tgt := 29) dX8_tries_25 (by decide) ?_
        exact j23 a2 h3
set_option maxHeartbeats 4000000 in
set_option maxRecDepth 100000 in
theorem wX8_bestStart {X : zX} (hX : zOK X) {A : Nat → Nat} {n : Nat} {S : Nat → va_E} {qMo : Nat} {VMo : CV} (hMo : isC X A shMo qMo VMo S) (bMo : qMo + 20 < n) {a1 : Int} {res : CV × Int} (h : fX8_bestStart VMo a1 = some res) : Con X yX8_bestStart mX8_bestStart 7 0 0 [.ref (A qMo), .int (iI a1)] (zWs A n S) (zRet (zWs A n (zC X A shMo qMo res.1 S)) (some (.int (iI res.2)))) := by
  refine con_of (lv := [(0, .ref (A qMo)), (1, .int (iI a1))]) (by decide) rfl (fun h => by cases h) rfl (Nat.le_of_ble_eq_true rfl) rfl ?_
  refine g_ws (M := mX8_bestStart) (congrArg (zWs A n) hMo.symm) ?_
  unfold fX8_bestStart at h
  refine g_aload_n (M := mX8_bestStart) dX8_bestStart_0 0 rfl rfl ?_
  refine g_aload_n (M := mX8_bestStart) dX8_bestStart_1 0 rfl rfl ?_
  refine g_iload_n (M := mX8_bestStart) dX8_bestStart_2 1 rfl rfl ?_
  obtain ⟨t1, u2, h⟩ := zbi h
  refine g_callVr (M := mX8_bestStart) [.int (iI a1)] hX dX8_bestStart_3 vX8_isRow kM_X8_256 (wX8_isRow hX zC_self (by omega)  u2) qMo (zWs_at (by omega) (zC_o)) rfl ⟨(Nat.le_of_ble_eq_true rfl), (Nat.le_of_ble_eq_true rfl)⟩ ⟨(Nat.le_of_ble_eq_true rfl), (Nat.le_of_ble_eq_true rfl)⟩ (Nat.le_of_ble_eq_true rfl) ?_
  obtain ⟨t3, u4, h⟩ := zbi h
  refine g_callVr (M := mX8_bestStart) [.int (iI (b2 t1))] hX dX8_bestStart_6 vX8_goes kM_X8_91 (wX8_goes hX zC_self (by omega)  u4) qMo (zWs_at (by omega) (zC_o)) rfl ⟨(Nat.le_of_ble_eq_true rfl), (Nat.le_of_ble_eq_true rfl)⟩ ⟨(Nat.le_of_ble_eq_true rfl), (Nat.le_of_ble_eq_true rfl)⟩ (Nat.le_of_ble_eq_true rfl) ?_
  refine g_ws (M := mX8_bestStart) (congrArg (zWs A n) zC_over) ?_
  refine h_bne (M := mX8_bestStart) (tgt := 14) dX8_bestStart_9 (by decide) (fun c5 => ?_) (fun c5 => ?_)
  · have h := zti c5 h
    refine h_iconst (M := mX8_bestStart) dX8_bestStart_14 ?_
    refine g_istore_n (M := mX8_bestStart) (lv' := [(0, .ref (A qMo)), (1, .int (iI a1)), (2, .int (iI (-1)))]) dX8_bestStart_15 rfl (by decide) rfl ?_
    refine h_iconst (M := mX8_bestStart) dX8_bestStart_16 ?_
    refine g_istore_n (M := mX8_bestStart) (lv' := [(0, .ref (A qMo)), (1, .int (iI a1)), (2, .int (iI (-1))), (3, .int (iI 0))]) dX8_bestStart_17 rfl (by decide) rfl ?_
    refine h_iconst (M := mX8_bestStart) dX8_bestStart_18 ?_
    refine g_istore (M := mX8_bestStart) (lv' := [(0, .ref (A qMo)), (1, .int (iI a1)), (2, .int (iI (-1))), (3, .int (iI 0)), (4, .int (iI 0))]) dX8_bestStart_19 (by decide) rfl ?_
    obtain ⟨x6, l6, h⟩ := zbi h
    have r6 : ∀ y6, y6 = x6 → G X mX8_bestStart (zPm X 7 0 0 (zRet (zWs A n (zC X A shMo qMo res.1 S)) (some (.int (iI res.2))))) 0 0 80 [(2, .int (iI y6.1))] [] (zWs A n (zC X A shMo qMo y6.2.2.2 S)) := by
      intro y6 ey
      rw [← ey] at h
      refine g_iload_n (M := mX8_bestStart) dX8_bestStart_80 0 rfl rfl ?_
      have e := (Option.some.inj h)
      subst e
      exact g_iret (M := mX8_bestStart) dX8_bestStart_81 rfl (Nat.le_of_ble_eq_true rfl) (Nat.le_of_ble_eq_true rfl) ⟨rfl, rfl⟩
    refine zLp_J (J := fun s6 => G X mX8_bestStart (zPm X 7 0 0 (zRet (zWs A n (zC X A shMo qMo res.1 S)) (some (.int (iI res.2))))) 0 0 21 [(0, .ref (A qMo)), (1, .int (iI a1)), (2, .int (iI s6.1)), (3, .int (iI s6.2.1)), (4, .int (iI s6.2.2.1))] [] (zWs A n (zC X A shMo qMo s6.2.2.2 S))) (fun s6 w6 h6 b6 e6 => ?_) _ _ l6
    refine g_iload (M := mX8_bestStart) dX8_bestStart_21 4 rfl ?_
    refine g_aload_n (M := mX8_bestStart) dX8_bestStart_23 0 rfl rfl ?_
    refine g_iload_n (M := mX8_bestStart) dX8_bestStart_24 1 rfl rfl ?_
    refine h_iconst (M := mX8_bestStart) dX8_bestStart_25 ?_
    obtain ⟨t20, u21, h6⟩ := zbi h6
    refine g_callVr (M := mX8_bestStart) [.int (iI a1), .int (iI 0)] hX dX8_bestStart_26 vX8_of kM_X8_166 (wX8_of hX zC_self (by omega)  u21) qMo (zWs_at (by omega) (zC_o)) rfl ⟨(Nat.le_of_ble_eq_true rfl), (Nat.le_of_ble_eq_true rfl)⟩ ⟨(Nat.le_of_ble_eq_true rfl), (Nat.le_of_ble_eq_true rfl)⟩ (Nat.le_of_ble_eq_true rfl) ?_
    obtain ⟨g23, h6⟩ := zgi h6
    refine h_icmp_ge (M := mX8_bestStart) (tgt := 80) dX8_bestStart_29 (by decide) g23.1 g23.2 (fun c22 => ?_) (fun c22 => ?_)
    · have h6 := zti c22 h6
      refine g_lv (M := mX8_bestStart) [2] rfl ?_
      exact r6 _ (e6 _ (Option.some.inj h6).symm)
    · have h6 := zfi (Int.not_le.mpr c22) h6
      refine g_aload_n (M := mX8_bestStart) dX8_bestStart_32 0 rfl rfl ?_
      refine g_iload_n (M := mX8_bestStart) dX8_bestStart_33 1 rfl rfl ?_
      refine g_iload (M := mX8_bestStart) dX8_bestStart_34 4 rfl ?_
      obtain ⟨t24, u25, h6⟩ := zbi h6
      refine g_callVr (M := mX8_bestStart) [.int (iI a1), .int (iI s6.2.2.1)] hX dX8_bestStart_36 vX8_isPlace kM_X8_229 (wX8_isPlace hX zC_self (by omega)  u25) qMo (zWs_at (by omega) (zC_o)) rfl ⟨(Nat.le_of_ble_eq_true rfl), (Nat.le_of_ble_eq_true rfl)⟩ ⟨(Nat.le_of_ble_eq_true rfl), (Nat.le_of_ble_eq_true rfl)⟩ (Nat.le_of_ble_eq_true rfl) ?_
      refine h_bne (M := mX8_bestStart) (tgt := 45) dX8_bestStart_39 (by decide) (fun c26 => ?_) (fun c26 => ?_)
      · have h6 := zti c26 h6
        refine g_aload_n (M := mX8_bestStart) dX8_bestStart_45 0 rfl rfl ?_
        refine g_iload_n (M := mX8_bestStart) dX8_bestStart_46 1 rfl rfl ?_
        refine g_iload (M := mX8_bestStart) dX8_bestStart_47 4 rfl ?_
        obtain ⟨t27, u28, h6⟩ := zbi h6
        refine g_callVr (M := mX8_bestStart) [.int (iI a1), .int (iI s6.2.2.1)] hX dX8_bestStart_49 vX8_tries kM_X8_371 (wX8_tries hX zC_self (by omega)  u28) qMo (zWs_at (by omega) (zC_o)) rfl ⟨(Nat.le_of_ble_eq_true rfl), (Nat.le_of_ble_eq_true rfl)⟩ ⟨(Nat.le_of_ble_eq_true rfl), (Nat.le_of_ble_eq_true rfl)⟩ (Nat.le_of_ble_eq_true rfl) ?_
        refine g_ws (M := mX8_bestStart) (congrArg (zWs A n) zC_over) ?_
        refine g_istore (M := mX8_bestStart) (lv' := [(0, .ref (A qMo)), (1, .int (iI a1)), (2, .int (iI s6.1)), (3, .int (iI s6.2.1)), (4, .int (iI s6.2.2.1)), (5, .int (iI t27.2))]) dX8_bestStart_52 (by decide) rfl ?_
        refine g_iload_n (M := mX8_bestStart) dX8_bestStart_54 2 rfl rfl ?_
        refine h_iconst (M := mX8_bestStart) dX8_bestStart_55 ?_
        obtain ⟨g30, h6⟩ := zgi h6
        refine h_icmp_eq (M := mX8_bestStart) (tgt := 68) dX8_bestStart_56 (by decide) g30 (by decide) (fun c29 => ?_) (fun c29 => ?_)
        · have h6 := zti c29 h6
          refine g_iload (M := mX8_bestStart) dX8_bestStart_68 4 rfl ?_
          refine g_istore_n (M := mX8_bestStart) (lv' := [(0, .ref (A qMo)), (1, .int (iI a1)), (2, .int (iI s6.2.2.1)), (3, .int (iI s6.2.1)), (4, .int (iI s6.2.2.1)), (5, .int (iI t27.2))]) dX8_bestStart_70 rfl (by decide) rfl ?_
          refine g_iload (M := mX8_bestStart) dX8_bestStart_71 5 rfl ?_
          refine g_istore_n (M := mX8_bestStart) (lv' := [(0, .ref (A qMo)), (1, .int (iI a1)), (2, .int (iI s6.2.2.1)), (3, .int (iI t27.2)), (4, .int (iI s6.2.2.1)), (5, .int (iI t27.2))]) dX8_bestStart_73 rfl (by decide) rfl ?_
          refine h_iinc (M := mX8_bestStart) (j := 4) (lv' := [(0, .ref (A qMo)), (1, .int (iI a1)), (2, .int (iI s6.2.2.1)), (3, .int (iI t27.2)), (4, .int (iI (s6.2.2.1 + 1))), (5, .int (iI t27.2))]) dX8_bestStart_74 rfl (Nat.le_of_ble_eq_true rfl) rfl ?_
          refine g_goto (M := mX8_bestStart) (tgt := 21) dX8_bestStart_77 (by decide) ?_
          refine g_lv (M := mX8_bestStart) [0, 1, 2, 3, 4] rfl ?_
          exact b6 _ (Option.some.inj h6).symm
        · have h6 := zfi c29 h6
          refine g_iload (M := mX8_bestStart) dX8_bestStart_59 5 rfl ?_
          refine g_iload_n (M := mX8_bestStart) dX8_bestStart_61 3 rfl rfl ?_
          obtain ⟨g32, h6⟩ := zgi h6
          refine h_icmp_gt (M := mX8_bestStart) (tgt := 68) dX8_bestStart_62 (by decide) g32.1 g32.2 (fun c31 => ?_) (fun c31 => ?_)
          · have h6 := zti c31 h6
            refine g_iload (M := mX8_bestStart) dX8_bestStart_68 4 rfl ?_
            refine g_istore_n (M := mX8_bestStart) (lv' := [(0, .ref (A qMo)), (1, .int (iI a1)), (2, .int (iI s6.2.2.1)), (3, .int (iI s6.2.1)), (4, .int (iI s6.2.2.1)), (5, .int (iI t27.2))]) dX8_bestStart_70 rfl (by decide) rfl ?_
            refine g_iload (M := mX8_bestStart) dX8_bestStart_71 5 rfl ?_
            refine g_istore_n (M := mX8_bestStart) (lv' := [(0, .ref (A qMo)), (1, .int (iI a1)), (2, .int (iI s6.2.2.1)), (3, .int (iI t27.2)), (4, .int (iI s6.2.2.1)), (5, .int (iI t27.2))]) dX8_bestStart_73 rfl (by decide) rfl ?_
            refine h_iinc (M := mX8_bestStart) (j := 4) (lv' := [(0, .ref (A qMo)), (1, .int (iI a1)), (2, .int (iI s6.2.2.1)), (3, .int (iI t27.2)), (4, .int (iI (s6.2.2.1 + 1))), (5, .int (iI t27.2))]) dX8_bestStart_74 rfl (Nat.le_of_ble_eq_true rfl) rfl ?_
            refine g_goto (M := mX8_bestStart) (tgt := 21) dX8_bestStart_77 (by decide) ?_
            refine g_lv (M := mX8_bestStart) [0, 1, 2, 3, 4] rfl ?_
            exact b6 _ (Option.some.inj h6).symm
          · have h6 := zfi (Int.not_lt.mpr c31) h6
            refine g_goto (M := mX8_bestStart) (tgt := 74) dX8_bestStart_65 (by decide) ?_
            refine h_iinc (M := mX8_bestStart) (j := 4) (lv' := [(0, .ref (A qMo)), (1, .int (iI a1)), (2, .int (iI s6.1)), (3, .int (iI s6.2.1)), (4, .int (iI (s6.2.2.1 + 1))), (5, .int (iI t27.2))]) dX8_bestStart_74 rfl (Nat.le_of_ble_eq_true rfl) rfl ?_
            refine g_goto (M := mX8_bestStart) (tgt := 21) dX8_bestStart_77 (by decide) ?_
            refine g_lv (M := mX8_bestStart) [0, 1, 2, 3, 4] rfl ?_
            exact b6 _ (Option.some.inj h6).symm
      · have h6 := zfi (zbf c26) h6
        refine g_goto (M := mX8_bestStart) (tgt := 74) dX8_bestStart_42 (by decide) ?_
        refine h_iinc (M := mX8_bestStart) (j := 4) (lv' := [(0, .ref (A qMo)), (1, .int (iI a1)), (2, .int (iI s6.1)), (3, .int (iI s6.2.1)), (4, .int (iI (s6.2.2.1 + 1)))]) dX8_bestStart_74 rfl (Nat.le_of_ble_eq_true rfl) rfl ?_
        refine g_goto (M := mX8_bestStart) (tgt := 21) dX8_bestStart_77 (by decide) ?_
        exact b6 _ (Option.some.inj h6).symm
  · have h := zfi (zbf c5) h
    refine h_iconst (M := mX8_bestStart) dX8_bestStart_12 ?_
    have e := (Option.some.inj h)
    subst e
    exact g_iret (M := mX8_bestStart) dX8_bestStart_13 rfl (Nat.le_of_ble_eq_true rfl) (Nat.le_of_ble_eq_true rfl) ⟨rfl, rfl⟩
set_option maxHeartbeats 4000000 in
set_option maxRecDepth 100000 in
theorem wX8_goesBoth {X : zX} (hX : zOK X) {A : Nat → Nat} {n : Nat} {S : Nat → va_E} {qMo : Nat} {VMo : CV} (hMo : isC X A shMo qMo VMo S) (bMo : qMo + 20 < n) {a1 : Int} {a2 : Int} {res : CV × Bool} (h : fX8_goesBoth VMo a1 a2 = some res) : Con X yX8_goesBoth mX8_goesBoth 0 0 0 [.ref (A qMo), .int (iI a1), .int (iI a2)] (zWs A n S) (zRet (zWs A n (zC X A shMo qMo res.1 S)) (some (.int (iI (b2 res.2))))) := by
  refine con_of (lv := [(0, .ref (A qMo)), (1, .int (iI a1)), (2, .int (iI a2))]) (by decide) rfl (fun h => by cases h) rfl (Nat.le_of_ble_eq_true rfl) rfl ?_
  refine g_ws (M := mX8_goesBoth) (congrArg (zWs A n) hMo.symm) ?_
  unfold fX8_goesBoth at h
  refine g_aload_n (M := mX8_goesBoth) dX8_goesBoth_0 0 rfl rfl ?_
  refine g_iload_n (M := mX8_goesBoth) dX8_goesBoth_1 1 rfl rfl ?_
  refine zJn_J (J := fun x5 => G X mX8_goesBoth (zPm X 0 0 0 (zRet (zWs A n (zC X A shMo qMo res.1 S)) (some (.int (iI (b2 res.2)))))) 0 0 18 [(0, .ref (A qMo))] [.int (iI x5), .ref (A qMo)] (zWs A n (zC X A shMo qMo VMo S))) h (fun x5 h => ?_) (fun j5 h => ?_)
  · refine c_put (M := mX8_goesBoth) (k := 0) dX8_goesBoth_18 kF_X8_81 (by omega) rfl rfl (by decide) rfl rfl ?_
    refine g_aload_n (M := mX8_goesBoth) dX8_goesBoth_21 0 rfl rfl ?_
    refine k_get (M := mX8_goesBoth) (v := .int (iI x5)) dX8_goesBoth_22 kF_X8_81.r qMo (by omega) (zC_o) rfl ?_
    obtain ⟨g7, h⟩ := zgi h
    refine h_if_ne (M := mX8_goesBoth) (tgt := 32) dX8_goesBoth_25 (by decide) g7 (fun c6 => ?_) (fun c6 => ?_)
    · have h := zfi c6 h
      refine h_iconst (M := mX8_goesBoth) dX8_goesBoth_32 ?_
      have e := (Option.some.inj h)
      subst e
      exact g_zret (M := mX8_goesBoth) .boolean dX8_goesBoth_33 rfl rfl (Nat.le_of_ble_eq_true rfl) (Nat.le_of_ble_eq_true rfl) ⟨rfl, rfl⟩
    · have h := zti c6 h
      refine h_iconst (M := mX8_goesBoth) dX8_goesBoth_28 ?_
      refine g_goto (M := mX8_goesBoth) (tgt := 33) dX8_goesBoth_29 (by decide) ?_
      have e := (Option.some.inj h)
      subst e
      exact g_zret (M := mX8_goesBoth) .boolean dX8_goesBoth_33 rfl rfl (Nat.le_of_ble_eq_true rfl) (Nat.le_of_ble_eq_true rfl) ⟨rfl, rfl⟩
  · obtain ⟨g9, h⟩ := zgi h
    refine h_if_ne (M := mX8_goesBoth) (tgt := 9) dX8_goesBoth_2 (by decide) g9 (fun c8 => ?_) (fun c8 => ?_)
    · have h := zfi c8 h
      refine g_iload_n (M := mX8_goesBoth) dX8_goesBoth_9 2 rfl rfl ?_
      obtain ⟨g11, h⟩ := zgi h
      refine h_if_ne (M := mX8_goesBoth) (tgt := 17) dX8_goesBoth_10 (by decide) g11 (fun c10 => ?_) (fun c10 => ?_)
      · have h := zfi c10 h
        refine h_iconst (M := mX8_goesBoth) dX8_goesBoth_17 ?_
        refine g_lv (M := mX8_goesBoth) [0] rfl ?_
        exact j5 0 h
      · have h := zti c10 h
        refine h_iconst (M := mX8_goesBoth) dX8_goesBoth_13 ?_
        refine g_goto (M := mX8_goesBoth) (tgt := 18) dX8_goesBoth_14 (by decide) ?_
        refine g_lv (M := mX8_goesBoth) [0] rfl ?_
        exact j5 2 h
    · have h := zti c8 h
      refine h_iconst (M := mX8_goesBoth) dX8_goesBoth_5 ?_
      refine g_goto (M := mX8_goesBoth) (tgt := 18) dX8_goesBoth_6 (by decide) ?_
      refine g_lv (M := mX8_goesBoth) [0] rfl ?_
      exact j5 1 h
set_option maxHeartbeats 4000000 in
set_option maxRecDepth 100000 in
theorem wX8_laysAside {X : zX} (hX : zOK X) {A : Nat → Nat} {n : Nat} {S : Nat → va_E} {qMo : Nat} {VMo : CV} (hMo : isC X A shMo qMo VMo S) (bMo : qMo + 20 < n) {res : CV} (h : fX8_laysAside VMo = some res) : Con X yX8_laysAside mX8_laysAside 0 0 0 [.ref (A qMo)] (zWs A n S) (zRet (zWs A n (zC X A shMo qMo res S)) none) := by
  refine con_of (lv := [(0, .ref (A qMo))]) (by decide) rfl (fun h => by cases h) rfl (Nat.le_of_ble_eq_true rfl) rfl ?_
  refine g_ws (M := mX8_laysAside) (congrArg (zWs A n) hMo.symm) ?_
  unfold fX8_laysAside at h
  refine h_iconst (M := mX8_laysAside) dX8_laysAside_0 ?_
  refine g_istore_n (M := mX8_laysAside) (lv' := [(0, .ref (A qMo)), (1, .int (iI 0))]) dX8_laysAside_1 rfl (by decide) rfl ?_
  obtain ⟨x1, l1, h⟩ := zbi h
  have r1 : ∀ y1, y1 = x1 → G X mX8_laysAside (zPm X 0 0 0 (zRet (zWs A n (zC X A shMo qMo res S)) none)) 0 0 27 [] [] (zWs A n (zC X A shMo qMo y1.2 S)) := by
    intro y1 ey
    rw [← ey] at h
    have e := (Option.some.inj h)
    subst e
    exact g_vret (M := mX8_laysAside) dX8_laysAside_27 rfl (Nat.le_of_ble_eq_true rfl) (Nat.le_of_ble_eq_true rfl) ⟨rfl, rfl⟩
  refine zLp_J (J := fun s1 => G X mX8_laysAside (zPm X 0 0 0 (zRet (zWs A n (zC X A shMo qMo res S)) none)) 0 0 2 [(0, .ref (A qMo)), (1, .int (iI s1.1))] [] (zWs A n (zC X A shMo qMo s1.2 S))) (fun s1 w1 h1 b1 e1 => ?_) _ _ l1
  refine g_iload_n (M := mX8_laysAside) dX8_laysAside_2 1 rfl rfl ?_
  refine h_sipush (M := mX8_laysAside) dX8_laysAside_3 rfl ?_
  obtain ⟨g6, h1⟩ := zgi h1
  refine h_icmp_ge (M := mX8_laysAside) (tgt := 27) dX8_laysAside_6 (by decide) g6 (by decide) (fun c5 => ?_) (fun c5 => ?_)
  · have h1 := zti c5 h1
    refine g_lv (M := mX8_laysAside) [] rfl ?_
    exact r1 _ (e1 _ (Option.some.inj h1).symm)
  · have h1 := zfi (Int.not_le.mpr c5) h1
    refine g_aload_n (M := mX8_laysAside) dX8_laysAside_9 0 rfl rfl ?_
    refine k_get (M := mX8_laysAside) (v := .ref (A (qMo + 5))) dX8_laysAside_10 kF_X8_29.r qMo (by omega) (zC_o) rfl ?_
    refine g_iload_n (M := mX8_laysAside) dX8_laysAside_13 1 rfl rfl ?_
    refine g_aload_n (M := mX8_laysAside) dX8_laysAside_14 0 rfl rfl ?_
    refine k_get (M := mX8_laysAside) (v := .ref (A (qMo + 2))) dX8_laysAside_15 kF_X8_20.r qMo (by omega) (zC_o) rfl ?_
    refine g_iload_n (M := mX8_laysAside) dX8_laysAside_18 1 rfl rfl ?_
    obtain ⟨g7, h1⟩ := zgi h1
    refine k_iald (M := mX8_laysAside) (len := 351) (f := s1.2.2 2) dX8_laysAside_19 (qMo + 2) (by omega) (zC_a (d := (0, 351)) 1 rfl) (Nat.le_of_ble_eq_true rfl) g7.1 g7.2 ?_
    refine c_iast (M := mX8_laysAside) (len := 351) (d := (0, 351)) dX8_laysAside_20 4 rfl rfl (by omega) (Nat.le_of_ble_eq_true rfl) g7.1 g7.2 ?_
    refine h_iinc (M := mX8_laysAside) (j := 1) (lv' := [(0, .ref (A qMo)), (1, .int (iI (s1.1 + 1)))]) dX8_laysAside_21 rfl (Nat.le_of_ble_eq_true rfl) rfl ?_
    refine g_goto (M := mX8_laysAside) (tgt := 2) dX8_laysAside_24 (by decide) ?_
    exact b1 _ (Option.some.inj h1).symm
set_option maxHeartbeats 4000000 in
set_option maxRecDepth 100000 in
theorem wX8_keeps {X : zX} (hX : zOK X) {A : Nat → Nat} {n : Nat} {S : Nat → va_E} {qMo : Nat} {VMo : CV} (hMo : isC X A shMo qMo VMo S) (bMo : qMo + 20 < n) {res : CV} (h : fX8_keeps VMo = some res) : Con X yX8_keeps mX8_keeps 0 0 0 [.ref (A qMo)] (zWs A n S) (zRet (zWs A n (zC X A shMo qMo res S)) none) := by
  refine con_of (lv := [(0, .ref (A qMo))]) (by decide) rfl (fun h => by cases h) rfl (Nat.le_of_ble_eq_true rfl) rfl ?_
  refine g_ws (M := mX8_keeps) (congrArg (zWs A n) hMo.symm) ?_
  unfold fX8_keeps at h
  refine g_aload_n (M := mX8_keeps) dX8_keeps_0 0 rfl rfl ?_
  refine k_get (M := mX8_keeps) (v := .int (iI (VMo.1 22))) dX8_keeps_1 kF_X8_155.r qMo (by omega) (zC_o) rfl ?_
  refine h_bipush (M := mX8_keeps) dX8_keeps_4 rfl ?_
  refine zJn_J (J := fun x12 => G X mX8_keeps (zPm X 0 0 0 (zRet (zWs A n (zC X A shMo qMo res S)) none)) 0 0 55 [(0, .ref (A qMo))] [] (zWs A n (zC X A shMo qMo x12 S))) h (fun x12 h => ?_) (fun j12 h => ?_)
  · refine h_iconst (M := mX8_keeps) dX8_keeps_55 ?_
    refine g_istore_n (M := mX8_keeps) (lv' := [(0, .ref (A qMo)), (1, .int (iI 0))]) dX8_keeps_56 rfl (by decide) rfl ?_
    obtain ⟨x13, l13, h⟩ := zbi h
    have r13 : ∀ y13, y13 = x13 → G X mX8_keeps (zPm X 0 0 0 (zRet (zWs A n (zC X A shMo qMo res S)) none)) 0 0 91 [(0, .ref (A qMo))] [] (zWs A n (zC X A shMo qMo y13.2 S)) := by
      intro y13 ey
      rw [← ey] at h
      refine g_aload_n (M := mX8_keeps) dX8_keeps_91 0 rfl rfl ?_
      refine g_dup (M := mX8_keeps) dX8_keeps_92 rfl ?_
      refine k_get (M := mX8_keeps) (v := .int (iI (y13.2.1 22))) dX8_keeps_93 kF_X8_155.r qMo (by omega) (zC_o) rfl ?_
      refine h_iconst (M := mX8_keeps) dX8_keeps_96 ?_
      refine h_iadd (M := mX8_keeps) dX8_keeps_97 ?_
      refine c_put (M := mX8_keeps) (k := 22) dX8_keeps_98 kF_X8_155 (by omega) rfl rfl (by decide) rfl rfl ?_
      have e := (Option.some.inj h)
      subst e
      exact g_vret (M := mX8_keeps) dX8_keeps_101 rfl (Nat.le_of_ble_eq_true rfl) (Nat.le_of_ble_eq_true rfl) ⟨rfl, rfl⟩
    refine zLp_J (J := fun s13 => G X mX8_keeps (zPm X 0 0 0 (zRet (zWs A n (zC X A shMo qMo res S)) none)) 0 0 57 [(0, .ref (A qMo)), (1, .int (iI s13.1))] [] (zWs A n (zC X A shMo qMo s13.2 S))) (fun s13 w13 h13 b13 e13 => ?_) _ _ l13
    refine g_iload_n (M := mX8_keeps) dX8_keeps_57 1 rfl rfl ?_
    refine h_sipush (M := mX8_keeps) dX8_keeps_58 rfl ?_
    obtain ⟨g19, h13⟩ := zgi h13
    refine h_icmp_ge (M := mX8_keeps) (tgt := 91) dX8_keeps_61 (by decide) g19 (by decide) (fun c18 => ?_) (fun c18 => ?_)
    · have h13 := zti c18 h13
      refine g_lv (M := mX8_keeps) [0] rfl ?_
      exact r13 _ (e13 _ (Option.some.inj h13).symm)
    · have h13 := zfi (Int.not_le.mpr c18) h13
      refine g_aload_n (M := mX8_keeps) dX8_keeps_64 0 rfl rfl ?_
      refine k_get (M := mX8_keeps) (v := .ref (A (qMo + 4))) dX8_keeps_65 kF_X8_26.r qMo (by omega) (zC_o) rfl ?_
      refine h_sipush (M := mX8_keeps) dX8_keeps_68 rfl ?_
      refine g_aload_n (M := mX8_keeps) dX8_keeps_71 0 rfl rfl ?_
      refine k_get (M := mX8_keeps) (v := .int (iI (s13.2.1 22))) dX8_keeps_72 kF_X8_155.r qMo (by omega) (zC_o) rfl ?_
      refine h_imul (M := mX8_keeps) dX8_keeps_75 ?_
      refine g_iload_n (M := mX8_keeps) dX8_keeps_76 1 rfl rfl ?_
      refine h_iadd (M := mX8_keeps) dX8_keeps_77 ?_
      refine g_aload_n (M := mX8_keeps) dX8_keeps_78 0 rfl rfl ?_
      refine k_get (M := mX8_keeps) (v := .ref (A (qMo + 5))) dX8_keeps_79 kF_X8_29.r qMo (by omega) (zC_o) rfl ?_
      refine g_iload_n (M := mX8_keeps) dX8_keeps_82 1 rfl rfl ?_
      obtain ⟨g20, h13⟩ := zgi h13
      refine k_iald (M := mX8_keeps) (len := 351) (f := s13.2.2 5) dX8_keeps_83 (qMo + 5) (by omega) (zC_a (d := (0, 351)) 4 rfl) (Nat.le_of_ble_eq_true rfl) g20.1 g20.2 ?_
      obtain ⟨g21, h13⟩ := zgi h13
      refine c_iast (M := mX8_keeps) (len := 2106) (d := (0, 2106)) dX8_keeps_84 3 rfl rfl (by omega) (Nat.le_of_ble_eq_true rfl) g21.1 g21.2 ?_
      refine h_iinc (M := mX8_keeps) (j := 1) (lv' := [(0, .ref (A qMo)), (1, .int (iI (s13.1 + 1)))]) dX8_keeps_85 rfl (Nat.le_of_ble_eq_true rfl) rfl ?_
      refine g_goto (M := mX8_keeps) (tgt := 57) dX8_keeps_88 (by decide) ?_
      exact b13 _ (Option.some.inj h13).symm
  · obtain ⟨g23, h⟩ := zgi h
    refine h_icmp_ne (M := mX8_keeps) (tgt := 55) dX8_keeps_6 (by decide) g23 (by decide) (fun c22 => ?_) (fun c22 => ?_)
    · have h := zfi c22 h
      exact j12 VMo h
    · have h := zti c22 h
      refine g_aload_n (M := mX8_keeps) dX8_keeps_9 0 rfl rfl ?_
      refine g_dup (M := mX8_keeps) dX8_keeps_10 rfl ?_
      refine k_get (M := mX8_keeps) (v := .int (iI (VMo.1 22))) dX8_keeps_11 kF_X8_155.r qMo (by omega) (zC_o) rfl ?_
      refine h_iconst (M := mX8_keeps) dX8_keeps_14 ?_
      refine h_isub (M := mX8_keeps) dX8_keeps_15 ?_
      refine c_put (M := mX8_keeps) (k := 22) dX8_keeps_16 kF_X8_155 (by omega) rfl rfl (by decide) rfl rfl ?_
      refine h_iconst (M := mX8_keeps) dX8_keeps_19 ?_
      refine g_istore_n (M := mX8_keeps) (lv' := [(0, .ref (A qMo)), (1, .int (iI 0))]) dX8_keeps_20 rfl (by decide) rfl ?_
      obtain ⟨x24, l24, h⟩ := zbi h
      have r24 : ∀ y24, y24 = x24 → G X mX8_keeps (zPm X 0 0 0 (zRet (zWs A n (zC X A shMo qMo res S)) none)) 0 0 55 [(0, .ref (A qMo))] [] (zWs A n (zC X A shMo qMo y24.2 S)) := by
        intro y24 ey
        rw [← ey] at h
        exact j12 y24.2 h
      refine zLp_J (J := fun s24 => G X mX8_keeps (zPm X 0 0 0 (zRet (zWs A n (zC X A shMo qMo res S)) none)) 0 0 21 [(0, .ref (A qMo)), (1, .int (iI s24.1))] [] (zWs A n (zC X A shMo qMo s24.2 S))) (fun s24 w24 h24 b24 e24 => ?_) _ _ l24
      refine g_iload_n (M := mX8_keeps) dX8_keeps_21 1 rfl rfl ?_
      refine h_sipush (M := mX8_keeps) dX8_keeps_22 rfl ?_
      refine g_aload_n (M := mX8_keeps) dX8_keeps_25 0 rfl rfl ?_
      refine k_get (M := mX8_keeps) (v := .int (iI (s24.2.1 22))) dX8_keeps_26 kF_X8_155.r qMo (by omega) (zC_o) rfl ?_
      refine h_imul (M := mX8_keeps) dX8_keeps_29 ?_
      obtain ⟨g30, h24⟩ := zgi h24
      refine h_icmp_ge (M := mX8_keeps) (tgt := 55) dX8_keeps_30 (by decide) g30.1 g30.2 (fun c29 => ?_) (fun c29 => ?_)
      · have h24 := zti c29 h24
        refine g_lv (M := mX8_keeps) [0] rfl ?_
        exact r24 _ (e24 _ (Option.some.inj h24).symm)
      · have h24 := zfi (Int.not_le.mpr c29) h24
        refine g_aload_n (M := mX8_keeps) dX8_keeps_33 0 rfl rfl ?_
        refine k_get (M := mX8_keeps) (v := .ref (A (qMo + 4))) dX8_keeps_34 kF_X8_26.r qMo (by omega) (zC_o) rfl ?_
        refine g_iload_n (M := mX8_keeps) dX8_keeps_37 1 rfl rfl ?_
        refine g_aload_n (M := mX8_keeps) dX8_keeps_38 0 rfl rfl ?_
        refine k_get (M := mX8_keeps) (v := .ref (A (qMo + 4))) dX8_keeps_39 kF_X8_26.r qMo (by omega) (zC_o) rfl ?_
        refine g_iload_n (M := mX8_keeps) dX8_keeps_42 1 rfl rfl ?_
        refine h_sipush (M := mX8_keeps) dX8_keeps_43 rfl ?_
        refine h_iadd (M := mX8_keeps) dX8_keeps_46 ?_
        obtain ⟨g31, h24⟩ := zgi h24
        refine k_iald (M := mX8_keeps) (len := 2106) (f := s24.2.2 4) dX8_keeps_47 (qMo + 4) (by omega) (zC_a (d := (0, 2106)) 3 rfl) (Nat.le_of_ble_eq_true rfl) g31.1 g31.2 ?_
        obtain ⟨g32, h24⟩ := zgi h24
        refine c_iast (M := mX8_keeps) (len := 2106) (d := (0, 2106)) dX8_keeps_48 3 rfl rfl (by omega) (Nat.le_of_ble_eq_true rfl) g32.1 g32.2 ?_
        refine h_iinc (M := mX8_keeps) (j := 1) (lv' := [(0, .ref (A qMo)), (1, .int (iI (s24.1 + 1)))]) dX8_keeps_49 rfl (Nat.le_of_ble_eq_true rfl) rfl ?_
        refine g_goto (M := mX8_keeps) (tgt := 21) dX8_keeps_52 (by decide) ?_
        exact b24 _ (Option.some.inj h24).symm
set_option maxHeartbeats 4000000 in
set_option maxRecDepth 100000 in
theorem wX8_kept {X : zX} (hX : zOK X) {A : Nat → Nat} {n : Nat} {S : Nat → va_E} {qMo : Nat} {VMo : CV} (hMo : isC X A shMo qMo VMo S) (bMo : qMo + 20 < n) {a1 : Int} {res : CV × Int} (h : fX8_kept VMo a1 = some res) : Con X yX8_kept mX8_kept 1 0 0 [.ref (A qMo), .int (iI a1)] (zWs A n S) (zRet (zWs A n (zC X A shMo qMo res.1 S)) (some (.int (iI res.2)))) := by
  refine con_of (lv := [(0, .ref (A qMo)), (1, .int (iI a1))]) (by decide) rfl (fun h => by cases h) rfl (Nat.le_of_ble_eq_true rfl) rfl ?_
  refine g_ws (M := mX8_kept) (congrArg (zWs A n) hMo.symm) ?_
  unfold fX8_kept at h
  refine g_aload_n (M := mX8_kept) dX8_kept_0 0 rfl rfl ?_
  obtain ⟨t1, u2, h⟩ := zbi h
  refine g_callVr (M := mX8_kept) [] hX dX8_kept_1 vX8_keeps kM_X8_376 (wX8_keeps hX zC_self (by omega)  u2) qMo (zWs_at (by omega) (zC_o)) rfl ⟨(Nat.le_of_ble_eq_true rfl), (Nat.le_of_ble_eq_true rfl)⟩ ⟨(Nat.le_of_ble_eq_true rfl), (Nat.le_of_ble_eq_true rfl)⟩ (Nat.le_of_ble_eq_true rfl) ?_
  refine g_ws (M := mX8_kept) (congrArg (zWs A n) zC_over) ?_
  refine g_iload_n (M := mX8_kept) dX8_kept_4 1 rfl rfl ?_
  have e := (Option.some.inj h)
  subst e
  exact g_iret (M := mX8_kept) dX8_kept_5 rfl (Nat.le_of_ble_eq_true rfl) (Nat.le_of_ble_eq_true rfl) ⟨rfl, rfl⟩
set_option maxHeartbeats 4000000 in
set_option maxRecDepth 100000 in
theorem wX8_better {X : zX} (hX : zOK X) {A : Nat → Nat} {n : Nat} {S : Nat → va_E} {qMo : Nat} {VMo : CV} (hMo : isC X A shMo qMo VMo S) (bMo : qMo + 20 < n) {a1 : Int} {res : CV × Int} (h : fX8_better VMo a1 = some res) : Con X yX8_better mX8_better 4 0 0 [.ref (A qMo), .int (iI a1)] (zWs A n S) (zRet (zWs A n (zC X A shMo qMo res.1 S)) (some (.int (iI res.2)))) := by
  refine con_of (lv := [(0, .ref (A qMo)), (1, .int (iI a1))]) (by decide) rfl (fun h => by cases h) rfl (Nat.le_of_ble_eq_true rfl) rfl ?_
  refine g_ws (M := mX8_better) (congrArg (zWs A n) hMo.symm) ?_
  unfold fX8_better at h
  refine g_aload_n (M := mX8_better) dX8_better_0 0 rfl rfl ?_
  refine g_iload_n (M := mX8_better) dX8_better_1 1 rfl rfl ?_
  obtain ⟨t1, u2, h⟩ := zbi h
  refine g_callVr (M := mX8_better) [.int (iI a1)] hX dX8_better_2 vX8_isRow kM_X8_256 (wX8_isRow hX zC_self (by omega)  u2) qMo (zWs_at (by omega) (zC_o)) rfl ⟨(Nat.le_of_ble_eq_true rfl), (Nat.le_of_ble_eq_true rfl)⟩ ⟨(Nat.le_of_ble_eq_true rfl), (Nat.le_of_ble_eq_true rfl)⟩ (Nat.le_of_ble_eq_true rfl) ?_
  refine g_istore_n (M := mX8_better) (lv' := [(0, .ref (A qMo)), (1, .int (iI a1)), (2, .int (iI (b2 t1)))]) dX8_better_5 rfl (by decide) rfl ?_
  refine g_aload_n (M := mX8_better) dX8_better_6 0 rfl rfl ?_
  refine g_iload_n (M := mX8_better) dX8_better_7 2 rfl rfl ?_
  refine g_iload_n (M := mX8_better) dX8_better_8 2 rfl rfl ?_
  refine zJn_J (J := fun x12 => G X mX8_better (zPm X 4 0 0 (zRet (zWs A n (zC X A shMo qMo res.1 S)) (some (.int (iI res.2))))) 0 0 25 [(0, .ref (A qMo)), (1, .int (iI a1))] [.int (iI x12), .int (iI (b2 t1)), .ref (A qMo)] (zWs A n (zC X A shMo qMo VMo S))) h (fun x12 h => ?_) (fun j12 h => ?_)
  · obtain ⟨t13, u14, h⟩ := zbi h
    refine g_callVr (M := mX8_better) [.int (iI (b2 t1)), .int (iI x12)] hX dX8_better_25 vX8_goesBoth kM_X8_261 (wX8_goesBoth hX zC_self (by omega)  u14) qMo (zWs_at (by omega) (zC_o)) rfl ⟨(Nat.le_of_ble_eq_true rfl), (Nat.le_of_ble_eq_true rfl)⟩ ⟨(Nat.le_of_ble_eq_true rfl), (Nat.le_of_ble_eq_true rfl)⟩ (Nat.le_of_ble_eq_true rfl) ?_
    refine g_ws (M := mX8_better) (congrArg (zWs A n) zC_over) ?_
    refine h_bne (M := mX8_better) (tgt := 33) dX8_better_28 (by decide) (fun c15 => ?_) (fun c15 => ?_)
    · have h := zti c15 h
      refine g_aload_n (M := mX8_better) dX8_better_33 0 rfl rfl ?_
      obtain ⟨t16, u17, h⟩ := zbi h
      refine g_callVr (M := mX8_better) [] hX dX8_better_34 vX8_laysAside kM_X8_217 (wX8_laysAside hX zC_self (by omega)  u17) qMo (zWs_at (by omega) (zC_o)) rfl ⟨(Nat.le_of_ble_eq_true rfl), (Nat.le_of_ble_eq_true rfl)⟩ ⟨(Nat.le_of_ble_eq_true rfl), (Nat.le_of_ble_eq_true rfl)⟩ (Nat.le_of_ble_eq_true rfl) ?_
      refine g_ws (M := mX8_better) (congrArg (zWs A n) zC_over) ?_
      refine g_aload_n (M := mX8_better) dX8_better_37 0 rfl rfl ?_
      refine g_aload_n (M := mX8_better) dX8_better_38 0 rfl rfl ?_
      refine g_iload_n (M := mX8_better) dX8_better_39 1 rfl rfl ?_
      obtain ⟨t18, u19, h⟩ := zbi h
      refine g_callVr (M := mX8_better) [.int (iI a1)] hX dX8_better_40 vX8_betters kM_X8_362 (wX8_betters hX zC_self (by omega)  u19) qMo (zWs_at (by omega) (zC_o)) rfl ⟨(Nat.le_of_ble_eq_true rfl), (Nat.le_of_ble_eq_true rfl)⟩ ⟨(Nat.le_of_ble_eq_true rfl), (Nat.le_of_ble_eq_true rfl)⟩ (Nat.le_of_ble_eq_true rfl) ?_
      refine g_ws (M := mX8_better) (congrArg (zWs A n) zC_over) ?_
      obtain ⟨t20, u21, h⟩ := zbi h
      refine g_callVr (M := mX8_better) [.int (iI t18.2)] hX dX8_better_43 vX8_kept kM_X8_382 (wX8_kept hX zC_self (by omega)  u21) qMo (zWs_at (by omega) (zC_o)) rfl ⟨(Nat.le_of_ble_eq_true rfl), (Nat.le_of_ble_eq_true rfl)⟩ ⟨(Nat.le_of_ble_eq_true rfl), (Nat.le_of_ble_eq_true rfl)⟩ (Nat.le_of_ble_eq_true rfl) ?_
      refine g_ws (M := mX8_better) (congrArg (zWs A n) zC_over) ?_
      have e := (Option.some.inj h)
      subst e
      exact g_iret (M := mX8_better) dX8_better_46 rfl (Nat.le_of_ble_eq_true rfl) (Nat.le_of_ble_eq_true rfl) ⟨rfl, rfl⟩
    · have h := zfi (zbf c15) h
      refine h_iconst (M := mX8_better) dX8_better_31 ?_
      have e := (Option.some.inj h)
      subst e
      exact g_iret (M := mX8_better) dX8_better_32 rfl (Nat.le_of_ble_eq_true rfl) (Nat.le_of_ble_eq_true rfl) ⟨rfl, rfl⟩
  · refine zJn_J (J := fun x26 => G X mX8_better (zPm X 4 0 0 (zRet (zWs A n (zC X A shMo qMo res.1 S)) (some (.int (iI res.2))))) 0 0 24 [(0, .ref (A qMo)), (1, .int (iI a1))] [.int (iI (b2 t1)), .ref (A qMo)] (zWs A n (zC X A shMo qMo VMo S))) h (fun x26 h => ?_) (fun j26 h => ?_)
    · refine h_iconst (M := mX8_better) dX8_better_24 ?_
      exact j12 0 h
    · refine h_beq (M := mX8_better) (tgt := 24) dX8_better_9 (by decide) (fun c27 => ?_) (fun c27 => ?_)
      · have h := zfi (zbf c27) h
        refine g_lv (M := mX8_better) [0, 1] rfl ?_
        exact j26 () h
      · have h := zti c27 h
        refine g_aload_n (M := mX8_better) dX8_better_12 0 rfl rfl ?_
        refine g_iload_n (M := mX8_better) dX8_better_13 1 rfl rfl ?_
        obtain ⟨t28, u29, h⟩ := zbi h
        refine g_callVr (M := mX8_better) [.int (iI a1)] hX dX8_better_14 vX8_isOut kM_X8_226 (wX8_isOut hX zC_self (by omega)  u29) qMo (zWs_at (by omega) (zC_o)) rfl ⟨(Nat.le_of_ble_eq_true rfl), (Nat.le_of_ble_eq_true rfl)⟩ ⟨(Nat.le_of_ble_eq_true rfl), (Nat.le_of_ble_eq_true rfl)⟩ (Nat.le_of_ble_eq_true rfl) ?_
        refine h_bne (M := mX8_better) (tgt := 24) dX8_better_17 (by decide) (fun c30 => ?_) (fun c30 => ?_)
        · have h := zti c30 h
          refine g_lv (M := mX8_better) [0, 1] rfl ?_
          exact j26 () h
        · have h := zfi (zbf c30) h
          refine h_iconst (M := mX8_better) dX8_better_20 ?_
          refine g_goto (M := mX8_better) (tgt := 25) dX8_better_21 (by decide) ?_
          refine g_lv (M := mX8_better) [0, 1] rfl ?_
          exact j12 1 h
set_option maxHeartbeats 4000000 in
set_option maxRecDepth 100000 in
theorem wX8_words {X : zX} (hX : zOK X) {A : Nat → Nat} {n : Nat} {S : Nat → va_E} {qMo : Nat} {VMo : CV} (hMo : isC X A shMo qMo VMo S) (bMo : qMo + 20 < n) {res : Int} (h : fX8_words VMo = some res) : Con X yX8_words mX8_words 0 0 0 [.ref (A qMo)] (zWs A n S) (zRet (zWs A n S) (some (.int (iI res)))) := by
  refine con_of (lv := [(0, .ref (A qMo))]) (by decide) rfl (fun h => by cases h) rfl (Nat.le_of_ble_eq_true rfl) rfl ?_
  unfold fX8_words at h
  refine h_iconst (M := mX8_words) dX8_words_0 ?_
  refine g_istore_n (M := mX8_words) (lv' := [(0, .ref (A qMo)), (1, .int (iI 1))]) dX8_words_1 rfl (by decide) rfl ?_
  refine h_iconst (M := mX8_words) dX8_words_2 ?_
  refine g_istore_n (M := mX8_words) (lv' := [(0, .ref (A qMo)), (1, .int (iI 1)), (2, .int (iI 0))]) dX8_words_3 rfl (by decide) rfl ?_
  obtain ⟨x1, l1, h⟩ := zbi h
  have r1 : ∀ y1, y1 = x1 → G X mX8_words (zPm X 0 0 0 (zRet (zWs A n S) (some (.int (iI res))))) 0 0 29 [(1, .int (iI y1.1))] [] (zWs A n S) := by
    intro y1 ey
    rw [← ey] at h
    refine g_iload_n (M := mX8_words) dX8_words_29 0 rfl rfl ?_
    have e := (Option.some.inj h)
    subst e
    exact g_iret (M := mX8_words) dX8_words_30 rfl (Nat.le_of_ble_eq_true rfl) (Nat.le_of_ble_eq_true rfl) ⟨rfl, rfl⟩
  refine zLp_J (J := fun s1 => G X mX8_words (zPm X 0 0 0 (zRet (zWs A n S) (some (.int (iI res))))) 0 0 4 [(0, .ref (A qMo)), (1, .int (iI s1.1)), (2, .int (iI s1.2))] [] (zWs A n S)) (fun s1 w1 h1 b1 e1 => ?_) _ _ l1
  refine g_iload_n (M := mX8_words) dX8_words_4 2 rfl rfl ?_
  refine g_aload_n (M := mX8_words) dX8_words_5 0 rfl rfl ?_
  refine k_get (M := mX8_words) (v := .ref (A (qMo + 2))) dX8_words_6 kF_X8_20.r qMo (by omega) (hMo.o) rfl ?_
  refine h_iconst (M := mX8_words) dX8_words_9 ?_
  refine k_iald (M := mX8_words) (len := 351) (f := VMo.2 2) dX8_words_10 (qMo + 2) (by omega) (hMo.a (d := (0, 351)) 1 rfl) (Nat.le_of_ble_eq_true rfl) (by decide) (by decide) ?_
  obtain ⟨g5, h1⟩ := zgi h1
  refine h_icmp_ge (M := mX8_words) (tgt := 29) dX8_words_11 (by decide) g5.1 g5.2 (fun c4 => ?_) (fun c4 => ?_)
  · have h1 := zti c4 h1
    refine g_lv (M := mX8_words) [1] rfl ?_
    exact r1 _ (e1 _ (Option.some.inj h1).symm)
  · have h1 := zfi (Int.not_le.mpr c4) h1
    refine g_iload_n (M := mX8_words) dX8_words_14 1 rfl rfl ?_
    refine g_aload_n (M := mX8_words) dX8_words_15 0 rfl rfl ?_
    refine k_get (M := mX8_words) (v := .ref (A (qMo + 2))) dX8_words_16 kF_X8_20.r qMo (by omega) (hMo.o) rfl ?_
    refine h_iconst (M := mX8_words) dX8_words_19 ?_
    refine k_iald (M := mX8_words) (len := 351) (f := VMo.2 2) dX8_words_20 (qMo + 2) (by omega) (hMo.a (d := (0, 351)) 1 rfl) (Nat.le_of_ble_eq_true rfl) (by decide) (by decide) ?_
    refine h_imul (M := mX8_words) dX8_words_21 ?_
    refine g_istore_n (M := mX8_words) (lv' := [(0, .ref (A qMo)), (1, .int (iI (s1.1 * (VMo.2 2 1)))), (2, .int (iI s1.2))]) dX8_words_22 rfl (by decide) rfl ?_
    refine h_iinc (M := mX8_words) (j := 2) (lv' := [(0, .ref (A qMo)), (1, .int (iI (s1.1 * (VMo.2 2 1)))), (2, .int (iI (s1.2 + 1)))]) dX8_words_23 rfl (Nat.le_of_ble_eq_true rfl) rfl ?_
    refine g_goto (M := mX8_words) (tgt := 4) dX8_words_26 (by decide) ?_
    exact b1 _ (Option.some.inj h1).symm
set_option maxHeartbeats 4000000 in
set_option maxRecDepth 100000 in
theorem wX8_isOne {X : zX} (hX : zOK X) {A : Nat → Nat} {n : Nat} {S : Nat → va_E} {qMo : Nat} {VMo : CV} (hMo : isC X A shMo qMo VMo S) (bMo : qMo + 20 < n) {a1 : Int} {res : Bool} (h : fX8_isOne VMo a1 = some res) : Con X yX8_isOne mX8_isOne 1 0 0 [.ref (A qMo), .int (iI a1)] (zWs A n S) (zRet (zWs A n S) (some (.int (iI (b2 res))))) := by
  refine con_of (lv := [(0, .ref (A qMo)), (1, .int (iI a1))]) (by decide) rfl (fun h => by cases h) rfl (Nat.le_of_ble_eq_true rfl) rfl ?_
  unfold fX8_isOne at h
  refine g_iload_n (M := mX8_isOne) dX8_isOne_0 1 rfl rfl ?_
  obtain ⟨g1, h⟩ := zgi h
  refine h_i2l (M := mX8_isOne) dX8_isOne_1 g1 ?_
  refine g_lconst (M := mX8_isOne) (v := iL 0) dX8_isOne_2 rfl ?_
  refine g_aload_n (M := mX8_isOne) dX8_isOne_3 0 rfl rfl ?_
  obtain ⟨t2, u3, h⟩ := zbi h
  refine g_callVr (M := mX8_isOne) [] hX dX8_isOne_4 vX8_words kM_X8_162 (wX8_words hX hMo (by omega)  u3) qMo (zWs_at (by omega) (hMo.o)) rfl ⟨(Nat.le_of_ble_eq_true rfl), (Nat.le_of_ble_eq_true rfl)⟩ ⟨(Nat.le_of_ble_eq_true rfl), (Nat.le_of_ble_eq_true rfl)⟩ (Nat.le_of_ble_eq_true rfl) ?_
  refine h_iconst (M := mX8_isOne) dX8_isOne_7 ?_
  refine h_isub (M := mX8_isOne) dX8_isOne_8 ?_
  obtain ⟨g4, h⟩ := zgi h
  refine h_i2l (M := mX8_isOne) dX8_isOne_9 g4 ?_
  obtain ⟨t5, u6, h⟩ := zbi h
  refine g_callSr (M := mX8_isOne) [.long (iL a1), .long (iL 0), .long (iL (t2 - 1))] hX dX8_isOne_10 vX8_isIn kM_X8_99 (wX8_isIn hX   u6) rfl ⟨(Nat.le_of_ble_eq_true rfl), (Nat.le_of_ble_eq_true rfl)⟩ ⟨(Nat.le_of_ble_eq_true rfl), (Nat.le_of_ble_eq_true rfl)⟩ (Nat.le_of_ble_eq_true rfl) ?_
  have e := (Option.some.inj h)
  subst e
  exact g_zret (M := mX8_isOne) .boolean dX8_isOne_13 rfl (b2_nar _) (Nat.le_of_ble_eq_true rfl) (Nat.le_of_ble_eq_true rfl) ⟨rfl, rfl⟩
set_option maxHeartbeats 4000000 in
set_option maxRecDepth 100000 in
theorem wX8_spells {X : zX} (hX : zOK X) {A : Nat → Nat} {n : Nat} {S : Nat → va_E} {qMo : Nat} {VMo : CV} (hMo : isC X A shMo qMo VMo S) (bMo : qMo + 20 < n) {a1 : Int} {res : CV} (h : fX8_spells VMo a1 = some res) : Con X yX8_spells mX8_spells 0 0 0 [.ref (A qMo), .int (iI a1)] (zWs A n S) (zRet (zWs A n (zC X A shMo qMo res S)) none) := by
  refine con_of (lv := [(0, .ref (A qMo)), (1, .int (iI a1))]) (by decide) rfl (fun h => by cases h) rfl (Nat.le_of_ble_eq_true rfl) rfl ?_
  refine g_ws (M := mX8_spells) (congrArg (zWs A n) hMo.symm) ?_
  unfold fX8_spells at h
  refine g_iload_n (M := mX8_spells) dX8_spells_0 1 rfl rfl ?_
  refine g_istore_n (M := mX8_spells) (lv' := [(0, .ref (A qMo)), (1, .int (iI a1)), (2, .int (iI a1))]) dX8_spells_1 rfl (by decide) rfl ?_
  refine g_aload_n (M := mX8_spells) dX8_spells_2 0 rfl rfl ?_
  refine k_get (M := mX8_spells) (v := .ref (A (qMo + 2))) dX8_spells_3 kF_X8_20.r qMo (by omega) (zC_o) rfl ?_
  refine h_iconst (M := mX8_spells) dX8_spells_6 ?_
  refine k_iald (M := mX8_spells) (len := 351) (f := VMo.2 2) dX8_spells_7 (qMo + 2) (by omega) (zC_a (d := (0, 351)) 1 rfl) (Nat.le_of_ble_eq_true rfl) (by decide) (by decide) ?_
  refine h_iconst (M := mX8_spells) dX8_spells_8 ?_
  refine h_isub (M := mX8_spells) dX8_spells_9 ?_
  refine g_istore_n (M := mX8_spells) (lv' := [(0, .ref (A qMo)), (1, .int (iI a1)), (2, .int (iI a1)), (3, .int (iI ((VMo.2 2 2) - 1)))]) dX8_spells_10 rfl (by decide) rfl ?_
  obtain ⟨x1, l1, h⟩ := zbi h
  have r1 : ∀ y1, y1 = x1 → G X mX8_spells (zPm X 0 0 0 (zRet (zWs A n (zC X A shMo qMo res S)) none)) 0 0 44 [] [] (zWs A n (zC X A shMo qMo y1.2.2 S)) := by
    intro y1 ey
    rw [← ey] at h
    have e := (Option.some.inj h)
    subst e
    exact g_vret (M := mX8_spells) dX8_spells_44 rfl (Nat.le_of_ble_eq_true rfl) (Nat.le_of_ble_eq_true rfl) ⟨rfl, rfl⟩
  refine g_lv (M := mX8_spells) [0, 2, 3] rfl ?_
  refine zLp_J (J := fun s1 => G X mX8_spells (zPm X 0 0 0 (zRet (zWs A n (zC X A shMo qMo res S)) none)) 0 0 11 [(0, .ref (A qMo)), (2, .int (iI s1.1)), (3, .int (iI s1.2.1))] [] (zWs A n (zC X A shMo qMo s1.2.2 S))) (fun s1 w1 h1 b1 e1 => ?_) _ _ l1
  refine g_iload_n (M := mX8_spells) dX8_spells_11 2 rfl rfl ?_
  obtain ⟨g7, h1⟩ := zgi h1
  refine h_if_lt (M := mX8_spells) (tgt := 44) dX8_spells_12 (by decide) g7 (fun c6 => ?_) (fun c6 => ?_)
  · have h1 := zti c6 h1
    refine g_lv (M := mX8_spells) [] rfl ?_
    exact r1 _ (e1 _ (Option.some.inj h1).symm)
  · have h1 := zfi (Int.not_lt.mpr c6) h1
    refine g_aload_n (M := mX8_spells) dX8_spells_15 0 rfl rfl ?_
    refine k_get (M := mX8_spells) (v := .ref (A (qMo + 10))) dX8_spells_16 kF_X8_45.r qMo (by omega) (zC_o) rfl ?_
    refine g_iload_n (M := mX8_spells) dX8_spells_19 2 rfl rfl ?_
    refine g_iload_n (M := mX8_spells) dX8_spells_20 1 rfl rfl ?_
    refine g_aload_n (M := mX8_spells) dX8_spells_21 0 rfl rfl ?_
    refine k_get (M := mX8_spells) (v := .ref (A (qMo + 2))) dX8_spells_22 kF_X8_20.r qMo (by omega) (zC_o) rfl ?_
    refine h_iconst (M := mX8_spells) dX8_spells_25 ?_
    refine k_iald (M := mX8_spells) (len := 351) (f := s1.2.2.2 2) dX8_spells_26 (qMo + 2) (by omega) (zC_a (d := (0, 351)) 1 rfl) (Nat.le_of_ble_eq_true rfl) (by decide) (by decide) ?_
    obtain ⟨g8, h1⟩ := zgi h1
    refine g_irem (M := mX8_spells) dX8_spells_27 (iI_ne0 g8.2.1 g8.2.2) ?_
    refine h_topx (M := mX8_spells) (b := s1.1 % (s1.2.2.2 2 1)) (iI_rem g8.1.1 g8.1.2 g8.2.1 g8.2.2) ?_
    obtain ⟨g9, h1⟩ := zgi h1
    refine c_iast (M := mX8_spells) (len := 6) (d := (0, 6)) dX8_spells_28 9 rfl rfl (by omega) (Nat.le_of_ble_eq_true rfl) g9.1 g9.2 ?_
    refine g_iload_n (M := mX8_spells) dX8_spells_29 1 rfl rfl ?_
    refine g_aload_n (M := mX8_spells) dX8_spells_30 0 rfl rfl ?_
    refine k_get (M := mX8_spells) (v := .ref (A (qMo + 2))) dX8_spells_31 kF_X8_20.r qMo (by omega) (zC_o) rfl ?_
    refine h_iconst (M := mX8_spells) dX8_spells_34 ?_
    refine k_iald (M := mX8_spells) (len := 351) (f := s1.2.2.2 2) dX8_spells_35 (qMo + 2) (by omega) (zC_a (d := (0, 351)) 1 rfl) (Nat.le_of_ble_eq_true rfl) (by decide) (by decide) ?_
    refine g_idiv (M := mX8_spells) dX8_spells_36 (iI_ne0 g8.2.1 g8.2.2) ?_
    refine h_topx (M := mX8_spells) (b := s1.1 / (s1.2.2.2 2 1)) (iI_div g8.1.1 g8.1.2 g8.2.1 g8.2.2) ?_
    refine g_istore_n (M := mX8_spells) (lv' := [(0, .ref (A qMo)), (2, .int (iI (s1.1 / (s1.2.2.2 2 1)))), (3, .int (iI s1.2.1))]) dX8_spells_37 rfl (by decide) rfl ?_
    refine h_iinc (M := mX8_spells) (j := 2) (lv' := [(0, .ref (A qMo)), (2, .int (iI (s1.1 / (s1.2.2.2 2 1)))), (3, .int (iI (s1.2.1 + (-1))))]) dX8_spells_38 rfl (Nat.le_of_ble_eq_true rfl) rfl ?_
    refine g_goto (M := mX8_spells) (tgt := 11) dX8_spells_41 (by decide) ?_
    exact b1 _ (Option.some.inj h1).symm
set_option maxHeartbeats 4000000 in
set_option maxRecDepth 100000 in
theorem wX8_bound {X : zX} (hX : zOK X) {A : Nat → Nat} {n : Nat} {S : Nat → va_E} {qMo : Nat} {VMo : CV} (hMo : isC X A shMo qMo VMo S) (bMo : qMo + 20 < n) {a1 : Int} {a2 : Int} {res : CV × Int} (h : fX8_bound VMo a1 a2 = some res) : Con X yX8_bound mX8_bound 5 0 0 [.ref (A qMo), .int (iI a1), .int (iI a2)] (zWs A n S) (zRet (zWs A n (zC X A shMo qMo res.1 S)) (some (.int (iI res.2)))) := by
  refine con_of (lv := [(0, .ref (A qMo)), (1, .int (iI a1)), (2, .int (iI a2))]) (by decide) rfl (fun h => by cases h) rfl (Nat.le_of_ble_eq_true rfl) rfl ?_
  refine g_ws (M := mX8_bound) (congrArg (zWs A n) hMo.symm) ?_
  unfold fX8_bound at h
  refine g_aload_n (M := mX8_bound) dX8_bound_0 0 rfl rfl ?_
  refine g_aload_n (M := mX8_bound) dX8_bound_1 0 rfl rfl ?_
  refine g_iload_n (M := mX8_bound) dX8_bound_2 1 rfl rfl ?_
  obtain ⟨t1, u2, h⟩ := zbi h
  refine g_callVr (M := mX8_bound) [.int (iI a1)] hX dX8_bound_3 vX8_isOne kM_X8_268 (wX8_isOne hX zC_self (by omega)  u2) qMo (zWs_at (by omega) (zC_o)) rfl ⟨(Nat.le_of_ble_eq_true rfl), (Nat.le_of_ble_eq_true rfl)⟩ ⟨(Nat.le_of_ble_eq_true rfl), (Nat.le_of_ble_eq_true rfl)⟩ (Nat.le_of_ble_eq_true rfl) ?_
  refine g_iload_n (M := mX8_bound) dX8_bound_6 2 rfl rfl ?_
  obtain ⟨g3, h⟩ := zgi h
  refine h_i2l (M := mX8_bound) dX8_bound_7 g3 ?_
  refine g_lconst (M := mX8_bound) (v := iL 1) dX8_bound_8 rfl ?_
  refine g_aload_n (M := mX8_bound) dX8_bound_9 0 rfl rfl ?_
  refine k_get (M := mX8_bound) (v := .ref (A (qMo + 2))) dX8_bound_10 kF_X8_20.r qMo (by omega) (zC_o) rfl ?_
  refine h_iconst (M := mX8_bound) dX8_bound_13 ?_
  refine k_iald (M := mX8_bound) (len := 351) (f := VMo.2 2) dX8_bound_14 (qMo + 2) (by omega) (zC_a (d := (0, 351)) 1 rfl) (Nat.le_of_ble_eq_true rfl) (by decide) (by decide) ?_
  obtain ⟨g4, h⟩ := zgi h
  refine h_i2l (M := mX8_bound) dX8_bound_15 g4 ?_
  obtain ⟨t5, u6, h⟩ := zbi h
  refine g_callSr (M := mX8_bound) [.long (iL a2), .long (iL 1), .long (iL (VMo.2 2 2))] hX dX8_bound_16 vX8_isIn kM_X8_99 (wX8_isIn hX   u6) rfl ⟨(Nat.le_of_ble_eq_true rfl), (Nat.le_of_ble_eq_true rfl)⟩ ⟨(Nat.le_of_ble_eq_true rfl), (Nat.le_of_ble_eq_true rfl)⟩ (Nat.le_of_ble_eq_true rfl) ?_
  obtain ⟨t7, u8, h⟩ := zbi h
  refine g_callVr (M := mX8_bound) [.int (iI (b2 t1)), .int (iI (b2 t5))] hX dX8_bound_19 vX8_goesBoth kM_X8_261 (wX8_goesBoth hX zC_self (by omega)  u8) qMo (zWs_at (by omega) (zC_o)) rfl ⟨(Nat.le_of_ble_eq_true rfl), (Nat.le_of_ble_eq_true rfl)⟩ ⟨(Nat.le_of_ble_eq_true rfl), (Nat.le_of_ble_eq_true rfl)⟩ (Nat.le_of_ble_eq_true rfl) ?_
  refine g_ws (M := mX8_bound) (congrArg (zWs A n) zC_over) ?_
  refine h_bne (M := mX8_bound) (tgt := 27) dX8_bound_22 (by decide) (fun c9 => ?_) (fun c9 => ?_)
  · have h := zti c9 h
    refine g_aload_n (M := mX8_bound) dX8_bound_27 0 rfl rfl ?_
    refine g_iload_n (M := mX8_bound) dX8_bound_28 1 rfl rfl ?_
    obtain ⟨t10, u11, h⟩ := zbi h
    refine g_callVr (M := mX8_bound) [.int (iI a1)] hX dX8_bound_29 vX8_spells kM_X8_242 (wX8_spells hX zC_self (by omega)  u11) qMo (zWs_at (by omega) (zC_o)) rfl ⟨(Nat.le_of_ble_eq_true rfl), (Nat.le_of_ble_eq_true rfl)⟩ ⟨(Nat.le_of_ble_eq_true rfl), (Nat.le_of_ble_eq_true rfl)⟩ (Nat.le_of_ble_eq_true rfl) ?_
    refine g_ws (M := mX8_bound) (congrArg (zWs A n) zC_over) ?_
    refine g_aload_n (M := mX8_bound) dX8_bound_32 0 rfl rfl ?_
    refine g_iload_n (M := mX8_bound) dX8_bound_33 2 rfl rfl ?_
    obtain ⟨t12, u13, h⟩ := zbi h
    refine g_callVr (M := mX8_bound) [.int (iI a2)] hX dX8_bound_34 vX8_bounds kM_X8_245 (wX8_bounds hX zC_self (by omega)  u13) qMo (zWs_at (by omega) (zC_o)) rfl ⟨(Nat.le_of_ble_eq_true rfl), (Nat.le_of_ble_eq_true rfl)⟩ ⟨(Nat.le_of_ble_eq_true rfl), (Nat.le_of_ble_eq_true rfl)⟩ (Nat.le_of_ble_eq_true rfl) ?_
    have e := (Option.some.inj h)
    subst e
    exact g_iret (M := mX8_bound) dX8_bound_37 rfl (Nat.le_of_ble_eq_true rfl) (Nat.le_of_ble_eq_true rfl) ⟨rfl, rfl⟩
  · have h := zfi (zbf c9) h
    refine h_iconst (M := mX8_bound) dX8_bound_25 ?_
    have e := (Option.some.inj h)
    subst e
    exact g_iret (M := mX8_bound) dX8_bound_26 rfl (Nat.le_of_ble_eq_true rfl) (Nat.le_of_ble_eq_true rfl) ⟨rfl, rfl⟩
set_option maxHeartbeats 4000000 in
set_option maxRecDepth 100000 in
theorem wX8_chooses {X : zX} (hX : zOK X) {A : Nat → Nat} {n : Nat} {S : Nat → va_E} {qMo : Nat} {VMo : CV} (hMo : isC X A shMo qMo VMo S) (bMo : qMo + 20 < n) {a1 : Int} {a2 : Int} {res : CV × Int} (h : fX8_chooses VMo a1 a2 = some res) : Con X yX8_chooses mX8_chooses 3 0 0 [.ref (A qMo), .int (iI a1), .int (iI a2)] (zWs A n S) (zRet (zWs A n (zC X A shMo qMo res.1 S)) (some (.int (iI res.2)))) := by
  refine con_of (lv := [(0, .ref (A qMo)), (1, .int (iI a1)), (2, .int (iI a2))]) (by decide) rfl (fun h => by cases h) rfl (Nat.le_of_ble_eq_true rfl) rfl ?_
  refine g_ws (M := mX8_chooses) (congrArg (zWs A n) hMo.symm) ?_
  unfold fX8_chooses at h
  refine g_aload_n (M := mX8_chooses) dX8_chooses_0 0 rfl rfl ?_
  refine g_iload_n (M := mX8_chooses) dX8_chooses_1 1 rfl rfl ?_
  refine h_iconst (M := mX8_chooses) dX8_chooses_2 ?_
  refine g_iload_n (M := mX8_chooses) dX8_chooses_3 2 rfl rfl ?_
  obtain ⟨t1, u2, h⟩ := zbi h
  refine g_callVr (M := mX8_chooses) [.int (iI a1), .int (iI 1), .int (iI a2)] hX dX8_chooses_4 vX8_lays kM_X8_179 (wX8_lays hX zC_self (by omega)  u2) qMo (zWs_at (by omega) (zC_o)) rfl ⟨(Nat.le_of_ble_eq_true rfl), (Nat.le_of_ble_eq_true rfl)⟩ ⟨(Nat.le_of_ble_eq_true rfl), (Nat.le_of_ble_eq_true rfl)⟩ (Nat.le_of_ble_eq_true rfl) ?_
  refine g_ws (M := mX8_chooses) (congrArg (zWs A n) zC_over) ?_
  refine g_aload_n (M := mX8_chooses) dX8_chooses_7 0 rfl rfl ?_
  obtain ⟨t3, u4, h⟩ := zbi h
  refine g_callVr (M := mX8_chooses) [] hX dX8_chooses_8 vX8_agrees kM_X8_356 (wX8_agrees hX zC_self (by omega)  u4) qMo (zWs_at (by omega) (zC_o)) rfl ⟨(Nat.le_of_ble_eq_true rfl), (Nat.le_of_ble_eq_true rfl)⟩ ⟨(Nat.le_of_ble_eq_true rfl), (Nat.le_of_ble_eq_true rfl)⟩ (Nat.le_of_ble_eq_true rfl) ?_
  refine g_ws (M := mX8_chooses) (congrArg (zWs A n) zC_over) ?_
  have e := (Option.some.inj h)
  subst e
  exact g_iret (M := mX8_chooses) dX8_chooses_11 rfl (Nat.le_of_ble_eq_true rfl) (Nat.le_of_ble_eq_true rfl) ⟨rfl, rfl⟩
