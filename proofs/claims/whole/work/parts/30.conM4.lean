set_option maxHeartbeats 4000000 in
set_option maxRecDepth 100000 in
theorem wX8_command {X : zX} (hX : zOK X) {A : Nat → Nat} {n : Nat} {S : Nat → va_E} {qMo : Nat} {VMo : CV} (hMo : isC X A shMo qMo VMo S) (bMo : qMo + 20 < n) {res : CV} (h : fX8_command VMo = some res) : Con X yX8_command mX8_command 3 0 0 [.ref (A qMo)] (zWs A n S) (zRet (zWs A n (zC X A shMo qMo res S)) none) := by
  refine con_of (lv := [(0, .ref (A qMo))]) (by decide) rfl (fun h => by cases h) rfl (Nat.le_of_ble_eq_true rfl) rfl ?_
  refine g_ws (M := mX8_command) (congrArg (zWs A n) hMo.symm) ?_
  unfold fX8_command at h
  refine g_aload_n (M := mX8_command) dX8_command_0 0 rfl rfl ?_
  obtain ⟨t1, u2, h⟩ := zbi h
  refine g_callVr (M := mX8_command) [] hX dX8_command_1 vX8_commandHere kM_X8_412 (wX8_commandHere hX zC_self (by omega)  u2) qMo (zWs_at (by omega) (zC_o)) rfl ⟨(Nat.le_of_ble_eq_true rfl), (Nat.le_of_ble_eq_true rfl)⟩ ⟨(Nat.le_of_ble_eq_true rfl), (Nat.le_of_ble_eq_true rfl)⟩ (Nat.le_of_ble_eq_true rfl) ?_
  refine g_istore_n (M := mX8_command) (lv' := [(0, .ref (A qMo)), (1, .int (iI t1))]) dX8_command_4 rfl (by decide) rfl ?_
  refine g_iload_n (M := mX8_command) dX8_command_5 1 rfl rfl ?_
  refine h_iconst (M := mX8_command) dX8_command_6 ?_
  refine zJn_J (J := fun x7 => G X mX8_command (zPm X 3 0 0 (zRet (zWs A n (zC X A shMo qMo res S)) none)) 0 0 15 [(0, .ref (A qMo)), (1, .int (iI t1))] [] (zWs A n (zC X A shMo qMo x7 S))) h (fun x7 h => ?_) (fun j7 h => ?_)
  · refine g_iload_n (M := mX8_command) dX8_command_15 1 rfl rfl ?_
    refine h_bipush (M := mX8_command) dX8_command_16 rfl ?_
    refine zJn_J (J := fun x14 => G X mX8_command (zPm X 3 0 0 (zRet (zWs A n (zC X A shMo qMo res S)) none)) 0 0 34 [(0, .ref (A qMo)), (1, .int (iI t1))] [] (zWs A n (zC X A shMo qMo x14 S))) h (fun x14 h => ?_) (fun j14 h => ?_)
    · refine g_aload_n (M := mX8_command) dX8_command_34 0 rfl rfl ?_
      refine k_get (M := mX8_command) (v := .int (iI (x14.1 43))) dX8_command_35 kF_X8_418.r qMo (by omega) (zC_o) rfl ?_
      refine h_bipush (M := mX8_command) dX8_command_38 rfl ?_
      refine zJn_J (J := fun x19 => G X mX8_command (zPm X 3 0 0 (zRet (zWs A n (zC X A shMo qMo res S)) none)) 0 0 49 [(0, .ref (A qMo)), (1, .int (iI t1))] [] (zWs A n (zC X A shMo qMo x19 S))) h (fun x19 h => ?_) (fun j19 h => ?_)
      · refine g_aload_n (M := mX8_command) dX8_command_49 0 rfl rfl ?_
        obtain ⟨t20, u21, h⟩ := zbi h
        refine g_callVr (M := mX8_command) [] hX dX8_command_50 vX8_isGood kM_X8_139 (wX8_isGood hX zC_self (by omega)  u21) qMo (zWs_at (by omega) (zC_o)) rfl ⟨(Nat.le_of_ble_eq_true rfl), (Nat.le_of_ble_eq_true rfl)⟩ ⟨(Nat.le_of_ble_eq_true rfl), (Nat.le_of_ble_eq_true rfl)⟩ (Nat.le_of_ble_eq_true rfl) ?_
        refine h_bne (M := mX8_command) (tgt := 57) dX8_command_53 (by decide) (fun c22 => ?_) (fun c22 => ?_)
        · have h := zti c22 h
          refine g_aload_n (M := mX8_command) dX8_command_57 0 rfl rfl ?_
          refine g_dup (M := mX8_command) dX8_command_58 rfl ?_
          refine k_get (M := mX8_command) (v := .int (iI (x19.1 43))) dX8_command_59 kF_X8_418.r qMo (by omega) (zC_o) rfl ?_
          refine h_iconst (M := mX8_command) dX8_command_62 ?_
          refine h_iadd (M := mX8_command) dX8_command_63 ?_
          refine c_put (M := mX8_command) (k := 43) dX8_command_64 kF_X8_418 (by omega) rfl rfl (by decide) rfl rfl ?_
          refine g_aload_n (M := mX8_command) dX8_command_67 0 rfl rfl ?_
          obtain ⟨t23, u24, h⟩ := zbi h
          refine g_callVr (M := mX8_command) [] hX dX8_command_68 vX8_goOn kM_X8_149 (wX8_goOn hX zC_self (by omega)  u24) qMo (zWs_at (by omega) (zC_o)) rfl ⟨(Nat.le_of_ble_eq_true rfl), (Nat.le_of_ble_eq_true rfl)⟩ ⟨(Nat.le_of_ble_eq_true rfl), (Nat.le_of_ble_eq_true rfl)⟩ (Nat.le_of_ble_eq_true rfl) ?_
          refine g_ws (M := mX8_command) (congrArg (zWs A n) zC_over) ?_
          refine g_aload_n (M := mX8_command) dX8_command_71 0 rfl rfl ?_
          refine k_get (M := mX8_command) (v := .int (iI (t23.1 42))) dX8_command_72 kF_X8_421.r qMo (by omega) (zC_o) rfl ?_
          refine g_istore_n (M := mX8_command) (lv' := [(0, .ref (A qMo)), (1, .int (iI t1)), (2, .int (iI (t23.1 42)))]) dX8_command_75 rfl (by decide) rfl ?_
          refine g_aload_n (M := mX8_command) dX8_command_76 0 rfl rfl ?_
          refine k_get (M := mX8_command) (v := .ref (A (qMo + 15))) dX8_command_77 kF_X8_60.r qMo (by omega) (zC_o) rfl ?_
          refine g_iload_n (M := mX8_command) dX8_command_80 2 rfl rfl ?_
          refine g_iload_n (M := mX8_command) dX8_command_81 1 rfl rfl ?_
          obtain ⟨g25, h⟩ := zgi h
          refine c_iast (M := mX8_command) (len := 60) (d := (0, 60)) dX8_command_82 14 rfl rfl (by omega) (Nat.le_of_ble_eq_true rfl) g25.1 g25.2 ?_
          refine g_iload_n (M := mX8_command) dX8_command_83 1 rfl rfl ?_
          refine h_iconst (M := mX8_command) dX8_command_84 ?_
          refine zJn_J (J := fun x37 => G X mX8_command (zPm X 3 0 0 (zRet (zWs A n (zC X A shMo qMo res S)) none)) 0 0 110 [(0, .ref (A qMo)), (1, .int (iI t1)), (2, .int (iI (t23.1 42)))] [] (zWs A n (zC X A shMo qMo x37 S))) h (fun x37 h => ?_) (fun j37 h => ?_)
          · refine g_iload_n (M := mX8_command) dX8_command_110 1 rfl rfl ?_
            refine zJn_J (J := fun x42 => G X mX8_command (zPm X 3 0 0 (zRet (zWs A n (zC X A shMo qMo res S)) none)) 0 0 128 [(0, .ref (A qMo)), (1, .int (iI t1)), (2, .int (iI (t23.1 42)))] [] (zWs A n (zC X A shMo qMo x42 S))) h (fun x42 h => ?_) (fun j42 h => ?_)
            · refine g_iload_n (M := mX8_command) dX8_command_128 1 rfl rfl ?_
              refine h_iconst (M := mX8_command) dX8_command_129 ?_
              refine zJn_J (J := fun x52 => G X mX8_command (zPm X 3 0 0 (zRet (zWs A n (zC X A shMo qMo res S)) none)) 0 0 153 [(0, .ref (A qMo)), (1, .int (iI t1)), (2, .int (iI (t23.1 42)))] [] (zWs A n (zC X A shMo qMo x52 S))) h (fun x52 h => ?_) (fun j52 h => ?_)
              · refine g_iload_n (M := mX8_command) dX8_command_153 1 rfl rfl ?_
                refine h_iconst (M := mX8_command) dX8_command_154 ?_
                refine zJn_J (J := fun x57 => G X mX8_command (zPm X 3 0 0 (zRet (zWs A n (zC X A shMo qMo res S)) none)) 0 0 168 [(0, .ref (A qMo)), (1, .int (iI t1)), (2, .int (iI (t23.1 42)))] [] (zWs A n (zC X A shMo qMo x57 S))) h (fun x57 h => ?_) (fun j57 h => ?_)
                · refine g_iload_n (M := mX8_command) dX8_command_168 1 rfl rfl ?_
                  refine h_bipush (M := mX8_command) dX8_command_169 rfl ?_
                  refine zJn_J (J := fun x62 => G X mX8_command (zPm X 3 0 0 (zRet (zWs A n (zC X A shMo qMo res S)) none)) 0 0 187 [(0, .ref (A qMo)), (1, .int (iI t1))] [] (zWs A n (zC X A shMo qMo x62 S))) h (fun x62 h => ?_) (fun j62 h => ?_)
                  · refine g_iload_n (M := mX8_command) dX8_command_187 1 rfl rfl ?_
                    refine h_bipush (M := mX8_command) dX8_command_188 rfl ?_
                    refine zJn_J (J := fun x67 => G X mX8_command (zPm X 3 0 0 (zRet (zWs A n (zC X A shMo qMo res S)) none)) 0 0 199 [(0, .ref (A qMo)), (1, .int (iI t1))] [] (zWs A n (zC X A shMo qMo x67 S))) h (fun x67 h => ?_) (fun j67 h => ?_)
                    · refine g_aload_n (M := mX8_command) dX8_command_199 0 rfl rfl ?_
                      obtain ⟨t68, u69, h⟩ := zbi h
                      refine g_callVr (M := mX8_command) [] hX dX8_command_200 vX8_isGood kM_X8_139 (wX8_isGood hX zC_self (by omega)  u69) qMo (zWs_at (by omega) (zC_o)) rfl ⟨(Nat.le_of_ble_eq_true rfl), (Nat.le_of_ble_eq_true rfl)⟩ ⟨(Nat.le_of_ble_eq_true rfl), (Nat.le_of_ble_eq_true rfl)⟩ (Nat.le_of_ble_eq_true rfl) ?_
                      refine h_bne (M := mX8_command) (tgt := 207) dX8_command_203 (by decide) (fun c70 => ?_) (fun c70 => ?_)
                      · have h := zti c70 h
                        refine g_aload_n (M := mX8_command) dX8_command_207 0 rfl rfl ?_
                        refine g_dup (M := mX8_command) dX8_command_208 rfl ?_
                        refine k_get (M := mX8_command) (v := .int (iI (x67.1 42))) dX8_command_209 kF_X8_421.r qMo (by omega) (zC_o) rfl ?_
                        refine h_iconst (M := mX8_command) dX8_command_212 ?_
                        refine h_iadd (M := mX8_command) dX8_command_213 ?_
                        refine c_put (M := mX8_command) (k := 42) dX8_command_214 kF_X8_421 (by omega) rfl rfl (by decide) rfl rfl ?_
                        refine g_aload_n (M := mX8_command) dX8_command_217 0 rfl rfl ?_
                        refine g_dup (M := mX8_command) dX8_command_218 rfl ?_
                        refine k_get (M := mX8_command) (v := .int (iI (x67.1 44))) dX8_command_219 kF_X8_415.r qMo (by omega) (zC_o) rfl ?_
                        refine g_iload_n (M := mX8_command) dX8_command_222 1 rfl rfl ?_
                        refine h_bipush (M := mX8_command) dX8_command_223 rfl ?_
                        refine zJn_J (J := fun x73 => G X mX8_command (zPm X 3 0 0 (zRet (zWs A n (zC X A shMo qMo res S)) none)) 0 0 233 [] [.int (iI x73), .int (iI (x67.1 44)), .ref (A qMo)] (zWs A n (zC X A shMo qMo (zPu x67 42 ((x67.1 42) + 1)) S))) h (fun x73 h => ?_) (fun j73 h => ?_)
                        · obtain ⟨t74, u75, h⟩ := zbi h
                          refine g_callSr (M := mX8_command) [.int (iI x73)] hX dX8_command_233 vX8_truth kM_X8_84 (wX8_truth hX   u75) rfl ⟨(Nat.le_of_ble_eq_true rfl), (Nat.le_of_ble_eq_true rfl)⟩ ⟨(Nat.le_of_ble_eq_true rfl), (Nat.le_of_ble_eq_true rfl)⟩ (Nat.le_of_ble_eq_true rfl) ?_
                          refine h_iadd (M := mX8_command) dX8_command_236 ?_
                          refine c_put (M := mX8_command) (k := 44) dX8_command_237 kF_X8_415 (by omega) rfl rfl (by decide) rfl rfl ?_
                          have e := (Option.some.inj h)
                          subst e
                          exact g_vret (M := mX8_command) dX8_command_240 rfl (Nat.le_of_ble_eq_true rfl) (Nat.le_of_ble_eq_true rfl) ⟨rfl, rfl⟩
                        · obtain ⟨g77, h⟩ := zgi h
                          refine h_icmp_ne (M := mX8_command) (tgt := 232) dX8_command_225 (by decide) g77 (by decide) (fun c76 => ?_) (fun c76 => ?_)
                          · have h := zfi c76 h
                            refine h_iconst (M := mX8_command) dX8_command_232 ?_
                            refine g_lv (M := mX8_command) [] rfl ?_
                            exact j73 0 h
                          · have h := zti c76 h
                            refine h_iconst (M := mX8_command) dX8_command_228 ?_
                            refine g_goto (M := mX8_command) (tgt := 233) dX8_command_229 (by decide) ?_
                            refine g_lv (M := mX8_command) [] rfl ?_
                            exact j73 1 h
                      · have h := zfi (zbf c70) h
                        have e := (Option.some.inj h)
                        subst e
                        exact g_vret (M := mX8_command) dX8_command_206 rfl (Nat.le_of_ble_eq_true rfl) (Nat.le_of_ble_eq_true rfl) ⟨rfl, rfl⟩
                    · obtain ⟨g79, h⟩ := zgi h
                      refine h_icmp_ne (M := mX8_command) (tgt := 199) dX8_command_190 (by decide) g79 (by decide) (fun c78 => ?_) (fun c78 => ?_)
                      · have h := zfi c78 h
                        exact j67 x62 h
                      · have h := zti c78 h
                        refine g_aload_n (M := mX8_command) dX8_command_193 0 rfl rfl ?_
                        refine h_bipush (M := mX8_command) dX8_command_194 rfl ?_
                        obtain ⟨t80, u81, h⟩ := zbi h
                        refine g_callVr (M := mX8_command) [.int (iI 40)] hX dX8_command_196 vX8_mustSign kM_X8_211 (wX8_mustSign hX zC_self (by omega)  u81) qMo (zWs_at (by omega) (zC_o)) rfl ⟨(Nat.le_of_ble_eq_true rfl), (Nat.le_of_ble_eq_true rfl)⟩ ⟨(Nat.le_of_ble_eq_true rfl), (Nat.le_of_ble_eq_true rfl)⟩ (Nat.le_of_ble_eq_true rfl) ?_
                        refine g_ws (M := mX8_command) (congrArg (zWs A n) zC_over) ?_
                        exact j67 t80 h
                  · obtain ⟨g83, h⟩ := zgi h
                    refine h_icmp_ne (M := mX8_command) (tgt := 187) dX8_command_171 (by decide) g83 (by decide) (fun c82 => ?_) (fun c82 => ?_)
                    · have h := zfi c82 h
                      refine g_lv (M := mX8_command) [0, 1] rfl ?_
                      exact j62 x57 h
                    · have h := zti c82 h
                      refine g_aload_n (M := mX8_command) dX8_command_174 0 rfl rfl ?_
                      refine k_get (M := mX8_command) (v := .ref (A (qMo + 16))) dX8_command_175 kF_X8_63.r qMo (by omega) (zC_o) rfl ?_
                      refine g_iload_n (M := mX8_command) dX8_command_178 2 rfl rfl ?_
                      refine g_aload_n (M := mX8_command) dX8_command_179 0 rfl rfl ?_
                      refine h_iconst (M := mX8_command) dX8_command_180 ?_
                      refine h_bipush (M := mX8_command) dX8_command_181 rfl ?_
                      obtain ⟨t84, u85, h⟩ := zbi h
                      refine g_callVr (M := mX8_command) [.int (iI 1), .int (iI 20)] hX dX8_command_183 vX8_number kM_X8_190 (wX8_number hX zC_self (by omega)  u85) qMo (zWs_at (by omega) (zC_o)) rfl ⟨(Nat.le_of_ble_eq_true rfl), (Nat.le_of_ble_eq_true rfl)⟩ ⟨(Nat.le_of_ble_eq_true rfl), (Nat.le_of_ble_eq_true rfl)⟩ (Nat.le_of_ble_eq_true rfl) ?_
                      refine g_ws (M := mX8_command) (congrArg (zWs A n) zC_over) ?_
                      refine c_iast (M := mX8_command) (len := 60) (d := (0, 60)) dX8_command_186 15 rfl rfl (by omega) (Nat.le_of_ble_eq_true rfl) g25.1 g25.2 ?_
                      refine g_lv (M := mX8_command) [0, 1] rfl ?_
                      exact j62 (zPa t84.1 16 (t23.1 42) t84.2) h
                · obtain ⟨g87, h⟩ := zgi h
                  refine h_icmp_ne (M := mX8_command) (tgt := 168) dX8_command_155 (by decide) g87 (by decide) (fun c86 => ?_) (fun c86 => ?_)
                  · have h := zfi c86 h
                    exact j57 x52 h
                  · have h := zti c86 h
                    refine g_aload_n (M := mX8_command) dX8_command_158 0 rfl rfl ?_
                    refine k_get (M := mX8_command) (v := .ref (A (qMo + 16))) dX8_command_159 kF_X8_63.r qMo (by omega) (zC_o) rfl ?_
                    refine g_iload_n (M := mX8_command) dX8_command_162 2 rfl rfl ?_
                    refine g_aload_n (M := mX8_command) dX8_command_163 0 rfl rfl ?_
                    obtain ⟨t88, u89, h⟩ := zbi h
                    refine g_callVr (M := mX8_command) [] hX dX8_command_164 vX8_toldWord kM_X8_427 (wX8_toldWord hX zC_self (by omega)  u89) qMo (zWs_at (by omega) (zC_o)) rfl ⟨(Nat.le_of_ble_eq_true rfl), (Nat.le_of_ble_eq_true rfl)⟩ ⟨(Nat.le_of_ble_eq_true rfl), (Nat.le_of_ble_eq_true rfl)⟩ (Nat.le_of_ble_eq_true rfl) ?_
                    refine g_ws (M := mX8_command) (congrArg (zWs A n) zC_over) ?_
                    refine c_iast (M := mX8_command) (len := 60) (d := (0, 60)) dX8_command_167 15 rfl rfl (by omega) (Nat.le_of_ble_eq_true rfl) g25.1 g25.2 ?_
                    exact j57 (zPa t88.1 16 (t23.1 42) t88.2) h
              · refine zJn_J (J := fun x93 => G X mX8_command (zPm X 3 0 0 (zRet (zWs A n (zC X A shMo qMo res S)) none)) 0 0 139 [(0, .ref (A qMo)), (1, .int (iI t1)), (2, .int (iI (t23.1 42)))] [] (zWs A n (zC X A shMo qMo x42 S))) h (fun x93 h => ?_) (fun j93 h => ?_)
                · refine g_aload_n (M := mX8_command) dX8_command_139 0 rfl rfl ?_
                  refine k_get (M := mX8_command) (v := .ref (A (qMo + 16))) dX8_command_140 kF_X8_63.r qMo (by omega) (zC_o) rfl ?_
                  refine g_iload_n (M := mX8_command) dX8_command_143 2 rfl rfl ?_
                  refine g_aload_n (M := mX8_command) dX8_command_144 0 rfl rfl ?_
                  refine h_iconst (M := mX8_command) dX8_command_145 ?_
                  refine h_sipush (M := mX8_command) dX8_command_146 rfl ?_
                  obtain ⟨t94, u95, h⟩ := zbi h
                  refine g_callVr (M := mX8_command) [.int (iI 0), .int (iI 999)] hX dX8_command_149 vX8_number kM_X8_190 (wX8_number hX zC_self (by omega)  u95) qMo (zWs_at (by omega) (zC_o)) rfl ⟨(Nat.le_of_ble_eq_true rfl), (Nat.le_of_ble_eq_true rfl)⟩ ⟨(Nat.le_of_ble_eq_true rfl), (Nat.le_of_ble_eq_true rfl)⟩ (Nat.le_of_ble_eq_true rfl) ?_
                  refine g_ws (M := mX8_command) (congrArg (zWs A n) zC_over) ?_
                  refine c_iast (M := mX8_command) (len := 60) (d := (0, 60)) dX8_command_152 15 rfl rfl (by omega) (Nat.le_of_ble_eq_true rfl) g25.1 g25.2 ?_
                  exact j52 (zPa t94.1 16 (t23.1 42) t94.2) h
                · obtain ⟨g97, h⟩ := zgi h
                  refine h_icmp_eq (M := mX8_command) (tgt := 139) dX8_command_130 (by decide) g97 (by decide) (fun c96 => ?_) (fun c96 => ?_)
                  · have h := zti c96 h
                    exact j93 () h
                  · have h := zfi c96 h
                    refine g_iload_n (M := mX8_command) dX8_command_133 1 rfl rfl ?_
                    refine h_bipush (M := mX8_command) dX8_command_134 rfl ?_
                    refine h_icmp_ne (M := mX8_command) (tgt := 153) dX8_command_136 (by decide) g97 (by decide) (fun c98 => ?_) (fun c98 => ?_)
                    · have h := zfi c98 h
                      exact j52 x42 h
                    · have h := zti c98 h
                      exact j93 () h
            · obtain ⟨g100, h⟩ := zgi h
              refine h_if_ne (M := mX8_command) (tgt := 128) dX8_command_111 (by decide) g100 (fun c99 => ?_) (fun c99 => ?_)
              · have h := zfi c99 h
                exact j42 x37 h
              · have h := zti c99 h
                refine g_aload_n (M := mX8_command) dX8_command_114 0 rfl rfl ?_
                refine k_get (M := mX8_command) (v := .ref (A (qMo + 17))) dX8_command_115 kF_X8_66.r qMo (by omega) (zC_o) rfl ?_
                refine g_iload_n (M := mX8_command) dX8_command_118 2 rfl rfl ?_
                refine g_aload_n (M := mX8_command) dX8_command_119 0 rfl rfl ?_
                refine h_iconst (M := mX8_command) dX8_command_120 ?_
                refine h_sipush (M := mX8_command) dX8_command_121 rfl ?_
                obtain ⟨t101, u102, h⟩ := zbi h
                refine g_callVr (M := mX8_command) [.int (iI 0), .int (iI 999)] hX dX8_command_124 vX8_number kM_X8_190 (wX8_number hX zC_self (by omega)  u102) qMo (zWs_at (by omega) (zC_o)) rfl ⟨(Nat.le_of_ble_eq_true rfl), (Nat.le_of_ble_eq_true rfl)⟩ ⟨(Nat.le_of_ble_eq_true rfl), (Nat.le_of_ble_eq_true rfl)⟩ (Nat.le_of_ble_eq_true rfl) ?_
                refine g_ws (M := mX8_command) (congrArg (zWs A n) zC_over) ?_
                refine c_iast (M := mX8_command) (len := 60) (d := (0, 60)) dX8_command_127 16 rfl rfl (by omega) (Nat.le_of_ble_eq_true rfl) g25.1 g25.2 ?_
                exact j42 (zPa t101.1 17 (t23.1 42) t101.2) h
          · refine zJn_J (J := fun x107 => G X mX8_command (zPm X 3 0 0 (zRet (zWs A n (zC X A shMo qMo res S)) none)) 0 0 100 [(0, .ref (A qMo)), (1, .int (iI t1)), (2, .int (iI (t23.1 42)))] [] (zWs A n (zC X A shMo qMo (zPa t23 15 (t23.1 42) t1) S))) h (fun x107 h => ?_) (fun j107 h => ?_)
            · refine g_aload_n (M := mX8_command) dX8_command_100 0 rfl rfl ?_
              refine k_get (M := mX8_command) (v := .ref (A (qMo + 16))) dX8_command_101 kF_X8_63.r qMo (by omega) (zC_o) rfl ?_
              refine g_iload_n (M := mX8_command) dX8_command_104 2 rfl rfl ?_
              refine g_aload_n (M := mX8_command) dX8_command_105 0 rfl rfl ?_
              obtain ⟨t108, u109, h⟩ := zbi h
              refine g_callVr (M := mX8_command) [] hX dX8_command_106 vX8_toldRow kM_X8_424 (wX8_toldRow hX zC_self (by omega)  u109) qMo (zWs_at (by omega) (zC_o)) rfl ⟨(Nat.le_of_ble_eq_true rfl), (Nat.le_of_ble_eq_true rfl)⟩ ⟨(Nat.le_of_ble_eq_true rfl), (Nat.le_of_ble_eq_true rfl)⟩ (Nat.le_of_ble_eq_true rfl) ?_
              refine g_ws (M := mX8_command) (congrArg (zWs A n) zC_over) ?_
              refine c_iast (M := mX8_command) (len := 60) (d := (0, 60)) dX8_command_109 15 rfl rfl (by omega) (Nat.le_of_ble_eq_true rfl) g25.1 g25.2 ?_
              exact j37 (zPa t108.1 16 (t23.1 42) t108.2) h
            · obtain ⟨g111, h⟩ := zgi h
              refine h_icmp_le (M := mX8_command) (tgt := 100) dX8_command_85 (by decide) g111 (by decide) (fun c110 => ?_) (fun c110 => ?_)
              · have h := zti c110 h
                exact j107 () h
              · have h := zfi (Int.not_le.mpr c110) h
                refine g_iload_n (M := mX8_command) dX8_command_88 1 rfl rfl ?_
                refine h_bipush (M := mX8_command) dX8_command_89 rfl ?_
                refine h_icmp_eq (M := mX8_command) (tgt := 100) dX8_command_91 (by decide) g111 (by decide) (fun c112 => ?_) (fun c112 => ?_)
                · have h := zti c112 h
                  exact j107 () h
                · have h := zfi c112 h
                  refine g_iload_n (M := mX8_command) dX8_command_94 1 rfl rfl ?_
                  refine h_bipush (M := mX8_command) dX8_command_95 rfl ?_
                  refine h_icmp_ne (M := mX8_command) (tgt := 110) dX8_command_97 (by decide) g111 (by decide) (fun c113 => ?_) (fun c113 => ?_)
                  · have h := zfi c113 h
                    exact j37 (zPa t23 15 (t23.1 42) t1) h
                  · have h := zti c113 h
                    exact j107 () h
        · have h := zfi (zbf c22) h
          have e := (Option.some.inj h)
          subst e
          exact g_vret (M := mX8_command) dX8_command_56 rfl (Nat.le_of_ble_eq_true rfl) (Nat.le_of_ble_eq_true rfl) ⟨rfl, rfl⟩
      · obtain ⟨g115, h⟩ := zgi h
        refine h_icmp_ne (M := mX8_command) (tgt := 49) dX8_command_40 (by decide) g115 (by decide) (fun c114 => ?_) (fun c114 => ?_)
        · have h := zfi c114 h
          exact j19 x14 h
        · have h := zti c114 h
          refine g_aload_n (M := mX8_command) dX8_command_43 0 rfl rfl ?_
          refine h_bipush (M := mX8_command) dX8_command_44 rfl ?_
          obtain ⟨t116, u117, h⟩ := zbi h
          refine g_callVr (M := mX8_command) [.int (iI 6)] hX dX8_command_46 vX8_wrong kM_X8_146 (wX8_wrong hX zC_self (by omega)  u117) qMo (zWs_at (by omega) (zC_o)) rfl ⟨(Nat.le_of_ble_eq_true rfl), (Nat.le_of_ble_eq_true rfl)⟩ ⟨(Nat.le_of_ble_eq_true rfl), (Nat.le_of_ble_eq_true rfl)⟩ (Nat.le_of_ble_eq_true rfl) ?_
          refine g_ws (M := mX8_command) (congrArg (zWs A n) zC_over) ?_
          exact j19 t116 h
    · obtain ⟨g119, h⟩ := zgi h
      refine h_icmp_ne (M := mX8_command) (tgt := 34) dX8_command_18 (by decide) g119 (by decide) (fun c118 => ?_) (fun c118 => ?_)
      · have h := zfi c118 h
        exact j14 x7 h
      · have h := zti c118 h
        refine g_aload_n (M := mX8_command) dX8_command_21 0 rfl rfl ?_
        refine k_get (M := mX8_command) (v := .int (iI (x7.1 44))) dX8_command_22 kF_X8_415.r qMo (by omega) (zC_o) rfl ?_
        refine h_iconst (M := mX8_command) dX8_command_25 ?_
        obtain ⟨g121, h⟩ := zgi h
        refine h_icmp_ne (M := mX8_command) (tgt := 34) dX8_command_26 (by decide) g121 (by decide) (fun c120 => ?_) (fun c120 => ?_)
        · have h := zfi c120 h
          exact j14 x7 h
        · have h := zti c120 h
          refine g_aload_n (M := mX8_command) dX8_command_29 0 rfl rfl ?_
          refine h_iconst (M := mX8_command) dX8_command_30 ?_
          obtain ⟨t122, u123, h⟩ := zbi h
          refine g_callVr (M := mX8_command) [.int (iI 4)] hX dX8_command_31 vX8_wrong kM_X8_146 (wX8_wrong hX zC_self (by omega)  u123) qMo (zWs_at (by omega) (zC_o)) rfl ⟨(Nat.le_of_ble_eq_true rfl), (Nat.le_of_ble_eq_true rfl)⟩ ⟨(Nat.le_of_ble_eq_true rfl), (Nat.le_of_ble_eq_true rfl)⟩ (Nat.le_of_ble_eq_true rfl) ?_
          refine g_ws (M := mX8_command) (congrArg (zWs A n) zC_over) ?_
          exact j14 t122 h
  · obtain ⟨g125, h⟩ := zgi h
    refine h_icmp_ne (M := mX8_command) (tgt := 15) dX8_command_7 (by decide) g125 (by decide) (fun c124 => ?_) (fun c124 => ?_)
    · have h := zfi c124 h
      exact j7 VMo h
    · have h := zti c124 h
      refine g_aload_n (M := mX8_command) dX8_command_10 0 rfl rfl ?_
      refine h_iconst (M := mX8_command) dX8_command_11 ?_
      obtain ⟨t126, u127, h⟩ := zbi h
      refine g_callVr (M := mX8_command) [.int (iI 1)] hX dX8_command_12 vX8_wrong kM_X8_146 (wX8_wrong hX zC_self (by omega)  u127) qMo (zWs_at (by omega) (zC_o)) rfl ⟨(Nat.le_of_ble_eq_true rfl), (Nat.le_of_ble_eq_true rfl)⟩ ⟨(Nat.le_of_ble_eq_true rfl), (Nat.le_of_ble_eq_true rfl)⟩ (Nat.le_of_ble_eq_true rfl) ?_
      refine g_ws (M := mX8_command) (congrArg (zWs A n) zC_over) ?_
      exact j7 t126 h
set_option maxHeartbeats 4000000 in
set_option maxRecDepth 100000 in
theorem wX8_common {X : zX} (hX : zOK X) {A : Nat → Nat} {n : Nat} {S : Nat → va_E} {qMo : Nat} {VMo : CV} (hMo : isC X A shMo qMo VMo S) (bMo : qMo + 20 < n) {res : CV × Int} (h : fX8_common VMo = some res) : Con X yX8_common mX8_common 2 0 0 [.ref (A qMo)] (zWs A n S) (zRet (zWs A n (zC X A shMo qMo res.1 S)) (some (.int (iI res.2)))) := by
  refine con_of (lv := [(0, .ref (A qMo))]) (by decide) rfl (fun h => by cases h) rfl (Nat.le_of_ble_eq_true rfl) rfl ?_
  refine g_ws (M := mX8_common) (congrArg (zWs A n) hMo.symm) ?_
  unfold fX8_common at h
  refine g_aload_n (M := mX8_common) dX8_common_0 0 rfl rfl ?_
  refine h_iconst (M := mX8_common) dX8_common_1 ?_
  refine c_put (M := mX8_common) (k := 0) dX8_common_2 kF_X8_81 (by omega) rfl rfl (by decide) rfl rfl ?_
  refine g_aload_n (M := mX8_common) dX8_common_5 0 rfl rfl ?_
  obtain ⟨t1, u2, h⟩ := zbi h
  refine g_callVr (M := mX8_common) [] hX dX8_common_6 vX8_chosen kM_X8_350 (wX8_chosen hX zC_self (by omega)  u2) qMo (zWs_at (by omega) (zC_o)) rfl ⟨(Nat.le_of_ble_eq_true rfl), (Nat.le_of_ble_eq_true rfl)⟩ ⟨(Nat.le_of_ble_eq_true rfl), (Nat.le_of_ble_eq_true rfl)⟩ (Nat.le_of_ble_eq_true rfl) ?_
  obtain ⟨g4, h⟩ := zgi h
  refine h_if_ne (M := mX8_common) (tgt := 14) dX8_common_9 (by decide) g4 (fun c3 => ?_) (fun c3 => ?_)
  · have h := zfi c3 h
    refine g_aload_n (M := mX8_common) dX8_common_14 0 rfl rfl ?_
    refine h_iconst (M := mX8_common) dX8_common_15 ?_
    obtain ⟨t5, u6, h⟩ := zbi h
    refine g_callVr (M := mX8_common) [.int (iI (-1))] hX dX8_common_16 vX8_laysProfile kM_X8_347 (wX8_laysProfile hX zC_self (by omega)  u6) qMo (zWs_at (by omega) (zC_o)) rfl ⟨(Nat.le_of_ble_eq_true rfl), (Nat.le_of_ble_eq_true rfl)⟩ ⟨(Nat.le_of_ble_eq_true rfl), (Nat.le_of_ble_eq_true rfl)⟩ (Nat.le_of_ble_eq_true rfl) ?_
    refine g_ws (M := mX8_common) (congrArg (zWs A n) zC_over) ?_
    refine h_iconst (M := mX8_common) dX8_common_19 ?_
    refine g_istore_n (M := mX8_common) (lv' := [(0, .ref (A qMo)), (1, .int (iI 0))]) dX8_common_20 rfl (by decide) rfl ?_
    refine h_iconst (M := mX8_common) dX8_common_21 ?_
    refine g_istore_n (M := mX8_common) (lv' := [(0, .ref (A qMo)), (1, .int (iI 0)), (2, .int (iI 0))]) dX8_common_22 rfl (by decide) rfl ?_
    obtain ⟨x7, l7, h⟩ := zbi h
    have r7 : ∀ y7, y7 = x7 → G X mX8_common (zPm X 2 0 0 (zRet (zWs A n (zC X A shMo qMo res.1 S)) (some (.int (iI res.2))))) 0 0 54 [(1, .int (iI y7.1))] [] (zWs A n (zC X A shMo qMo t5 S)) := by
      intro y7 ey
      rw [← ey] at h
      refine g_iload_n (M := mX8_common) dX8_common_54 0 rfl rfl ?_
      have e := (Option.some.inj h)
      subst e
      exact g_iret (M := mX8_common) dX8_common_55 rfl (Nat.le_of_ble_eq_true rfl) (Nat.le_of_ble_eq_true rfl) ⟨rfl, rfl⟩
    refine zLp_J (J := fun s7 => G X mX8_common (zPm X 2 0 0 (zRet (zWs A n (zC X A shMo qMo res.1 S)) (some (.int (iI res.2))))) 0 0 23 [(0, .ref (A qMo)), (1, .int (iI s7.1)), (2, .int (iI s7.2))] [] (zWs A n (zC X A shMo qMo t5 S))) (fun s7 w7 h7 b7 e7 => ?_) _ _ l7
    refine g_iload_n (M := mX8_common) dX8_common_23 2 rfl rfl ?_
    refine g_aload_n (M := mX8_common) dX8_common_24 0 rfl rfl ?_
    refine k_get (M := mX8_common) (v := .ref (A (qMo + 2))) dX8_common_25 kF_X8_20.r qMo (by omega) (zC_o) rfl ?_
    refine h_iconst (M := mX8_common) dX8_common_28 ?_
    refine k_iald (M := mX8_common) (len := 351) (f := t5.2 2) dX8_common_29 (qMo + 2) (by omega) (zC_a (d := (0, 351)) 1 rfl) (Nat.le_of_ble_eq_true rfl) (by decide) (by decide) ?_
    obtain ⟨g13, h7⟩ := zgi h7
    refine h_icmp_ge (M := mX8_common) (tgt := 54) dX8_common_30 (by decide) g13.1 g13.2 (fun c12 => ?_) (fun c12 => ?_)
    · have h7 := zti c12 h7
      refine g_lv (M := mX8_common) [1] rfl ?_
      exact r7 _ (e7 _ (Option.some.inj h7).symm)
    · have h7 := zfi (Int.not_le.mpr c12) h7
      refine g_aload_n (M := mX8_common) dX8_common_33 0 rfl rfl ?_
      refine k_get (M := mX8_common) (v := .ref (A (qMo + 2))) dX8_common_34 kF_X8_20.r qMo (by omega) (zC_o) rfl ?_
      refine h_iconst (M := mX8_common) dX8_common_37 ?_
      refine k_iald (M := mX8_common) (len := 351) (f := t5.2 2) dX8_common_38 (qMo + 2) (by omega) (zC_a (d := (0, 351)) 1 rfl) (Nat.le_of_ble_eq_true rfl) (by decide) (by decide) ?_
      refine g_iload_n (M := mX8_common) dX8_common_39 1 rfl rfl ?_
      refine h_imul (M := mX8_common) dX8_common_40 ?_
      refine g_aload_n (M := mX8_common) dX8_common_41 0 rfl rfl ?_
      refine g_iload_n (M := mX8_common) dX8_common_42 2 rfl rfl ?_
      obtain ⟨t14, u15, h7⟩ := zbi h7
      refine g_callVr (M := mX8_common) [.int (iI s7.2)] hX dX8_common_43 vX8_mostAt kM_X8_353 (wX8_mostAt hX zC_self (by omega)  u15) qMo (zWs_at (by omega) (zC_o)) rfl ⟨(Nat.le_of_ble_eq_true rfl), (Nat.le_of_ble_eq_true rfl)⟩ ⟨(Nat.le_of_ble_eq_true rfl), (Nat.le_of_ble_eq_true rfl)⟩ (Nat.le_of_ble_eq_true rfl) ?_
      refine h_iadd (M := mX8_common) dX8_common_46 ?_
      refine g_istore_n (M := mX8_common) (lv' := [(0, .ref (A qMo)), (1, .int (iI (((t5.2 2 1) * s7.1) + t14))), (2, .int (iI s7.2))]) dX8_common_47 rfl (by decide) rfl ?_
      refine h_iinc (M := mX8_common) (j := 2) (lv' := [(0, .ref (A qMo)), (1, .int (iI (((t5.2 2 1) * s7.1) + t14))), (2, .int (iI (s7.2 + 1)))]) dX8_common_48 rfl (Nat.le_of_ble_eq_true rfl) rfl ?_
      refine g_goto (M := mX8_common) (tgt := 23) dX8_common_51 (by decide) ?_
      exact b7 _ (Option.some.inj h7).symm
  · have h := zti c3 h
    refine h_iconst (M := mX8_common) dX8_common_12 ?_
    have e := (Option.some.inj h)
    subst e
    exact g_iret (M := mX8_common) dX8_common_13 rfl (Nat.le_of_ble_eq_true rfl) (Nat.le_of_ble_eq_true rfl) ⟨rfl, rfl⟩
set_option maxHeartbeats 4000000 in
set_option maxRecDepth 100000 in
theorem wX8_wordThere {X : zX} (hX : zOK X) {A : Nat → Nat} {n : Nat} {S : Nat → va_E} {qMo : Nat} {VMo : CV} (hMo : isC X A shMo qMo VMo S) (bMo : qMo + 20 < n) {a1 : Int} {a2 : Int} {res : Int} (h : fX8_wordThere VMo a1 a2 = some res) : Con X yX8_wordThere mX8_wordThere 1 0 0 [.ref (A qMo), .int (iI a1), .int (iI a2)] (zWs A n S) (zRet (zWs A n S) (some (.int (iI res)))) := by
  refine con_of (lv := [(0, .ref (A qMo)), (1, .int (iI a1)), (2, .int (iI a2))]) (by decide) rfl (fun h => by cases h) rfl (Nat.le_of_ble_eq_true rfl) rfl ?_
  unfold fX8_wordThere at h
  refine h_iconst (M := mX8_wordThere) dX8_wordThere_0 ?_
  refine g_istore_n (M := mX8_wordThere) (lv' := [(0, .ref (A qMo)), (1, .int (iI a1)), (2, .int (iI a2)), (3, .int (iI 0))]) dX8_wordThere_1 rfl (by decide) rfl ?_
  refine h_iconst (M := mX8_wordThere) dX8_wordThere_2 ?_
  refine g_istore (M := mX8_wordThere) (lv' := [(0, .ref (A qMo)), (1, .int (iI a1)), (2, .int (iI a2)), (3, .int (iI 0)), (4, .int (iI 0))]) dX8_wordThere_3 (by decide) rfl ?_
  obtain ⟨x1, l1, h⟩ := zbi h
  have r1 : ∀ y1, y1 = x1 → G X mX8_wordThere (zPm X 1 0 0 (zRet (zWs A n S) (some (.int (iI res))))) 0 0 41 [(3, .int (iI y1.1))] [] (zWs A n S) := by
    intro y1 ey
    rw [← ey] at h
    refine g_iload_n (M := mX8_wordThere) dX8_wordThere_41 0 rfl rfl ?_
    have e := (Option.some.inj h)
    subst e
    exact g_iret (M := mX8_wordThere) dX8_wordThere_42 rfl (Nat.le_of_ble_eq_true rfl) (Nat.le_of_ble_eq_true rfl) ⟨rfl, rfl⟩
  refine zLp_J (J := fun s1 => G X mX8_wordThere (zPm X 1 0 0 (zRet (zWs A n S) (some (.int (iI res))))) 0 0 5 [(0, .ref (A qMo)), (1, .int (iI a1)), (2, .int (iI a2)), (3, .int (iI s1.1)), (4, .int (iI s1.2))] [] (zWs A n S)) (fun s1 w1 h1 b1 e1 => ?_) _ _ l1
  refine g_iload (M := mX8_wordThere) dX8_wordThere_5 4 rfl ?_
  refine g_aload_n (M := mX8_wordThere) dX8_wordThere_7 0 rfl rfl ?_
  refine k_get (M := mX8_wordThere) (v := .ref (A (qMo + 2))) dX8_wordThere_8 kF_X8_20.r qMo (by omega) (hMo.o) rfl ?_
  refine h_iconst (M := mX8_wordThere) dX8_wordThere_11 ?_
  refine k_iald (M := mX8_wordThere) (len := 351) (f := VMo.2 2) dX8_wordThere_12 (qMo + 2) (by omega) (hMo.a (d := (0, 351)) 1 rfl) (Nat.le_of_ble_eq_true rfl) (by decide) (by decide) ?_
  obtain ⟨g7, h1⟩ := zgi h1
  refine h_icmp_ge (M := mX8_wordThere) (tgt := 41) dX8_wordThere_13 (by decide) g7.1 g7.2 (fun c6 => ?_) (fun c6 => ?_)
  · have h1 := zti c6 h1
    refine g_lv (M := mX8_wordThere) [3] rfl ?_
    exact r1 _ (e1 _ (Option.some.inj h1).symm)
  · have h1 := zfi (Int.not_le.mpr c6) h1
    refine g_aload_n (M := mX8_wordThere) dX8_wordThere_16 0 rfl rfl ?_
    refine k_get (M := mX8_wordThere) (v := .ref (A (qMo + 2))) dX8_wordThere_17 kF_X8_20.r qMo (by omega) (hMo.o) rfl ?_
    refine h_iconst (M := mX8_wordThere) dX8_wordThere_20 ?_
    refine k_iald (M := mX8_wordThere) (len := 351) (f := VMo.2 2) dX8_wordThere_21 (qMo + 2) (by omega) (hMo.a (d := (0, 351)) 1 rfl) (Nat.le_of_ble_eq_true rfl) (by decide) (by decide) ?_
    refine g_iload_n (M := mX8_wordThere) dX8_wordThere_22 3 rfl rfl ?_
    refine h_imul (M := mX8_wordThere) dX8_wordThere_23 ?_
    refine g_aload_n (M := mX8_wordThere) dX8_wordThere_24 0 rfl rfl ?_
    refine g_iload_n (M := mX8_wordThere) dX8_wordThere_25 1 rfl rfl ?_
    refine g_iload_n (M := mX8_wordThere) dX8_wordThere_26 2 rfl rfl ?_
    refine g_iload (M := mX8_wordThere) dX8_wordThere_27 4 rfl ?_
    refine h_iadd (M := mX8_wordThere) dX8_wordThere_29 ?_
    obtain ⟨t8, u9, h1⟩ := zbi h1
    refine g_callVr (M := mX8_wordThere) [.int (iI a1), .int (iI (a2 + s1.2))] hX dX8_wordThere_30 vX8_letterAt kM_X8_232 (wX8_letterAt hX hMo (by omega)  u9) qMo (zWs_at (by omega) (hMo.o)) rfl ⟨(Nat.le_of_ble_eq_true rfl), (Nat.le_of_ble_eq_true rfl)⟩ ⟨(Nat.le_of_ble_eq_true rfl), (Nat.le_of_ble_eq_true rfl)⟩ (Nat.le_of_ble_eq_true rfl) ?_
    refine h_iadd (M := mX8_wordThere) dX8_wordThere_33 ?_
    refine g_istore_n (M := mX8_wordThere) (lv' := [(0, .ref (A qMo)), (1, .int (iI a1)), (2, .int (iI a2)), (3, .int (iI (((VMo.2 2 1) * s1.1) + t8))), (4, .int (iI s1.2))]) dX8_wordThere_34 rfl (by decide) rfl ?_
    refine h_iinc (M := mX8_wordThere) (j := 4) (lv' := [(0, .ref (A qMo)), (1, .int (iI a1)), (2, .int (iI a2)), (3, .int (iI (((VMo.2 2 1) * s1.1) + t8))), (4, .int (iI (s1.2 + 1)))]) dX8_wordThere_35 rfl (Nat.le_of_ble_eq_true rfl) rfl ?_
    refine g_goto (M := mX8_wordThere) (tgt := 5) dX8_wordThere_38 (by decide) ?_
    exact b1 _ (Option.some.inj h1).symm
set_option maxHeartbeats 4000000 in
set_option maxRecDepth 100000 in
theorem wX8_laysTimes {X : zX} (hX : zOK X) {A : Nat → Nat} {n : Nat} {S : Nat → va_E} {qMo : Nat} {VMo : CV} (hMo : isC X A shMo qMo VMo S) (bMo : qMo + 20 < n) {res : CV} (h : fX8_laysTimes VMo = some res) : Con X yX8_laysTimes mX8_laysTimes 3 0 0 [.ref (A qMo)] (zWs A n S) (zRet (zWs A n (zC X A shMo qMo res S)) none) := by
  refine con_of (lv := [(0, .ref (A qMo))]) (by decide) rfl (fun h => by cases h) rfl (Nat.le_of_ble_eq_true rfl) rfl ?_
  refine g_ws (M := mX8_laysTimes) (congrArg (zWs A n) hMo.symm) ?_
  unfold fX8_laysTimes at h
  refine h_iconst (M := mX8_laysTimes) dX8_laysTimes_0 ?_
  refine g_istore_n (M := mX8_laysTimes) (lv' := [(0, .ref (A qMo)), (1, .int (iI 0))]) dX8_laysTimes_1 rfl (by decide) rfl ?_
  obtain ⟨x1, l1, h⟩ := zbi h
  have r1 : ∀ y1, y1 = x1 → G X mX8_laysTimes (zPm X 3 0 0 (zRet (zWs A n (zC X A shMo qMo res S)) none)) 0 0 23 [(0, .ref (A qMo))] [] (zWs A n (zC X A shMo qMo y1.2 S)) := by
    intro y1 ey
    rw [← ey] at h
    refine h_iconst (M := mX8_laysTimes) dX8_laysTimes_23 ?_
    refine g_istore_n (M := mX8_laysTimes) (lv' := [(0, .ref (A qMo)), (1, .int (iI 0))]) dX8_laysTimes_24 rfl (by decide) rfl ?_
    obtain ⟨x7, l7, h⟩ := zbi h
    have r7 : ∀ y7, y7 = x7 → G X mX8_laysTimes (zPm X 3 0 0 (zRet (zWs A n (zC X A shMo qMo res S)) none)) 0 0 83 [] [] (zWs A n (zC X A shMo qMo y7.2 S)) := by
      intro y7 ey
      rw [← ey] at h
      have e := (Option.some.inj h)
      subst e
      exact g_vret (M := mX8_laysTimes) dX8_laysTimes_83 rfl (Nat.le_of_ble_eq_true rfl) (Nat.le_of_ble_eq_true rfl) ⟨rfl, rfl⟩
    refine zLp_J (J := fun s7 => G X mX8_laysTimes (zPm X 3 0 0 (zRet (zWs A n (zC X A shMo qMo res S)) none)) 0 0 25 [(0, .ref (A qMo)), (1, .int (iI s7.1))] [] (zWs A n (zC X A shMo qMo s7.2 S))) (fun s7 w7 h7 b7 e7 => ?_) _ _ l7
    refine g_iload_n (M := mX8_laysTimes) dX8_laysTimes_25 1 rfl rfl ?_
    refine g_aload_n (M := mX8_laysTimes) dX8_laysTimes_26 0 rfl rfl ?_
    refine k_get (M := mX8_laysTimes) (v := .ref (A (qMo + 2))) dX8_laysTimes_27 kF_X8_20.r qMo (by omega) (zC_o) rfl ?_
    refine h_iconst (M := mX8_laysTimes) dX8_laysTimes_30 ?_
    refine k_iald (M := mX8_laysTimes) (len := 351) (f := s7.2.2 2) dX8_laysTimes_31 (qMo + 2) (by omega) (zC_a (d := (0, 351)) 1 rfl) (Nat.le_of_ble_eq_true rfl) (by decide) (by decide) ?_
    obtain ⟨g32, h7⟩ := zgi h7
    refine h_icmp_ge (M := mX8_laysTimes) (tgt := 83) dX8_laysTimes_32 (by decide) g32.1 g32.2 (fun c31 => ?_) (fun c31 => ?_)
    · have h7 := zti c31 h7
      refine g_lv (M := mX8_laysTimes) [] rfl ?_
      exact r7 _ (e7 _ (Option.some.inj h7).symm)
    · have h7 := zfi (Int.not_le.mpr c31) h7
      refine h_iconst (M := mX8_laysTimes) dX8_laysTimes_35 ?_
      refine g_istore_n (M := mX8_laysTimes) (lv' := [(0, .ref (A qMo)), (1, .int (iI s7.1)), (2, .int (iI 0))]) dX8_laysTimes_36 rfl (by decide) rfl ?_
      obtain ⟨x33, l33, h7⟩ := zbi h7
      have r33 : ∀ y33, y33 = x33 → G X mX8_laysTimes (zPm X 3 0 0 (zRet (zWs A n (zC X A shMo qMo res S)) none)) 0 0 77 [(0, .ref (A qMo)), (1, .int (iI s7.1))] [] (zWs A n (zC X A shMo qMo y33.2 S)) := by
        intro y33 ey
        rw [← ey] at h7
        refine h_iinc (M := mX8_laysTimes) (j := 1) (lv' := [(0, .ref (A qMo)), (1, .int (iI (s7.1 + 1)))]) dX8_laysTimes_77 rfl (Nat.le_of_ble_eq_true rfl) rfl ?_
        refine g_goto (M := mX8_laysTimes) (tgt := 25) dX8_laysTimes_80 (by decide) ?_
        exact b7 _ (Option.some.inj h7).symm
      refine zLp_J (J := fun s33 => G X mX8_laysTimes (zPm X 3 0 0 (zRet (zWs A n (zC X A shMo qMo res S)) none)) 0 0 37 [(0, .ref (A qMo)), (1, .int (iI s7.1)), (2, .int (iI s33.1))] [] (zWs A n (zC X A shMo qMo s33.2 S))) (fun s33 w33 h33 b33 e33 => ?_) _ _ l33
      refine g_iload_n (M := mX8_laysTimes) dX8_laysTimes_37 2 rfl rfl ?_
      refine g_aload_n (M := mX8_laysTimes) dX8_laysTimes_38 0 rfl rfl ?_
      refine g_iload_n (M := mX8_laysTimes) dX8_laysTimes_39 1 rfl rfl ?_
      refine h_iconst (M := mX8_laysTimes) dX8_laysTimes_40 ?_
      obtain ⟨t44, u45, h33⟩ := zbi h33
      refine g_callVr (M := mX8_laysTimes) [.int (iI s7.1), .int (iI 0)] hX dX8_laysTimes_41 vX8_of kM_X8_166 (wX8_of hX zC_self (by omega)  u45) qMo (zWs_at (by omega) (zC_o)) rfl ⟨(Nat.le_of_ble_eq_true rfl), (Nat.le_of_ble_eq_true rfl)⟩ ⟨(Nat.le_of_ble_eq_true rfl), (Nat.le_of_ble_eq_true rfl)⟩ (Nat.le_of_ble_eq_true rfl) ?_
      obtain ⟨g47, h33⟩ := zgi h33
      refine h_icmp_ge (M := mX8_laysTimes) (tgt := 77) dX8_laysTimes_44 (by decide) g47.1 g47.2 (fun c46 => ?_) (fun c46 => ?_)
      · have h33 := zti c46 h33
        refine g_lv (M := mX8_laysTimes) [0, 1] rfl ?_
        exact r33 _ (e33 _ (Option.some.inj h33).symm)
      · have h33 := zfi (Int.not_le.mpr c46) h33
        refine g_aload_n (M := mX8_laysTimes) dX8_laysTimes_47 0 rfl rfl ?_
        refine g_iload_n (M := mX8_laysTimes) dX8_laysTimes_48 1 rfl rfl ?_
        refine g_iload_n (M := mX8_laysTimes) dX8_laysTimes_49 2 rfl rfl ?_
        obtain ⟨t48, u49, h33⟩ := zbi h33
        refine g_callVr (M := mX8_laysTimes) [.int (iI s7.1), .int (iI s33.1)] hX dX8_laysTimes_50 vX8_isPlace kM_X8_229 (wX8_isPlace hX zC_self (by omega)  u49) qMo (zWs_at (by omega) (zC_o)) rfl ⟨(Nat.le_of_ble_eq_true rfl), (Nat.le_of_ble_eq_true rfl)⟩ ⟨(Nat.le_of_ble_eq_true rfl), (Nat.le_of_ble_eq_true rfl)⟩ (Nat.le_of_ble_eq_true rfl) ?_
        refine h_beq (M := mX8_laysTimes) (tgt := 71) dX8_laysTimes_53 (by decide) (fun c50 => ?_) (fun c50 => ?_)
        · have h33 := zfi (zbf c50) h33
          refine h_iinc (M := mX8_laysTimes) (j := 2) (lv' := [(0, .ref (A qMo)), (1, .int (iI s7.1)), (2, .int (iI (s33.1 + 1)))]) dX8_laysTimes_71 rfl (Nat.le_of_ble_eq_true rfl) rfl ?_
          refine g_goto (M := mX8_laysTimes) (tgt := 37) dX8_laysTimes_74 (by decide) ?_
          exact b33 _ (Option.some.inj h33).symm
        · have h33 := zti c50 h33
          refine g_aload_n (M := mX8_laysTimes) dX8_laysTimes_56 0 rfl rfl ?_
          refine k_get (M := mX8_laysTimes) (v := .ref (A (qMo + 12))) dX8_laysTimes_57 kF_X8_51.r qMo (by omega) (zC_o) rfl ?_
          refine g_aload_n (M := mX8_laysTimes) dX8_laysTimes_60 0 rfl rfl ?_
          refine g_iload_n (M := mX8_laysTimes) dX8_laysTimes_61 1 rfl rfl ?_
          refine g_iload_n (M := mX8_laysTimes) dX8_laysTimes_62 2 rfl rfl ?_
          obtain ⟨t51, u52, h33⟩ := zbi h33
          refine g_callVr (M := mX8_laysTimes) [.int (iI s7.1), .int (iI s33.1)] hX dX8_laysTimes_63 vX8_wordThere kM_X8_265 (wX8_wordThere hX zC_self (by omega)  u52) qMo (zWs_at (by omega) (zC_o)) rfl ⟨(Nat.le_of_ble_eq_true rfl), (Nat.le_of_ble_eq_true rfl)⟩ ⟨(Nat.le_of_ble_eq_true rfl), (Nat.le_of_ble_eq_true rfl)⟩ (Nat.le_of_ble_eq_true rfl) ?_
          refine g_dup2_11 (M := mX8_laysTimes) dX8_laysTimes_66 rfl rfl ?_
          obtain ⟨g53, h33⟩ := zgi h33
          refine k_iald (M := mX8_laysTimes) (len := 4096) (f := s33.2.2 12) dX8_laysTimes_67 (qMo + 12) (by omega) (zC_a (d := (0, 4096)) 11 rfl) (Nat.le_of_ble_eq_true rfl) g53.1 g53.2 ?_
          refine h_iconst (M := mX8_laysTimes) dX8_laysTimes_68 ?_
          refine h_iadd (M := mX8_laysTimes) dX8_laysTimes_69 ?_
          refine c_iast (M := mX8_laysTimes) (len := 4096) (d := (0, 4096)) dX8_laysTimes_70 11 rfl rfl (by omega) (Nat.le_of_ble_eq_true rfl) g53.1 g53.2 ?_
          refine h_iinc (M := mX8_laysTimes) (j := 2) (lv' := [(0, .ref (A qMo)), (1, .int (iI s7.1)), (2, .int (iI (s33.1 + 1)))]) dX8_laysTimes_71 rfl (Nat.le_of_ble_eq_true rfl) rfl ?_
          refine g_goto (M := mX8_laysTimes) (tgt := 37) dX8_laysTimes_74 (by decide) ?_
          exact b33 _ (Option.some.inj h33).symm
  refine zLp_J (J := fun s1 => G X mX8_laysTimes (zPm X 3 0 0 (zRet (zWs A n (zC X A shMo qMo res S)) none)) 0 0 2 [(0, .ref (A qMo)), (1, .int (iI s1.1))] [] (zWs A n (zC X A shMo qMo s1.2 S))) (fun s1 w1 h1 b1 e1 => ?_) _ _ l1
  refine g_iload_n (M := mX8_laysTimes) dX8_laysTimes_2 1 rfl rfl ?_
  refine g_aload_n (M := mX8_laysTimes) dX8_laysTimes_3 0 rfl rfl ?_
  obtain ⟨t54, u55, h1⟩ := zbi h1
  refine g_callVr (M := mX8_laysTimes) [] hX dX8_laysTimes_4 vX8_words kM_X8_162 (wX8_words hX zC_self (by omega)  u55) qMo (zWs_at (by omega) (zC_o)) rfl ⟨(Nat.le_of_ble_eq_true rfl), (Nat.le_of_ble_eq_true rfl)⟩ ⟨(Nat.le_of_ble_eq_true rfl), (Nat.le_of_ble_eq_true rfl)⟩ (Nat.le_of_ble_eq_true rfl) ?_
  obtain ⟨g57, h1⟩ := zgi h1
  refine h_icmp_ge (M := mX8_laysTimes) (tgt := 23) dX8_laysTimes_7 (by decide) g57.1 g57.2 (fun c56 => ?_) (fun c56 => ?_)
  · have h1 := zti c56 h1
    refine g_lv (M := mX8_laysTimes) [0] rfl ?_
    exact r1 _ (e1 _ (Option.some.inj h1).symm)
  · have h1 := zfi (Int.not_le.mpr c56) h1
    refine g_aload_n (M := mX8_laysTimes) dX8_laysTimes_10 0 rfl rfl ?_
    refine k_get (M := mX8_laysTimes) (v := .ref (A (qMo + 12))) dX8_laysTimes_11 kF_X8_51.r qMo (by omega) (zC_o) rfl ?_
    refine g_iload_n (M := mX8_laysTimes) dX8_laysTimes_14 1 rfl rfl ?_
    refine h_iconst (M := mX8_laysTimes) dX8_laysTimes_15 ?_
    obtain ⟨g58, h1⟩ := zgi h1
    refine c_iast (M := mX8_laysTimes) (len := 4096) (d := (0, 4096)) dX8_laysTimes_16 11 rfl rfl (by omega) (Nat.le_of_ble_eq_true rfl) g58.1 g58.2 ?_
    refine h_iinc (M := mX8_laysTimes) (j := 1) (lv' := [(0, .ref (A qMo)), (1, .int (iI (s1.1 + 1)))]) dX8_laysTimes_17 rfl (Nat.le_of_ble_eq_true rfl) rfl ?_
    refine g_goto (M := mX8_laysTimes) (tgt := 2) dX8_laysTimes_20 (by decide) ?_
    exact b1 _ (Option.some.inj h1).symm
set_option maxHeartbeats 4000000 in
set_option maxRecDepth 100000 in
theorem wX8_commonest {X : zX} (hX : zOK X) {A : Nat → Nat} {n : Nat} {S : Nat → va_E} {qMo : Nat} {VMo : CV} (hMo : isC X A shMo qMo VMo S) (bMo : qMo + 20 < n) {res : CV × Int} (h : fX8_commonest VMo = some res) : Con X yX8_commonest mX8_commonest 4 0 0 [.ref (A qMo)] (zWs A n S) (zRet (zWs A n (zC X A shMo qMo res.1 S)) (some (.int (iI res.2)))) := by
  refine con_of (lv := [(0, .ref (A qMo))]) (by decide) rfl (fun h => by cases h) rfl (Nat.le_of_ble_eq_true rfl) rfl ?_
  refine g_ws (M := mX8_commonest) (congrArg (zWs A n) hMo.symm) ?_
  unfold fX8_commonest at h
  refine g_aload_n (M := mX8_commonest) dX8_commonest_0 0 rfl rfl ?_
  refine h_iconst (M := mX8_commonest) dX8_commonest_1 ?_
  refine c_put (M := mX8_commonest) (k := 0) dX8_commonest_2 kF_X8_81 (by omega) rfl rfl (by decide) rfl rfl ?_
  refine g_aload_n (M := mX8_commonest) dX8_commonest_5 0 rfl rfl ?_
  obtain ⟨t1, u2, h⟩ := zbi h
  refine g_callVr (M := mX8_commonest) [] hX dX8_commonest_6 vX8_laysTimes kM_X8_300 (wX8_laysTimes hX zC_self (by omega)  u2) qMo (zWs_at (by omega) (zC_o)) rfl ⟨(Nat.le_of_ble_eq_true rfl), (Nat.le_of_ble_eq_true rfl)⟩ ⟨(Nat.le_of_ble_eq_true rfl), (Nat.le_of_ble_eq_true rfl)⟩ (Nat.le_of_ble_eq_true rfl) ?_
  refine g_ws (M := mX8_commonest) (congrArg (zWs A n) zC_over) ?_
  refine h_iconst (M := mX8_commonest) dX8_commonest_9 ?_
  refine g_istore_n (M := mX8_commonest) (lv' := [(0, .ref (A qMo)), (1, .int (iI (-1)))]) dX8_commonest_10 rfl (by decide) rfl ?_
  refine h_iconst (M := mX8_commonest) dX8_commonest_11 ?_
  refine g_istore_n (M := mX8_commonest) (lv' := [(0, .ref (A qMo)), (1, .int (iI (-1))), (2, .int (iI 0))]) dX8_commonest_12 rfl (by decide) rfl ?_
  obtain ⟨x3, l3, h⟩ := zbi h
  have r3 : ∀ y3, y3 = x3 → G X mX8_commonest (zPm X 4 0 0 (zRet (zWs A n (zC X A shMo qMo res.1 S)) (some (.int (iI res.2))))) 0 0 58 [(1, .int (iI y3.1))] [] (zWs A n (zC X A shMo qMo t1 S)) := by
    intro y3 ey
    rw [← ey] at h
    refine g_iload_n (M := mX8_commonest) dX8_commonest_58 0 rfl rfl ?_
    have e := (Option.some.inj h)
    subst e
    exact g_iret (M := mX8_commonest) dX8_commonest_59 rfl (Nat.le_of_ble_eq_true rfl) (Nat.le_of_ble_eq_true rfl) ⟨rfl, rfl⟩
  refine zLp_J (J := fun s3 => G X mX8_commonest (zPm X 4 0 0 (zRet (zWs A n (zC X A shMo qMo res.1 S)) (some (.int (iI res.2))))) 0 0 13 [(0, .ref (A qMo)), (1, .int (iI s3.1)), (2, .int (iI s3.2))] [] (zWs A n (zC X A shMo qMo t1 S))) (fun s3 w3 h3 b3 e3 => ?_) _ _ l3
  refine g_iload_n (M := mX8_commonest) dX8_commonest_13 2 rfl rfl ?_
  refine g_aload_n (M := mX8_commonest) dX8_commonest_14 0 rfl rfl ?_
  obtain ⟨t16, u17, h3⟩ := zbi h3
  refine g_callVr (M := mX8_commonest) [] hX dX8_commonest_15 vX8_words kM_X8_162 (wX8_words hX zC_self (by omega)  u17) qMo (zWs_at (by omega) (zC_o)) rfl ⟨(Nat.le_of_ble_eq_true rfl), (Nat.le_of_ble_eq_true rfl)⟩ ⟨(Nat.le_of_ble_eq_true rfl), (Nat.le_of_ble_eq_true rfl)⟩ (Nat.le_of_ble_eq_true rfl) ?_
  obtain ⟨g19, h3⟩ := zgi h3
  refine h_icmp_ge (M := mX8_commonest) (tgt := 58) dX8_commonest_18 (by decide) g19.1 g19.2 (fun c18 => ?_) (fun c18 => ?_)
  · have h3 := zti c18 h3
    refine g_lv (M := mX8_commonest) [1] rfl ?_
    exact r3 _ (e3 _ (Option.some.inj h3).symm)
  · have h3 := zfi (Int.not_le.mpr c18) h3
    refine g_aload_n (M := mX8_commonest) dX8_commonest_21 0 rfl rfl ?_
    refine k_get (M := mX8_commonest) (v := .ref (A (qMo + 12))) dX8_commonest_22 kF_X8_51.r qMo (by omega) (zC_o) rfl ?_
    refine g_iload_n (M := mX8_commonest) dX8_commonest_25 2 rfl rfl ?_
    obtain ⟨g20, h3⟩ := zgi h3
    refine k_iald (M := mX8_commonest) (len := 4096) (f := t1.2 12) dX8_commonest_26 (qMo + 12) (by omega) (zC_a (d := (0, 4096)) 11 rfl) (Nat.le_of_ble_eq_true rfl) g20.1 g20.2 ?_
    obtain ⟨g22, h3⟩ := zgi h3
    refine h_if_le (M := mX8_commonest) (tgt := 52) dX8_commonest_27 (by decide) g22 (fun c21 => ?_) (fun c21 => ?_)
    · have h3 := zti c21 h3
      refine h_iinc (M := mX8_commonest) (j := 2) (lv' := [(0, .ref (A qMo)), (1, .int (iI s3.1)), (2, .int (iI (s3.2 + 1)))]) dX8_commonest_52 rfl (Nat.le_of_ble_eq_true rfl) rfl ?_
      refine g_goto (M := mX8_commonest) (tgt := 13) dX8_commonest_55 (by decide) ?_
      exact b3 _ (Option.some.inj h3).symm
    · have h3 := zfi (Int.not_le.mpr c21) h3
      refine g_iload_n (M := mX8_commonest) dX8_commonest_30 1 rfl rfl ?_
      refine h_iconst (M := mX8_commonest) dX8_commonest_31 ?_
      obtain ⟨g24, h3⟩ := zgi h3
      refine h_icmp_eq (M := mX8_commonest) (tgt := 50) dX8_commonest_32 (by decide) g24 (by decide) (fun c23 => ?_) (fun c23 => ?_)
      · have h3 := zti c23 h3
        refine g_iload_n (M := mX8_commonest) dX8_commonest_50 2 rfl rfl ?_
        refine g_istore_n (M := mX8_commonest) (lv' := [(0, .ref (A qMo)), (1, .int (iI s3.2)), (2, .int (iI s3.2))]) dX8_commonest_51 rfl (by decide) rfl ?_
        refine h_iinc (M := mX8_commonest) (j := 2) (lv' := [(0, .ref (A qMo)), (1, .int (iI s3.2)), (2, .int (iI (s3.2 + 1)))]) dX8_commonest_52 rfl (Nat.le_of_ble_eq_true rfl) rfl ?_
        refine g_goto (M := mX8_commonest) (tgt := 13) dX8_commonest_55 (by decide) ?_
        exact b3 _ (Option.some.inj h3).symm
      · have h3 := zfi c23 h3
        refine g_aload_n (M := mX8_commonest) dX8_commonest_35 0 rfl rfl ?_
        refine k_get (M := mX8_commonest) (v := .ref (A (qMo + 12))) dX8_commonest_36 kF_X8_51.r qMo (by omega) (zC_o) rfl ?_
        refine g_iload_n (M := mX8_commonest) dX8_commonest_39 2 rfl rfl ?_
        refine k_iald (M := mX8_commonest) (len := 4096) (f := t1.2 12) dX8_commonest_40 (qMo + 12) (by omega) (zC_a (d := (0, 4096)) 11 rfl) (Nat.le_of_ble_eq_true rfl) g20.1 g20.2 ?_
        refine g_aload_n (M := mX8_commonest) dX8_commonest_41 0 rfl rfl ?_
        refine k_get (M := mX8_commonest) (v := .ref (A (qMo + 12))) dX8_commonest_42 kF_X8_51.r qMo (by omega) (zC_o) rfl ?_
        refine g_iload_n (M := mX8_commonest) dX8_commonest_45 1 rfl rfl ?_
        obtain ⟨g25, h3⟩ := zgi h3
        refine k_iald (M := mX8_commonest) (len := 4096) (f := t1.2 12) dX8_commonest_46 (qMo + 12) (by omega) (zC_a (d := (0, 4096)) 11 rfl) (Nat.le_of_ble_eq_true rfl) g25.1 g25.2 ?_
        obtain ⟨g27, h3⟩ := zgi h3
        refine h_icmp_le (M := mX8_commonest) (tgt := 52) dX8_commonest_47 (by decide) g22 g27 (fun c26 => ?_) (fun c26 => ?_)
        · have h3 := zti c26 h3
          refine h_iinc (M := mX8_commonest) (j := 2) (lv' := [(0, .ref (A qMo)), (1, .int (iI s3.1)), (2, .int (iI (s3.2 + 1)))]) dX8_commonest_52 rfl (Nat.le_of_ble_eq_true rfl) rfl ?_
          refine g_goto (M := mX8_commonest) (tgt := 13) dX8_commonest_55 (by decide) ?_
          exact b3 _ (Option.some.inj h3).symm
        · have h3 := zfi (Int.not_le.mpr c26) h3
          refine g_iload_n (M := mX8_commonest) dX8_commonest_50 2 rfl rfl ?_
          refine g_istore_n (M := mX8_commonest) (lv' := [(0, .ref (A qMo)), (1, .int (iI s3.2)), (2, .int (iI s3.2))]) dX8_commonest_51 rfl (by decide) rfl ?_
          refine h_iinc (M := mX8_commonest) (j := 2) (lv' := [(0, .ref (A qMo)), (1, .int (iI s3.2)), (2, .int (iI (s3.2 + 1)))]) dX8_commonest_52 rfl (Nat.le_of_ble_eq_true rfl) rfl ?_
          refine g_goto (M := mX8_commonest) (tgt := 13) dX8_commonest_55 (by decide) ?_
          exact b3 _ (Option.some.inj h3).symm
set_option maxHeartbeats 4000000 in
set_option maxRecDepth 100000 in
theorem wX8_count {X : zX} (hX : zOK X) {A : Nat → Nat} {n : Nat} {S : Nat → va_E} {qMo : Nat} {VMo : CV} (hMo : isC X A shMo qMo VMo S) (bMo : qMo + 20 < n) {a1 : Int} {a2 : Int} {res : CV × Int} (h : fX8_count VMo a1 a2 = some res) : Con X yX8_count mX8_count 2 0 0 [.ref (A qMo), .int (iI a1), .int (iI a2)] (zWs A n S) (zRet (zWs A n (zC X A shMo qMo res.1 S)) (some (.int (iI res.2)))) := by
  refine con_of (lv := [(0, .ref (A qMo)), (1, .int (iI a1)), (2, .int (iI a2))]) (by decide) rfl (fun h => by cases h) rfl (Nat.le_of_ble_eq_true rfl) rfl ?_
  refine g_ws (M := mX8_count) (congrArg (zWs A n) hMo.symm) ?_
  unfold fX8_count at h
  refine g_aload_n (M := mX8_count) dX8_count_0 0 rfl rfl ?_
  refine g_iload_n (M := mX8_count) dX8_count_1 1 rfl rfl ?_
  obtain ⟨g1, h⟩ := zgi h
  refine h_i2l (M := mX8_count) dX8_count_2 g1 ?_
  refine g_lconst (M := mX8_count) (v := iL 0) dX8_count_3 rfl ?_
  refine g_aload_n (M := mX8_count) dX8_count_4 0 rfl rfl ?_
  refine k_get (M := mX8_count) (v := .ref (A (qMo + 2))) dX8_count_5 kF_X8_20.r qMo (by omega) (zC_o) rfl ?_
  refine h_iconst (M := mX8_count) dX8_count_8 ?_
  refine k_iald (M := mX8_count) (len := 351) (f := VMo.2 2) dX8_count_9 (qMo + 2) (by omega) (zC_a (d := (0, 351)) 1 rfl) (Nat.le_of_ble_eq_true rfl) (by decide) (by decide) ?_
  refine h_iconst (M := mX8_count) dX8_count_10 ?_
  refine h_isub (M := mX8_count) dX8_count_11 ?_
  obtain ⟨g2, h⟩ := zgi h
  refine h_i2l (M := mX8_count) dX8_count_12 g2 ?_
  obtain ⟨t3, u4, h⟩ := zbi h
  refine g_callSr (M := mX8_count) [.long (iL a1), .long (iL 0), .long (iL ((VMo.2 2 2) - 1))] hX dX8_count_13 vX8_isIn kM_X8_99 (wX8_isIn hX   u4) rfl ⟨(Nat.le_of_ble_eq_true rfl), (Nat.le_of_ble_eq_true rfl)⟩ ⟨(Nat.le_of_ble_eq_true rfl), (Nat.le_of_ble_eq_true rfl)⟩ (Nat.le_of_ble_eq_true rfl) ?_
  refine zJn_J (J := fun x18 => G X mX8_count (zPm X 2 0 0 (zRet (zWs A n (zC X A shMo qMo res.1 S)) (some (.int (iI res.2))))) 0 0 42 [(0, .ref (A qMo)), (1, .int (iI a1)), (2, .int (iI a2))] [.int (iI x18), .ref (A qMo)] (zWs A n (zC X A shMo qMo VMo S))) h (fun x18 h => ?_) (fun j18 h => ?_)
  · obtain ⟨t19, u20, h⟩ := zbi h
    refine g_callVr (M := mX8_count) [.int (iI x18)] hX dX8_count_42 vX8_goes kM_X8_91 (wX8_goes hX zC_self (by omega)  u20) qMo (zWs_at (by omega) (zC_o)) rfl ⟨(Nat.le_of_ble_eq_true rfl), (Nat.le_of_ble_eq_true rfl)⟩ ⟨(Nat.le_of_ble_eq_true rfl), (Nat.le_of_ble_eq_true rfl)⟩ (Nat.le_of_ble_eq_true rfl) ?_
    refine g_ws (M := mX8_count) (congrArg (zWs A n) zC_over) ?_
    refine h_bne (M := mX8_count) (tgt := 50) dX8_count_45 (by decide) (fun c21 => ?_) (fun c21 => ?_)
    · have h := zti c21 h
      refine g_aload_n (M := mX8_count) dX8_count_50 0 rfl rfl ?_
      refine h_iconst (M := mX8_count) dX8_count_51 ?_
      obtain ⟨t22, u23, h⟩ := zbi h
      refine g_callVr (M := mX8_count) [.int (iI (-1))] hX dX8_count_52 vX8_laysProfile kM_X8_347 (wX8_laysProfile hX zC_self (by omega)  u23) qMo (zWs_at (by omega) (zC_o)) rfl ⟨(Nat.le_of_ble_eq_true rfl), (Nat.le_of_ble_eq_true rfl)⟩ ⟨(Nat.le_of_ble_eq_true rfl), (Nat.le_of_ble_eq_true rfl)⟩ (Nat.le_of_ble_eq_true rfl) ?_
      refine g_ws (M := mX8_count) (congrArg (zWs A n) zC_over) ?_
      refine g_aload_n (M := mX8_count) dX8_count_55 0 rfl rfl ?_
      refine k_get (M := mX8_count) (v := .ref (A (qMo + 14))) dX8_count_56 kF_X8_57.r qMo (by omega) (zC_o) rfl ?_
      refine h_iconst (M := mX8_count) dX8_count_59 ?_
      refine g_iload_n (M := mX8_count) dX8_count_60 1 rfl rfl ?_
      refine h_imul (M := mX8_count) dX8_count_61 ?_
      refine g_iload_n (M := mX8_count) dX8_count_62 2 rfl rfl ?_
      refine h_iadd (M := mX8_count) dX8_count_63 ?_
      obtain ⟨g24, h⟩ := zgi h
      refine k_iald (M := mX8_count) (len := 24) (f := t22.2 14) dX8_count_64 (qMo + 14) (by omega) (zC_a (d := (0, 24)) 13 rfl) (Nat.le_of_ble_eq_true rfl) g24.1 g24.2 ?_
      have e := (Option.some.inj h)
      subst e
      exact g_iret (M := mX8_count) dX8_count_65 rfl (Nat.le_of_ble_eq_true rfl) (Nat.le_of_ble_eq_true rfl) ⟨rfl, rfl⟩
    · have h := zfi (zbf c21) h
      refine h_iconst (M := mX8_count) dX8_count_48 ?_
      have e := (Option.some.inj h)
      subst e
      exact g_iret (M := mX8_count) dX8_count_49 rfl (Nat.le_of_ble_eq_true rfl) (Nat.le_of_ble_eq_true rfl) ⟨rfl, rfl⟩
  · refine zJn_J (J := fun x31 => G X mX8_count (zPm X 2 0 0 (zRet (zWs A n (zC X A shMo qMo res.1 S)) (some (.int (iI res.2))))) 0 0 41 [(0, .ref (A qMo)), (1, .int (iI a1)), (2, .int (iI a2))] [.ref (A qMo)] (zWs A n (zC X A shMo qMo VMo S))) h (fun x31 h => ?_) (fun j31 h => ?_)
    · refine h_iconst (M := mX8_count) dX8_count_41 ?_
      exact j18 0 h
    · refine h_beq (M := mX8_count) (tgt := 41) dX8_count_16 (by decide) (fun c32 => ?_) (fun c32 => ?_)
      · have h := zfi (zbf c32) h
        exact j31 () h
      · have h := zti c32 h
        refine g_iload_n (M := mX8_count) dX8_count_19 2 rfl rfl ?_
        obtain ⟨g33, h⟩ := zgi h
        refine h_i2l (M := mX8_count) dX8_count_20 g33 ?_
        refine g_lconst (M := mX8_count) (v := iL 0) dX8_count_21 rfl ?_
        refine g_aload_n (M := mX8_count) dX8_count_22 0 rfl rfl ?_
        refine k_get (M := mX8_count) (v := .ref (A (qMo + 2))) dX8_count_23 kF_X8_20.r qMo (by omega) (zC_o) rfl ?_
        refine h_iconst (M := mX8_count) dX8_count_26 ?_
        refine k_iald (M := mX8_count) (len := 351) (f := VMo.2 2) dX8_count_27 (qMo + 2) (by omega) (zC_a (d := (0, 351)) 1 rfl) (Nat.le_of_ble_eq_true rfl) (by decide) (by decide) ?_
        refine h_iconst (M := mX8_count) dX8_count_28 ?_
        refine h_isub (M := mX8_count) dX8_count_29 ?_
        obtain ⟨g34, h⟩ := zgi h
        refine h_i2l (M := mX8_count) dX8_count_30 g34 ?_
        obtain ⟨t35, u36, h⟩ := zbi h
        refine g_callSr (M := mX8_count) [.long (iL a2), .long (iL 0), .long (iL ((VMo.2 2 1) - 1))] hX dX8_count_31 vX8_isIn kM_X8_99 (wX8_isIn hX   u36) rfl ⟨(Nat.le_of_ble_eq_true rfl), (Nat.le_of_ble_eq_true rfl)⟩ ⟨(Nat.le_of_ble_eq_true rfl), (Nat.le_of_ble_eq_true rfl)⟩ (Nat.le_of_ble_eq_true rfl) ?_
        refine h_beq (M := mX8_count) (tgt := 41) dX8_count_34 (by decide) (fun c37 => ?_) (fun c37 => ?_)
        · have h := zfi (zbf c37) h
          exact j31 () h
        · have h := zti c37 h
          refine h_iconst (M := mX8_count) dX8_count_37 ?_
          refine g_goto (M := mX8_count) (tgt := 42) dX8_count_38 (by decide) ?_
          exact j18 1 h
set_option maxHeartbeats 4000000 in
set_option maxRecDepth 100000 in
theorem wX8_differ {X : zX} (hX : zOK X) {A : Nat → Nat} {n : Nat} {S : Nat → va_E} {qMo : Nat} {VMo : CV} (hMo : isC X A shMo qMo VMo S) (bMo : qMo + 20 < n) {a1 : Int} {a2 : Int} {res : CV × Int} (h : fX8_differ VMo a1 a2 = some res) : Con X yX8_differ mX8_differ 2 0 0 [.ref (A qMo), .int (iI a1), .int (iI a2)] (zWs A n S) (zRet (zWs A n (zC X A shMo qMo res.1 S)) (some (.int (iI res.2)))) := by
  refine con_of (lv := [(0, .ref (A qMo)), (1, .int (iI a1)), (2, .int (iI a2))]) (by decide) rfl (fun h => by cases h) rfl (Nat.le_of_ble_eq_true rfl) rfl ?_
  refine g_ws (M := mX8_differ) (congrArg (zWs A n) hMo.symm) ?_
  unfold fX8_differ at h
  refine g_aload_n (M := mX8_differ) dX8_differ_0 0 rfl rfl ?_
  refine g_aload_n (M := mX8_differ) dX8_differ_1 0 rfl rfl ?_
  refine g_iload_n (M := mX8_differ) dX8_differ_2 1 rfl rfl ?_
  obtain ⟨t1, u2, h⟩ := zbi h
  refine g_callVr (M := mX8_differ) [.int (iI a1)] hX dX8_differ_3 vX8_isOne kM_X8_268 (wX8_isOne hX zC_self (by omega)  u2) qMo (zWs_at (by omega) (zC_o)) rfl ⟨(Nat.le_of_ble_eq_true rfl), (Nat.le_of_ble_eq_true rfl)⟩ ⟨(Nat.le_of_ble_eq_true rfl), (Nat.le_of_ble_eq_true rfl)⟩ (Nat.le_of_ble_eq_true rfl) ?_
  refine zJn_J (J := fun x12 => G X mX8_differ (zPm X 2 0 0 (zRet (zWs A n (zC X A shMo qMo res.1 S)) (some (.int (iI res.2))))) 0 0 22 [(0, .ref (A qMo)), (1, .int (iI a1)), (2, .int (iI a2))] [.int (iI x12), .ref (A qMo)] (zWs A n (zC X A shMo qMo VMo S))) h (fun x12 h => ?_) (fun j12 h => ?_)
  · obtain ⟨t13, u14, h⟩ := zbi h
    refine g_callVr (M := mX8_differ) [.int (iI x12)] hX dX8_differ_22 vX8_goes kM_X8_91 (wX8_goes hX zC_self (by omega)  u14) qMo (zWs_at (by omega) (zC_o)) rfl ⟨(Nat.le_of_ble_eq_true rfl), (Nat.le_of_ble_eq_true rfl)⟩ ⟨(Nat.le_of_ble_eq_true rfl), (Nat.le_of_ble_eq_true rfl)⟩ (Nat.le_of_ble_eq_true rfl) ?_
    refine g_ws (M := mX8_differ) (congrArg (zWs A n) zC_over) ?_
    refine h_bne (M := mX8_differ) (tgt := 30) dX8_differ_25 (by decide) (fun c15 => ?_) (fun c15 => ?_)
    · have h := zti c15 h
      refine g_aload_n (M := mX8_differ) dX8_differ_30 0 rfl rfl ?_
      refine g_iload_n (M := mX8_differ) dX8_differ_31 2 rfl rfl ?_
      obtain ⟨t16, u17, h⟩ := zbi h
      refine g_callVr (M := mX8_differ) [.int (iI a2)] hX dX8_differ_32 vX8_spells kM_X8_242 (wX8_spells hX zC_self (by omega)  u17) qMo (zWs_at (by omega) (zC_o)) rfl ⟨(Nat.le_of_ble_eq_true rfl), (Nat.le_of_ble_eq_true rfl)⟩ ⟨(Nat.le_of_ble_eq_true rfl), (Nat.le_of_ble_eq_true rfl)⟩ (Nat.le_of_ble_eq_true rfl) ?_
      refine g_ws (M := mX8_differ) (congrArg (zWs A n) zC_over) ?_
      refine h_iconst (M := mX8_differ) dX8_differ_35 ?_
      refine g_istore_n (M := mX8_differ) (lv' := [(0, .ref (A qMo)), (1, .int (iI a1)), (2, .int (iI a2)), (3, .int (iI 0))]) dX8_differ_36 rfl (by decide) rfl ?_
      obtain ⟨x18, l18, h⟩ := zbi h
      have r18 : ∀ y18, y18 = x18 → G X mX8_differ (zPm X 2 0 0 (zRet (zWs A n (zC X A shMo qMo res.1 S)) (some (.int (iI res.2))))) 0 0 61 [(0, .ref (A qMo)), (1, .int (iI a1))] [] (zWs A n (zC X A shMo qMo y18.2 S)) := by
        intro y18 ey
        rw [← ey] at h
        refine g_aload_n (M := mX8_differ) dX8_differ_61 0 rfl rfl ?_
        refine g_iload_n (M := mX8_differ) dX8_differ_62 1 rfl rfl ?_
        obtain ⟨t22, u23, h⟩ := zbi h
        refine g_callVr (M := mX8_differ) [.int (iI a1)] hX dX8_differ_63 vX8_spells kM_X8_242 (wX8_spells hX zC_self (by omega)  u23) qMo (zWs_at (by omega) (zC_o)) rfl ⟨(Nat.le_of_ble_eq_true rfl), (Nat.le_of_ble_eq_true rfl)⟩ ⟨(Nat.le_of_ble_eq_true rfl), (Nat.le_of_ble_eq_true rfl)⟩ (Nat.le_of_ble_eq_true rfl) ?_
        refine g_ws (M := mX8_differ) (congrArg (zWs A n) zC_over) ?_
        refine h_iconst (M := mX8_differ) dX8_differ_66 ?_
        refine g_istore_n (M := mX8_differ) (lv' := [(0, .ref (A qMo)), (1, .int (iI a1)), (3, .int (iI 0))]) dX8_differ_67 rfl (by decide) rfl ?_
        refine h_iconst (M := mX8_differ) dX8_differ_68 ?_
        refine g_istore (M := mX8_differ) (lv' := [(0, .ref (A qMo)), (1, .int (iI a1)), (3, .int (iI 0)), (4, .int (iI 0))]) dX8_differ_69 (by decide) rfl ?_
        obtain ⟨x24, l24, h⟩ := zbi h
        have r24 : ∀ y24, y24 = x24 → G X mX8_differ (zPm X 2 0 0 (zRet (zWs A n (zC X A shMo qMo res.1 S)) (some (.int (iI res.2))))) 0 0 116 [(3, .int (iI y24.1))] [] (zWs A n (zC X A shMo qMo t22 S)) := by
          intro y24 ey
          rw [← ey] at h
          refine g_iload_n (M := mX8_differ) dX8_differ_116 0 rfl rfl ?_
          have e := (Option.some.inj h)
          subst e
          exact g_iret (M := mX8_differ) dX8_differ_117 rfl (Nat.le_of_ble_eq_true rfl) (Nat.le_of_ble_eq_true rfl) ⟨rfl, rfl⟩
        refine g_lv (M := mX8_differ) [0, 2, 3] rfl ?_
        refine zLp_J (J := fun s24 => G X mX8_differ (zPm X 2 0 0 (zRet (zWs A n (zC X A shMo qMo res.1 S)) (some (.int (iI res.2))))) 0 0 71 [(0, .ref (A qMo)), (3, .int (iI s24.1)), (4, .int (iI s24.2))] [] (zWs A n (zC X A shMo qMo t22 S))) (fun s24 w24 h24 b24 e24 => ?_) _ _ l24
        refine g_iload (M := mX8_differ) dX8_differ_71 2 rfl ?_
        refine g_aload_n (M := mX8_differ) dX8_differ_73 0 rfl rfl ?_
        refine k_get (M := mX8_differ) (v := .ref (A (qMo + 2))) dX8_differ_74 kF_X8_20.r qMo (by omega) (zC_o) rfl ?_
        refine h_iconst (M := mX8_differ) dX8_differ_77 ?_
        refine k_iald (M := mX8_differ) (len := 351) (f := t22.2 2) dX8_differ_78 (qMo + 2) (by omega) (zC_a (d := (0, 351)) 1 rfl) (Nat.le_of_ble_eq_true rfl) (by decide) (by decide) ?_
        obtain ⟨g36, h24⟩ := zgi h24
        refine h_icmp_ge (M := mX8_differ) (tgt := 116) dX8_differ_79 (by decide) g36.1 g36.2 (fun c35 => ?_) (fun c35 => ?_)
        · have h24 := zti c35 h24
          refine g_lv (M := mX8_differ) [1] rfl ?_
          exact r24 _ (e24 _ (Option.some.inj h24).symm)
        · have h24 := zfi (Int.not_le.mpr c35) h24
          refine g_iload_n (M := mX8_differ) dX8_differ_82 1 rfl rfl ?_
          refine g_aload_n (M := mX8_differ) dX8_differ_83 0 rfl rfl ?_
          refine k_get (M := mX8_differ) (v := .ref (A (qMo + 10))) dX8_differ_84 kF_X8_45.r qMo (by omega) (zC_o) rfl ?_
          refine g_iload (M := mX8_differ) dX8_differ_87 2 rfl ?_
          obtain ⟨g37, h24⟩ := zgi h24
          refine k_iald (M := mX8_differ) (len := 6) (f := t22.2 10) dX8_differ_89 (qMo + 10) (by omega) (zC_a (d := (0, 6)) 9 rfl) (Nat.le_of_ble_eq_true rfl) g37.1 g37.2 ?_
          refine g_aload_n (M := mX8_differ) dX8_differ_90 0 rfl rfl ?_
          refine k_get (M := mX8_differ) (v := .ref (A (qMo + 11))) dX8_differ_91 kF_X8_48.r qMo (by omega) (zC_o) rfl ?_
          refine g_iload (M := mX8_differ) dX8_differ_94 2 rfl ?_
          refine k_iald (M := mX8_differ) (len := 6) (f := t22.2 11) dX8_differ_96 (qMo + 11) (by omega) (zC_a (d := (0, 6)) 10 rfl) (Nat.le_of_ble_eq_true rfl) g37.1 g37.2 ?_
          refine zJn_J (J := fun x40 => G X mX8_differ (zPm X 2 0 0 (zRet (zWs A n (zC X A shMo qMo res.1 S)) (some (.int (iI res.2))))) 0 0 105 [(0, .ref (A qMo)), (4, .int (iI s24.2))] [.int (iI x40), .int (iI s24.1)] (zWs A n (zC X A shMo qMo t22 S))) h24 (fun x40 h24 => ?_) (fun j40 h24 => ?_)
          · obtain ⟨t41, u42, h24⟩ := zbi h24
            refine g_callSr (M := mX8_differ) [.int (iI x40)] hX dX8_differ_105 vX8_truth kM_X8_84 (wX8_truth hX   u42) rfl ⟨(Nat.le_of_ble_eq_true rfl), (Nat.le_of_ble_eq_true rfl)⟩ ⟨(Nat.le_of_ble_eq_true rfl), (Nat.le_of_ble_eq_true rfl)⟩ (Nat.le_of_ble_eq_true rfl) ?_
            refine h_iadd (M := mX8_differ) dX8_differ_108 ?_
            refine g_istore_n (M := mX8_differ) (lv' := [(0, .ref (A qMo)), (4, .int (iI s24.2)), (3, .int (iI (s24.1 + t41)))]) dX8_differ_109 rfl (by decide) rfl ?_
            refine h_iinc (M := mX8_differ) (j := 1) (lv' := [(0, .ref (A qMo)), (4, .int (iI (s24.2 + 1))), (3, .int (iI (s24.1 + t41)))]) dX8_differ_110 rfl (Nat.le_of_ble_eq_true rfl) rfl ?_
            refine g_goto (M := mX8_differ) (tgt := 71) dX8_differ_113 (by decide) ?_
            refine g_lv (M := mX8_differ) [0, 2, 1] rfl ?_
            exact b24 _ (Option.some.inj h24).symm
          · obtain ⟨g44, h24⟩ := zgi h24
            refine h_icmp_eq (M := mX8_differ) (tgt := 104) dX8_differ_97 (by decide) g44.1 g44.2 (fun c43 => ?_) (fun c43 => ?_)
            · have h24 := zti c43 h24
              refine h_iconst (M := mX8_differ) dX8_differ_104 ?_
              refine g_lv (M := mX8_differ) [0, 2] rfl ?_
              exact j40 0 h24
            · have h24 := zfi c43 h24
              refine h_iconst (M := mX8_differ) dX8_differ_100 ?_
              refine g_goto (M := mX8_differ) (tgt := 105) dX8_differ_101 (by decide) ?_
              refine g_lv (M := mX8_differ) [0, 2] rfl ?_
              exact j40 1 h24
      refine g_lv (M := mX8_differ) [0, 1, 3] rfl ?_
      refine zLp_J (J := fun s18 => G X mX8_differ (zPm X 2 0 0 (zRet (zWs A n (zC X A shMo qMo res.1 S)) (some (.int (iI res.2))))) 0 0 37 [(0, .ref (A qMo)), (1, .int (iI a1)), (3, .int (iI s18.1))] [] (zWs A n (zC X A shMo qMo s18.2 S))) (fun s18 w18 h18 b18 e18 => ?_) _ _ l18
      refine g_iload_n (M := mX8_differ) dX8_differ_37 2 rfl rfl ?_
      refine h_bipush (M := mX8_differ) dX8_differ_38 rfl ?_
      obtain ⟨g46, h18⟩ := zgi h18
      refine h_icmp_ge (M := mX8_differ) (tgt := 61) dX8_differ_40 (by decide) g46 (by decide) (fun c45 => ?_) (fun c45 => ?_)
      · have h18 := zti c45 h18
        refine g_lv (M := mX8_differ) [0, 1] rfl ?_
        exact r18 _ (e18 _ (Option.some.inj h18).symm)
      · have h18 := zfi (Int.not_le.mpr c45) h18
        refine g_aload_n (M := mX8_differ) dX8_differ_43 0 rfl rfl ?_
        refine k_get (M := mX8_differ) (v := .ref (A (qMo + 11))) dX8_differ_44 kF_X8_48.r qMo (by omega) (zC_o) rfl ?_
        refine g_iload_n (M := mX8_differ) dX8_differ_47 2 rfl rfl ?_
        refine g_aload_n (M := mX8_differ) dX8_differ_48 0 rfl rfl ?_
        refine k_get (M := mX8_differ) (v := .ref (A (qMo + 10))) dX8_differ_49 kF_X8_45.r qMo (by omega) (zC_o) rfl ?_
        refine g_iload_n (M := mX8_differ) dX8_differ_52 2 rfl rfl ?_
        obtain ⟨g47, h18⟩ := zgi h18
        refine k_iald (M := mX8_differ) (len := 6) (f := s18.2.2 10) dX8_differ_53 (qMo + 10) (by omega) (zC_a (d := (0, 6)) 9 rfl) (Nat.le_of_ble_eq_true rfl) g47.1 g47.2 ?_
        refine c_iast (M := mX8_differ) (len := 6) (d := (0, 6)) dX8_differ_54 10 rfl rfl (by omega) (Nat.le_of_ble_eq_true rfl) g47.1 g47.2 ?_
        refine h_iinc (M := mX8_differ) (j := 2) (lv' := [(0, .ref (A qMo)), (1, .int (iI a1)), (3, .int (iI (s18.1 + 1)))]) dX8_differ_55 rfl (Nat.le_of_ble_eq_true rfl) rfl ?_
        refine g_goto (M := mX8_differ) (tgt := 37) dX8_differ_58 (by decide) ?_
        exact b18 _ (Option.some.inj h18).symm
    · have h := zfi (zbf c15) h
      refine h_iconst (M := mX8_differ) dX8_differ_28 ?_
      have e := (Option.some.inj h)
      subst e
      exact g_iret (M := mX8_differ) dX8_differ_29 rfl (Nat.le_of_ble_eq_true rfl) (Nat.le_of_ble_eq_true rfl) ⟨rfl, rfl⟩
  · refine zJn_J (J := fun x52 => G X mX8_differ (zPm X 2 0 0 (zRet (zWs A n (zC X A shMo qMo res.1 S)) (some (.int (iI res.2))))) 0 0 21 [(0, .ref (A qMo)), (1, .int (iI a1)), (2, .int (iI a2))] [.ref (A qMo)] (zWs A n (zC X A shMo qMo VMo S))) h (fun x52 h => ?_) (fun j52 h => ?_)
    · refine h_iconst (M := mX8_differ) dX8_differ_21 ?_
      exact j12 0 h
    · refine h_beq (M := mX8_differ) (tgt := 21) dX8_differ_6 (by decide) (fun c53 => ?_) (fun c53 => ?_)
      · have h := zfi (zbf c53) h
        exact j52 () h
      · have h := zti c53 h
        refine g_aload_n (M := mX8_differ) dX8_differ_9 0 rfl rfl ?_
        refine g_iload_n (M := mX8_differ) dX8_differ_10 2 rfl rfl ?_
        obtain ⟨t54, u55, h⟩ := zbi h
        refine g_callVr (M := mX8_differ) [.int (iI a2)] hX dX8_differ_11 vX8_isOne kM_X8_268 (wX8_isOne hX zC_self (by omega)  u55) qMo (zWs_at (by omega) (zC_o)) rfl ⟨(Nat.le_of_ble_eq_true rfl), (Nat.le_of_ble_eq_true rfl)⟩ ⟨(Nat.le_of_ble_eq_true rfl), (Nat.le_of_ble_eq_true rfl)⟩ (Nat.le_of_ble_eq_true rfl) ?_
        refine h_beq (M := mX8_differ) (tgt := 21) dX8_differ_14 (by decide) (fun c56 => ?_) (fun c56 => ?_)
        · have h := zfi (zbf c56) h
          exact j52 () h
        · have h := zti c56 h
          refine h_iconst (M := mX8_differ) dX8_differ_17 ?_
          refine g_goto (M := mX8_differ) (tgt := 22) dX8_differ_18 (by decide) ?_
          exact j12 1 h
set_option maxHeartbeats 4000000 in
set_option maxRecDepth 100000 in
theorem wX8_distance {X : zX} (hX : zOK X) {A : Nat → Nat} {n : Nat} {S : Nat → va_E} {qMo : Nat} {VMo : CV} (hMo : isC X A shMo qMo VMo S) (bMo : qMo + 20 < n) {a1 : Int} {a2 : Int} {res : CV × Int} (h : fX8_distance VMo a1 a2 = some res) : Con X yX8_distance mX8_distance 4 0 0 [.ref (A qMo), .int (iI a1), .int (iI a2)] (zWs A n S) (zRet (zWs A n (zC X A shMo qMo res.1 S)) (some (.int (iI res.2)))) := by
  refine con_of (lv := [(0, .ref (A qMo)), (1, .int (iI a1)), (2, .int (iI a2))]) (by decide) rfl (fun h => by cases h) rfl (Nat.le_of_ble_eq_true rfl) rfl ?_
  refine g_ws (M := mX8_distance) (congrArg (zWs A n) hMo.symm) ?_
  unfold fX8_distance at h
  refine g_aload_n (M := mX8_distance) dX8_distance_0 0 rfl rfl ?_
  refine g_aload_n (M := mX8_distance) dX8_distance_1 0 rfl rfl ?_
  refine g_iload_n (M := mX8_distance) dX8_distance_2 1 rfl rfl ?_
  obtain ⟨t1, u2, h⟩ := zbi h
  refine g_callVr (M := mX8_distance) [.int (iI a1)] hX dX8_distance_3 vX8_isRow kM_X8_256 (wX8_isRow hX zC_self (by omega)  u2) qMo (zWs_at (by omega) (zC_o)) rfl ⟨(Nat.le_of_ble_eq_true rfl), (Nat.le_of_ble_eq_true rfl)⟩ ⟨(Nat.le_of_ble_eq_true rfl), (Nat.le_of_ble_eq_true rfl)⟩ (Nat.le_of_ble_eq_true rfl) ?_
  refine zJn_J (J := fun x12 => G X mX8_distance (zPm X 4 0 0 (zRet (zWs A n (zC X A shMo qMo res.1 S)) (some (.int (iI res.2))))) 0 0 22 [(0, .ref (A qMo)), (1, .int (iI a1)), (2, .int (iI a2))] [.int (iI x12), .ref (A qMo)] (zWs A n (zC X A shMo qMo VMo S))) h (fun x12 h => ?_) (fun j12 h => ?_)
  · obtain ⟨t13, u14, h⟩ := zbi h
    refine g_callVr (M := mX8_distance) [.int (iI x12)] hX dX8_distance_22 vX8_goes kM_X8_91 (wX8_goes hX zC_self (by omega)  u14) qMo (zWs_at (by omega) (zC_o)) rfl ⟨(Nat.le_of_ble_eq_true rfl), (Nat.le_of_ble_eq_true rfl)⟩ ⟨(Nat.le_of_ble_eq_true rfl), (Nat.le_of_ble_eq_true rfl)⟩ (Nat.le_of_ble_eq_true rfl) ?_
    refine g_ws (M := mX8_distance) (congrArg (zWs A n) zC_over) ?_
    refine h_bne (M := mX8_distance) (tgt := 30) dX8_distance_25 (by decide) (fun c15 => ?_) (fun c15 => ?_)
    · have h := zti c15 h
      refine g_aload_n (M := mX8_distance) dX8_distance_30 0 rfl rfl ?_
      refine g_iload_n (M := mX8_distance) dX8_distance_31 2 rfl rfl ?_
      obtain ⟨t16, u17, h⟩ := zbi h
      refine g_callVr (M := mX8_distance) [.int (iI a2)] hX dX8_distance_32 vX8_spells kM_X8_242 (wX8_spells hX zC_self (by omega)  u17) qMo (zWs_at (by omega) (zC_o)) rfl ⟨(Nat.le_of_ble_eq_true rfl), (Nat.le_of_ble_eq_true rfl)⟩ ⟨(Nat.le_of_ble_eq_true rfl), (Nat.le_of_ble_eq_true rfl)⟩ (Nat.le_of_ble_eq_true rfl) ?_
      refine g_ws (M := mX8_distance) (congrArg (zWs A n) zC_over) ?_
      refine g_aload_n (M := mX8_distance) dX8_distance_35 0 rfl rfl ?_
      refine g_iload_n (M := mX8_distance) dX8_distance_36 1 rfl rfl ?_
      obtain ⟨t18, u19, h⟩ := zbi h
      refine g_callVr (M := mX8_distance) [.int (iI a1)] hX dX8_distance_37 vX8_isOut kM_X8_226 (wX8_isOut hX zC_self (by omega)  u19) qMo (zWs_at (by omega) (zC_o)) rfl ⟨(Nat.le_of_ble_eq_true rfl), (Nat.le_of_ble_eq_true rfl)⟩ ⟨(Nat.le_of_ble_eq_true rfl), (Nat.le_of_ble_eq_true rfl)⟩ (Nat.le_of_ble_eq_true rfl) ?_
      refine h_beq (M := mX8_distance) (tgt := 47) dX8_distance_40 (by decide) (fun c20 => ?_) (fun c20 => ?_)
      · have h := zfi (zbf c20) h
        refine g_aload_n (M := mX8_distance) dX8_distance_47 0 rfl rfl ?_
        refine g_iload_n (M := mX8_distance) dX8_distance_48 1 rfl rfl ?_
        refine g_aload_n (M := mX8_distance) dX8_distance_49 0 rfl rfl ?_
        refine k_get (M := mX8_distance) (v := .ref (A (qMo + 2))) dX8_distance_50 kF_X8_20.r qMo (by omega) (zC_o) rfl ?_
        refine h_iconst (M := mX8_distance) dX8_distance_53 ?_
        refine k_iald (M := mX8_distance) (len := 351) (f := t16.2 2) dX8_distance_54 (qMo + 2) (by omega) (zC_a (d := (0, 351)) 1 rfl) (Nat.le_of_ble_eq_true rfl) (by decide) (by decide) ?_
        obtain ⟨t21, u22, h⟩ := zbi h
        refine g_callVr (M := mX8_distance) [.int (iI a1), .int (iI (t16.2 2 2))] hX dX8_distance_55 vX8_least kM_X8_239 (wX8_least hX zC_self (by omega)  u22) qMo (zWs_at (by omega) (zC_o)) rfl ⟨(Nat.le_of_ble_eq_true rfl), (Nat.le_of_ble_eq_true rfl)⟩ ⟨(Nat.le_of_ble_eq_true rfl), (Nat.le_of_ble_eq_true rfl)⟩ (Nat.le_of_ble_eq_true rfl) ?_
        have e := (Option.some.inj h)
        subst e
        exact g_iret (M := mX8_distance) dX8_distance_58 rfl (Nat.le_of_ble_eq_true rfl) (Nat.le_of_ble_eq_true rfl) ⟨rfl, rfl⟩
      · have h := zti c20 h
        refine h_iconst (M := mX8_distance) dX8_distance_43 ?_
        refine g_goto (M := mX8_distance) (tgt := 58) dX8_distance_44 (by decide) ?_
        have e := (Option.some.inj h)
        subst e
        exact g_iret (M := mX8_distance) dX8_distance_58 rfl (Nat.le_of_ble_eq_true rfl) (Nat.le_of_ble_eq_true rfl) ⟨rfl, rfl⟩
    · have h := zfi (zbf c15) h
      refine h_iconst (M := mX8_distance) dX8_distance_28 ?_
      have e := (Option.some.inj h)
      subst e
      exact g_iret (M := mX8_distance) dX8_distance_29 rfl (Nat.le_of_ble_eq_true rfl) (Nat.le_of_ble_eq_true rfl) ⟨rfl, rfl⟩
  · refine zJn_J (J := fun x27 => G X mX8_distance (zPm X 4 0 0 (zRet (zWs A n (zC X A shMo qMo res.1 S)) (some (.int (iI res.2))))) 0 0 21 [(0, .ref (A qMo)), (1, .int (iI a1)), (2, .int (iI a2))] [.ref (A qMo)] (zWs A n (zC X A shMo qMo VMo S))) h (fun x27 h => ?_) (fun j27 h => ?_)
    · refine h_iconst (M := mX8_distance) dX8_distance_21 ?_
      exact j12 0 h
    · refine h_beq (M := mX8_distance) (tgt := 21) dX8_distance_6 (by decide) (fun c28 => ?_) (fun c28 => ?_)
      · have h := zfi (zbf c28) h
        exact j27 () h
      · have h := zti c28 h
        refine g_aload_n (M := mX8_distance) dX8_distance_9 0 rfl rfl ?_
        refine g_iload_n (M := mX8_distance) dX8_distance_10 2 rfl rfl ?_
        obtain ⟨t29, u30, h⟩ := zbi h
        refine g_callVr (M := mX8_distance) [.int (iI a2)] hX dX8_distance_11 vX8_isOne kM_X8_268 (wX8_isOne hX zC_self (by omega)  u30) qMo (zWs_at (by omega) (zC_o)) rfl ⟨(Nat.le_of_ble_eq_true rfl), (Nat.le_of_ble_eq_true rfl)⟩ ⟨(Nat.le_of_ble_eq_true rfl), (Nat.le_of_ble_eq_true rfl)⟩ (Nat.le_of_ble_eq_true rfl) ?_
        refine h_beq (M := mX8_distance) (tgt := 21) dX8_distance_14 (by decide) (fun c31 => ?_) (fun c31 => ?_)
        · have h := zfi (zbf c31) h
          exact j27 () h
        · have h := zti c31 h
          refine h_iconst (M := mX8_distance) dX8_distance_17 ?_
          refine g_goto (M := mX8_distance) (tgt := 22) dX8_distance_18 (by decide) ?_
          exact j12 1 h
set_option maxHeartbeats 4000000 in
set_option maxRecDepth 100000 in
theorem wX8_haves {X : zX} (hX : zOK X) {A : Nat → Nat} {n : Nat} {S : Nat → va_E} {qMo : Nat} {VMo : CV} (hMo : isC X A shMo qMo VMo S) (bMo : qMo + 20 < n) {res : Int} (h : fX8_haves VMo = some res) : Con X yX8_haves mX8_haves 4 0 0 [.ref (A qMo)] (zWs A n S) (zRet (zWs A n S) (some (.int (iI res)))) := by
  refine con_of (lv := [(0, .ref (A qMo))]) (by decide) rfl (fun h => by cases h) rfl (Nat.le_of_ble_eq_true rfl) rfl ?_
  unfold fX8_haves at h
  refine h_iconst (M := mX8_haves) dX8_haves_0 ?_
  refine g_istore_n (M := mX8_haves) (lv' := [(0, .ref (A qMo)), (1, .int (iI 0))]) dX8_haves_1 rfl (by decide) rfl ?_
  refine h_iconst (M := mX8_haves) dX8_haves_2 ?_
  refine g_istore_n (M := mX8_haves) (lv' := [(0, .ref (A qMo)), (1, .int (iI 0)), (2, .int (iI 0))]) dX8_haves_3 rfl (by decide) rfl ?_
  obtain ⟨x1, l1, h⟩ := zbi h
  have r1 : ∀ y1, y1 = x1 → G X mX8_haves (zPm X 4 0 0 (zRet (zWs A n S) (some (.int (iI res))))) 0 0 61 [(1, .int (iI y1.1))] [] (zWs A n S) := by
    intro y1 ey
    rw [← ey] at h
    refine g_iload_n (M := mX8_haves) dX8_haves_61 0 rfl rfl ?_
    have e := (Option.some.inj h)
    subst e
    exact g_iret (M := mX8_haves) dX8_haves_62 rfl (Nat.le_of_ble_eq_true rfl) (Nat.le_of_ble_eq_true rfl) ⟨rfl, rfl⟩
  refine zLp_J (J := fun s1 => G X mX8_haves (zPm X 4 0 0 (zRet (zWs A n S) (some (.int (iI res))))) 0 0 4 [(0, .ref (A qMo)), (1, .int (iI s1.1)), (2, .int (iI s1.2))] [] (zWs A n S)) (fun s1 w1 h1 b1 e1 => ?_) _ _ l1
  refine g_iload_n (M := mX8_haves) dX8_haves_4 2 rfl rfl ?_
  refine g_aload_n (M := mX8_haves) dX8_haves_5 0 rfl rfl ?_
  refine k_get (M := mX8_haves) (v := .ref (A (qMo + 2))) dX8_haves_6 kF_X8_20.r qMo (by omega) (hMo.o) rfl ?_
  refine h_iconst (M := mX8_haves) dX8_haves_9 ?_
  refine k_iald (M := mX8_haves) (len := 351) (f := VMo.2 2) dX8_haves_10 (qMo + 2) (by omega) (hMo.a (d := (0, 351)) 1 rfl) (Nat.le_of_ble_eq_true rfl) (by decide) (by decide) ?_
  obtain ⟨g34, h1⟩ := zgi h1
  refine h_icmp_ge (M := mX8_haves) (tgt := 61) dX8_haves_11 (by decide) g34.1 g34.2 (fun c33 => ?_) (fun c33 => ?_)
  · have h1 := zti c33 h1
    refine g_lv (M := mX8_haves) [1] rfl ?_
    exact r1 _ (e1 _ (Option.some.inj h1).symm)
  · have h1 := zfi (Int.not_le.mpr c33) h1
    refine g_iload_n (M := mX8_haves) dX8_haves_14 1 rfl rfl ?_
    refine g_aload_n (M := mX8_haves) dX8_haves_15 0 rfl rfl ?_
    refine g_iload_n (M := mX8_haves) dX8_haves_16 2 rfl rfl ?_
    obtain ⟨t35, u36, h1⟩ := zbi h1
    refine g_callVr (M := mX8_haves) [.int (iI s1.2)] hX dX8_haves_17 vX8_isOut kM_X8_226 (wX8_isOut hX hMo (by omega)  u36) qMo (zWs_at (by omega) (hMo.o)) rfl ⟨(Nat.le_of_ble_eq_true rfl), (Nat.le_of_ble_eq_true rfl)⟩ ⟨(Nat.le_of_ble_eq_true rfl), (Nat.le_of_ble_eq_true rfl)⟩ (Nat.le_of_ble_eq_true rfl) ?_
    refine zJn_J (J := fun x48 => G X mX8_haves (zPm X 4 0 0 (zRet (zWs A n S) (some (.int (iI res))))) 0 0 48 [(0, .ref (A qMo)), (2, .int (iI s1.2))] [.int (iI x48), .int (iI s1.1)] (zWs A n S)) h1 (fun x48 h1 => ?_) (fun j48 h1 => ?_)
    · obtain ⟨t49, u50, h1⟩ := zbi h1
      refine g_callSr (M := mX8_haves) [.int (iI x48)] hX dX8_haves_48 vX8_truth kM_X8_84 (wX8_truth hX   u50) rfl ⟨(Nat.le_of_ble_eq_true rfl), (Nat.le_of_ble_eq_true rfl)⟩ ⟨(Nat.le_of_ble_eq_true rfl), (Nat.le_of_ble_eq_true rfl)⟩ (Nat.le_of_ble_eq_true rfl) ?_
      refine g_iload_n (M := mX8_haves) dX8_haves_51 1 rfl rfl ?_
      obtain ⟨g51, h1⟩ := zgi h1
      refine g_ishl (M := mX8_haves) dX8_haves_52 ?_
      refine h_topx (M := mX8_haves) (b := t49 * zP2 s1.2) (iI_shl _ g51.1 g51.2) ?_
      obtain ⟨g52, h1⟩ := zgi h1
      refine g_ior (M := mX8_haves) dX8_haves_53 ?_
      refine h_topx (M := mX8_haves) (b := zOr s1.1 (t49 * zP2 s1.2)) (iI_or g52.1 g52.2) ?_
      refine g_istore_n (M := mX8_haves) (lv' := [(0, .ref (A qMo)), (2, .int (iI s1.2)), (1, .int (iI (zOr s1.1 (t49 * zP2 s1.2))))]) dX8_haves_54 rfl (by decide) rfl ?_
      refine h_iinc (M := mX8_haves) (j := 1) (lv' := [(0, .ref (A qMo)), (2, .int (iI (s1.2 + 1))), (1, .int (iI (zOr s1.1 (t49 * zP2 s1.2))))]) dX8_haves_55 rfl (Nat.le_of_ble_eq_true rfl) rfl ?_
      refine g_goto (M := mX8_haves) (tgt := 4) dX8_haves_58 (by decide) ?_
      refine g_lv (M := mX8_haves) [0, 2, 1] rfl ?_
      exact b1 _ (Option.some.inj h1).symm
    · refine zJn_J (J := fun x58 => G X mX8_haves (zPm X 4 0 0 (zRet (zWs A n S) (some (.int (iI res))))) 0 0 47 [(0, .ref (A qMo)), (2, .int (iI s1.2))] [.int (iI s1.1)] (zWs A n S)) h1 (fun x58 h1 => ?_) (fun j58 h1 => ?_)
      · refine h_iconst (M := mX8_haves) dX8_haves_47 ?_
        exact j48 0 h1
      · refine h_bne (M := mX8_haves) (tgt := 47) dX8_haves_20 (by decide) (fun c59 => ?_) (fun c59 => ?_)
        · have h1 := zti c59 h1
          refine g_lv (M := mX8_haves) [0, 2] rfl ?_
          exact j58 () h1
        · have h1 := zfi (zbf c59) h1
          refine g_aload_n (M := mX8_haves) dX8_haves_23 0 rfl rfl ?_
          refine g_iload_n (M := mX8_haves) dX8_haves_24 2 rfl rfl ?_
          refine g_aload_n (M := mX8_haves) dX8_haves_25 0 rfl rfl ?_
          refine k_get (M := mX8_haves) (v := .ref (A (qMo + 2))) dX8_haves_26 kF_X8_20.r qMo (by omega) (hMo.o) rfl ?_
          refine h_iconst (M := mX8_haves) dX8_haves_29 ?_
          refine k_iald (M := mX8_haves) (len := 351) (f := VMo.2 2) dX8_haves_30 (qMo + 2) (by omega) (hMo.a (d := (0, 351)) 1 rfl) (Nat.le_of_ble_eq_true rfl) (by decide) (by decide) ?_
          obtain ⟨t60, u61, h1⟩ := zbi h1
          refine g_callVr (M := mX8_haves) [.int (iI s1.2), .int (iI (VMo.2 2 2))] hX dX8_haves_31 vX8_least kM_X8_239 (wX8_least hX hMo (by omega)  u61) qMo (zWs_at (by omega) (hMo.o)) rfl ⟨(Nat.le_of_ble_eq_true rfl), (Nat.le_of_ble_eq_true rfl)⟩ ⟨(Nat.le_of_ble_eq_true rfl), (Nat.le_of_ble_eq_true rfl)⟩ (Nat.le_of_ble_eq_true rfl) ?_
          refine g_aload_n (M := mX8_haves) dX8_haves_34 0 rfl rfl ?_
          refine k_get (M := mX8_haves) (v := .ref (A (qMo + 2))) dX8_haves_35 kF_X8_20.r qMo (by omega) (hMo.o) rfl ?_
          refine h_iconst (M := mX8_haves) dX8_haves_38 ?_
          refine k_iald (M := mX8_haves) (len := 351) (f := VMo.2 2) dX8_haves_39 (qMo + 2) (by omega) (hMo.a (d := (0, 351)) 1 rfl) (Nat.le_of_ble_eq_true rfl) (by decide) (by decide) ?_
          obtain ⟨g63, h1⟩ := zgi h1
          refine h_icmp_gt (M := mX8_haves) (tgt := 47) dX8_haves_40 (by decide) g63.1 g63.2 (fun c62 => ?_) (fun c62 => ?_)
          · have h1 := zti c62 h1
            refine g_lv (M := mX8_haves) [0, 2] rfl ?_
            exact j58 () h1
          · have h1 := zfi (Int.not_lt.mpr c62) h1
            refine h_iconst (M := mX8_haves) dX8_haves_43 ?_
            refine g_goto (M := mX8_haves) (tgt := 48) dX8_haves_44 (by decide) ?_
            refine g_lv (M := mX8_haves) [0, 2] rfl ?_
            exact j48 1 h1
set_option maxHeartbeats 4000000 in
set_option maxRecDepth 100000 in
theorem wX8_whyTake {X : zX} (hX : zOK X) {A : Nat → Nat} {n : Nat} {S : Nat → va_E} {qMo : Nat} {VMo : CV} (hMo : isC X A shMo qMo VMo S) (bMo : qMo + 20 < n) {a1 : Int} {res : CV × Int} (h : fX8_whyTake VMo a1 = some res) : Con X yX8_whyTake mX8_whyTake 5 0 0 [.ref (A qMo), .int (iI a1)] (zWs A n S) (zRet (zWs A n (zC X A shMo qMo res.1 S)) (some (.int (iI res.2)))) := by
  refine con_of (lv := [(0, .ref (A qMo)), (1, .int (iI a1))]) (by decide) rfl (fun h => by cases h) rfl (Nat.le_of_ble_eq_true rfl) rfl ?_
  refine g_ws (M := mX8_whyTake) (congrArg (zWs A n) hMo.symm) ?_
  unfold fX8_whyTake at h
  refine g_aload_n (M := mX8_whyTake) dX8_whyTake_0 0 rfl rfl ?_
  refine k_get (M := mX8_whyTake) (v := .ref (A (qMo + 2))) dX8_whyTake_1 kF_X8_20.r qMo (by omega) (zC_o) rfl ?_
  refine h_iconst (M := mX8_whyTake) dX8_whyTake_4 ?_
  refine k_iald (M := mX8_whyTake) (len := 351) (f := VMo.2 2) dX8_whyTake_5 (qMo + 2) (by omega) (zC_a (d := (0, 351)) 1 rfl) (Nat.le_of_ble_eq_true rfl) (by decide) (by decide) ?_
  refine h_bipush (M := mX8_whyTake) dX8_whyTake_6 rfl ?_
  obtain ⟨g2, h⟩ := zgi h
  refine h_icmp_ne (M := mX8_whyTake) (tgt := 13) dX8_whyTake_8 (by decide) g2 (by decide) (fun c1 => ?_) (fun c1 => ?_)
  · have h := zfi c1 h
    refine g_aload_n (M := mX8_whyTake) dX8_whyTake_13 0 rfl rfl ?_
    refine g_iload_n (M := mX8_whyTake) dX8_whyTake_14 1 rfl rfl ?_
    obtain ⟨t3, u4, h⟩ := zbi h
    refine g_callVr (M := mX8_whyTake) [.int (iI a1)] hX dX8_whyTake_15 vX8_spells kM_X8_242 (wX8_spells hX zC_self (by omega)  u4) qMo (zWs_at (by omega) (zC_o)) rfl ⟨(Nat.le_of_ble_eq_true rfl), (Nat.le_of_ble_eq_true rfl)⟩ ⟨(Nat.le_of_ble_eq_true rfl), (Nat.le_of_ble_eq_true rfl)⟩ (Nat.le_of_ble_eq_true rfl) ?_
    refine g_ws (M := mX8_whyTake) (congrArg (zWs A n) zC_over) ?_
    refine g_aload_n (M := mX8_whyTake) dX8_whyTake_18 0 rfl rfl ?_
    obtain ⟨t5, u6, h⟩ := zbi h
    refine g_callVr (M := mX8_whyTake) [] hX dX8_whyTake_19 vX8_haves kM_X8_274 (wX8_haves hX zC_self (by omega)  u6) qMo (zWs_at (by omega) (zC_o)) rfl ⟨(Nat.le_of_ble_eq_true rfl), (Nat.le_of_ble_eq_true rfl)⟩ ⟨(Nat.le_of_ble_eq_true rfl), (Nat.le_of_ble_eq_true rfl)⟩ (Nat.le_of_ble_eq_true rfl) ?_
    obtain ⟨g8, h⟩ := zgi h
    refine h_if_ne (M := mX8_whyTake) (tgt := 29) dX8_whyTake_22 (by decide) g8 (fun c7 => ?_) (fun c7 => ?_)
    · have h := zfi c7 h
      refine h_iconst (M := mX8_whyTake) dX8_whyTake_29 ?_
      have e := (Option.some.inj h)
      subst e
      exact g_iret (M := mX8_whyTake) dX8_whyTake_30 rfl (Nat.le_of_ble_eq_true rfl) (Nat.le_of_ble_eq_true rfl) ⟨rfl, rfl⟩
    · have h := zti c7 h
      refine h_iconst (M := mX8_whyTake) dX8_whyTake_25 ?_
      refine g_goto (M := mX8_whyTake) (tgt := 30) dX8_whyTake_26 (by decide) ?_
      have e := (Option.some.inj h)
      subst e
      exact g_iret (M := mX8_whyTake) dX8_whyTake_30 rfl (Nat.le_of_ble_eq_true rfl) (Nat.le_of_ble_eq_true rfl) ⟨rfl, rfl⟩
  · have h := zti c1 h
    refine h_iconst (M := mX8_whyTake) dX8_whyTake_11 ?_
    have e := (Option.some.inj h)
    subst e
    exact g_iret (M := mX8_whyTake) dX8_whyTake_12 rfl (Nat.le_of_ble_eq_true rfl) (Nat.le_of_ble_eq_true rfl) ⟨rfl, rfl⟩
set_option maxHeartbeats 4000000 in
set_option maxRecDepth 100000 in
theorem wX8_may {X : zX} (hX : zOK X) {A : Nat → Nat} {n : Nat} {S : Nat → va_E} {qMo : Nat} {VMo : CV} (hMo : isC X A shMo qMo VMo S) (bMo : qMo + 20 < n) {a1 : Int} {a2 : Int} {a3 : Int} {res : CV × Bool} (h : fX8_may VMo a1 a2 a3 = some res) : Con X yX8_may mX8_may 6 0 0 [.ref (A qMo), .int (iI a1), .int (iI a2), .int (iI a3)] (zWs A n S) (zRet (zWs A n (zC X A shMo qMo res.1 S)) (some (.int (iI (b2 res.2))))) := by
  refine con_of (lv := [(0, .ref (A qMo)), (1, .int (iI a1)), (2, .int (iI a2)), (3, .int (iI a3))]) (by decide) rfl (fun h => by cases h) rfl (Nat.le_of_ble_eq_true rfl) rfl ?_
  refine g_ws (M := mX8_may) (congrArg (zWs A n) hMo.symm) ?_
  unfold fX8_may at h
  refine g_iload_n (M := mX8_may) dX8_may_0 1 rfl rfl ?_
  obtain ⟨g1, h⟩ := zgi h
  by_cases c2 : a1 = 0
  · have h := zti c2 h
    refine g_tableIn (M := mX8_may) (off := 47) (tgt := 48) dX8_may_1 (iI_tlo g1 (by omega)) (iI_thi g1 (by omega)) (iI_tat g1 c2 rfl) (by decide) ?_
    refine g_aload_n (M := mX8_may) dX8_may_48 0 rfl rfl ?_
    refine g_iload_n (M := mX8_may) dX8_may_49 2 rfl rfl ?_
    refine g_iload_n (M := mX8_may) dX8_may_50 3 rfl rfl ?_
    obtain ⟨t3, u4, h⟩ := zbi h
    refine g_callVr (M := mX8_may) [.int (iI a2), .int (iI a3)] hX dX8_may_51 vX8_isPlace kM_X8_229 (wX8_isPlace hX zC_self (by omega)  u4) qMo (zWs_at (by omega) (zC_o)) rfl ⟨(Nat.le_of_ble_eq_true rfl), (Nat.le_of_ble_eq_true rfl)⟩ ⟨(Nat.le_of_ble_eq_true rfl), (Nat.le_of_ble_eq_true rfl)⟩ (Nat.le_of_ble_eq_true rfl) ?_
    have e := (Option.some.inj h)
    subst e
    exact g_zret (M := mX8_may) .boolean dX8_may_54 rfl (b2_nar _) (Nat.le_of_ble_eq_true rfl) (Nat.le_of_ble_eq_true rfl) ⟨rfl, rfl⟩
  have h := zfi c2 h
  by_cases c5 : a1 = 1
  · have h := zti c5 h
    refine g_tableIn (M := mX8_may) (off := 54) (tgt := 55) dX8_may_1 (iI_tlo g1 (by omega)) (iI_thi g1 (by omega)) (iI_tat g1 c5 rfl) (by decide) ?_
    refine g_aload_n (M := mX8_may) dX8_may_55 0 rfl rfl ?_
    refine g_iload_n (M := mX8_may) dX8_may_56 2 rfl rfl ?_
    refine h_iconst (M := mX8_may) dX8_may_57 ?_
    obtain ⟨t6, u7, h⟩ := zbi h
    refine g_callVr (M := mX8_may) [.int (iI a2), .int (iI 1)] hX dX8_may_58 vX8_of kM_X8_166 (wX8_of hX zC_self (by omega)  u7) qMo (zWs_at (by omega) (zC_o)) rfl ⟨(Nat.le_of_ble_eq_true rfl), (Nat.le_of_ble_eq_true rfl)⟩ ⟨(Nat.le_of_ble_eq_true rfl), (Nat.le_of_ble_eq_true rfl)⟩ (Nat.le_of_ble_eq_true rfl) ?_
    refine h_iconst (M := mX8_may) dX8_may_61 ?_
    obtain ⟨g9, h⟩ := zgi h
    refine h_icmp_eq (M := mX8_may) (tgt := 69) dX8_may_62 (by decide) g9 (by decide) (fun c8 => ?_) (fun c8 => ?_)
    · have h := zti c8 h
      refine h_iconst (M := mX8_may) dX8_may_69 ?_
      have e := (Option.some.inj h)
      subst e
      exact g_zret (M := mX8_may) .boolean dX8_may_70 rfl rfl (Nat.le_of_ble_eq_true rfl) (Nat.le_of_ble_eq_true rfl) ⟨rfl, rfl⟩
    · have h := zfi c8 h
      refine h_iconst (M := mX8_may) dX8_may_65 ?_
      refine g_goto (M := mX8_may) (tgt := 70) dX8_may_66 (by decide) ?_
      have e := (Option.some.inj h)
      subst e
      exact g_zret (M := mX8_may) .boolean dX8_may_70 rfl rfl (Nat.le_of_ble_eq_true rfl) (Nat.le_of_ble_eq_true rfl) ⟨rfl, rfl⟩
  have h := zfi c5 h
  by_cases c10 : a1 = 2
  · have h := zti c10 h
    refine g_tableIn (M := mX8_may) (off := 70) (tgt := 71) dX8_may_1 (iI_tlo g1 (by omega)) (iI_thi g1 (by omega)) (iI_tat g1 c10 rfl) (by decide) ?_
    refine g_aload_n (M := mX8_may) dX8_may_71 0 rfl rfl ?_
    refine g_iload_n (M := mX8_may) dX8_may_72 2 rfl rfl ?_
    obtain ⟨t11, u12, h⟩ := zbi h
    refine g_callVr (M := mX8_may) [.int (iI a2)] hX dX8_may_73 vX8_isOut kM_X8_226 (wX8_isOut hX zC_self (by omega)  u12) qMo (zWs_at (by omega) (zC_o)) rfl ⟨(Nat.le_of_ble_eq_true rfl), (Nat.le_of_ble_eq_true rfl)⟩ ⟨(Nat.le_of_ble_eq_true rfl), (Nat.le_of_ble_eq_true rfl)⟩ (Nat.le_of_ble_eq_true rfl) ?_
    refine h_bne (M := mX8_may) (tgt := 83) dX8_may_76 (by decide) (fun c13 => ?_) (fun c13 => ?_)
    · have h := zti c13 h
      refine h_iconst (M := mX8_may) dX8_may_83 ?_
      have e := (Option.some.inj h)
      subst e
      exact g_zret (M := mX8_may) .boolean dX8_may_84 rfl rfl (Nat.le_of_ble_eq_true rfl) (Nat.le_of_ble_eq_true rfl) ⟨rfl, rfl⟩
    · have h := zfi (zbf c13) h
      refine h_iconst (M := mX8_may) dX8_may_79 ?_
      refine g_goto (M := mX8_may) (tgt := 84) dX8_may_80 (by decide) ?_
      have e := (Option.some.inj h)
      subst e
      exact g_zret (M := mX8_may) .boolean dX8_may_84 rfl rfl (Nat.le_of_ble_eq_true rfl) (Nat.le_of_ble_eq_true rfl) ⟨rfl, rfl⟩
  have h := zfi c10 h
  by_cases c14 : a1 = 3
  · have h := zti c14 h
    refine g_tableIn (M := mX8_may) (off := 84) (tgt := 85) dX8_may_1 (iI_tlo g1 (by omega)) (iI_thi g1 (by omega)) (iI_tat g1 c14 rfl) (by decide) ?_
    refine g_iload_n (M := mX8_may) dX8_may_85 2 rfl rfl ?_
    obtain ⟨g15, h⟩ := zgi h
    refine h_i2l (M := mX8_may) dX8_may_86 g15 ?_
    refine g_lconst (M := mX8_may) (v := iL 1) dX8_may_87 rfl ?_
    refine g_ldc2 (M := mX8_may) (v := iL (50)) dX8_may_88 kC_X8_374 ?_
    obtain ⟨t16, u17, h⟩ := zbi h
    refine g_callSr (M := mX8_may) [.long (iL a2), .long (iL 1), .long (iL 50)] hX dX8_may_91 vX8_isIn kM_X8_99 (wX8_isIn hX   u17) rfl ⟨(Nat.le_of_ble_eq_true rfl), (Nat.le_of_ble_eq_true rfl)⟩ ⟨(Nat.le_of_ble_eq_true rfl), (Nat.le_of_ble_eq_true rfl)⟩ (Nat.le_of_ble_eq_true rfl) ?_
    have e := (Option.some.inj h)
    subst e
    exact g_zret (M := mX8_may) .boolean dX8_may_94 rfl (b2_nar _) (Nat.le_of_ble_eq_true rfl) (Nat.le_of_ble_eq_true rfl) ⟨rfl, rfl⟩
  have h := zfi c14 h
  by_cases c18 : a1 = 4
  · have h := zti c18 h
    refine g_tableIn (M := mX8_may) (off := 94) (tgt := 95) dX8_may_1 (iI_tlo g1 (by omega)) (iI_thi g1 (by omega)) (iI_tat g1 c18 rfl) (by decide) ?_
    refine g_aload_n (M := mX8_may) dX8_may_95 0 rfl rfl ?_
    refine g_iload_n (M := mX8_may) dX8_may_96 2 rfl rfl ?_
    obtain ⟨t19, u20, h⟩ := zbi h
    refine g_callVr (M := mX8_may) [.int (iI a2)] hX dX8_may_97 vX8_whyTake kM_X8_335 (wX8_whyTake hX zC_self (by omega)  u20) qMo (zWs_at (by omega) (zC_o)) rfl ⟨(Nat.le_of_ble_eq_true rfl), (Nat.le_of_ble_eq_true rfl)⟩ ⟨(Nat.le_of_ble_eq_true rfl), (Nat.le_of_ble_eq_true rfl)⟩ (Nat.le_of_ble_eq_true rfl) ?_
    refine g_ws (M := mX8_may) (congrArg (zWs A n) zC_over) ?_
    obtain ⟨g22, h⟩ := zgi h
    refine h_if_ne (M := mX8_may) (tgt := 107) dX8_may_100 (by decide) g22 (fun c21 => ?_) (fun c21 => ?_)
    · have h := zfi c21 h
      refine h_iconst (M := mX8_may) dX8_may_107 ?_
      have e := (Option.some.inj h)
      subst e
      exact g_zret (M := mX8_may) .boolean dX8_may_108 rfl rfl (Nat.le_of_ble_eq_true rfl) (Nat.le_of_ble_eq_true rfl) ⟨rfl, rfl⟩
    · have h := zti c21 h
      refine h_iconst (M := mX8_may) dX8_may_103 ?_
      refine g_goto (M := mX8_may) (tgt := 108) dX8_may_104 (by decide) ?_
      have e := (Option.some.inj h)
      subst e
      exact g_zret (M := mX8_may) .boolean dX8_may_108 rfl rfl (Nat.le_of_ble_eq_true rfl) (Nat.le_of_ble_eq_true rfl) ⟨rfl, rfl⟩
  have h := zfi c18 h
  by_cases c23 : a1 = 5
  · have h := zti c23 h
    refine g_tableIn (M := mX8_may) (off := 108) (tgt := 109) dX8_may_1 (iI_tlo g1 (by omega)) (iI_thi g1 (by omega)) (iI_tat g1 c23 rfl) (by decide) ?_
    refine g_aload_n (M := mX8_may) dX8_may_109 0 rfl rfl ?_
    obtain ⟨t24, u25, h⟩ := zbi h
    refine g_callVr (M := mX8_may) [] hX dX8_may_110 vX8_searches kM_X8_323 (wX8_searches hX zC_self (by omega)  u25) qMo (zWs_at (by omega) (zC_o)) rfl ⟨(Nat.le_of_ble_eq_true rfl), (Nat.le_of_ble_eq_true rfl)⟩ ⟨(Nat.le_of_ble_eq_true rfl), (Nat.le_of_ble_eq_true rfl)⟩ (Nat.le_of_ble_eq_true rfl) ?_
    refine g_ws (M := mX8_may) (congrArg (zWs A n) zC_over) ?_
    refine g_aload_n (M := mX8_may) dX8_may_113 0 rfl rfl ?_
    refine g_aload_n (M := mX8_may) dX8_may_114 0 rfl rfl ?_
    refine k_get (M := mX8_may) (v := .int (iI (t24.1 31))) dX8_may_115 kF_X8_306.r qMo (by omega) (zC_o) rfl ?_
    obtain ⟨t26, u27, h⟩ := zbi h
    refine g_callVr (M := mX8_may) [.int (iI (t24.1 31))] hX dX8_may_118 vX8_whyTake kM_X8_335 (wX8_whyTake hX zC_self (by omega)  u27) qMo (zWs_at (by omega) (zC_o)) rfl ⟨(Nat.le_of_ble_eq_true rfl), (Nat.le_of_ble_eq_true rfl)⟩ ⟨(Nat.le_of_ble_eq_true rfl), (Nat.le_of_ble_eq_true rfl)⟩ (Nat.le_of_ble_eq_true rfl) ?_
    refine g_ws (M := mX8_may) (congrArg (zWs A n) zC_over) ?_
    obtain ⟨g29, h⟩ := zgi h
    refine h_if_ne (M := mX8_may) (tgt := 128) dX8_may_121 (by decide) g29 (fun c28 => ?_) (fun c28 => ?_)
    · have h := zfi c28 h
      refine h_iconst (M := mX8_may) dX8_may_128 ?_
      have e := (Option.some.inj h)
      subst e
      exact g_zret (M := mX8_may) .boolean dX8_may_129 rfl rfl (Nat.le_of_ble_eq_true rfl) (Nat.le_of_ble_eq_true rfl) ⟨rfl, rfl⟩
    · have h := zti c28 h
      refine h_iconst (M := mX8_may) dX8_may_124 ?_
      refine g_goto (M := mX8_may) (tgt := 129) dX8_may_125 (by decide) ?_
      have e := (Option.some.inj h)
      subst e
      exact g_zret (M := mX8_may) .boolean dX8_may_129 rfl rfl (Nat.le_of_ble_eq_true rfl) (Nat.le_of_ble_eq_true rfl) ⟨rfl, rfl⟩
  have h := zfi c23 h
  by_cases c30 : a1 = 6
  · have h := zti c30 h
    refine g_tableIn (M := mX8_may) (off := 129) (tgt := 130) dX8_may_1 (iI_tlo g1 (by omega)) (iI_thi g1 (by omega)) (iI_tat g1 c30 rfl) (by decide) ?_
    refine g_aload_n (M := mX8_may) dX8_may_130 0 rfl rfl ?_
    refine g_iload_n (M := mX8_may) dX8_may_131 2 rfl rfl ?_
    obtain ⟨t31, u32, h⟩ := zbi h
    refine g_callVr (M := mX8_may) [.int (iI a2)] hX dX8_may_132 vX8_isOut kM_X8_226 (wX8_isOut hX zC_self (by omega)  u32) qMo (zWs_at (by omega) (zC_o)) rfl ⟨(Nat.le_of_ble_eq_true rfl), (Nat.le_of_ble_eq_true rfl)⟩ ⟨(Nat.le_of_ble_eq_true rfl), (Nat.le_of_ble_eq_true rfl)⟩ (Nat.le_of_ble_eq_true rfl) ?_
    refine h_bne (M := mX8_may) (tgt := 142) dX8_may_135 (by decide) (fun c33 => ?_) (fun c33 => ?_)
    · have h := zti c33 h
      refine h_iconst (M := mX8_may) dX8_may_142 ?_
      have e := (Option.some.inj h)
      subst e
      exact g_zret (M := mX8_may) .boolean dX8_may_143 rfl rfl (Nat.le_of_ble_eq_true rfl) (Nat.le_of_ble_eq_true rfl) ⟨rfl, rfl⟩
    · have h := zfi (zbf c33) h
      refine h_iconst (M := mX8_may) dX8_may_138 ?_
      refine g_goto (M := mX8_may) (tgt := 143) dX8_may_139 (by decide) ?_
      have e := (Option.some.inj h)
      subst e
      exact g_zret (M := mX8_may) .boolean dX8_may_143 rfl rfl (Nat.le_of_ble_eq_true rfl) (Nat.le_of_ble_eq_true rfl) ⟨rfl, rfl⟩
  have h := zfi c30 h
  by_cases c34 : a1 = 7
  · have h := zti c34 h
    refine g_tableIn (M := mX8_may) (off := 143) (tgt := 144) dX8_may_1 (iI_tlo g1 (by omega)) (iI_thi g1 (by omega)) (iI_tat g1 c34 rfl) (by decide) ?_
    refine g_aload_n (M := mX8_may) dX8_may_144 0 rfl rfl ?_
    refine g_iload_n (M := mX8_may) dX8_may_145 2 rfl rfl ?_
    obtain ⟨t35, u36, h⟩ := zbi h
    refine g_callVr (M := mX8_may) [.int (iI a2)] hX dX8_may_146 vX8_isOut kM_X8_226 (wX8_isOut hX zC_self (by omega)  u36) qMo (zWs_at (by omega) (zC_o)) rfl ⟨(Nat.le_of_ble_eq_true rfl), (Nat.le_of_ble_eq_true rfl)⟩ ⟨(Nat.le_of_ble_eq_true rfl), (Nat.le_of_ble_eq_true rfl)⟩ (Nat.le_of_ble_eq_true rfl) ?_
    have e := (Option.some.inj h)
    subst e
    exact g_zret (M := mX8_may) .boolean dX8_may_149 rfl (b2_nar _) (Nat.le_of_ble_eq_true rfl) (Nat.le_of_ble_eq_true rfl) ⟨rfl, rfl⟩
  have h := zfi c34 h
  refine g_tableOut (M := mX8_may) (tgt := 150) dX8_may_1 (iI_tout g1 (by omega)) (by decide) ?_
  refine g_iload_n (M := mX8_may) dX8_may_150 2 rfl rfl ?_
  obtain ⟨g37, h⟩ := zgi h
  refine h_i2l (M := mX8_may) dX8_may_151 g37 ?_
  refine g_lconst (M := mX8_may) (v := iL 0) dX8_may_152 rfl ?_
  refine g_ldc2 (M := mX8_may) (v := iL (3)) dX8_may_153 kC_X8_321 ?_
  obtain ⟨t38, u39, h⟩ := zbi h
  refine g_callSr (M := mX8_may) [.long (iL a2), .long (iL 0), .long (iL 3)] hX dX8_may_156 vX8_isIn kM_X8_99 (wX8_isIn hX   u39) rfl ⟨(Nat.le_of_ble_eq_true rfl), (Nat.le_of_ble_eq_true rfl)⟩ ⟨(Nat.le_of_ble_eq_true rfl), (Nat.le_of_ble_eq_true rfl)⟩ (Nat.le_of_ble_eq_true rfl) ?_
  have e := (Option.some.inj h)
  subst e
  exact g_zret (M := mX8_may) .boolean dX8_may_159 rfl (b2_nar _) (Nat.le_of_ble_eq_true rfl) (Nat.le_of_ble_eq_true rfl) ⟨rfl, rfl⟩
set_option maxHeartbeats 4000000 in
set_option maxRecDepth 100000 in
theorem wX8_ones {X : zX} (hX : zOK X) {A : Nat → Nat} {n : Nat} {S : Nat → va_E} {a1 : Int} {res : Int} (h : fX8_ones a1 = some res) : Con X yX8_ones mX8_ones 0 0 0 [.int (iI a1)] (zWs A n S) (zRet (zWs A n S) (some (.int (iI res)))) := by
  refine con_of (lv := [(0, .int (iI a1))]) (by decide) rfl (fun h => by cases h) rfl (Nat.le_of_ble_eq_true rfl) rfl ?_
  unfold fX8_ones at h
  refine h_iconst (M := mX8_ones) dX8_ones_0 ?_
  refine g_istore_n (M := mX8_ones) (lv' := [(0, .int (iI a1)), (1, .int (iI 0))]) dX8_ones_1 rfl (by decide) rfl ?_
  refine h_iconst (M := mX8_ones) dX8_ones_2 ?_
  refine g_istore_n (M := mX8_ones) (lv' := [(0, .int (iI a1)), (1, .int (iI 0)), (2, .int (iI 0))]) dX8_ones_3 rfl (by decide) rfl ?_
  obtain ⟨x1, l1, h⟩ := zbi h
  have r1 : ∀ y1, y1 = x1 → G X mX8_ones (zPm X 0 0 0 (zRet (zWs A n S) (some (.int (iI res))))) 0 0 24 [(1, .int (iI y1.1))] [] (zWs A n S) := by
    intro y1 ey
    rw [← ey] at h
    refine g_iload_n (M := mX8_ones) dX8_ones_24 0 rfl rfl ?_
    have e := (Option.some.inj h)
    subst e
    exact g_iret (M := mX8_ones) dX8_ones_25 rfl (Nat.le_of_ble_eq_true rfl) (Nat.le_of_ble_eq_true rfl) ⟨rfl, rfl⟩
  refine zLp_J (J := fun s1 => G X mX8_ones (zPm X 0 0 0 (zRet (zWs A n S) (some (.int (iI res))))) 0 0 4 [(0, .int (iI a1)), (1, .int (iI s1.1)), (2, .int (iI s1.2))] [] (zWs A n S)) (fun s1 w1 h1 b1 e1 => ?_) _ _ l1
  refine g_iload_n (M := mX8_ones) dX8_ones_4 2 rfl rfl ?_
  refine h_bipush (M := mX8_ones) dX8_ones_5 rfl ?_
  obtain ⟨g6, h1⟩ := zgi h1
  refine h_icmp_ge (M := mX8_ones) (tgt := 24) dX8_ones_7 (by decide) g6 (by decide) (fun c5 => ?_) (fun c5 => ?_)
  · have h1 := zti c5 h1
    refine g_lv (M := mX8_ones) [1] rfl ?_
    exact r1 _ (e1 _ (Option.some.inj h1).symm)
  · have h1 := zfi (Int.not_le.mpr c5) h1
    refine g_iload_n (M := mX8_ones) dX8_ones_10 1 rfl rfl ?_
    refine g_iload_n (M := mX8_ones) dX8_ones_11 0 rfl rfl ?_
    refine g_iload_n (M := mX8_ones) dX8_ones_12 2 rfl rfl ?_
    obtain ⟨g7, h1⟩ := zgi h1
    refine g_ishr (M := mX8_ones) dX8_ones_13 ?_
    refine h_topx (M := mX8_ones) (b := a1 / zP2 s1.2) (iI_shr g7.1 g7.2) ?_
    refine h_iconst (M := mX8_ones) dX8_ones_14 ?_
    refine g_iand (M := mX8_ones) dX8_ones_15 ?_
    refine h_topx (M := mX8_ones) (b := (a1 / zP2 s1.2) % 2) (iI_mask _ 1 (by decide)) ?_
    refine h_iadd (M := mX8_ones) dX8_ones_16 ?_
    refine g_istore_n (M := mX8_ones) (lv' := [(0, .int (iI a1)), (1, .int (iI (s1.1 + ((a1 / zP2 s1.2) % 2)))), (2, .int (iI s1.2))]) dX8_ones_17 rfl (by decide) rfl ?_
    refine h_iinc (M := mX8_ones) (j := 2) (lv' := [(0, .int (iI a1)), (1, .int (iI (s1.1 + ((a1 / zP2 s1.2) % 2)))), (2, .int (iI (s1.2 + 1)))]) dX8_ones_18 rfl (Nat.le_of_ble_eq_true rfl) rfl ?_
    refine g_goto (M := mX8_ones) (tgt := 4) dX8_ones_21 (by decide) ?_
    exact b1 _ (Option.some.inj h1).symm
