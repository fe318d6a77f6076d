set_option maxHeartbeats 4000000 in
set_option maxRecDepth 100000 in
theorem wX7_runCommand {X : zX} (hX : zOK X) {A : Nat → Nat} {n : Nat} {S : Nat → va_E} {σ : CS} (bn : 91 ≤ n) {a1 : Int} {res : CS × Bool} (h : fX7_runCommand σ a1 = some res) : Con X yX7_runCommand mX7_runCommand 8 (3 * zNk (σ 3) a1 (σ 7) (σ 4)) (13652 * zNk (σ 3) a1 (σ 7) (σ 4)) [.ref (A 0), .int (iI a1)] (zWs A n (zSt X A σ S)) (zRA A (fun k => 1 ≤ k ∧ k < 91) (fun A' => (zWs A' n (zSt X A' res.1 S))) (fun A' => .inl (some (.int (iI (b2 res.2)))))) := by
  refine con_of (lv := [(0, .ref (A 0)), (1, .int (iI a1))]) (by decide) rfl (fun h => by cases h) rfl (Nat.le_of_ble_eq_true rfl) rfl ?_
  unfold fX7_runCommand at h
  refine g_aload_n (M := mX7_runCommand) dX7_runCommand_0 0 rfl rfl ?_
  refine k_get (M := mX7_runCommand) (v := .ref (A 6)) dX7_runCommand_1 kF_X7_26.r 0 (by omega) ((zSt_c 0 rfl (show σ 0 = (σ 0) from rfl))).o rfl ?_
  refine k_get (M := mX7_runCommand) (v := .ref (A (6 + 2))) dX7_runCommand_4 kF_X7_431 6 (by omega) ((zSt_c 3 rfl (show σ 3 = (σ 3) from rfl))).o rfl ?_
  refine g_iload_n (M := mX7_runCommand) dX7_runCommand_7 1 rfl rfl ?_
  obtain ⟨g1, h⟩ := zgi h
  refine k_iald (M := mX7_runCommand) (len := 30) (f := (σ 3).2 2) dX7_runCommand_8 (6 + 2) (by omega) (((zSt_c 3 rfl (show σ 3 = (σ 3) from rfl))).a (d := (0, 30)) 1 rfl) (Nat.le_of_ble_eq_true rfl) g1.1 g1.2 ?_
  refine g_istore_n (M := mX7_runCommand) (lv' := [(0, .ref (A 0)), (1, .int (iI a1)), (2, .int (iI (((σ 3).2 2) a1)))]) dX7_runCommand_9 rfl (by decide) rfl ?_
  refine g_aload_n (M := mX7_runCommand) dX7_runCommand_10 0 rfl rfl ?_
  refine k_get (M := mX7_runCommand) (v := .ref (A 6)) dX7_runCommand_11 kF_X7_26.r 0 (by omega) ((zSt_c 0 rfl (show σ 0 = (σ 0) from rfl))).o rfl ?_
  refine k_get (M := mX7_runCommand) (v := .ref (A (6 + 3))) dX7_runCommand_14 kF_X7_422 6 (by omega) ((zSt_c 3 rfl (show σ 3 = (σ 3) from rfl))).o rfl ?_
  refine g_iload_n (M := mX7_runCommand) dX7_runCommand_17 1 rfl rfl ?_
  refine k_iald (M := mX7_runCommand) (len := 30) (f := (σ 3).2 3) dX7_runCommand_18 (6 + 3) (by omega) (((zSt_c 3 rfl (show σ 3 = (σ 3) from rfl))).a (d := (0, 30)) 2 rfl) (Nat.le_of_ble_eq_true rfl) g1.1 g1.2 ?_
  refine g_istore_n (M := mX7_runCommand) (lv' := [(0, .ref (A 0)), (1, .int (iI a1)), (2, .int (iI (((σ 3).2 2) a1))), (3, .int (iI (((σ 3).2 3) a1)))]) dX7_runCommand_19 rfl (by decide) rfl ?_
  refine g_aload_n (M := mX7_runCommand) dX7_runCommand_20 0 rfl rfl ?_
  refine k_get (M := mX7_runCommand) (v := .ref (A 6)) dX7_runCommand_21 kF_X7_26.r 0 (by omega) ((zSt_c 0 rfl (show σ 0 = (σ 0) from rfl))).o rfl ?_
  refine k_get (M := mX7_runCommand) (v := .ref (A (6 + 1))) dX7_runCommand_24 kF_X7_419 6 (by omega) ((zSt_c 3 rfl (show σ 3 = (σ 3) from rfl))).o rfl ?_
  refine g_iload_n (M := mX7_runCommand) dX7_runCommand_27 1 rfl rfl ?_
  refine k_iald (M := mX7_runCommand) (len := 30) (f := (σ 3).2 1) dX7_runCommand_28 (6 + 1) (by omega) (((zSt_c 3 rfl (show σ 3 = (σ 3) from rfl))).a (d := (0, 30)) 0 rfl) (Nat.le_of_ble_eq_true rfl) g1.1 g1.2 ?_
  obtain ⟨g2, h⟩ := zgi h
  by_cases c3 : (((σ 3).2 1) a1) = 1
  · have h := zti c3 h
    refine g_tableIn (M := mX7_runCommand) (off := 51) (tgt := 80) dX7_runCommand_29 (iI_tlo g2 (by omega)) (iI_thi g2 (by omega)) (iI_tat g2 c3 rfl) (by decide) ?_
    refine g_aload_n (M := mX7_runCommand) dX7_runCommand_80 0 rfl rfl ?_
    refine g_iload_n (M := mX7_runCommand) dX7_runCommand_81 2 rfl rfl ?_
    refine g_iload_n (M := mX7_runCommand) dX7_runCommand_82 3 rfl rfl ?_
    obtain ⟨t4, u5, h⟩ := zbi h
    refine g_callVA (M := mX7_runCommand) [.int (iI (((σ 3).2 2) a1)), .int (iI (((σ 3).2 3) a1))] hX dX7_runCommand_83 vX7_runChoose kM_X7_433 (wX7_runChoose hX bn  u5) (fun _ => rfl) 0 (zWs_at (by omega) ((zSt_c 0 rfl (show σ 0 = (σ 0) from rfl))).o) rfl ⟨(Nat.le_of_ble_eq_true rfl), (Nat.le_of_ble_eq_true rfl)⟩ ⟨(show 0 + 0 ≤ 3 * zNk (σ 3) a1 (σ 7) (σ 4) by omega), (show 0 + 0 ≤ 13652 * zNk (σ 3) a1 (σ 7) (σ 4) by omega)⟩ (Nat.le_of_ble_eq_true rfl) (fun A6 hnA6 => ?_)
    have hAc7 : ∀ k, ¬ (fun k => 1 ≤ k ∧ k < 91) k → A6 k = A k := fun k hk => (hnA6 k (by omega)).trans (rfl)
    refine g_lvc (M := mX7_runCommand) (lv' := [(0, .ref (A6 0)), (1, .int (iI a1)), (2, .int (iI (((σ 3).2 2) a1))), (3, .int (iI (((σ 3).2 3) a1)))]) (by rw [hnA6 0 (by omega)]) ?_
    have e := (Option.some.inj h)
    subst e
    exact g_zret (M := mX7_runCommand) .boolean dX7_runCommand_86 rfl (b2_nar _) (Nat.zero_le _) (Nat.zero_le _) ⟨_, hAc7, rfl, rfl⟩
  have h := zfi c3 h
  by_cases c8 : (((σ 3).2 1) a1) = 2
  · have h := zti c8 h
    refine g_tableIn (M := mX7_runCommand) (off := 58) (tgt := 87) dX7_runCommand_29 (iI_tlo g2 (by omega)) (iI_thi g2 (by omega)) (iI_tat g2 c8 rfl) (by decide) ?_
    refine g_aload_n (M := mX7_runCommand) dX7_runCommand_87 0 rfl rfl ?_
    refine g_iload_n (M := mX7_runCommand) dX7_runCommand_88 2 rfl rfl ?_
    obtain ⟨t9, u10, h⟩ := zbi h
    refine g_callVA (M := mX7_runCommand) [.int (iI (((σ 3).2 2) a1))] hX dX7_runCommand_89 vX7_runClear kM_X7_436 (wX7_runClear hX bn  u10) (fun _ => rfl) 0 (zWs_at (by omega) ((zSt_c 0 rfl (show σ 0 = (σ 0) from rfl))).o) rfl ⟨(Nat.le_of_ble_eq_true rfl), (Nat.le_of_ble_eq_true rfl)⟩ ⟨(show 0 + 0 ≤ 3 * zNk (σ 3) a1 (σ 7) (σ 4) by omega), (show 0 + 0 ≤ 13652 * zNk (σ 3) a1 (σ 7) (σ 4) by omega)⟩ (Nat.le_of_ble_eq_true rfl) (fun A11 hnA11 => ?_)
    have hAc12 : ∀ k, ¬ (fun k => 1 ≤ k ∧ k < 91) k → A11 k = A k := fun k hk => (hnA11 k (by omega)).trans (rfl)
    refine g_lvc (M := mX7_runCommand) (lv' := [(0, .ref (A11 0)), (1, .int (iI a1)), (2, .int (iI (((σ 3).2 2) a1))), (3, .int (iI (((σ 3).2 3) a1)))]) (by rw [hnA11 0 (by omega)]) ?_
    have e := (Option.some.inj h)
    subst e
    exact g_zret (M := mX7_runCommand) .boolean dX7_runCommand_92 rfl (b2_nar _) (Nat.zero_le _) (Nat.zero_le _) ⟨_, hAc12, rfl, rfl⟩
  have h := zfi c8 h
  by_cases c13 : (((σ 3).2 1) a1) = 3
  · have h := zti c13 h
    refine g_tableIn (M := mX7_runCommand) (off := 64) (tgt := 93) dX7_runCommand_29 (iI_tlo g2 (by omega)) (iI_thi g2 (by omega)) (iI_tat g2 c13 rfl) (by decide) ?_
    refine g_aload_n (M := mX7_runCommand) dX7_runCommand_93 0 rfl rfl ?_
    refine g_iload_n (M := mX7_runCommand) dX7_runCommand_94 2 rfl rfl ?_
    obtain ⟨t14, u15, h⟩ := zbi h
    refine g_callVA (M := mX7_runCommand) [.int (iI (((σ 3).2 2) a1))] hX dX7_runCommand_95 vX7_runBetter kM_X7_439 (wX7_runBetter hX bn  u15) (fun _ => rfl) 0 (zWs_at (by omega) ((zSt_c 0 rfl (show σ 0 = (σ 0) from rfl))).o) rfl ⟨(Nat.le_of_ble_eq_true rfl), (Nat.le_of_ble_eq_true rfl)⟩ ⟨(show 0 + 0 ≤ 3 * zNk (σ 3) a1 (σ 7) (σ 4) by omega), (show 0 + 0 ≤ 13652 * zNk (σ 3) a1 (σ 7) (σ 4) by omega)⟩ (Nat.le_of_ble_eq_true rfl) (fun A16 hnA16 => ?_)
    have hAc17 : ∀ k, ¬ (fun k => 1 ≤ k ∧ k < 91) k → A16 k = A k := fun k hk => (hnA16 k (by omega)).trans (rfl)
    refine g_lvc (M := mX7_runCommand) (lv' := [(0, .ref (A16 0)), (1, .int (iI a1)), (2, .int (iI (((σ 3).2 2) a1))), (3, .int (iI (((σ 3).2 3) a1)))]) (by rw [hnA16 0 (by omega)]) ?_
    have e := (Option.some.inj h)
    subst e
    exact g_zret (M := mX7_runCommand) .boolean dX7_runCommand_98 rfl (b2_nar _) (Nat.zero_le _) (Nat.zero_le _) ⟨_, hAc17, rfl, rfl⟩
  have h := zfi c13 h
  by_cases c18 : (((σ 3).2 1) a1) = 4
  · have h := zti c18 h
    refine g_tableIn (M := mX7_runCommand) (off := 70) (tgt := 99) dX7_runCommand_29 (iI_tlo g2 (by omega)) (iI_thi g2 (by omega)) (iI_tat g2 c18 rfl) (by decide) ?_
    refine g_iload_n (M := mX7_runCommand) dX7_runCommand_99 3 rfl rfl ?_
    obtain ⟨t19, u20, h⟩ := zbi h
    refine g_callSr (M := mX7_runCommand) [.int (iI (((σ 3).2 3) a1))] hX dX7_runCommand_100 vX7_isCountOfImproves kM_X7_355 (wX7_isCountOfImproves hX   u20) rfl ⟨(Nat.le_of_ble_eq_true rfl), (Nat.le_of_ble_eq_true rfl)⟩ ⟨(show 0 + 0 ≤ 3 * zNk (σ 3) a1 (σ 7) (σ 4) by omega), (show 0 + 0 ≤ 13652 * zNk (σ 3) a1 (σ 7) (σ 4) by omega)⟩ (Nat.le_of_ble_eq_true rfl) ?_
    refine h_beq (M := mX7_runCommand) (tgt := 125) dX7_runCommand_103 (by decide) (fun c21 => ?_) (fun c21 => ?_)
    · have h := zfi (zbf c21) h
      refine h_iconst (M := mX7_runCommand) dX7_runCommand_125 ?_
      have e := (Option.some.inj h)
      subst e
      exact g_zret (M := mX7_runCommand) .boolean dX7_runCommand_126 rfl rfl (Nat.zero_le _) (Nat.zero_le _) ⟨_, (fun _ _ => rfl), rfl, rfl⟩
    · have h := zti c21 h
      refine g_aload_n (M := mX7_runCommand) dX7_runCommand_106 0 rfl rfl ?_
      refine k_get (M := mX7_runCommand) (v := .ref (A 45)) dX7_runCommand_107 kF_X7_60.r 0 (by omega) ((zSt_c 0 rfl (show σ 0 = (σ 0) from rfl))).o rfl ?_
      refine g_aload_n (M := mX7_runCommand) dX7_runCommand_110 0 rfl rfl ?_
      refine k_get (M := mX7_runCommand) (v := .ref (A 12)) dX7_runCommand_111 kF_X7_33.r 0 (by omega) ((zSt_c 0 rfl (show σ 0 = (σ 0) from rfl))).o rfl ?_
      refine g_iload_n (M := mX7_runCommand) dX7_runCommand_114 3 rfl rfl ?_
      obtain ⟨t22, u23, h⟩ := zbi h
      refine g_callVr (M := mX7_runCommand) [.ref (A 12), .int (iI (((σ 3).2 3) a1))] hX dX7_runCommand_115 vX1_improveAtMost kM_X7_360 (wX1_improveAtMost hX (zSt_c 9 rfl (show σ 9 = (σ 9) from rfl)) (by omega) (zSt_c 4 rfl (show σ 4 = (σ 4) from rfl)) (by omega) (by omega) u23) 45 (zWs_at (by omega) ((zSt_c 9 rfl (show σ 9 = (σ 9) from rfl))).o) rfl ⟨(Nat.le_of_ble_eq_true rfl), (Nat.le_of_ble_eq_true rfl)⟩ ⟨(show 0 + 0 ≤ 3 * zNk (σ 3) a1 (σ 7) (σ 4) by omega), (show 0 + 0 ≤ 13652 * zNk (σ 3) a1 (σ 7) (σ 4) by omega)⟩ (Nat.le_of_ble_eq_true rfl) ?_
      refine g_ws (M := mX7_runCommand) (congrArg (fun z => zWs A n (zC X A shB 12 t22.2.1 (z))) (zSt_p 9 rfl)) ?_
      refine g_ws (M := mX7_runCommand) (congrArg (fun z => zWs A n (z)) (zSt_p 4 rfl)) ?_
      obtain ⟨g25, h⟩ := zgi h
      refine h_if_le (M := mX7_runCommand) (tgt := 125) dX7_runCommand_118 (by decide) g25 (fun c24 => ?_) (fun c24 => ?_)
      · have h := zti c24 h
        refine h_iconst (M := mX7_runCommand) dX7_runCommand_125 ?_
        have e := (Option.some.inj h)
        subst e
        exact g_zret (M := mX7_runCommand) .boolean dX7_runCommand_126 rfl rfl (Nat.zero_le _) (Nat.zero_le _) ⟨_, (fun _ _ => rfl), rfl, rfl⟩
      · have h := zfi (Int.not_le.mpr c24) h
        refine h_iconst (M := mX7_runCommand) dX7_runCommand_121 ?_
        refine g_goto (M := mX7_runCommand) (tgt := 126) dX7_runCommand_122 (by decide) ?_
        have e := (Option.some.inj h)
        subst e
        exact g_zret (M := mX7_runCommand) .boolean dX7_runCommand_126 rfl rfl (Nat.zero_le _) (Nat.zero_le _) ⟨_, (fun _ _ => rfl), rfl, rfl⟩
  have h := zfi c18 h
  by_cases c26 : (((σ 3).2 1) a1) = 5
  · have h := zti c26 h
    refine g_tableIn (M := mX7_runCommand) (off := 98) (tgt := 127) dX7_runCommand_29 (iI_tlo g2 (by omega)) (iI_thi g2 (by omega)) (iI_tat g2 c26 rfl) (by decide) ?_
    refine g_aload_n (M := mX7_runCommand) dX7_runCommand_127 0 rfl rfl ?_
    obtain ⟨t27, u28, h⟩ := zbi h
    refine g_callVA (M := mX7_runCommand) [] hX dX7_runCommand_128 vX7_forgetSearches kM_X7_365 (wX7_forgetSearches hX bn  u28) (fun _ => rfl) 0 (zWs_at (by omega) ((zSt_c 0 rfl (show σ 0 = (σ 0) from rfl))).o) rfl ⟨(Nat.le_of_ble_eq_true rfl), (Nat.le_of_ble_eq_true rfl)⟩ ⟨(show 0 + 0 ≤ 3 * zNk (σ 3) a1 (σ 7) (σ 4) by omega), (show 0 + 0 ≤ 13652 * zNk (σ 3) a1 (σ 7) (σ 4) by omega)⟩ (Nat.le_of_ble_eq_true rfl) (fun A29 hnA29 => ?_)
    have hAc30 : ∀ k, ¬ (fun k => 1 ≤ k ∧ k < 91) k → A29 k = A k := fun k hk => (hnA29 k (by omega)).trans (rfl)
    refine g_lvc (M := mX7_runCommand) (lv' := [(0, .ref (A29 0)), (1, .int (iI a1)), (2, .int (iI (((σ 3).2 2) a1))), (3, .int (iI (((σ 3).2 3) a1)))]) (by rw [hnA29 0 (by omega)]) ?_
    refine g_aload_n (M := mX7_runCommand) dX7_runCommand_131 0 rfl rfl ?_
    refine k_get (M := mX7_runCommand) (v := .ref (A29 12)) dX7_runCommand_132 kF_X7_33.r 0 (by omega) ((zSt_c 0 rfl (show t27 0 = (t27 0) from rfl))).o rfl ?_
    refine g_iload_n (M := mX7_runCommand) dX7_runCommand_135 3 rfl rfl ?_
    obtain ⟨t31, u32, h⟩ := zbi h
    refine g_callVr (M := mX7_runCommand) [.int (iI (((σ 3).2 3) a1))] hX dX7_runCommand_136 vX0_cover kM_X7_308 (wX0_cover hX (zSt_c 4 rfl (show t27 4 = (t27 4) from rfl)) (by omega)  u32) 12 (zWs_at (by omega) ((zSt_c 4 rfl (show t27 4 = (t27 4) from rfl))).o) rfl ⟨(Nat.le_of_ble_eq_true rfl), (Nat.le_of_ble_eq_true rfl)⟩ ⟨(show 0 + 0 ≤ 3 * zNk (σ 3) a1 (σ 7) (σ 4) by omega), (show 0 + 0 ≤ 13652 * zNk (σ 3) a1 (σ 7) (σ 4) by omega)⟩ (Nat.le_of_ble_eq_true rfl) ?_
    refine g_ws (M := mX7_runCommand) (congrArg (fun z => zWs A29 n (z)) (zSt_p 4 rfl)) ?_
    obtain ⟨g34, h⟩ := zgi h
    refine h_if_le (M := mX7_runCommand) (tgt := 146) dX7_runCommand_139 (by decide) g34 (fun c33 => ?_) (fun c33 => ?_)
    · have h := zti c33 h
      refine h_iconst (M := mX7_runCommand) dX7_runCommand_146 ?_
      have e := (Option.some.inj h)
      subst e
      exact g_zret (M := mX7_runCommand) .boolean dX7_runCommand_147 rfl rfl (Nat.zero_le _) (Nat.zero_le _) ⟨_, hAc30, rfl, rfl⟩
    · have h := zfi (Int.not_le.mpr c33) h
      refine h_iconst (M := mX7_runCommand) dX7_runCommand_142 ?_
      refine g_goto (M := mX7_runCommand) (tgt := 147) dX7_runCommand_143 (by decide) ?_
      have e := (Option.some.inj h)
      subst e
      exact g_zret (M := mX7_runCommand) .boolean dX7_runCommand_147 rfl rfl (Nat.zero_le _) (Nat.zero_le _) ⟨_, hAc30, rfl, rfl⟩
  have h := zfi c26 h
  by_cases c35 : (((σ 3).2 1) a1) = 6
  · have h := zti c35 h
    refine g_tableIn (M := mX7_runCommand) (off := 119) (tgt := 148) dX7_runCommand_29 (iI_tlo g2 (by omega)) (iI_thi g2 (by omega)) (iI_tat g2 c35 rfl) (by decide) ?_
    refine g_aload_n (M := mX7_runCommand) dX7_runCommand_148 0 rfl rfl ?_
    refine k_get (M := mX7_runCommand) (v := .ref (A 33)) dX7_runCommand_149 kF_X7_50.r 0 (by omega) ((zSt_c 0 rfl (show σ 0 = (σ 0) from rfl))).o rfl ?_
    refine g_aload_n (M := mX7_runCommand) dX7_runCommand_152 0 rfl rfl ?_
    refine k_get (M := mX7_runCommand) (v := .ref (A 12)) dX7_runCommand_153 kF_X7_33.r 0 (by omega) ((zSt_c 0 rfl (show σ 0 = (σ 0) from rfl))).o rfl ?_
    obtain ⟨g36, h⟩ := zgi h
    obtain ⟨t37, u38, h⟩ := zbi h
    refine g_callVA (M := mX7_runCommand) [.ref (A 12)] hX dX7_runCommand_156 vX3_go kM_X7_311 (wX3_go hX (zSt_c 7 rfl (show σ 7 = (σ 7) from rfl)) (by omega) (zSt_c 4 rfl (show σ 4 = (σ 4) from rfl)) (by omega) (by omega) u38) (fun _ => rfl) 33 (zWs_at (by omega) ((zSt_c 7 rfl (show σ 7 = (σ 7) from rfl))).o) rfl ⟨(Nat.le_of_ble_eq_true rfl), (Nat.le_of_ble_eq_true rfl)⟩ ⟨g36.1, g36.2⟩ (Nat.le_of_ble_eq_true rfl) (fun A39 hnA39 => ?_)
    refine g_ws (M := mX7_runCommand) (congrArg (zWs A39 n) (zSt_pa (A := A) 7 rfl (by decide) (by decide) (fun k hk => hnA39 k hk))) ?_
    have hAc40 : ∀ k, ¬ (fun k => 1 ≤ k ∧ k < 91) k → A39 k = A k := fun k hk => (hnA39 k (by omega)).trans (rfl)
    refine g_lvc (M := mX7_runCommand) (lv' := [(0, .ref (A39 0)), (1, .int (iI a1)), (2, .int (iI (((σ 3).2 2) a1))), (3, .int (iI (((σ 3).2 3) a1)))]) (by rw [hnA39 0 (by omega)]) ?_
    refine g_aload_n (M := mX7_runCommand) dX7_runCommand_159 0 rfl rfl ?_
    obtain ⟨t41, u42, h⟩ := zbi h
    refine g_callVA (M := mX7_runCommand) [] hX dX7_runCommand_160 vX7_forgetSearches kM_X7_365 (wX7_forgetSearches hX bn  u42) (fun _ => rfl) 0 (zWs_at (by omega) ((zSt_c 0 rfl (show (zSu σ 7 t37) 0 = (σ 0) from rfl))).o) rfl ⟨(Nat.le_of_ble_eq_true rfl), (Nat.le_of_ble_eq_true rfl)⟩ ⟨(show 0 + (3 * zNd (σ 7) (σ 4)) + 0 ≤ 3 * zNk (σ 3) a1 (σ 7) (σ 4) by omega), (show 0 + (13652 * zNd (σ 7) (σ 4)) + 0 ≤ 13652 * zNk (σ 3) a1 (σ 7) (σ 4) by omega)⟩ (Nat.le_of_ble_eq_true rfl) (fun A43 hnA43 => ?_)
    have hAc44 : ∀ k, ¬ (fun k => 1 ≤ k ∧ k < 91) k → A43 k = A k := fun k hk => (hnA43 k (by omega)).trans (hAc40 k hk)
    refine g_lvc (M := mX7_runCommand) (lv' := [(0, .ref (A43 0)), (1, .int (iI a1)), (2, .int (iI (((σ 3).2 2) a1))), (3, .int (iI (((σ 3).2 3) a1)))]) (by rw [hnA43 0 (by omega)]) ?_
    refine g_aload_n (M := mX7_runCommand) dX7_runCommand_163 0 rfl rfl ?_
    refine k_get (M := mX7_runCommand) (v := .ref (A43 12)) dX7_runCommand_164 kF_X7_33.r 0 (by omega) ((zSt_c 0 rfl (show t41 0 = (t41 0) from rfl))).o rfl ?_
    refine g_aload_n (M := mX7_runCommand) dX7_runCommand_167 0 rfl rfl ?_
    refine k_get (M := mX7_runCommand) (v := .ref (A43 33)) dX7_runCommand_168 kF_X7_50.r 0 (by omega) ((zSt_c 0 rfl (show t41 0 = (t41 0) from rfl))).o rfl ?_
    refine k_get (M := mX7_runCommand) (v := .int (iI ((t41 7).1 9))) dX7_runCommand_171 kF_X7_271.r 33 (by omega) ((zSt_c 7 rfl (show t41 7 = (t41 7) from rfl))).o rfl ?_
    obtain ⟨t45, u46, h⟩ := zbi h
    refine g_callVr (M := mX7_runCommand) [.int (iI ((t41 7).1 9))] hX dX7_runCommand_174 vX0_cover kM_X7_308 (wX0_cover hX (zSt_c 4 rfl (show t41 4 = (t41 4) from rfl)) (by omega)  u46) 12 (zWs_at (by omega) ((zSt_c 4 rfl (show t41 4 = (t41 4) from rfl))).o) rfl ⟨(Nat.le_of_ble_eq_true rfl), (Nat.le_of_ble_eq_true rfl)⟩ ⟨(show 0 + (3 * zNd (σ 7) (σ 4)) + 0 ≤ 3 * zNk (σ 3) a1 (σ 7) (σ 4) by omega), (show 0 + (13652 * zNd (σ 7) (σ 4)) + 0 ≤ 13652 * zNk (σ 3) a1 (σ 7) (σ 4) by omega)⟩ (Nat.le_of_ble_eq_true rfl) ?_
    refine g_ws (M := mX7_runCommand) (congrArg (fun z => zWs A43 n (z)) (zSt_p 4 rfl)) ?_
    obtain ⟨g48, h⟩ := zgi h
    refine h_if_le (M := mX7_runCommand) (tgt := 184) dX7_runCommand_177 (by decide) g48 (fun c47 => ?_) (fun c47 => ?_)
    · have h := zti c47 h
      refine h_iconst (M := mX7_runCommand) dX7_runCommand_184 ?_
      have e := (Option.some.inj h)
      subst e
      exact g_zret (M := mX7_runCommand) .boolean dX7_runCommand_185 rfl rfl (by simpa [zSu] using g36.1) (by simpa [zSu] using g36.2) ⟨_, hAc44, rfl, rfl⟩
    · have h := zfi (Int.not_le.mpr c47) h
      refine h_iconst (M := mX7_runCommand) dX7_runCommand_180 ?_
      refine g_goto (M := mX7_runCommand) (tgt := 185) dX7_runCommand_181 (by decide) ?_
      have e := (Option.some.inj h)
      subst e
      exact g_zret (M := mX7_runCommand) .boolean dX7_runCommand_185 rfl rfl (by simpa [zSu] using g36.1) (by simpa [zSu] using g36.2) ⟨_, hAc44, rfl, rfl⟩
  have h := zfi c35 h
  by_cases c49 : (((σ 3).2 1) a1) = 7
  · have h := zti c49 h
    refine g_tableIn (M := mX7_runCommand) (off := 157) (tgt := 186) dX7_runCommand_29 (iI_tlo g2 (by omega)) (iI_thi g2 (by omega)) (iI_tat g2 c49 rfl) (by decide) ?_
    refine g_aload_n (M := mX7_runCommand) dX7_runCommand_186 0 rfl rfl ?_
    refine g_iload_n (M := mX7_runCommand) dX7_runCommand_187 2 rfl rfl ?_
    refine h_iconst (M := mX7_runCommand) dX7_runCommand_188 ?_
    obtain ⟨t50, u51, h⟩ := zbi h
    refine g_callVA (M := mX7_runCommand) [.int (iI (((σ 3).2 2) a1)), .int (iI 1)] hX dX7_runCommand_189 vX7_runOut kM_X7_442 (wX7_runOut hX bn  u51) (fun _ => rfl) 0 (zWs_at (by omega) ((zSt_c 0 rfl (show σ 0 = (σ 0) from rfl))).o) rfl ⟨(Nat.le_of_ble_eq_true rfl), (Nat.le_of_ble_eq_true rfl)⟩ ⟨(show 0 + 0 ≤ 3 * zNk (σ 3) a1 (σ 7) (σ 4) by omega), (show 0 + 0 ≤ 13652 * zNk (σ 3) a1 (σ 7) (σ 4) by omega)⟩ (Nat.le_of_ble_eq_true rfl) (fun A52 hnA52 => ?_)
    have hAc53 : ∀ k, ¬ (fun k => 1 ≤ k ∧ k < 91) k → A52 k = A k := fun k hk => (hnA52 k (by omega)).trans (rfl)
    refine g_lvc (M := mX7_runCommand) (lv' := [(0, .ref (A52 0)), (1, .int (iI a1)), (2, .int (iI (((σ 3).2 2) a1))), (3, .int (iI (((σ 3).2 3) a1)))]) (by rw [hnA52 0 (by omega)]) ?_
    have e := (Option.some.inj h)
    subst e
    exact g_zret (M := mX7_runCommand) .boolean dX7_runCommand_192 rfl (b2_nar _) (Nat.zero_le _) (Nat.zero_le _) ⟨_, hAc53, rfl, rfl⟩
  have h := zfi c49 h
  by_cases c54 : (((σ 3).2 1) a1) = 8
  · have h := zti c54 h
    refine g_tableIn (M := mX7_runCommand) (off := 164) (tgt := 193) dX7_runCommand_29 (iI_tlo g2 (by omega)) (iI_thi g2 (by omega)) (iI_tat g2 c54 rfl) (by decide) ?_
    refine g_aload_n (M := mX7_runCommand) dX7_runCommand_193 0 rfl rfl ?_
    refine g_iload_n (M := mX7_runCommand) dX7_runCommand_194 2 rfl rfl ?_
    refine h_iconst (M := mX7_runCommand) dX7_runCommand_195 ?_
    obtain ⟨t55, u56, h⟩ := zbi h
    refine g_callVA (M := mX7_runCommand) [.int (iI (((σ 3).2 2) a1)), .int (iI 0)] hX dX7_runCommand_196 vX7_runOut kM_X7_442 (wX7_runOut hX bn  u56) (fun _ => rfl) 0 (zWs_at (by omega) ((zSt_c 0 rfl (show σ 0 = (σ 0) from rfl))).o) rfl ⟨(Nat.le_of_ble_eq_true rfl), (Nat.le_of_ble_eq_true rfl)⟩ ⟨(show 0 + 0 ≤ 3 * zNk (σ 3) a1 (σ 7) (σ 4) by omega), (show 0 + 0 ≤ 13652 * zNk (σ 3) a1 (σ 7) (σ 4) by omega)⟩ (Nat.le_of_ble_eq_true rfl) (fun A57 hnA57 => ?_)
    have hAc58 : ∀ k, ¬ (fun k => 1 ≤ k ∧ k < 91) k → A57 k = A k := fun k hk => (hnA57 k (by omega)).trans (rfl)
    refine g_lvc (M := mX7_runCommand) (lv' := [(0, .ref (A57 0)), (1, .int (iI a1)), (2, .int (iI (((σ 3).2 2) a1))), (3, .int (iI (((σ 3).2 3) a1)))]) (by rw [hnA57 0 (by omega)]) ?_
    have e := (Option.some.inj h)
    subst e
    exact g_zret (M := mX7_runCommand) .boolean dX7_runCommand_199 rfl (b2_nar _) (Nat.zero_le _) (Nat.zero_le _) ⟨_, hAc58, rfl, rfl⟩
  have h := zfi c54 h
  by_cases c59 : (((σ 3).2 1) a1) = 9
  · have h := zti c59 h
    refine g_tableIn (M := mX7_runCommand) (off := 171) (tgt := 200) dX7_runCommand_29 (iI_tlo g2 (by omega)) (iI_thi g2 (by omega)) (iI_tat g2 c59 rfl) (by decide) ?_
    refine g_aload_n (M := mX7_runCommand) dX7_runCommand_200 0 rfl rfl ?_
    refine g_iload_n (M := mX7_runCommand) dX7_runCommand_201 3 rfl rfl ?_
    obtain ⟨t60, u61, h⟩ := zbi h
    refine g_callVA (M := mX7_runCommand) [.int (iI (((σ 3).2 3) a1))] hX dX7_runCommand_202 vX7_runChanges kM_X7_446 (wX7_runChanges hX bn  u61) (fun _ => rfl) 0 (zWs_at (by omega) ((zSt_c 0 rfl (show σ 0 = (σ 0) from rfl))).o) rfl ⟨(Nat.le_of_ble_eq_true rfl), (Nat.le_of_ble_eq_true rfl)⟩ ⟨(show 0 + 0 ≤ 3 * zNk (σ 3) a1 (σ 7) (σ 4) by omega), (show 0 + 0 ≤ 13652 * zNk (σ 3) a1 (σ 7) (σ 4) by omega)⟩ (Nat.le_of_ble_eq_true rfl) (fun A62 hnA62 => ?_)
    have hAc63 : ∀ k, ¬ (fun k => 1 ≤ k ∧ k < 91) k → A62 k = A k := fun k hk => (hnA62 k (by omega)).trans (rfl)
    refine g_lvc (M := mX7_runCommand) (lv' := [(0, .ref (A62 0)), (1, .int (iI a1)), (2, .int (iI (((σ 3).2 2) a1))), (3, .int (iI (((σ 3).2 3) a1)))]) (by rw [hnA62 0 (by omega)]) ?_
    have e := (Option.some.inj h)
    subst e
    exact g_zret (M := mX7_runCommand) .boolean dX7_runCommand_205 rfl (b2_nar _) (Nat.zero_le _) (Nat.zero_le _) ⟨_, hAc63, rfl, rfl⟩
  have h := zfi c59 h
  refine g_tableOut (M := mX7_runCommand) (tgt := 206) dX7_runCommand_29 (iI_tout g2 (by omega)) (by decide) ?_
  refine h_iconst (M := mX7_runCommand) dX7_runCommand_206 ?_
  have e := (Option.some.inj h)
  subst e
  exact g_zret (M := mX7_runCommand) .boolean dX7_runCommand_207 rfl rfl (Nat.zero_le _) (Nat.zero_le _) ⟨_, (fun _ _ => rfl), rfl, rfl⟩
set_option maxHeartbeats 4000000 in
set_option maxRecDepth 100000 in
theorem wX7_runCommands {X : zX} (hX : zOK X) : ∀ (d : Nat) {A : Nat → Nat} {n : Nat} {S : Nat → va_E} {σ : CS} (bn : 91 ≤ n) {a1 : Int} {a2 : Int} {a3 : Int} {res : CS × Bool} (h : fX7_runCommands d σ a1 a2 a3 = some res), Con X yX7_runCommands mX7_runCommands (d + 20) (3 * (zNd (σ 7) (σ 4) - zNd (res.1 7) (res.1 4))) (13652 * (zNd (σ 7) (σ 4) - zNd (res.1 7) (res.1 4))) [.ref (A 0), .int (iI a1), .int (iI a2), .int (iI a3)] (zWs A n (zSt X A σ S)) (zRA A (fun k => 1 ≤ k ∧ k < 91) (fun A' => (zWs A' n (zSt X A' res.1 S))) (fun A' => .inl (some (.int (iI (b2 res.2)))))) := by
  intro d
  induction d with
  | zero => intro A n S σ bn a1 a2 a3 res h; cases h
  | succ d ih =>
    intro A n S σ bn a1 a2 a3 res h
    refine con_of (lv := [(0, .ref (A 0)), (1, .int (iI a1)), (2, .int (iI a2)), (3, .int (iI a3))]) (by decide) rfl (fun h => by cases h) rfl (Nat.le_of_ble_eq_true rfl) rfl ?_
    unfold fX7_runCommands at h
    refine g_iload_n (M := mX7_runCommands) dX7_runCommands_0 3 rfl rfl ?_
    refine h_iconst (M := mX7_runCommands) dX7_runCommands_1 ?_
    obtain ⟨g2, h⟩ := zgi h
    refine h_icmp_le (M := mX7_runCommands) (tgt := 7) dX7_runCommands_2 (by decide) g2 (by decide) (fun c1 => ?_) (fun c1 => ?_)
    · have h := zti c1 h
      refine g_iload_n (M := mX7_runCommands) dX7_runCommands_7 1 rfl rfl ?_
      refine g_istore (M := mX7_runCommands) (lv' := [(0, .ref (A 0)), (1, .int (iI a1)), (2, .int (iI a2)), (3, .int (iI a3)), (4, .int (iI a1))]) dX7_runCommands_8 (by decide) rfl ?_
      refine h_iconst (M := mX7_runCommands) dX7_runCommands_10 ?_
      refine g_istore (M := mX7_runCommands) (lv' := [(0, .ref (A 0)), (1, .int (iI a1)), (2, .int (iI a2)), (3, .int (iI a3)), (4, .int (iI a1)), (5, .int (iI 0))]) dX7_runCommands_11 (by decide) rfl ?_
      refine g_wide (M := mX7_runCommands) (k2 := 3 * (zNd (σ 7) (σ 4) - zNd (σ 7) (σ 4))) (n2 := 13652 * (zNd (σ 7) (σ 4) - zNd (σ 7) (σ 4))) (Nat.zero_le _) (Nat.zero_le _) ?_
      obtain ⟨x3, l3, h⟩ := zbi h
      have mx3 : zNd (res.1 7) (res.1 4) ≤ (Sum.elim (fun (s : Int × Int × CS) => zNd (s.2.2 7) (s.2.2 4)) (fun (r : CS × Bool) => zNd (r.1 7) (r.1 4))) x3 := by
        cases x3 with
        | inl y =>
          have hz := zsl h
          exact Nat.le_trans (Nat.le_refl _) (zFi hz).1
        | inr r => exact Nat.le_trans (Nat.le_refl _) (Nat.le_of_eq (congrArg (fun (r : CS × Bool) => zNd (r.1 7) (r.1 4)) (Option.some.inj h).symm))
      have r3 : ∀ y3, .inl y3 = x3 → ∀ (Ar3 : Nat → Nat), (∀ k, ¬ (fun k => 1 ≤ k ∧ k < 91) k → Ar3 k = A k) → G X mX7_runCommands (zPm X (d + 1 + 20) (3 * (zNd (σ 7) (σ 4) - zNd (res.1 7) (res.1 4))) (13652 * (zNd (σ 7) (σ 4) - zNd (res.1 7) (res.1 4))) (zRA A (fun k => 1 ≤ k ∧ k < 91) (fun A' => (zWs A' n (zSt X A' res.1 S))) (fun A' => .inl (some (.int (iI (b2 res.2))))))) (3 * (zNd (σ 7) (σ 4) - zNd (y3.2.2 7) (y3.2.2 4))) (13652 * (zNd (σ 7) (σ 4) - zNd (y3.2.2 7) (y3.2.2 4))) 140 [] [] (zWs Ar3 n (zSt X Ar3 y3.2.2 S)) := by
        intro y3 ey
        intro Ar3 hAr3
        rw [← ey] at h
        have h := zsl h
        obtain ⟨m84, h⟩ := zFi h
        have fm84 : zNd (res.1 7) (res.1 4) ≤ zNd (y3.2.2 7) (y3.2.2 4) := Nat.le_trans (Nat.le_refl _) m84
        refine h_iconst (M := mX7_runCommands) dX7_runCommands_140 ?_
        have e := (Option.some.inj h)
        subst e
        exact g_zret (M := mX7_runCommands) .boolean dX7_runCommands_141 rfl rfl (Nat.le_refl _) (Nat.le_refl _) ⟨_, hAr3, rfl, rfl⟩
      have q3 : ∀ r, .inr r = x3 → r = res := by
        intro r er
        rw [← er] at h
        exact Option.some.inj h
      refine g_lv (M := mX7_runCommands) [0, 2, 3, 4, 5] rfl ?_
      refine zLp_Jf (fun (s : Int × Int × CS) => zNd (s.2.2 7) (s.2.2 4)) (Sum.elim (fun (s : Int × Int × CS) => zNd (s.2.2 7) (s.2.2 4)) (fun (r : CS × Bool) => zNd (r.1 7) (r.1 4))) (J := fun s3 => ∀ (Al3 : Nat → Nat), (∀ k, ¬ (fun k => 1 ≤ k ∧ k < 91) k → Al3 k = A k) → G X mX7_runCommands (zPm X (d + 1 + 20) (3 * (zNd (σ 7) (σ 4) - zNd (res.1 7) (res.1 4))) (13652 * (zNd (σ 7) (σ 4) - zNd (res.1 7) (res.1 4))) (zRA A (fun k => 1 ≤ k ∧ k < 91) (fun A' => (zWs A' n (zSt X A' res.1 S))) (fun A' => .inl (some (.int (iI (b2 res.2))))))) (3 * (zNd (σ 7) (σ 4) - zNd (s3.2.2 7) (s3.2.2 4))) (13652 * (zNd (σ 7) (σ 4) - zNd (s3.2.2 7) (s3.2.2 4))) 13 [(0, .ref (Al3 0)), (2, .int (iI a2)), (3, .int (iI a3)), (4, .int (iI s3.1)), (5, .int (iI s3.2.1))] [] (zWs Al3 n (zSt X Al3 s3.2.2 S))) (fun _ _ h => (zFi h).1) (fun s3 w3 h3 mv3 b3 e3 => ?_) _ _ l3 A (fun _ _ => rfl)
      intro Al3 hAl3
      obtain ⟨m85, h3⟩ := zFi h3
      have fm85 : zNd (res.1 7) (res.1 4) ≤ zNd (s3.2.2 7) (s3.2.2 4) := Nat.le_trans (Nat.le_trans mx3 mv3) m85
      refine g_iload (M := mX7_runCommands) dX7_runCommands_13 4 rfl ?_
      refine h_bipush (M := mX7_runCommands) dX7_runCommands_15 rfl ?_
      obtain ⟨g87, h3⟩ := zgi h3
      refine h_icmp_ge (M := mX7_runCommands) (tgt := 140) dX7_runCommands_17 (by decide) g87 (by decide) (fun c86 => ?_) (fun c86 => ?_)
      · have h3 := zti c86 h3
        refine g_lv (M := mX7_runCommands) [] rfl ?_
        exact r3 _ (e3 _ (Option.some.inj h3).symm) Al3 hAl3
      · have h3 := zfi (Int.not_le.mpr c86) h3
        refine g_iload (M := mX7_runCommands) dX7_runCommands_20 3 rfl ?_
        refine g_iload_n (M := mX7_runCommands) dX7_runCommands_22 1 rfl rfl ?_
        obtain ⟨g89, h3⟩ := zgi h3
        refine h_icmp_ge (M := mX7_runCommands) (tgt := 140) dX7_runCommands_23 (by decide) g89.1 g89.2 (fun c88 => ?_) (fun c88 => ?_)
        · have h3 := zti c88 h3
          refine g_lv (M := mX7_runCommands) [] rfl ?_
          exact r3 _ (e3 _ (Option.some.inj h3).symm) Al3 hAl3
        · have h3 := zfi (Int.not_le.mpr c88) h3
          refine g_aload_n (M := mX7_runCommands) dX7_runCommands_26 0 rfl rfl ?_
          refine k_get (M := mX7_runCommands) (v := .ref (Al3 6)) dX7_runCommands_27 kF_X7_26.r 0 (by omega) ((zSt_c 0 rfl (show s3.2.2 0 = (s3.2.2 0) from rfl))).o rfl ?_
          refine k_get (M := mX7_runCommands) (v := .ref (Al3 (6 + 1))) dX7_runCommands_30 kF_X7_419 6 (by omega) ((zSt_c 3 rfl (show s3.2.2 3 = (s3.2.2 3) from rfl))).o rfl ?_
          refine g_iload (M := mX7_runCommands) dX7_runCommands_33 3 rfl ?_
          obtain ⟨g90, h3⟩ := zgi h3
          refine k_iald (M := mX7_runCommands) (len := 30) (f := (s3.2.2 3).2 1) dX7_runCommands_35 (6 + 1) (by omega) (((zSt_c 3 rfl (show s3.2.2 3 = (s3.2.2 3) from rfl))).a (d := (0, 30)) 0 rfl) (Nat.le_of_ble_eq_true rfl) g90.1 g90.2 ?_
          refine h_bipush (M := mX7_runCommands) dX7_runCommands_36 rfl ?_
          refine zJn_J (J := fun x127 => ∀ (Aj127 : Nat → Nat), (∀ k, ¬ (fun k => 1 ≤ k ∧ k < 91) k → Aj127 k = A k) → G X mX7_runCommands (zPm X (d + 1 + 20) (3 * (zNd (σ 7) (σ 4) - zNd (res.1 7) (res.1 4))) (13652 * (zNd (σ 7) (σ 4) - zNd (res.1 7) (res.1 4))) (zRA A (fun k => 1 ≤ k ∧ k < 91) (fun A' => (zWs A' n (zSt X A' res.1 S))) (fun A' => .inl (some (.int (iI (b2 res.2))))))) (3 * (zNd (σ 7) (σ 4) - zNd (x127 7) (x127 4))) (13652 * (zNd (σ 7) (σ 4) - zNd (x127 7) (x127 4))) 123 [(0, .ref (Aj127 0)), (2, .int (iI a2)), (3, .int (iI a3)), (4, .int (iI s3.1)), (5, .int (iI s3.2.1))] [] (zWs Aj127 n (zSt X Aj127 x127 S))) h3 (fun x127 h3 => ?_) (fun j127 h3 => ?_)
          · intro Aj127 hAj127
            obtain ⟨m128, h3⟩ := zFi h3
            have fm128 : zNd (res.1 7) (res.1 4) ≤ zNd (x127 7) (x127 4) := Nat.le_trans (Nat.le_trans mx3 mv3) m128
            refine g_aload_n (M := mX7_runCommands) dX7_runCommands_123 0 rfl rfl ?_
            refine k_get (M := mX7_runCommands) (v := .ref (Aj127 6)) dX7_runCommands_124 kF_X7_26.r 0 (by omega) ((zSt_c 0 rfl (show x127 0 = (x127 0) from rfl))).o rfl ?_
            refine g_iload (M := mX7_runCommands) dX7_runCommands_127 3 rfl ?_
            obtain ⟨t129, u130, h3⟩ := zbi h3
            refine g_callVr (M := mX7_runCommands) [.int (iI s3.1)] hX dX7_runCommands_129 vX2_behind kM_X7_425 (wX2_behind hX (zSt_c 3 rfl (show x127 3 = (x127 3) from rfl)) (by omega)  u130) 6 (zWs_at (by omega) ((zSt_c 3 rfl (show x127 3 = (x127 3) from rfl))).o) rfl ⟨(show 1 + 1 ≤ (d + 1 + 20) by omega), (show 8 + (2 + 11) + 64 * 1 ≤ 64 * (d + 1 + 20) by omega)⟩ ⟨(show 3 * (zNd (σ 7) (σ 4) - zNd (x127 7) (x127 4)) + 0 ≤ 3 * (zNd (σ 7) (σ 4) - zNd (res.1 7) (res.1 4)) by omega), (show 13652 * (zNd (σ 7) (σ 4) - zNd (x127 7) (x127 4)) + 0 ≤ 13652 * (zNd (σ 7) (σ 4) - zNd (res.1 7) (res.1 4)) by omega)⟩ (Nat.le_of_ble_eq_true rfl) ?_
            refine g_istore (M := mX7_runCommands) (lv' := [(0, .ref (Aj127 0)), (2, .int (iI a2)), (3, .int (iI a3)), (4, .int (iI t129)), (5, .int (iI s3.2.1))]) dX7_runCommands_132 (by decide) rfl ?_
            refine h_iinc (M := mX7_runCommands) (j := 4) (lv' := [(0, .ref (Aj127 0)), (2, .int (iI a2)), (3, .int (iI a3)), (4, .int (iI t129)), (5, .int (iI (s3.2.1 + 1)))]) dX7_runCommands_134 rfl (Nat.le_of_ble_eq_true rfl) rfl ?_
            refine g_goto (M := mX7_runCommands) (tgt := 13) dX7_runCommands_137 (by decide) ?_
            exact b3 _ (Option.some.inj h3).symm Aj127 hAj127
          · obtain ⟨g132, h3⟩ := zgi h3
            refine h_icmp_ne (M := mX7_runCommands) (tgt := 93) dX7_runCommands_38 (by decide) g132 (by decide) (fun c131 => ?_) (fun c131 => ?_)
            · have h3 := zfi c131 h3
              refine g_aload_n (M := mX7_runCommands) dX7_runCommands_93 0 rfl rfl ?_
              refine k_get (M := mX7_runCommands) (v := .int (iI ((s3.2.2 0).1 15))) dX7_runCommands_94 kF_X7_117.r 0 (by omega) ((zSt_c 0 rfl (show s3.2.2 0 = (s3.2.2 0) from rfl))).o rfl ?_
              refine h_bipush (M := mX7_runCommands) dX7_runCommands_97 rfl ?_
              obtain ⟨g134, h3⟩ := zgi h3
              refine h_icmp_eq (M := mX7_runCommands) (tgt := 111) dX7_runCommands_99 (by decide) g134 (by decide) (fun c133 => ?_) (fun c133 => ?_)
              · have h3 := zti c133 h3
                refine h_iconst (M := mX7_runCommands) dX7_runCommands_111 ?_
                have e := (q3 _ (e3 _ (Option.some.inj h3).symm))
                subst e
                exact g_zret (M := mX7_runCommands) .boolean dX7_runCommands_112 rfl rfl (Nat.le_refl _) (Nat.le_refl _) ⟨_, hAl3, rfl, rfl⟩
              · have h3 := zfi c133 h3
                refine g_aload_n (M := mX7_runCommands) dX7_runCommands_102 0 rfl rfl ?_
                refine g_iload (M := mX7_runCommands) dX7_runCommands_103 3 rfl ?_
                obtain ⟨t135, u136, h3⟩ := zbi h3
                obtain ⟨m137, h3⟩ := zFi h3
                have fm137 : zNd (res.1 7) (res.1 4) ≤ zNd (t135.1 7) (t135.1 4) := Nat.le_trans (Nat.le_trans mx3 mv3) m137
                obtain ⟨g138, h3⟩ := zgi h3
                refine g_callVA (M := mX7_runCommands) [.int (iI s3.1)] hX dX7_runCommands_105 vX7_runCommand kM_X7_428 (wX7_runCommand hX bn  u136) (fun _ => rfl) 0 (zWs_at (by omega) ((zSt_c 0 rfl (show s3.2.2 0 = (s3.2.2 0) from rfl))).o) rfl ⟨(show 8 + 1 ≤ (d + 1 + 20) by omega), (show 8 + (4 + 11) + 64 * 8 ≤ 64 * (d + 1 + 20) by omega)⟩ ⟨(show 3 * (zNd (σ 7) (σ 4) - zNd (s3.2.2 7) (s3.2.2 4)) + (3 * (zNk (s3.2.2 3) s3.1 (s3.2.2 7) (s3.2.2 4))) ≤ 3 * (zNd (σ 7) (σ 4) - zNd (res.1 7) (res.1 4)) by omega), (show 13652 * (zNd (σ 7) (σ 4) - zNd (s3.2.2 7) (s3.2.2 4)) + (13652 * (zNk (s3.2.2 3) s3.1 (s3.2.2 7) (s3.2.2 4))) ≤ 13652 * (zNd (σ 7) (σ 4) - zNd (res.1 7) (res.1 4)) by omega)⟩ (Nat.le_of_ble_eq_true rfl) (fun A139 hnA139 => ?_)
                have hAc140 : ∀ k, ¬ (fun k => 1 ≤ k ∧ k < 91) k → A139 k = A k := fun k hk => (hnA139 k (by omega)).trans (hAl3 k hk)
                refine g_lvc (M := mX7_runCommands) (lv' := [(0, .ref (A139 0)), (2, .int (iI a2)), (3, .int (iI a3)), (4, .int (iI s3.1)), (5, .int (iI s3.2.1))]) (by rw [hnA139 0 (by omega)]) ?_
                refine g_wide (M := mX7_runCommands) (k2 := 3 * (zNd (σ 7) (σ 4) - zNd (t135.1 7) (t135.1 4))) (n2 := 13652 * (zNd (σ 7) (σ 4) - zNd (t135.1 7) (t135.1 4))) (by omega) (by omega) ?_
                refine h_bne (M := mX7_runCommands) (tgt := 113) dX7_runCommands_108 (by decide) (fun c141 => ?_) (fun c141 => ?_)
                · have h3 := zti c141 h3
                  refine g_aload_n (M := mX7_runCommands) dX7_runCommands_113 0 rfl rfl ?_
                  refine g_dup (M := mX7_runCommands) dX7_runCommands_114 rfl ?_
                  refine k_get (M := mX7_runCommands) (v := .int (iI ((t135.1 0).1 15))) dX7_runCommands_115 kF_X7_117.r 0 (by omega) ((zSt_c 0 rfl (show t135.1 0 = (t135.1 0) from rfl))).o rfl ?_
                  refine h_iconst (M := mX7_runCommands) dX7_runCommands_118 ?_
                  refine h_iadd (M := mX7_runCommands) dX7_runCommands_119 ?_
                  refine g_ws (M := mX7_runCommands) (congrArg (zWs A139 n) (zSt_c 0 rfl (show t135.1 0 = (t135.1 0) from rfl)).symm) ?_
                  refine c_put (M := mX7_runCommands) (k := 15) dX7_runCommands_120 kF_X7_117 (by omega) rfl rfl (by decide) rfl rfl ?_
                  refine g_ws (M := mX7_runCommands) (congrArg (zWs A139 n) (zSt_p 0 rfl)) ?_
                  exact j127 (zSu t135.1 0 (zPu (t135.1 0) 15 (((t135.1 0).1 15) + 1))) h3 A139 hAc140
                · have h3 := zfi (zbf c141) h3
                  refine h_iconst (M := mX7_runCommands) dX7_runCommands_111 ?_
                  have e := (q3 _ (e3 _ (Option.some.inj h3).symm))
                  subst e
                  exact g_zret (M := mX7_runCommands) .boolean dX7_runCommands_112 rfl rfl (Nat.le_refl _) (Nat.le_refl _) ⟨_, hAc140, rfl, rfl⟩
            · have h3 := zti c131 h3
              refine h_iconst (M := mX7_runCommands) dX7_runCommands_41 ?_
              refine g_istore (M := mX7_runCommands) (lv' := [(0, .ref (Al3 0)), (2, .int (iI a2)), (3, .int (iI a3)), (4, .int (iI s3.1)), (5, .int (iI s3.2.1)), (6, .int (iI 0))]) dX7_runCommands_42 (by decide) rfl ?_
              obtain ⟨x142, l142, h3⟩ := zbi h3
              have mx142 : zNd (res.1 7) (res.1 4) ≤ (Sum.elim (fun (s : Int × CS) => zNd (s.2 7) (s.2 4)) (Sum.elim (fun (s : Int × Int × CS) => zNd (s.2.2 7) (s.2.2 4)) (Sum.elim (fun (s : Int × Int × CS) => zNd (s.2.2 7) (s.2.2 4)) (fun (r : CS × Bool) => zNd (r.1 7) (r.1 4))))) x142 := by
                cases x142 with
                | inl y =>
                  have hz := zsl h3
                  exact Nat.le_trans (Nat.le_trans mx3 mv3) (zFi hz).1
                | inr r => exact Nat.le_trans (Nat.le_trans mx3 mv3) (Nat.le_of_eq (congrArg (Sum.elim (fun (s : Int × Int × CS) => zNd (s.2.2 7) (s.2.2 4)) (Sum.elim (fun (s : Int × Int × CS) => zNd (s.2.2 7) (s.2.2 4)) (fun (r : CS × Bool) => zNd (r.1 7) (r.1 4)))) (Option.some.inj h3).symm))
              have r142 : ∀ y142, .inl y142 = x142 → ∀ (Ar142 : Nat → Nat), (∀ k, ¬ (fun k => 1 ≤ k ∧ k < 91) k → Ar142 k = A k) → G X mX7_runCommands (zPm X (d + 1 + 20) (3 * (zNd (σ 7) (σ 4) - zNd (res.1 7) (res.1 4))) (13652 * (zNd (σ 7) (σ 4) - zNd (res.1 7) (res.1 4))) (zRA A (fun k => 1 ≤ k ∧ k < 91) (fun A' => (zWs A' n (zSt X A' res.1 S))) (fun A' => .inl (some (.int (iI (b2 res.2))))))) (3 * (zNd (σ 7) (σ 4) - zNd (y142.2 7) (y142.2 4))) (13652 * (zNd (σ 7) (σ 4) - zNd (y142.2 7) (y142.2 4))) 90 [(0, .ref (Ar142 0)), (2, .int (iI a2)), (3, .int (iI a3)), (4, .int (iI s3.1)), (5, .int (iI s3.2.1))] [] (zWs Ar142 n (zSt X Ar142 y142.2 S)) := by
                intro y142 ey
                intro Ar142 hAr142
                rw [← ey] at h3
                have h3 := zsl h3
                obtain ⟨m154, h3⟩ := zFi h3
                have fm154 : zNd (res.1 7) (res.1 4) ≤ zNd (y142.2 7) (y142.2 4) := Nat.le_trans (Nat.le_trans mx3 mv3) m154
                refine g_goto (M := mX7_runCommands) (tgt := 123) dX7_runCommands_90 (by decide) ?_
                exact j127 y142.2 h3 Ar142 hAr142
              have q142 : ∀ r, .inr r = x142 → r = w3 := by
                intro r er
                rw [← er] at h3
                exact Option.some.inj h3
              refine zLp_Jf (fun (s : Int × CS) => zNd (s.2 7) (s.2 4)) (Sum.elim (fun (s : Int × CS) => zNd (s.2 7) (s.2 4)) (Sum.elim (fun (s : Int × Int × CS) => zNd (s.2.2 7) (s.2.2 4)) (Sum.elim (fun (s : Int × Int × CS) => zNd (s.2.2 7) (s.2.2 4)) (fun (r : CS × Bool) => zNd (r.1 7) (r.1 4))))) (J := fun s142 => ∀ (Al142 : Nat → Nat), (∀ k, ¬ (fun k => 1 ≤ k ∧ k < 91) k → Al142 k = A k) → G X mX7_runCommands (zPm X (d + 1 + 20) (3 * (zNd (σ 7) (σ 4) - zNd (res.1 7) (res.1 4))) (13652 * (zNd (σ 7) (σ 4) - zNd (res.1 7) (res.1 4))) (zRA A (fun k => 1 ≤ k ∧ k < 91) (fun A' => (zWs A' n (zSt X A' res.1 S))) (fun A' => .inl (some (.int (iI (b2 res.2))))))) (3 * (zNd (σ 7) (σ 4) - zNd (s142.2 7) (s142.2 4))) (13652 * (zNd (σ 7) (σ 4) - zNd (s142.2 7) (s142.2 4))) 44 [(0, .ref (Al142 0)), (2, .int (iI a2)), (3, .int (iI a3)), (4, .int (iI s3.1)), (5, .int (iI s3.2.1)), (6, .int (iI s142.1))] [] (zWs Al142 n (zSt X Al142 s142.2 S))) (fun _ _ h => (zFi h).1) (fun s142 w142 h142 mv142 b142 e142 => ?_) _ _ l142 Al3 hAl3
              intro Al142 hAl142
              obtain ⟨m155, h142⟩ := zFi h142
              have fm155 : zNd (res.1 7) (res.1 4) ≤ zNd (s142.2 7) (s142.2 4) := Nat.le_trans (Nat.le_trans mx142 mv142) m155
              refine g_iload (M := mX7_runCommands) dX7_runCommands_44 5 rfl ?_
              refine g_aload_n (M := mX7_runCommands) dX7_runCommands_46 0 rfl rfl ?_
              refine k_get (M := mX7_runCommands) (v := .ref (Al142 6)) dX7_runCommands_47 kF_X7_26.r 0 (by omega) ((zSt_c 0 rfl (show s142.2 0 = (s142.2 0) from rfl))).o rfl ?_
              refine k_get (M := mX7_runCommands) (v := .ref (Al142 (6 + 3))) dX7_runCommands_50 kF_X7_422 6 (by omega) ((zSt_c 3 rfl (show s142.2 3 = (s142.2 3) from rfl))).o rfl ?_
              refine g_iload (M := mX7_runCommands) dX7_runCommands_53 3 rfl ?_
              refine k_iald (M := mX7_runCommands) (len := 30) (f := (s142.2 3).2 3) dX7_runCommands_55 (6 + 3) (by omega) (((zSt_c 3 rfl (show s142.2 3 = (s142.2 3) from rfl))).a (d := (0, 30)) 2 rfl) (Nat.le_of_ble_eq_true rfl) g90.1 g90.2 ?_
              obtain ⟨g157, h142⟩ := zgi h142
              refine h_icmp_ge (M := mX7_runCommands) (tgt := 90) dX7_runCommands_56 (by decide) g157.1 g157.2 (fun c156 => ?_) (fun c156 => ?_)
              · have h142 := zti c156 h142
                refine g_lv (M := mX7_runCommands) [0, 1, 2, 3, 4] rfl ?_
                exact r142 _ (e142 _ (Option.some.inj h142).symm) Al142 hAl142
              · have h142 := zfi (Int.not_le.mpr c156) h142
                refine g_aload_n (M := mX7_runCommands) dX7_runCommands_59 0 rfl rfl ?_
                refine g_iload (M := mX7_runCommands) dX7_runCommands_60 3 rfl ?_
                refine h_iconst (M := mX7_runCommands) dX7_runCommands_62 ?_
                refine h_iadd (M := mX7_runCommands) dX7_runCommands_63 ?_
                refine g_aload_n (M := mX7_runCommands) dX7_runCommands_64 0 rfl rfl ?_
                refine k_get (M := mX7_runCommands) (v := .ref (Al142 6)) dX7_runCommands_65 kF_X7_26.r 0 (by omega) ((zSt_c 0 rfl (show s142.2 0 = (s142.2 0) from rfl))).o rfl ?_
                refine g_iload (M := mX7_runCommands) dX7_runCommands_68 3 rfl ?_
                obtain ⟨t158, u159, h142⟩ := zbi h142
                refine g_callVr (M := mX7_runCommands) [.int (iI s3.1)] hX dX7_runCommands_70 vX2_behind kM_X7_425 (wX2_behind hX (zSt_c 3 rfl (show s142.2 3 = (s142.2 3) from rfl)) (by omega)  u159) 6 (zWs_at (by omega) ((zSt_c 3 rfl (show s142.2 3 = (s142.2 3) from rfl))).o) rfl ⟨(show 1 + 1 ≤ (d + 1 + 20) by omega), (show 8 + (2 + 11) + 64 * 1 ≤ 64 * (d + 1 + 20) by omega)⟩ ⟨(show 3 * (zNd (σ 7) (σ 4) - zNd (s142.2 7) (s142.2 4)) + 0 ≤ 3 * (zNd (σ 7) (σ 4) - zNd (res.1 7) (res.1 4)) by omega), (show 13652 * (zNd (σ 7) (σ 4) - zNd (s142.2 7) (s142.2 4)) + 0 ≤ 13652 * (zNd (σ 7) (σ 4) - zNd (res.1 7) (res.1 4)) by omega)⟩ (Nat.le_of_ble_eq_true rfl) ?_
                refine g_iload_n (M := mX7_runCommands) dX7_runCommands_73 2 rfl rfl ?_
                refine h_iconst (M := mX7_runCommands) dX7_runCommands_74 ?_
                refine h_iadd (M := mX7_runCommands) dX7_runCommands_75 ?_
                obtain ⟨t160, u161, h142⟩ := zbi h142
                obtain ⟨m162, h142⟩ := zFi h142
                have fm162 : zNd (res.1 7) (res.1 4) ≤ zNd (t160.1 7) (t160.1 4) := Nat.le_trans (Nat.le_trans mx142 mv142) m162
                obtain ⟨g163, h142⟩ := zgi h142
                refine g_callVA (M := mX7_runCommands) [.int (iI (s3.1 + 1)), .int (iI t158), .int (iI (a3 + 1))] hX dX7_runCommands_76 vX7_runCommands kM_X7_121 (ih bn  u161) (fun _ => rfl) 0 (zWs_at (by omega) ((zSt_c 0 rfl (show s142.2 0 = (s142.2 0) from rfl))).o) rfl ⟨(show (d + 20) + 1 ≤ (d + 1 + 20) by omega), (show 8 + (7 + 11) + 64 * (d + 20) ≤ 64 * (d + 1 + 20) by omega)⟩ ⟨(show 3 * (zNd (σ 7) (σ 4) - zNd (s142.2 7) (s142.2 4)) + (3 * (zNd (s142.2 7) (s142.2 4) - zNd (t160.1 7) (t160.1 4))) ≤ 3 * (zNd (σ 7) (σ 4) - zNd (res.1 7) (res.1 4)) by omega), (show 13652 * (zNd (σ 7) (σ 4) - zNd (s142.2 7) (s142.2 4)) + (13652 * (zNd (s142.2 7) (s142.2 4) - zNd (t160.1 7) (t160.1 4))) ≤ 13652 * (zNd (σ 7) (σ 4) - zNd (res.1 7) (res.1 4)) by omega)⟩ (Nat.le_of_ble_eq_true rfl) (fun A164 hnA164 => ?_)
                have hAc165 : ∀ k, ¬ (fun k => 1 ≤ k ∧ k < 91) k → A164 k = A k := fun k hk => (hnA164 k (by omega)).trans (hAl142 k hk)
                refine g_lvc (M := mX7_runCommands) (lv' := [(0, .ref (A164 0)), (2, .int (iI a2)), (3, .int (iI a3)), (4, .int (iI s3.1)), (5, .int (iI s3.2.1)), (6, .int (iI s142.1))]) (by rw [hnA164 0 (by omega)]) ?_
                refine g_wide (M := mX7_runCommands) (k2 := 3 * (zNd (σ 7) (σ 4) - zNd (t160.1 7) (t160.1 4))) (n2 := 13652 * (zNd (σ 7) (σ 4) - zNd (t160.1 7) (t160.1 4))) (by omega) (by omega) ?_
                refine h_bne (M := mX7_runCommands) (tgt := 84) dX7_runCommands_79 (by decide) (fun c166 => ?_) (fun c166 => ?_)
                · have h142 := zti c166 h142
                  refine h_iinc (M := mX7_runCommands) (j := 5) (lv' := [(0, .ref (A164 0)), (2, .int (iI a2)), (3, .int (iI a3)), (4, .int (iI s3.1)), (5, .int (iI s3.2.1)), (6, .int (iI (s142.1 + 1)))]) dX7_runCommands_84 rfl (Nat.le_of_ble_eq_true rfl) rfl ?_
                  refine g_goto (M := mX7_runCommands) (tgt := 44) dX7_runCommands_87 (by decide) ?_
                  exact b142 _ (Option.some.inj h142).symm A164 hAc165
                · have h142 := zfi (zbf c166) h142
                  refine h_iconst (M := mX7_runCommands) dX7_runCommands_82 ?_
                  have e := (q3 _ (e3 _ (q142 _ (e142 _ (Option.some.inj h142).symm)).symm))
                  subst e
                  exact g_zret (M := mX7_runCommands) .boolean dX7_runCommands_83 rfl rfl (Nat.le_refl _) (Nat.le_refl _) ⟨_, hAc165, rfl, rfl⟩
    · have h := zfi (Int.not_le.mpr c1) h
      refine h_iconst (M := mX7_runCommands) dX7_runCommands_5 ?_
      refine g_wide (M := mX7_runCommands) (k2 := 3 * (zNd (σ 7) (σ 4) - zNd (σ 7) (σ 4))) (n2 := 13652 * (zNd (σ 7) (σ 4) - zNd (σ 7) (σ 4))) (Nat.zero_le _) (Nat.zero_le _) ?_
      have e := (Option.some.inj h)
      subst e
      exact g_zret (M := mX7_runCommands) .boolean dX7_runCommands_6 rfl rfl (Nat.le_refl _) (Nat.le_refl _) ⟨_, (fun _ _ => rfl), rfl, rfl⟩
set_option maxHeartbeats 4000000 in
set_option maxRecDepth 100000 in
theorem wX7_runScript {X : zX} (hX2 : zOK2 X) {A : Nat → Nat} {n : Nat} {S : Nat → va_E} {σ : CS} (bn : 91 ≤ n) {res : CS × (Int ⊕ String)} (h : fX7_runScript σ = some res) : Con X yX7_runScript mX7_runScript 25 (2 + 3 * zNd (σ 7) (σ 4)) (12 + 13652 * zNd (σ 7) (σ 4)) [.ref (A 0)] (zWs A n (zSt X A σ S)) (zRA A (fun k => 1 ≤ k ∧ k < 91) (fun A' => (zWs A' n (zSt X A' res.1 S))) (fun A' => zoI res.2)) := by
  refine con_of (lv := [(0, .ref (A 0))]) (by decide) rfl (fun h => by cases h) rfl (Nat.le_of_ble_eq_true rfl) rfl ?_
  have hX := hX2.1
  unfold fX7_runScript at h
  refine g_aload_n (M := mX7_runScript) dX7_runScript_0 0 rfl rfl ?_
  refine k_get (M := mX7_runScript) (v := .ref (A 6)) dX7_runScript_1 kF_X7_26.r 0 (by omega) ((zSt_c 0 rfl (show σ 0 = (σ 0) from rfl))).o rfl ?_
  refine g_aload_n (M := mX7_runScript) dX7_runScript_4 0 rfl rfl ?_
  refine k_get (M := mX7_runScript) (v := .ref (A 3)) dX7_runScript_5 kF_X7_12.r 0 (by omega) ((zSt_c 0 rfl (show σ 0 = (σ 0) from rfl))).o rfl ?_
  refine g_aload_n (M := mX7_runScript) dX7_runScript_8 0 rfl rfl ?_
  refine k_get (M := mX7_runScript) (v := .ref (A 12)) dX7_runScript_9 kF_X7_33.r 0 (by omega) ((zSt_c 0 rfl (show σ 0 = (σ 0) from rfl))).o rfl ?_
  obtain ⟨t1, u2, h⟩ := zbi h
  refine g_callVr (M := mX7_runScript) [.ref (A 3), .ref (A 12)] hX dX7_runScript_12 vX2_read kM_X7_111 (wX2_read hX2 (zSt_c 3 rfl (show σ 3 = (σ 3) from rfl)) (by omega) (zSt_c 1 rfl (show σ 1 = (σ 1) from rfl)) (by omega) (zSt_c 4 rfl (show σ 4 = (σ 4) from rfl)) (by omega) (by omega) (by omega) (by omega) u2) 6 (zWs_at (by omega) ((zSt_c 3 rfl (show σ 3 = (σ 3) from rfl))).o) rfl ⟨(Nat.le_of_ble_eq_true rfl), (Nat.le_of_ble_eq_true rfl)⟩ ⟨(show 0 + 0 ≤ 2 + 3 * zNd (σ 7) (σ 4) by omega), (show 0 + 0 ≤ 12 + 13652 * zNd (σ 7) (σ 4) by omega)⟩ (Nat.le_of_ble_eq_true rfl) ?_
  refine g_ws (M := mX7_runScript) (congrArg (fun z => zWs A n (zC X A shTo 3 t1.2.1 (z))) (zSt_p 3 rfl)) ?_
  refine g_ws (M := mX7_runScript) (congrArg (fun z => zWs A n (z)) (zSt_p 1 rfl)) ?_
  refine g_istore_n (M := mX7_runScript) (lv' := [(0, .ref (A 0)), (1, .int (iI (b2 t1.2.2)))]) dX7_runScript_15 rfl (by decide) rfl ?_
  refine g_aload_n (M := mX7_runScript) dX7_runScript_16 0 rfl rfl ?_
  refine k_get (M := mX7_runScript) (v := .ref (A 3)) dX7_runScript_17 kF_X7_12.r 0 (by omega) ((zSt_c 0 rfl (show (zSu (zSu σ 3 t1.1) 1 t1.2.1) 0 = (σ 0) from rfl))).o rfl ?_
  refine h_iconst (M := mX7_runScript) dX7_runScript_20 ?_
  refine g_ws (M := mX7_runScript) (congrArg (zWs A n) (zSt_c 1 rfl (show (zSu (zSu σ 3 t1.1) 1 t1.2.1) 1 = t1.2.1 from rfl)).symm) ?_
  refine c_put (M := mX7_runScript) (k := 1) dX7_runScript_21 kF_X7_75 (by omega) rfl rfl (by decide) rfl rfl ?_
  refine g_ws (M := mX7_runScript) (congrArg (zWs A n) (zSt_p 1 rfl)) ?_
  refine g_iload_n (M := mX7_runScript) dX7_runScript_24 1 rfl rfl ?_
  refine h_bne (M := mX7_runScript) (tgt := 38) dX7_runScript_25 (by decide) (fun c3 => ?_) (fun c3 => ?_)
  · have h := zti c3 h
    refine g_aload_n (M := mX7_runScript) dX7_runScript_38 0 rfl rfl ?_
    obtain ⟨t4, u5, h⟩ := zbi h
    refine g_callVA (M := mX7_runScript) [] hX dX7_runScript_39 vX7_keepPast kM_X7_114 (wX7_keepPast hX bn  u5) (fun _ => rfl) 0 (zWs_at (by omega) ((zSt_c 0 rfl (show (zSu (zSu (zSu σ 3 t1.1) 1 t1.2.1) 1 (zPu t1.2.1 1 0)) 0 = (σ 0) from rfl))).o) rfl ⟨(Nat.le_of_ble_eq_true rfl), (Nat.le_of_ble_eq_true rfl)⟩ ⟨(show 0 + 0 ≤ 2 + 3 * zNd (σ 7) (σ 4) by omega), (show 0 + 0 ≤ 12 + 13652 * zNd (σ 7) (σ 4) by omega)⟩ (Nat.le_of_ble_eq_true rfl) (fun A6 hnA6 => ?_)
    have hAc7 : ∀ k, ¬ (fun k => 1 ≤ k ∧ k < 91) k → A6 k = A k := fun k hk => (hnA6 k (by omega)).trans (rfl)
    refine g_lvc (M := mX7_runScript) (lv' := [(0, .ref (A6 0)), (1, .int (iI (b2 t1.2.2)))]) (by rw [hnA6 0 (by omega)]) ?_
    refine g_aload_n (M := mX7_runScript) dX7_runScript_42 0 rfl rfl ?_
    refine h_iconst (M := mX7_runScript) dX7_runScript_43 ?_
    refine g_ws (M := mX7_runScript) (congrArg (zWs A6 n) (zSt_c 0 rfl (show t4 0 = (t4 0) from rfl)).symm) ?_
    refine c_put (M := mX7_runScript) (k := 15) dX7_runScript_44 kF_X7_117 (by omega) rfl rfl (by decide) rfl rfl ?_
    refine g_ws (M := mX7_runScript) (congrArg (zWs A6 n) (zSt_p 0 rfl)) ?_
    refine g_aload_n (M := mX7_runScript) dX7_runScript_47 0 rfl rfl ?_
    refine h_iconst (M := mX7_runScript) dX7_runScript_48 ?_
    refine g_aload_n (M := mX7_runScript) dX7_runScript_49 0 rfl rfl ?_
    refine k_get (M := mX7_runScript) (v := .ref (A6 6)) dX7_runScript_50 kF_X7_26.r 0 (by omega) ((zSt_c 0 rfl (show (zSu t4 0 (zPu (t4 0) 15 0)) 0 = (zPu (t4 0) 15 0) from rfl))).o rfl ?_
    refine k_get (M := mX7_runScript) (v := .int (iI ((t4 3).1 3))) dX7_runScript_53 kF_X7_120.r 6 (by omega) ((zSt_c 3 rfl (show (zSu t4 0 (zPu (t4 0) 15 0)) 3 = (t4 3) from rfl))).o rfl ?_
    refine h_iconst (M := mX7_runScript) dX7_runScript_56 ?_
    obtain ⟨t8, u9, h⟩ := zbi h
    obtain ⟨g10, h⟩ := zgi h
    refine g_callVA (M := mX7_runScript) [.int (iI 0), .int (iI ((t4 3).1 3)), .int (iI 0)] hX dX7_runScript_57 vX7_runCommands kM_X7_121 (wX7_runCommands hX 4 bn  u9) (fun _ => rfl) 0 (zWs_at (by omega) ((zSt_c 0 rfl (show (zSu t4 0 (zPu (t4 0) 15 0)) 0 = (zPu (t4 0) 15 0) from rfl))).o) rfl ⟨(Nat.le_of_ble_eq_true rfl), (Nat.le_of_ble_eq_true rfl)⟩ ⟨g10.1, g10.2⟩ (Nat.le_of_ble_eq_true rfl) (fun A11 hnA11 => ?_)
    have hAc12 : ∀ k, ¬ (fun k => 1 ≤ k ∧ k < 91) k → A11 k = A k := fun k hk => (hnA11 k (by omega)).trans (hAc7 k hk)
    refine g_lvc (M := mX7_runScript) (lv' := [(0, .ref (A11 0)), (1, .int (iI (b2 t1.2.2)))]) (by rw [hnA11 0 (by omega)]) ?_
    refine g_pop (M := mX7_runScript) dX7_runScript_60 rfl ?_
    refine g_aload_n (M := mX7_runScript) dX7_runScript_61 0 rfl rfl ?_
    refine k_get (M := mX7_runScript) (v := .int (iI ((t8.1 0).1 15))) dX7_runScript_62 kF_X7_117.r 0 (by omega) ((zSt_c 0 rfl (show t8.1 0 = (t8.1 0) from rfl))).o rfl ?_
    have e := (Option.some.inj h)
    subst e
    exact g_iret (M := mX7_runScript) dX7_runScript_65 rfl (by simpa [zSu] using g10.1) (by simpa [zSu] using g10.2) ⟨_, hAc12, rfl, rfl⟩
  · have h := zfi (zbf c3) h
    have e := (Option.some.inj h)
    subst e
    exact g_throw (M := mX7_runScript) hX rfl rfl tT_X7_90_112_94 dX7_runScript_28 dX7_runScript_31 dX7_runScript_32 dX7_runScript_34 dX7_runScript_37 (Nat.le_of_ble_eq_true rfl) (Nat.le_of_ble_eq_true rfl) (show 0 + 1 ≤ 2 + 3 * zNd (σ 7) (σ 4) by omega) (show 0 + 6 ≤ 12 + 13652 * zNd (σ 7) (σ 4) by omega) ⟨_, (fun _ _ => rfl), rfl, rfl⟩
