set_option maxHeartbeats 4000000 in
set_option maxRecDepth 100000 in
theorem wX4_start {X : zX} (hX : zOK X) {A : Nat → Nat} {n : Nat} {S : Nat → va_E} {qTa : Nat} {VTa : CV} (hTa : isC X A shTa qTa VTa S) (bTa : qTa + 1 < n) {qB : Nat} {VB : CV} (hB : isC X A shB qB VB S) (bB : qB + 6 < n) (dTaB : qTa + 1 < qB ∨ qB + 6 < qTa) {res : CV} (h : fX4_start VTa VB = some res) : Con X yX4_start mX4_start 1 (1 * zNt VTa VB) (4096 * zNt VTa VB) [.ref (A qTa), .ref (A qB)] (zWs A n S) (zRA A (fun k => qTa < k ∧ k ≤ qTa + 1) (fun A' => (zWs A' n (zC X A' shTa qTa res S))) (fun A' => .inl none)) := by
  refine con_of (lv := [(0, .ref (A qTa)), (1, .ref (A qB))]) (by decide) rfl (fun h => by cases h) rfl (Nat.le_of_ble_eq_true rfl) rfl ?_
  refine g_ws (M := mX4_start) (congrArg (zWs A n) hTa.symm) ?_
  unfold fX4_start at h
  refine g_aload_n (M := mX4_start) dX4_start_0 0 rfl rfl ?_
  refine g_aload_n (M := mX4_start) dX4_start_1 1 rfl rfl ?_
  obtain ⟨t1, u2, h⟩ := zbi h
  refine g_callVr (M := mX4_start) [] hX dX4_start_2 vX0_wordCount kM_X4_15 (wX0_wordCount hX (isC.keepN hB 1 6 rfl rfl (by omega)) (by omega)  u2) qB (zWs_at (by omega) ((zC_skipN 1 rfl (by omega)).trans (hB.o))) rfl ⟨(Nat.le_of_ble_eq_true rfl), (Nat.le_of_ble_eq_true rfl)⟩ ⟨(show 0 + 0 ≤ 1 * zNt VTa VB by omega), (show 0 + 0 ≤ 4096 * zNt VTa VB by omega)⟩ (Nat.le_of_ble_eq_true rfl) ?_
  refine c_put (M := mX4_start) (k := 1) dX4_start_5 kF_X4_21 (by omega) rfl rfl (by decide) rfl rfl ?_
  refine g_aload_n (M := mX4_start) dX4_start_8 0 rfl rfl ?_
  refine k_get (M := mX4_start) (v := .ref (A (qTa + 1))) dX4_start_9 kF_X4_9.r qTa (by omega) (zC_o) rfl ?_
  obtain ⟨g3, h⟩ := zgi h
  refine g_alen (M := mX4_start) (t := 0) (v := iI (VTa.1 100)) dX4_start_12 (qTa + 1) (zWs_at (by omega) (zC_a (d := (10, 100)) 0 rfl)) rfl (iI_len g3) ?_
  refine g_aload_n (M := mX4_start) dX4_start_13 0 rfl rfl ?_
  refine k_get (M := mX4_start) (v := .int (iI t1)) dX4_start_14 kF_X4_21.r qTa (by omega) (zC_o) rfl ?_
  refine zJn_J (J := fun x9 => ∀ (Aj9 : Nat → Nat), (∀ k, ¬ (fun k => qTa < k ∧ k ≤ qTa + 1) k → Aj9 k = A k) → G X mX4_start (zPm X 1 (1 * zNt VTa VB) (4096 * zNt VTa VB) (zRA A (fun k => qTa < k ∧ k ≤ qTa + 1) (fun A' => (zWs A' n (zC X A' shTa qTa res S))) (fun A' => .inl none))) (1 * zNt VTa VB) (4096 * zNt VTa VB) 30 [(0, .ref (Aj9 qTa))] [] (zWs Aj9 n (zC X Aj9 shTa qTa x9 S))) h (fun x9 h => ?_) (fun j9 h => ?_)
  · intro Aj9 hAj9
    have hBj9 := isC.rel (A' := Aj9) hB 6 rfl (fun k _ _ => hAj9 k (by omega))
    refine h_iconst (M := mX4_start) dX4_start_30 ?_
    refine g_istore_n (M := mX4_start) (lv' := [(0, .ref (Aj9 qTa)), (2, .int (iI 0))]) dX4_start_31 rfl (by decide) rfl ?_
    obtain ⟨x10, l10, h⟩ := zbi h
    have r10 : ∀ y10, y10 = x10 → ∀ (Ar10 : Nat → Nat), (∀ k, ¬ (fun k => qTa < k ∧ k ≤ qTa + 1) k → Ar10 k = A k) → G X mX4_start (zPm X 1 (1 * zNt VTa VB) (4096 * zNt VTa VB) (zRA A (fun k => qTa < k ∧ k ≤ qTa + 1) (fun A' => (zWs A' n (zC X A' shTa qTa res S))) (fun A' => .inl none))) (1 * zNt VTa VB) (4096 * zNt VTa VB) 53 [] [] (zWs Ar10 n (zC X Ar10 shTa qTa y10.2 S)) := by
      intro y10 ey
      intro Ar10 hAr10
      have hBr10 := isC.rel (A' := Ar10) hB 6 rfl (fun k _ _ => hAr10 k (by omega))
      rw [← ey] at h
      have e := (Option.some.inj h)
      subst e
      exact g_vret (M := mX4_start) dX4_start_53 rfl (Nat.le_refl _) (Nat.le_refl _) ⟨_, hAr10, rfl, rfl⟩
    refine zLp_J (J := fun s10 => ∀ (Al10 : Nat → Nat), (∀ k, ¬ (fun k => qTa < k ∧ k ≤ qTa + 1) k → Al10 k = A k) → G X mX4_start (zPm X 1 (1 * zNt VTa VB) (4096 * zNt VTa VB) (zRA A (fun k => qTa < k ∧ k ≤ qTa + 1) (fun A' => (zWs A' n (zC X A' shTa qTa res S))) (fun A' => .inl none))) (1 * zNt VTa VB) (4096 * zNt VTa VB) 32 [(0, .ref (Al10 qTa)), (2, .int (iI s10.1))] [] (zWs Al10 n (zC X Al10 shTa qTa s10.2 S))) (fun s10 w10 h10 b10 e10 => ?_) _ _ l10 Aj9 hAj9
    intro Al10 hAl10
    have hBl10 := isC.rel (A' := Al10) hB 6 rfl (fun k _ _ => hAl10 k (by omega))
    refine g_iload_n (M := mX4_start) dX4_start_32 1 rfl rfl ?_
    refine g_aload_n (M := mX4_start) dX4_start_33 0 rfl rfl ?_
    refine k_get (M := mX4_start) (v := .int (iI (s10.2.1 1))) dX4_start_34 kF_X4_21.r qTa (by omega) (zC_o) rfl ?_
    obtain ⟨g15, h10⟩ := zgi h10
    refine h_icmp_ge (M := mX4_start) (tgt := 53) dX4_start_37 (by decide) g15.1 g15.2 (fun c14 => ?_) (fun c14 => ?_)
    · have h10 := zti c14 h10
      refine g_lv (M := mX4_start) [] rfl ?_
      exact r10 _ (e10 _ (Option.some.inj h10).symm) Al10 hAl10
    · have h10 := zfi (Int.not_le.mpr c14) h10
      refine g_aload_n (M := mX4_start) dX4_start_40 0 rfl rfl ?_
      refine k_get (M := mX4_start) (v := .ref (Al10 (qTa + 1))) dX4_start_41 kF_X4_9.r qTa (by omega) (zC_o) rfl ?_
      refine g_iload_n (M := mX4_start) dX4_start_44 1 rfl rfl ?_
      refine h_iconst (M := mX4_start) dX4_start_45 ?_
      obtain ⟨g16, h10⟩ := zgi h10
      refine c_iast (M := mX4_start) (len := (s10.2.1 100).toNat) (d := (10, 100)) dX4_start_46 0 rfl rfl (by omega) (zDy1 g16.1 g16.2.1 g16.2.2) g16.1 (zDy2 g16.1 g16.2.1) ?_
      refine h_iinc (M := mX4_start) (j := 1) (lv' := [(0, .ref (Al10 qTa)), (2, .int (iI (s10.1 + 1)))]) dX4_start_47 rfl (Nat.le_of_ble_eq_true rfl) rfl ?_
      refine g_goto (M := mX4_start) (tgt := 32) dX4_start_50 (by decide) ?_
      exact b10 _ (Option.some.inj h10).symm Al10 hAl10
  · obtain ⟨g18, h⟩ := zgi h
    refine h_icmp_ge (M := mX4_start) (tgt := 30) dX4_start_17 (by decide) g18.1 g18.2 (fun c17 => ?_) (fun c17 => ?_)
    · have h := zti c17 h
      refine g_lv (M := mX4_start) [0] rfl ?_
      refine g_wide (M := mX4_start) (k2 := 1 * zNt VTa VB) (n2 := 4096 * zNt VTa VB) (Nat.zero_le _) (Nat.zero_le _) ?_
      exact j9 (zPu VTa 1 t1) h A (fun _ _ => rfl)
    · have h := zfi (Int.not_le.mpr c17) h
      refine g_aload_n (M := mX4_start) dX4_start_20 0 rfl rfl ?_
      refine g_aload_n (M := mX4_start) dX4_start_21 0 rfl rfl ?_
      refine k_get (M := mX4_start) (v := .int (iI t1)) dX4_start_22 kF_X4_21.r qTa (by omega) (zC_o) rfl ?_
      obtain ⟨g19, h⟩ := zgi h
      refine c_newput (M := mX4_start) (key := 100) (j := 0) dX4_start_25 dX4_start_27 kF_X4_9 (by omega) g19.1 g19.2.1 g19.2.2.1 g19.2.2.2 (fun _ => rfl) (fun _ => rfl) (by decide) rfl (fun a => by simp [oFs, oF, va_up, zNe]) rfl (fun A20 hnA20 => ?_)
      have hAc21 : ∀ k, ¬ (fun k => qTa < k ∧ k ≤ qTa + 1) k → A20 k = A k := fun k hk => (hnA20 k (by omega)).trans (rfl)
      have hBA20 := isC.rel (A' := A20) hB 6 rfl (fun k _ _ => hAc21 k (by omega))
      refine g_lvc (M := mX4_start) (lv' := [(0, .ref (A20 qTa)), (1, .ref (A20 qB))]) (by rw [hnA20 qTa (by omega), hnA20 qB (by omega)]) ?_
      refine g_lv (M := mX4_start) [0] rfl ?_
      refine g_wide (M := mX4_start) (k2 := 1 * zNt VTa VB) (n2 := 4096 * zNt VTa VB) g19.2.2.1 g19.2.2.2 ?_
      exact j9 (zNe (zPu VTa 1 t1) 100 1 t1) h A20 hAc21
set_option maxHeartbeats 4000000 in
set_option maxRecDepth 100000 in
theorem wX4_addAllPlaces {X : zX} (hX : zOK X) {A : Nat → Nat} {n : Nat} {S : Nat → va_E} {qTa : Nat} {VTa : CV} (hTa : isC X A shTa qTa VTa S) (bTa : qTa + 1 < n) {qB : Nat} {VB : CV} (hB : isC X A shB qB VB S) (bB : qB + 6 < n) (dTaB : qTa + 1 < qB ∨ qB + 6 < qTa) {res : CV} (h : fX4_addAllPlaces VTa VB = some res) : Con X yX4_addAllPlaces mX4_addAllPlaces 2 (1 * zNt VTa VB) (4096 * zNt VTa VB) [.ref (A qTa), .ref (A qB)] (zWs A n S) (zRA A (fun k => qTa < k ∧ k ≤ qTa + 1) (fun A' => (zWs A' n (zC X A' shTa qTa res S))) (fun A' => .inl none)) := by
  refine con_of (lv := [(0, .ref (A qTa)), (1, .ref (A qB))]) (by decide) rfl (fun h => by cases h) rfl (Nat.le_of_ble_eq_true rfl) rfl ?_
  refine g_ws (M := mX4_addAllPlaces) (congrArg (zWs A n) hTa.symm) ?_
  unfold fX4_addAllPlaces at h
  refine g_aload_n (M := mX4_addAllPlaces) dX4_addAllPlaces_0 0 rfl rfl ?_
  refine g_aload_n (M := mX4_addAllPlaces) dX4_addAllPlaces_1 1 rfl rfl ?_
  obtain ⟨t1, u2, h⟩ := zbi h
  refine g_callVA (M := mX4_addAllPlaces) [.ref (A qB)] hX dX4_addAllPlaces_2 vX4_start kM_X4_25 (wX4_start hX zC_self (by omega) (isC.keepN hB 1 6 rfl rfl (by omega)) (by omega) (by omega) u2) (fun _ => rfl) qTa (zWs_at (by omega) (zC_o)) rfl ⟨(Nat.le_of_ble_eq_true rfl), (Nat.le_of_ble_eq_true rfl)⟩ ⟨(show 0 + (1 * zNt VTa VB) ≤ 1 * zNt VTa VB by omega), (show 0 + (4096 * zNt VTa VB) ≤ 4096 * zNt VTa VB by omega)⟩ (Nat.le_of_ble_eq_true rfl) (fun A3 hnA3 => ?_)
  refine g_ws (M := mX4_addAllPlaces) (congrArg (zWs A3 n) (zC_overA (A := A))) ?_
  have hAc4 : ∀ k, ¬ (fun k => qTa < k ∧ k ≤ qTa + 1) k → A3 k = A k := fun k hk => (hnA3 k (by omega)).trans (rfl)
  have hBA3 := isC.rel (A' := A3) hB 6 rfl (fun k _ _ => hAc4 k (by omega))
  refine g_lvc (M := mX4_addAllPlaces) (lv' := [(0, .ref (A3 qTa)), (1, .ref (A3 qB))]) (by rw [hnA3 qTa (by omega), hnA3 qB (by omega)]) ?_
  refine h_iconst (M := mX4_addAllPlaces) dX4_addAllPlaces_5 ?_
  refine g_istore_n (M := mX4_addAllPlaces) (lv' := [(0, .ref (A3 qTa)), (1, .ref (A3 qB)), (2, .int (iI 0))]) dX4_addAllPlaces_6 rfl (by decide) rfl ?_
  obtain ⟨x5, l5, h⟩ := zbi h
  have r5 : ∀ y5, y5 = x5 → ∀ (Ar5 : Nat → Nat), (∀ k, ¬ (fun k => qTa < k ∧ k ≤ qTa + 1) k → Ar5 k = A k) → G X mX4_addAllPlaces (zPm X 2 (1 * zNt VTa VB) (4096 * zNt VTa VB) (zRA A (fun k => qTa < k ∧ k ≤ qTa + 1) (fun A' => (zWs A' n (zC X A' shTa qTa res S))) (fun A' => .inl none))) (0 + (1 * zNt VTa VB)) (0 + (4096 * zNt VTa VB)) 66 [] [] (zWs Ar5 n (zC X Ar5 shTa qTa y5.2 S)) := by
    intro y5 ey
    intro Ar5 hAr5
    have hBr5 := isC.rel (A' := Ar5) hB 6 rfl (fun k _ _ => hAr5 k (by omega))
    rw [← ey] at h
    obtain ⟨g33, h⟩ := zgi h
    have e := (Option.some.inj h)
    subst e
    exact g_vret (M := mX4_addAllPlaces) dX4_addAllPlaces_66 rfl (by simpa using g33.1) (by simpa using g33.2) ⟨_, hAr5, rfl, rfl⟩
  refine zLp_J (J := fun s5 => ∀ (Al5 : Nat → Nat), (∀ k, ¬ (fun k => qTa < k ∧ k ≤ qTa + 1) k → Al5 k = A k) → G X mX4_addAllPlaces (zPm X 2 (1 * zNt VTa VB) (4096 * zNt VTa VB) (zRA A (fun k => qTa < k ∧ k ≤ qTa + 1) (fun A' => (zWs A' n (zC X A' shTa qTa res S))) (fun A' => .inl none))) (0 + (1 * zNt VTa VB)) (0 + (4096 * zNt VTa VB)) 7 [(0, .ref (Al5 qTa)), (1, .ref (Al5 qB)), (2, .int (iI s5.1))] [] (zWs Al5 n (zC X Al5 shTa qTa s5.2 S))) (fun s5 w5 h5 b5 e5 => ?_) _ _ l5 A3 hAc4
  intro Al5 hAl5
  have hBl5 := isC.rel (A' := Al5) hB 6 rfl (fun k _ _ => hAl5 k (by omega))
  refine g_iload_n (M := mX4_addAllPlaces) dX4_addAllPlaces_7 2 rfl rfl ?_
  refine g_aload_n (M := mX4_addAllPlaces) dX4_addAllPlaces_8 1 rfl rfl ?_
  refine k_get (M := mX4_addAllPlaces) (v := .int (iI (VB.1 3))) dX4_addAllPlaces_9 kF_X4_29.r qB (by omega) ((zC_skipN 1 rfl (by omega)).trans (hBl5.o)) rfl ?_
  obtain ⟨g35, h5⟩ := zgi h5
  refine h_icmp_ge (M := mX4_addAllPlaces) (tgt := 66) dX4_addAllPlaces_12 (by decide) g35.1 g35.2 (fun c34 => ?_) (fun c34 => ?_)
  · have h5 := zti c34 h5
    refine g_lv (M := mX4_addAllPlaces) [] rfl ?_
    exact r5 _ (e5 _ (Option.some.inj h5).symm) Al5 hAl5
  · have h5 := zfi (Int.not_le.mpr c34) h5
    refine h_iconst (M := mX4_addAllPlaces) dX4_addAllPlaces_15 ?_
    refine g_istore_n (M := mX4_addAllPlaces) (lv' := [(0, .ref (Al5 qTa)), (1, .ref (Al5 qB)), (2, .int (iI s5.1)), (3, .int (iI 0))]) dX4_addAllPlaces_16 rfl (by decide) rfl ?_
    obtain ⟨x36, l36, h5⟩ := zbi h5
    have r36 : ∀ y36, y36 = x36 → ∀ (Ar36 : Nat → Nat), (∀ k, ¬ (fun k => qTa < k ∧ k ≤ qTa + 1) k → Ar36 k = A k) → G X mX4_addAllPlaces (zPm X 2 (1 * zNt VTa VB) (4096 * zNt VTa VB) (zRA A (fun k => qTa < k ∧ k ≤ qTa + 1) (fun A' => (zWs A' n (zC X A' shTa qTa res S))) (fun A' => .inl none))) (0 + (1 * zNt VTa VB)) (0 + (4096 * zNt VTa VB)) 60 [(0, .ref (Ar36 qTa)), (1, .ref (Ar36 qB)), (2, .int (iI s5.1))] [] (zWs Ar36 n (zC X Ar36 shTa qTa y36.2 S)) := by
      intro y36 ey
      intro Ar36 hAr36
      have hBr36 := isC.rel (A' := Ar36) hB 6 rfl (fun k _ _ => hAr36 k (by omega))
      rw [← ey] at h5
      refine h_iinc (M := mX4_addAllPlaces) (j := 2) (lv' := [(0, .ref (Ar36 qTa)), (1, .ref (Ar36 qB)), (2, .int (iI (s5.1 + 1)))]) dX4_addAllPlaces_60 rfl (Nat.le_of_ble_eq_true rfl) rfl ?_
      refine g_goto (M := mX4_addAllPlaces) (tgt := 7) dX4_addAllPlaces_63 (by decide) ?_
      exact b5 _ (Option.some.inj h5).symm Ar36 hAr36
    refine zLp_J (J := fun s36 => ∀ (Al36 : Nat → Nat), (∀ k, ¬ (fun k => qTa < k ∧ k ≤ qTa + 1) k → Al36 k = A k) → G X mX4_addAllPlaces (zPm X 2 (1 * zNt VTa VB) (4096 * zNt VTa VB) (zRA A (fun k => qTa < k ∧ k ≤ qTa + 1) (fun A' => (zWs A' n (zC X A' shTa qTa res S))) (fun A' => .inl none))) (0 + (1 * zNt VTa VB)) (0 + (4096 * zNt VTa VB)) 17 [(0, .ref (Al36 qTa)), (1, .ref (Al36 qB)), (2, .int (iI s5.1)), (3, .int (iI s36.1))] [] (zWs Al36 n (zC X Al36 shTa qTa s36.2 S))) (fun s36 w36 h36 b36 e36 => ?_) _ _ l36 Al5 hAl5
    intro Al36 hAl36
    have hBl36 := isC.rel (A' := Al36) hB 6 rfl (fun k _ _ => hAl36 k (by omega))
    refine g_iload_n (M := mX4_addAllPlaces) dX4_addAllPlaces_17 3 rfl rfl ?_
    refine g_aload_n (M := mX4_addAllPlaces) dX4_addAllPlaces_18 1 rfl rfl ?_
    refine g_iload_n (M := mX4_addAllPlaces) dX4_addAllPlaces_19 2 rfl rfl ?_
    obtain ⟨t49, u50, h36⟩ := zbi h36
    refine g_callVr (M := mX4_addAllPlaces) [.int (iI s5.1)] hX dX4_addAllPlaces_20 vX0_lastStart kM_X4_32 (wX0_lastStart hX (isC.keepN hBl36 1 6 rfl rfl (by omega)) (by omega)  u50) qB (zWs_at (by omega) ((zC_skipN 1 rfl (by omega)).trans (hBl36.o))) rfl ⟨(Nat.le_of_ble_eq_true rfl), (Nat.le_of_ble_eq_true rfl)⟩ ⟨(show 0 + (1 * zNt VTa VB) + 0 ≤ 1 * zNt VTa VB by omega), (show 0 + (4096 * zNt VTa VB) + 0 ≤ 4096 * zNt VTa VB by omega)⟩ (Nat.le_of_ble_eq_true rfl) ?_
    obtain ⟨g52, h36⟩ := zgi h36
    refine h_icmp_gt (M := mX4_addAllPlaces) (tgt := 60) dX4_addAllPlaces_23 (by decide) g52.1 g52.2 (fun c51 => ?_) (fun c51 => ?_)
    · have h36 := zti c51 h36
      refine g_lv (M := mX4_addAllPlaces) [0, 1, 2] rfl ?_
      exact r36 _ (e36 _ (Option.some.inj h36).symm) Al36 hAl36
    · have h36 := zfi (Int.not_lt.mpr c51) h36
      refine g_aload_n (M := mX4_addAllPlaces) dX4_addAllPlaces_26 1 rfl rfl ?_
      refine g_iload_n (M := mX4_addAllPlaces) dX4_addAllPlaces_27 2 rfl rfl ?_
      refine g_iload_n (M := mX4_addAllPlaces) dX4_addAllPlaces_28 3 rfl rfl ?_
      obtain ⟨t53, u54, h36⟩ := zbi h36
      refine g_callVr (M := mX4_addAllPlaces) [.int (iI s5.1), .int (iI s36.1)] hX dX4_addAllPlaces_29 vX0_isPlace kM_X4_36 (wX0_isPlace hX (isC.keepN hBl36 1 6 rfl rfl (by omega)) (by omega)  u54) qB (zWs_at (by omega) ((zC_skipN 1 rfl (by omega)).trans (hBl36.o))) rfl ⟨(Nat.le_of_ble_eq_true rfl), (Nat.le_of_ble_eq_true rfl)⟩ ⟨(show 0 + (1 * zNt VTa VB) + 0 ≤ 1 * zNt VTa VB by omega), (show 0 + (4096 * zNt VTa VB) + 0 ≤ 4096 * zNt VTa VB by omega)⟩ (Nat.le_of_ble_eq_true rfl) ?_
      refine h_beq (M := mX4_addAllPlaces) (tgt := 54) dX4_addAllPlaces_32 (by decide) (fun c55 => ?_) (fun c55 => ?_)
      · have h36 := zfi (zbf c55) h36
        refine h_iinc (M := mX4_addAllPlaces) (j := 3) (lv' := [(0, .ref (Al36 qTa)), (1, .ref (Al36 qB)), (2, .int (iI s5.1)), (3, .int (iI (s36.1 + 1)))]) dX4_addAllPlaces_54 rfl (Nat.le_of_ble_eq_true rfl) rfl ?_
        refine g_goto (M := mX4_addAllPlaces) (tgt := 17) dX4_addAllPlaces_57 (by decide) ?_
        exact b36 _ (Option.some.inj h36).symm Al36 hAl36
      · have h36 := zti c55 h36
        refine g_aload_n (M := mX4_addAllPlaces) dX4_addAllPlaces_35 0 rfl rfl ?_
        refine k_get (M := mX4_addAllPlaces) (v := .ref (Al36 (qTa + 1))) dX4_addAllPlaces_36 kF_X4_9.r qTa (by omega) (zC_o) rfl ?_
        refine g_aload_n (M := mX4_addAllPlaces) dX4_addAllPlaces_39 1 rfl rfl ?_
        refine g_aload_n (M := mX4_addAllPlaces) dX4_addAllPlaces_40 1 rfl rfl ?_
        refine g_iload_n (M := mX4_addAllPlaces) dX4_addAllPlaces_41 2 rfl rfl ?_
        refine g_iload_n (M := mX4_addAllPlaces) dX4_addAllPlaces_42 3 rfl rfl ?_
        obtain ⟨t56, u57, h36⟩ := zbi h36
        refine g_callVr (M := mX4_addAllPlaces) [.int (iI s5.1), .int (iI s36.1)] hX dX4_addAllPlaces_43 vX0_codeAt kM_X4_40 (wX0_codeAt hX (isC.keepN hBl36 1 6 rfl rfl (by omega)) (by omega)  u57) qB (zWs_at (by omega) ((zC_skipN 1 rfl (by omega)).trans (hBl36.o))) rfl ⟨(Nat.le_of_ble_eq_true rfl), (Nat.le_of_ble_eq_true rfl)⟩ ⟨(show 0 + (1 * zNt VTa VB) + 0 ≤ 1 * zNt VTa VB by omega), (show 0 + (4096 * zNt VTa VB) + 0 ≤ 4096 * zNt VTa VB by omega)⟩ (Nat.le_of_ble_eq_true rfl) ?_
        obtain ⟨t58, u59, h36⟩ := zbi h36
        refine g_callVr (M := mX4_addAllPlaces) [.int (iI t56)] hX dX4_addAllPlaces_46 vX0_wordOf kM_X4_44 (wX0_wordOf hX (isC.keepN hBl36 1 6 rfl rfl (by omega)) (by omega)  u59) qB (zWs_at (by omega) ((zC_skipN 1 rfl (by omega)).trans (hBl36.o))) rfl ⟨(Nat.le_of_ble_eq_true rfl), (Nat.le_of_ble_eq_true rfl)⟩ ⟨(show 0 + (1 * zNt VTa VB) + 0 ≤ 1 * zNt VTa VB by omega), (show 0 + (4096 * zNt VTa VB) + 0 ≤ 4096 * zNt VTa VB by omega)⟩ (Nat.le_of_ble_eq_true rfl) ?_
        refine g_dup2_11 (M := mX4_addAllPlaces) dX4_addAllPlaces_49 rfl rfl ?_
        obtain ⟨g60, h36⟩ := zgi h36
        refine k_iald (M := mX4_addAllPlaces) (len := (s36.2.1 100).toNat) (f := s36.2.2 1) dX4_addAllPlaces_50 (qTa + 1) (by omega) (zC_a (d := (10, 100)) 0 rfl) (zDy1 g60.1 g60.2.1 g60.2.2) g60.1 (zDy2 g60.1 g60.2.1) ?_
        refine h_iconst (M := mX4_addAllPlaces) dX4_addAllPlaces_51 ?_
        refine h_iadd (M := mX4_addAllPlaces) dX4_addAllPlaces_52 ?_
        refine c_iast (M := mX4_addAllPlaces) (len := (s36.2.1 100).toNat) (d := (10, 100)) dX4_addAllPlaces_53 0 rfl rfl (by omega) (zDy1 g60.1 g60.2.1 g60.2.2) g60.1 (zDy2 g60.1 g60.2.1) ?_
        refine h_iinc (M := mX4_addAllPlaces) (j := 3) (lv' := [(0, .ref (Al36 qTa)), (1, .ref (Al36 qB)), (2, .int (iI s5.1)), (3, .int (iI (s36.1 + 1)))]) dX4_addAllPlaces_54 rfl (Nat.le_of_ble_eq_true rfl) rfl ?_
        refine g_goto (M := mX4_addAllPlaces) (tgt := 17) dX4_addAllPlaces_57 (by decide) ?_
        exact b36 _ (Option.some.inj h36).symm Al36 hAl36
set_option maxHeartbeats 4000000 in
set_option maxRecDepth 100000 in
theorem wX4_raiseMarks {X : zX} (hX : zOK X) {A : Nat → Nat} {n : Nat} {S : Nat → va_E} {qTa : Nat} {VTa : CV} (hTa : isC X A shTa qTa VTa S) (bTa : qTa + 1 < n) {qB : Nat} {VB : CV} (hB : isC X A shB qB VB S) (bB : qB + 6 < n) (dTaB : qTa + 1 < qB ∨ qB + 6 < qTa) {a1 : Int} {a2 : Int} {res : CV} (h : fX4_raiseMarks VTa VB a1 a2 = some res) : Con X yX4_raiseMarks mX4_raiseMarks 2 0 0 [.ref (A qTa), .ref (A qB), .int (iI a1), .int (iI a2)] (zWs A n S) (zRet (zWs A n (zC X A shTa qTa res S)) none) := by
  refine con_of (lv := [(0, .ref (A qTa)), (1, .ref (A qB)), (2, .int (iI a1)), (3, .int (iI a2))]) (by decide) rfl (fun h => by cases h) rfl (Nat.le_of_ble_eq_true rfl) rfl ?_
  refine g_ws (M := mX4_raiseMarks) (congrArg (zWs A n) hTa.symm) ?_
  unfold fX4_raiseMarks at h
  refine h_iconst (M := mX4_raiseMarks) dX4_raiseMarks_0 ?_
  refine g_istore (M := mX4_raiseMarks) (lv' := [(0, .ref (A qTa)), (1, .ref (A qB)), (2, .int (iI a1)), (3, .int (iI a2)), (4, .int (iI 0))]) dX4_raiseMarks_1 (by decide) rfl ?_
  obtain ⟨x1, l1, h⟩ := zbi h
  have r1 : ∀ y1, y1 = x1 → G X mX4_raiseMarks (zPm X 2 0 0 (zRet (zWs A n (zC X A shTa qTa res S)) none)) 0 0 63 [] [] (zWs A n (zC X A shTa qTa y1.2 S)) := by
    intro y1 ey
    rw [← ey] at h
    have e := (Option.some.inj h)
    subst e
    exact g_vret (M := mX4_raiseMarks) dX4_raiseMarks_63 rfl (Nat.le_of_ble_eq_true rfl) (Nat.le_of_ble_eq_true rfl) ⟨rfl, rfl⟩
  refine zLp_J (J := fun s1 => G X mX4_raiseMarks (zPm X 2 0 0 (zRet (zWs A n (zC X A shTa qTa res S)) none)) 0 0 3 [(0, .ref (A qTa)), (1, .ref (A qB)), (2, .int (iI a1)), (3, .int (iI a2)), (4, .int (iI s1.1))] [] (zWs A n (zC X A shTa qTa s1.2 S))) (fun s1 w1 h1 b1 e1 => ?_) _ _ l1
  refine g_iload (M := mX4_raiseMarks) dX4_raiseMarks_3 4 rfl ?_
  refine g_aload_n (M := mX4_raiseMarks) dX4_raiseMarks_5 1 rfl rfl ?_
  refine g_iload_n (M := mX4_raiseMarks) dX4_raiseMarks_6 2 rfl rfl ?_
  obtain ⟨t16, u17, h1⟩ := zbi h1
  refine g_callVr (M := mX4_raiseMarks) [.int (iI a1)] hX dX4_raiseMarks_7 vX0_lastStart kM_X4_32 (wX0_lastStart hX (isC.keepN hB 1 6 rfl rfl (by omega)) (by omega)  u17) qB (zWs_at (by omega) ((zC_skipN 1 rfl (by omega)).trans (hB.o))) rfl ⟨(Nat.le_of_ble_eq_true rfl), (Nat.le_of_ble_eq_true rfl)⟩ ⟨(Nat.le_of_ble_eq_true rfl), (Nat.le_of_ble_eq_true rfl)⟩ (Nat.le_of_ble_eq_true rfl) ?_
  obtain ⟨g19, h1⟩ := zgi h1
  refine h_icmp_gt (M := mX4_raiseMarks) (tgt := 63) dX4_raiseMarks_10 (by decide) g19.1 g19.2 (fun c18 => ?_) (fun c18 => ?_)
  · have h1 := zti c18 h1
    refine g_lv (M := mX4_raiseMarks) [] rfl ?_
    exact r1 _ (e1 _ (Option.some.inj h1).symm)
  · have h1 := zfi (Int.not_lt.mpr c18) h1
    refine g_aload_n (M := mX4_raiseMarks) dX4_raiseMarks_13 1 rfl rfl ?_
    refine g_iload_n (M := mX4_raiseMarks) dX4_raiseMarks_14 2 rfl rfl ?_
    refine g_iload (M := mX4_raiseMarks) dX4_raiseMarks_15 4 rfl ?_
    obtain ⟨t20, u21, h1⟩ := zbi h1
    refine g_callVr (M := mX4_raiseMarks) [.int (iI a1), .int (iI s1.1)] hX dX4_raiseMarks_17 vX0_isPlace kM_X4_36 (wX0_isPlace hX (isC.keepN hB 1 6 rfl rfl (by omega)) (by omega)  u21) qB (zWs_at (by omega) ((zC_skipN 1 rfl (by omega)).trans (hB.o))) rfl ⟨(Nat.le_of_ble_eq_true rfl), (Nat.le_of_ble_eq_true rfl)⟩ ⟨(Nat.le_of_ble_eq_true rfl), (Nat.le_of_ble_eq_true rfl)⟩ (Nat.le_of_ble_eq_true rfl) ?_
    refine h_beq (M := mX4_raiseMarks) (tgt := 57) dX4_raiseMarks_20 (by decide) (fun c22 => ?_) (fun c22 => ?_)
    · have h1 := zfi (zbf c22) h1
      refine h_iinc (M := mX4_raiseMarks) (j := 4) (lv' := [(0, .ref (A qTa)), (1, .ref (A qB)), (2, .int (iI a1)), (3, .int (iI a2)), (4, .int (iI (s1.1 + 1)))]) dX4_raiseMarks_57 rfl (Nat.le_of_ble_eq_true rfl) rfl ?_
      refine g_goto (M := mX4_raiseMarks) (tgt := 3) dX4_raiseMarks_60 (by decide) ?_
      exact b1 _ (Option.some.inj h1).symm
    · have h1 := zti c22 h1
      refine g_aload_n (M := mX4_raiseMarks) dX4_raiseMarks_23 1 rfl rfl ?_
      refine g_aload_n (M := mX4_raiseMarks) dX4_raiseMarks_24 1 rfl rfl ?_
      refine g_iload_n (M := mX4_raiseMarks) dX4_raiseMarks_25 2 rfl rfl ?_
      refine g_iload (M := mX4_raiseMarks) dX4_raiseMarks_26 4 rfl ?_
      obtain ⟨t23, u24, h1⟩ := zbi h1
      refine g_callVr (M := mX4_raiseMarks) [.int (iI a1), .int (iI s1.1)] hX dX4_raiseMarks_28 vX0_codeAt kM_X4_40 (wX0_codeAt hX (isC.keepN hB 1 6 rfl rfl (by omega)) (by omega)  u24) qB (zWs_at (by omega) ((zC_skipN 1 rfl (by omega)).trans (hB.o))) rfl ⟨(Nat.le_of_ble_eq_true rfl), (Nat.le_of_ble_eq_true rfl)⟩ ⟨(Nat.le_of_ble_eq_true rfl), (Nat.le_of_ble_eq_true rfl)⟩ (Nat.le_of_ble_eq_true rfl) ?_
      obtain ⟨t25, u26, h1⟩ := zbi h1
      refine g_callVr (M := mX4_raiseMarks) [.int (iI t23)] hX dX4_raiseMarks_31 vX0_wordOf kM_X4_44 (wX0_wordOf hX (isC.keepN hB 1 6 rfl rfl (by omega)) (by omega)  u26) qB (zWs_at (by omega) ((zC_skipN 1 rfl (by omega)).trans (hB.o))) rfl ⟨(Nat.le_of_ble_eq_true rfl), (Nat.le_of_ble_eq_true rfl)⟩ ⟨(Nat.le_of_ble_eq_true rfl), (Nat.le_of_ble_eq_true rfl)⟩ (Nat.le_of_ble_eq_true rfl) ?_
      refine g_istore (M := mX4_raiseMarks) (lv' := [(0, .ref (A qTa)), (1, .ref (A qB)), (2, .int (iI a1)), (3, .int (iI a2)), (4, .int (iI s1.1)), (5, .int (iI t25))]) dX4_raiseMarks_34 (by decide) rfl ?_
      refine g_aload_n (M := mX4_raiseMarks) dX4_raiseMarks_36 0 rfl rfl ?_
      refine k_get (M := mX4_raiseMarks) (v := .ref (A (qTa + 1))) dX4_raiseMarks_37 kF_X4_9.r qTa (by omega) (zC_o) rfl ?_
      refine g_iload (M := mX4_raiseMarks) dX4_raiseMarks_40 5 rfl ?_
      obtain ⟨g27, h1⟩ := zgi h1
      refine k_iald (M := mX4_raiseMarks) (len := (s1.2.1 100).toNat) (f := s1.2.2 1) dX4_raiseMarks_42 (qTa + 1) (by omega) (zC_a (d := (10, 100)) 0 rfl) (zDy1 g27.1 g27.2.1 g27.2.2) g27.1 (zDy2 g27.1 g27.2.1) ?_
      refine g_iload_n (M := mX4_raiseMarks) dX4_raiseMarks_43 3 rfl rfl ?_
      refine h_iconst (M := mX4_raiseMarks) dX4_raiseMarks_44 ?_
      refine h_isub (M := mX4_raiseMarks) dX4_raiseMarks_45 ?_
      obtain ⟨g29, h1⟩ := zgi h1
      refine h_icmp_ne (M := mX4_raiseMarks) (tgt := 57) dX4_raiseMarks_46 (by decide) g29.1 g29.2 (fun c28 => ?_) (fun c28 => ?_)
      · have h1 := zfi c28 h1
        refine h_iinc (M := mX4_raiseMarks) (j := 4) (lv' := [(0, .ref (A qTa)), (1, .ref (A qB)), (2, .int (iI a1)), (3, .int (iI a2)), (4, .int (iI (s1.1 + 1))), (5, .int (iI t25))]) dX4_raiseMarks_57 rfl (Nat.le_of_ble_eq_true rfl) rfl ?_
        refine g_goto (M := mX4_raiseMarks) (tgt := 3) dX4_raiseMarks_60 (by decide) ?_
        refine g_lv (M := mX4_raiseMarks) [0, 1, 2, 3, 4] rfl ?_
        exact b1 _ (Option.some.inj h1).symm
      · have h1 := zti c28 h1
        refine g_aload_n (M := mX4_raiseMarks) dX4_raiseMarks_49 0 rfl rfl ?_
        refine k_get (M := mX4_raiseMarks) (v := .ref (A (qTa + 1))) dX4_raiseMarks_50 kF_X4_9.r qTa (by omega) (zC_o) rfl ?_
        refine g_iload (M := mX4_raiseMarks) dX4_raiseMarks_53 5 rfl ?_
        refine g_iload_n (M := mX4_raiseMarks) dX4_raiseMarks_55 3 rfl rfl ?_
        refine c_iast (M := mX4_raiseMarks) (len := (s1.2.1 100).toNat) (d := (10, 100)) dX4_raiseMarks_56 0 rfl rfl (by omega) (zDy1 g27.1 g27.2.1 g27.2.2) g27.1 (zDy2 g27.1 g27.2.1) ?_
        refine h_iinc (M := mX4_raiseMarks) (j := 4) (lv' := [(0, .ref (A qTa)), (1, .ref (A qB)), (2, .int (iI a1)), (3, .int (iI a2)), (4, .int (iI (s1.1 + 1))), (5, .int (iI t25))]) dX4_raiseMarks_57 rfl (Nat.le_of_ble_eq_true rfl) rfl ?_
        refine g_goto (M := mX4_raiseMarks) (tgt := 3) dX4_raiseMarks_60 (by decide) ?_
        refine g_lv (M := mX4_raiseMarks) [0, 1, 2, 3, 4] rfl ?_
        exact b1 _ (Option.some.inj h1).symm
set_option maxHeartbeats 4000000 in
set_option maxRecDepth 100000 in
theorem wX4_markShared {X : zX} (hX : zOK X) {A : Nat → Nat} {n : Nat} {S : Nat → va_E} {qTa : Nat} {VTa : CV} (hTa : isC X A shTa qTa VTa S) (bTa : qTa + 1 < n) {qB : Nat} {VB : CV} (hB : isC X A shB qB VB S) (bB : qB + 6 < n) (dTaB : qTa + 1 < qB ∨ qB + 6 < qTa) {a1 : Int} {a2 : Int} {res : CV} (h : fX4_markShared VTa VB a1 a2 = some res) : Con X yX4_markShared mX4_markShared 3 (1 * zNt VTa VB) (4096 * zNt VTa VB) [.ref (A qTa), .ref (A qB), .int (iI a1), .int (iI a2)] (zWs A n S) (zRA A (fun k => qTa < k ∧ k ≤ qTa + 1) (fun A' => (zWs A' n (zC X A' shTa qTa res S))) (fun A' => .inl none)) := by
  refine con_of (lv := [(0, .ref (A qTa)), (1, .ref (A qB)), (2, .int (iI a1)), (3, .int (iI a2))]) (by decide) rfl (fun h => by cases h) rfl (Nat.le_of_ble_eq_true rfl) rfl ?_
  refine g_ws (M := mX4_markShared) (congrArg (zWs A n) hTa.symm) ?_
  unfold fX4_markShared at h
  refine g_aload_n (M := mX4_markShared) dX4_markShared_0 0 rfl rfl ?_
  refine g_aload_n (M := mX4_markShared) dX4_markShared_1 1 rfl rfl ?_
  obtain ⟨t1, u2, h⟩ := zbi h
  refine g_callVA (M := mX4_markShared) [.ref (A qB)] hX dX4_markShared_2 vX4_start kM_X4_25 (wX4_start hX zC_self (by omega) (isC.keepN hB 1 6 rfl rfl (by omega)) (by omega) (by omega) u2) (fun _ => rfl) qTa (zWs_at (by omega) (zC_o)) rfl ⟨(Nat.le_of_ble_eq_true rfl), (Nat.le_of_ble_eq_true rfl)⟩ ⟨(show 0 + (1 * zNt VTa VB) ≤ 1 * zNt VTa VB by omega), (show 0 + (4096 * zNt VTa VB) ≤ 4096 * zNt VTa VB by omega)⟩ (Nat.le_of_ble_eq_true rfl) (fun A3 hnA3 => ?_)
  refine g_ws (M := mX4_markShared) (congrArg (zWs A3 n) (zC_overA (A := A))) ?_
  have hAc4 : ∀ k, ¬ (fun k => qTa < k ∧ k ≤ qTa + 1) k → A3 k = A k := fun k hk => (hnA3 k (by omega)).trans (rfl)
  have hBA3 := isC.rel (A' := A3) hB 6 rfl (fun k _ _ => hAc4 k (by omega))
  refine g_lvc (M := mX4_markShared) (lv' := [(0, .ref (A3 qTa)), (1, .ref (A3 qB)), (2, .int (iI a1)), (3, .int (iI a2))]) (by rw [hnA3 qTa (by omega), hnA3 qB (by omega)]) ?_
  refine g_aload_n (M := mX4_markShared) dX4_markShared_5 0 rfl rfl ?_
  refine g_aload_n (M := mX4_markShared) dX4_markShared_6 1 rfl rfl ?_
  refine g_iload_n (M := mX4_markShared) dX4_markShared_7 2 rfl rfl ?_
  refine h_iconst (M := mX4_markShared) dX4_markShared_8 ?_
  obtain ⟨t5, u6, h⟩ := zbi h
  refine g_callVr (M := mX4_markShared) [.ref (A3 qB), .int (iI a1), .int (iI 1)] hX dX4_markShared_9 vX4_raiseMarks kM_X4_47 (wX4_raiseMarks hX zC_self (by omega) (isC.keepN hBA3 1 6 rfl rfl (by omega)) (by omega) (by omega) u6) qTa (zWs_at (by omega) (zC_o)) rfl ⟨(Nat.le_of_ble_eq_true rfl), (Nat.le_of_ble_eq_true rfl)⟩ ⟨(show 0 + (1 * zNt VTa VB) + 0 ≤ 1 * zNt VTa VB by omega), (show 0 + (4096 * zNt VTa VB) + 0 ≤ 4096 * zNt VTa VB by omega)⟩ (Nat.le_of_ble_eq_true rfl) ?_
  refine g_ws (M := mX4_markShared) (congrArg (zWs A3 n) zC_over) ?_
  refine g_aload_n (M := mX4_markShared) dX4_markShared_12 0 rfl rfl ?_
  refine g_aload_n (M := mX4_markShared) dX4_markShared_13 1 rfl rfl ?_
  refine g_iload_n (M := mX4_markShared) dX4_markShared_14 3 rfl rfl ?_
  refine h_iconst (M := mX4_markShared) dX4_markShared_15 ?_
  obtain ⟨t7, u8, h⟩ := zbi h
  refine g_callVr (M := mX4_markShared) [.ref (A3 qB), .int (iI a2), .int (iI 2)] hX dX4_markShared_16 vX4_raiseMarks kM_X4_47 (wX4_raiseMarks hX zC_self (by omega) (isC.keepN hBA3 1 6 rfl rfl (by omega)) (by omega) (by omega) u8) qTa (zWs_at (by omega) (zC_o)) rfl ⟨(Nat.le_of_ble_eq_true rfl), (Nat.le_of_ble_eq_true rfl)⟩ ⟨(show 0 + (1 * zNt VTa VB) + 0 ≤ 1 * zNt VTa VB by omega), (show 0 + (4096 * zNt VTa VB) + 0 ≤ 4096 * zNt VTa VB by omega)⟩ (Nat.le_of_ble_eq_true rfl) ?_
  refine g_ws (M := mX4_markShared) (congrArg (zWs A3 n) zC_over) ?_
  refine h_iconst (M := mX4_markShared) dX4_markShared_19 ?_
  refine g_istore (M := mX4_markShared) (lv' := [(0, .ref (A3 qTa)), (1, .ref (A3 qB)), (2, .int (iI a1)), (3, .int (iI a2)), (4, .int (iI 0))]) dX4_markShared_20 (by decide) rfl ?_
  obtain ⟨x9, l9, h⟩ := zbi h
  have r9 : ∀ y9, y9 = x9 → ∀ (Ar9 : Nat → Nat), (∀ k, ¬ (fun k => qTa < k ∧ k ≤ qTa + 1) k → Ar9 k = A k) → G X mX4_markShared (zPm X 3 (1 * zNt VTa VB) (4096 * zNt VTa VB) (zRA A (fun k => qTa < k ∧ k ≤ qTa + 1) (fun A' => (zWs A' n (zC X A' shTa qTa res S))) (fun A' => .inl none))) (0 + (1 * zNt VTa VB)) (0 + (4096 * zNt VTa VB)) 60 [] [] (zWs Ar9 n (zC X Ar9 shTa qTa y9.2 S)) := by
    intro y9 ey
    intro Ar9 hAr9
    have hBr9 := isC.rel (A' := Ar9) hB 6 rfl (fun k _ _ => hAr9 k (by omega))
    rw [← ey] at h
    obtain ⟨g15, h⟩ := zgi h
    have e := (Option.some.inj h)
    subst e
    exact g_vret (M := mX4_markShared) dX4_markShared_60 rfl (by simpa using g15.1) (by simpa using g15.2) ⟨_, hAr9, rfl, rfl⟩
  refine g_lv (M := mX4_markShared) [0, 4] rfl ?_
  refine zLp_J (J := fun s9 => ∀ (Al9 : Nat → Nat), (∀ k, ¬ (fun k => qTa < k ∧ k ≤ qTa + 1) k → Al9 k = A k) → G X mX4_markShared (zPm X 3 (1 * zNt VTa VB) (4096 * zNt VTa VB) (zRA A (fun k => qTa < k ∧ k ≤ qTa + 1) (fun A' => (zWs A' n (zC X A' shTa qTa res S))) (fun A' => .inl none))) (0 + (1 * zNt VTa VB)) (0 + (4096 * zNt VTa VB)) 22 [(0, .ref (Al9 qTa)), (4, .int (iI s9.1))] [] (zWs Al9 n (zC X Al9 shTa qTa s9.2 S))) (fun s9 w9 h9 b9 e9 => ?_) _ _ l9 A3 hAc4
  intro Al9 hAl9
  have hBl9 := isC.rel (A' := Al9) hB 6 rfl (fun k _ _ => hAl9 k (by omega))
  refine g_iload (M := mX4_markShared) dX4_markShared_22 1 rfl ?_
  refine g_aload_n (M := mX4_markShared) dX4_markShared_24 0 rfl rfl ?_
  refine k_get (M := mX4_markShared) (v := .int (iI (s9.2.1 1))) dX4_markShared_25 kF_X4_21.r qTa (by omega) (zC_o) rfl ?_
  obtain ⟨g17, h9⟩ := zgi h9
  refine h_icmp_ge (M := mX4_markShared) (tgt := 60) dX4_markShared_28 (by decide) g17.1 g17.2 (fun c16 => ?_) (fun c16 => ?_)
  · have h9 := zti c16 h9
    refine g_lv (M := mX4_markShared) [] rfl ?_
    exact r9 _ (e9 _ (Option.some.inj h9).symm) Al9 hAl9
  · have h9 := zfi (Int.not_le.mpr c16) h9
    refine g_aload_n (M := mX4_markShared) dX4_markShared_31 0 rfl rfl ?_
    refine k_get (M := mX4_markShared) (v := .ref (Al9 (qTa + 1))) dX4_markShared_32 kF_X4_9.r qTa (by omega) (zC_o) rfl ?_
    refine g_iload (M := mX4_markShared) dX4_markShared_35 1 rfl ?_
    refine g_aload_n (M := mX4_markShared) dX4_markShared_37 0 rfl rfl ?_
    refine k_get (M := mX4_markShared) (v := .ref (Al9 (qTa + 1))) dX4_markShared_38 kF_X4_9.r qTa (by omega) (zC_o) rfl ?_
    refine g_iload (M := mX4_markShared) dX4_markShared_41 1 rfl ?_
    obtain ⟨g18, h9⟩ := zgi h9
    refine k_iald (M := mX4_markShared) (len := (s9.2.1 100).toNat) (f := s9.2.2 1) dX4_markShared_43 (qTa + 1) (by omega) (zC_a (d := (10, 100)) 0 rfl) (zDy1 g18.1 g18.2.1 g18.2.2) g18.1 (zDy2 g18.1 g18.2.1) ?_
    refine h_iconst (M := mX4_markShared) dX4_markShared_44 ?_
    obtain ⟨g20, h9⟩ := zgi h9
    refine h_icmp_ne (M := mX4_markShared) (tgt := 52) dX4_markShared_45 (by decide) g20 (by decide) (fun c19 => ?_) (fun c19 => ?_)
    · have h9 := zfi c19 h9
      refine h_iconst (M := mX4_markShared) dX4_markShared_52 ?_
      refine c_iast (M := mX4_markShared) (len := (s9.2.1 100).toNat) (d := (10, 100)) dX4_markShared_53 0 rfl rfl (by omega) (zDy1 g18.1 g18.2.1 g18.2.2) g18.1 (zDy2 g18.1 g18.2.1) ?_
      refine h_iinc (M := mX4_markShared) (j := 1) (lv' := [(0, .ref (Al9 qTa)), (4, .int (iI (s9.1 + 1)))]) dX4_markShared_54 rfl (Nat.le_of_ble_eq_true rfl) rfl ?_
      refine g_goto (M := mX4_markShared) (tgt := 22) dX4_markShared_57 (by decide) ?_
      exact b9 _ (Option.some.inj h9).symm Al9 hAl9
    · have h9 := zti c19 h9
      refine h_iconst (M := mX4_markShared) dX4_markShared_48 ?_
      refine g_goto (M := mX4_markShared) (tgt := 53) dX4_markShared_49 (by decide) ?_
      refine c_iast (M := mX4_markShared) (len := (s9.2.1 100).toNat) (d := (10, 100)) dX4_markShared_53 0 rfl rfl (by omega) (zDy1 g18.1 g18.2.1 g18.2.2) g18.1 (zDy2 g18.1 g18.2.1) ?_
      refine h_iinc (M := mX4_markShared) (j := 1) (lv' := [(0, .ref (Al9 qTa)), (4, .int (iI (s9.1 + 1)))]) dX4_markShared_54 rfl (Nat.le_of_ble_eq_true rfl) rfl ?_
      refine g_goto (M := mX4_markShared) (tgt := 22) dX4_markShared_57 (by decide) ?_
      exact b9 _ (Option.some.inj h9).symm Al9 hAl9
set_option maxHeartbeats 4000000 in
set_option maxRecDepth 100000 in
theorem wX4_marked {X : zX} (hX : zOK X) {A : Nat → Nat} {n : Nat} {S : Nat → va_E} {qTa : Nat} {VTa : CV} (hTa : isC X A shTa qTa VTa S) (bTa : qTa + 1 < n) {res : Int} (h : fX4_marked VTa = some res) : Con X yX4_marked mX4_marked 0 0 0 [.ref (A qTa)] (zWs A n S) (zRet (zWs A n S) (some (.int (iI res)))) := by
  refine con_of (lv := [(0, .ref (A qTa))]) (by decide) rfl (fun h => by cases h) rfl (Nat.le_of_ble_eq_true rfl) rfl ?_
  unfold fX4_marked at h
  refine h_iconst (M := mX4_marked) dX4_marked_0 ?_
  refine g_istore_n (M := mX4_marked) (lv' := [(0, .ref (A qTa)), (1, .int (iI 0))]) dX4_marked_1 rfl (by decide) rfl ?_
  refine h_iconst (M := mX4_marked) dX4_marked_2 ?_
  refine g_istore_n (M := mX4_marked) (lv' := [(0, .ref (A qTa)), (1, .int (iI 0)), (2, .int (iI 0))]) dX4_marked_3 rfl (by decide) rfl ?_
  obtain ⟨x1, l1, h⟩ := zbi h
  have r1 : ∀ y1, y1 = x1 → G X mX4_marked (zPm X 0 0 0 (zRet (zWs A n S) (some (.int (iI res))))) 0 0 30 [(1, .int (iI y1.1))] [] (zWs A n S) := by
    intro y1 ey
    rw [← ey] at h
    refine g_iload_n (M := mX4_marked) dX4_marked_30 0 rfl rfl ?_
    have e := (Option.some.inj h)
    subst e
    exact g_iret (M := mX4_marked) dX4_marked_31 rfl (Nat.le_of_ble_eq_true rfl) (Nat.le_of_ble_eq_true rfl) ⟨rfl, rfl⟩
  refine zLp_J (J := fun s1 => G X mX4_marked (zPm X 0 0 0 (zRet (zWs A n S) (some (.int (iI res))))) 0 0 4 [(0, .ref (A qTa)), (1, .int (iI s1.1)), (2, .int (iI s1.2))] [] (zWs A n S)) (fun s1 w1 h1 b1 e1 => ?_) _ _ l1
  refine g_iload_n (M := mX4_marked) dX4_marked_4 2 rfl rfl ?_
  refine g_aload_n (M := mX4_marked) dX4_marked_5 0 rfl rfl ?_
  refine k_get (M := mX4_marked) (v := .int (iI (VTa.1 1))) dX4_marked_6 kF_X4_21.r qTa (by omega) (hTa.o) rfl ?_
  obtain ⟨g8, h1⟩ := zgi h1
  refine h_icmp_ge (M := mX4_marked) (tgt := 30) dX4_marked_9 (by decide) g8.1 g8.2 (fun c7 => ?_) (fun c7 => ?_)
  · have h1 := zti c7 h1
    refine g_lv (M := mX4_marked) [1] rfl ?_
    exact r1 _ (e1 _ (Option.some.inj h1).symm)
  · have h1 := zfi (Int.not_le.mpr c7) h1
    refine g_aload_n (M := mX4_marked) dX4_marked_12 0 rfl rfl ?_
    refine k_get (M := mX4_marked) (v := .ref (A (qTa + 1))) dX4_marked_13 kF_X4_9.r qTa (by omega) (hTa.o) rfl ?_
    refine g_iload_n (M := mX4_marked) dX4_marked_16 2 rfl rfl ?_
    obtain ⟨g9, h1⟩ := zgi h1
    refine k_iald (M := mX4_marked) (len := (VTa.1 100).toNat) (f := VTa.2 1) dX4_marked_17 (qTa + 1) (by omega) (hTa.a (d := (10, 100)) 0 rfl) (zDy1 g9.1 g9.2.1 g9.2.2) g9.1 (zDy2 g9.1 g9.2.1) ?_
    obtain ⟨g11, h1⟩ := zgi h1
    refine h_if_eq (M := mX4_marked) (tgt := 24) dX4_marked_18 (by decide) g11 (fun c10 => ?_) (fun c10 => ?_)
    · have h1 := zti c10 h1
      refine h_iinc (M := mX4_marked) (j := 2) (lv' := [(0, .ref (A qTa)), (1, .int (iI s1.1)), (2, .int (iI (s1.2 + 1)))]) dX4_marked_24 rfl (Nat.le_of_ble_eq_true rfl) rfl ?_
      refine g_goto (M := mX4_marked) (tgt := 4) dX4_marked_27 (by decide) ?_
      exact b1 _ (Option.some.inj h1).symm
    · have h1 := zfi c10 h1
      refine h_iinc (M := mX4_marked) (j := 1) (lv' := [(0, .ref (A qTa)), (1, .int (iI (s1.1 + 1))), (2, .int (iI s1.2))]) dX4_marked_21 rfl (Nat.le_of_ble_eq_true rfl) rfl ?_
      refine h_iinc (M := mX4_marked) (j := 2) (lv' := [(0, .ref (A qTa)), (1, .int (iI (s1.1 + 1))), (2, .int (iI (s1.2 + 1)))]) dX4_marked_24 rfl (Nat.le_of_ble_eq_true rfl) rfl ?_
      refine g_goto (M := mX4_marked) (tgt := 4) dX4_marked_27 (by decide) ?_
      exact b1 _ (Option.some.inj h1).symm
set_option maxHeartbeats 4000000 in
set_option maxRecDepth 100000 in
theorem wX4_markedAt {X : zX} (hX : zOK X) {A : Nat → Nat} {n : Nat} {S : Nat → va_E} {qTa : Nat} {VTa : CV} (hTa : isC X A shTa qTa VTa S) (bTa : qTa + 1 < n) {a1 : Int} {res : Int} (h : fX4_markedAt VTa a1 = some res) : Con X yX4_markedAt mX4_markedAt 0 0 0 [.ref (A qTa), .int (iI a1)] (zWs A n S) (zRet (zWs A n S) (some (.int (iI res)))) := by
  refine con_of (lv := [(0, .ref (A qTa)), (1, .int (iI a1))]) (by decide) rfl (fun h => by cases h) rfl (Nat.le_of_ble_eq_true rfl) rfl ?_
  unfold fX4_markedAt at h
  refine h_iconst (M := mX4_markedAt) dX4_markedAt_0 ?_
  refine g_istore_n (M := mX4_markedAt) (lv' := [(0, .ref (A qTa)), (1, .int (iI a1)), (2, .int (iI 0))]) dX4_markedAt_1 rfl (by decide) rfl ?_
  refine h_iconst (M := mX4_markedAt) dX4_markedAt_2 ?_
  refine g_istore_n (M := mX4_markedAt) (lv' := [(0, .ref (A qTa)), (1, .int (iI a1)), (2, .int (iI 0)), (3, .int (iI 0))]) dX4_markedAt_3 rfl (by decide) rfl ?_
  obtain ⟨x1, l1, h⟩ := zbi h
  have r1 : ∀ y1, .inl y1 = x1 → G X mX4_markedAt (zPm X 0 0 0 (zRet (zWs A n S) (some (.int (iI res))))) 0 0 37 [] [] (zWs A n S) := by
    intro y1 ey
    rw [← ey] at h
    have h := zsl h
    refine h_iconst (M := mX4_markedAt) dX4_markedAt_37 ?_
    have e := (Option.some.inj h)
    subst e
    exact g_iret (M := mX4_markedAt) dX4_markedAt_38 rfl (Nat.le_of_ble_eq_true rfl) (Nat.le_of_ble_eq_true rfl) ⟨rfl, rfl⟩
  have q1 : ∀ r, .inr r = x1 → r = res := by
    intro r er
    rw [← er] at h
    exact Option.some.inj h
  refine zLp_J (J := fun s1 => G X mX4_markedAt (zPm X 0 0 0 (zRet (zWs A n S) (some (.int (iI res))))) 0 0 4 [(0, .ref (A qTa)), (1, .int (iI a1)), (2, .int (iI s1.1)), (3, .int (iI s1.2))] [] (zWs A n S)) (fun s1 w1 h1 b1 e1 => ?_) _ _ l1
  refine g_iload_n (M := mX4_markedAt) dX4_markedAt_4 3 rfl rfl ?_
  refine g_aload_n (M := mX4_markedAt) dX4_markedAt_5 0 rfl rfl ?_
  refine k_get (M := mX4_markedAt) (v := .int (iI (VTa.1 1))) dX4_markedAt_6 kF_X4_21.r qTa (by omega) (hTa.o) rfl ?_
  obtain ⟨g10, h1⟩ := zgi h1
  refine h_icmp_ge (M := mX4_markedAt) (tgt := 37) dX4_markedAt_9 (by decide) g10.1 g10.2 (fun c9 => ?_) (fun c9 => ?_)
  · have h1 := zti c9 h1
    refine g_lv (M := mX4_markedAt) [] rfl ?_
    exact r1 _ (e1 _ (Option.some.inj h1).symm)
  · have h1 := zfi (Int.not_le.mpr c9) h1
    refine g_aload_n (M := mX4_markedAt) dX4_markedAt_12 0 rfl rfl ?_
    refine k_get (M := mX4_markedAt) (v := .ref (A (qTa + 1))) dX4_markedAt_13 kF_X4_9.r qTa (by omega) (hTa.o) rfl ?_
    refine g_iload_n (M := mX4_markedAt) dX4_markedAt_16 3 rfl rfl ?_
    obtain ⟨g11, h1⟩ := zgi h1
    refine k_iald (M := mX4_markedAt) (len := (VTa.1 100).toNat) (f := VTa.2 1) dX4_markedAt_17 (qTa + 1) (by omega) (hTa.a (d := (10, 100)) 0 rfl) (zDy1 g11.1 g11.2.1 g11.2.2) g11.1 (zDy2 g11.1 g11.2.1) ?_
    obtain ⟨g13, h1⟩ := zgi h1
    refine h_if_eq (M := mX4_markedAt) (tgt := 31) dX4_markedAt_18 (by decide) g13 (fun c12 => ?_) (fun c12 => ?_)
    · have h1 := zti c12 h1
      refine h_iinc (M := mX4_markedAt) (j := 3) (lv' := [(0, .ref (A qTa)), (1, .int (iI a1)), (2, .int (iI s1.1)), (3, .int (iI (s1.2 + 1)))]) dX4_markedAt_31 rfl (Nat.le_of_ble_eq_true rfl) rfl ?_
      refine g_goto (M := mX4_markedAt) (tgt := 4) dX4_markedAt_34 (by decide) ?_
      exact b1 _ (Option.some.inj h1).symm
    · have h1 := zfi c12 h1
      refine g_iload_n (M := mX4_markedAt) dX4_markedAt_21 2 rfl rfl ?_
      refine g_iload_n (M := mX4_markedAt) dX4_markedAt_22 1 rfl rfl ?_
      obtain ⟨g15, h1⟩ := zgi h1
      refine h_icmp_ne (M := mX4_markedAt) (tgt := 28) dX4_markedAt_23 (by decide) g15.1 g15.2 (fun c14 => ?_) (fun c14 => ?_)
      · have h1 := zfi c14 h1
        refine h_iinc (M := mX4_markedAt) (j := 2) (lv' := [(0, .ref (A qTa)), (1, .int (iI a1)), (2, .int (iI (s1.1 + 1))), (3, .int (iI s1.2))]) dX4_markedAt_28 rfl (Nat.le_of_ble_eq_true rfl) rfl ?_
        refine h_iinc (M := mX4_markedAt) (j := 3) (lv' := [(0, .ref (A qTa)), (1, .int (iI a1)), (2, .int (iI (s1.1 + 1))), (3, .int (iI (s1.2 + 1)))]) dX4_markedAt_31 rfl (Nat.le_of_ble_eq_true rfl) rfl ?_
        refine g_goto (M := mX4_markedAt) (tgt := 4) dX4_markedAt_34 (by decide) ?_
        exact b1 _ (Option.some.inj h1).symm
      · have h1 := zti c14 h1
        refine g_iload_n (M := mX4_markedAt) dX4_markedAt_26 3 rfl rfl ?_
        have e := (q1 _ (e1 _ (Option.some.inj h1).symm))
        subst e
        exact g_iret (M := mX4_markedAt) dX4_markedAt_27 rfl (Nat.le_of_ble_eq_true rfl) (Nat.le_of_ble_eq_true rfl) ⟨rfl, rfl⟩
set_option maxHeartbeats 4000000 in
set_option maxRecDepth 100000 in
theorem wX4_mostMarked {X : zX} (hX : zOK X) {A : Nat → Nat} {n : Nat} {S : Nat → va_E} {qTa : Nat} {VTa : CV} (hTa : isC X A shTa qTa VTa S) (bTa : qTa + 1 < n) {res : Int} (h : fX4_mostMarked VTa = some res) : Con X yX4_mostMarked mX4_mostMarked 0 0 0 [.ref (A qTa)] (zWs A n S) (zRet (zWs A n S) (some (.int (iI res)))) := by
  refine con_of (lv := [(0, .ref (A qTa))]) (by decide) rfl (fun h => by cases h) rfl (Nat.le_of_ble_eq_true rfl) rfl ?_
  unfold fX4_mostMarked at h
  refine h_iconst (M := mX4_mostMarked) dX4_mostMarked_0 ?_
  refine g_istore_n (M := mX4_mostMarked) (lv' := [(0, .ref (A qTa)), (1, .int (iI (-1)))]) dX4_mostMarked_1 rfl (by decide) rfl ?_
  refine h_iconst (M := mX4_mostMarked) dX4_mostMarked_2 ?_
  refine g_istore_n (M := mX4_mostMarked) (lv' := [(0, .ref (A qTa)), (1, .int (iI (-1))), (2, .int (iI 0))]) dX4_mostMarked_3 rfl (by decide) rfl ?_
  refine h_iconst (M := mX4_mostMarked) dX4_mostMarked_4 ?_
  refine g_istore_n (M := mX4_mostMarked) (lv' := [(0, .ref (A qTa)), (1, .int (iI (-1))), (2, .int (iI 0)), (3, .int (iI 0))]) dX4_mostMarked_5 rfl (by decide) rfl ?_
  obtain ⟨x1, l1, h⟩ := zbi h
  have r1 : ∀ y1, y1 = x1 → G X mX4_mostMarked (zPm X 0 0 0 (zRet (zWs A n S) (some (.int (iI res))))) 0 0 39 [(1, .int (iI y1.1))] [] (zWs A n S) := by
    intro y1 ey
    rw [← ey] at h
    refine g_iload_n (M := mX4_mostMarked) dX4_mostMarked_39 0 rfl rfl ?_
    have e := (Option.some.inj h)
    subst e
    exact g_iret (M := mX4_mostMarked) dX4_mostMarked_40 rfl (Nat.le_of_ble_eq_true rfl) (Nat.le_of_ble_eq_true rfl) ⟨rfl, rfl⟩
  refine zLp_J (J := fun s1 => G X mX4_mostMarked (zPm X 0 0 0 (zRet (zWs A n S) (some (.int (iI res))))) 0 0 6 [(0, .ref (A qTa)), (1, .int (iI s1.1)), (2, .int (iI s1.2.1)), (3, .int (iI s1.2.2))] [] (zWs A n S)) (fun s1 w1 h1 b1 e1 => ?_) _ _ l1
  refine g_iload_n (M := mX4_mostMarked) dX4_mostMarked_6 3 rfl rfl ?_
  refine g_aload_n (M := mX4_mostMarked) dX4_mostMarked_7 0 rfl rfl ?_
  refine k_get (M := mX4_mostMarked) (v := .int (iI (VTa.1 1))) dX4_mostMarked_8 kF_X4_21.r qTa (by omega) (hTa.o) rfl ?_
  obtain ⟨g8, h1⟩ := zgi h1
  refine h_icmp_ge (M := mX4_mostMarked) (tgt := 39) dX4_mostMarked_11 (by decide) g8.1 g8.2 (fun c7 => ?_) (fun c7 => ?_)
  · have h1 := zti c7 h1
    refine g_lv (M := mX4_mostMarked) [1] rfl ?_
    exact r1 _ (e1 _ (Option.some.inj h1).symm)
  · have h1 := zfi (Int.not_le.mpr c7) h1
    refine g_aload_n (M := mX4_mostMarked) dX4_mostMarked_14 0 rfl rfl ?_
    refine k_get (M := mX4_mostMarked) (v := .ref (A (qTa + 1))) dX4_mostMarked_15 kF_X4_9.r qTa (by omega) (hTa.o) rfl ?_
    refine g_iload_n (M := mX4_mostMarked) dX4_mostMarked_18 3 rfl rfl ?_
    obtain ⟨g9, h1⟩ := zgi h1
    refine k_iald (M := mX4_mostMarked) (len := (VTa.1 100).toNat) (f := VTa.2 1) dX4_mostMarked_19 (qTa + 1) (by omega) (hTa.a (d := (10, 100)) 0 rfl) (zDy1 g9.1 g9.2.1 g9.2.2) g9.1 (zDy2 g9.1 g9.2.1) ?_
    refine g_iload_n (M := mX4_mostMarked) dX4_mostMarked_20 2 rfl rfl ?_
    obtain ⟨g11, h1⟩ := zgi h1
    refine h_icmp_le (M := mX4_mostMarked) (tgt := 33) dX4_mostMarked_21 (by decide) g11.1 g11.2 (fun c10 => ?_) (fun c10 => ?_)
    · have h1 := zti c10 h1
      refine h_iinc (M := mX4_mostMarked) (j := 3) (lv' := [(0, .ref (A qTa)), (1, .int (iI s1.1)), (2, .int (iI s1.2.1)), (3, .int (iI (s1.2.2 + 1)))]) dX4_mostMarked_33 rfl (Nat.le_of_ble_eq_true rfl) rfl ?_
      refine g_goto (M := mX4_mostMarked) (tgt := 6) dX4_mostMarked_36 (by decide) ?_
      exact b1 _ (Option.some.inj h1).symm
    · have h1 := zfi (Int.not_le.mpr c10) h1
      refine g_iload_n (M := mX4_mostMarked) dX4_mostMarked_24 3 rfl rfl ?_
      refine g_istore_n (M := mX4_mostMarked) (lv' := [(0, .ref (A qTa)), (1, .int (iI s1.2.2)), (2, .int (iI s1.2.1)), (3, .int (iI s1.2.2))]) dX4_mostMarked_25 rfl (by decide) rfl ?_
      refine g_aload_n (M := mX4_mostMarked) dX4_mostMarked_26 0 rfl rfl ?_
      refine k_get (M := mX4_mostMarked) (v := .ref (A (qTa + 1))) dX4_mostMarked_27 kF_X4_9.r qTa (by omega) (hTa.o) rfl ?_
      refine g_iload_n (M := mX4_mostMarked) dX4_mostMarked_30 3 rfl rfl ?_
      refine k_iald (M := mX4_mostMarked) (len := (VTa.1 100).toNat) (f := VTa.2 1) dX4_mostMarked_31 (qTa + 1) (by omega) (hTa.a (d := (10, 100)) 0 rfl) (zDy1 g9.1 g9.2.1 g9.2.2) g9.1 (zDy2 g9.1 g9.2.1) ?_
      refine g_istore_n (M := mX4_mostMarked) (lv' := [(0, .ref (A qTa)), (1, .int (iI s1.2.2)), (2, .int (iI (VTa.2 1 s1.2.2))), (3, .int (iI s1.2.2))]) dX4_mostMarked_32 rfl (by decide) rfl ?_
      refine h_iinc (M := mX4_mostMarked) (j := 3) (lv' := [(0, .ref (A qTa)), (1, .int (iI s1.2.2)), (2, .int (iI (VTa.2 1 s1.2.2))), (3, .int (iI (s1.2.2 + 1)))]) dX4_mostMarked_33 rfl (Nat.le_of_ble_eq_true rfl) rfl ?_
      refine g_goto (M := mX4_mostMarked) (tgt := 6) dX4_mostMarked_36 (by decide) ?_
      exact b1 _ (Option.some.inj h1).symm
set_option maxHeartbeats 4000000 in
set_option maxRecDepth 100000 in
theorem wX4_times {X : zX} (hX : zOK X) {A : Nat → Nat} {n : Nat} {S : Nat → va_E} {qTa : Nat} {VTa : CV} (hTa : isC X A shTa qTa VTa S) (bTa : qTa + 1 < n) {a1 : Int} {res : Int} (h : fX4_times VTa a1 = some res) : Con X yX4_times mX4_times 0 0 0 [.ref (A qTa), .int (iI a1)] (zWs A n S) (zRet (zWs A n S) (some (.int (iI res)))) := by
  refine con_of (lv := [(0, .ref (A qTa)), (1, .int (iI a1))]) (by decide) rfl (fun h => by cases h) rfl (Nat.le_of_ble_eq_true rfl) rfl ?_
  unfold fX4_times at h
  refine g_aload_n (M := mX4_times) dX4_times_0 0 rfl rfl ?_
  refine k_get (M := mX4_times) (v := .ref (A (qTa + 1))) dX4_times_1 kF_X4_9.r qTa (by omega) (hTa.o) rfl ?_
  refine g_iload_n (M := mX4_times) dX4_times_4 1 rfl rfl ?_
  obtain ⟨g1, h⟩ := zgi h
  refine k_iald (M := mX4_times) (len := (VTa.1 100).toNat) (f := VTa.2 1) dX4_times_5 (qTa + 1) (by omega) (hTa.a (d := (10, 100)) 0 rfl) (zDy1 g1.1 g1.2.1 g1.2.2) g1.1 (zDy2 g1.1 g1.2.1) ?_
  have e := (Option.some.inj h)
  subst e
  exact g_iret (M := mX4_times) dX4_times_6 rfl (Nat.le_of_ble_eq_true rfl) (Nat.le_of_ble_eq_true rfl) ⟨rfl, rfl⟩
