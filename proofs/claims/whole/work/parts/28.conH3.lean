set_option maxHeartbeats 4000000 in
set_option maxRecDepth 100000 in
theorem wX7_report {X : zX} (hX : zOK X) {A : Nat → Nat} {n : Nat} {S : Nat → va_E} {σ : CS} (bn : 91 ≤ n) {res : CS × Int} (h : fX7_report σ = some res) : Con X yX7_report mX7_report 2 0 0 [.ref (A 0)] (zWs A n (zSt X A σ S)) (zRA A (fun k => 1 ≤ k ∧ k < 91) (fun A' => (zWs A' n (zSt X A' res.1 S))) (fun A' => .inl (some (.int (iI res.2))))) := by
  refine con_of (lv := [(0, .ref (A 0))]) (by decide) rfl (fun h => by cases h) rfl (Nat.le_of_ble_eq_true rfl) rfl ?_
  unfold fX7_report at h
  refine g_aload_n (M := mX7_report) dX7_report_0 0 rfl rfl ?_
  refine h_iconst (M := mX7_report) dX7_report_1 ?_
  refine g_ws (M := mX7_report) (congrArg (zWs A n) (zSt_c 0 rfl (show σ 0 = (σ 0) from rfl)).symm) ?_
  refine c_put (M := mX7_report) (k := 12) dX7_report_2 kF_X7_387 (by omega) rfl rfl (by decide) rfl rfl ?_
  refine g_ws (M := mX7_report) (congrArg (zWs A n) (zSt_p 0 rfl)) ?_
  refine h_iconst (M := mX7_report) dX7_report_5 ?_
  refine g_istore_n (M := mX7_report) (lv' := [(0, .ref (A 0)), (1, .int (iI 0))]) dX7_report_6 rfl (by decide) rfl ?_
  obtain ⟨x1, l1, h⟩ := zbi h
  have r1 : ∀ y1, y1 = x1 → ∀ (Ar1 : Nat → Nat), (∀ k, ¬ (fun k => 1 ≤ k ∧ k < 91) k → Ar1 k = A k) → G X mX7_report (zPm X 2 0 0 (zRA A (fun k => 1 ≤ k ∧ k < 91) (fun A' => (zWs A' n (zSt X A' res.1 S))) (fun A' => .inl (some (.int (iI res.2)))))) 0 0 97 [(0, .ref (Ar1 0))] [] (zWs Ar1 n (zSt X Ar1 y1.2 S)) := by
    intro y1 ey
    intro Ar1 hAr1
    rw [← ey] at h
    refine g_aload_n (M := mX7_report) dX7_report_97 0 rfl rfl ?_
    refine k_get (M := mX7_report) (v := .int (iI ((y1.2 0).1 12))) dX7_report_98 kF_X7_387.r 0 (by omega) ((zSt_c 0 rfl (show y1.2 0 = (y1.2 0) from rfl))).o rfl ?_
    have e := (Option.some.inj h)
    subst e
    exact g_iret (M := mX7_report) dX7_report_101 rfl (Nat.le_of_ble_eq_true rfl) (Nat.le_of_ble_eq_true rfl) ⟨_, hAr1, rfl, rfl⟩
  refine zLp_J (J := fun s1 => ∀ (Al1 : Nat → Nat), (∀ k, ¬ (fun k => 1 ≤ k ∧ k < 91) k → Al1 k = A k) → G X mX7_report (zPm X 2 0 0 (zRA A (fun k => 1 ≤ k ∧ k < 91) (fun A' => (zWs A' n (zSt X A' res.1 S))) (fun A' => .inl (some (.int (iI res.2)))))) 0 0 7 [(0, .ref (Al1 0)), (1, .int (iI s1.1))] [] (zWs Al1 n (zSt X Al1 s1.2 S))) (fun s1 w1 h1 b1 e1 => ?_) _ _ l1 A (fun _ _ => rfl)
  intro Al1 hAl1
  refine g_iload_n (M := mX7_report) dX7_report_7 1 rfl rfl ?_
  refine g_aload_n (M := mX7_report) dX7_report_8 0 rfl rfl ?_
  refine k_get (M := mX7_report) (v := .ref (Al1 12)) dX7_report_9 kF_X7_33.r 0 (by omega) ((zSt_c 0 rfl (show s1.2 0 = (s1.2 0) from rfl))).o rfl ?_
  refine k_get (M := mX7_report) (v := .int (iI ((s1.2 4).1 3))) dX7_report_12 kF_X7_108.r 12 (by omega) ((zSt_c 4 rfl (show s1.2 4 = (s1.2 4) from rfl))).o rfl ?_
  obtain ⟨g48, h1⟩ := zgi h1
  refine h_icmp_ge (M := mX7_report) (tgt := 97) dX7_report_15 (by decide) g48.1 g48.2 (fun c47 => ?_) (fun c47 => ?_)
  · have h1 := zti c47 h1
    refine g_lv (M := mX7_report) [0] rfl ?_
    exact r1 _ (e1 _ (Option.some.inj h1).symm) Al1 hAl1
  · have h1 := zfi (Int.not_le.mpr c47) h1
    refine g_aload_n (M := mX7_report) dX7_report_18 0 rfl rfl ?_
    refine k_get (M := mX7_report) (v := .ref (Al1 12)) dX7_report_19 kF_X7_33.r 0 (by omega) ((zSt_c 0 rfl (show s1.2 0 = (s1.2 0) from rfl))).o rfl ?_
    refine g_iload_n (M := mX7_report) dX7_report_22 1 rfl rfl ?_
    obtain ⟨t49, u50, h1⟩ := zbi h1
    refine g_callVr (M := mX7_report) [.int (iI s1.1)] hX dX7_report_23 vX0_isOut kM_X7_180 (wX0_isOut hX (zSt_c 4 rfl (show s1.2 4 = (s1.2 4) from rfl)) (by omega)  u50) 12 (zWs_at (by omega) ((zSt_c 4 rfl (show s1.2 4 = (s1.2 4) from rfl))).o) rfl ⟨(Nat.le_of_ble_eq_true rfl), (Nat.le_of_ble_eq_true rfl)⟩ ⟨(Nat.le_of_ble_eq_true rfl), (Nat.le_of_ble_eq_true rfl)⟩ (Nat.le_of_ble_eq_true rfl) ?_
    refine zJn_J (J := fun x56 => ∀ (Aj56 : Nat → Nat), (∀ k, ¬ (fun k => 1 ≤ k ∧ k < 91) k → Aj56 k = A k) → G X mX7_report (zPm X 2 0 0 (zRA A (fun k => 1 ≤ k ∧ k < 91) (fun A' => (zWs A' n (zSt X A' res.1 S))) (fun A' => .inl (some (.int (iI res.2)))))) 0 0 35 [(0, .ref (Aj56 0)), (1, .int (iI s1.1))] [] (zWs Aj56 n (zSt X Aj56 x56 S))) h1 (fun x56 h1 => ?_) (fun j56 h1 => ?_)
    · intro Aj56 hAj56
      refine g_aload_n (M := mX7_report) dX7_report_35 0 rfl rfl ?_
      refine g_aload_n (M := mX7_report) dX7_report_36 0 rfl rfl ?_
      refine k_get (M := mX7_report) (v := .ref (Aj56 12)) dX7_report_37 kF_X7_33.r 0 (by omega) ((zSt_c 0 rfl (show x56 0 = (x56 0) from rfl))).o rfl ?_
      refine k_get (M := mX7_report) (v := .ref (Aj56 (12 + 1))) dX7_report_40 kF_X7_393 12 (by omega) ((zSt_c 4 rfl (show x56 4 = (x56 4) from rfl))).o rfl ?_
      refine g_iload_n (M := mX7_report) dX7_report_43 1 rfl rfl ?_
      obtain ⟨g57, h1⟩ := zgi h1
      refine k_lald (M := mX7_report) (len := 10) (f := (x56 4).2 1) dX7_report_44 (12 + 1) (by omega) (((zSt_c 4 rfl (show x56 4 = (x56 4) from rfl))).a (d := (1, 10)) 0 rfl) (Nat.le_of_ble_eq_true rfl) g57.1 g57.2 ?_
      obtain ⟨t58, u59, h1⟩ := zbi h1
      refine g_callVA (M := mX7_report) [.long (iL (((x56 4).2 1) s1.1))] hX dX7_report_45 vX7_writeName kM_X7_397 (wX7_writeName hX bn  u59) (fun _ => rfl) 0 (zWs_at (by omega) ((zSt_c 0 rfl (show x56 0 = (x56 0) from rfl))).o) rfl ⟨(Nat.le_of_ble_eq_true rfl), (Nat.le_of_ble_eq_true rfl)⟩ ⟨(Nat.le_of_ble_eq_true rfl), (Nat.le_of_ble_eq_true rfl)⟩ (Nat.le_of_ble_eq_true rfl) (fun A60 hnA60 => ?_)
      have hAc61 : ∀ k, ¬ (fun k => 1 ≤ k ∧ k < 91) k → A60 k = A k := fun k hk => (hnA60 k (by omega)).trans (hAj56 k hk)
      refine g_lvc (M := mX7_report) (lv' := [(0, .ref (A60 0)), (1, .int (iI s1.1))]) (by rw [hnA60 0 (by omega)]) ?_
      refine g_aload_n (M := mX7_report) dX7_report_48 0 rfl rfl ?_
      refine h_bipush (M := mX7_report) dX7_report_49 rfl ?_
      obtain ⟨t62, u63, h1⟩ := zbi h1
      refine g_callVA (M := mX7_report) [.int (iI 32)] hX dX7_report_51 vX7_writeByte kM_X7_390 (wX7_writeByte hX bn  u63) (fun _ => rfl) 0 (zWs_at (by omega) ((zSt_c 0 rfl (show t58 0 = (t58 0) from rfl))).o) rfl ⟨(Nat.le_of_ble_eq_true rfl), (Nat.le_of_ble_eq_true rfl)⟩ ⟨(Nat.le_of_ble_eq_true rfl), (Nat.le_of_ble_eq_true rfl)⟩ (Nat.le_of_ble_eq_true rfl) (fun A64 hnA64 => ?_)
      have hAc65 : ∀ k, ¬ (fun k => 1 ≤ k ∧ k < 91) k → A64 k = A k := fun k hk => (hnA64 k (by omega)).trans (hAc61 k hk)
      refine g_lvc (M := mX7_report) (lv' := [(0, .ref (A64 0)), (1, .int (iI s1.1))]) (by rw [hnA64 0 (by omega)]) ?_
      refine h_iconst (M := mX7_report) dX7_report_54 ?_
      refine g_istore_n (M := mX7_report) (lv' := [(0, .ref (A64 0)), (1, .int (iI s1.1)), (2, .int (iI 0))]) dX7_report_55 rfl (by decide) rfl ?_
      obtain ⟨x66, l66, h1⟩ := zbi h1
      have r66 : ∀ y66, y66 = x66 → ∀ (Ar66 : Nat → Nat), (∀ k, ¬ (fun k => 1 ≤ k ∧ k < 91) k → Ar66 k = A k) → G X mX7_report (zPm X 2 0 0 (zRA A (fun k => 1 ≤ k ∧ k < 91) (fun A' => (zWs A' n (zSt X A' res.1 S))) (fun A' => .inl (some (.int (iI res.2)))))) 0 0 85 [(0, .ref (Ar66 0)), (1, .int (iI s1.1))] [] (zWs Ar66 n (zSt X Ar66 y66.2 S)) := by
        intro y66 ey
        intro Ar66 hAr66
        rw [← ey] at h1
        refine g_aload_n (M := mX7_report) dX7_report_85 0 rfl rfl ?_
        refine h_bipush (M := mX7_report) dX7_report_86 rfl ?_
        obtain ⟨t75, u76, h1⟩ := zbi h1
        refine g_callVA (M := mX7_report) [.int (iI 10)] hX dX7_report_88 vX7_writeByte kM_X7_390 (wX7_writeByte hX bn  u76) (fun _ => rfl) 0 (zWs_at (by omega) ((zSt_c 0 rfl (show y66.2 0 = (y66.2 0) from rfl))).o) rfl ⟨(Nat.le_of_ble_eq_true rfl), (Nat.le_of_ble_eq_true rfl)⟩ ⟨(Nat.le_of_ble_eq_true rfl), (Nat.le_of_ble_eq_true rfl)⟩ (Nat.le_of_ble_eq_true rfl) (fun A77 hnA77 => ?_)
        have hAc78 : ∀ k, ¬ (fun k => 1 ≤ k ∧ k < 91) k → A77 k = A k := fun k hk => (hnA77 k (by omega)).trans (hAr66 k hk)
        refine g_lvc (M := mX7_report) (lv' := [(0, .ref (A77 0)), (1, .int (iI s1.1))]) (by rw [hnA77 0 (by omega)]) ?_
        refine h_iinc (M := mX7_report) (j := 1) (lv' := [(0, .ref (A77 0)), (1, .int (iI (s1.1 + 1)))]) dX7_report_91 rfl (Nat.le_of_ble_eq_true rfl) rfl ?_
        refine g_goto (M := mX7_report) (tgt := 7) dX7_report_94 (by decide) ?_
        exact b1 _ (Option.some.inj h1).symm A77 hAc78
      refine zLp_J (J := fun s66 => ∀ (Al66 : Nat → Nat), (∀ k, ¬ (fun k => 1 ≤ k ∧ k < 91) k → Al66 k = A k) → G X mX7_report (zPm X 2 0 0 (zRA A (fun k => 1 ≤ k ∧ k < 91) (fun A' => (zWs A' n (zSt X A' res.1 S))) (fun A' => .inl (some (.int (iI res.2)))))) 0 0 56 [(0, .ref (Al66 0)), (1, .int (iI s1.1)), (2, .int (iI s66.1))] [] (zWs Al66 n (zSt X Al66 s66.2 S))) (fun s66 w66 h66 b66 e66 => ?_) _ _ l66 A64 hAc65
      intro Al66 hAl66
      refine g_iload_n (M := mX7_report) dX7_report_56 2 rfl rfl ?_
      refine g_aload_n (M := mX7_report) dX7_report_57 0 rfl rfl ?_
      refine k_get (M := mX7_report) (v := .ref (Al66 12)) dX7_report_58 kF_X7_33.r 0 (by omega) ((zSt_c 0 rfl (show s66.2 0 = (s66.2 0) from rfl))).o rfl ?_
      refine k_get (M := mX7_report) (v := .ref (Al66 (12 + 3))) dX7_report_61 kF_X7_170 12 (by omega) ((zSt_c 4 rfl (show s66.2 4 = (s66.2 4) from rfl))).o rfl ?_
      refine g_iload_n (M := mX7_report) dX7_report_64 1 rfl rfl ?_
      refine k_iald (M := mX7_report) (len := 10) (f := (s66.2 4).2 3) dX7_report_65 (12 + 3) (by omega) (((zSt_c 4 rfl (show s66.2 4 = (s66.2 4) from rfl))).a (d := (0, 10)) 2 rfl) (Nat.le_of_ble_eq_true rfl) g57.1 g57.2 ?_
      obtain ⟨g80, h66⟩ := zgi h66
      refine h_icmp_ge (M := mX7_report) (tgt := 85) dX7_report_66 (by decide) g80.1 g80.2 (fun c79 => ?_) (fun c79 => ?_)
      · have h66 := zti c79 h66
        refine g_lv (M := mX7_report) [0, 1] rfl ?_
        exact r66 _ (e66 _ (Option.some.inj h66).symm) Al66 hAl66
      · have h66 := zfi (Int.not_le.mpr c79) h66
        refine g_aload_n (M := mX7_report) dX7_report_69 0 rfl rfl ?_
        refine g_aload_n (M := mX7_report) dX7_report_70 0 rfl rfl ?_
        refine g_iload_n (M := mX7_report) dX7_report_71 1 rfl rfl ?_
        refine g_iload_n (M := mX7_report) dX7_report_72 2 rfl rfl ?_
        obtain ⟨t81, u82, h66⟩ := zbi h66
        refine g_callVr (M := mX7_report) [.int (iI s1.1), .int (iI s66.1)] hX dX7_report_73 vX7_signOf kM_X7_401 (wX7_signOf hX bn  u82) 0 (zWs_at (by omega) ((zSt_c 0 rfl (show s66.2 0 = (s66.2 0) from rfl))).o) rfl ⟨(Nat.le_of_ble_eq_true rfl), (Nat.le_of_ble_eq_true rfl)⟩ ⟨(Nat.le_of_ble_eq_true rfl), (Nat.le_of_ble_eq_true rfl)⟩ (Nat.le_of_ble_eq_true rfl) ?_
        obtain ⟨t83, u84, h66⟩ := zbi h66
        refine g_callVA (M := mX7_report) [.int (iI t81)] hX dX7_report_76 vX7_writeByte kM_X7_390 (wX7_writeByte hX bn  u84) (fun _ => rfl) 0 (zWs_at (by omega) ((zSt_c 0 rfl (show s66.2 0 = (s66.2 0) from rfl))).o) rfl ⟨(Nat.le_of_ble_eq_true rfl), (Nat.le_of_ble_eq_true rfl)⟩ ⟨(Nat.le_of_ble_eq_true rfl), (Nat.le_of_ble_eq_true rfl)⟩ (Nat.le_of_ble_eq_true rfl) (fun A85 hnA85 => ?_)
        have hAc86 : ∀ k, ¬ (fun k => 1 ≤ k ∧ k < 91) k → A85 k = A k := fun k hk => (hnA85 k (by omega)).trans (hAl66 k hk)
        refine g_lvc (M := mX7_report) (lv' := [(0, .ref (A85 0)), (1, .int (iI s1.1)), (2, .int (iI s66.1))]) (by rw [hnA85 0 (by omega)]) ?_
        refine h_iinc (M := mX7_report) (j := 2) (lv' := [(0, .ref (A85 0)), (1, .int (iI s1.1)), (2, .int (iI (s66.1 + 1)))]) dX7_report_79 rfl (Nat.le_of_ble_eq_true rfl) rfl ?_
        refine g_goto (M := mX7_report) (tgt := 56) dX7_report_82 (by decide) ?_
        exact b66 _ (Option.some.inj h66).symm A85 hAc86
    · refine h_beq (M := mX7_report) (tgt := 35) dX7_report_26 (by decide) (fun c87 => ?_) (fun c87 => ?_)
      · have h1 := zfi (zbf c87) h1
        exact j56 s1.2 h1 Al1 hAl1
      · have h1 := zti c87 h1
        refine g_aload_n (M := mX7_report) dX7_report_29 0 rfl rfl ?_
        refine h_bipush (M := mX7_report) dX7_report_30 rfl ?_
        obtain ⟨t88, u89, h1⟩ := zbi h1
        refine g_callVA (M := mX7_report) [.int (iI 45)] hX dX7_report_32 vX7_writeByte kM_X7_390 (wX7_writeByte hX bn  u89) (fun _ => rfl) 0 (zWs_at (by omega) ((zSt_c 0 rfl (show s1.2 0 = (s1.2 0) from rfl))).o) rfl ⟨(Nat.le_of_ble_eq_true rfl), (Nat.le_of_ble_eq_true rfl)⟩ ⟨(Nat.le_of_ble_eq_true rfl), (Nat.le_of_ble_eq_true rfl)⟩ (Nat.le_of_ble_eq_true rfl) (fun A90 hnA90 => ?_)
        have hAc91 : ∀ k, ¬ (fun k => 1 ≤ k ∧ k < 91) k → A90 k = A k := fun k hk => (hnA90 k (by omega)).trans (hAl1 k hk)
        refine g_lvc (M := mX7_report) (lv' := [(0, .ref (A90 0)), (1, .int (iI s1.1))]) (by rw [hnA90 0 (by omega)]) ?_
        exact j56 t88 h1 A90 hAc91
set_option maxHeartbeats 4000000 in
set_option maxRecDepth 100000 in
theorem wX7_reportByte {X : zX} (hX : zOK X) {A : Nat → Nat} {n : Nat} {S : Nat → va_E} {σ : CS} (bn : 91 ≤ n) {a1 : Int} {res : (Int ⊕ String)} (h : fX7_reportByte σ a1 = some res) : Con X yX7_reportByte mX7_reportByte 6 1 6 [.ref (A 0), .int (iI a1)] (zWs A n (zSt X A σ S)) (zRx (zWs A n (zSt X A σ S)) (zoI res)) := by
  refine con_of (lv := [(0, .ref (A 0)), (1, .int (iI a1))]) (by decide) rfl (fun h => by cases h) rfl (Nat.le_of_ble_eq_true rfl) rfl ?_
  unfold fX7_reportByte at h
  refine g_iload_n (M := mX7_reportByte) dX7_reportByte_0 1 rfl rfl ?_
  refine zJn_J (J := fun x6 => G X mX7_reportByte (zPm X 6 1 6 (zRx (zWs A n (zSt X A σ S)) (zoI res))) 0 0 12 [] [] (zWs A n (zSt X A σ S))) h (fun x6 h => ?_) (fun j6 h => ?_)
  · have e := (Option.some.inj h)
    subst e
    exact g_throwW (M := mX7_reportByte) hX rfl rfl tT_X7_189_404_193 dX7_reportByte_12 dX7_reportByte_15 dX7_reportByte_16 dX7_reportByte_19 dX7_reportByte_22 (Nat.le_of_ble_eq_true rfl) (Nat.le_of_ble_eq_true rfl) (Nat.le_of_ble_eq_true rfl) (Nat.le_of_ble_eq_true rfl) ⟨rfl, rfl⟩
  · obtain ⟨g8, h⟩ := zgi h
    refine h_if_lt (M := mX7_reportByte) (tgt := 12) dX7_reportByte_1 (by decide) g8 (fun c7 => ?_) (fun c7 => ?_)
    · have h := zti c7 h
      refine g_lv (M := mX7_reportByte) [] rfl ?_
      exact j6 () h
    · have h := zfi (Int.not_lt.mpr c7) h
      refine g_iload_n (M := mX7_reportByte) dX7_reportByte_4 1 rfl rfl ?_
      refine g_aload_n (M := mX7_reportByte) dX7_reportByte_5 0 rfl rfl ?_
      refine k_get (M := mX7_reportByte) (v := .int (iI ((σ 0).1 12))) dX7_reportByte_6 kF_X7_387.r 0 (by omega) ((zSt_c 0 rfl (show σ 0 = (σ 0) from rfl))).o rfl ?_
      obtain ⟨g10, h⟩ := zgi h
      refine h_icmp_lt (M := mX7_reportByte) (tgt := 23) dX7_reportByte_9 (by decide) g8 g10 (fun c9 => ?_) (fun c9 => ?_)
      · have h := zti c9 h
        refine g_aload_n (M := mX7_reportByte) dX7_reportByte_23 0 rfl rfl ?_
        refine k_get (M := mX7_reportByte) (v := .ref (A (0 + 1))) dX7_reportByte_24 kF_X7_71.r 0 (by omega) ((zSt_c 0 rfl (show σ 0 = (σ 0) from rfl))).o rfl ?_
        refine g_iload_n (M := mX7_reportByte) dX7_reportByte_27 1 rfl rfl ?_
        obtain ⟨g11, h⟩ := zgi h
        refine k_bald (M := mX7_reportByte) (len := 410) (f := (σ 0).2 1) dX7_reportByte_28 (0 + 1) (by omega) (((zSt_c 0 rfl (show σ 0 = (σ 0) from rfl))).a (d := (2, 410)) 0 rfl) (Nat.le_of_ble_eq_true rfl) g11.1 g11.2 ?_
        have e := (Option.some.inj h)
        subst e
        exact g_iret (M := mX7_reportByte) dX7_reportByte_29 rfl (Nat.le_of_ble_eq_true rfl) (Nat.le_of_ble_eq_true rfl) ⟨rfl, rfl⟩
      · have h := zfi (Int.not_lt.mpr c9) h
        refine g_lv (M := mX7_reportByte) [] rfl ?_
        exact j6 () h
set_option maxHeartbeats 4000000 in
set_option maxRecDepth 100000 in
theorem wX7_restore {X : zX} (hX : zOK X) {A : Nat → Nat} {n : Nat} {S : Nat → va_E} {σ : CS} (bn : 91 ≤ n) {res : CS × (Int ⊕ String)} (h : fX7_restore σ = some res) : Con X yX7_restore mX7_restore 6 1 6 [.ref (A 0)] (zWs A n (zSt X A σ S)) (zRA A (fun k => 1 ≤ k ∧ k < 91) (fun A' => (zWs A' n (zSt X A' res.1 S))) (fun A' => zoI res.2)) := by
  refine con_of (lv := [(0, .ref (A 0))]) (by decide) rfl (fun h => by cases h) rfl (Nat.le_of_ble_eq_true rfl) rfl ?_
  unfold fX7_restore at h
  refine g_aload_n (M := mX7_restore) dX7_restore_0 0 rfl rfl ?_
  refine k_get (M := mX7_restore) (v := .int (iI ((σ 0).1 14))) dX7_restore_1 kF_X7_406.r 0 (by omega) ((zSt_c 0 rfl (show σ 0 = (σ 0) from rfl))).o rfl ?_
  obtain ⟨g2, h⟩ := zgi h
  refine h_if_ne (M := mX7_restore) (tgt := 18) dX7_restore_4 (by decide) g2 (fun c1 => ?_) (fun c1 => ?_)
  · have h := zfi c1 h
    refine g_aload_n (M := mX7_restore) dX7_restore_18 0 rfl rfl ?_
    refine g_aload_n (M := mX7_restore) dX7_restore_19 0 rfl rfl ?_
    refine k_get (M := mX7_restore) (v := .ref (A 19)) dX7_restore_20 kF_X7_37.r 0 (by omega) ((zSt_c 0 rfl (show σ 0 = (σ 0) from rfl))).o rfl ?_
    obtain ⟨t3, u4, h⟩ := zbi h
    refine g_callVA (M := mX7_restore) [.ref (A 19)] hX dX7_restore_23 vX7_replaceBoard kM_X7_101 (wX7_replaceBoard hX bn (zSt_c 5 rfl (show σ 5 = (σ 5) from rfl)) (by omega) (by omega) u4) (fun _ => rfl) 0 (zWs_at (by omega) ((zSt_c 0 rfl (show σ 0 = (σ 0) from rfl))).o) rfl ⟨(Nat.le_of_ble_eq_true rfl), (Nat.le_of_ble_eq_true rfl)⟩ ⟨(Nat.le_of_ble_eq_true rfl), (Nat.le_of_ble_eq_true rfl)⟩ (Nat.le_of_ble_eq_true rfl) (fun A5 hnA5 => ?_)
    have hAc6 : ∀ k, ¬ (fun k => 1 ≤ k ∧ k < 91) k → A5 k = A k := fun k hk => (hnA5 k (by omega)).trans (rfl)
    refine g_lvc (M := mX7_restore) (lv' := [(0, .ref (A5 0))]) (by rw [hnA5 0 (by omega)]) ?_
    refine g_aload_n (M := mX7_restore) dX7_restore_26 0 rfl rfl ?_
    refine h_iconst (M := mX7_restore) dX7_restore_27 ?_
    refine g_ws (M := mX7_restore) (congrArg (zWs A5 n) (zSt_c 0 rfl (show t3 0 = (t3 0) from rfl)).symm) ?_
    refine c_put (M := mX7_restore) (k := 13) dX7_restore_28 kF_X7_105 (by omega) rfl rfl (by decide) rfl rfl ?_
    refine g_ws (M := mX7_restore) (congrArg (zWs A5 n) (zSt_p 0 rfl)) ?_
    refine g_aload_n (M := mX7_restore) dX7_restore_31 0 rfl rfl ?_
    refine k_get (M := mX7_restore) (v := .ref (A5 12)) dX7_restore_32 kF_X7_33.r 0 (by omega) ((zSt_c 0 rfl (show (zSu t3 0 (zPu (t3 0) 13 0)) 0 = (zPu (t3 0) 13 0) from rfl))).o rfl ?_
    refine k_get (M := mX7_restore) (v := .int (iI ((t3 4).1 3))) dX7_restore_35 kF_X7_108.r 12 (by omega) ((zSt_c 4 rfl (show (zSu t3 0 (zPu (t3 0) 13 0)) 4 = (t3 4) from rfl))).o rfl ?_
    have e := (Option.some.inj h)
    subst e
    exact g_iret (M := mX7_restore) dX7_restore_38 rfl (Nat.le_of_ble_eq_true rfl) (Nat.le_of_ble_eq_true rfl) ⟨_, hAc6, rfl, rfl⟩
  · have h := zti c1 h
    have e := (Option.some.inj h)
    subst e
    exact g_throwW (M := mX7_restore) hX rfl rfl tT_X7_79_410_83 dX7_restore_7 dX7_restore_10 dX7_restore_11 dX7_restore_14 dX7_restore_17 (Nat.le_of_ble_eq_true rfl) (Nat.le_of_ble_eq_true rfl) (Nat.le_of_ble_eq_true rfl) (Nat.le_of_ble_eq_true rfl) ⟨_, (fun _ _ => rfl), rfl, rfl⟩
set_option maxHeartbeats 4000000 in
set_option maxRecDepth 100000 in
theorem wX7_row {X : zX} (hX : zOK X) {A : Nat → Nat} {n : Nat} {S : Nat → va_E} {σ : CS} (bn : 91 ≤ n) {a1 : Int} {a2 : Int} {res : (Int ⊕ String)} (h : fX7_row σ a1 a2 = some res) : Con X yX7_row mX7_row 7 2 12 [.ref (A 0), .int (iI a1), .int (iI a2)] (zWs A n (zSt X A σ S)) (zRx (zWs A n (zSt X A σ S)) (zoI res)) := by
  refine con_of (lv := [(0, .ref (A 0)), (1, .int (iI a1)), (2, .int (iI a2))]) (by decide) rfl (fun h => by cases h) rfl (Nat.le_of_ble_eq_true rfl) rfl ?_
  unfold fX7_row at h
  refine g_aload_n (M := mX7_row) dX7_row_0 0 rfl rfl ?_
  refine g_iload_n (M := mX7_row) dX7_row_1 1 rfl rfl ?_
  obtain ⟨t1, u2, h⟩ := zbi h
  rcases o3 : t1 with vt1 | Et1
  · have h := zslo o3 h
    refine g_callVx (M := mX7_row) [.int (iI a1)] hX dX7_row_2 vX7_requireRow kM_X7_167 (wX7_requireRow hX bn  u2) (congrArg zoV o3) 0 (zWs_at (by omega) ((zSt_c 0 rfl (show σ 0 = (σ 0) from rfl))).o) rfl ⟨(Nat.le_of_ble_eq_true rfl), (Nat.le_of_ble_eq_true rfl)⟩ ⟨(Nat.le_of_ble_eq_true rfl), (Nat.le_of_ble_eq_true rfl)⟩ (Nat.le_of_ble_eq_true rfl) ?_
    refine g_iload_n (M := mX7_row) dX7_row_5 2 rfl rfl ?_
    obtain ⟨g4, h⟩ := zgi h
    by_cases c5 : a2 = 0
    · have h := zti c5 h
      refine g_tableIn (M := mX7_row) (off := 34) (tgt := 40) dX7_row_6 (iI_tlo g4 (by omega)) (iI_thi g4 (by omega)) (iI_tat g4 c5 rfl) (by decide) ?_
      refine g_aload_n (M := mX7_row) dX7_row_40 0 rfl rfl ?_
      refine k_get (M := mX7_row) (v := .ref (A 12)) dX7_row_41 kF_X7_33.r 0 (by omega) ((zSt_c 0 rfl (show σ 0 = (σ 0) from rfl))).o rfl ?_
      refine k_get (M := mX7_row) (v := .ref (A (12 + 3))) dX7_row_44 kF_X7_170 12 (by omega) ((zSt_c 4 rfl (show σ 4 = (σ 4) from rfl))).o rfl ?_
      refine g_iload_n (M := mX7_row) dX7_row_47 1 rfl rfl ?_
      obtain ⟨g6, h⟩ := zgi h
      refine k_iald (M := mX7_row) (len := 10) (f := (σ 4).2 3) dX7_row_48 (12 + 3) (by omega) (((zSt_c 4 rfl (show σ 4 = (σ 4) from rfl))).a (d := (0, 10)) 2 rfl) (Nat.le_of_ble_eq_true rfl) g6.1 g6.2 ?_
      have e := (Option.some.inj h)
      subst e
      exact g_iret (M := mX7_row) dX7_row_49 rfl (Nat.le_of_ble_eq_true rfl) (Nat.le_of_ble_eq_true rfl) ⟨rfl, rfl⟩
    have h := zfi c5 h
    by_cases c7 : a2 = 1
    · have h := zti c7 h
      refine g_tableIn (M := mX7_row) (off := 44) (tgt := 50) dX7_row_6 (iI_tlo g4 (by omega)) (iI_thi g4 (by omega)) (iI_tat g4 c7 rfl) (by decide) ?_
      refine g_aload_n (M := mX7_row) dX7_row_50 0 rfl rfl ?_
      refine k_get (M := mX7_row) (v := .ref (A 12)) dX7_row_51 kF_X7_33.r 0 (by omega) ((zSt_c 0 rfl (show σ 0 = (σ 0) from rfl))).o rfl ?_
      refine g_iload_n (M := mX7_row) dX7_row_54 1 rfl rfl ?_
      obtain ⟨t8, u9, h⟩ := zbi h
      refine g_callVr (M := mX7_row) [.int (iI a1)] hX dX7_row_55 vX0_placesOf kM_X7_174 (wX0_placesOf hX (zSt_c 4 rfl (show σ 4 = (σ 4) from rfl)) (by omega)  u9) 12 (zWs_at (by omega) ((zSt_c 4 rfl (show σ 4 = (σ 4) from rfl))).o) rfl ⟨(Nat.le_of_ble_eq_true rfl), (Nat.le_of_ble_eq_true rfl)⟩ ⟨(Nat.le_of_ble_eq_true rfl), (Nat.le_of_ble_eq_true rfl)⟩ (Nat.le_of_ble_eq_true rfl) ?_
      have e := (Option.some.inj h)
      subst e
      exact g_iret (M := mX7_row) dX7_row_58 rfl (Nat.le_of_ble_eq_true rfl) (Nat.le_of_ble_eq_true rfl) ⟨rfl, rfl⟩
    have h := zfi c7 h
    by_cases c10 : a2 = 2
    · have h := zti c10 h
      refine g_tableIn (M := mX7_row) (off := 53) (tgt := 59) dX7_row_6 (iI_tlo g4 (by omega)) (iI_thi g4 (by omega)) (iI_tat g4 c10 rfl) (by decide) ?_
      refine g_aload_n (M := mX7_row) dX7_row_59 0 rfl rfl ?_
      refine k_get (M := mX7_row) (v := .ref (A 12)) dX7_row_60 kF_X7_33.r 0 (by omega) ((zSt_c 0 rfl (show σ 0 = (σ 0) from rfl))).o rfl ?_
      refine k_get (M := mX7_row) (v := .ref (A (12 + 5))) dX7_row_63 kF_X7_177 12 (by omega) ((zSt_c 4 rfl (show σ 4 = (σ 4) from rfl))).o rfl ?_
      refine g_iload_n (M := mX7_row) dX7_row_66 1 rfl rfl ?_
      obtain ⟨g11, h⟩ := zgi h
      refine k_iald (M := mX7_row) (len := 10) (f := (σ 4).2 5) dX7_row_67 (12 + 5) (by omega) (((zSt_c 4 rfl (show σ 4 = (σ 4) from rfl))).a (d := (0, 10)) 4 rfl) (Nat.le_of_ble_eq_true rfl) g11.1 g11.2 ?_
      have e := (Option.some.inj h)
      subst e
      exact g_iret (M := mX7_row) dX7_row_68 rfl (Nat.le_of_ble_eq_true rfl) (Nat.le_of_ble_eq_true rfl) ⟨rfl, rfl⟩
    have h := zfi c10 h
    by_cases c12 : a2 = 3
    · have h := zti c12 h
      refine g_tableIn (M := mX7_row) (off := 63) (tgt := 69) dX7_row_6 (iI_tlo g4 (by omega)) (iI_thi g4 (by omega)) (iI_tat g4 c12 rfl) (by decide) ?_
      refine g_aload_n (M := mX7_row) dX7_row_69 0 rfl rfl ?_
      refine k_get (M := mX7_row) (v := .ref (A 12)) dX7_row_70 kF_X7_33.r 0 (by omega) ((zSt_c 0 rfl (show σ 0 = (σ 0) from rfl))).o rfl ?_
      refine g_iload_n (M := mX7_row) dX7_row_73 1 rfl rfl ?_
      obtain ⟨t13, u14, h⟩ := zbi h
      refine g_callVr (M := mX7_row) [.int (iI a1)] hX dX7_row_74 vX0_isOut kM_X7_180 (wX0_isOut hX (zSt_c 4 rfl (show σ 4 = (σ 4) from rfl)) (by omega)  u14) 12 (zWs_at (by omega) ((zSt_c 4 rfl (show σ 4 = (σ 4) from rfl))).o) rfl ⟨(Nat.le_of_ble_eq_true rfl), (Nat.le_of_ble_eq_true rfl)⟩ ⟨(Nat.le_of_ble_eq_true rfl), (Nat.le_of_ble_eq_true rfl)⟩ (Nat.le_of_ble_eq_true rfl) ?_
      refine h_beq (M := mX7_row) (tgt := 84) dX7_row_77 (by decide) (fun c15 => ?_) (fun c15 => ?_)
      · have h := zfi (zbf c15) h
        refine h_iconst (M := mX7_row) dX7_row_84 ?_
        have e := (Option.some.inj h)
        subst e
        exact g_iret (M := mX7_row) dX7_row_85 rfl (Nat.le_of_ble_eq_true rfl) (Nat.le_of_ble_eq_true rfl) ⟨rfl, rfl⟩
      · have h := zti c15 h
        refine h_iconst (M := mX7_row) dX7_row_80 ?_
        refine g_goto (M := mX7_row) (tgt := 85) dX7_row_81 (by decide) ?_
        have e := (Option.some.inj h)
        subst e
        exact g_iret (M := mX7_row) dX7_row_85 rfl (Nat.le_of_ble_eq_true rfl) (Nat.le_of_ble_eq_true rfl) ⟨rfl, rfl⟩
    have h := zfi c12 h
    by_cases c16 : a2 = 4
    · have h := zti c16 h
      refine g_tableIn (M := mX7_row) (off := 80) (tgt := 86) dX7_row_6 (iI_tlo g4 (by omega)) (iI_thi g4 (by omega)) (iI_tat g4 c16 rfl) (by decide) ?_
      refine g_aload_n (M := mX7_row) dX7_row_86 0 rfl rfl ?_
      refine k_get (M := mX7_row) (v := .ref (A 12)) dX7_row_87 kF_X7_33.r 0 (by omega) ((zSt_c 0 rfl (show σ 0 = (σ 0) from rfl))).o rfl ?_
      refine k_get (M := mX7_row) (v := .ref (A (12 + 4))) dX7_row_90 kF_X7_184 12 (by omega) ((zSt_c 4 rfl (show σ 4 = (σ 4) from rfl))).o rfl ?_
      refine g_iload_n (M := mX7_row) dX7_row_93 1 rfl rfl ?_
      obtain ⟨g17, h⟩ := zgi h
      refine k_iald (M := mX7_row) (len := 10) (f := (σ 4).2 4) dX7_row_94 (12 + 4) (by omega) (((zSt_c 4 rfl (show σ 4 = (σ 4) from rfl))).a (d := (0, 10)) 3 rfl) (Nat.le_of_ble_eq_true rfl) g17.1 g17.2 ?_
      have e := (Option.some.inj h)
      subst e
      exact g_iret (M := mX7_row) dX7_row_95 rfl (Nat.le_of_ble_eq_true rfl) (Nat.le_of_ble_eq_true rfl) ⟨rfl, rfl⟩
    have h := zfi c16 h
    refine g_tableOut (M := mX7_row) (tgt := 96) dX7_row_6 (iI_tout g4 (by omega)) (by decide) ?_
    have e := (Option.some.inj h)
    subst e
    exact g_throw (M := mX7_row) hX rfl rfl tT_X7_90_187_94 dX7_row_96 dX7_row_99 dX7_row_100 dX7_row_102 dX7_row_105 (Nat.le_of_ble_eq_true rfl) (Nat.le_of_ble_eq_true rfl) (Nat.le_of_ble_eq_true rfl) (Nat.le_of_ble_eq_true rfl) ⟨rfl, rfl⟩
  · have h := zsro o3 h
    have e := (Option.some.inj h)
    subst e
    exact g_callVe (M := mX7_row) [.int (iI a1)] hX dX7_row_2 vX7_requireRow kM_X7_167 (wX7_requireRow hX bn  u2) (congrArg zoV o3) 0 (zWs_at (by omega) ((zSt_c 0 rfl (show σ 0 = (σ 0) from rfl))).o) rfl ⟨(Nat.le_of_ble_eq_true rfl), (Nat.le_of_ble_eq_true rfl)⟩ ⟨(Nat.le_of_ble_eq_true rfl), (Nat.le_of_ble_eq_true rfl)⟩ (Nat.le_of_ble_eq_true rfl) (gx_out rfl (Nat.le_of_ble_eq_true rfl) (Nat.le_of_ble_eq_true rfl) ⟨rfl, rfl⟩)
set_option maxHeartbeats 4000000 in
set_option maxRecDepth 100000 in
theorem wX7_runBetter {X : zX} (hX : zOK X) {A : Nat → Nat} {n : Nat} {S : Nat → va_E} {σ : CS} (bn : 91 ≤ n) {a1 : Int} {res : CS × Bool} (h : fX7_runBetter σ a1 = some res) : Con X yX7_runBetter mX7_runBetter 3 0 0 [.ref (A 0), .int (iI a1)] (zWs A n (zSt X A σ S)) (zRA A (fun k => 1 ≤ k ∧ k < 91) (fun A' => (zWs A' n (zSt X A' res.1 S))) (fun A' => .inl (some (.int (iI (b2 res.2)))))) := by
  refine con_of (lv := [(0, .ref (A 0)), (1, .int (iI a1))]) (by decide) rfl (fun h => by cases h) rfl (Nat.le_of_ble_eq_true rfl) rfl ?_
  unfold fX7_runBetter at h
  refine g_aload_n (M := mX7_runBetter) dX7_runBetter_0 0 rfl rfl ?_
  refine k_get (M := mX7_runBetter) (v := .ref (A 12)) dX7_runBetter_1 kF_X7_33.r 0 (by omega) ((zSt_c 0 rfl (show σ 0 = (σ 0) from rfl))).o rfl ?_
  refine g_iload_n (M := mX7_runBetter) dX7_runBetter_4 1 rfl rfl ?_
  obtain ⟨t1, u2, h⟩ := zbi h
  refine g_callVr (M := mX7_runBetter) [.int (iI a1)] hX dX7_runBetter_5 vX0_isOut kM_X7_180 (wX0_isOut hX (zSt_c 4 rfl (show σ 4 = (σ 4) from rfl)) (by omega)  u2) 12 (zWs_at (by omega) ((zSt_c 4 rfl (show σ 4 = (σ 4) from rfl))).o) rfl ⟨(Nat.le_of_ble_eq_true rfl), (Nat.le_of_ble_eq_true rfl)⟩ ⟨(Nat.le_of_ble_eq_true rfl), (Nat.le_of_ble_eq_true rfl)⟩ (Nat.le_of_ble_eq_true rfl) ?_
  refine zJn_J (J := fun x4 => ∀ (Aj4 : Nat → Nat), (∀ k, ¬ (fun k => 1 ≤ k ∧ k < 91) k → Aj4 k = A k) → G X mX7_runBetter (zPm X 3 0 0 (zRA A (fun k => 1 ≤ k ∧ k < 91) (fun A' => (zWs A' n (zSt X A' res.1 S))) (fun A' => .inl (some (.int (iI (b2 res.2))))))) 0 0 16 [(0, .ref (Aj4 0)), (1, .int (iI a1))] [.int (iI x4)] (zWs Aj4 n (zSt X Aj4 σ S))) h (fun x4 h => ?_) (fun j4 h => ?_)
  · intro Aj4 hAj4
    refine g_istore_n (M := mX7_runBetter) (lv' := [(0, .ref (Aj4 0)), (1, .int (iI a1)), (2, .int (iI x4))]) dX7_runBetter_16 rfl (by decide) rfl ?_
    refine g_iload_n (M := mX7_runBetter) dX7_runBetter_17 2 rfl rfl ?_
    obtain ⟨g6, h⟩ := zgi h
    refine h_if_eq (M := mX7_runBetter) (tgt := 34) dX7_runBetter_18 (by decide) g6 (fun c5 => ?_) (fun c5 => ?_)
    · have h := zti c5 h
      refine g_iload_n (M := mX7_runBetter) dX7_runBetter_34 2 rfl rfl ?_
      obtain ⟨g7, h⟩ := zgi h
      refine h_top (M := mX7_runBetter) (b := b2 (decide (x4 = 1))) (b2_d g7) ?_
      have e := (Option.some.inj h)
      subst e
      exact g_zret (M := mX7_runBetter) .boolean dX7_runBetter_35 rfl (b2_nar _) (Nat.le_of_ble_eq_true rfl) (Nat.le_of_ble_eq_true rfl) ⟨_, hAj4, rfl, rfl⟩
    · have h := zfi c5 h
      refine g_aload_n (M := mX7_runBetter) dX7_runBetter_21 0 rfl rfl ?_
      refine k_get (M := mX7_runBetter) (v := .ref (Aj4 45)) dX7_runBetter_22 kF_X7_60.r 0 (by omega) ((zSt_c 0 rfl (show σ 0 = (σ 0) from rfl))).o rfl ?_
      refine g_aload_n (M := mX7_runBetter) dX7_runBetter_25 0 rfl rfl ?_
      refine k_get (M := mX7_runBetter) (v := .ref (Aj4 12)) dX7_runBetter_26 kF_X7_33.r 0 (by omega) ((zSt_c 0 rfl (show σ 0 = (σ 0) from rfl))).o rfl ?_
      refine g_iload_n (M := mX7_runBetter) dX7_runBetter_29 1 rfl rfl ?_
      obtain ⟨t8, u9, h⟩ := zbi h
      refine g_callVr (M := mX7_runBetter) [.ref (Aj4 12), .int (iI a1)] hX dX7_runBetter_30 vX1_betterRow kM_X7_351 (wX1_betterRow hX (zSt_c 9 rfl (show σ 9 = (σ 9) from rfl)) (by omega) (zSt_c 4 rfl (show σ 4 = (σ 4) from rfl)) (by omega) (by omega) u9) 45 (zWs_at (by omega) ((zSt_c 9 rfl (show σ 9 = (σ 9) from rfl))).o) rfl ⟨(Nat.le_of_ble_eq_true rfl), (Nat.le_of_ble_eq_true rfl)⟩ ⟨(Nat.le_of_ble_eq_true rfl), (Nat.le_of_ble_eq_true rfl)⟩ (Nat.le_of_ble_eq_true rfl) ?_
      refine g_ws (M := mX7_runBetter) (congrArg (fun z => zWs Aj4 n (zC X Aj4 shB 12 t8.2.1 (z))) (zSt_p 9 rfl)) ?_
      refine g_ws (M := mX7_runBetter) (congrArg (fun z => zWs Aj4 n (z)) (zSt_p 4 rfl)) ?_
      refine g_pop (M := mX7_runBetter) dX7_runBetter_33 rfl ?_
      refine g_iload_n (M := mX7_runBetter) dX7_runBetter_34 2 rfl rfl ?_
      obtain ⟨g10, h⟩ := zgi h
      refine h_top (M := mX7_runBetter) (b := b2 (decide (x4 = 1))) (b2_d g10) ?_
      have e := (Option.some.inj h)
      subst e
      exact g_zret (M := mX7_runBetter) .boolean dX7_runBetter_35 rfl (b2_nar _) (Nat.le_of_ble_eq_true rfl) (Nat.le_of_ble_eq_true rfl) ⟨_, hAj4, rfl, rfl⟩
  · refine h_bne (M := mX7_runBetter) (tgt := 15) dX7_runBetter_8 (by decide) (fun c11 => ?_) (fun c11 => ?_)
    · have h := zti c11 h
      refine h_iconst (M := mX7_runBetter) dX7_runBetter_15 ?_
      exact j4 0 h A (fun _ _ => rfl)
    · have h := zfi (zbf c11) h
      refine h_iconst (M := mX7_runBetter) dX7_runBetter_11 ?_
      refine g_goto (M := mX7_runBetter) (tgt := 16) dX7_runBetter_12 (by decide) ?_
      exact j4 1 h A (fun _ _ => rfl)
set_option maxHeartbeats 4000000 in
set_option maxRecDepth 100000 in
theorem wX7_runChanges {X : zX} (hX : zOK X) {A : Nat → Nat} {n : Nat} {S : Nat → va_E} {σ : CS} (bn : 91 ≤ n) {a1 : Int} {res : CS × Bool} (h : fX7_runChanges σ a1 = some res) : Con X yX7_runChanges mX7_runChanges 3 0 0 [.ref (A 0), .int (iI a1)] (zWs A n (zSt X A σ S)) (zRA A (fun k => 1 ≤ k ∧ k < 91) (fun A' => (zWs A' n (zSt X A' res.1 S))) (fun A' => .inl (some (.int (iI (b2 res.2)))))) := by
  refine con_of (lv := [(0, .ref (A 0)), (1, .int (iI a1))]) (by decide) rfl (fun h => by cases h) rfl (Nat.le_of_ble_eq_true rfl) rfl ?_
  unfold fX7_runChanges at h
  refine g_iload_n (M := mX7_runChanges) dX7_runChanges_0 1 rfl rfl ?_
  obtain ⟨t1, u2, h⟩ := zbi h
  refine g_callSr (M := mX7_runChanges) [.int (iI a1)] hX dX7_runChanges_1 vX7_isCountOfChanges kM_X7_379 (wX7_isCountOfChanges hX   u2) rfl ⟨(Nat.le_of_ble_eq_true rfl), (Nat.le_of_ble_eq_true rfl)⟩ ⟨(Nat.le_of_ble_eq_true rfl), (Nat.le_of_ble_eq_true rfl)⟩ (Nat.le_of_ble_eq_true rfl) ?_
  refine g_istore_n (M := mX7_runChanges) (lv' := [(0, .ref (A 0)), (1, .int (iI a1)), (2, .int (iI (b2 t1)))]) dX7_runChanges_4 rfl (by decide) rfl ?_
  refine g_iload_n (M := mX7_runChanges) dX7_runChanges_5 2 rfl rfl ?_
  refine h_beq (M := mX7_runChanges) (tgt := 14) dX7_runChanges_6 (by decide) (fun c3 => ?_) (fun c3 => ?_)
  · have h := zfi (zbf c3) h
    refine g_iload_n (M := mX7_runChanges) dX7_runChanges_14 2 rfl rfl ?_
    have e := (Option.some.inj h)
    subst e
    exact g_zret (M := mX7_runChanges) .boolean dX7_runChanges_15 rfl (b2_nar _) (Nat.le_of_ble_eq_true rfl) (Nat.le_of_ble_eq_true rfl) ⟨_, (fun _ _ => rfl), rfl, rfl⟩
  · have h := zti c3 h
    refine g_aload_n (M := mX7_runChanges) dX7_runChanges_9 0 rfl rfl ?_
    refine g_iload_n (M := mX7_runChanges) dX7_runChanges_10 1 rfl rfl ?_
    obtain ⟨t4, u5, h⟩ := zbi h
    refine g_callVA (M := mX7_runChanges) [.int (iI a1)] hX dX7_runChanges_11 vX7_putChanges kM_X7_384 (wX7_putChanges hX bn  u5) (fun _ => rfl) 0 (zWs_at (by omega) ((zSt_c 0 rfl (show σ 0 = (σ 0) from rfl))).o) rfl ⟨(Nat.le_of_ble_eq_true rfl), (Nat.le_of_ble_eq_true rfl)⟩ ⟨(Nat.le_of_ble_eq_true rfl), (Nat.le_of_ble_eq_true rfl)⟩ (Nat.le_of_ble_eq_true rfl) (fun A6 hnA6 => ?_)
    have hAc7 : ∀ k, ¬ (fun k => 1 ≤ k ∧ k < 91) k → A6 k = A k := fun k hk => (hnA6 k (by omega)).trans (rfl)
    refine g_lvc (M := mX7_runChanges) (lv' := [(0, .ref (A6 0)), (1, .int (iI a1)), (2, .int (iI (b2 t1)))]) (by rw [hnA6 0 (by omega)]) ?_
    refine g_iload_n (M := mX7_runChanges) dX7_runChanges_14 2 rfl rfl ?_
    have e := (Option.some.inj h)
    subst e
    exact g_zret (M := mX7_runChanges) .boolean dX7_runChanges_15 rfl (b2_nar _) (Nat.le_of_ble_eq_true rfl) (Nat.le_of_ble_eq_true rfl) ⟨_, hAc7, rfl, rfl⟩
set_option maxHeartbeats 4000000 in
set_option maxRecDepth 100000 in
theorem wX7_runChoose {X : zX} (hX : zOK X) {A : Nat → Nat} {n : Nat} {S : Nat → va_E} {σ : CS} (bn : 91 ≤ n) {a1 : Int} {a2 : Int} {res : CS × Bool} (h : fX7_runChoose σ a1 a2 = some res) : Con X yX7_runChoose mX7_runChoose 2 0 0 [.ref (A 0), .int (iI a1), .int (iI a2)] (zWs A n (zSt X A σ S)) (zRA A (fun k => 1 ≤ k ∧ k < 91) (fun A' => (zWs A' n (zSt X A' res.1 S))) (fun A' => .inl (some (.int (iI (b2 res.2)))))) := by
  refine con_of (lv := [(0, .ref (A 0)), (1, .int (iI a1)), (2, .int (iI a2))]) (by decide) rfl (fun h => by cases h) rfl (Nat.le_of_ble_eq_true rfl) rfl ?_
  unfold fX7_runChoose at h
  refine g_aload_n (M := mX7_runChoose) dX7_runChoose_0 0 rfl rfl ?_
  refine k_get (M := mX7_runChoose) (v := .ref (A 12)) dX7_runChoose_1 kF_X7_33.r 0 (by omega) ((zSt_c 0 rfl (show σ 0 = (σ 0) from rfl))).o rfl ?_
  refine g_iload_n (M := mX7_runChoose) dX7_runChoose_4 1 rfl rfl ?_
  refine g_iload_n (M := mX7_runChoose) dX7_runChoose_5 2 rfl rfl ?_
  obtain ⟨t1, u2, h⟩ := zbi h
  refine g_callVr (M := mX7_runChoose) [.int (iI a1), .int (iI a2)] hX dX7_runChoose_6 vX0_isPlace kM_X7_198 (wX0_isPlace hX (zSt_c 4 rfl (show σ 4 = (σ 4) from rfl)) (by omega)  u2) 12 (zWs_at (by omega) ((zSt_c 4 rfl (show σ 4 = (σ 4) from rfl))).o) rfl ⟨(Nat.le_of_ble_eq_true rfl), (Nat.le_of_ble_eq_true rfl)⟩ ⟨(Nat.le_of_ble_eq_true rfl), (Nat.le_of_ble_eq_true rfl)⟩ (Nat.le_of_ble_eq_true rfl) ?_
  refine g_istore_n (M := mX7_runChoose) (lv' := [(0, .ref (A 0)), (1, .int (iI a1)), (2, .int (iI a2)), (3, .int (iI (b2 t1)))]) dX7_runChoose_9 rfl (by decide) rfl ?_
  refine g_iload_n (M := mX7_runChoose) dX7_runChoose_10 3 rfl rfl ?_
  refine h_beq (M := mX7_runChoose) (tgt := 24) dX7_runChoose_11 (by decide) (fun c3 => ?_) (fun c3 => ?_)
  · have h := zfi (zbf c3) h
    refine g_iload_n (M := mX7_runChoose) dX7_runChoose_24 3 rfl rfl ?_
    have e := (Option.some.inj h)
    subst e
    exact g_zret (M := mX7_runChoose) .boolean dX7_runChoose_25 rfl (b2_nar _) (Nat.le_of_ble_eq_true rfl) (Nat.le_of_ble_eq_true rfl) ⟨_, (fun _ _ => rfl), rfl, rfl⟩
  · have h := zti c3 h
    refine g_aload_n (M := mX7_runChoose) dX7_runChoose_14 0 rfl rfl ?_
    refine k_get (M := mX7_runChoose) (v := .ref (A 12)) dX7_runChoose_15 kF_X7_33.r 0 (by omega) ((zSt_c 0 rfl (show σ 0 = (σ 0) from rfl))).o rfl ?_
    refine k_get (M := mX7_runChoose) (v := .ref (A (12 + 5))) dX7_runChoose_18 kF_X7_177 12 (by omega) ((zSt_c 4 rfl (show σ 4 = (σ 4) from rfl))).o rfl ?_
    refine g_iload_n (M := mX7_runChoose) dX7_runChoose_21 1 rfl rfl ?_
    refine g_iload_n (M := mX7_runChoose) dX7_runChoose_22 2 rfl rfl ?_
    obtain ⟨g4, h⟩ := zgi h
    refine g_ws (M := mX7_runChoose) (congrArg (zWs A n) (zSt_c 4 rfl (show σ 4 = (σ 4) from rfl)).symm) ?_
    refine c_iast (M := mX7_runChoose) (len := 10) (d := (0, 10)) dX7_runChoose_23 4 rfl rfl (by omega) (Nat.le_of_ble_eq_true rfl) g4.1 g4.2 ?_
    refine g_ws (M := mX7_runChoose) (congrArg (zWs A n) (zSt_p 4 rfl)) ?_
    refine g_iload_n (M := mX7_runChoose) dX7_runChoose_24 3 rfl rfl ?_
    have e := (Option.some.inj h)
    subst e
    exact g_zret (M := mX7_runChoose) .boolean dX7_runChoose_25 rfl (b2_nar _) (Nat.le_of_ble_eq_true rfl) (Nat.le_of_ble_eq_true rfl) ⟨_, (fun _ _ => rfl), rfl, rfl⟩
set_option maxHeartbeats 4000000 in
set_option maxRecDepth 100000 in
theorem wX7_runClear {X : zX} (hX : zOK X) {A : Nat → Nat} {n : Nat} {S : Nat → va_E} {σ : CS} (bn : 91 ≤ n) {a1 : Int} {res : CS × Bool} (h : fX7_runClear σ a1 = some res) : Con X yX7_runClear mX7_runClear 0 0 0 [.ref (A 0), .int (iI a1)] (zWs A n (zSt X A σ S)) (zRA A (fun k => 1 ≤ k ∧ k < 91) (fun A' => (zWs A' n (zSt X A' res.1 S))) (fun A' => .inl (some (.int (iI (b2 res.2)))))) := by
  refine con_of (lv := [(0, .ref (A 0)), (1, .int (iI a1))]) (by decide) rfl (fun h => by cases h) rfl (Nat.le_of_ble_eq_true rfl) rfl ?_
  unfold fX7_runClear at h
  refine g_aload_n (M := mX7_runClear) dX7_runClear_0 0 rfl rfl ?_
  refine k_get (M := mX7_runClear) (v := .ref (A 12)) dX7_runClear_1 kF_X7_33.r 0 (by omega) ((zSt_c 0 rfl (show σ 0 = (σ 0) from rfl))).o rfl ?_
  refine k_get (M := mX7_runClear) (v := .ref (A (12 + 5))) dX7_runClear_4 kF_X7_177 12 (by omega) ((zSt_c 4 rfl (show σ 4 = (σ 4) from rfl))).o rfl ?_
  refine g_iload_n (M := mX7_runClear) dX7_runClear_7 1 rfl rfl ?_
  obtain ⟨g1, h⟩ := zgi h
  refine k_iald (M := mX7_runClear) (len := 10) (f := (σ 4).2 5) dX7_runClear_8 (12 + 5) (by omega) (((zSt_c 4 rfl (show σ 4 = (σ 4) from rfl))).a (d := (0, 10)) 4 rfl) (Nat.le_of_ble_eq_true rfl) g1.1 g1.2 ?_
  refine h_iconst (M := mX7_runClear) dX7_runClear_9 ?_
  obtain ⟨g3, h⟩ := zgi h
  refine h_icmp_eq (M := mX7_runClear) (tgt := 17) dX7_runClear_10 (by decide) g3 (by decide) (fun c2 => ?_) (fun c2 => ?_)
  · have h := zti c2 h
    refine h_iconst (M := mX7_runClear) dX7_runClear_17 ?_
    refine g_istore_n (M := mX7_runClear) (lv' := [(0, .ref (A 0)), (1, .int (iI a1)), (2, .int (iI 0))]) dX7_runClear_18 rfl (by decide) rfl ?_
    refine g_aload_n (M := mX7_runClear) dX7_runClear_19 0 rfl rfl ?_
    refine k_get (M := mX7_runClear) (v := .ref (A 12)) dX7_runClear_20 kF_X7_33.r 0 (by omega) ((zSt_c 0 rfl (show σ 0 = (σ 0) from rfl))).o rfl ?_
    refine k_get (M := mX7_runClear) (v := .ref (A (12 + 5))) dX7_runClear_23 kF_X7_177 12 (by omega) ((zSt_c 4 rfl (show σ 4 = (σ 4) from rfl))).o rfl ?_
    refine g_iload_n (M := mX7_runClear) dX7_runClear_26 1 rfl rfl ?_
    refine h_iconst (M := mX7_runClear) dX7_runClear_27 ?_
    refine g_ws (M := mX7_runClear) (congrArg (zWs A n) (zSt_c 4 rfl (show σ 4 = (σ 4) from rfl)).symm) ?_
    refine c_iast (M := mX7_runClear) (len := 10) (d := (0, 10)) dX7_runClear_28 4 rfl rfl (by omega) (Nat.le_of_ble_eq_true rfl) g1.1 g1.2 ?_
    refine g_ws (M := mX7_runClear) (congrArg (zWs A n) (zSt_p 4 rfl)) ?_
    refine g_iload_n (M := mX7_runClear) dX7_runClear_29 2 rfl rfl ?_
    have e := (Option.some.inj h)
    subst e
    exact g_zret (M := mX7_runClear) .boolean dX7_runClear_30 rfl rfl (Nat.le_of_ble_eq_true rfl) (Nat.le_of_ble_eq_true rfl) ⟨_, (fun _ _ => rfl), rfl, rfl⟩
  · have h := zfi c2 h
    refine h_iconst (M := mX7_runClear) dX7_runClear_13 ?_
    refine g_goto (M := mX7_runClear) (tgt := 18) dX7_runClear_14 (by decide) ?_
    refine g_istore_n (M := mX7_runClear) (lv' := [(0, .ref (A 0)), (1, .int (iI a1)), (2, .int (iI 1))]) dX7_runClear_18 rfl (by decide) rfl ?_
    refine g_aload_n (M := mX7_runClear) dX7_runClear_19 0 rfl rfl ?_
    refine k_get (M := mX7_runClear) (v := .ref (A 12)) dX7_runClear_20 kF_X7_33.r 0 (by omega) ((zSt_c 0 rfl (show σ 0 = (σ 0) from rfl))).o rfl ?_
    refine k_get (M := mX7_runClear) (v := .ref (A (12 + 5))) dX7_runClear_23 kF_X7_177 12 (by omega) ((zSt_c 4 rfl (show σ 4 = (σ 4) from rfl))).o rfl ?_
    refine g_iload_n (M := mX7_runClear) dX7_runClear_26 1 rfl rfl ?_
    refine h_iconst (M := mX7_runClear) dX7_runClear_27 ?_
    refine g_ws (M := mX7_runClear) (congrArg (zWs A n) (zSt_c 4 rfl (show σ 4 = (σ 4) from rfl)).symm) ?_
    refine c_iast (M := mX7_runClear) (len := 10) (d := (0, 10)) dX7_runClear_28 4 rfl rfl (by omega) (Nat.le_of_ble_eq_true rfl) g1.1 g1.2 ?_
    refine g_ws (M := mX7_runClear) (congrArg (zWs A n) (zSt_p 4 rfl)) ?_
    refine g_iload_n (M := mX7_runClear) dX7_runClear_29 2 rfl rfl ?_
    have e := (Option.some.inj h)
    subst e
    exact g_zret (M := mX7_runClear) .boolean dX7_runClear_30 rfl rfl (Nat.le_of_ble_eq_true rfl) (Nat.le_of_ble_eq_true rfl) ⟨_, (fun _ _ => rfl), rfl, rfl⟩
set_option maxHeartbeats 4000000 in
set_option maxRecDepth 100000 in
theorem wX7_runOut {X : zX} (hX : zOK X) {A : Nat → Nat} {n : Nat} {S : Nat → va_E} {σ : CS} (bn : 91 ≤ n) {a1 : Int} {a2 : Int} {res : CS × Bool} (h : fX7_runOut σ a1 a2 = some res) : Con X yX7_runOut mX7_runOut 3 0 0 [.ref (A 0), .int (iI a1), .int (iI a2)] (zWs A n (zSt X A σ S)) (zRA A (fun k => 1 ≤ k ∧ k < 91) (fun A' => (zWs A' n (zSt X A' res.1 S))) (fun A' => .inl (some (.int (iI (b2 res.2)))))) := by
  refine con_of (lv := [(0, .ref (A 0)), (1, .int (iI a1)), (2, .int (iI a2))]) (by decide) rfl (fun h => by cases h) rfl (Nat.le_of_ble_eq_true rfl) rfl ?_
  unfold fX7_runOut at h
  refine g_aload_n (M := mX7_runOut) dX7_runOut_0 0 rfl rfl ?_
  refine k_get (M := mX7_runOut) (v := .ref (A 12)) dX7_runOut_1 kF_X7_33.r 0 (by omega) ((zSt_c 0 rfl (show σ 0 = (σ 0) from rfl))).o rfl ?_
  refine g_iload_n (M := mX7_runOut) dX7_runOut_4 1 rfl rfl ?_
  obtain ⟨t1, u2, h⟩ := zbi h
  refine g_callVr (M := mX7_runOut) [.int (iI a1)] hX dX7_runOut_5 vX0_isOut kM_X7_180 (wX0_isOut hX (zSt_c 4 rfl (show σ 4 = (σ 4) from rfl)) (by omega)  u2) 12 (zWs_at (by omega) ((zSt_c 4 rfl (show σ 4 = (σ 4) from rfl))).o) rfl ⟨(Nat.le_of_ble_eq_true rfl), (Nat.le_of_ble_eq_true rfl)⟩ ⟨(Nat.le_of_ble_eq_true rfl), (Nat.le_of_ble_eq_true rfl)⟩ (Nat.le_of_ble_eq_true rfl) ?_
  refine g_iload_n (M := mX7_runOut) dX7_runOut_8 2 rfl rfl ?_
  refine zJn_J (J := fun x5 => ∀ (Aj5 : Nat → Nat), (∀ k, ¬ (fun k => 1 ≤ k ∧ k < 91) k → Aj5 k = A k) → G X mX7_runOut (zPm X 3 0 0 (zRA A (fun k => 1 ≤ k ∧ k < 91) (fun A' => (zWs A' n (zSt X A' res.1 S))) (fun A' => .inl (some (.int (iI (b2 res.2))))))) 0 0 17 [(0, .ref (Aj5 0)), (1, .int (iI a1)), (2, .int (iI a2))] [.int (iI x5)] (zWs Aj5 n (zSt X Aj5 σ S))) h (fun x5 h => ?_) (fun j5 h => ?_)
  · intro Aj5 hAj5
    refine g_istore_n (M := mX7_runOut) (lv' := [(0, .ref (Aj5 0)), (1, .int (iI a1)), (2, .int (iI a2)), (3, .int (iI x5))]) dX7_runOut_17 rfl (by decide) rfl ?_
    refine g_iload_n (M := mX7_runOut) dX7_runOut_18 3 rfl rfl ?_
    obtain ⟨g7, h⟩ := zgi h
    refine h_if_eq (M := mX7_runOut) (tgt := 28) dX7_runOut_19 (by decide) g7 (fun c6 => ?_) (fun c6 => ?_)
    · have h := zti c6 h
      refine g_iload_n (M := mX7_runOut) dX7_runOut_28 3 rfl rfl ?_
      obtain ⟨g8, h⟩ := zgi h
      refine h_top (M := mX7_runOut) (b := b2 (decide (x5 = 1))) (b2_d g8) ?_
      have e := (Option.some.inj h)
      subst e
      exact g_zret (M := mX7_runOut) .boolean dX7_runOut_29 rfl (b2_nar _) (Nat.le_of_ble_eq_true rfl) (Nat.le_of_ble_eq_true rfl) ⟨_, hAj5, rfl, rfl⟩
    · have h := zfi c6 h
      refine g_aload_n (M := mX7_runOut) dX7_runOut_22 0 rfl rfl ?_
      refine g_iload_n (M := mX7_runOut) dX7_runOut_23 1 rfl rfl ?_
      refine g_iload_n (M := mX7_runOut) dX7_runOut_24 2 rfl rfl ?_
      obtain ⟨t9, u10, h⟩ := zbi h
      refine g_callVA (M := mX7_runOut) [.int (iI a1), .int (iI a2)] hX dX7_runOut_25 vX7_putOut kM_X7_375 (wX7_putOut hX bn  u10) (fun _ => rfl) 0 (zWs_at (by omega) ((zSt_c 0 rfl (show σ 0 = (σ 0) from rfl))).o) rfl ⟨(Nat.le_of_ble_eq_true rfl), (Nat.le_of_ble_eq_true rfl)⟩ ⟨(Nat.le_of_ble_eq_true rfl), (Nat.le_of_ble_eq_true rfl)⟩ (Nat.le_of_ble_eq_true rfl) (fun A11 hnA11 => ?_)
      have hAc12 : ∀ k, ¬ (fun k => 1 ≤ k ∧ k < 91) k → A11 k = A k := fun k hk => (hnA11 k (by omega)).trans (hAj5 k hk)
      refine g_lvc (M := mX7_runOut) (lv' := [(0, .ref (A11 0)), (1, .int (iI a1)), (2, .int (iI a2)), (3, .int (iI x5))]) (by rw [hnA11 0 (by omega)]) ?_
      refine g_iload_n (M := mX7_runOut) dX7_runOut_28 3 rfl rfl ?_
      obtain ⟨g13, h⟩ := zgi h
      refine h_top (M := mX7_runOut) (b := b2 (decide (x5 = 1))) (b2_d g13) ?_
      have e := (Option.some.inj h)
      subst e
      exact g_zret (M := mX7_runOut) .boolean dX7_runOut_29 rfl (b2_nar _) (Nat.le_of_ble_eq_true rfl) (Nat.le_of_ble_eq_true rfl) ⟨_, hAc12, rfl, rfl⟩
  · obtain ⟨g15, h⟩ := zgi h
    refine h_icmp_eq (M := mX7_runOut) (tgt := 16) dX7_runOut_9 (by decide) (b2_r _) g15 (fun c14 => ?_) (fun c14 => ?_)
    · have h := zti c14 h
      refine h_iconst (M := mX7_runOut) dX7_runOut_16 ?_
      exact j5 0 h A (fun _ _ => rfl)
    · have h := zfi c14 h
      refine h_iconst (M := mX7_runOut) dX7_runOut_12 ?_
      refine g_goto (M := mX7_runOut) (tgt := 17) dX7_runOut_13 (by decide) ?_
      exact j5 1 h A (fun _ _ => rfl)
set_option maxHeartbeats 4000000 in
set_option maxRecDepth 100000 in
theorem wX7_save {X : zX} (hX : zOK X) {A : Nat → Nat} {n : Nat} {S : Nat → va_E} {σ : CS} (bn : 91 ≤ n) {res : CS × Int} (h : fX7_save σ = some res) : Con X yX7_save mX7_save 1 0 0 [.ref (A 0)] (zWs A n (zSt X A σ S)) (zRA A (fun k => 1 ≤ k ∧ k < 91) (fun A' => (zWs A' n (zSt X A' res.1 S))) (fun A' => .inl (some (.int (iI res.2))))) := by
  refine con_of (lv := [(0, .ref (A 0))]) (by decide) rfl (fun h => by cases h) rfl (Nat.le_of_ble_eq_true rfl) rfl ?_
  unfold fX7_save at h
  refine g_aload_n (M := mX7_save) dX7_save_0 0 rfl rfl ?_
  refine k_get (M := mX7_save) (v := .ref (A 19)) dX7_save_1 kF_X7_37.r 0 (by omega) ((zSt_c 0 rfl (show σ 0 = (σ 0) from rfl))).o rfl ?_
  refine g_aload_n (M := mX7_save) dX7_save_4 0 rfl rfl ?_
  refine k_get (M := mX7_save) (v := .ref (A 12)) dX7_save_5 kF_X7_33.r 0 (by omega) ((zSt_c 0 rfl (show σ 0 = (σ 0) from rfl))).o rfl ?_
  obtain ⟨t1, u2, h⟩ := zbi h
  refine g_callVr (M := mX7_save) [.ref (A 12)] hX dX7_save_8 vX0_copyFrom kM_X7_305 (wX0_copyFrom hX (zSt_c 5 rfl (show σ 5 = (σ 5) from rfl)) (by omega) (zSt_c 4 rfl (show σ 4 = (σ 4) from rfl)) (by omega) (by omega) u2) 19 (zWs_at (by omega) ((zSt_c 5 rfl (show σ 5 = (σ 5) from rfl))).o) rfl ⟨(Nat.le_of_ble_eq_true rfl), (Nat.le_of_ble_eq_true rfl)⟩ ⟨(Nat.le_of_ble_eq_true rfl), (Nat.le_of_ble_eq_true rfl)⟩ (Nat.le_of_ble_eq_true rfl) ?_
  refine g_ws (M := mX7_save) (congrArg (fun z => zWs A n (z)) (zSt_p 5 rfl)) ?_
  refine g_aload_n (M := mX7_save) dX7_save_11 0 rfl rfl ?_
  refine h_iconst (M := mX7_save) dX7_save_12 ?_
  refine g_ws (M := mX7_save) (congrArg (zWs A n) (zSt_c 0 rfl (show (zSu σ 5 t1) 0 = (σ 0) from rfl)).symm) ?_
  refine c_put (M := mX7_save) (k := 14) dX7_save_13 kF_X7_406 (by omega) rfl rfl (by decide) rfl rfl ?_
  refine g_ws (M := mX7_save) (congrArg (zWs A n) (zSt_p 0 rfl)) ?_
  refine g_aload_n (M := mX7_save) dX7_save_16 0 rfl rfl ?_
  refine k_get (M := mX7_save) (v := .ref (A 12)) dX7_save_17 kF_X7_33.r 0 (by omega) ((zSt_c 0 rfl (show (zSu (zSu σ 5 t1) 0 (zPu (σ 0) 14 1)) 0 = (zPu (σ 0) 14 1) from rfl))).o rfl ?_
  refine k_get (M := mX7_save) (v := .int (iI ((σ 4).1 3))) dX7_save_20 kF_X7_108.r 12 (by omega) ((zSt_c 4 rfl (show (zSu (zSu σ 5 t1) 0 (zPu (σ 0) 14 1)) 4 = (σ 4) from rfl))).o rfl ?_
  have e := (Option.some.inj h)
  subst e
  exact g_iret (M := mX7_save) dX7_save_23 rfl (Nat.le_of_ble_eq_true rfl) (Nat.le_of_ble_eq_true rfl) ⟨_, (fun _ _ => rfl), rfl, rfl⟩
set_option maxHeartbeats 4000000 in
set_option maxRecDepth 100000 in
theorem wX7_score {X : zX} (hX : zOK X) {A : Nat → Nat} {n : Nat} {S : Nat → va_E} {σ : CS} (bn : 91 ≤ n) {a1 : Int} {res : (Int ⊕ String)} (h : fX7_score σ a1 = some res) : Con X yX7_score mX7_score 7 1 6 [.ref (A 0), .int (iI a1)] (zWs A n (zSt X A σ S)) (zRx (zWs A n (zSt X A σ S)) (zoI res)) := by
  refine con_of (lv := [(0, .ref (A 0)), (1, .int (iI a1))]) (by decide) rfl (fun h => by cases h) rfl (Nat.le_of_ble_eq_true rfl) rfl ?_
  unfold fX7_score at h
  refine g_aload_n (M := mX7_score) dX7_score_0 0 rfl rfl ?_
  refine g_iload_n (M := mX7_score) dX7_score_1 1 rfl rfl ?_
  obtain ⟨t1, u2, h⟩ := zbi h
  rcases o3 : t1 with vt1 | Et1
  · have h := zslo o3 h
    refine g_callVx (M := mX7_score) [.int (iI a1)] hX dX7_score_2 vX7_requireWord kM_X7_208 (wX7_requireWord hX bn  u2) (congrArg zoV o3) 0 (zWs_at (by omega) ((zSt_c 0 rfl (show σ 0 = (σ 0) from rfl))).o) rfl ⟨(Nat.le_of_ble_eq_true rfl), (Nat.le_of_ble_eq_true rfl)⟩ ⟨(Nat.le_of_ble_eq_true rfl), (Nat.le_of_ble_eq_true rfl)⟩ (Nat.le_of_ble_eq_true rfl) ?_
    refine g_aload_n (M := mX7_score) dX7_score_5 0 rfl rfl ?_
    refine k_get (M := mX7_score) (v := .ref (A 12)) dX7_score_6 kF_X7_33.r 0 (by omega) ((zSt_c 0 rfl (show σ 0 = (σ 0) from rfl))).o rfl ?_
    refine g_aload_n (M := mX7_score) dX7_score_9 0 rfl rfl ?_
    refine k_get (M := mX7_score) (v := .ref (A 12)) dX7_score_10 kF_X7_33.r 0 (by omega) ((zSt_c 0 rfl (show σ 0 = (σ 0) from rfl))).o rfl ?_
    refine g_iload_n (M := mX7_score) dX7_score_13 1 rfl rfl ?_
    obtain ⟨t4, u5, h⟩ := zbi h
    refine g_callVr (M := mX7_score) [.int (iI a1)] hX dX7_score_14 vX0_codeOf kM_X7_211 (wX0_codeOf hX (zSt_c 4 rfl (show σ 4 = (σ 4) from rfl)) (by omega)  u5) 12 (zWs_at (by omega) ((zSt_c 4 rfl (show σ 4 = (σ 4) from rfl))).o) rfl ⟨(Nat.le_of_ble_eq_true rfl), (Nat.le_of_ble_eq_true rfl)⟩ ⟨(Nat.le_of_ble_eq_true rfl), (Nat.le_of_ble_eq_true rfl)⟩ (Nat.le_of_ble_eq_true rfl) ?_
    refine g_aload_n (M := mX7_score) dX7_score_17 0 rfl rfl ?_
    refine k_get (M := mX7_score) (v := .ref (A 12)) dX7_score_18 kF_X7_33.r 0 (by omega) ((zSt_c 0 rfl (show σ 0 = (σ 0) from rfl))).o rfl ?_
    refine k_get (M := mX7_score) (v := .int (iI ((σ 4).1 1))) dX7_score_21 kF_X7_134.r 12 (by omega) ((zSt_c 4 rfl (show σ 4 = (σ 4) from rfl))).o rfl ?_
    obtain ⟨t6, u7, h⟩ := zbi h
    refine g_callVr (M := mX7_score) [.int (iI t4), .int (iI ((σ 4).1 1))] hX dX7_score_24 vX0_boundOf kM_X7_221 (wX0_boundOf hX (zSt_c 4 rfl (show σ 4 = (σ 4) from rfl)) (by omega)  u7) 12 (zWs_at (by omega) ((zSt_c 4 rfl (show σ 4 = (σ 4) from rfl))).o) rfl ⟨(Nat.le_of_ble_eq_true rfl), (Nat.le_of_ble_eq_true rfl)⟩ ⟨(Nat.le_of_ble_eq_true rfl), (Nat.le_of_ble_eq_true rfl)⟩ (Nat.le_of_ble_eq_true rfl) ?_
    have e := (Option.some.inj h)
    subst e
    exact g_iret (M := mX7_score) dX7_score_27 rfl (Nat.le_of_ble_eq_true rfl) (Nat.le_of_ble_eq_true rfl) ⟨rfl, rfl⟩
  · have h := zsro o3 h
    have e := (Option.some.inj h)
    subst e
    exact g_callVe (M := mX7_score) [.int (iI a1)] hX dX7_score_2 vX7_requireWord kM_X7_208 (wX7_requireWord hX bn  u2) (congrArg zoV o3) 0 (zWs_at (by omega) ((zSt_c 0 rfl (show σ 0 = (σ 0) from rfl))).o) rfl ⟨(Nat.le_of_ble_eq_true rfl), (Nat.le_of_ble_eq_true rfl)⟩ ⟨(Nat.le_of_ble_eq_true rfl), (Nat.le_of_ble_eq_true rfl)⟩ (Nat.le_of_ble_eq_true rfl) (gx_out rfl (Nat.le_of_ble_eq_true rfl) (Nat.le_of_ble_eq_true rfl) ⟨rfl, rfl⟩)
set_option maxHeartbeats 4000000 in
set_option maxRecDepth 100000 in
theorem wX7_scoreWithout {X : zX} (hX : zOK X) {A : Nat → Nat} {n : Nat} {S : Nat → va_E} {σ : CS} (bn : 91 ≤ n) {a1 : Int} {res : CS × (Int ⊕ String)} (h : fX7_scoreWithout σ a1 = some res) : Con X yX7_scoreWithout mX7_scoreWithout 9 (2 + 3 * zNd (σ 7) (σ 4)) (12 + 13652 * zNd (σ 7) (σ 4)) [.ref (A 0), .int (iI a1)] (zWs A n (zSt X A σ S)) (zRA A (fun k => 1 ≤ k ∧ k < 91) (fun A' => (zWs A' n (zSt X A' res.1 S))) (fun A' => zoI res.2)) := by
  refine con_of (lv := [(0, .ref (A 0)), (1, .int (iI a1))]) (by decide) rfl (fun h => by cases h) rfl (Nat.le_of_ble_eq_true rfl) rfl ?_
  unfold fX7_scoreWithout at h
  refine g_aload_n (M := mX7_scoreWithout) dX7_scoreWithout_0 0 rfl rfl ?_
  refine g_iload_n (M := mX7_scoreWithout) dX7_scoreWithout_1 1 rfl rfl ?_
  obtain ⟨t1, u2, h⟩ := zbi h
  rcases o3 : t1 with vt1 | Et1
  · have h := zslo o3 h
    refine g_callVx (M := mX7_scoreWithout) [.int (iI a1)] hX dX7_scoreWithout_2 vX7_requireRow kM_X7_167 (wX7_requireRow hX bn  u2) (congrArg zoV o3) 0 (zWs_at (by omega) ((zSt_c 0 rfl (show σ 0 = (σ 0) from rfl))).o) rfl ⟨(Nat.le_of_ble_eq_true rfl), (Nat.le_of_ble_eq_true rfl)⟩ ⟨(show 0 + 1 ≤ 2 + 3 * zNd (σ 7) (σ 4) by omega), (show 0 + 6 ≤ 12 + 13652 * zNd (σ 7) (σ 4) by omega)⟩ (Nat.le_of_ble_eq_true rfl) ?_
    refine g_aload_n (M := mX7_scoreWithout) dX7_scoreWithout_5 0 rfl rfl ?_
    refine k_get (M := mX7_scoreWithout) (v := .ref (A 12)) dX7_scoreWithout_6 kF_X7_33.r 0 (by omega) ((zSt_c 0 rfl (show σ 0 = (σ 0) from rfl))).o rfl ?_
    refine g_iload_n (M := mX7_scoreWithout) dX7_scoreWithout_9 1 rfl rfl ?_
    obtain ⟨t4, u5, h⟩ := zbi h
    refine g_callVr (M := mX7_scoreWithout) [.int (iI a1)] hX dX7_scoreWithout_10 vX0_isOut kM_X7_180 (wX0_isOut hX (zSt_c 4 rfl (show σ 4 = (σ 4) from rfl)) (by omega)  u5) 12 (zWs_at (by omega) ((zSt_c 4 rfl (show σ 4 = (σ 4) from rfl))).o) rfl ⟨(Nat.le_of_ble_eq_true rfl), (Nat.le_of_ble_eq_true rfl)⟩ ⟨(show 1 + 0 ≤ 2 + 3 * zNd (σ 7) (σ 4) by omega), (show 6 + 0 ≤ 12 + 13652 * zNd (σ 7) (σ 4) by omega)⟩ (Nat.le_of_ble_eq_true rfl) ?_
    refine h_beq (M := mX7_scoreWithout) (tgt := 26) dX7_scoreWithout_13 (by decide) (fun c6 => ?_) (fun c6 => ?_)
    · have h := zfi (zbf c6) h
      refine g_aload_n (M := mX7_scoreWithout) dX7_scoreWithout_26 0 rfl rfl ?_
      obtain ⟨g7, h⟩ := zgi h
      obtain ⟨t8, u9, h⟩ := zbi h
      refine g_callVA (M := mX7_scoreWithout) [] hX dX7_scoreWithout_27 vX7_searched kM_X7_267 (wX7_searched hX bn  u9) (fun _ => rfl) 0 (zWs_at (by omega) ((zSt_c 0 rfl (show σ 0 = (σ 0) from rfl))).o) rfl ⟨(Nat.le_of_ble_eq_true rfl), (Nat.le_of_ble_eq_true rfl)⟩ ⟨g7.1, g7.2⟩ (Nat.le_of_ble_eq_true rfl) (fun A10 hnA10 => ?_)
      have hAc11 : ∀ k, ¬ (fun k => 1 ≤ k ∧ k < 91) k → A10 k = A k := fun k hk => (hnA10 k (by omega)).trans (rfl)
      refine g_lvc (M := mX7_scoreWithout) (lv' := [(0, .ref (A10 0)), (1, .int (iI a1))]) (by rw [hnA10 0 (by omega)]) ?_
      refine g_aload_n (M := mX7_scoreWithout) dX7_scoreWithout_30 0 rfl rfl ?_
      refine k_get (M := mX7_scoreWithout) (v := .ref (A10 12)) dX7_scoreWithout_31 kF_X7_33.r 0 (by omega) ((zSt_c 0 rfl (show t8 0 = (t8 0) from rfl))).o rfl ?_
      refine g_iload_n (M := mX7_scoreWithout) dX7_scoreWithout_34 1 rfl rfl ?_
      obtain ⟨t12, u13, h⟩ := zbi h
      refine g_callVr (M := mX7_scoreWithout) [.ref (A10 12), .int (iI a1)] hX dX7_scoreWithout_35 vX3_bestScoreWithout kM_X7_292 (wX3_bestScoreWithout hX (zSt_c 7 rfl (show t8 7 = (t8 7) from rfl)) (by omega) (zSt_c 4 rfl (show t8 4 = (t8 4) from rfl)) (by omega) (by omega) u13) 33 (zWs_at (by omega) ((zSt_c 7 rfl (show t8 7 = (t8 7) from rfl))).o) rfl ⟨(Nat.le_of_ble_eq_true rfl), (Nat.le_of_ble_eq_true rfl)⟩ ⟨(show 1 + (3 * zNd (σ 7) (σ 4)) + 0 ≤ 2 + 3 * zNd (σ 7) (σ 4) by omega), (show 6 + (13652 * zNd (σ 7) (σ 4)) + 0 ≤ 12 + 13652 * zNd (σ 7) (σ 4) by omega)⟩ (Nat.le_of_ble_eq_true rfl) ?_
      refine g_ws (M := mX7_scoreWithout) (congrArg (fun z => zWs A10 n (z)) (zSt_p 7 rfl)) ?_
      have e := (Option.some.inj h)
      subst e
      exact g_iret (M := mX7_scoreWithout) dX7_scoreWithout_38 rfl (by simpa using g7.1) (by simpa using g7.2) ⟨_, hAc11, rfl, rfl⟩
    · have h := zti c6 h
      refine g_aload_n (M := mX7_scoreWithout) dX7_scoreWithout_16 0 rfl rfl ?_
      obtain ⟨g14, h⟩ := zgi h
      obtain ⟨t15, u16, h⟩ := zbi h
      refine g_callVA (M := mX7_scoreWithout) [] hX dX7_scoreWithout_17 vX7_searched kM_X7_267 (wX7_searched hX bn  u16) (fun _ => rfl) 0 (zWs_at (by omega) ((zSt_c 0 rfl (show σ 0 = (σ 0) from rfl))).o) rfl ⟨(Nat.le_of_ble_eq_true rfl), (Nat.le_of_ble_eq_true rfl)⟩ ⟨g14.1, g14.2⟩ (Nat.le_of_ble_eq_true rfl) (fun A17 hnA17 => ?_)
      have hAc18 : ∀ k, ¬ (fun k => 1 ≤ k ∧ k < 91) k → A17 k = A k := fun k hk => (hnA17 k (by omega)).trans (rfl)
      refine g_lvc (M := mX7_scoreWithout) (lv' := [(0, .ref (A17 0)), (1, .int (iI a1))]) (by rw [hnA17 0 (by omega)]) ?_
      refine k_get (M := mX7_scoreWithout) (v := .int (iI ((t15 7).1 10))) dX7_scoreWithout_20 kF_X7_274.r 33 (by omega) ((zSt_c 7 rfl (show t15 7 = (t15 7) from rfl))).o rfl ?_
      refine g_goto (M := mX7_scoreWithout) (tgt := 38) dX7_scoreWithout_23 (by decide) ?_
      have e := (Option.some.inj h)
      subst e
      exact g_iret (M := mX7_scoreWithout) dX7_scoreWithout_38 rfl (by simpa using g14.1) (by simpa using g14.2) ⟨_, hAc18, rfl, rfl⟩
  · have h := zsro o3 h
    obtain ⟨g19, h⟩ := zgi h
    have e := (Option.some.inj h)
    subst e
    exact g_callVe (M := mX7_scoreWithout) [.int (iI a1)] hX dX7_scoreWithout_2 vX7_requireRow kM_X7_167 (wX7_requireRow hX bn  u2) (congrArg zoV o3) 0 (zWs_at (by omega) ((zSt_c 0 rfl (show σ 0 = (σ 0) from rfl))).o) rfl ⟨(Nat.le_of_ble_eq_true rfl), (Nat.le_of_ble_eq_true rfl)⟩ ⟨(show 0 + 1 ≤ 2 + 3 * zNd (σ 7) (σ 4) by omega), (show 0 + 6 ≤ 12 + 13652 * zNd (σ 7) (σ 4) by omega)⟩ (Nat.le_of_ble_eq_true rfl) (gx_out rfl (by simpa using g19.1) (by simpa using g19.2) ⟨_, (fun _ _ => rfl), rfl, rfl⟩)
set_option maxHeartbeats 4000000 in
set_option maxRecDepth 100000 in
theorem wX7_second {X : zX} (hX : zOK X) {A : Nat → Nat} {n : Nat} {S : Nat → va_E} {σ : CS} (bn : 91 ≤ n) {a1 : Int} {res : CS × (Int ⊕ String)} (h : fX7_second σ a1 = some res) : Con X yX7_second mX7_second 9 (2 + 3 * zNd (σ 7) (σ 4) + 3 * zSb σ a1) (12 + 13652 * zNd (σ 7) (σ 4) + 13652 * zSb σ a1) [.ref (A 0), .int (iI a1)] (zWs A n (zSt X A σ S)) (zRA A (fun k => 1 ≤ k ∧ k < 91) (fun A' => (zWs A' n (zSt X A' res.1 S))) (fun A' => zoI res.2)) := by
  refine con_of (lv := [(0, .ref (A 0)), (1, .int (iI a1))]) (by decide) rfl (fun h => by cases h) rfl (Nat.le_of_ble_eq_true rfl) rfl ?_
  unfold fX7_second at h
  refine g_iload_n (M := mX7_second) dX7_second_0 1 rfl rfl ?_
  refine zJn_J (J := fun x23 => ∀ (Aj23 : Nat → Nat), (∀ k, ¬ (fun k => 1 ≤ k ∧ k < 91) k → Aj23 k = A k) → G X mX7_second (zPm X 9 (2 + 3 * zNd (σ 7) (σ 4) + 3 * zSb σ a1) (12 + 13652 * zNd (σ 7) (σ 4) + 13652 * zSb σ a1) (zRA A (fun k => 1 ≤ k ∧ k < 91) (fun A' => (zWs A' n (zSt X A' res.1 S))) (fun A' => zoI res.2))) 0 0 9 [] [] (zWs Aj23 n (zSt X Aj23 σ S))) h (fun x23 h => ?_) (fun j23 h => ?_)
  · intro Aj23 hAj23
    have e := (Option.some.inj h)
    subst e
    exact g_throwW (M := mX7_second) hX rfl rfl tT_X7_90_287_94 dX7_second_9 dX7_second_12 dX7_second_13 dX7_second_16 dX7_second_19 (Nat.le_of_ble_eq_true rfl) (Nat.le_of_ble_eq_true rfl) (show 0 + 1 ≤ 2 + 3 * zNd (σ 7) (σ 4) + 3 * zSb σ a1 by omega) (show 0 + 6 ≤ 12 + 13652 * zNd (σ 7) (σ 4) + 13652 * zSb σ a1 by omega) ⟨_, hAj23, rfl, rfl⟩
  · obtain ⟨g25, h⟩ := zgi h
    refine h_if_lt (M := mX7_second) (tgt := 9) dX7_second_1 (by decide) g25 (fun c24 => ?_) (fun c24 => ?_)
    · have h := zti c24 h
      refine g_lv (M := mX7_second) [] rfl ?_
      exact j23 () h A (fun _ _ => rfl)
    · have h := zfi (Int.not_lt.mpr c24) h
      refine g_iload_n (M := mX7_second) dX7_second_4 1 rfl rfl ?_
      refine h_iconst (M := mX7_second) dX7_second_5 ?_
      refine h_icmp_le (M := mX7_second) (tgt := 20) dX7_second_6 (by decide) g25 (by decide) (fun c26 => ?_) (fun c26 => ?_)
      · have h := zti c26 h
        refine g_aload_n (M := mX7_second) dX7_second_20 0 rfl rfl ?_
        obtain ⟨g27, h⟩ := zgi h
        obtain ⟨t28, u29, h⟩ := zbi h
        refine g_callVA (M := mX7_second) [] hX dX7_second_21 vX7_searched kM_X7_267 (wX7_searched hX bn  u29) (fun _ => rfl) 0 (zWs_at (by omega) ((zSt_c 0 rfl (show σ 0 = (σ 0) from rfl))).o) rfl ⟨(Nat.le_of_ble_eq_true rfl), (Nat.le_of_ble_eq_true rfl)⟩ ⟨g27.1, g27.2⟩ (Nat.le_of_ble_eq_true rfl) (fun A30 hnA30 => ?_)
        have hAc31 : ∀ k, ¬ (fun k => 1 ≤ k ∧ k < 91) k → A30 k = A k := fun k hk => (hnA30 k (by omega)).trans (rfl)
        refine g_lvc (M := mX7_second) (lv' := [(0, .ref (A30 0)), (1, .int (iI a1))]) (by rw [hnA30 0 (by omega)]) ?_
        refine k_get (M := mX7_second) (v := .int (iI ((t28 7).1 9))) dX7_second_24 kF_X7_271.r 33 (by omega) ((zSt_c 7 rfl (show t28 7 = (t28 7) from rfl))).o rfl ?_
        refine g_istore_n (M := mX7_second) (lv' := [(0, .ref (A30 0)), (1, .int (iI a1)), (2, .int (iI ((t28 7).1 9)))]) dX7_second_27 rfl (by decide) rfl ?_
        refine g_aload_n (M := mX7_second) dX7_second_28 0 rfl rfl ?_
        refine k_get (M := mX7_second) (v := .ref (A30 12)) dX7_second_29 kF_X7_33.r 0 (by omega) ((zSt_c 0 rfl (show t28 0 = (t28 0) from rfl))).o rfl ?_
        refine g_iload_n (M := mX7_second) dX7_second_32 2 rfl rfl ?_
        obtain ⟨t32, u33, h⟩ := zbi h
        refine g_callVr (M := mX7_second) [.int (iI ((t28 7).1 9))] hX dX7_second_33 vX0_reasonAgainst kM_X7_302 (wX0_reasonAgainst hX (zSt_c 4 rfl (show t28 4 = (t28 4) from rfl)) (by omega)  u33) 12 (zWs_at (by omega) ((zSt_c 4 rfl (show t28 4 = (t28 4) from rfl))).o) rfl ⟨(Nat.le_of_ble_eq_true rfl), (Nat.le_of_ble_eq_true rfl)⟩ ⟨(show 0 + (3 * zNd (σ 7) (σ 4)) + 0 ≤ 2 + 3 * zNd (σ 7) (σ 4) + 3 * zSb σ a1 by omega), (show 0 + (13652 * zNd (σ 7) (σ 4)) + 0 ≤ 12 + 13652 * zNd (σ 7) (σ 4) + 13652 * zSb σ a1 by omega)⟩ (Nat.le_of_ble_eq_true rfl) ?_
        obtain ⟨g35, h⟩ := zgi h
        refine h_if_eq (M := mX7_second) (tgt := 41) dX7_second_36 (by decide) g35 (fun c34 => ?_) (fun c34 => ?_)
        · have h := zti c34 h
          refine g_aload_n (M := mX7_second) dX7_second_41 0 rfl rfl ?_
          refine k_get (M := mX7_second) (v := .ref (A30 26)) dX7_second_42 kF_X7_40.r 0 (by omega) ((zSt_c 0 rfl (show t28 0 = (t28 0) from rfl))).o rfl ?_
          refine g_aload_n (M := mX7_second) dX7_second_45 0 rfl rfl ?_
          refine k_get (M := mX7_second) (v := .ref (A30 12)) dX7_second_46 kF_X7_33.r 0 (by omega) ((zSt_c 0 rfl (show t28 0 = (t28 0) from rfl))).o rfl ?_
          obtain ⟨t36, u37, h⟩ := zbi h
          refine g_callVr (M := mX7_second) [.ref (A30 12)] hX dX7_second_49 vX0_copyFrom kM_X7_305 (wX0_copyFrom hX (zSt_c 6 rfl (show t28 6 = (t28 6) from rfl)) (by omega) (zSt_c 4 rfl (show t28 4 = (t28 4) from rfl)) (by omega) (by omega) u37) 26 (zWs_at (by omega) ((zSt_c 6 rfl (show t28 6 = (t28 6) from rfl))).o) rfl ⟨(Nat.le_of_ble_eq_true rfl), (Nat.le_of_ble_eq_true rfl)⟩ ⟨(show 0 + (3 * zNd (σ 7) (σ 4)) + 0 ≤ 2 + 3 * zNd (σ 7) (σ 4) + 3 * zSb σ a1 by omega), (show 0 + (13652 * zNd (σ 7) (σ 4)) + 0 ≤ 12 + 13652 * zNd (σ 7) (σ 4) + 13652 * zSb σ a1 by omega)⟩ (Nat.le_of_ble_eq_true rfl) ?_
          refine g_ws (M := mX7_second) (congrArg (fun z => zWs A30 n (z)) (zSt_p 6 rfl)) ?_
          refine g_aload_n (M := mX7_second) dX7_second_52 0 rfl rfl ?_
          refine k_get (M := mX7_second) (v := .ref (A30 26)) dX7_second_53 kF_X7_40.r 0 (by omega) ((zSt_c 0 rfl (show (zSu t28 6 t36) 0 = (t28 0) from rfl))).o rfl ?_
          refine g_iload_n (M := mX7_second) dX7_second_56 2 rfl rfl ?_
          obtain ⟨t38, u39, h⟩ := zbi h
          refine g_callVr (M := mX7_second) [.int (iI ((t28 7).1 9))] hX dX7_second_57 vX0_cover kM_X7_308 (wX0_cover hX (zSt_c 6 rfl (show (zSu t28 6 t36) 6 = t36 from rfl)) (by omega)  u39) 26 (zWs_at (by omega) ((zSt_c 6 rfl (show (zSu t28 6 t36) 6 = t36 from rfl))).o) rfl ⟨(Nat.le_of_ble_eq_true rfl), (Nat.le_of_ble_eq_true rfl)⟩ ⟨(show 0 + (3 * zNd (σ 7) (σ 4)) + 0 ≤ 2 + 3 * zNd (σ 7) (σ 4) + 3 * zSb σ a1 by omega), (show 0 + (13652 * zNd (σ 7) (σ 4)) + 0 ≤ 12 + 13652 * zNd (σ 7) (σ 4) + 13652 * zSb σ a1 by omega)⟩ (Nat.le_of_ble_eq_true rfl) ?_
          refine g_ws (M := mX7_second) (congrArg (fun z => zWs A30 n (z)) (zSt_p 6 rfl)) ?_
          refine g_pop (M := mX7_second) dX7_second_60 rfl ?_
          refine g_aload_n (M := mX7_second) dX7_second_61 0 rfl rfl ?_
          refine k_get (M := mX7_second) (v := .ref (A30 39)) dX7_second_62 kF_X7_54.r 0 (by omega) ((zSt_c 0 rfl (show (zSu (zSu t28 6 t36) 6 t38.1) 0 = (t28 0) from rfl))).o rfl ?_
          refine g_aload_n (M := mX7_second) dX7_second_65 0 rfl rfl ?_
          refine k_get (M := mX7_second) (v := .ref (A30 26)) dX7_second_66 kF_X7_40.r 0 (by omega) ((zSt_c 0 rfl (show (zSu (zSu t28 6 t36) 6 t38.1) 0 = (t28 0) from rfl))).o rfl ?_
          obtain ⟨g40, h⟩ := zgi h
          obtain ⟨t41, u42, h⟩ := zbi h
          refine g_callVA (M := mX7_second) [.ref (A30 26)] hX dX7_second_69 vX3_go kM_X7_311 (wX3_go hX (zSt_c 8 rfl (show (zSu (zSu t28 6 t36) 6 t38.1) 8 = (t28 8) from rfl)) (by omega) (zSt_c 6 rfl (show (zSu (zSu t28 6 t36) 6 t38.1) 6 = t38.1 from rfl)) (by omega) (by omega) u42) (fun _ => rfl) 39 (zWs_at (by omega) ((zSt_c 8 rfl (show (zSu (zSu t28 6 t36) 6 t38.1) 8 = (t28 8) from rfl))).o) rfl ⟨(Nat.le_of_ble_eq_true rfl), (Nat.le_of_ble_eq_true rfl)⟩ ⟨g40.1, g40.2⟩ (Nat.le_of_ble_eq_true rfl) (fun A43 hnA43 => ?_)
          refine g_ws (M := mX7_second) (congrArg (zWs A43 n) (zSt_pa (A := A30) 8 rfl (by decide) (by decide) (fun k hk => hnA43 k hk))) ?_
          have hAc44 : ∀ k, ¬ (fun k => 1 ≤ k ∧ k < 91) k → A43 k = A k := fun k hk => (hnA43 k (by omega)).trans (hAc31 k hk)
          refine g_lvc (M := mX7_second) (lv' := [(0, .ref (A43 0)), (1, .int (iI a1)), (2, .int (iI ((t28 7).1 9)))]) (by rw [hnA43 0 (by omega)]) ?_
          refine g_iload_n (M := mX7_second) dX7_second_72 1 rfl rfl ?_
          refine h_if_ne (M := mX7_second) (tgt := 86) dX7_second_73 (by decide) g25 (fun c45 => ?_) (fun c45 => ?_)
          · have h := zfi c45 h
            refine g_aload_n (M := mX7_second) dX7_second_86 0 rfl rfl ?_
            refine k_get (M := mX7_second) (v := .ref (A43 39)) dX7_second_87 kF_X7_54.r 0 (by omega) ((zSt_c 0 rfl (show (zSu (zSu (zSu t28 6 t36) 6 t38.1) 8 t41) 0 = (t28 0) from rfl))).o rfl ?_
            refine k_get (M := mX7_second) (v := .int (iI (t41.1 10))) dX7_second_90 kF_X7_274.r 39 (by omega) ((zSt_c 8 rfl (show (zSu (zSu (zSu t28 6 t36) 6 t38.1) 8 t41) 8 = t41 from rfl))).o rfl ?_
            have e := (Option.some.inj h)
            subst e
            exact g_iret (M := mX7_second) dX7_second_93 rfl (by simpa using g40.1) (by simpa using g40.2) ⟨_, hAc44, rfl, rfl⟩
          · have h := zti c45 h
            refine g_aload_n (M := mX7_second) dX7_second_76 0 rfl rfl ?_
            refine k_get (M := mX7_second) (v := .ref (A43 39)) dX7_second_77 kF_X7_54.r 0 (by omega) ((zSt_c 0 rfl (show (zSu (zSu (zSu t28 6 t36) 6 t38.1) 8 t41) 0 = (t28 0) from rfl))).o rfl ?_
            refine k_get (M := mX7_second) (v := .int (iI (t41.1 9))) dX7_second_80 kF_X7_271.r 39 (by omega) ((zSt_c 8 rfl (show (zSu (zSu (zSu t28 6 t36) 6 t38.1) 8 t41) 8 = t41 from rfl))).o rfl ?_
            refine g_goto (M := mX7_second) (tgt := 93) dX7_second_83 (by decide) ?_
            have e := (Option.some.inj h)
            subst e
            exact g_iret (M := mX7_second) dX7_second_93 rfl (by simpa using g40.1) (by simpa using g40.2) ⟨_, hAc44, rfl, rfl⟩
        · have h := zfi c34 h
          refine h_iconst (M := mX7_second) dX7_second_39 ?_
          have e := (Option.some.inj h)
          subst e
          exact g_iret (M := mX7_second) dX7_second_40 rfl (by simpa using g27.1) (by simpa using g27.2) ⟨_, hAc31, rfl, rfl⟩
      · have h := zfi (Int.not_le.mpr c26) h
        refine g_lv (M := mX7_second) [] rfl ?_
        exact j23 () h A (fun _ _ => rfl)
set_option maxHeartbeats 4000000 in
set_option maxRecDepth 100000 in
theorem wX7_setChanges {X : zX} (hX : zOK X) {A : Nat → Nat} {n : Nat} {S : Nat → va_E} {σ : CS} (bn : 91 ≤ n) {a1 : Int} {res : CS × (Int ⊕ String)} (h : fX7_setChanges σ a1 = some res) : Con X yX7_setChanges mX7_setChanges 6 1 6 [.ref (A 0), .int (iI a1)] (zWs A n (zSt X A σ S)) (zRA A (fun k => 1 ≤ k ∧ k < 91) (fun A' => (zWs A' n (zSt X A' res.1 S))) (fun A' => zoI res.2)) := by
  refine con_of (lv := [(0, .ref (A 0)), (1, .int (iI a1))]) (by decide) rfl (fun h => by cases h) rfl (Nat.le_of_ble_eq_true rfl) rfl ?_
  unfold fX7_setChanges at h
  refine g_iload_n (M := mX7_setChanges) dX7_setChanges_0 1 rfl rfl ?_
  obtain ⟨t1, u2, h⟩ := zbi h
  refine g_callSr (M := mX7_setChanges) [.int (iI a1)] hX dX7_setChanges_1 vX7_isCountOfChanges kM_X7_379 (wX7_isCountOfChanges hX   u2) rfl ⟨(Nat.le_of_ble_eq_true rfl), (Nat.le_of_ble_eq_true rfl)⟩ ⟨(Nat.le_of_ble_eq_true rfl), (Nat.le_of_ble_eq_true rfl)⟩ (Nat.le_of_ble_eq_true rfl) ?_
  refine h_bne (M := mX7_setChanges) (tgt := 18) dX7_setChanges_4 (by decide) (fun c3 => ?_) (fun c3 => ?_)
  · have h := zti c3 h
    refine g_aload_n (M := mX7_setChanges) dX7_setChanges_18 0 rfl rfl ?_
    obtain ⟨t4, u5, h⟩ := zbi h
    refine g_callVA (M := mX7_setChanges) [] hX dX7_setChanges_19 vX7_keepPast kM_X7_114 (wX7_keepPast hX bn  u5) (fun _ => rfl) 0 (zWs_at (by omega) ((zSt_c 0 rfl (show σ 0 = (σ 0) from rfl))).o) rfl ⟨(Nat.le_of_ble_eq_true rfl), (Nat.le_of_ble_eq_true rfl)⟩ ⟨(Nat.le_of_ble_eq_true rfl), (Nat.le_of_ble_eq_true rfl)⟩ (Nat.le_of_ble_eq_true rfl) (fun A6 hnA6 => ?_)
    have hAc7 : ∀ k, ¬ (fun k => 1 ≤ k ∧ k < 91) k → A6 k = A k := fun k hk => (hnA6 k (by omega)).trans (rfl)
    refine g_lvc (M := mX7_setChanges) (lv' := [(0, .ref (A6 0)), (1, .int (iI a1))]) (by rw [hnA6 0 (by omega)]) ?_
    refine g_aload_n (M := mX7_setChanges) dX7_setChanges_22 0 rfl rfl ?_
    refine k_get (M := mX7_setChanges) (v := .ref (A6 12)) dX7_setChanges_23 kF_X7_33.r 0 (by omega) ((zSt_c 0 rfl (show t4 0 = (t4 0) from rfl))).o rfl ?_
    refine k_get (M := mX7_setChanges) (v := .int (iI ((t4 4).1 2))) dX7_setChanges_26 kF_X7_137.r 12 (by omega) ((zSt_c 4 rfl (show t4 4 = (t4 4) from rfl))).o rfl ?_
    refine g_istore_n (M := mX7_setChanges) (lv' := [(0, .ref (A6 0)), (1, .int (iI a1)), (2, .int (iI ((t4 4).1 2)))]) dX7_setChanges_29 rfl (by decide) rfl ?_
    refine g_aload_n (M := mX7_setChanges) dX7_setChanges_30 0 rfl rfl ?_
    refine g_iload_n (M := mX7_setChanges) dX7_setChanges_31 1 rfl rfl ?_
    obtain ⟨t8, u9, h⟩ := zbi h
    refine g_callVA (M := mX7_setChanges) [.int (iI a1)] hX dX7_setChanges_32 vX7_putChanges kM_X7_384 (wX7_putChanges hX bn  u9) (fun _ => rfl) 0 (zWs_at (by omega) ((zSt_c 0 rfl (show t4 0 = (t4 0) from rfl))).o) rfl ⟨(Nat.le_of_ble_eq_true rfl), (Nat.le_of_ble_eq_true rfl)⟩ ⟨(Nat.le_of_ble_eq_true rfl), (Nat.le_of_ble_eq_true rfl)⟩ (Nat.le_of_ble_eq_true rfl) (fun A10 hnA10 => ?_)
    have hAc11 : ∀ k, ¬ (fun k => 1 ≤ k ∧ k < 91) k → A10 k = A k := fun k hk => (hnA10 k (by omega)).trans (hAc7 k hk)
    refine g_lvc (M := mX7_setChanges) (lv' := [(0, .ref (A10 0)), (1, .int (iI a1)), (2, .int (iI ((t4 4).1 2)))]) (by rw [hnA10 0 (by omega)]) ?_
    refine g_iload_n (M := mX7_setChanges) dX7_setChanges_35 2 rfl rfl ?_
    have e := (Option.some.inj h)
    subst e
    exact g_iret (M := mX7_setChanges) dX7_setChanges_36 rfl (Nat.le_of_ble_eq_true rfl) (Nat.le_of_ble_eq_true rfl) ⟨_, hAc11, rfl, rfl⟩
  · have h := zfi (zbf c3) h
    have e := (Option.some.inj h)
    subst e
    exact g_throwW (M := mX7_setChanges) hX rfl rfl tT_X7_90_382_94 dX7_setChanges_7 dX7_setChanges_10 dX7_setChanges_11 dX7_setChanges_14 dX7_setChanges_17 (Nat.le_of_ble_eq_true rfl) (Nat.le_of_ble_eq_true rfl) (Nat.le_of_ble_eq_true rfl) (Nat.le_of_ble_eq_true rfl) ⟨_, (fun _ _ => rfl), rfl, rfl⟩
set_option maxHeartbeats 4000000 in
set_option maxRecDepth 100000 in
theorem wX7_setOut {X : zX} (hX : zOK X) {A : Nat → Nat} {n : Nat} {S : Nat → va_E} {σ : CS} (bn : 91 ≤ n) {a1 : Int} {a2 : Int} {res : CS × (Int ⊕ String)} (h : fX7_setOut σ a1 a2 = some res) : Con X yX7_setOut mX7_setOut 7 2 12 [.ref (A 0), .int (iI a1), .int (iI a2)] (zWs A n (zSt X A σ S)) (zRA A (fun k => 1 ≤ k ∧ k < 91) (fun A' => (zWs A' n (zSt X A' res.1 S))) (fun A' => zoI res.2)) := by
  refine con_of (lv := [(0, .ref (A 0)), (1, .int (iI a1)), (2, .int (iI a2))]) (by decide) rfl (fun h => by cases h) rfl (Nat.le_of_ble_eq_true rfl) rfl ?_
  unfold fX7_setOut at h
  refine g_aload_n (M := mX7_setOut) dX7_setOut_0 0 rfl rfl ?_
  refine g_iload_n (M := mX7_setOut) dX7_setOut_1 1 rfl rfl ?_
  obtain ⟨t1, u2, h⟩ := zbi h
  rcases o3 : t1 with vt1 | Et1
  · have h := zslo o3 h
    refine g_callVx (M := mX7_setOut) [.int (iI a1)] hX dX7_setOut_2 vX7_requireRow kM_X7_167 (wX7_requireRow hX bn  u2) (congrArg zoV o3) 0 (zWs_at (by omega) ((zSt_c 0 rfl (show σ 0 = (σ 0) from rfl))).o) rfl ⟨(Nat.le_of_ble_eq_true rfl), (Nat.le_of_ble_eq_true rfl)⟩ ⟨(Nat.le_of_ble_eq_true rfl), (Nat.le_of_ble_eq_true rfl)⟩ (Nat.le_of_ble_eq_true rfl) ?_
    refine g_aload_n (M := mX7_setOut) dX7_setOut_5 0 rfl rfl ?_
    refine k_get (M := mX7_setOut) (v := .ref (A 12)) dX7_setOut_6 kF_X7_33.r 0 (by omega) ((zSt_c 0 rfl (show σ 0 = (σ 0) from rfl))).o rfl ?_
    refine g_iload_n (M := mX7_setOut) dX7_setOut_9 1 rfl rfl ?_
    obtain ⟨t4, u5, h⟩ := zbi h
    refine g_callVr (M := mX7_setOut) [.int (iI a1)] hX dX7_setOut_10 vX0_isOut kM_X7_180 (wX0_isOut hX (zSt_c 4 rfl (show σ 4 = (σ 4) from rfl)) (by omega)  u5) 12 (zWs_at (by omega) ((zSt_c 4 rfl (show σ 4 = (σ 4) from rfl))).o) rfl ⟨(Nat.le_of_ble_eq_true rfl), (Nat.le_of_ble_eq_true rfl)⟩ ⟨(Nat.le_of_ble_eq_true rfl), (Nat.le_of_ble_eq_true rfl)⟩ (Nat.le_of_ble_eq_true rfl) ?_
    refine g_iload_n (M := mX7_setOut) dX7_setOut_13 2 rfl rfl ?_
    obtain ⟨g7, h⟩ := zgi h
    refine h_icmp_ne (M := mX7_setOut) (tgt := 28) dX7_setOut_14 (by decide) (b2_r _) g7 (fun c6 => ?_) (fun c6 => ?_)
    · have h := zfi c6 h
      refine g_aload_n (M := mX7_setOut) dX7_setOut_28 0 rfl rfl ?_
      obtain ⟨t8, u9, h⟩ := zbi h
      refine g_callVA (M := mX7_setOut) [] hX dX7_setOut_29 vX7_keepPast kM_X7_114 (wX7_keepPast hX bn  u9) (fun _ => rfl) 0 (zWs_at (by omega) ((zSt_c 0 rfl (show σ 0 = (σ 0) from rfl))).o) rfl ⟨(Nat.le_of_ble_eq_true rfl), (Nat.le_of_ble_eq_true rfl)⟩ ⟨(Nat.le_of_ble_eq_true rfl), (Nat.le_of_ble_eq_true rfl)⟩ (Nat.le_of_ble_eq_true rfl) (fun A10 hnA10 => ?_)
      have hAc11 : ∀ k, ¬ (fun k => 1 ≤ k ∧ k < 91) k → A10 k = A k := fun k hk => (hnA10 k (by omega)).trans (rfl)
      refine g_lvc (M := mX7_setOut) (lv' := [(0, .ref (A10 0)), (1, .int (iI a1)), (2, .int (iI a2))]) (by rw [hnA10 0 (by omega)]) ?_
      refine g_aload_n (M := mX7_setOut) dX7_setOut_32 0 rfl rfl ?_
      refine g_iload_n (M := mX7_setOut) dX7_setOut_33 1 rfl rfl ?_
      refine g_iload_n (M := mX7_setOut) dX7_setOut_34 2 rfl rfl ?_
      obtain ⟨t12, u13, h⟩ := zbi h
      refine g_callVA (M := mX7_setOut) [.int (iI a1), .int (iI a2)] hX dX7_setOut_35 vX7_putOut kM_X7_375 (wX7_putOut hX bn  u13) (fun _ => rfl) 0 (zWs_at (by omega) ((zSt_c 0 rfl (show t8 0 = (t8 0) from rfl))).o) rfl ⟨(Nat.le_of_ble_eq_true rfl), (Nat.le_of_ble_eq_true rfl)⟩ ⟨(Nat.le_of_ble_eq_true rfl), (Nat.le_of_ble_eq_true rfl)⟩ (Nat.le_of_ble_eq_true rfl) (fun A14 hnA14 => ?_)
      have hAc15 : ∀ k, ¬ (fun k => 1 ≤ k ∧ k < 91) k → A14 k = A k := fun k hk => (hnA14 k (by omega)).trans (hAc11 k hk)
      refine g_lvc (M := mX7_setOut) (lv' := [(0, .ref (A14 0)), (1, .int (iI a1)), (2, .int (iI a2))]) (by rw [hnA14 0 (by omega)]) ?_
      refine g_aload_n (M := mX7_setOut) dX7_setOut_38 0 rfl rfl ?_
      refine k_get (M := mX7_setOut) (v := .ref (A14 12)) dX7_setOut_39 kF_X7_33.r 0 (by omega) ((zSt_c 0 rfl (show t12 0 = (t12 0) from rfl))).o rfl ?_
      refine k_get (M := mX7_setOut) (v := .int (iI ((t12 4).1 4))) dX7_setOut_42 kF_X7_147.r 12 (by omega) ((zSt_c 4 rfl (show t12 4 = (t12 4) from rfl))).o rfl ?_
      refine g_callSr (M := mX7_setOut) [.int (iI ((t12 4).1 4))] hX dX7_setOut_45 vJ6_bitCount_0f7a4 kM_X7_150 (cJ6_bitCount_0f7a4' (iI ((t12 4).1 4))) rfl ⟨(Nat.le_of_ble_eq_true rfl), (Nat.le_of_ble_eq_true rfl)⟩ ⟨(Nat.le_of_ble_eq_true rfl), (Nat.le_of_ble_eq_true rfl)⟩ (Nat.le_of_ble_eq_true rfl) ?_
      refine h_topx (M := mX7_setOut) (b := zPop ((t12 4).1 4)) (zPop_e _) ?_
      have e := (Option.some.inj h)
      subst e
      exact g_iret (M := mX7_setOut) dX7_setOut_48 rfl (Nat.le_of_ble_eq_true rfl) (Nat.le_of_ble_eq_true rfl) ⟨_, hAc15, rfl, rfl⟩
    · have h := zti c6 h
      have e := (Option.some.inj h)
      subst e
      exact g_throwW (M := mX7_setOut) hX rfl rfl tT_X7_79_373_83 dX7_setOut_17 dX7_setOut_20 dX7_setOut_21 dX7_setOut_24 dX7_setOut_27 (Nat.le_of_ble_eq_true rfl) (Nat.le_of_ble_eq_true rfl) (Nat.le_of_ble_eq_true rfl) (Nat.le_of_ble_eq_true rfl) ⟨_, (fun _ _ => rfl), rfl, rfl⟩
  · have h := zsro o3 h
    have e := (Option.some.inj h)
    subst e
    exact g_callVe (M := mX7_setOut) [.int (iI a1)] hX dX7_setOut_2 vX7_requireRow kM_X7_167 (wX7_requireRow hX bn  u2) (congrArg zoV o3) 0 (zWs_at (by omega) ((zSt_c 0 rfl (show σ 0 = (σ 0) from rfl))).o) rfl ⟨(Nat.le_of_ble_eq_true rfl), (Nat.le_of_ble_eq_true rfl)⟩ ⟨(Nat.le_of_ble_eq_true rfl), (Nat.le_of_ble_eq_true rfl)⟩ (Nat.le_of_ble_eq_true rfl) (gx_out rfl (Nat.le_of_ble_eq_true rfl) (Nat.le_of_ble_eq_true rfl) ⟨_, (fun _ _ => rfl), rfl, rfl⟩)
set_option maxHeartbeats 4000000 in
set_option maxRecDepth 100000 in
theorem wX7_setting {X : zX} (hX : zOK X) {A : Nat → Nat} {n : Nat} {S : Nat → va_E} {σ : CS} (bn : 91 ≤ n) {a1 : Int} {res : (Int ⊕ String)} (h : fX7_setting σ a1 = some res) : Con X yX7_setting mX7_setting 6 1 6 [.ref (A 0), .int (iI a1)] (zWs A n (zSt X A σ S)) (zRx (zWs A n (zSt X A σ S)) (zoI res)) := by
  refine con_of (lv := [(0, .ref (A 0)), (1, .int (iI a1))]) (by decide) rfl (fun h => by cases h) rfl (Nat.le_of_ble_eq_true rfl) rfl ?_
  unfold fX7_setting at h
  refine g_iload_n (M := mX7_setting) dX7_setting_0 1 rfl rfl ?_
  obtain ⟨g1, h⟩ := zgi h
  by_cases c2 : a1 = 0
  · have h := zti c2 h
    refine g_tableIn (M := mX7_setting) (off := 55) (tgt := 56) dX7_setting_1 (iI_tlo g1 (by omega)) (iI_thi g1 (by omega)) (iI_tat g1 c2 rfl) (by decide) ?_
    refine g_aload_n (M := mX7_setting) dX7_setting_56 0 rfl rfl ?_
    refine k_get (M := mX7_setting) (v := .ref (A 12)) dX7_setting_57 kF_X7_33.r 0 (by omega) ((zSt_c 0 rfl (show σ 0 = (σ 0) from rfl))).o rfl ?_
    refine k_get (M := mX7_setting) (v := .int (iI ((σ 4).1 3))) dX7_setting_60 kF_X7_108.r 12 (by omega) ((zSt_c 4 rfl (show σ 4 = (σ 4) from rfl))).o rfl ?_
    have e := (Option.some.inj h)
    subst e
    exact g_iret (M := mX7_setting) dX7_setting_63 rfl (Nat.le_of_ble_eq_true rfl) (Nat.le_of_ble_eq_true rfl) ⟨rfl, rfl⟩
  have h := zfi c2 h
  by_cases c3 : a1 = 1
  · have h := zti c3 h
    refine g_tableIn (M := mX7_setting) (off := 63) (tgt := 64) dX7_setting_1 (iI_tlo g1 (by omega)) (iI_thi g1 (by omega)) (iI_tat g1 c3 rfl) (by decide) ?_
    refine g_aload_n (M := mX7_setting) dX7_setting_64 0 rfl rfl ?_
    refine k_get (M := mX7_setting) (v := .ref (A 12)) dX7_setting_65 kF_X7_33.r 0 (by omega) ((zSt_c 0 rfl (show σ 0 = (σ 0) from rfl))).o rfl ?_
    refine k_get (M := mX7_setting) (v := .int (iI ((σ 4).1 0))) dX7_setting_68 kF_X7_131.r 12 (by omega) ((zSt_c 4 rfl (show σ 4 = (σ 4) from rfl))).o rfl ?_
    have e := (Option.some.inj h)
    subst e
    exact g_iret (M := mX7_setting) dX7_setting_71 rfl (Nat.le_of_ble_eq_true rfl) (Nat.le_of_ble_eq_true rfl) ⟨rfl, rfl⟩
  have h := zfi c3 h
  by_cases c4 : a1 = 2
  · have h := zti c4 h
    refine g_tableIn (M := mX7_setting) (off := 71) (tgt := 72) dX7_setting_1 (iI_tlo g1 (by omega)) (iI_thi g1 (by omega)) (iI_tat g1 c4 rfl) (by decide) ?_
    refine g_aload_n (M := mX7_setting) dX7_setting_72 0 rfl rfl ?_
    refine k_get (M := mX7_setting) (v := .ref (A 12)) dX7_setting_73 kF_X7_33.r 0 (by omega) ((zSt_c 0 rfl (show σ 0 = (σ 0) from rfl))).o rfl ?_
    refine k_get (M := mX7_setting) (v := .int (iI ((σ 4).1 1))) dX7_setting_76 kF_X7_134.r 12 (by omega) ((zSt_c 4 rfl (show σ 4 = (σ 4) from rfl))).o rfl ?_
    have e := (Option.some.inj h)
    subst e
    exact g_iret (M := mX7_setting) dX7_setting_79 rfl (Nat.le_of_ble_eq_true rfl) (Nat.le_of_ble_eq_true rfl) ⟨rfl, rfl⟩
  have h := zfi c4 h
  by_cases c5 : a1 = 3
  · have h := zti c5 h
    refine g_tableIn (M := mX7_setting) (off := 79) (tgt := 80) dX7_setting_1 (iI_tlo g1 (by omega)) (iI_thi g1 (by omega)) (iI_tat g1 c5 rfl) (by decide) ?_
    refine g_aload_n (M := mX7_setting) dX7_setting_80 0 rfl rfl ?_
    refine k_get (M := mX7_setting) (v := .ref (A 12)) dX7_setting_81 kF_X7_33.r 0 (by omega) ((zSt_c 0 rfl (show σ 0 = (σ 0) from rfl))).o rfl ?_
    refine k_get (M := mX7_setting) (v := .int (iI ((σ 4).1 2))) dX7_setting_84 kF_X7_137.r 12 (by omega) ((zSt_c 4 rfl (show σ 4 = (σ 4) from rfl))).o rfl ?_
    have e := (Option.some.inj h)
    subst e
    exact g_iret (M := mX7_setting) dX7_setting_87 rfl (Nat.le_of_ble_eq_true rfl) (Nat.le_of_ble_eq_true rfl) ⟨rfl, rfl⟩
  have h := zfi c5 h
  by_cases c6 : a1 = 4
  · have h := zti c6 h
    refine g_tableIn (M := mX7_setting) (off := 87) (tgt := 88) dX7_setting_1 (iI_tlo g1 (by omega)) (iI_thi g1 (by omega)) (iI_tat g1 c6 rfl) (by decide) ?_
    refine g_aload_n (M := mX7_setting) dX7_setting_88 0 rfl rfl ?_
    refine k_get (M := mX7_setting) (v := .ref (A 12)) dX7_setting_89 kF_X7_33.r 0 (by omega) ((zSt_c 0 rfl (show σ 0 = (σ 0) from rfl))).o rfl ?_
    obtain ⟨t7, u8, h⟩ := zbi h
    refine g_callVr (M := mX7_setting) [] hX dX7_setting_92 vX0_wordCount kM_X7_140 (wX0_wordCount hX (zSt_c 4 rfl (show σ 4 = (σ 4) from rfl)) (by omega)  u8) 12 (zWs_at (by omega) ((zSt_c 4 rfl (show σ 4 = (σ 4) from rfl))).o) rfl ⟨(Nat.le_of_ble_eq_true rfl), (Nat.le_of_ble_eq_true rfl)⟩ ⟨(Nat.le_of_ble_eq_true rfl), (Nat.le_of_ble_eq_true rfl)⟩ (Nat.le_of_ble_eq_true rfl) ?_
    have e := (Option.some.inj h)
    subst e
    exact g_iret (M := mX7_setting) dX7_setting_95 rfl (Nat.le_of_ble_eq_true rfl) (Nat.le_of_ble_eq_true rfl) ⟨rfl, rfl⟩
  have h := zfi c6 h
  by_cases c9 : a1 = 5
  · have h := zti c9 h
    refine g_tableIn (M := mX7_setting) (off := 95) (tgt := 96) dX7_setting_1 (iI_tlo g1 (by omega)) (iI_thi g1 (by omega)) (iI_tat g1 c9 rfl) (by decide) ?_
    refine g_aload_n (M := mX7_setting) dX7_setting_96 0 rfl rfl ?_
    refine k_get (M := mX7_setting) (v := .ref (A 12)) dX7_setting_97 kF_X7_33.r 0 (by omega) ((zSt_c 0 rfl (show σ 0 = (σ 0) from rfl))).o rfl ?_
    obtain ⟨t10, u11, h⟩ := zbi h
    refine g_callVr (M := mX7_setting) [] hX dX7_setting_100 vX0_allPlaces kM_X7_144 (wX0_allPlaces hX (zSt_c 4 rfl (show σ 4 = (σ 4) from rfl)) (by omega)  u11) 12 (zWs_at (by omega) ((zSt_c 4 rfl (show σ 4 = (σ 4) from rfl))).o) rfl ⟨(Nat.le_of_ble_eq_true rfl), (Nat.le_of_ble_eq_true rfl)⟩ ⟨(Nat.le_of_ble_eq_true rfl), (Nat.le_of_ble_eq_true rfl)⟩ (Nat.le_of_ble_eq_true rfl) ?_
    have e := (Option.some.inj h)
    subst e
    exact g_iret (M := mX7_setting) dX7_setting_103 rfl (Nat.le_of_ble_eq_true rfl) (Nat.le_of_ble_eq_true rfl) ⟨rfl, rfl⟩
  have h := zfi c9 h
  by_cases c12 : a1 = 6
  · have h := zti c12 h
    refine g_tableIn (M := mX7_setting) (off := 103) (tgt := 104) dX7_setting_1 (iI_tlo g1 (by omega)) (iI_thi g1 (by omega)) (iI_tat g1 c12 rfl) (by decide) ?_
    refine g_aload_n (M := mX7_setting) dX7_setting_104 0 rfl rfl ?_
    refine k_get (M := mX7_setting) (v := .ref (A 12)) dX7_setting_105 kF_X7_33.r 0 (by omega) ((zSt_c 0 rfl (show σ 0 = (σ 0) from rfl))).o rfl ?_
    refine k_get (M := mX7_setting) (v := .int (iI ((σ 4).1 4))) dX7_setting_108 kF_X7_147.r 12 (by omega) ((zSt_c 4 rfl (show σ 4 = (σ 4) from rfl))).o rfl ?_
    refine g_callSr (M := mX7_setting) [.int (iI ((σ 4).1 4))] hX dX7_setting_111 vJ6_bitCount_0f7a4 kM_X7_150 (cJ6_bitCount_0f7a4' (iI ((σ 4).1 4))) rfl ⟨(Nat.le_of_ble_eq_true rfl), (Nat.le_of_ble_eq_true rfl)⟩ ⟨(Nat.le_of_ble_eq_true rfl), (Nat.le_of_ble_eq_true rfl)⟩ (Nat.le_of_ble_eq_true rfl) ?_
    refine h_topx (M := mX7_setting) (b := zPop ((σ 4).1 4)) (zPop_e _) ?_
    have e := (Option.some.inj h)
    subst e
    exact g_iret (M := mX7_setting) dX7_setting_114 rfl (Nat.le_of_ble_eq_true rfl) (Nat.le_of_ble_eq_true rfl) ⟨rfl, rfl⟩
  have h := zfi c12 h
  by_cases c13 : a1 = 7
  · have h := zti c13 h
    refine g_tableIn (M := mX7_setting) (off := 114) (tgt := 115) dX7_setting_1 (iI_tlo g1 (by omega)) (iI_thi g1 (by omega)) (iI_tat g1 c13 rfl) (by decide) ?_
    refine g_aload_n (M := mX7_setting) dX7_setting_115 0 rfl rfl ?_
    refine k_get (M := mX7_setting) (v := .ref (A 12)) dX7_setting_116 kF_X7_33.r 0 (by omega) ((zSt_c 0 rfl (show σ 0 = (σ 0) from rfl))).o rfl ?_
    obtain ⟨t14, u15, h⟩ := zbi h
    refine g_callVr (M := mX7_setting) [] hX dX7_setting_119 vX0_allCovered kM_X7_156 (wX0_allCovered hX (zSt_c 4 rfl (show σ 4 = (σ 4) from rfl)) (by omega)  u15) 12 (zWs_at (by omega) ((zSt_c 4 rfl (show σ 4 = (σ 4) from rfl))).o) rfl ⟨(Nat.le_of_ble_eq_true rfl), (Nat.le_of_ble_eq_true rfl)⟩ ⟨(Nat.le_of_ble_eq_true rfl), (Nat.le_of_ble_eq_true rfl)⟩ (Nat.le_of_ble_eq_true rfl) ?_
    have e := (Option.some.inj h)
    subst e
    exact g_iret (M := mX7_setting) dX7_setting_122 rfl (Nat.le_of_ble_eq_true rfl) (Nat.le_of_ble_eq_true rfl) ⟨rfl, rfl⟩
  have h := zfi c13 h
  by_cases c16 : a1 = 8
  · have h := zti c16 h
    refine g_tableIn (M := mX7_setting) (off := 122) (tgt := 123) dX7_setting_1 (iI_tlo g1 (by omega)) (iI_thi g1 (by omega)) (iI_tat g1 c16 rfl) (by decide) ?_
    refine g_aload_n (M := mX7_setting) dX7_setting_123 0 rfl rfl ?_
    refine k_get (M := mX7_setting) (v := .ref (A 12)) dX7_setting_124 kF_X7_33.r 0 (by omega) ((zSt_c 0 rfl (show σ 0 = (σ 0) from rfl))).o rfl ?_
    refine k_get (M := mX7_setting) (v := .int (iI ((σ 4).1 5))) dX7_setting_127 kF_X7_159.r 12 (by omega) ((zSt_c 4 rfl (show σ 4 = (σ 4) from rfl))).o rfl ?_
    have e := (Option.some.inj h)
    subst e
    exact g_iret (M := mX7_setting) dX7_setting_130 rfl (Nat.le_of_ble_eq_true rfl) (Nat.le_of_ble_eq_true rfl) ⟨rfl, rfl⟩
  have h := zfi c16 h
  by_cases c17 : a1 = 9
  · have h := zti c17 h
    refine g_tableIn (M := mX7_setting) (off := 130) (tgt := 131) dX7_setting_1 (iI_tlo g1 (by omega)) (iI_thi g1 (by omega)) (iI_tat g1 c17 rfl) (by decide) ?_
    refine g_aload_n (M := mX7_setting) dX7_setting_131 0 rfl rfl ?_
    refine k_get (M := mX7_setting) (v := .ref (A 12)) dX7_setting_132 kF_X7_33.r 0 (by omega) ((zSt_c 0 rfl (show σ 0 = (σ 0) from rfl))).o rfl ?_
    obtain ⟨t18, u19, h⟩ := zbi h
    refine g_callVr (M := mX7_setting) [] hX dX7_setting_135 vX0_chosenRows kM_X7_162 (wX0_chosenRows hX (zSt_c 4 rfl (show σ 4 = (σ 4) from rfl)) (by omega)  u19) 12 (zWs_at (by omega) ((zSt_c 4 rfl (show σ 4 = (σ 4) from rfl))).o) rfl ⟨(Nat.le_of_ble_eq_true rfl), (Nat.le_of_ble_eq_true rfl)⟩ ⟨(Nat.le_of_ble_eq_true rfl), (Nat.le_of_ble_eq_true rfl)⟩ (Nat.le_of_ble_eq_true rfl) ?_
    have e := (Option.some.inj h)
    subst e
    exact g_iret (M := mX7_setting) dX7_setting_138 rfl (Nat.le_of_ble_eq_true rfl) (Nat.le_of_ble_eq_true rfl) ⟨rfl, rfl⟩
  have h := zfi c17 h
  refine g_tableOut (M := mX7_setting) (tgt := 139) dX7_setting_1 (iI_tout g1 (by omega)) (by decide) ?_
  have e := (Option.some.inj h)
  subst e
  exact g_throw (M := mX7_setting) hX rfl rfl tT_X7_90_165_94 dX7_setting_139 dX7_setting_142 dX7_setting_143 dX7_setting_145 dX7_setting_148 (Nat.le_of_ble_eq_true rfl) (Nat.le_of_ble_eq_true rfl) (Nat.le_of_ble_eq_true rfl) (Nat.le_of_ble_eq_true rfl) ⟨rfl, rfl⟩
set_option maxHeartbeats 4000000 in
set_option maxRecDepth 100000 in
theorem wX7_shared {X : zX} (hX : zOK X) {A : Nat → Nat} {n : Nat} {S : Nat → va_E} {σ : CS} (bn : 91 ≤ n) {a1 : Int} {a2 : Int} {res : CS × (Int ⊕ String)} (h : fX7_shared σ a1 a2 = some res) : Con X yX7_shared mX7_shared 7 (3 + zNt (σ 10) (σ 4)) (18 + 4096 * zNt (σ 10) (σ 4)) [.ref (A 0), .int (iI a1), .int (iI a2)] (zWs A n (zSt X A σ S)) (zRA A (fun k => 1 ≤ k ∧ k < 91) (fun A' => (zWs A' n (zSt X A' res.1 S))) (fun A' => zoI res.2)) := by
  refine con_of (lv := [(0, .ref (A 0)), (1, .int (iI a1)), (2, .int (iI a2))]) (by decide) rfl (fun h => by cases h) rfl (Nat.le_of_ble_eq_true rfl) rfl ?_
  unfold fX7_shared at h
  refine g_aload_n (M := mX7_shared) dX7_shared_0 0 rfl rfl ?_
  refine g_iload_n (M := mX7_shared) dX7_shared_1 1 rfl rfl ?_
  obtain ⟨t1, u2, h⟩ := zbi h
  rcases o3 : t1 with vt1 | Et1
  · have h := zslo o3 h
    refine g_callVx (M := mX7_shared) [.int (iI a1)] hX dX7_shared_2 vX7_requireRow kM_X7_167 (wX7_requireRow hX bn  u2) (congrArg zoV o3) 0 (zWs_at (by omega) ((zSt_c 0 rfl (show σ 0 = (σ 0) from rfl))).o) rfl ⟨(Nat.le_of_ble_eq_true rfl), (Nat.le_of_ble_eq_true rfl)⟩ ⟨(show 0 + 1 ≤ 3 + zNt (σ 10) (σ 4) by omega), (show 0 + 6 ≤ 18 + 4096 * zNt (σ 10) (σ 4) by omega)⟩ (Nat.le_of_ble_eq_true rfl) ?_
    refine g_aload_n (M := mX7_shared) dX7_shared_5 0 rfl rfl ?_
    refine g_iload_n (M := mX7_shared) dX7_shared_6 2 rfl rfl ?_
    obtain ⟨t4, u5, h⟩ := zbi h
    rcases o6 : t4 with vt4 | Et4
    · have h := zslo o6 h
      refine g_callVx (M := mX7_shared) [.int (iI a2)] hX dX7_shared_7 vX7_requireRow kM_X7_167 (wX7_requireRow hX bn  u5) (congrArg zoV o6) 0 (zWs_at (by omega) ((zSt_c 0 rfl (show σ 0 = (σ 0) from rfl))).o) rfl ⟨(Nat.le_of_ble_eq_true rfl), (Nat.le_of_ble_eq_true rfl)⟩ ⟨(show 1 + 1 ≤ 3 + zNt (σ 10) (σ 4) by omega), (show 6 + 6 ≤ 18 + 4096 * zNt (σ 10) (σ 4) by omega)⟩ (Nat.le_of_ble_eq_true rfl) ?_
      refine g_aload_n (M := mX7_shared) dX7_shared_10 0 rfl rfl ?_
      refine k_get (M := mX7_shared) (v := .ref (A 47)) dX7_shared_11 kF_X7_67.r 0 (by omega) ((zSt_c 0 rfl (show σ 0 = (σ 0) from rfl))).o rfl ?_
      refine g_aload_n (M := mX7_shared) dX7_shared_14 0 rfl rfl ?_
      refine k_get (M := mX7_shared) (v := .ref (A 12)) dX7_shared_15 kF_X7_33.r 0 (by omega) ((zSt_c 0 rfl (show σ 0 = (σ 0) from rfl))).o rfl ?_
      refine g_iload_n (M := mX7_shared) dX7_shared_18 1 rfl rfl ?_
      refine g_iload_n (M := mX7_shared) dX7_shared_19 2 rfl rfl ?_
      obtain ⟨g7, h⟩ := zgi h
      obtain ⟨t8, u9, h⟩ := zbi h
      refine g_callVA (M := mX7_shared) [.ref (A 12), .int (iI a1), .int (iI a2)] hX dX7_shared_20 vX4_markShared kM_X7_235 (wX4_markShared hX (zSt_c 10 rfl (show σ 10 = (σ 10) from rfl)) (by omega) (zSt_c 4 rfl (show σ 4 = (σ 4) from rfl)) (by omega) (by omega) u9) (fun _ => rfl) 47 (zWs_at (by omega) ((zSt_c 10 rfl (show σ 10 = (σ 10) from rfl))).o) rfl ⟨(Nat.le_of_ble_eq_true rfl), (Nat.le_of_ble_eq_true rfl)⟩ ⟨g7.1, g7.2⟩ (Nat.le_of_ble_eq_true rfl) (fun A10 hnA10 => ?_)
      refine g_ws (M := mX7_shared) (congrArg (zWs A10 n) (zSt_pa (A := A) 10 rfl (by decide) (by decide) (fun k hk => hnA10 k hk))) ?_
      have hAc11 : ∀ k, ¬ (fun k => 1 ≤ k ∧ k < 91) k → A10 k = A k := fun k hk => (hnA10 k (by omega)).trans (rfl)
      refine g_lvc (M := mX7_shared) (lv' := [(0, .ref (A10 0)), (1, .int (iI a1)), (2, .int (iI a2))]) (by rw [hnA10 0 (by omega)]) ?_
      refine g_aload_n (M := mX7_shared) dX7_shared_23 0 rfl rfl ?_
      refine k_get (M := mX7_shared) (v := .ref (A10 47)) dX7_shared_24 kF_X7_67.r 0 (by omega) ((zSt_c 0 rfl (show (zSu σ 10 t8) 0 = (σ 0) from rfl))).o rfl ?_
      obtain ⟨t12, u13, h⟩ := zbi h
      refine g_callVr (M := mX7_shared) [] hX dX7_shared_27 vX4_marked kM_X7_239 (wX4_marked hX (zSt_c 10 rfl (show (zSu σ 10 t8) 10 = t8 from rfl)) (by omega)  u13) 47 (zWs_at (by omega) ((zSt_c 10 rfl (show (zSu σ 10 t8) 10 = t8 from rfl))).o) rfl ⟨(Nat.le_of_ble_eq_true rfl), (Nat.le_of_ble_eq_true rfl)⟩ ⟨(show 2 + (1 * zNt (σ 10) (σ 4)) + 0 ≤ 3 + zNt (σ 10) (σ 4) by omega), (show 12 + (4096 * zNt (σ 10) (σ 4)) + 0 ≤ 18 + 4096 * zNt (σ 10) (σ 4) by omega)⟩ (Nat.le_of_ble_eq_true rfl) ?_
      have e := (Option.some.inj h)
      subst e
      exact g_iret (M := mX7_shared) dX7_shared_30 rfl (by simpa using g7.1) (by simpa using g7.2) ⟨_, hAc11, rfl, rfl⟩
    · have h := zsro o6 h
      obtain ⟨g14, h⟩ := zgi h
      have e := (Option.some.inj h)
      subst e
      exact g_callVe (M := mX7_shared) [.int (iI a2)] hX dX7_shared_7 vX7_requireRow kM_X7_167 (wX7_requireRow hX bn  u5) (congrArg zoV o6) 0 (zWs_at (by omega) ((zSt_c 0 rfl (show σ 0 = (σ 0) from rfl))).o) rfl ⟨(Nat.le_of_ble_eq_true rfl), (Nat.le_of_ble_eq_true rfl)⟩ ⟨(show 1 + 1 ≤ 3 + zNt (σ 10) (σ 4) by omega), (show 6 + 6 ≤ 18 + 4096 * zNt (σ 10) (σ 4) by omega)⟩ (Nat.le_of_ble_eq_true rfl) (gx_out rfl (by simpa using g14.1) (by simpa using g14.2) ⟨_, (fun _ _ => rfl), rfl, rfl⟩)
  · have h := zsro o3 h
    obtain ⟨g15, h⟩ := zgi h
    have e := (Option.some.inj h)
    subst e
    exact g_callVe (M := mX7_shared) [.int (iI a1)] hX dX7_shared_2 vX7_requireRow kM_X7_167 (wX7_requireRow hX bn  u2) (congrArg zoV o3) 0 (zWs_at (by omega) ((zSt_c 0 rfl (show σ 0 = (σ 0) from rfl))).o) rfl ⟨(Nat.le_of_ble_eq_true rfl), (Nat.le_of_ble_eq_true rfl)⟩ ⟨(show 0 + 1 ≤ 3 + zNt (σ 10) (σ 4) by omega), (show 0 + 6 ≤ 18 + 4096 * zNt (σ 10) (σ 4) by omega)⟩ (Nat.le_of_ble_eq_true rfl) (gx_out rfl (by simpa using g15.1) (by simpa using g15.2) ⟨_, (fun _ _ => rfl), rfl, rfl⟩)
set_option maxHeartbeats 4000000 in
set_option maxRecDepth 100000 in
theorem wX7_sharedAt {X : zX} (hX : zOK X) {A : Nat → Nat} {n : Nat} {S : Nat → va_E} {σ : CS} (bn : 91 ≤ n) {a1 : Int} {a2 : Int} {a3 : Int} {res : CS × (Int ⊕ String)} (h : fX7_sharedAt σ a1 a2 a3 = some res) : Con X yX7_sharedAt mX7_sharedAt 7 (3 + zNt (σ 10) (σ 4)) (18 + 4096 * zNt (σ 10) (σ 4)) [.ref (A 0), .int (iI a1), .int (iI a2), .int (iI a3)] (zWs A n (zSt X A σ S)) (zRA A (fun k => 1 ≤ k ∧ k < 91) (fun A' => (zWs A' n (zSt X A' res.1 S))) (fun A' => zoI res.2)) := by
  refine con_of (lv := [(0, .ref (A 0)), (1, .int (iI a1)), (2, .int (iI a2)), (3, .int (iI a3))]) (by decide) rfl (fun h => by cases h) rfl (Nat.le_of_ble_eq_true rfl) rfl ?_
  unfold fX7_sharedAt at h
  refine g_aload_n (M := mX7_sharedAt) dX7_sharedAt_0 0 rfl rfl ?_
  refine g_iload_n (M := mX7_sharedAt) dX7_sharedAt_1 1 rfl rfl ?_
  obtain ⟨t1, u2, h⟩ := zbi h
  rcases o3 : t1 with vt1 | Et1
  · have h := zslo o3 h
    refine g_callVx (M := mX7_sharedAt) [.int (iI a1)] hX dX7_sharedAt_2 vX7_requireRow kM_X7_167 (wX7_requireRow hX bn  u2) (congrArg zoV o3) 0 (zWs_at (by omega) ((zSt_c 0 rfl (show σ 0 = (σ 0) from rfl))).o) rfl ⟨(Nat.le_of_ble_eq_true rfl), (Nat.le_of_ble_eq_true rfl)⟩ ⟨(show 0 + 1 ≤ 3 + zNt (σ 10) (σ 4) by omega), (show 0 + 6 ≤ 18 + 4096 * zNt (σ 10) (σ 4) by omega)⟩ (Nat.le_of_ble_eq_true rfl) ?_
    refine g_aload_n (M := mX7_sharedAt) dX7_sharedAt_5 0 rfl rfl ?_
    refine g_iload_n (M := mX7_sharedAt) dX7_sharedAt_6 2 rfl rfl ?_
    obtain ⟨t4, u5, h⟩ := zbi h
    rcases o6 : t4 with vt4 | Et4
    · have h := zslo o6 h
      refine g_callVx (M := mX7_sharedAt) [.int (iI a2)] hX dX7_sharedAt_7 vX7_requireRow kM_X7_167 (wX7_requireRow hX bn  u5) (congrArg zoV o6) 0 (zWs_at (by omega) ((zSt_c 0 rfl (show σ 0 = (σ 0) from rfl))).o) rfl ⟨(Nat.le_of_ble_eq_true rfl), (Nat.le_of_ble_eq_true rfl)⟩ ⟨(show 1 + 1 ≤ 3 + zNt (σ 10) (σ 4) by omega), (show 6 + 6 ≤ 18 + 4096 * zNt (σ 10) (σ 4) by omega)⟩ (Nat.le_of_ble_eq_true rfl) ?_
      refine g_aload_n (M := mX7_sharedAt) dX7_sharedAt_10 0 rfl rfl ?_
      refine k_get (M := mX7_sharedAt) (v := .ref (A 47)) dX7_sharedAt_11 kF_X7_67.r 0 (by omega) ((zSt_c 0 rfl (show σ 0 = (σ 0) from rfl))).o rfl ?_
      refine g_aload_n (M := mX7_sharedAt) dX7_sharedAt_14 0 rfl rfl ?_
      refine k_get (M := mX7_sharedAt) (v := .ref (A 12)) dX7_sharedAt_15 kF_X7_33.r 0 (by omega) ((zSt_c 0 rfl (show σ 0 = (σ 0) from rfl))).o rfl ?_
      refine g_iload_n (M := mX7_sharedAt) dX7_sharedAt_18 1 rfl rfl ?_
      refine g_iload_n (M := mX7_sharedAt) dX7_sharedAt_19 2 rfl rfl ?_
      obtain ⟨g7, h⟩ := zgi h
      obtain ⟨t8, u9, h⟩ := zbi h
      refine g_callVA (M := mX7_sharedAt) [.ref (A 12), .int (iI a1), .int (iI a2)] hX dX7_sharedAt_20 vX4_markShared kM_X7_235 (wX4_markShared hX (zSt_c 10 rfl (show σ 10 = (σ 10) from rfl)) (by omega) (zSt_c 4 rfl (show σ 4 = (σ 4) from rfl)) (by omega) (by omega) u9) (fun _ => rfl) 47 (zWs_at (by omega) ((zSt_c 10 rfl (show σ 10 = (σ 10) from rfl))).o) rfl ⟨(Nat.le_of_ble_eq_true rfl), (Nat.le_of_ble_eq_true rfl)⟩ ⟨g7.1, g7.2⟩ (Nat.le_of_ble_eq_true rfl) (fun A10 hnA10 => ?_)
      refine g_ws (M := mX7_sharedAt) (congrArg (zWs A10 n) (zSt_pa (A := A) 10 rfl (by decide) (by decide) (fun k hk => hnA10 k hk))) ?_
      have hAc11 : ∀ k, ¬ (fun k => 1 ≤ k ∧ k < 91) k → A10 k = A k := fun k hk => (hnA10 k (by omega)).trans (rfl)
      refine g_lvc (M := mX7_sharedAt) (lv' := [(0, .ref (A10 0)), (1, .int (iI a1)), (2, .int (iI a2)), (3, .int (iI a3))]) (by rw [hnA10 0 (by omega)]) ?_
      refine g_aload_n (M := mX7_sharedAt) dX7_sharedAt_23 0 rfl rfl ?_
      refine k_get (M := mX7_sharedAt) (v := .ref (A10 47)) dX7_sharedAt_24 kF_X7_67.r 0 (by omega) ((zSt_c 0 rfl (show (zSu σ 10 t8) 0 = (σ 0) from rfl))).o rfl ?_
      refine g_iload_n (M := mX7_sharedAt) dX7_sharedAt_27 3 rfl rfl ?_
      obtain ⟨t12, u13, h⟩ := zbi h
      refine g_callVr (M := mX7_sharedAt) [.int (iI a3)] hX dX7_sharedAt_28 vX4_markedAt kM_X7_242 (wX4_markedAt hX (zSt_c 10 rfl (show (zSu σ 10 t8) 10 = t8 from rfl)) (by omega)  u13) 47 (zWs_at (by omega) ((zSt_c 10 rfl (show (zSu σ 10 t8) 10 = t8 from rfl))).o) rfl ⟨(Nat.le_of_ble_eq_true rfl), (Nat.le_of_ble_eq_true rfl)⟩ ⟨(show 2 + (1 * zNt (σ 10) (σ 4)) + 0 ≤ 3 + zNt (σ 10) (σ 4) by omega), (show 12 + (4096 * zNt (σ 10) (σ 4)) + 0 ≤ 18 + 4096 * zNt (σ 10) (σ 4) by omega)⟩ (Nat.le_of_ble_eq_true rfl) ?_
      have e := (Option.some.inj h)
      subst e
      exact g_iret (M := mX7_sharedAt) dX7_sharedAt_31 rfl (by simpa using g7.1) (by simpa using g7.2) ⟨_, hAc11, rfl, rfl⟩
    · have h := zsro o6 h
      obtain ⟨g14, h⟩ := zgi h
      have e := (Option.some.inj h)
      subst e
      exact g_callVe (M := mX7_sharedAt) [.int (iI a2)] hX dX7_sharedAt_7 vX7_requireRow kM_X7_167 (wX7_requireRow hX bn  u5) (congrArg zoV o6) 0 (zWs_at (by omega) ((zSt_c 0 rfl (show σ 0 = (σ 0) from rfl))).o) rfl ⟨(Nat.le_of_ble_eq_true rfl), (Nat.le_of_ble_eq_true rfl)⟩ ⟨(show 1 + 1 ≤ 3 + zNt (σ 10) (σ 4) by omega), (show 6 + 6 ≤ 18 + 4096 * zNt (σ 10) (σ 4) by omega)⟩ (Nat.le_of_ble_eq_true rfl) (gx_out rfl (by simpa using g14.1) (by simpa using g14.2) ⟨_, (fun _ _ => rfl), rfl, rfl⟩)
  · have h := zsro o3 h
    obtain ⟨g15, h⟩ := zgi h
    have e := (Option.some.inj h)
    subst e
    exact g_callVe (M := mX7_sharedAt) [.int (iI a1)] hX dX7_sharedAt_2 vX7_requireRow kM_X7_167 (wX7_requireRow hX bn  u2) (congrArg zoV o3) 0 (zWs_at (by omega) ((zSt_c 0 rfl (show σ 0 = (σ 0) from rfl))).o) rfl ⟨(Nat.le_of_ble_eq_true rfl), (Nat.le_of_ble_eq_true rfl)⟩ ⟨(show 0 + 1 ≤ 3 + zNt (σ 10) (σ 4) by omega), (show 0 + 6 ≤ 18 + 4096 * zNt (σ 10) (σ 4) by omega)⟩ (Nat.le_of_ble_eq_true rfl) (gx_out rfl (by simpa using g15.1) (by simpa using g15.2) ⟨_, (fun _ _ => rfl), rfl, rfl⟩)
