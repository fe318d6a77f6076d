set_option maxHeartbeats 4000000 in
set_option maxRecDepth 100000 in
theorem wX7_agreement {X : zX} (hX : zOK X) {A : Nat → Nat} {n : Nat} {S : Nat → va_E} {σ : CS} (bn : 91 ≤ n) {res : CS × Int} (h : fX7_agreement σ = some res) : Con X yX7_agreement mX7_agreement 3 0 0 [.ref (A 0)] (zWs A n (zSt X A σ S)) (zRA A (fun k => 1 ≤ k ∧ k < 91) (fun A' => (zWs A' n (zSt X A' res.1 S))) (fun A' => .inl (some (.int (iI res.2))))) := by
  refine con_of (lv := [(0, .ref (A 0))]) (by decide) rfl (fun h => by cases h) rfl (Nat.le_of_ble_eq_true rfl) rfl ?_
  unfold fX7_agreement at h
  refine g_aload_n (M := mX7_agreement) dX7_agreement_0 0 rfl rfl ?_
  refine k_get (M := mX7_agreement) (v := .ref (A 45)) dX7_agreement_1 kF_X7_60.r 0 (by omega) ((zSt_c 0 rfl (show σ 0 = (σ 0) from rfl))).o rfl ?_
  refine g_aload_n (M := mX7_agreement) dX7_agreement_4 0 rfl rfl ?_
  refine k_get (M := mX7_agreement) (v := .ref (A 12)) dX7_agreement_5 kF_X7_33.r 0 (by omega) ((zSt_c 0 rfl (show σ 0 = (σ 0) from rfl))).o rfl ?_
  obtain ⟨t1, u2, h⟩ := zbi h
  refine g_callVr (M := mX7_agreement) [.ref (A 12)] hX dX7_agreement_8 vX1_agreementOf kM_X7_326 (wX1_agreementOf hX (zSt_c 9 rfl (show σ 9 = (σ 9) from rfl)) (by omega) (zSt_c 4 rfl (show σ 4 = (σ 4) from rfl)) (by omega) (by omega) u2) 45 (zWs_at (by omega) ((zSt_c 9 rfl (show σ 9 = (σ 9) from rfl))).o) rfl ⟨(Nat.le_of_ble_eq_true rfl), (Nat.le_of_ble_eq_true rfl)⟩ ⟨(Nat.le_of_ble_eq_true rfl), (Nat.le_of_ble_eq_true rfl)⟩ (Nat.le_of_ble_eq_true rfl) ?_
  refine g_ws (M := mX7_agreement) (congrArg (fun z => zWs A n (z)) (zSt_p 9 rfl)) ?_
  have e := (Option.some.inj h)
  subst e
  exact g_iret (M := mX7_agreement) dX7_agreement_11 rfl (Nat.le_of_ble_eq_true rfl) (Nat.le_of_ble_eq_true rfl) ⟨_, (fun _ _ => rfl), rfl, rfl⟩
set_option maxHeartbeats 4000000 in
set_option maxRecDepth 100000 in
theorem wX7_agreementFrom {X : zX} (hX : zOK X) {A : Nat → Nat} {n : Nat} {S : Nat → va_E} {σ : CS} (bn : 91 ≤ n) {a1 : Int} {a2 : Int} {res : CS × Int} (h : fX7_agreementFrom σ a1 a2 = some res) : Con X yX7_agreementFrom mX7_agreementFrom 5 0 0 [.ref (A 0), .int (iI a1), .int (iI a2)] (zWs A n (zSt X A σ S)) (zRA A (fun k => 1 ≤ k ∧ k < 91) (fun A' => (zWs A' n (zSt X A' res.1 S))) (fun A' => .inl (some (.int (iI res.2))))) := by
  refine con_of (lv := [(0, .ref (A 0)), (1, .int (iI a1)), (2, .int (iI a2))]) (by decide) rfl (fun h => by cases h) rfl (Nat.le_of_ble_eq_true rfl) rfl ?_
  unfold fX7_agreementFrom at h
  refine g_aload_n (M := mX7_agreementFrom) dX7_agreementFrom_0 0 rfl rfl ?_
  refine k_get (M := mX7_agreementFrom) (v := .ref (A 26)) dX7_agreementFrom_1 kF_X7_40.r 0 (by omega) ((zSt_c 0 rfl (show σ 0 = (σ 0) from rfl))).o rfl ?_
  refine g_aload_n (M := mX7_agreementFrom) dX7_agreementFrom_4 0 rfl rfl ?_
  refine k_get (M := mX7_agreementFrom) (v := .ref (A 12)) dX7_agreementFrom_5 kF_X7_33.r 0 (by omega) ((zSt_c 0 rfl (show σ 0 = (σ 0) from rfl))).o rfl ?_
  obtain ⟨t1, u2, h⟩ := zbi h
  refine g_callVr (M := mX7_agreementFrom) [.ref (A 12)] hX dX7_agreementFrom_8 vX0_copyFrom kM_X7_305 (wX0_copyFrom hX (zSt_c 6 rfl (show σ 6 = (σ 6) from rfl)) (by omega) (zSt_c 4 rfl (show σ 4 = (σ 4) from rfl)) (by omega) (by omega) u2) 26 (zWs_at (by omega) ((zSt_c 6 rfl (show σ 6 = (σ 6) from rfl))).o) rfl ⟨(Nat.le_of_ble_eq_true rfl), (Nat.le_of_ble_eq_true rfl)⟩ ⟨(Nat.le_of_ble_eq_true rfl), (Nat.le_of_ble_eq_true rfl)⟩ (Nat.le_of_ble_eq_true rfl) ?_
  refine g_ws (M := mX7_agreementFrom) (congrArg (fun z => zWs A n (z)) (zSt_p 6 rfl)) ?_
  refine h_iconst (M := mX7_agreementFrom) dX7_agreementFrom_11 ?_
  refine g_istore_n (M := mX7_agreementFrom) (lv' := [(0, .ref (A 0)), (1, .int (iI a1)), (2, .int (iI a2)), (3, .int (iI 0))]) dX7_agreementFrom_12 rfl (by decide) rfl ?_
  obtain ⟨x3, l3, h⟩ := zbi h
  have r3 : ∀ y3, y3 = x3 → ∀ (Ar3 : Nat → Nat), (∀ k, ¬ (fun k => 1 ≤ k ∧ k < 91) k → Ar3 k = A k) → G X mX7_agreementFrom (zPm X 5 0 0 (zRA A (fun k => 1 ≤ k ∧ k < 91) (fun A' => (zWs A' n (zSt X A' res.1 S))) (fun A' => .inl (some (.int (iI res.2)))))) 0 0 40 [(0, .ref (Ar3 0)), (1, .int (iI a1)), (2, .int (iI a2))] [] (zWs Ar3 n (zSt X Ar3 y3.2 S)) := by
    intro y3 ey
    intro Ar3 hAr3
    rw [← ey] at h
    refine g_aload_n (M := mX7_agreementFrom) dX7_agreementFrom_40 0 rfl rfl ?_
    refine k_get (M := mX7_agreementFrom) (v := .ref (Ar3 26)) dX7_agreementFrom_41 kF_X7_40.r 0 (by omega) ((zSt_c 0 rfl (show y3.2 0 = (y3.2 0) from rfl))).o rfl ?_
    refine k_get (M := mX7_agreementFrom) (v := .ref (Ar3 (26 + 5))) dX7_agreementFrom_44 kF_X7_177 26 (by omega) ((zSt_c 6 rfl (show y3.2 6 = (y3.2 6) from rfl))).o rfl ?_
    refine g_iload_n (M := mX7_agreementFrom) dX7_agreementFrom_47 1 rfl rfl ?_
    refine g_iload_n (M := mX7_agreementFrom) dX7_agreementFrom_48 2 rfl rfl ?_
    obtain ⟨g7, h⟩ := zgi h
    refine g_ws (M := mX7_agreementFrom) (congrArg (zWs Ar3 n) (zSt_c 6 rfl (show y3.2 6 = (y3.2 6) from rfl)).symm) ?_
    refine c_iast (M := mX7_agreementFrom) (len := 10) (d := (0, 10)) dX7_agreementFrom_49 4 rfl rfl (by omega) (Nat.le_of_ble_eq_true rfl) g7.1 g7.2 ?_
    refine g_ws (M := mX7_agreementFrom) (congrArg (zWs Ar3 n) (zSt_p 6 rfl)) ?_
    refine g_aload_n (M := mX7_agreementFrom) dX7_agreementFrom_50 0 rfl rfl ?_
    refine k_get (M := mX7_agreementFrom) (v := .ref (Ar3 45)) dX7_agreementFrom_51 kF_X7_60.r 0 (by omega) ((zSt_c 0 rfl (show (zSu y3.2 6 (zPa (y3.2 6) 5 a1 a2)) 0 = (y3.2 0) from rfl))).o rfl ?_
    refine g_aload_n (M := mX7_agreementFrom) dX7_agreementFrom_54 0 rfl rfl ?_
    refine k_get (M := mX7_agreementFrom) (v := .ref (Ar3 26)) dX7_agreementFrom_55 kF_X7_40.r 0 (by omega) ((zSt_c 0 rfl (show (zSu y3.2 6 (zPa (y3.2 6) 5 a1 a2)) 0 = (y3.2 0) from rfl))).o rfl ?_
    refine h_bipush (M := mX7_agreementFrom) dX7_agreementFrom_58 rfl ?_
    obtain ⟨t8, u9, h⟩ := zbi h
    refine g_callVr (M := mX7_agreementFrom) [.ref (Ar3 26), .int (iI 50)] hX dX7_agreementFrom_60 vX1_improveAtMost kM_X7_360 (wX1_improveAtMost hX (zSt_c 9 rfl (show (zSu y3.2 6 (zPa (y3.2 6) 5 a1 a2)) 9 = (y3.2 9) from rfl)) (by omega) (zSt_c 6 rfl (show (zSu y3.2 6 (zPa (y3.2 6) 5 a1 a2)) 6 = (zPa (y3.2 6) 5 a1 a2) from rfl)) (by omega) (by omega) u9) 45 (zWs_at (by omega) ((zSt_c 9 rfl (show (zSu y3.2 6 (zPa (y3.2 6) 5 a1 a2)) 9 = (y3.2 9) from rfl))).o) rfl ⟨(Nat.le_of_ble_eq_true rfl), (Nat.le_of_ble_eq_true rfl)⟩ ⟨(Nat.le_of_ble_eq_true rfl), (Nat.le_of_ble_eq_true rfl)⟩ (Nat.le_of_ble_eq_true rfl) ?_
    refine g_ws (M := mX7_agreementFrom) (congrArg (fun z => zWs Ar3 n (zC X Ar3 shB 26 t8.2.1 (z))) (zSt_p 9 rfl)) ?_
    refine g_ws (M := mX7_agreementFrom) (congrArg (fun z => zWs Ar3 n (z)) (zSt_p 6 rfl)) ?_
    refine g_pop (M := mX7_agreementFrom) dX7_agreementFrom_63 rfl ?_
    refine g_aload_n (M := mX7_agreementFrom) dX7_agreementFrom_64 0 rfl rfl ?_
    refine k_get (M := mX7_agreementFrom) (v := .ref (Ar3 45)) dX7_agreementFrom_65 kF_X7_60.r 0 (by omega) ((zSt_c 0 rfl (show (zSu (zSu (zSu y3.2 6 (zPa (y3.2 6) 5 a1 a2)) 9 t8.1) 6 t8.2.1) 0 = (y3.2 0) from rfl))).o rfl ?_
    refine g_aload_n (M := mX7_agreementFrom) dX7_agreementFrom_68 0 rfl rfl ?_
    refine k_get (M := mX7_agreementFrom) (v := .ref (Ar3 26)) dX7_agreementFrom_69 kF_X7_40.r 0 (by omega) ((zSt_c 0 rfl (show (zSu (zSu (zSu y3.2 6 (zPa (y3.2 6) 5 a1 a2)) 9 t8.1) 6 t8.2.1) 0 = (y3.2 0) from rfl))).o rfl ?_
    obtain ⟨t10, u11, h⟩ := zbi h
    refine g_callVr (M := mX7_agreementFrom) [.ref (Ar3 26)] hX dX7_agreementFrom_72 vX1_agreementOf kM_X7_326 (wX1_agreementOf hX (zSt_c 9 rfl (show (zSu (zSu (zSu y3.2 6 (zPa (y3.2 6) 5 a1 a2)) 9 t8.1) 6 t8.2.1) 9 = t8.1 from rfl)) (by omega) (zSt_c 6 rfl (show (zSu (zSu (zSu y3.2 6 (zPa (y3.2 6) 5 a1 a2)) 9 t8.1) 6 t8.2.1) 6 = t8.2.1 from rfl)) (by omega) (by omega) u11) 45 (zWs_at (by omega) ((zSt_c 9 rfl (show (zSu (zSu (zSu y3.2 6 (zPa (y3.2 6) 5 a1 a2)) 9 t8.1) 6 t8.2.1) 9 = t8.1 from rfl))).o) rfl ⟨(Nat.le_of_ble_eq_true rfl), (Nat.le_of_ble_eq_true rfl)⟩ ⟨(Nat.le_of_ble_eq_true rfl), (Nat.le_of_ble_eq_true rfl)⟩ (Nat.le_of_ble_eq_true rfl) ?_
    refine g_ws (M := mX7_agreementFrom) (congrArg (fun z => zWs Ar3 n (z)) (zSt_p 9 rfl)) ?_
    have e := (Option.some.inj h)
    subst e
    exact g_iret (M := mX7_agreementFrom) dX7_agreementFrom_75 rfl (Nat.le_of_ble_eq_true rfl) (Nat.le_of_ble_eq_true rfl) ⟨_, hAr3, rfl, rfl⟩
  refine zLp_J (J := fun s3 => ∀ (Al3 : Nat → Nat), (∀ k, ¬ (fun k => 1 ≤ k ∧ k < 91) k → Al3 k = A k) → G X mX7_agreementFrom (zPm X 5 0 0 (zRA A (fun k => 1 ≤ k ∧ k < 91) (fun A' => (zWs A' n (zSt X A' res.1 S))) (fun A' => .inl (some (.int (iI res.2)))))) 0 0 13 [(0, .ref (Al3 0)), (1, .int (iI a1)), (2, .int (iI a2)), (3, .int (iI s3.1))] [] (zWs Al3 n (zSt X Al3 s3.2 S))) (fun s3 w3 h3 b3 e3 => ?_) _ _ l3 A (fun _ _ => rfl)
  intro Al3 hAl3
  refine g_iload_n (M := mX7_agreementFrom) dX7_agreementFrom_13 3 rfl rfl ?_
  refine g_aload_n (M := mX7_agreementFrom) dX7_agreementFrom_14 0 rfl rfl ?_
  refine k_get (M := mX7_agreementFrom) (v := .ref (Al3 26)) dX7_agreementFrom_15 kF_X7_40.r 0 (by omega) ((zSt_c 0 rfl (show s3.2 0 = (s3.2 0) from rfl))).o rfl ?_
  refine k_get (M := mX7_agreementFrom) (v := .int (iI ((s3.2 6).1 3))) dX7_agreementFrom_18 kF_X7_108.r 26 (by omega) ((zSt_c 6 rfl (show s3.2 6 = (s3.2 6) from rfl))).o rfl ?_
  obtain ⟨g13, h3⟩ := zgi h3
  refine h_icmp_ge (M := mX7_agreementFrom) (tgt := 40) dX7_agreementFrom_21 (by decide) g13.1 g13.2 (fun c12 => ?_) (fun c12 => ?_)
  · have h3 := zti c12 h3
    refine g_lv (M := mX7_agreementFrom) [0, 1, 2] rfl ?_
    exact r3 _ (e3 _ (Option.some.inj h3).symm) Al3 hAl3
  · have h3 := zfi (Int.not_le.mpr c12) h3
    refine g_aload_n (M := mX7_agreementFrom) dX7_agreementFrom_24 0 rfl rfl ?_
    refine k_get (M := mX7_agreementFrom) (v := .ref (Al3 26)) dX7_agreementFrom_25 kF_X7_40.r 0 (by omega) ((zSt_c 0 rfl (show s3.2 0 = (s3.2 0) from rfl))).o rfl ?_
    refine k_get (M := mX7_agreementFrom) (v := .ref (Al3 (26 + 5))) dX7_agreementFrom_28 kF_X7_177 26 (by omega) ((zSt_c 6 rfl (show s3.2 6 = (s3.2 6) from rfl))).o rfl ?_
    refine g_iload_n (M := mX7_agreementFrom) dX7_agreementFrom_31 3 rfl rfl ?_
    refine h_iconst (M := mX7_agreementFrom) dX7_agreementFrom_32 ?_
    obtain ⟨g14, h3⟩ := zgi h3
    refine g_ws (M := mX7_agreementFrom) (congrArg (zWs Al3 n) (zSt_c 6 rfl (show s3.2 6 = (s3.2 6) from rfl)).symm) ?_
    refine c_iast (M := mX7_agreementFrom) (len := 10) (d := (0, 10)) dX7_agreementFrom_33 4 rfl rfl (by omega) (Nat.le_of_ble_eq_true rfl) g14.1 g14.2 ?_
    refine g_ws (M := mX7_agreementFrom) (congrArg (zWs Al3 n) (zSt_p 6 rfl)) ?_
    refine h_iinc (M := mX7_agreementFrom) (j := 3) (lv' := [(0, .ref (Al3 0)), (1, .int (iI a1)), (2, .int (iI a2)), (3, .int (iI (s3.1 + 1)))]) dX7_agreementFrom_34 rfl (Nat.le_of_ble_eq_true rfl) rfl ?_
    refine g_goto (M := mX7_agreementFrom) (tgt := 13) dX7_agreementFrom_37 (by decide) ?_
    exact b3 _ (Option.some.inj h3).symm Al3 hAl3
set_option maxHeartbeats 4000000 in
set_option maxRecDepth 100000 in
theorem wX7_agreementShare {X : zX} (hX : zOK X) {A : Nat → Nat} {n : Nat} {S : Nat → va_E} {σ : CS} (bn : 91 ≤ n) {res : CS × UInt32} (h : fX7_agreementShare σ = some res) : Con X yX7_agreementShare mX7_agreementShare 4 0 0 [.ref (A 0)] (zWs A n (zSt X A σ S)) (zRA A (fun k => 1 ≤ k ∧ k < 91) (fun A' => (zWs A' n (zSt X A' res.1 S))) (fun A' => .inl (some (.float res.2)))) := by
  refine con_of (lv := [(0, .ref (A 0))]) (by decide) rfl (fun h => by cases h) rfl (Nat.le_of_ble_eq_true rfl) rfl ?_
  unfold fX7_agreementShare at h
  refine g_aload_n (M := mX7_agreementShare) dX7_agreementShare_0 0 rfl rfl ?_
  refine k_get (M := mX7_agreementShare) (v := .ref (A 12)) dX7_agreementShare_1 kF_X7_33.r 0 (by omega) ((zSt_c 0 rfl (show σ 0 = (σ 0) from rfl))).o rfl ?_
  refine k_get (M := mX7_agreementShare) (v := .int (iI ((σ 4).1 1))) dX7_agreementShare_4 kF_X7_134.r 12 (by omega) ((zSt_c 4 rfl (show σ 4 = (σ 4) from rfl))).o rfl ?_
  refine g_aload_n (M := mX7_agreementShare) dX7_agreementShare_7 0 rfl rfl ?_
  refine k_get (M := mX7_agreementShare) (v := .ref (A 12)) dX7_agreementShare_8 kF_X7_33.r 0 (by omega) ((zSt_c 0 rfl (show σ 0 = (σ 0) from rfl))).o rfl ?_
  obtain ⟨t1, u2, h⟩ := zbi h
  refine g_callVr (M := mX7_agreementShare) [] hX dX7_agreementShare_11 vX0_chosenRows kM_X7_162 (wX0_chosenRows hX (zSt_c 4 rfl (show σ 4 = (σ 4) from rfl)) (by omega)  u2) 12 (zWs_at (by omega) ((zSt_c 4 rfl (show σ 4 = (σ 4) from rfl))).o) rfl ⟨(Nat.le_of_ble_eq_true rfl), (Nat.le_of_ble_eq_true rfl)⟩ ⟨(Nat.le_of_ble_eq_true rfl), (Nat.le_of_ble_eq_true rfl)⟩ (Nat.le_of_ble_eq_true rfl) ?_
  refine h_imul (M := mX7_agreementShare) dX7_agreementShare_14 ?_
  refine g_istore_n (M := mX7_agreementShare) (lv' := [(0, .ref (A 0)), (1, .int (iI (((σ 4).1 1) * t1)))]) dX7_agreementShare_15 rfl (by decide) rfl ?_
  refine g_iload_n (M := mX7_agreementShare) dX7_agreementShare_16 1 rfl rfl ?_
  obtain ⟨g4, h⟩ := zgi h
  refine h_if_le (M := mX7_agreementShare) (tgt := 31) dX7_agreementShare_17 (by decide) g4 (fun c3 => ?_) (fun c3 => ?_)
  · have h := zti c3 h
    refine g_fconst0 (M := mX7_agreementShare) dX7_agreementShare_31 ?_
    have e := (Option.some.inj h)
    subst e
    exact g_fret (M := mX7_agreementShare) dX7_agreementShare_32 rfl (Nat.le_of_ble_eq_true rfl) (Nat.le_of_ble_eq_true rfl) ⟨_, (fun _ _ => rfl), rfl, rfl⟩
  · have h := zfi (Int.not_le.mpr c3) h
    refine g_aload_n (M := mX7_agreementShare) dX7_agreementShare_20 0 rfl rfl ?_
    obtain ⟨t5, u6, h⟩ := zbi h
    refine g_callVA (M := mX7_agreementShare) [] hX dX7_agreementShare_21 vX7_agreement kM_X7_336 (wX7_agreement hX bn  u6) (fun _ => rfl) 0 (zWs_at (by omega) ((zSt_c 0 rfl (show σ 0 = (σ 0) from rfl))).o) rfl ⟨(Nat.le_of_ble_eq_true rfl), (Nat.le_of_ble_eq_true rfl)⟩ ⟨(Nat.le_of_ble_eq_true rfl), (Nat.le_of_ble_eq_true rfl)⟩ (Nat.le_of_ble_eq_true rfl) (fun A7 hnA7 => ?_)
    have hAc8 : ∀ k, ¬ (fun k => 1 ≤ k ∧ k < 91) k → A7 k = A k := fun k hk => (hnA7 k (by omega)).trans (rfl)
    refine g_lvc (M := mX7_agreementShare) (lv' := [(0, .ref (A7 0)), (1, .int (iI (((σ 4).1 1) * t1)))]) (by rw [hnA7 0 (by omega)]) ?_
    refine g_i2f (M := mX7_agreementShare) dX7_agreementShare_24 ?_
    refine g_iload_n (M := mX7_agreementShare) dX7_agreementShare_25 1 rfl rfl ?_
    refine g_i2f (M := mX7_agreementShare) dX7_agreementShare_26 ?_
    obtain ⟨g9, h⟩ := zgci h
    refine g_fdiv (M := mX7_agreementShare) dX7_agreementShare_27 g9 ?_
    refine g_goto (M := mX7_agreementShare) (tgt := 32) dX7_agreementShare_28 (by decide) ?_
    have e := (Option.some.inj h)
    subst e
    exact g_fret (M := mX7_agreementShare) dX7_agreementShare_32 rfl (Nat.le_of_ble_eq_true rfl) (Nat.le_of_ble_eq_true rfl) ⟨_, hAc8, rfl, rfl⟩
set_option maxHeartbeats 4000000 in
set_option maxRecDepth 100000 in
theorem wX7_searched {X : zX} (hX : zOK X) {A : Nat → Nat} {n : Nat} {S : Nat → va_E} {σ : CS} (bn : 91 ≤ n) {res : CS} (h : fX7_searched σ = some res) : Con X yX7_searched mX7_searched 8 (3 * zNd (σ 7) (σ 4)) (13652 * zNd (σ 7) (σ 4)) [.ref (A 0)] (zWs A n (zSt X A σ S)) (zRA A (fun k => 1 ≤ k ∧ k < 91) (fun A' => (zWs A' n (zSt X A' res S))) (fun A' => .inl (some (.ref (A' 33))))) := by
  refine con_of (lv := [(0, .ref (A 0))]) (by decide) rfl (fun h => by cases h) rfl (Nat.le_of_ble_eq_true rfl) rfl ?_
  unfold fX7_searched at h
  refine g_aload_n (M := mX7_searched) dX7_searched_0 0 rfl rfl ?_
  refine k_get (M := mX7_searched) (v := .ref (A 33)) dX7_searched_1 kF_X7_50.r 0 (by omega) ((zSt_c 0 rfl (show σ 0 = (σ 0) from rfl))).o rfl ?_
  refine g_aload_n (M := mX7_searched) dX7_searched_4 0 rfl rfl ?_
  refine k_get (M := mX7_searched) (v := .ref (A 12)) dX7_searched_5 kF_X7_33.r 0 (by omega) ((zSt_c 0 rfl (show σ 0 = (σ 0) from rfl))).o rfl ?_
  obtain ⟨g1, h⟩ := zgi h
  obtain ⟨t2, u3, h⟩ := zbi h
  refine g_callVA (M := mX7_searched) [.ref (A 12)] hX dX7_searched_8 vX3_go kM_X7_311 (wX3_go hX (zSt_c 7 rfl (show σ 7 = (σ 7) from rfl)) (by omega) (zSt_c 4 rfl (show σ 4 = (σ 4) from rfl)) (by omega) (by omega) u3) (fun _ => rfl) 33 (zWs_at (by omega) ((zSt_c 7 rfl (show σ 7 = (σ 7) from rfl))).o) rfl ⟨(Nat.le_of_ble_eq_true rfl), (Nat.le_of_ble_eq_true rfl)⟩ ⟨g1.1, g1.2⟩ (Nat.le_of_ble_eq_true rfl) (fun A4 hnA4 => ?_)
  refine g_ws (M := mX7_searched) (congrArg (zWs A4 n) (zSt_pa (A := A) 7 rfl (by decide) (by decide) (fun k hk => hnA4 k hk))) ?_
  have hAc5 : ∀ k, ¬ (fun k => 1 ≤ k ∧ k < 91) k → A4 k = A k := fun k hk => (hnA4 k (by omega)).trans (rfl)
  refine g_lvc (M := mX7_searched) (lv' := [(0, .ref (A4 0))]) (by rw [hnA4 0 (by omega)]) ?_
  refine g_aload_n (M := mX7_searched) dX7_searched_11 0 rfl rfl ?_
  refine k_get (M := mX7_searched) (v := .ref (A4 33)) dX7_searched_12 kF_X7_50.r 0 (by omega) ((zSt_c 0 rfl (show (zSu σ 7 t2) 0 = (σ 0) from rfl))).o rfl ?_
  have e := (Option.some.inj h)
  subst e
  exact g_aret (M := mX7_searched) dX7_searched_15 rfl (by simpa using g1.1) (by simpa using g1.2) ⟨_, hAc5, rfl, rfl⟩
set_option maxHeartbeats 4000000 in
set_option maxRecDepth 100000 in
theorem wX7_best {X : zX} (hX : zOK X) {A : Nat → Nat} {n : Nat} {S : Nat → va_E} {σ : CS} (bn : 91 ≤ n) {a1 : Int} {res : CS × (Int ⊕ String)} (h : fX7_best σ a1 = some res) : Con X yX7_best mX7_best 9 (2 + 3 * zNd (σ 7) (σ 4)) (12 + 13652 * zNd (σ 7) (σ 4)) [.ref (A 0), .int (iI a1)] (zWs A n (zSt X A σ S)) (zRA A (fun k => 1 ≤ k ∧ k < 91) (fun A' => (zWs A' n (zSt X A' res.1 S))) (fun A' => zoI res.2)) := by
  refine con_of (lv := [(0, .ref (A 0)), (1, .int (iI a1))]) (by decide) rfl (fun h => by cases h) rfl (Nat.le_of_ble_eq_true rfl) rfl ?_
  unfold fX7_best at h
  refine g_iload_n (M := mX7_best) dX7_best_0 1 rfl rfl ?_
  obtain ⟨g1, h⟩ := zgi h
  by_cases c2 : a1 = 0
  · have h := zti c2 h
    refine g_tableIn (M := mX7_best) (off := 31) (tgt := 32) dX7_best_1 (iI_tlo g1 (by omega)) (iI_thi g1 (by omega)) (iI_tat g1 c2 rfl) (by decide) ?_
    refine g_aload_n (M := mX7_best) dX7_best_32 0 rfl rfl ?_
    obtain ⟨g3, h⟩ := zgi h
    obtain ⟨t4, u5, h⟩ := zbi h
    refine g_callVA (M := mX7_best) [] hX dX7_best_33 vX7_searched kM_X7_267 (wX7_searched hX bn  u5) (fun _ => rfl) 0 (zWs_at (by omega) ((zSt_c 0 rfl (show σ 0 = (σ 0) from rfl))).o) rfl ⟨(Nat.le_of_ble_eq_true rfl), (Nat.le_of_ble_eq_true rfl)⟩ ⟨g3.1, g3.2⟩ (Nat.le_of_ble_eq_true rfl) (fun A6 hnA6 => ?_)
    have hAc7 : ∀ k, ¬ (fun k => 1 ≤ k ∧ k < 91) k → A6 k = A k := fun k hk => (hnA6 k (by omega)).trans (rfl)
    refine g_lvc (M := mX7_best) (lv' := [(0, .ref (A6 0)), (1, .int (iI a1))]) (by rw [hnA6 0 (by omega)]) ?_
    refine k_get (M := mX7_best) (v := .int (iI ((t4 7).1 9))) dX7_best_36 kF_X7_271.r 33 (by omega) ((zSt_c 7 rfl (show t4 7 = (t4 7) from rfl))).o rfl ?_
    have e := (Option.some.inj h)
    subst e
    exact g_iret (M := mX7_best) dX7_best_39 rfl (by simpa using g3.1) (by simpa using g3.2) ⟨_, hAc7, rfl, rfl⟩
  have h := zfi c2 h
  by_cases c8 : a1 = 1
  · have h := zti c8 h
    refine g_tableIn (M := mX7_best) (off := 39) (tgt := 40) dX7_best_1 (iI_tlo g1 (by omega)) (iI_thi g1 (by omega)) (iI_tat g1 c8 rfl) (by decide) ?_
    refine g_aload_n (M := mX7_best) dX7_best_40 0 rfl rfl ?_
    obtain ⟨g9, h⟩ := zgi h
    obtain ⟨t10, u11, h⟩ := zbi h
    refine g_callVA (M := mX7_best) [] hX dX7_best_41 vX7_searched kM_X7_267 (wX7_searched hX bn  u11) (fun _ => rfl) 0 (zWs_at (by omega) ((zSt_c 0 rfl (show σ 0 = (σ 0) from rfl))).o) rfl ⟨(Nat.le_of_ble_eq_true rfl), (Nat.le_of_ble_eq_true rfl)⟩ ⟨g9.1, g9.2⟩ (Nat.le_of_ble_eq_true rfl) (fun A12 hnA12 => ?_)
    have hAc13 : ∀ k, ¬ (fun k => 1 ≤ k ∧ k < 91) k → A12 k = A k := fun k hk => (hnA12 k (by omega)).trans (rfl)
    refine g_lvc (M := mX7_best) (lv' := [(0, .ref (A12 0)), (1, .int (iI a1))]) (by rw [hnA12 0 (by omega)]) ?_
    refine k_get (M := mX7_best) (v := .int (iI ((t10 7).1 10))) dX7_best_44 kF_X7_274.r 33 (by omega) ((zSt_c 7 rfl (show t10 7 = (t10 7) from rfl))).o rfl ?_
    have e := (Option.some.inj h)
    subst e
    exact g_iret (M := mX7_best) dX7_best_47 rfl (by simpa using g9.1) (by simpa using g9.2) ⟨_, hAc13, rfl, rfl⟩
  have h := zfi c8 h
  by_cases c14 : a1 = 2
  · have h := zti c14 h
    refine g_tableIn (M := mX7_best) (off := 47) (tgt := 48) dX7_best_1 (iI_tlo g1 (by omega)) (iI_thi g1 (by omega)) (iI_tat g1 c14 rfl) (by decide) ?_
    refine g_aload_n (M := mX7_best) dX7_best_48 0 rfl rfl ?_
    obtain ⟨g15, h⟩ := zgi h
    obtain ⟨t16, u17, h⟩ := zbi h
    refine g_callVA (M := mX7_best) [] hX dX7_best_49 vX7_searched kM_X7_267 (wX7_searched hX bn  u17) (fun _ => rfl) 0 (zWs_at (by omega) ((zSt_c 0 rfl (show σ 0 = (σ 0) from rfl))).o) rfl ⟨(Nat.le_of_ble_eq_true rfl), (Nat.le_of_ble_eq_true rfl)⟩ ⟨g15.1, g15.2⟩ (Nat.le_of_ble_eq_true rfl) (fun A18 hnA18 => ?_)
    have hAc19 : ∀ k, ¬ (fun k => 1 ≤ k ∧ k < 91) k → A18 k = A k := fun k hk => (hnA18 k (by omega)).trans (rfl)
    refine g_lvc (M := mX7_best) (lv' := [(0, .ref (A18 0)), (1, .int (iI a1))]) (by rw [hnA18 0 (by omega)]) ?_
    refine k_get (M := mX7_best) (v := .int (iI ((t16 7).1 11))) dX7_best_52 kF_X7_277.r 33 (by omega) ((zSt_c 7 rfl (show t16 7 = (t16 7) from rfl))).o rfl ?_
    have e := (Option.some.inj h)
    subst e
    exact g_iret (M := mX7_best) dX7_best_55 rfl (by simpa using g15.1) (by simpa using g15.2) ⟨_, hAc19, rfl, rfl⟩
  have h := zfi c14 h
  by_cases c20 : a1 = 3
  · have h := zti c20 h
    refine g_tableIn (M := mX7_best) (off := 55) (tgt := 56) dX7_best_1 (iI_tlo g1 (by omega)) (iI_thi g1 (by omega)) (iI_tat g1 c20 rfl) (by decide) ?_
    refine g_aload_n (M := mX7_best) dX7_best_56 0 rfl rfl ?_
    obtain ⟨g21, h⟩ := zgi h
    obtain ⟨t22, u23, h⟩ := zbi h
    refine g_callVA (M := mX7_best) [] hX dX7_best_57 vX7_searched kM_X7_267 (wX7_searched hX bn  u23) (fun _ => rfl) 0 (zWs_at (by omega) ((zSt_c 0 rfl (show σ 0 = (σ 0) from rfl))).o) rfl ⟨(Nat.le_of_ble_eq_true rfl), (Nat.le_of_ble_eq_true rfl)⟩ ⟨g21.1, g21.2⟩ (Nat.le_of_ble_eq_true rfl) (fun A24 hnA24 => ?_)
    have hAc25 : ∀ k, ¬ (fun k => 1 ≤ k ∧ k < 91) k → A24 k = A k := fun k hk => (hnA24 k (by omega)).trans (rfl)
    refine g_lvc (M := mX7_best) (lv' := [(0, .ref (A24 0)), (1, .int (iI a1))]) (by rw [hnA24 0 (by omega)]) ?_
    refine k_get (M := mX7_best) (v := .int (iI ((t22 7).1 12))) dX7_best_60 kF_X7_280.r 33 (by omega) ((zSt_c 7 rfl (show t22 7 = (t22 7) from rfl))).o rfl ?_
    have e := (Option.some.inj h)
    subst e
    exact g_iret (M := mX7_best) dX7_best_63 rfl (by simpa using g21.1) (by simpa using g21.2) ⟨_, hAc25, rfl, rfl⟩
  have h := zfi c20 h
  refine g_tableOut (M := mX7_best) (tgt := 64) dX7_best_1 (iI_tout g1 (by omega)) (by decide) ?_
  have e := (Option.some.inj h)
  subst e
  exact g_throwW (M := mX7_best) hX rfl rfl tT_X7_90_283_94 dX7_best_64 dX7_best_67 dX7_best_68 dX7_best_71 dX7_best_74 (Nat.le_of_ble_eq_true rfl) (Nat.le_of_ble_eq_true rfl) (show 0 + 1 ≤ 2 + 3 * zNd (σ 7) (σ 4) by omega) (show 0 + 6 ≤ 12 + 13652 * zNd (σ 7) (σ 4) by omega) ⟨_, (fun _ _ => rfl), rfl, rfl⟩
set_option maxHeartbeats 4000000 in
set_option maxRecDepth 100000 in
theorem wX7_requireRow {X : zX} (hX : zOK X) {A : Nat → Nat} {n : Nat} {S : Nat → va_E} {σ : CS} (bn : 91 ≤ n) {a1 : Int} {res : (Unit ⊕ String)} (h : fX7_requireRow σ a1 = some res) : Con X yX7_requireRow mX7_requireRow 6 1 6 [.ref (A 0), .int (iI a1)] (zWs A n (zSt X A σ S)) (zRx (zWs A n (zSt X A σ S)) (zoV res)) := by
  refine con_of (lv := [(0, .ref (A 0)), (1, .int (iI a1))]) (by decide) rfl (fun h => by cases h) rfl (Nat.le_of_ble_eq_true rfl) rfl ?_
  unfold fX7_requireRow at h
  refine g_iload_n (M := mX7_requireRow) dX7_requireRow_0 1 rfl rfl ?_
  refine zJn_J (J := fun x5 => G X mX7_requireRow (zPm X 6 1 6 (zRx (zWs A n (zSt X A σ S)) (zoV res))) 0 0 15 [] [] (zWs A n (zSt X A σ S))) h (fun x5 h => ?_) (fun j5 h => ?_)
  · have e := (Option.some.inj h)
    subst e
    exact g_throwW (M := mX7_requireRow) hX rfl rfl tT_X7_189_412_193 dX7_requireRow_15 dX7_requireRow_18 dX7_requireRow_19 dX7_requireRow_22 dX7_requireRow_25 (Nat.le_of_ble_eq_true rfl) (Nat.le_of_ble_eq_true rfl) (Nat.le_of_ble_eq_true rfl) (Nat.le_of_ble_eq_true rfl) ⟨rfl, rfl⟩
  · obtain ⟨g7, h⟩ := zgi h
    refine h_if_lt (M := mX7_requireRow) (tgt := 15) dX7_requireRow_1 (by decide) g7 (fun c6 => ?_) (fun c6 => ?_)
    · have h := zti c6 h
      refine g_lv (M := mX7_requireRow) [] rfl ?_
      exact j5 () h
    · have h := zfi (Int.not_lt.mpr c6) h
      refine g_iload_n (M := mX7_requireRow) dX7_requireRow_4 1 rfl rfl ?_
      refine g_aload_n (M := mX7_requireRow) dX7_requireRow_5 0 rfl rfl ?_
      refine k_get (M := mX7_requireRow) (v := .ref (A 12)) dX7_requireRow_6 kF_X7_33.r 0 (by omega) ((zSt_c 0 rfl (show σ 0 = (σ 0) from rfl))).o rfl ?_
      refine k_get (M := mX7_requireRow) (v := .int (iI ((σ 4).1 3))) dX7_requireRow_9 kF_X7_108.r 12 (by omega) ((zSt_c 4 rfl (show σ 4 = (σ 4) from rfl))).o rfl ?_
      obtain ⟨g9, h⟩ := zgi h
      refine h_icmp_lt (M := mX7_requireRow) (tgt := 26) dX7_requireRow_12 (by decide) g7 g9 (fun c8 => ?_) (fun c8 => ?_)
      · have h := zti c8 h
        have e := (Option.some.inj h)
        subst e
        exact g_vret (M := mX7_requireRow) dX7_requireRow_26 rfl (Nat.le_of_ble_eq_true rfl) (Nat.le_of_ble_eq_true rfl) ⟨rfl, rfl⟩
      · have h := zfi (Int.not_lt.mpr c8) h
        refine g_lv (M := mX7_requireRow) [] rfl ?_
        exact j5 () h
set_option maxHeartbeats 4000000 in
set_option maxRecDepth 100000 in
theorem wX7_bestStart {X : zX} (hX : zOK X) {A : Nat → Nat} {n : Nat} {S : Nat → va_E} {σ : CS} (bn : 91 ≤ n) {a1 : Int} {res : CS × (Int ⊕ String)} (h : fX7_bestStart σ a1 = some res) : Con X yX7_bestStart mX7_bestStart 7 1 6 [.ref (A 0), .int (iI a1)] (zWs A n (zSt X A σ S)) (zRA A (fun k => 1 ≤ k ∧ k < 91) (fun A' => (zWs A' n (zSt X A' res.1 S))) (fun A' => zoI res.2)) := by
  refine con_of (lv := [(0, .ref (A 0)), (1, .int (iI a1))]) (by decide) rfl (fun h => by cases h) rfl (Nat.le_of_ble_eq_true rfl) rfl ?_
  unfold fX7_bestStart at h
  refine g_aload_n (M := mX7_bestStart) dX7_bestStart_0 0 rfl rfl ?_
  refine g_iload_n (M := mX7_bestStart) dX7_bestStart_1 1 rfl rfl ?_
  obtain ⟨t1, u2, h⟩ := zbi h
  rcases o3 : t1 with vt1 | Et1
  · have h := zslo o3 h
    refine g_callVx (M := mX7_bestStart) [.int (iI a1)] hX dX7_bestStart_2 vX7_requireRow kM_X7_167 (wX7_requireRow hX bn  u2) (congrArg zoV o3) 0 (zWs_at (by omega) ((zSt_c 0 rfl (show σ 0 = (σ 0) from rfl))).o) rfl ⟨(Nat.le_of_ble_eq_true rfl), (Nat.le_of_ble_eq_true rfl)⟩ ⟨(Nat.le_of_ble_eq_true rfl), (Nat.le_of_ble_eq_true rfl)⟩ (Nat.le_of_ble_eq_true rfl) ?_
    refine h_iconst (M := mX7_bestStart) dX7_bestStart_5 ?_
    refine g_istore_n (M := mX7_bestStart) (lv' := [(0, .ref (A 0)), (1, .int (iI a1)), (2, .int (iI (-1)))]) dX7_bestStart_6 rfl (by decide) rfl ?_
    refine h_iconst (M := mX7_bestStart) dX7_bestStart_7 ?_
    refine g_istore_n (M := mX7_bestStart) (lv' := [(0, .ref (A 0)), (1, .int (iI a1)), (2, .int (iI (-1))), (3, .int (iI (-1)))]) dX7_bestStart_8 rfl (by decide) rfl ?_
    refine h_iconst (M := mX7_bestStart) dX7_bestStart_9 ?_
    refine g_istore (M := mX7_bestStart) (lv' := [(0, .ref (A 0)), (1, .int (iI a1)), (2, .int (iI (-1))), (3, .int (iI (-1))), (4, .int (iI 0))]) dX7_bestStart_10 (by decide) rfl ?_
    obtain ⟨x4, l4, h⟩ := zbi h
    have r4 : ∀ y4, y4 = x4 → ∀ (Ar4 : Nat → Nat), (∀ k, ¬ (fun k => 1 ≤ k ∧ k < 91) k → Ar4 k = A k) → G X mX7_bestStart (zPm X 7 1 6 (zRA A (fun k => 1 ≤ k ∧ k < 91) (fun A' => (zWs A' n (zSt X A' res.1 S))) (fun A' => zoI res.2))) 1 6 65 [(2, .int (iI y4.1))] [] (zWs Ar4 n (zSt X Ar4 y4.2.2.2 S)) := by
      intro y4 ey
      intro Ar4 hAr4
      rw [← ey] at h
      refine g_iload_n (M := mX7_bestStart) dX7_bestStart_65 0 rfl rfl ?_
      have e := (Option.some.inj h)
      subst e
      exact g_iret (M := mX7_bestStart) dX7_bestStart_66 rfl (Nat.le_of_ble_eq_true rfl) (Nat.le_of_ble_eq_true rfl) ⟨_, hAr4, rfl, rfl⟩
    refine zLp_J (J := fun s4 => ∀ (Al4 : Nat → Nat), (∀ k, ¬ (fun k => 1 ≤ k ∧ k < 91) k → Al4 k = A k) → G X mX7_bestStart (zPm X 7 1 6 (zRA A (fun k => 1 ≤ k ∧ k < 91) (fun A' => (zWs A' n (zSt X A' res.1 S))) (fun A' => zoI res.2))) 1 6 12 [(0, .ref (Al4 0)), (1, .int (iI a1)), (2, .int (iI s4.1)), (3, .int (iI s4.2.1)), (4, .int (iI s4.2.2.1))] [] (zWs Al4 n (zSt X Al4 s4.2.2.2 S))) (fun s4 w4 h4 b4 e4 => ?_) _ _ l4 A (fun _ _ => rfl)
    intro Al4 hAl4
    refine g_iload (M := mX7_bestStart) dX7_bestStart_12 4 rfl ?_
    refine g_aload_n (M := mX7_bestStart) dX7_bestStart_14 0 rfl rfl ?_
    refine k_get (M := mX7_bestStart) (v := .ref (Al4 12)) dX7_bestStart_15 kF_X7_33.r 0 (by omega) ((zSt_c 0 rfl (show s4.2.2.2 0 = (s4.2.2.2 0) from rfl))).o rfl ?_
    refine g_iload_n (M := mX7_bestStart) dX7_bestStart_18 1 rfl rfl ?_
    obtain ⟨t18, u19, h4⟩ := zbi h4
    refine g_callVr (M := mX7_bestStart) [.int (iI a1)] hX dX7_bestStart_19 vX0_lastStart kM_X7_245 (wX0_lastStart hX (zSt_c 4 rfl (show s4.2.2.2 4 = (s4.2.2.2 4) from rfl)) (by omega)  u19) 12 (zWs_at (by omega) ((zSt_c 4 rfl (show s4.2.2.2 4 = (s4.2.2.2 4) from rfl))).o) rfl ⟨(Nat.le_of_ble_eq_true rfl), (Nat.le_of_ble_eq_true rfl)⟩ ⟨(Nat.le_of_ble_eq_true rfl), (Nat.le_of_ble_eq_true rfl)⟩ (Nat.le_of_ble_eq_true rfl) ?_
    obtain ⟨g21, h4⟩ := zgi h4
    refine h_icmp_gt (M := mX7_bestStart) (tgt := 65) dX7_bestStart_22 (by decide) g21.1 g21.2 (fun c20 => ?_) (fun c20 => ?_)
    · have h4 := zti c20 h4
      refine g_lv (M := mX7_bestStart) [2] rfl ?_
      exact r4 _ (e4 _ (Option.some.inj h4).symm) Al4 hAl4
    · have h4 := zfi (Int.not_lt.mpr c20) h4
      refine g_aload_n (M := mX7_bestStart) dX7_bestStart_25 0 rfl rfl ?_
      refine k_get (M := mX7_bestStart) (v := .ref (Al4 12)) dX7_bestStart_26 kF_X7_33.r 0 (by omega) ((zSt_c 0 rfl (show s4.2.2.2 0 = (s4.2.2.2 0) from rfl))).o rfl ?_
      refine g_iload_n (M := mX7_bestStart) dX7_bestStart_29 1 rfl rfl ?_
      refine g_iload (M := mX7_bestStart) dX7_bestStart_30 4 rfl ?_
      obtain ⟨t22, u23, h4⟩ := zbi h4
      refine g_callVr (M := mX7_bestStart) [.int (iI a1), .int (iI s4.2.2.1)] hX dX7_bestStart_32 vX0_isPlace kM_X7_198 (wX0_isPlace hX (zSt_c 4 rfl (show s4.2.2.2 4 = (s4.2.2.2 4) from rfl)) (by omega)  u23) 12 (zWs_at (by omega) ((zSt_c 4 rfl (show s4.2.2.2 4 = (s4.2.2.2 4) from rfl))).o) rfl ⟨(Nat.le_of_ble_eq_true rfl), (Nat.le_of_ble_eq_true rfl)⟩ ⟨(Nat.le_of_ble_eq_true rfl), (Nat.le_of_ble_eq_true rfl)⟩ (Nat.le_of_ble_eq_true rfl) ?_
      refine h_beq (M := mX7_bestStart) (tgt := 59) dX7_bestStart_35 (by decide) (fun c24 => ?_) (fun c24 => ?_)
      · have h4 := zfi (zbf c24) h4
        refine h_iinc (M := mX7_bestStart) (j := 4) (lv' := [(0, .ref (Al4 0)), (1, .int (iI a1)), (2, .int (iI s4.1)), (3, .int (iI s4.2.1)), (4, .int (iI (s4.2.2.1 + 1)))]) dX7_bestStart_59 rfl (Nat.le_of_ble_eq_true rfl) rfl ?_
        refine g_goto (M := mX7_bestStart) (tgt := 12) dX7_bestStart_62 (by decide) ?_
        exact b4 _ (Option.some.inj h4).symm Al4 hAl4
      · have h4 := zti c24 h4
        refine g_aload_n (M := mX7_bestStart) dX7_bestStart_38 0 rfl rfl ?_
        refine g_iload_n (M := mX7_bestStart) dX7_bestStart_39 1 rfl rfl ?_
        refine g_iload (M := mX7_bestStart) dX7_bestStart_40 4 rfl ?_
        obtain ⟨t25, u26, h4⟩ := zbi h4
        refine g_callVA (M := mX7_bestStart) [.int (iI a1), .int (iI s4.2.2.1)] hX dX7_bestStart_42 vX7_agreementFrom kM_X7_333 (wX7_agreementFrom hX bn  u26) (fun _ => rfl) 0 (zWs_at (by omega) ((zSt_c 0 rfl (show s4.2.2.2 0 = (s4.2.2.2 0) from rfl))).o) rfl ⟨(Nat.le_of_ble_eq_true rfl), (Nat.le_of_ble_eq_true rfl)⟩ ⟨(Nat.le_of_ble_eq_true rfl), (Nat.le_of_ble_eq_true rfl)⟩ (Nat.le_of_ble_eq_true rfl) (fun A27 hnA27 => ?_)
        have hAc28 : ∀ k, ¬ (fun k => 1 ≤ k ∧ k < 91) k → A27 k = A k := fun k hk => (hnA27 k (by omega)).trans (hAl4 k hk)
        refine g_lvc (M := mX7_bestStart) (lv' := [(0, .ref (A27 0)), (1, .int (iI a1)), (2, .int (iI s4.1)), (3, .int (iI s4.2.1)), (4, .int (iI s4.2.2.1))]) (by rw [hnA27 0 (by omega)]) ?_
        refine g_istore (M := mX7_bestStart) (lv' := [(0, .ref (A27 0)), (1, .int (iI a1)), (2, .int (iI s4.1)), (3, .int (iI s4.2.1)), (4, .int (iI s4.2.2.1)), (5, .int (iI t25.2))]) dX7_bestStart_45 (by decide) rfl ?_
        refine g_iload (M := mX7_bestStart) dX7_bestStart_47 5 rfl ?_
        refine g_iload_n (M := mX7_bestStart) dX7_bestStart_49 3 rfl rfl ?_
        obtain ⟨g30, h4⟩ := zgi h4
        refine h_icmp_le (M := mX7_bestStart) (tgt := 59) dX7_bestStart_50 (by decide) g30.1 g30.2 (fun c29 => ?_) (fun c29 => ?_)
        · have h4 := zti c29 h4
          refine h_iinc (M := mX7_bestStart) (j := 4) (lv' := [(0, .ref (A27 0)), (1, .int (iI a1)), (2, .int (iI s4.1)), (3, .int (iI s4.2.1)), (4, .int (iI (s4.2.2.1 + 1))), (5, .int (iI t25.2))]) dX7_bestStart_59 rfl (Nat.le_of_ble_eq_true rfl) rfl ?_
          refine g_goto (M := mX7_bestStart) (tgt := 12) dX7_bestStart_62 (by decide) ?_
          refine g_lv (M := mX7_bestStart) [0, 1, 2, 3, 4] rfl ?_
          exact b4 _ (Option.some.inj h4).symm A27 hAc28
        · have h4 := zfi (Int.not_le.mpr c29) h4
          refine g_iload (M := mX7_bestStart) dX7_bestStart_53 4 rfl ?_
          refine g_istore_n (M := mX7_bestStart) (lv' := [(0, .ref (A27 0)), (1, .int (iI a1)), (2, .int (iI s4.2.2.1)), (3, .int (iI s4.2.1)), (4, .int (iI s4.2.2.1)), (5, .int (iI t25.2))]) dX7_bestStart_55 rfl (by decide) rfl ?_
          refine g_iload (M := mX7_bestStart) dX7_bestStart_56 5 rfl ?_
          refine g_istore_n (M := mX7_bestStart) (lv' := [(0, .ref (A27 0)), (1, .int (iI a1)), (2, .int (iI s4.2.2.1)), (3, .int (iI t25.2)), (4, .int (iI s4.2.2.1)), (5, .int (iI t25.2))]) dX7_bestStart_58 rfl (by decide) rfl ?_
          refine h_iinc (M := mX7_bestStart) (j := 4) (lv' := [(0, .ref (A27 0)), (1, .int (iI a1)), (2, .int (iI s4.2.2.1)), (3, .int (iI t25.2)), (4, .int (iI (s4.2.2.1 + 1))), (5, .int (iI t25.2))]) dX7_bestStart_59 rfl (Nat.le_of_ble_eq_true rfl) rfl ?_
          refine g_goto (M := mX7_bestStart) (tgt := 12) dX7_bestStart_62 (by decide) ?_
          refine g_lv (M := mX7_bestStart) [0, 1, 2, 3, 4] rfl ?_
          exact b4 _ (Option.some.inj h4).symm A27 hAc28
  · have h := zsro o3 h
    have e := (Option.some.inj h)
    subst e
    exact g_callVe (M := mX7_bestStart) [.int (iI a1)] hX dX7_bestStart_2 vX7_requireRow kM_X7_167 (wX7_requireRow hX bn  u2) (congrArg zoV o3) 0 (zWs_at (by omega) ((zSt_c 0 rfl (show σ 0 = (σ 0) from rfl))).o) rfl ⟨(Nat.le_of_ble_eq_true rfl), (Nat.le_of_ble_eq_true rfl)⟩ ⟨(Nat.le_of_ble_eq_true rfl), (Nat.le_of_ble_eq_true rfl)⟩ (Nat.le_of_ble_eq_true rfl) (gx_out rfl (Nat.le_of_ble_eq_true rfl) (Nat.le_of_ble_eq_true rfl) ⟨_, (fun _ _ => rfl), rfl, rfl⟩)
set_option maxHeartbeats 4000000 in
set_option maxRecDepth 100000 in
theorem wX7_better {X : zX} (hX : zOK X) {A : Nat → Nat} {n : Nat} {S : Nat → va_E} {σ : CS} (bn : 91 ≤ n) {a1 : Int} {res : CS × (Int ⊕ String)} (h : fX7_better σ a1 = some res) : Con X yX7_better mX7_better 7 2 12 [.ref (A 0), .int (iI a1)] (zWs A n (zSt X A σ S)) (zRA A (fun k => 1 ≤ k ∧ k < 91) (fun A' => (zWs A' n (zSt X A' res.1 S))) (fun A' => zoI res.2)) := by
  refine con_of (lv := [(0, .ref (A 0)), (1, .int (iI a1))]) (by decide) rfl (fun h => by cases h) rfl (Nat.le_of_ble_eq_true rfl) rfl ?_
  unfold fX7_better at h
  refine g_aload_n (M := mX7_better) dX7_better_0 0 rfl rfl ?_
  refine g_iload_n (M := mX7_better) dX7_better_1 1 rfl rfl ?_
  obtain ⟨t1, u2, h⟩ := zbi h
  rcases o3 : t1 with vt1 | Et1
  · have h := zslo o3 h
    refine g_callVx (M := mX7_better) [.int (iI a1)] hX dX7_better_2 vX7_requireRow kM_X7_167 (wX7_requireRow hX bn  u2) (congrArg zoV o3) 0 (zWs_at (by omega) ((zSt_c 0 rfl (show σ 0 = (σ 0) from rfl))).o) rfl ⟨(Nat.le_of_ble_eq_true rfl), (Nat.le_of_ble_eq_true rfl)⟩ ⟨(Nat.le_of_ble_eq_true rfl), (Nat.le_of_ble_eq_true rfl)⟩ (Nat.le_of_ble_eq_true rfl) ?_
    refine g_aload_n (M := mX7_better) dX7_better_5 0 rfl rfl ?_
    refine k_get (M := mX7_better) (v := .ref (A 12)) dX7_better_6 kF_X7_33.r 0 (by omega) ((zSt_c 0 rfl (show σ 0 = (σ 0) from rfl))).o rfl ?_
    refine g_iload_n (M := mX7_better) dX7_better_9 1 rfl rfl ?_
    obtain ⟨t4, u5, h⟩ := zbi h
    refine g_callVr (M := mX7_better) [.int (iI a1)] hX dX7_better_10 vX0_isOut kM_X7_180 (wX0_isOut hX (zSt_c 4 rfl (show σ 4 = (σ 4) from rfl)) (by omega)  u5) 12 (zWs_at (by omega) ((zSt_c 4 rfl (show σ 4 = (σ 4) from rfl))).o) rfl ⟨(Nat.le_of_ble_eq_true rfl), (Nat.le_of_ble_eq_true rfl)⟩ ⟨(Nat.le_of_ble_eq_true rfl), (Nat.le_of_ble_eq_true rfl)⟩ (Nat.le_of_ble_eq_true rfl) ?_
    refine h_beq (M := mX7_better) (tgt := 27) dX7_better_13 (by decide) (fun c6 => ?_) (fun c6 => ?_)
    · have h := zfi (zbf c6) h
      refine g_aload_n (M := mX7_better) dX7_better_27 0 rfl rfl ?_
      obtain ⟨t7, u8, h⟩ := zbi h
      refine g_callVA (M := mX7_better) [] hX dX7_better_28 vX7_keepPast kM_X7_114 (wX7_keepPast hX bn  u8) (fun _ => rfl) 0 (zWs_at (by omega) ((zSt_c 0 rfl (show σ 0 = (σ 0) from rfl))).o) rfl ⟨(Nat.le_of_ble_eq_true rfl), (Nat.le_of_ble_eq_true rfl)⟩ ⟨(Nat.le_of_ble_eq_true rfl), (Nat.le_of_ble_eq_true rfl)⟩ (Nat.le_of_ble_eq_true rfl) (fun A9 hnA9 => ?_)
      have hAc10 : ∀ k, ¬ (fun k => 1 ≤ k ∧ k < 91) k → A9 k = A k := fun k hk => (hnA9 k (by omega)).trans (rfl)
      refine g_lvc (M := mX7_better) (lv' := [(0, .ref (A9 0)), (1, .int (iI a1))]) (by rw [hnA9 0 (by omega)]) ?_
      refine g_aload_n (M := mX7_better) dX7_better_31 0 rfl rfl ?_
      refine k_get (M := mX7_better) (v := .ref (A9 45)) dX7_better_32 kF_X7_60.r 0 (by omega) ((zSt_c 0 rfl (show t7 0 = (t7 0) from rfl))).o rfl ?_
      refine g_aload_n (M := mX7_better) dX7_better_35 0 rfl rfl ?_
      refine k_get (M := mX7_better) (v := .ref (A9 12)) dX7_better_36 kF_X7_33.r 0 (by omega) ((zSt_c 0 rfl (show t7 0 = (t7 0) from rfl))).o rfl ?_
      refine g_iload_n (M := mX7_better) dX7_better_39 1 rfl rfl ?_
      obtain ⟨t11, u12, h⟩ := zbi h
      refine g_callVr (M := mX7_better) [.ref (A9 12), .int (iI a1)] hX dX7_better_40 vX1_betterRow kM_X7_351 (wX1_betterRow hX (zSt_c 9 rfl (show t7 9 = (t7 9) from rfl)) (by omega) (zSt_c 4 rfl (show t7 4 = (t7 4) from rfl)) (by omega) (by omega) u12) 45 (zWs_at (by omega) ((zSt_c 9 rfl (show t7 9 = (t7 9) from rfl))).o) rfl ⟨(Nat.le_of_ble_eq_true rfl), (Nat.le_of_ble_eq_true rfl)⟩ ⟨(Nat.le_of_ble_eq_true rfl), (Nat.le_of_ble_eq_true rfl)⟩ (Nat.le_of_ble_eq_true rfl) ?_
      refine g_ws (M := mX7_better) (congrArg (fun z => zWs A9 n (zC X A9 shB 12 t11.2.1 (z))) (zSt_p 9 rfl)) ?_
      refine g_ws (M := mX7_better) (congrArg (fun z => zWs A9 n (z)) (zSt_p 4 rfl)) ?_
      refine g_pop (M := mX7_better) dX7_better_43 rfl ?_
      refine g_aload_n (M := mX7_better) dX7_better_44 0 rfl rfl ?_
      refine k_get (M := mX7_better) (v := .ref (A9 12)) dX7_better_45 kF_X7_33.r 0 (by omega) ((zSt_c 0 rfl (show (zSu (zSu t7 9 t11.1) 4 t11.2.1) 0 = (t7 0) from rfl))).o rfl ?_
      refine k_get (M := mX7_better) (v := .ref (A9 (12 + 5))) dX7_better_48 kF_X7_177 12 (by omega) ((zSt_c 4 rfl (show (zSu (zSu t7 9 t11.1) 4 t11.2.1) 4 = t11.2.1 from rfl))).o rfl ?_
      refine g_iload_n (M := mX7_better) dX7_better_51 1 rfl rfl ?_
      obtain ⟨g13, h⟩ := zgi h
      refine k_iald (M := mX7_better) (len := 10) (f := t11.2.1.2 5) dX7_better_52 (12 + 5) (by omega) (((zSt_c 4 rfl (show (zSu (zSu t7 9 t11.1) 4 t11.2.1) 4 = t11.2.1 from rfl))).a (d := (0, 10)) 4 rfl) (Nat.le_of_ble_eq_true rfl) g13.1 g13.2 ?_
      have e := (Option.some.inj h)
      subst e
      exact g_iret (M := mX7_better) dX7_better_53 rfl (Nat.le_of_ble_eq_true rfl) (Nat.le_of_ble_eq_true rfl) ⟨_, hAc10, rfl, rfl⟩
    · have h := zti c6 h
      have e := (Option.some.inj h)
      subst e
      exact g_throwW (M := mX7_better) hX rfl rfl tT_X7_79_349_83 dX7_better_16 dX7_better_19 dX7_better_20 dX7_better_23 dX7_better_26 (Nat.le_of_ble_eq_true rfl) (Nat.le_of_ble_eq_true rfl) (Nat.le_of_ble_eq_true rfl) (Nat.le_of_ble_eq_true rfl) ⟨_, (fun _ _ => rfl), rfl, rfl⟩
  · have h := zsro o3 h
    have e := (Option.some.inj h)
    subst e
    exact g_callVe (M := mX7_better) [.int (iI a1)] hX dX7_better_2 vX7_requireRow kM_X7_167 (wX7_requireRow hX bn  u2) (congrArg zoV o3) 0 (zWs_at (by omega) ((zSt_c 0 rfl (show σ 0 = (σ 0) from rfl))).o) rfl ⟨(Nat.le_of_ble_eq_true rfl), (Nat.le_of_ble_eq_true rfl)⟩ ⟨(Nat.le_of_ble_eq_true rfl), (Nat.le_of_ble_eq_true rfl)⟩ (Nat.le_of_ble_eq_true rfl) (gx_out rfl (Nat.le_of_ble_eq_true rfl) (Nat.le_of_ble_eq_true rfl) ⟨_, (fun _ _ => rfl), rfl, rfl⟩)
set_option maxHeartbeats 4000000 in
set_option maxRecDepth 100000 in
theorem wX7_requireWord {X : zX} (hX : zOK X) {A : Nat → Nat} {n : Nat} {S : Nat → va_E} {σ : CS} (bn : 91 ≤ n) {a1 : Int} {res : (Unit ⊕ String)} (h : fX7_requireWord σ a1 = some res) : Con X yX7_requireWord mX7_requireWord 6 1 6 [.ref (A 0), .int (iI a1)] (zWs A n (zSt X A σ S)) (zRx (zWs A n (zSt X A σ S)) (zoV res)) := by
  refine con_of (lv := [(0, .ref (A 0)), (1, .int (iI a1))]) (by decide) rfl (fun h => by cases h) rfl (Nat.le_of_ble_eq_true rfl) rfl ?_
  unfold fX7_requireWord at h
  refine g_iload_n (M := mX7_requireWord) dX7_requireWord_0 1 rfl rfl ?_
  refine zJn_J (J := fun x7 => G X mX7_requireWord (zPm X 6 1 6 (zRx (zWs A n (zSt X A σ S)) (zoV res))) 0 0 15 [] [] (zWs A n (zSt X A σ S))) h (fun x7 h => ?_) (fun j7 h => ?_)
  · have e := (Option.some.inj h)
    subst e
    exact g_throwW (M := mX7_requireWord) hX rfl rfl tT_X7_189_414_193 dX7_requireWord_15 dX7_requireWord_18 dX7_requireWord_19 dX7_requireWord_22 dX7_requireWord_25 (Nat.le_of_ble_eq_true rfl) (Nat.le_of_ble_eq_true rfl) (Nat.le_of_ble_eq_true rfl) (Nat.le_of_ble_eq_true rfl) ⟨rfl, rfl⟩
  · obtain ⟨g9, h⟩ := zgi h
    refine h_if_lt (M := mX7_requireWord) (tgt := 15) dX7_requireWord_1 (by decide) g9 (fun c8 => ?_) (fun c8 => ?_)
    · have h := zti c8 h
      refine g_lv (M := mX7_requireWord) [] rfl ?_
      exact j7 () h
    · have h := zfi (Int.not_lt.mpr c8) h
      refine g_iload_n (M := mX7_requireWord) dX7_requireWord_4 1 rfl rfl ?_
      refine g_aload_n (M := mX7_requireWord) dX7_requireWord_5 0 rfl rfl ?_
      refine k_get (M := mX7_requireWord) (v := .ref (A 12)) dX7_requireWord_6 kF_X7_33.r 0 (by omega) ((zSt_c 0 rfl (show σ 0 = (σ 0) from rfl))).o rfl ?_
      obtain ⟨t10, u11, h⟩ := zbi h
      refine g_callVr (M := mX7_requireWord) [] hX dX7_requireWord_9 vX0_wordCount kM_X7_140 (wX0_wordCount hX (zSt_c 4 rfl (show σ 4 = (σ 4) from rfl)) (by omega)  u11) 12 (zWs_at (by omega) ((zSt_c 4 rfl (show σ 4 = (σ 4) from rfl))).o) rfl ⟨(Nat.le_of_ble_eq_true rfl), (Nat.le_of_ble_eq_true rfl)⟩ ⟨(Nat.le_of_ble_eq_true rfl), (Nat.le_of_ble_eq_true rfl)⟩ (Nat.le_of_ble_eq_true rfl) ?_
      obtain ⟨g13, h⟩ := zgi h
      refine h_icmp_lt (M := mX7_requireWord) (tgt := 26) dX7_requireWord_12 (by decide) g9 g13 (fun c12 => ?_) (fun c12 => ?_)
      · have h := zti c12 h
        have e := (Option.some.inj h)
        subst e
        exact g_vret (M := mX7_requireWord) dX7_requireWord_26 rfl (Nat.le_of_ble_eq_true rfl) (Nat.le_of_ble_eq_true rfl) ⟨rfl, rfl⟩
      · have h := zfi (Int.not_lt.mpr c12) h
        refine g_lv (M := mX7_requireWord) [] rfl ?_
        exact j7 () h
set_option maxHeartbeats 4000000 in
set_option maxRecDepth 100000 in
theorem wX7_bound {X : zX} (hX : zOK X) {A : Nat → Nat} {n : Nat} {S : Nat → va_E} {σ : CS} (bn : 91 ≤ n) {a1 : Int} {a2 : Int} {res : (Int ⊕ String)} (h : fX7_bound σ a1 a2 = some res) : Con X yX7_bound mX7_bound 7 2 12 [.ref (A 0), .int (iI a1), .int (iI a2)] (zWs A n (zSt X A σ S)) (zRx (zWs A n (zSt X A σ S)) (zoI res)) := by
  refine con_of (lv := [(0, .ref (A 0)), (1, .int (iI a1)), (2, .int (iI a2))]) (by decide) rfl (fun h => by cases h) rfl (Nat.le_of_ble_eq_true rfl) rfl ?_
  unfold fX7_bound at h
  refine g_aload_n (M := mX7_bound) dX7_bound_0 0 rfl rfl ?_
  refine g_iload_n (M := mX7_bound) dX7_bound_1 1 rfl rfl ?_
  obtain ⟨t1, u2, h⟩ := zbi h
  rcases o3 : t1 with vt1 | Et1
  · have h := zslo o3 h
    refine g_callVx (M := mX7_bound) [.int (iI a1)] hX dX7_bound_2 vX7_requireWord kM_X7_208 (wX7_requireWord hX bn  u2) (congrArg zoV o3) 0 (zWs_at (by omega) ((zSt_c 0 rfl (show σ 0 = (σ 0) from rfl))).o) rfl ⟨(Nat.le_of_ble_eq_true rfl), (Nat.le_of_ble_eq_true rfl)⟩ ⟨(Nat.le_of_ble_eq_true rfl), (Nat.le_of_ble_eq_true rfl)⟩ (Nat.le_of_ble_eq_true rfl) ?_
    refine g_iload_n (M := mX7_bound) dX7_bound_5 2 rfl rfl ?_
    refine h_iconst (M := mX7_bound) dX7_bound_6 ?_
    refine zJn_J (J := fun x12 => G X mX7_bound (zPm X 7 2 12 (zRx (zWs A n (zSt X A σ S)) (zoI res))) 1 6 21 [] [] (zWs A n (zSt X A σ S))) h (fun x12 h => ?_) (fun j12 h => ?_)
    · have e := (Option.some.inj h)
      subst e
      exact g_throwW (M := mX7_bound) hX rfl rfl tT_X7_90_285_94 dX7_bound_21 dX7_bound_24 dX7_bound_25 dX7_bound_28 dX7_bound_31 (Nat.le_of_ble_eq_true rfl) (Nat.le_of_ble_eq_true rfl) (Nat.le_of_ble_eq_true rfl) (Nat.le_of_ble_eq_true rfl) ⟨rfl, rfl⟩
    · obtain ⟨g14, h⟩ := zgi h
      refine h_icmp_lt (M := mX7_bound) (tgt := 21) dX7_bound_7 (by decide) g14 (by decide) (fun c13 => ?_) (fun c13 => ?_)
      · have h := zti c13 h
        refine g_lv (M := mX7_bound) [] rfl ?_
        exact j12 () h
      · have h := zfi (Int.not_lt.mpr c13) h
        refine g_iload_n (M := mX7_bound) dX7_bound_10 2 rfl rfl ?_
        refine g_aload_n (M := mX7_bound) dX7_bound_11 0 rfl rfl ?_
        refine k_get (M := mX7_bound) (v := .ref (A 12)) dX7_bound_12 kF_X7_33.r 0 (by omega) ((zSt_c 0 rfl (show σ 0 = (σ 0) from rfl))).o rfl ?_
        refine k_get (M := mX7_bound) (v := .int (iI ((σ 4).1 1))) dX7_bound_15 kF_X7_134.r 12 (by omega) ((zSt_c 4 rfl (show σ 4 = (σ 4) from rfl))).o rfl ?_
        obtain ⟨g16, h⟩ := zgi h
        refine h_icmp_le (M := mX7_bound) (tgt := 32) dX7_bound_18 (by decide) g14 g16 (fun c15 => ?_) (fun c15 => ?_)
        · have h := zti c15 h
          refine g_aload_n (M := mX7_bound) dX7_bound_32 0 rfl rfl ?_
          refine k_get (M := mX7_bound) (v := .ref (A 12)) dX7_bound_33 kF_X7_33.r 0 (by omega) ((zSt_c 0 rfl (show σ 0 = (σ 0) from rfl))).o rfl ?_
          refine g_aload_n (M := mX7_bound) dX7_bound_36 0 rfl rfl ?_
          refine k_get (M := mX7_bound) (v := .ref (A 12)) dX7_bound_37 kF_X7_33.r 0 (by omega) ((zSt_c 0 rfl (show σ 0 = (σ 0) from rfl))).o rfl ?_
          refine g_iload_n (M := mX7_bound) dX7_bound_40 1 rfl rfl ?_
          obtain ⟨t17, u18, h⟩ := zbi h
          refine g_callVr (M := mX7_bound) [.int (iI a1)] hX dX7_bound_41 vX0_codeOf kM_X7_211 (wX0_codeOf hX (zSt_c 4 rfl (show σ 4 = (σ 4) from rfl)) (by omega)  u18) 12 (zWs_at (by omega) ((zSt_c 4 rfl (show σ 4 = (σ 4) from rfl))).o) rfl ⟨(Nat.le_of_ble_eq_true rfl), (Nat.le_of_ble_eq_true rfl)⟩ ⟨(Nat.le_of_ble_eq_true rfl), (Nat.le_of_ble_eq_true rfl)⟩ (Nat.le_of_ble_eq_true rfl) ?_
          refine g_iload_n (M := mX7_bound) dX7_bound_44 2 rfl rfl ?_
          obtain ⟨t19, u20, h⟩ := zbi h
          refine g_callVr (M := mX7_bound) [.int (iI t17), .int (iI a2)] hX dX7_bound_45 vX0_boundOf kM_X7_221 (wX0_boundOf hX (zSt_c 4 rfl (show σ 4 = (σ 4) from rfl)) (by omega)  u20) 12 (zWs_at (by omega) ((zSt_c 4 rfl (show σ 4 = (σ 4) from rfl))).o) rfl ⟨(Nat.le_of_ble_eq_true rfl), (Nat.le_of_ble_eq_true rfl)⟩ ⟨(Nat.le_of_ble_eq_true rfl), (Nat.le_of_ble_eq_true rfl)⟩ (Nat.le_of_ble_eq_true rfl) ?_
          have e := (Option.some.inj h)
          subst e
          exact g_iret (M := mX7_bound) dX7_bound_48 rfl (Nat.le_of_ble_eq_true rfl) (Nat.le_of_ble_eq_true rfl) ⟨rfl, rfl⟩
        · have h := zfi (Int.not_le.mpr c15) h
          refine g_lv (M := mX7_bound) [] rfl ?_
          exact j12 () h
  · have h := zsro o3 h
    have e := (Option.some.inj h)
    subst e
    exact g_callVe (M := mX7_bound) [.int (iI a1)] hX dX7_bound_2 vX7_requireWord kM_X7_208 (wX7_requireWord hX bn  u2) (congrArg zoV o3) 0 (zWs_at (by omega) ((zSt_c 0 rfl (show σ 0 = (σ 0) from rfl))).o) rfl ⟨(Nat.le_of_ble_eq_true rfl), (Nat.le_of_ble_eq_true rfl)⟩ ⟨(Nat.le_of_ble_eq_true rfl), (Nat.le_of_ble_eq_true rfl)⟩ (Nat.le_of_ble_eq_true rfl) (gx_out rfl (Nat.le_of_ble_eq_true rfl) (Nat.le_of_ble_eq_true rfl) ⟨rfl, rfl⟩)
set_option maxHeartbeats 4000000 in
set_option maxRecDepth 100000 in
theorem wX7_choose {X : zX} (hX : zOK X) {A : Nat → Nat} {n : Nat} {S : Nat → va_E} {σ : CS} (bn : 91 ≤ n) {a1 : Int} {a2 : Int} {res : CS × (Int ⊕ String)} (h : fX7_choose σ a1 a2 = some res) : Con X yX7_choose mX7_choose 7 2 12 [.ref (A 0), .int (iI a1), .int (iI a2)] (zWs A n (zSt X A σ S)) (zRA A (fun k => 1 ≤ k ∧ k < 91) (fun A' => (zWs A' n (zSt X A' res.1 S))) (fun A' => zoI res.2)) := by
  refine con_of (lv := [(0, .ref (A 0)), (1, .int (iI a1)), (2, .int (iI a2))]) (by decide) rfl (fun h => by cases h) rfl (Nat.le_of_ble_eq_true rfl) rfl ?_
  unfold fX7_choose at h
  refine g_aload_n (M := mX7_choose) dX7_choose_0 0 rfl rfl ?_
  refine g_iload_n (M := mX7_choose) dX7_choose_1 1 rfl rfl ?_
  obtain ⟨t1, u2, h⟩ := zbi h
  rcases o3 : t1 with vt1 | Et1
  · have h := zslo o3 h
    refine g_callVx (M := mX7_choose) [.int (iI a1)] hX dX7_choose_2 vX7_requireRow kM_X7_167 (wX7_requireRow hX bn  u2) (congrArg zoV o3) 0 (zWs_at (by omega) ((zSt_c 0 rfl (show σ 0 = (σ 0) from rfl))).o) rfl ⟨(Nat.le_of_ble_eq_true rfl), (Nat.le_of_ble_eq_true rfl)⟩ ⟨(Nat.le_of_ble_eq_true rfl), (Nat.le_of_ble_eq_true rfl)⟩ (Nat.le_of_ble_eq_true rfl) ?_
    refine g_aload_n (M := mX7_choose) dX7_choose_5 0 rfl rfl ?_
    refine k_get (M := mX7_choose) (v := .ref (A 12)) dX7_choose_6 kF_X7_33.r 0 (by omega) ((zSt_c 0 rfl (show σ 0 = (σ 0) from rfl))).o rfl ?_
    refine g_iload_n (M := mX7_choose) dX7_choose_9 1 rfl rfl ?_
    refine g_iload_n (M := mX7_choose) dX7_choose_10 2 rfl rfl ?_
    obtain ⟨t4, u5, h⟩ := zbi h
    refine g_callVr (M := mX7_choose) [.int (iI a1), .int (iI a2)] hX dX7_choose_11 vX0_isPlace kM_X7_198 (wX0_isPlace hX (zSt_c 4 rfl (show σ 4 = (σ 4) from rfl)) (by omega)  u5) 12 (zWs_at (by omega) ((zSt_c 4 rfl (show σ 4 = (σ 4) from rfl))).o) rfl ⟨(Nat.le_of_ble_eq_true rfl), (Nat.le_of_ble_eq_true rfl)⟩ ⟨(Nat.le_of_ble_eq_true rfl), (Nat.le_of_ble_eq_true rfl)⟩ (Nat.le_of_ble_eq_true rfl) ?_
    refine h_bne (M := mX7_choose) (tgt := 28) dX7_choose_14 (by decide) (fun c6 => ?_) (fun c6 => ?_)
    · have h := zti c6 h
      refine g_aload_n (M := mX7_choose) dX7_choose_28 0 rfl rfl ?_
      obtain ⟨t7, u8, h⟩ := zbi h
      refine g_callVA (M := mX7_choose) [] hX dX7_choose_29 vX7_keepPast kM_X7_114 (wX7_keepPast hX bn  u8) (fun _ => rfl) 0 (zWs_at (by omega) ((zSt_c 0 rfl (show σ 0 = (σ 0) from rfl))).o) rfl ⟨(Nat.le_of_ble_eq_true rfl), (Nat.le_of_ble_eq_true rfl)⟩ ⟨(Nat.le_of_ble_eq_true rfl), (Nat.le_of_ble_eq_true rfl)⟩ (Nat.le_of_ble_eq_true rfl) (fun A9 hnA9 => ?_)
      have hAc10 : ∀ k, ¬ (fun k => 1 ≤ k ∧ k < 91) k → A9 k = A k := fun k hk => (hnA9 k (by omega)).trans (rfl)
      refine g_lvc (M := mX7_choose) (lv' := [(0, .ref (A9 0)), (1, .int (iI a1)), (2, .int (iI a2))]) (by rw [hnA9 0 (by omega)]) ?_
      refine g_aload_n (M := mX7_choose) dX7_choose_32 0 rfl rfl ?_
      refine k_get (M := mX7_choose) (v := .ref (A9 12)) dX7_choose_33 kF_X7_33.r 0 (by omega) ((zSt_c 0 rfl (show t7 0 = (t7 0) from rfl))).o rfl ?_
      refine k_get (M := mX7_choose) (v := .ref (A9 (12 + 5))) dX7_choose_36 kF_X7_177 12 (by omega) ((zSt_c 4 rfl (show t7 4 = (t7 4) from rfl))).o rfl ?_
      refine g_iload_n (M := mX7_choose) dX7_choose_39 1 rfl rfl ?_
      refine g_iload_n (M := mX7_choose) dX7_choose_40 2 rfl rfl ?_
      obtain ⟨g11, h⟩ := zgi h
      refine g_ws (M := mX7_choose) (congrArg (zWs A9 n) (zSt_c 4 rfl (show t7 4 = (t7 4) from rfl)).symm) ?_
      refine c_iast (M := mX7_choose) (len := 10) (d := (0, 10)) dX7_choose_41 4 rfl rfl (by omega) (Nat.le_of_ble_eq_true rfl) g11.1 g11.2 ?_
      refine g_ws (M := mX7_choose) (congrArg (zWs A9 n) (zSt_p 4 rfl)) ?_
      refine g_aload_n (M := mX7_choose) dX7_choose_42 0 rfl rfl ?_
      obtain ⟨t12, u13, h⟩ := zbi h
      refine g_callVA (M := mX7_choose) [] hX dX7_choose_43 vX7_agreement kM_X7_336 (wX7_agreement hX bn  u13) (fun _ => rfl) 0 (zWs_at (by omega) ((zSt_c 0 rfl (show (zSu t7 4 (zPa (t7 4) 5 a1 a2)) 0 = (t7 0) from rfl))).o) rfl ⟨(Nat.le_of_ble_eq_true rfl), (Nat.le_of_ble_eq_true rfl)⟩ ⟨(Nat.le_of_ble_eq_true rfl), (Nat.le_of_ble_eq_true rfl)⟩ (Nat.le_of_ble_eq_true rfl) (fun A14 hnA14 => ?_)
      have hAc15 : ∀ k, ¬ (fun k => 1 ≤ k ∧ k < 91) k → A14 k = A k := fun k hk => (hnA14 k (by omega)).trans (hAc10 k hk)
      refine g_lvc (M := mX7_choose) (lv' := [(0, .ref (A14 0)), (1, .int (iI a1)), (2, .int (iI a2))]) (by rw [hnA14 0 (by omega)]) ?_
      have e := (Option.some.inj h)
      subst e
      exact g_iret (M := mX7_choose) dX7_choose_46 rfl (Nat.le_of_ble_eq_true rfl) (Nat.le_of_ble_eq_true rfl) ⟨_, hAc15, rfl, rfl⟩
    · have h := zfi (zbf c6) h
      have e := (Option.some.inj h)
      subst e
      exact g_throwW (M := mX7_choose) hX rfl rfl tT_X7_90_345_94 dX7_choose_17 dX7_choose_20 dX7_choose_21 dX7_choose_24 dX7_choose_27 (Nat.le_of_ble_eq_true rfl) (Nat.le_of_ble_eq_true rfl) (Nat.le_of_ble_eq_true rfl) (Nat.le_of_ble_eq_true rfl) ⟨_, (fun _ _ => rfl), rfl, rfl⟩
  · have h := zsro o3 h
    have e := (Option.some.inj h)
    subst e
    exact g_callVe (M := mX7_choose) [.int (iI a1)] hX dX7_choose_2 vX7_requireRow kM_X7_167 (wX7_requireRow hX bn  u2) (congrArg zoV o3) 0 (zWs_at (by omega) ((zSt_c 0 rfl (show σ 0 = (σ 0) from rfl))).o) rfl ⟨(Nat.le_of_ble_eq_true rfl), (Nat.le_of_ble_eq_true rfl)⟩ ⟨(Nat.le_of_ble_eq_true rfl), (Nat.le_of_ble_eq_true rfl)⟩ (Nat.le_of_ble_eq_true rfl) (gx_out rfl (Nat.le_of_ble_eq_true rfl) (Nat.le_of_ble_eq_true rfl) ⟨_, (fun _ _ => rfl), rfl, rfl⟩)
set_option maxHeartbeats 4000000 in
set_option maxRecDepth 100000 in
theorem wX7_clear {X : zX} (hX : zOK X) {A : Nat → Nat} {n : Nat} {S : Nat → va_E} {σ : CS} (bn : 91 ≤ n) {a1 : Int} {res : CS × (Int ⊕ String)} (h : fX7_clear σ a1 = some res) : Con X yX7_clear mX7_clear 7 2 12 [.ref (A 0), .int (iI a1)] (zWs A n (zSt X A σ S)) (zRA A (fun k => 1 ≤ k ∧ k < 91) (fun A' => (zWs A' n (zSt X A' res.1 S))) (fun A' => zoI res.2)) := by
  refine con_of (lv := [(0, .ref (A 0)), (1, .int (iI a1))]) (by decide) rfl (fun h => by cases h) rfl (Nat.le_of_ble_eq_true rfl) rfl ?_
  unfold fX7_clear at h
  refine g_aload_n (M := mX7_clear) dX7_clear_0 0 rfl rfl ?_
  refine g_iload_n (M := mX7_clear) dX7_clear_1 1 rfl rfl ?_
  obtain ⟨t1, u2, h⟩ := zbi h
  rcases o3 : t1 with vt1 | Et1
  · have h := zslo o3 h
    refine g_callVx (M := mX7_clear) [.int (iI a1)] hX dX7_clear_2 vX7_requireRow kM_X7_167 (wX7_requireRow hX bn  u2) (congrArg zoV o3) 0 (zWs_at (by omega) ((zSt_c 0 rfl (show σ 0 = (σ 0) from rfl))).o) rfl ⟨(Nat.le_of_ble_eq_true rfl), (Nat.le_of_ble_eq_true rfl)⟩ ⟨(Nat.le_of_ble_eq_true rfl), (Nat.le_of_ble_eq_true rfl)⟩ (Nat.le_of_ble_eq_true rfl) ?_
    refine g_aload_n (M := mX7_clear) dX7_clear_5 0 rfl rfl ?_
    refine k_get (M := mX7_clear) (v := .ref (A 12)) dX7_clear_6 kF_X7_33.r 0 (by omega) ((zSt_c 0 rfl (show σ 0 = (σ 0) from rfl))).o rfl ?_
    refine k_get (M := mX7_clear) (v := .ref (A (12 + 5))) dX7_clear_9 kF_X7_177 12 (by omega) ((zSt_c 4 rfl (show σ 4 = (σ 4) from rfl))).o rfl ?_
    refine g_iload_n (M := mX7_clear) dX7_clear_12 1 rfl rfl ?_
    obtain ⟨g4, h⟩ := zgi h
    refine k_iald (M := mX7_clear) (len := 10) (f := (σ 4).2 5) dX7_clear_13 (12 + 5) (by omega) (((zSt_c 4 rfl (show σ 4 = (σ 4) from rfl))).a (d := (0, 10)) 4 rfl) (Nat.le_of_ble_eq_true rfl) g4.1 g4.2 ?_
    refine g_istore_n (M := mX7_clear) (lv' := [(0, .ref (A 0)), (1, .int (iI a1)), (2, .int (iI (((σ 4).2 5) a1)))]) dX7_clear_14 rfl (by decide) rfl ?_
    refine g_iload_n (M := mX7_clear) dX7_clear_15 2 rfl rfl ?_
    refine h_iconst (M := mX7_clear) dX7_clear_16 ?_
    obtain ⟨g6, h⟩ := zgi h
    refine h_icmp_ne (M := mX7_clear) (tgt := 31) dX7_clear_17 (by decide) g6 (by decide) (fun c5 => ?_) (fun c5 => ?_)
    · have h := zfi c5 h
      refine g_aload_n (M := mX7_clear) dX7_clear_31 0 rfl rfl ?_
      obtain ⟨t7, u8, h⟩ := zbi h
      refine g_callVA (M := mX7_clear) [] hX dX7_clear_32 vX7_keepPast kM_X7_114 (wX7_keepPast hX bn  u8) (fun _ => rfl) 0 (zWs_at (by omega) ((zSt_c 0 rfl (show σ 0 = (σ 0) from rfl))).o) rfl ⟨(Nat.le_of_ble_eq_true rfl), (Nat.le_of_ble_eq_true rfl)⟩ ⟨(Nat.le_of_ble_eq_true rfl), (Nat.le_of_ble_eq_true rfl)⟩ (Nat.le_of_ble_eq_true rfl) (fun A9 hnA9 => ?_)
      have hAc10 : ∀ k, ¬ (fun k => 1 ≤ k ∧ k < 91) k → A9 k = A k := fun k hk => (hnA9 k (by omega)).trans (rfl)
      refine g_lvc (M := mX7_clear) (lv' := [(0, .ref (A9 0)), (1, .int (iI a1)), (2, .int (iI (((σ 4).2 5) a1)))]) (by rw [hnA9 0 (by omega)]) ?_
      refine g_aload_n (M := mX7_clear) dX7_clear_35 0 rfl rfl ?_
      refine k_get (M := mX7_clear) (v := .ref (A9 12)) dX7_clear_36 kF_X7_33.r 0 (by omega) ((zSt_c 0 rfl (show t7 0 = (t7 0) from rfl))).o rfl ?_
      refine k_get (M := mX7_clear) (v := .ref (A9 (12 + 5))) dX7_clear_39 kF_X7_177 12 (by omega) ((zSt_c 4 rfl (show t7 4 = (t7 4) from rfl))).o rfl ?_
      refine g_iload_n (M := mX7_clear) dX7_clear_42 1 rfl rfl ?_
      refine h_iconst (M := mX7_clear) dX7_clear_43 ?_
      refine g_ws (M := mX7_clear) (congrArg (zWs A9 n) (zSt_c 4 rfl (show t7 4 = (t7 4) from rfl)).symm) ?_
      refine c_iast (M := mX7_clear) (len := 10) (d := (0, 10)) dX7_clear_44 4 rfl rfl (by omega) (Nat.le_of_ble_eq_true rfl) g4.1 g4.2 ?_
      refine g_ws (M := mX7_clear) (congrArg (zWs A9 n) (zSt_p 4 rfl)) ?_
      refine g_iload_n (M := mX7_clear) dX7_clear_45 2 rfl rfl ?_
      have e := (Option.some.inj h)
      subst e
      exact g_iret (M := mX7_clear) dX7_clear_46 rfl (Nat.le_of_ble_eq_true rfl) (Nat.le_of_ble_eq_true rfl) ⟨_, hAc10, rfl, rfl⟩
    · have h := zti c5 h
      have e := (Option.some.inj h)
      subst e
      exact g_throwW (M := mX7_clear) hX rfl rfl tT_X7_79_347_83 dX7_clear_20 dX7_clear_23 dX7_clear_24 dX7_clear_27 dX7_clear_30 (Nat.le_of_ble_eq_true rfl) (Nat.le_of_ble_eq_true rfl) (Nat.le_of_ble_eq_true rfl) (Nat.le_of_ble_eq_true rfl) ⟨_, (fun _ _ => rfl), rfl, rfl⟩
  · have h := zsro o3 h
    have e := (Option.some.inj h)
    subst e
    exact g_callVe (M := mX7_clear) [.int (iI a1)] hX dX7_clear_2 vX7_requireRow kM_X7_167 (wX7_requireRow hX bn  u2) (congrArg zoV o3) 0 (zWs_at (by omega) ((zSt_c 0 rfl (show σ 0 = (σ 0) from rfl))).o) rfl ⟨(Nat.le_of_ble_eq_true rfl), (Nat.le_of_ble_eq_true rfl)⟩ ⟨(Nat.le_of_ble_eq_true rfl), (Nat.le_of_ble_eq_true rfl)⟩ (Nat.le_of_ble_eq_true rfl) (gx_out rfl (Nat.le_of_ble_eq_true rfl) (Nat.le_of_ble_eq_true rfl) ⟨_, (fun _ _ => rfl), rfl, rfl⟩)
set_option maxHeartbeats 4000000 in
set_option maxRecDepth 100000 in
theorem wX7_closest {X : zX} (hX : zOK X) {A : Nat → Nat} {n : Nat} {S : Nat → va_E} {σ : CS} (bn : 91 ≤ n) {a1 : Int} {a2 : Int} {res : (Int ⊕ String)} (h : fX7_closest σ a1 a2 = some res) : Con X yX7_closest mX7_closest 7 2 12 [.ref (A 0), .int (iI a1), .int (iI a2)] (zWs A n (zSt X A σ S)) (zRx (zWs A n (zSt X A σ S)) (zoI res)) := by
  refine con_of (lv := [(0, .ref (A 0)), (1, .int (iI a1)), (2, .int (iI a2))]) (by decide) rfl (fun h => by cases h) rfl (Nat.le_of_ble_eq_true rfl) rfl ?_
  unfold fX7_closest at h
  refine g_aload_n (M := mX7_closest) dX7_closest_0 0 rfl rfl ?_
  refine g_iload_n (M := mX7_closest) dX7_closest_1 1 rfl rfl ?_
  obtain ⟨t1, u2, h⟩ := zbi h
  rcases o3 : t1 with vt1 | Et1
  · have h := zslo o3 h
    refine g_callVx (M := mX7_closest) [.int (iI a1)] hX dX7_closest_2 vX7_requireRow kM_X7_167 (wX7_requireRow hX bn  u2) (congrArg zoV o3) 0 (zWs_at (by omega) ((zSt_c 0 rfl (show σ 0 = (σ 0) from rfl))).o) rfl ⟨(Nat.le_of_ble_eq_true rfl), (Nat.le_of_ble_eq_true rfl)⟩ ⟨(Nat.le_of_ble_eq_true rfl), (Nat.le_of_ble_eq_true rfl)⟩ (Nat.le_of_ble_eq_true rfl) ?_
    refine g_aload_n (M := mX7_closest) dX7_closest_5 0 rfl rfl ?_
    refine g_iload_n (M := mX7_closest) dX7_closest_6 2 rfl rfl ?_
    obtain ⟨t4, u5, h⟩ := zbi h
    rcases o6 : t4 with vt4 | Et4
    · have h := zslo o6 h
      refine g_callVx (M := mX7_closest) [.int (iI a2)] hX dX7_closest_7 vX7_requireWord kM_X7_208 (wX7_requireWord hX bn  u5) (congrArg zoV o6) 0 (zWs_at (by omega) ((zSt_c 0 rfl (show σ 0 = (σ 0) from rfl))).o) rfl ⟨(Nat.le_of_ble_eq_true rfl), (Nat.le_of_ble_eq_true rfl)⟩ ⟨(Nat.le_of_ble_eq_true rfl), (Nat.le_of_ble_eq_true rfl)⟩ (Nat.le_of_ble_eq_true rfl) ?_
      refine g_aload_n (M := mX7_closest) dX7_closest_10 0 rfl rfl ?_
      refine k_get (M := mX7_closest) (v := .ref (A 12)) dX7_closest_11 kF_X7_33.r 0 (by omega) ((zSt_c 0 rfl (show σ 0 = (σ 0) from rfl))).o rfl ?_
      refine g_iload_n (M := mX7_closest) dX7_closest_14 1 rfl rfl ?_
      refine g_aload_n (M := mX7_closest) dX7_closest_15 0 rfl rfl ?_
      refine k_get (M := mX7_closest) (v := .ref (A 12)) dX7_closest_16 kF_X7_33.r 0 (by omega) ((zSt_c 0 rfl (show σ 0 = (σ 0) from rfl))).o rfl ?_
      refine g_iload_n (M := mX7_closest) dX7_closest_19 2 rfl rfl ?_
      obtain ⟨t7, u8, h⟩ := zbi h
      refine g_callVr (M := mX7_closest) [.int (iI a2)] hX dX7_closest_20 vX0_codeOf kM_X7_211 (wX0_codeOf hX (zSt_c 4 rfl (show σ 4 = (σ 4) from rfl)) (by omega)  u8) 12 (zWs_at (by omega) ((zSt_c 4 rfl (show σ 4 = (σ 4) from rfl))).o) rfl ⟨(Nat.le_of_ble_eq_true rfl), (Nat.le_of_ble_eq_true rfl)⟩ ⟨(Nat.le_of_ble_eq_true rfl), (Nat.le_of_ble_eq_true rfl)⟩ (Nat.le_of_ble_eq_true rfl) ?_
      obtain ⟨t9, u10, h⟩ := zbi h
      refine g_callVr (M := mX7_closest) [.int (iI a1), .int (iI t7)] hX dX7_closest_23 vX0_nearestStart kM_X7_227 (wX0_nearestStart hX (zSt_c 4 rfl (show σ 4 = (σ 4) from rfl)) (by omega)  u10) 12 (zWs_at (by omega) ((zSt_c 4 rfl (show σ 4 = (σ 4) from rfl))).o) rfl ⟨(Nat.le_of_ble_eq_true rfl), (Nat.le_of_ble_eq_true rfl)⟩ ⟨(Nat.le_of_ble_eq_true rfl), (Nat.le_of_ble_eq_true rfl)⟩ (Nat.le_of_ble_eq_true rfl) ?_
      have e := (Option.some.inj h)
      subst e
      exact g_iret (M := mX7_closest) dX7_closest_26 rfl (Nat.le_of_ble_eq_true rfl) (Nat.le_of_ble_eq_true rfl) ⟨rfl, rfl⟩
    · have h := zsro o6 h
      have e := (Option.some.inj h)
      subst e
      exact g_callVe (M := mX7_closest) [.int (iI a2)] hX dX7_closest_7 vX7_requireWord kM_X7_208 (wX7_requireWord hX bn  u5) (congrArg zoV o6) 0 (zWs_at (by omega) ((zSt_c 0 rfl (show σ 0 = (σ 0) from rfl))).o) rfl ⟨(Nat.le_of_ble_eq_true rfl), (Nat.le_of_ble_eq_true rfl)⟩ ⟨(Nat.le_of_ble_eq_true rfl), (Nat.le_of_ble_eq_true rfl)⟩ (Nat.le_of_ble_eq_true rfl) (gx_out rfl (Nat.le_of_ble_eq_true rfl) (Nat.le_of_ble_eq_true rfl) ⟨rfl, rfl⟩)
  · have h := zsro o3 h
    have e := (Option.some.inj h)
    subst e
    exact g_callVe (M := mX7_closest) [.int (iI a1)] hX dX7_closest_2 vX7_requireRow kM_X7_167 (wX7_requireRow hX bn  u2) (congrArg zoV o3) 0 (zWs_at (by omega) ((zSt_c 0 rfl (show σ 0 = (σ 0) from rfl))).o) rfl ⟨(Nat.le_of_ble_eq_true rfl), (Nat.le_of_ble_eq_true rfl)⟩ ⟨(Nat.le_of_ble_eq_true rfl), (Nat.le_of_ble_eq_true rfl)⟩ (Nat.le_of_ble_eq_true rfl) (gx_out rfl (Nat.le_of_ble_eq_true rfl) (Nat.le_of_ble_eq_true rfl) ⟨rfl, rfl⟩)
set_option maxHeartbeats 4000000 in
set_option maxRecDepth 100000 in
theorem wX7_common {X : zX} (hX : zOK X) {A : Nat → Nat} {n : Nat} {S : Nat → va_E} {σ : CS} (bn : 91 ≤ n) {res : CS × Int} (h : fX7_common σ = some res) : Con X yX7_common mX7_common 3 0 0 [.ref (A 0)] (zWs A n (zSt X A σ S)) (zRA A (fun k => 1 ≤ k ∧ k < 91) (fun A' => (zWs A' n (zSt X A' res.1 S))) (fun A' => .inl (some (.int (iI res.2))))) := by
  refine con_of (lv := [(0, .ref (A 0))]) (by decide) rfl (fun h => by cases h) rfl (Nat.le_of_ble_eq_true rfl) rfl ?_
  unfold fX7_common at h
  refine g_aload_n (M := mX7_common) dX7_common_0 0 rfl rfl ?_
  refine k_get (M := mX7_common) (v := .ref (A 12)) dX7_common_1 kF_X7_33.r 0 (by omega) ((zSt_c 0 rfl (show σ 0 = (σ 0) from rfl))).o rfl ?_
  obtain ⟨t1, u2, h⟩ := zbi h
  refine g_callVr (M := mX7_common) [] hX dX7_common_4 vX0_chosenRows kM_X7_162 (wX0_chosenRows hX (zSt_c 4 rfl (show σ 4 = (σ 4) from rfl)) (by omega)  u2) 12 (zWs_at (by omega) ((zSt_c 4 rfl (show σ 4 = (σ 4) from rfl))).o) rfl ⟨(Nat.le_of_ble_eq_true rfl), (Nat.le_of_ble_eq_true rfl)⟩ ⟨(Nat.le_of_ble_eq_true rfl), (Nat.le_of_ble_eq_true rfl)⟩ (Nat.le_of_ble_eq_true rfl) ?_
  obtain ⟨g4, h⟩ := zgi h
  refine h_if_ne (M := mX7_common) (tgt := 12) dX7_common_7 (by decide) g4 (fun c3 => ?_) (fun c3 => ?_)
  · have h := zfi c3 h
    refine g_aload_n (M := mX7_common) dX7_common_12 0 rfl rfl ?_
    refine k_get (M := mX7_common) (v := .ref (A 45)) dX7_common_13 kF_X7_60.r 0 (by omega) ((zSt_c 0 rfl (show σ 0 = (σ 0) from rfl))).o rfl ?_
    refine g_aload_n (M := mX7_common) dX7_common_16 0 rfl rfl ?_
    refine k_get (M := mX7_common) (v := .ref (A 12)) dX7_common_17 kF_X7_33.r 0 (by omega) ((zSt_c 0 rfl (show σ 0 = (σ 0) from rfl))).o rfl ?_
    refine h_iconst (M := mX7_common) dX7_common_20 ?_
    obtain ⟨t5, u6, h⟩ := zbi h
    refine g_callVr (M := mX7_common) [.ref (A 12), .int (iI (-1))] hX dX7_common_21 vX1_fill kM_X7_316 (wX1_fill hX (zSt_c 9 rfl (show σ 9 = (σ 9) from rfl)) (by omega) (zSt_c 4 rfl (show σ 4 = (σ 4) from rfl)) (by omega) (by omega) u6) 45 (zWs_at (by omega) ((zSt_c 9 rfl (show σ 9 = (σ 9) from rfl))).o) rfl ⟨(Nat.le_of_ble_eq_true rfl), (Nat.le_of_ble_eq_true rfl)⟩ ⟨(Nat.le_of_ble_eq_true rfl), (Nat.le_of_ble_eq_true rfl)⟩ (Nat.le_of_ble_eq_true rfl) ?_
    refine g_ws (M := mX7_common) (congrArg (fun z => zWs A n (z)) (zSt_p 9 rfl)) ?_
    refine g_aload_n (M := mX7_common) dX7_common_24 0 rfl rfl ?_
    refine k_get (M := mX7_common) (v := .ref (A 12)) dX7_common_25 kF_X7_33.r 0 (by omega) ((zSt_c 0 rfl (show (zSu σ 9 t5) 0 = (σ 0) from rfl))).o rfl ?_
    refine g_aload_n (M := mX7_common) dX7_common_28 0 rfl rfl ?_
    refine k_get (M := mX7_common) (v := .ref (A 45)) dX7_common_29 kF_X7_60.r 0 (by omega) ((zSt_c 0 rfl (show (zSu σ 9 t5) 0 = (σ 0) from rfl))).o rfl ?_
    obtain ⟨t7, u8, h⟩ := zbi h
    refine g_callVr (M := mX7_common) [] hX dX7_common_32 vX1_commonCode kM_X7_323 (wX1_commonCode hX (zSt_c 9 rfl (show (zSu σ 9 t5) 9 = t5 from rfl)) (by omega)  u8) 45 (zWs_at (by omega) ((zSt_c 9 rfl (show (zSu σ 9 t5) 9 = t5 from rfl))).o) rfl ⟨(Nat.le_of_ble_eq_true rfl), (Nat.le_of_ble_eq_true rfl)⟩ ⟨(Nat.le_of_ble_eq_true rfl), (Nat.le_of_ble_eq_true rfl)⟩ (Nat.le_of_ble_eq_true rfl) ?_
    obtain ⟨t9, u10, h⟩ := zbi h
    refine g_callVr (M := mX7_common) [.int (iI t7)] hX dX7_common_35 vX0_wordOf kM_X7_205 (wX0_wordOf hX (zSt_c 4 rfl (show (zSu σ 9 t5) 4 = (σ 4) from rfl)) (by omega)  u10) 12 (zWs_at (by omega) ((zSt_c 4 rfl (show (zSu σ 9 t5) 4 = (σ 4) from rfl))).o) rfl ⟨(Nat.le_of_ble_eq_true rfl), (Nat.le_of_ble_eq_true rfl)⟩ ⟨(Nat.le_of_ble_eq_true rfl), (Nat.le_of_ble_eq_true rfl)⟩ (Nat.le_of_ble_eq_true rfl) ?_
    have e := (Option.some.inj h)
    subst e
    exact g_iret (M := mX7_common) dX7_common_38 rfl (Nat.le_of_ble_eq_true rfl) (Nat.le_of_ble_eq_true rfl) ⟨_, (fun _ _ => rfl), rfl, rfl⟩
  · have h := zti c3 h
    refine h_iconst (M := mX7_common) dX7_common_10 ?_
    have e := (Option.some.inj h)
    subst e
    exact g_iret (M := mX7_common) dX7_common_11 rfl (Nat.le_of_ble_eq_true rfl) (Nat.le_of_ble_eq_true rfl) ⟨_, (fun _ _ => rfl), rfl, rfl⟩
set_option maxHeartbeats 4000000 in
set_option maxRecDepth 100000 in
theorem wX7_commonest {X : zX} (hX : zOK X) {A : Nat → Nat} {n : Nat} {S : Nat → va_E} {σ : CS} (bn : 91 ≤ n) {res : CS × Int} (h : fX7_commonest σ = some res) : Con X yX7_commonest mX7_commonest 3 (3 + zNt (σ 10) (σ 4)) (18 + 4096 * zNt (σ 10) (σ 4)) [.ref (A 0)] (zWs A n (zSt X A σ S)) (zRA A (fun k => 1 ≤ k ∧ k < 91) (fun A' => (zWs A' n (zSt X A' res.1 S))) (fun A' => .inl (some (.int (iI res.2))))) := by
  refine con_of (lv := [(0, .ref (A 0))]) (by decide) rfl (fun h => by cases h) rfl (Nat.le_of_ble_eq_true rfl) rfl ?_
  unfold fX7_commonest at h
  refine g_aload_n (M := mX7_commonest) dX7_commonest_0 0 rfl rfl ?_
  refine k_get (M := mX7_commonest) (v := .ref (A 47)) dX7_commonest_1 kF_X7_67.r 0 (by omega) ((zSt_c 0 rfl (show σ 0 = (σ 0) from rfl))).o rfl ?_
  refine g_aload_n (M := mX7_commonest) dX7_commonest_4 0 rfl rfl ?_
  refine k_get (M := mX7_commonest) (v := .ref (A 12)) dX7_commonest_5 kF_X7_33.r 0 (by omega) ((zSt_c 0 rfl (show σ 0 = (σ 0) from rfl))).o rfl ?_
  obtain ⟨g1, h⟩ := zgi h
  obtain ⟨t2, u3, h⟩ := zbi h
  refine g_callVA (M := mX7_commonest) [.ref (A 12)] hX dX7_commonest_8 vX4_addAllPlaces kM_X7_258 (wX4_addAllPlaces hX (zSt_c 10 rfl (show σ 10 = (σ 10) from rfl)) (by omega) (zSt_c 4 rfl (show σ 4 = (σ 4) from rfl)) (by omega) (by omega) u3) (fun _ => rfl) 47 (zWs_at (by omega) ((zSt_c 10 rfl (show σ 10 = (σ 10) from rfl))).o) rfl ⟨(Nat.le_of_ble_eq_true rfl), (Nat.le_of_ble_eq_true rfl)⟩ ⟨g1.1, g1.2⟩ (Nat.le_of_ble_eq_true rfl) (fun A4 hnA4 => ?_)
  refine g_ws (M := mX7_commonest) (congrArg (zWs A4 n) (zSt_pa (A := A) 10 rfl (by decide) (by decide) (fun k hk => hnA4 k hk))) ?_
  have hAc5 : ∀ k, ¬ (fun k => 1 ≤ k ∧ k < 91) k → A4 k = A k := fun k hk => (hnA4 k (by omega)).trans (rfl)
  refine g_lvc (M := mX7_commonest) (lv' := [(0, .ref (A4 0))]) (by rw [hnA4 0 (by omega)]) ?_
  refine g_aload_n (M := mX7_commonest) dX7_commonest_11 0 rfl rfl ?_
  refine k_get (M := mX7_commonest) (v := .ref (A4 47)) dX7_commonest_12 kF_X7_67.r 0 (by omega) ((zSt_c 0 rfl (show (zSu σ 10 t2) 0 = (σ 0) from rfl))).o rfl ?_
  obtain ⟨t6, u7, h⟩ := zbi h
  refine g_callVr (M := mX7_commonest) [] hX dX7_commonest_15 vX4_mostMarked kM_X7_264 (wX4_mostMarked hX (zSt_c 10 rfl (show (zSu σ 10 t2) 10 = t2 from rfl)) (by omega)  u7) 47 (zWs_at (by omega) ((zSt_c 10 rfl (show (zSu σ 10 t2) 10 = t2 from rfl))).o) rfl ⟨(Nat.le_of_ble_eq_true rfl), (Nat.le_of_ble_eq_true rfl)⟩ ⟨(show 0 + (1 * zNt (σ 10) (σ 4)) + 0 ≤ 3 + zNt (σ 10) (σ 4) by omega), (show 0 + (4096 * zNt (σ 10) (σ 4)) + 0 ≤ 18 + 4096 * zNt (σ 10) (σ 4) by omega)⟩ (Nat.le_of_ble_eq_true rfl) ?_
  have e := (Option.some.inj h)
  subst e
  exact g_iret (M := mX7_commonest) dX7_commonest_18 rfl (by simpa using g1.1) (by simpa using g1.2) ⟨_, hAc5, rfl, rfl⟩
set_option maxHeartbeats 4000000 in
set_option maxRecDepth 100000 in
theorem wX7_count {X : zX} (hX : zOK X) {A : Nat → Nat} {n : Nat} {S : Nat → va_E} {σ : CS} (bn : 91 ≤ n) {a1 : Int} {a2 : Int} {res : CS × (Int ⊕ String)} (h : fX7_count σ a1 a2 = some res) : Con X yX7_count mX7_count 6 1 6 [.ref (A 0), .int (iI a1), .int (iI a2)] (zWs A n (zSt X A σ S)) (zRA A (fun k => 1 ≤ k ∧ k < 91) (fun A' => (zWs A' n (zSt X A' res.1 S))) (fun A' => zoI res.2)) := by
  refine con_of (lv := [(0, .ref (A 0)), (1, .int (iI a1)), (2, .int (iI a2))]) (by decide) rfl (fun h => by cases h) rfl (Nat.le_of_ble_eq_true rfl) rfl ?_
  unfold fX7_count at h
  refine g_iload_n (M := mX7_count) dX7_count_0 1 rfl rfl ?_
  refine zJn_J (J := fun x13 => ∀ (Aj13 : Nat → Nat), (∀ k, ¬ (fun k => 1 ≤ k ∧ k < 91) k → Aj13 k = A k) → G X mX7_count (zPm X 6 1 6 (zRA A (fun k => 1 ≤ k ∧ k < 91) (fun A' => (zWs A' n (zSt X A' res.1 S))) (fun A' => zoI res.2))) 0 0 30 [] [] (zWs Aj13 n (zSt X Aj13 σ S))) h (fun x13 h => ?_) (fun j13 h => ?_)
  · intro Aj13 hAj13
    have e := (Option.some.inj h)
    subst e
    exact g_throwW (M := mX7_count) hX rfl rfl tT_X7_189_314_193 dX7_count_30 dX7_count_33 dX7_count_34 dX7_count_37 dX7_count_40 (Nat.le_of_ble_eq_true rfl) (Nat.le_of_ble_eq_true rfl) (Nat.le_of_ble_eq_true rfl) (Nat.le_of_ble_eq_true rfl) ⟨_, hAj13, rfl, rfl⟩
  · obtain ⟨g15, h⟩ := zgi h
    refine h_if_lt (M := mX7_count) (tgt := 30) dX7_count_1 (by decide) g15 (fun c14 => ?_) (fun c14 => ?_)
    · have h := zti c14 h
      refine g_lv (M := mX7_count) [] rfl ?_
      exact j13 () h A (fun _ _ => rfl)
    · have h := zfi (Int.not_lt.mpr c14) h
      refine g_iload_n (M := mX7_count) dX7_count_4 1 rfl rfl ?_
      refine g_aload_n (M := mX7_count) dX7_count_5 0 rfl rfl ?_
      refine k_get (M := mX7_count) (v := .ref (A 12)) dX7_count_6 kF_X7_33.r 0 (by omega) ((zSt_c 0 rfl (show σ 0 = (σ 0) from rfl))).o rfl ?_
      refine k_get (M := mX7_count) (v := .int (iI ((σ 4).1 1))) dX7_count_9 kF_X7_134.r 12 (by omega) ((zSt_c 4 rfl (show σ 4 = (σ 4) from rfl))).o rfl ?_
      obtain ⟨g17, h⟩ := zgi h
      refine h_icmp_ge (M := mX7_count) (tgt := 30) dX7_count_12 (by decide) g15 g17 (fun c16 => ?_) (fun c16 => ?_)
      · have h := zti c16 h
        refine g_lv (M := mX7_count) [] rfl ?_
        exact j13 () h A (fun _ _ => rfl)
      · have h := zfi (Int.not_le.mpr c16) h
        refine g_iload_n (M := mX7_count) dX7_count_15 2 rfl rfl ?_
        obtain ⟨g19, h⟩ := zgi h
        refine h_if_lt (M := mX7_count) (tgt := 30) dX7_count_16 (by decide) g19 (fun c18 => ?_) (fun c18 => ?_)
        · have h := zti c18 h
          refine g_lv (M := mX7_count) [] rfl ?_
          exact j13 () h A (fun _ _ => rfl)
        · have h := zfi (Int.not_lt.mpr c18) h
          refine g_iload_n (M := mX7_count) dX7_count_19 2 rfl rfl ?_
          refine g_aload_n (M := mX7_count) dX7_count_20 0 rfl rfl ?_
          refine k_get (M := mX7_count) (v := .ref (A 12)) dX7_count_21 kF_X7_33.r 0 (by omega) ((zSt_c 0 rfl (show σ 0 = (σ 0) from rfl))).o rfl ?_
          refine k_get (M := mX7_count) (v := .int (iI ((σ 4).1 0))) dX7_count_24 kF_X7_131.r 12 (by omega) ((zSt_c 4 rfl (show σ 4 = (σ 4) from rfl))).o rfl ?_
          obtain ⟨g21, h⟩ := zgi h
          refine h_icmp_lt (M := mX7_count) (tgt := 41) dX7_count_27 (by decide) g19 g21 (fun c20 => ?_) (fun c20 => ?_)
          · have h := zti c20 h
            refine g_aload_n (M := mX7_count) dX7_count_41 0 rfl rfl ?_
            refine k_get (M := mX7_count) (v := .ref (A 45)) dX7_count_42 kF_X7_60.r 0 (by omega) ((zSt_c 0 rfl (show σ 0 = (σ 0) from rfl))).o rfl ?_
            refine g_aload_n (M := mX7_count) dX7_count_45 0 rfl rfl ?_
            refine k_get (M := mX7_count) (v := .ref (A 12)) dX7_count_46 kF_X7_33.r 0 (by omega) ((zSt_c 0 rfl (show σ 0 = (σ 0) from rfl))).o rfl ?_
            refine h_iconst (M := mX7_count) dX7_count_49 ?_
            obtain ⟨t22, u23, h⟩ := zbi h
            refine g_callVr (M := mX7_count) [.ref (A 12), .int (iI (-1))] hX dX7_count_50 vX1_fill kM_X7_316 (wX1_fill hX (zSt_c 9 rfl (show σ 9 = (σ 9) from rfl)) (by omega) (zSt_c 4 rfl (show σ 4 = (σ 4) from rfl)) (by omega) (by omega) u23) 45 (zWs_at (by omega) ((zSt_c 9 rfl (show σ 9 = (σ 9) from rfl))).o) rfl ⟨(Nat.le_of_ble_eq_true rfl), (Nat.le_of_ble_eq_true rfl)⟩ ⟨(Nat.le_of_ble_eq_true rfl), (Nat.le_of_ble_eq_true rfl)⟩ (Nat.le_of_ble_eq_true rfl) ?_
            refine g_ws (M := mX7_count) (congrArg (fun z => zWs A n (z)) (zSt_p 9 rfl)) ?_
            refine g_aload_n (M := mX7_count) dX7_count_53 0 rfl rfl ?_
            refine k_get (M := mX7_count) (v := .ref (A 45)) dX7_count_54 kF_X7_60.r 0 (by omega) ((zSt_c 0 rfl (show (zSu σ 9 t22) 0 = (σ 0) from rfl))).o rfl ?_
            refine g_iload_n (M := mX7_count) dX7_count_57 1 rfl rfl ?_
            refine g_iload_n (M := mX7_count) dX7_count_58 2 rfl rfl ?_
            obtain ⟨t24, u25, h⟩ := zbi h
            refine g_callVr (M := mX7_count) [.int (iI a1), .int (iI a2)] hX dX7_count_59 vX1_countOf kM_X7_320 (wX1_countOf hX (zSt_c 9 rfl (show (zSu σ 9 t22) 9 = t22 from rfl)) (by omega)  u25) 45 (zWs_at (by omega) ((zSt_c 9 rfl (show (zSu σ 9 t22) 9 = t22 from rfl))).o) rfl ⟨(Nat.le_of_ble_eq_true rfl), (Nat.le_of_ble_eq_true rfl)⟩ ⟨(Nat.le_of_ble_eq_true rfl), (Nat.le_of_ble_eq_true rfl)⟩ (Nat.le_of_ble_eq_true rfl) ?_
            have e := (Option.some.inj h)
            subst e
            exact g_iret (M := mX7_count) dX7_count_62 rfl (Nat.le_of_ble_eq_true rfl) (Nat.le_of_ble_eq_true rfl) ⟨_, (fun _ _ => rfl), rfl, rfl⟩
          · have h := zfi (Int.not_lt.mpr c20) h
            refine g_lv (M := mX7_count) [] rfl ?_
            exact j13 () h A (fun _ _ => rfl)
set_option maxHeartbeats 4000000 in
set_option maxRecDepth 100000 in
theorem wX7_differ {X : zX} (hX : zOK X) {A : Nat → Nat} {n : Nat} {S : Nat → va_E} {σ : CS} (bn : 91 ≤ n) {a1 : Int} {a2 : Int} {res : (Int ⊕ String)} (h : fX7_differ σ a1 a2 = some res) : Con X yX7_differ mX7_differ 7 2 12 [.ref (A 0), .int (iI a1), .int (iI a2)] (zWs A n (zSt X A σ S)) (zRx (zWs A n (zSt X A σ S)) (zoI res)) := by
  refine con_of (lv := [(0, .ref (A 0)), (1, .int (iI a1)), (2, .int (iI a2))]) (by decide) rfl (fun h => by cases h) rfl (Nat.le_of_ble_eq_true rfl) rfl ?_
  unfold fX7_differ at h
  refine g_aload_n (M := mX7_differ) dX7_differ_0 0 rfl rfl ?_
  refine g_iload_n (M := mX7_differ) dX7_differ_1 1 rfl rfl ?_
  obtain ⟨t1, u2, h⟩ := zbi h
  rcases o3 : t1 with vt1 | Et1
  · have h := zslo o3 h
    refine g_callVx (M := mX7_differ) [.int (iI a1)] hX dX7_differ_2 vX7_requireWord kM_X7_208 (wX7_requireWord hX bn  u2) (congrArg zoV o3) 0 (zWs_at (by omega) ((zSt_c 0 rfl (show σ 0 = (σ 0) from rfl))).o) rfl ⟨(Nat.le_of_ble_eq_true rfl), (Nat.le_of_ble_eq_true rfl)⟩ ⟨(Nat.le_of_ble_eq_true rfl), (Nat.le_of_ble_eq_true rfl)⟩ (Nat.le_of_ble_eq_true rfl) ?_
    refine g_aload_n (M := mX7_differ) dX7_differ_5 0 rfl rfl ?_
    refine g_iload_n (M := mX7_differ) dX7_differ_6 2 rfl rfl ?_
    obtain ⟨t4, u5, h⟩ := zbi h
    rcases o6 : t4 with vt4 | Et4
    · have h := zslo o6 h
      refine g_callVx (M := mX7_differ) [.int (iI a2)] hX dX7_differ_7 vX7_requireWord kM_X7_208 (wX7_requireWord hX bn  u5) (congrArg zoV o6) 0 (zWs_at (by omega) ((zSt_c 0 rfl (show σ 0 = (σ 0) from rfl))).o) rfl ⟨(Nat.le_of_ble_eq_true rfl), (Nat.le_of_ble_eq_true rfl)⟩ ⟨(Nat.le_of_ble_eq_true rfl), (Nat.le_of_ble_eq_true rfl)⟩ (Nat.le_of_ble_eq_true rfl) ?_
      refine g_aload_n (M := mX7_differ) dX7_differ_10 0 rfl rfl ?_
      refine k_get (M := mX7_differ) (v := .ref (A 12)) dX7_differ_11 kF_X7_33.r 0 (by omega) ((zSt_c 0 rfl (show σ 0 = (σ 0) from rfl))).o rfl ?_
      refine g_iload_n (M := mX7_differ) dX7_differ_14 1 rfl rfl ?_
      obtain ⟨t7, u8, h⟩ := zbi h
      refine g_callVr (M := mX7_differ) [.int (iI a1)] hX dX7_differ_15 vX0_codeOf kM_X7_211 (wX0_codeOf hX (zSt_c 4 rfl (show σ 4 = (σ 4) from rfl)) (by omega)  u8) 12 (zWs_at (by omega) ((zSt_c 4 rfl (show σ 4 = (σ 4) from rfl))).o) rfl ⟨(Nat.le_of_ble_eq_true rfl), (Nat.le_of_ble_eq_true rfl)⟩ ⟨(Nat.le_of_ble_eq_true rfl), (Nat.le_of_ble_eq_true rfl)⟩ (Nat.le_of_ble_eq_true rfl) ?_
      refine g_aload_n (M := mX7_differ) dX7_differ_18 0 rfl rfl ?_
      refine k_get (M := mX7_differ) (v := .ref (A 12)) dX7_differ_19 kF_X7_33.r 0 (by omega) ((zSt_c 0 rfl (show σ 0 = (σ 0) from rfl))).o rfl ?_
      refine g_iload_n (M := mX7_differ) dX7_differ_22 2 rfl rfl ?_
      obtain ⟨t9, u10, h⟩ := zbi h
      refine g_callVr (M := mX7_differ) [.int (iI a2)] hX dX7_differ_23 vX0_codeOf kM_X7_211 (wX0_codeOf hX (zSt_c 4 rfl (show σ 4 = (σ 4) from rfl)) (by omega)  u10) 12 (zWs_at (by omega) ((zSt_c 4 rfl (show σ 4 = (σ 4) from rfl))).o) rfl ⟨(Nat.le_of_ble_eq_true rfl), (Nat.le_of_ble_eq_true rfl)⟩ ⟨(Nat.le_of_ble_eq_true rfl), (Nat.le_of_ble_eq_true rfl)⟩ (Nat.le_of_ble_eq_true rfl) ?_
      refine g_aload_n (M := mX7_differ) dX7_differ_26 0 rfl rfl ?_
      refine k_get (M := mX7_differ) (v := .ref (A 12)) dX7_differ_27 kF_X7_33.r 0 (by omega) ((zSt_c 0 rfl (show σ 0 = (σ 0) from rfl))).o rfl ?_
      refine k_get (M := mX7_differ) (v := .int (iI ((σ 4).1 1))) dX7_differ_30 kF_X7_134.r 12 (by omega) ((zSt_c 4 rfl (show σ 4 = (σ 4) from rfl))).o rfl ?_
      obtain ⟨t11, u12, h⟩ := zbi h
      refine g_callSr (M := mX7_differ) [.int (iI t7), .int (iI t9), .int (iI ((σ 4).1 1))] hX dX7_differ_33 vX0_differing kM_X7_214 (wX0_differing hX   u12) rfl ⟨(Nat.le_of_ble_eq_true rfl), (Nat.le_of_ble_eq_true rfl)⟩ ⟨(Nat.le_of_ble_eq_true rfl), (Nat.le_of_ble_eq_true rfl)⟩ (Nat.le_of_ble_eq_true rfl) ?_
      have e := (Option.some.inj h)
      subst e
      exact g_iret (M := mX7_differ) dX7_differ_36 rfl (Nat.le_of_ble_eq_true rfl) (Nat.le_of_ble_eq_true rfl) ⟨rfl, rfl⟩
    · have h := zsro o6 h
      have e := (Option.some.inj h)
      subst e
      exact g_callVe (M := mX7_differ) [.int (iI a2)] hX dX7_differ_7 vX7_requireWord kM_X7_208 (wX7_requireWord hX bn  u5) (congrArg zoV o6) 0 (zWs_at (by omega) ((zSt_c 0 rfl (show σ 0 = (σ 0) from rfl))).o) rfl ⟨(Nat.le_of_ble_eq_true rfl), (Nat.le_of_ble_eq_true rfl)⟩ ⟨(Nat.le_of_ble_eq_true rfl), (Nat.le_of_ble_eq_true rfl)⟩ (Nat.le_of_ble_eq_true rfl) (gx_out rfl (Nat.le_of_ble_eq_true rfl) (Nat.le_of_ble_eq_true rfl) ⟨rfl, rfl⟩)
  · have h := zsro o3 h
    have e := (Option.some.inj h)
    subst e
    exact g_callVe (M := mX7_differ) [.int (iI a1)] hX dX7_differ_2 vX7_requireWord kM_X7_208 (wX7_requireWord hX bn  u2) (congrArg zoV o3) 0 (zWs_at (by omega) ((zSt_c 0 rfl (show σ 0 = (σ 0) from rfl))).o) rfl ⟨(Nat.le_of_ble_eq_true rfl), (Nat.le_of_ble_eq_true rfl)⟩ ⟨(Nat.le_of_ble_eq_true rfl), (Nat.le_of_ble_eq_true rfl)⟩ (Nat.le_of_ble_eq_true rfl) (gx_out rfl (Nat.le_of_ble_eq_true rfl) (Nat.le_of_ble_eq_true rfl) ⟨rfl, rfl⟩)
set_option maxHeartbeats 4000000 in
set_option maxRecDepth 100000 in
theorem wX7_distance {X : zX} (hX : zOK X) {A : Nat → Nat} {n : Nat} {S : Nat → va_E} {σ : CS} (bn : 91 ≤ n) {a1 : Int} {a2 : Int} {res : (Int ⊕ String)} (h : fX7_distance σ a1 a2 = some res) : Con X yX7_distance mX7_distance 7 2 12 [.ref (A 0), .int (iI a1), .int (iI a2)] (zWs A n (zSt X A σ S)) (zRx (zWs A n (zSt X A σ S)) (zoI res)) := by
  refine con_of (lv := [(0, .ref (A 0)), (1, .int (iI a1)), (2, .int (iI a2))]) (by decide) rfl (fun h => by cases h) rfl (Nat.le_of_ble_eq_true rfl) rfl ?_
  unfold fX7_distance at h
  refine g_aload_n (M := mX7_distance) dX7_distance_0 0 rfl rfl ?_
  refine g_iload_n (M := mX7_distance) dX7_distance_1 1 rfl rfl ?_
  obtain ⟨t1, u2, h⟩ := zbi h
  rcases o3 : t1 with vt1 | Et1
  · have h := zslo o3 h
    refine g_callVx (M := mX7_distance) [.int (iI a1)] hX dX7_distance_2 vX7_requireRow kM_X7_167 (wX7_requireRow hX bn  u2) (congrArg zoV o3) 0 (zWs_at (by omega) ((zSt_c 0 rfl (show σ 0 = (σ 0) from rfl))).o) rfl ⟨(Nat.le_of_ble_eq_true rfl), (Nat.le_of_ble_eq_true rfl)⟩ ⟨(Nat.le_of_ble_eq_true rfl), (Nat.le_of_ble_eq_true rfl)⟩ (Nat.le_of_ble_eq_true rfl) ?_
    refine g_aload_n (M := mX7_distance) dX7_distance_5 0 rfl rfl ?_
    refine g_iload_n (M := mX7_distance) dX7_distance_6 2 rfl rfl ?_
    obtain ⟨t4, u5, h⟩ := zbi h
    rcases o6 : t4 with vt4 | Et4
    · have h := zslo o6 h
      refine g_callVx (M := mX7_distance) [.int (iI a2)] hX dX7_distance_7 vX7_requireWord kM_X7_208 (wX7_requireWord hX bn  u5) (congrArg zoV o6) 0 (zWs_at (by omega) ((zSt_c 0 rfl (show σ 0 = (σ 0) from rfl))).o) rfl ⟨(Nat.le_of_ble_eq_true rfl), (Nat.le_of_ble_eq_true rfl)⟩ ⟨(Nat.le_of_ble_eq_true rfl), (Nat.le_of_ble_eq_true rfl)⟩ (Nat.le_of_ble_eq_true rfl) ?_
      refine g_aload_n (M := mX7_distance) dX7_distance_10 0 rfl rfl ?_
      refine k_get (M := mX7_distance) (v := .ref (A 12)) dX7_distance_11 kF_X7_33.r 0 (by omega) ((zSt_c 0 rfl (show σ 0 = (σ 0) from rfl))).o rfl ?_
      refine g_iload_n (M := mX7_distance) dX7_distance_14 1 rfl rfl ?_
      obtain ⟨t7, u8, h⟩ := zbi h
      refine g_callVr (M := mX7_distance) [.int (iI a1)] hX dX7_distance_15 vX0_isOut kM_X7_180 (wX0_isOut hX (zSt_c 4 rfl (show σ 4 = (σ 4) from rfl)) (by omega)  u8) 12 (zWs_at (by omega) ((zSt_c 4 rfl (show σ 4 = (σ 4) from rfl))).o) rfl ⟨(Nat.le_of_ble_eq_true rfl), (Nat.le_of_ble_eq_true rfl)⟩ ⟨(Nat.le_of_ble_eq_true rfl), (Nat.le_of_ble_eq_true rfl)⟩ (Nat.le_of_ble_eq_true rfl) ?_
      refine h_beq (M := mX7_distance) (tgt := 25) dX7_distance_18 (by decide) (fun c9 => ?_) (fun c9 => ?_)
      · have h := zfi (zbf c9) h
        refine g_aload_n (M := mX7_distance) dX7_distance_25 0 rfl rfl ?_
        refine k_get (M := mX7_distance) (v := .ref (A 12)) dX7_distance_26 kF_X7_33.r 0 (by omega) ((zSt_c 0 rfl (show σ 0 = (σ 0) from rfl))).o rfl ?_
        refine g_iload_n (M := mX7_distance) dX7_distance_29 1 rfl rfl ?_
        refine g_aload_n (M := mX7_distance) dX7_distance_30 0 rfl rfl ?_
        refine k_get (M := mX7_distance) (v := .ref (A 12)) dX7_distance_31 kF_X7_33.r 0 (by omega) ((zSt_c 0 rfl (show σ 0 = (σ 0) from rfl))).o rfl ?_
        refine g_iload_n (M := mX7_distance) dX7_distance_34 2 rfl rfl ?_
        obtain ⟨t10, u11, h⟩ := zbi h
        refine g_callVr (M := mX7_distance) [.int (iI a2)] hX dX7_distance_35 vX0_codeOf kM_X7_211 (wX0_codeOf hX (zSt_c 4 rfl (show σ 4 = (σ 4) from rfl)) (by omega)  u11) 12 (zWs_at (by omega) ((zSt_c 4 rfl (show σ 4 = (σ 4) from rfl))).o) rfl ⟨(Nat.le_of_ble_eq_true rfl), (Nat.le_of_ble_eq_true rfl)⟩ ⟨(Nat.le_of_ble_eq_true rfl), (Nat.le_of_ble_eq_true rfl)⟩ (Nat.le_of_ble_eq_true rfl) ?_
        refine g_aload_n (M := mX7_distance) dX7_distance_38 0 rfl rfl ?_
        refine k_get (M := mX7_distance) (v := .ref (A 12)) dX7_distance_39 kF_X7_33.r 0 (by omega) ((zSt_c 0 rfl (show σ 0 = (σ 0) from rfl))).o rfl ?_
        refine k_get (M := mX7_distance) (v := .int (iI ((σ 4).1 1))) dX7_distance_42 kF_X7_134.r 12 (by omega) ((zSt_c 4 rfl (show σ 4 = (σ 4) from rfl))).o rfl ?_
        obtain ⟨t12, u13, h⟩ := zbi h
        refine g_callVr (M := mX7_distance) [.int (iI a1), .int (iI t10), .int (iI ((σ 4).1 1))] hX dX7_distance_45 vX0_nearest kM_X7_218 (wX0_nearest hX (zSt_c 4 rfl (show σ 4 = (σ 4) from rfl)) (by omega)  u13) 12 (zWs_at (by omega) ((zSt_c 4 rfl (show σ 4 = (σ 4) from rfl))).o) rfl ⟨(Nat.le_of_ble_eq_true rfl), (Nat.le_of_ble_eq_true rfl)⟩ ⟨(Nat.le_of_ble_eq_true rfl), (Nat.le_of_ble_eq_true rfl)⟩ (Nat.le_of_ble_eq_true rfl) ?_
        have e := (Option.some.inj h)
        subst e
        exact g_iret (M := mX7_distance) dX7_distance_48 rfl (Nat.le_of_ble_eq_true rfl) (Nat.le_of_ble_eq_true rfl) ⟨rfl, rfl⟩
      · have h := zti c9 h
        refine h_iconst (M := mX7_distance) dX7_distance_21 ?_
        refine g_goto (M := mX7_distance) (tgt := 48) dX7_distance_22 (by decide) ?_
        have e := (Option.some.inj h)
        subst e
        exact g_iret (M := mX7_distance) dX7_distance_48 rfl (Nat.le_of_ble_eq_true rfl) (Nat.le_of_ble_eq_true rfl) ⟨rfl, rfl⟩
    · have h := zsro o6 h
      have e := (Option.some.inj h)
      subst e
      exact g_callVe (M := mX7_distance) [.int (iI a2)] hX dX7_distance_7 vX7_requireWord kM_X7_208 (wX7_requireWord hX bn  u5) (congrArg zoV o6) 0 (zWs_at (by omega) ((zSt_c 0 rfl (show σ 0 = (σ 0) from rfl))).o) rfl ⟨(Nat.le_of_ble_eq_true rfl), (Nat.le_of_ble_eq_true rfl)⟩ ⟨(Nat.le_of_ble_eq_true rfl), (Nat.le_of_ble_eq_true rfl)⟩ (Nat.le_of_ble_eq_true rfl) (gx_out rfl (Nat.le_of_ble_eq_true rfl) (Nat.le_of_ble_eq_true rfl) ⟨rfl, rfl⟩)
  · have h := zsro o3 h
    have e := (Option.some.inj h)
    subst e
    exact g_callVe (M := mX7_distance) [.int (iI a1)] hX dX7_distance_2 vX7_requireRow kM_X7_167 (wX7_requireRow hX bn  u2) (congrArg zoV o3) 0 (zWs_at (by omega) ((zSt_c 0 rfl (show σ 0 = (σ 0) from rfl))).o) rfl ⟨(Nat.le_of_ble_eq_true rfl), (Nat.le_of_ble_eq_true rfl)⟩ ⟨(Nat.le_of_ble_eq_true rfl), (Nat.le_of_ble_eq_true rfl)⟩ (Nat.le_of_ble_eq_true rfl) (gx_out rfl (Nat.le_of_ble_eq_true rfl) (Nat.le_of_ble_eq_true rfl) ⟨rfl, rfl⟩)
set_option maxHeartbeats 4000000 in
set_option maxRecDepth 100000 in
theorem wX7_errorCode {X : zX} (hX : zOK X) {A : Nat → Nat} {n : Nat} {S : Nat → va_E} {σ : CS} (bn : 91 ≤ n) {res : Int} (h : fX7_errorCode σ = some res) : Con X yX7_errorCode mX7_errorCode 0 0 0 [.ref (A 0)] (zWs A n (zSt X A σ S)) (zRet (zWs A n (zSt X A σ S)) (some (.int (iI res)))) := by
  refine con_of (lv := [(0, .ref (A 0))]) (by decide) rfl (fun h => by cases h) rfl (Nat.le_of_ble_eq_true rfl) rfl ?_
  unfold fX7_errorCode at h
  refine g_aload_n (M := mX7_errorCode) dX7_errorCode_0 0 rfl rfl ?_
  refine k_get (M := mX7_errorCode) (v := .ref (A 3)) dX7_errorCode_1 kF_X7_12.r 0 (by omega) ((zSt_c 0 rfl (show σ 0 = (σ 0) from rfl))).o rfl ?_
  refine k_get (M := mX7_errorCode) (v := .int (iI ((σ 1).1 6))) dX7_errorCode_4 kF_X7_125.r 3 (by omega) ((zSt_c 1 rfl (show σ 1 = (σ 1) from rfl))).o rfl ?_
  have e := (Option.some.inj h)
  subst e
  exact g_iret (M := mX7_errorCode) dX7_errorCode_7 rfl (Nat.le_of_ble_eq_true rfl) (Nat.le_of_ble_eq_true rfl) ⟨rfl, rfl⟩
set_option maxHeartbeats 4000000 in
set_option maxRecDepth 100000 in
theorem wX7_errorPosition {X : zX} (hX : zOK X) {A : Nat → Nat} {n : Nat} {S : Nat → va_E} {σ : CS} (bn : 91 ≤ n) {res : Int} (h : fX7_errorPosition σ = some res) : Con X yX7_errorPosition mX7_errorPosition 0 0 0 [.ref (A 0)] (zWs A n (zSt X A σ S)) (zRet (zWs A n (zSt X A σ S)) (some (.int (iI res)))) := by
  refine con_of (lv := [(0, .ref (A 0))]) (by decide) rfl (fun h => by cases h) rfl (Nat.le_of_ble_eq_true rfl) rfl ?_
  unfold fX7_errorPosition at h
  refine g_aload_n (M := mX7_errorPosition) dX7_errorPosition_0 0 rfl rfl ?_
  refine k_get (M := mX7_errorPosition) (v := .ref (A 3)) dX7_errorPosition_1 kF_X7_12.r 0 (by omega) ((zSt_c 0 rfl (show σ 0 = (σ 0) from rfl))).o rfl ?_
  refine k_get (M := mX7_errorPosition) (v := .int (iI ((σ 1).1 7))) dX7_errorPosition_4 kF_X7_128.r 3 (by omega) ((zSt_c 1 rfl (show σ 1 = (σ 1) from rfl))).o rfl ?_
  have e := (Option.some.inj h)
  subst e
  exact g_iret (M := mX7_errorPosition) dX7_errorPosition_7 rfl (Nat.le_of_ble_eq_true rfl) (Nat.le_of_ble_eq_true rfl) ⟨rfl, rfl⟩
set_option maxHeartbeats 4000000 in
set_option maxRecDepth 100000 in
theorem wX7_feed {X : zX} (hX : zOK X) {A : Nat → Nat} {n : Nat} {S : Nat → va_E} {σ : CS} (bn : 91 ≤ n) {a1 : Int} {a2 : Int} {a3 : Int} {a4 : Int} {a5 : Int} {res : CS × (Int ⊕ String)} (h : fX7_feed σ a1 a2 a3 a4 a5 = some res) : Con X yX7_feed mX7_feed 6 1 6 [.ref (A 0), .int (iI a1), .int (iI a2), .int (iI a3), .int (iI a4), .int (iI a5)] (zWs A n (zSt X A σ S)) (zRA A (fun k => 1 ≤ k ∧ k < 91) (fun A' => (zWs A' n (zSt X A' res.1 S))) (fun A' => zoI res.2)) := by
  refine con_of (lv := [(0, .ref (A 0)), (1, .int (iI a1)), (2, .int (iI a2)), (3, .int (iI a3)), (4, .int (iI a4)), (5, .int (iI a5))]) (by decide) rfl (fun h => by cases h) rfl (Nat.le_of_ble_eq_true rfl) rfl ?_
  unfold fX7_feed at h
  refine g_aload_n (M := mX7_feed) dX7_feed_0 0 rfl rfl ?_
  refine k_get (M := mX7_feed) (v := .ref (A 3)) dX7_feed_1 kF_X7_12.r 0 (by omega) ((zSt_c 0 rfl (show σ 0 = (σ 0) from rfl))).o rfl ?_
  refine k_get (M := mX7_feed) (v := .int (iI ((σ 1).1 1))) dX7_feed_4 kF_X7_75.r 3 (by omega) ((zSt_c 1 rfl (show σ 1 = (σ 1) from rfl))).o rfl ?_
  refine h_sipush (M := mX7_feed) dX7_feed_7 rfl ?_
  obtain ⟨g2, h⟩ := zgi h
  refine h_icmp_le (M := mX7_feed) (tgt := 23) dX7_feed_10 (by decide) g2 (by decide) (fun c1 => ?_) (fun c1 => ?_)
  · have h := zti c1 h
    refine g_aload_n (M := mX7_feed) dX7_feed_23 0 rfl rfl ?_
    refine k_get (M := mX7_feed) (v := .ref (A 3)) dX7_feed_24 kF_X7_12.r 0 (by omega) ((zSt_c 0 rfl (show σ 0 = (σ 0) from rfl))).o rfl ?_
    refine g_iload_n (M := mX7_feed) dX7_feed_27 1 rfl rfl ?_
    obtain ⟨t3, u4, h⟩ := zbi h
    refine g_callVr (M := mX7_feed) [.int (iI a1)] hX dX7_feed_28 vX6_append kM_X7_86 (wX6_append hX (zSt_c 1 rfl (show σ 1 = (σ 1) from rfl)) (by omega)  u4) 3 (zWs_at (by omega) ((zSt_c 1 rfl (show σ 1 = (σ 1) from rfl))).o) rfl ⟨(Nat.le_of_ble_eq_true rfl), (Nat.le_of_ble_eq_true rfl)⟩ ⟨(Nat.le_of_ble_eq_true rfl), (Nat.le_of_ble_eq_true rfl)⟩ (Nat.le_of_ble_eq_true rfl) ?_
    refine g_ws (M := mX7_feed) (congrArg (fun z => zWs A n (z)) (zSt_p 1 rfl)) ?_
    refine g_aload_n (M := mX7_feed) dX7_feed_31 0 rfl rfl ?_
    refine k_get (M := mX7_feed) (v := .ref (A 3)) dX7_feed_32 kF_X7_12.r 0 (by omega) ((zSt_c 0 rfl (show (zSu σ 1 t3) 0 = (σ 0) from rfl))).o rfl ?_
    refine g_iload_n (M := mX7_feed) dX7_feed_35 2 rfl rfl ?_
    obtain ⟨t5, u6, h⟩ := zbi h
    refine g_callVr (M := mX7_feed) [.int (iI a2)] hX dX7_feed_36 vX6_append kM_X7_86 (wX6_append hX (zSt_c 1 rfl (show (zSu σ 1 t3) 1 = t3 from rfl)) (by omega)  u6) 3 (zWs_at (by omega) ((zSt_c 1 rfl (show (zSu σ 1 t3) 1 = t3 from rfl))).o) rfl ⟨(Nat.le_of_ble_eq_true rfl), (Nat.le_of_ble_eq_true rfl)⟩ ⟨(Nat.le_of_ble_eq_true rfl), (Nat.le_of_ble_eq_true rfl)⟩ (Nat.le_of_ble_eq_true rfl) ?_
    refine g_ws (M := mX7_feed) (congrArg (fun z => zWs A n (z)) (zSt_p 1 rfl)) ?_
    refine g_aload_n (M := mX7_feed) dX7_feed_39 0 rfl rfl ?_
    refine k_get (M := mX7_feed) (v := .ref (A 3)) dX7_feed_40 kF_X7_12.r 0 (by omega) ((zSt_c 0 rfl (show (zSu (zSu σ 1 t3) 1 t5) 0 = (σ 0) from rfl))).o rfl ?_
    refine g_iload_n (M := mX7_feed) dX7_feed_43 3 rfl rfl ?_
    obtain ⟨t7, u8, h⟩ := zbi h
    refine g_callVr (M := mX7_feed) [.int (iI a3)] hX dX7_feed_44 vX6_append kM_X7_86 (wX6_append hX (zSt_c 1 rfl (show (zSu (zSu σ 1 t3) 1 t5) 1 = t5 from rfl)) (by omega)  u8) 3 (zWs_at (by omega) ((zSt_c 1 rfl (show (zSu (zSu σ 1 t3) 1 t5) 1 = t5 from rfl))).o) rfl ⟨(Nat.le_of_ble_eq_true rfl), (Nat.le_of_ble_eq_true rfl)⟩ ⟨(Nat.le_of_ble_eq_true rfl), (Nat.le_of_ble_eq_true rfl)⟩ (Nat.le_of_ble_eq_true rfl) ?_
    refine g_ws (M := mX7_feed) (congrArg (fun z => zWs A n (z)) (zSt_p 1 rfl)) ?_
    refine g_aload_n (M := mX7_feed) dX7_feed_47 0 rfl rfl ?_
    refine k_get (M := mX7_feed) (v := .ref (A 3)) dX7_feed_48 kF_X7_12.r 0 (by omega) ((zSt_c 0 rfl (show (zSu (zSu (zSu σ 1 t3) 1 t5) 1 t7) 0 = (σ 0) from rfl))).o rfl ?_
    refine g_iload (M := mX7_feed) dX7_feed_51 4 rfl ?_
    obtain ⟨t9, u10, h⟩ := zbi h
    refine g_callVr (M := mX7_feed) [.int (iI a4)] hX dX7_feed_53 vX6_append kM_X7_86 (wX6_append hX (zSt_c 1 rfl (show (zSu (zSu (zSu σ 1 t3) 1 t5) 1 t7) 1 = t7 from rfl)) (by omega)  u10) 3 (zWs_at (by omega) ((zSt_c 1 rfl (show (zSu (zSu (zSu σ 1 t3) 1 t5) 1 t7) 1 = t7 from rfl))).o) rfl ⟨(Nat.le_of_ble_eq_true rfl), (Nat.le_of_ble_eq_true rfl)⟩ ⟨(Nat.le_of_ble_eq_true rfl), (Nat.le_of_ble_eq_true rfl)⟩ (Nat.le_of_ble_eq_true rfl) ?_
    refine g_ws (M := mX7_feed) (congrArg (fun z => zWs A n (z)) (zSt_p 1 rfl)) ?_
    refine g_aload_n (M := mX7_feed) dX7_feed_56 0 rfl rfl ?_
    refine k_get (M := mX7_feed) (v := .ref (A 3)) dX7_feed_57 kF_X7_12.r 0 (by omega) ((zSt_c 0 rfl (show (zSu (zSu (zSu (zSu σ 1 t3) 1 t5) 1 t7) 1 t9) 0 = (σ 0) from rfl))).o rfl ?_
    refine g_iload (M := mX7_feed) dX7_feed_60 5 rfl ?_
    obtain ⟨t11, u12, h⟩ := zbi h
    refine g_callVr (M := mX7_feed) [.int (iI a5)] hX dX7_feed_62 vX6_append kM_X7_86 (wX6_append hX (zSt_c 1 rfl (show (zSu (zSu (zSu (zSu σ 1 t3) 1 t5) 1 t7) 1 t9) 1 = t9 from rfl)) (by omega)  u12) 3 (zWs_at (by omega) ((zSt_c 1 rfl (show (zSu (zSu (zSu (zSu σ 1 t3) 1 t5) 1 t7) 1 t9) 1 = t9 from rfl))).o) rfl ⟨(Nat.le_of_ble_eq_true rfl), (Nat.le_of_ble_eq_true rfl)⟩ ⟨(Nat.le_of_ble_eq_true rfl), (Nat.le_of_ble_eq_true rfl)⟩ (Nat.le_of_ble_eq_true rfl) ?_
    refine g_ws (M := mX7_feed) (congrArg (fun z => zWs A n (z)) (zSt_p 1 rfl)) ?_
    refine g_aload_n (M := mX7_feed) dX7_feed_65 0 rfl rfl ?_
    refine k_get (M := mX7_feed) (v := .ref (A 3)) dX7_feed_66 kF_X7_12.r 0 (by omega) ((zSt_c 0 rfl (show (zSu (zSu (zSu (zSu (zSu σ 1 t3) 1 t5) 1 t7) 1 t9) 1 t11) 0 = (σ 0) from rfl))).o rfl ?_
    refine k_get (M := mX7_feed) (v := .int (iI (t11.1 1))) dX7_feed_69 kF_X7_75.r 3 (by omega) ((zSt_c 1 rfl (show (zSu (zSu (zSu (zSu (zSu σ 1 t3) 1 t5) 1 t7) 1 t9) 1 t11) 1 = t11 from rfl))).o rfl ?_
    have e := (Option.some.inj h)
    subst e
    exact g_iret (M := mX7_feed) dX7_feed_72 rfl (Nat.le_of_ble_eq_true rfl) (Nat.le_of_ble_eq_true rfl) ⟨_, (fun _ _ => rfl), rfl, rfl⟩
  · have h := zfi (Int.not_le.mpr c1) h
    have e := (Option.some.inj h)
    subst e
    exact g_throw (M := mX7_feed) hX rfl rfl tT_X7_79_81_83 dX7_feed_13 dX7_feed_16 dX7_feed_17 dX7_feed_19 dX7_feed_22 (Nat.le_of_ble_eq_true rfl) (Nat.le_of_ble_eq_true rfl) (Nat.le_of_ble_eq_true rfl) (Nat.le_of_ble_eq_true rfl) ⟨_, (fun _ _ => rfl), rfl, rfl⟩
set_option maxHeartbeats 4000000 in
set_option maxRecDepth 100000 in
theorem wX7_forgetSearches {X : zX} (hX : zOK X) {A : Nat → Nat} {n : Nat} {S : Nat → va_E} {σ : CS} (bn : 91 ≤ n) {res : CS} (h : fX7_forgetSearches σ = some res) : Con X yX7_forgetSearches mX7_forgetSearches 1 0 0 [.ref (A 0)] (zWs A n (zSt X A σ S)) (zRA A (fun k => 1 ≤ k ∧ k < 91) (fun A' => (zWs A' n (zSt X A' res S))) (fun A' => .inl none)) := by
  refine con_of (lv := [(0, .ref (A 0))]) (by decide) rfl (fun h => by cases h) rfl (Nat.le_of_ble_eq_true rfl) rfl ?_
  unfold fX7_forgetSearches at h
  refine g_aload_n (M := mX7_forgetSearches) dX7_forgetSearches_0 0 rfl rfl ?_
  refine k_get (M := mX7_forgetSearches) (v := .ref (A 33)) dX7_forgetSearches_1 kF_X7_50.r 0 (by omega) ((zSt_c 0 rfl (show σ 0 = (σ 0) from rfl))).o rfl ?_
  obtain ⟨t1, u2, h⟩ := zbi h
  refine g_callVr (M := mX7_forgetSearches) [] hX dX7_forgetSearches_4 vX3_forget kM_X7_416 (wX3_forget hX (zSt_c 7 rfl (show σ 7 = (σ 7) from rfl)) (by omega)  u2) 33 (zWs_at (by omega) ((zSt_c 7 rfl (show σ 7 = (σ 7) from rfl))).o) rfl ⟨(Nat.le_of_ble_eq_true rfl), (Nat.le_of_ble_eq_true rfl)⟩ ⟨(Nat.le_of_ble_eq_true rfl), (Nat.le_of_ble_eq_true rfl)⟩ (Nat.le_of_ble_eq_true rfl) ?_
  refine g_ws (M := mX7_forgetSearches) (congrArg (fun z => zWs A n (z)) (zSt_p 7 rfl)) ?_
  refine g_aload_n (M := mX7_forgetSearches) dX7_forgetSearches_7 0 rfl rfl ?_
  refine k_get (M := mX7_forgetSearches) (v := .ref (A 39)) dX7_forgetSearches_8 kF_X7_54.r 0 (by omega) ((zSt_c 0 rfl (show (zSu σ 7 t1) 0 = (σ 0) from rfl))).o rfl ?_
  obtain ⟨t3, u4, h⟩ := zbi h
  refine g_callVr (M := mX7_forgetSearches) [] hX dX7_forgetSearches_11 vX3_forget kM_X7_416 (wX3_forget hX (zSt_c 8 rfl (show (zSu σ 7 t1) 8 = (σ 8) from rfl)) (by omega)  u4) 39 (zWs_at (by omega) ((zSt_c 8 rfl (show (zSu σ 7 t1) 8 = (σ 8) from rfl))).o) rfl ⟨(Nat.le_of_ble_eq_true rfl), (Nat.le_of_ble_eq_true rfl)⟩ ⟨(Nat.le_of_ble_eq_true rfl), (Nat.le_of_ble_eq_true rfl)⟩ (Nat.le_of_ble_eq_true rfl) ?_
  refine g_ws (M := mX7_forgetSearches) (congrArg (fun z => zWs A n (z)) (zSt_p 8 rfl)) ?_
  have e := (Option.some.inj h)
  subst e
  exact g_vret (M := mX7_forgetSearches) dX7_forgetSearches_14 rfl (Nat.le_of_ble_eq_true rfl) (Nat.le_of_ble_eq_true rfl) ⟨_, (fun _ _ => rfl), rfl, rfl⟩
set_option maxHeartbeats 4000000 in
set_option maxRecDepth 100000 in
theorem wX7_having {X : zX} (hX : zOK X) {A : Nat → Nat} {n : Nat} {S : Nat → va_E} {σ : CS} (bn : 91 ≤ n) {a1 : Int} {res : (Int ⊕ String)} (h : fX7_having σ a1 = some res) : Con X yX7_having mX7_having 7 1 6 [.ref (A 0), .int (iI a1)] (zWs A n (zSt X A σ S)) (zRx (zWs A n (zSt X A σ S)) (zoI res)) := by
  refine con_of (lv := [(0, .ref (A 0)), (1, .int (iI a1))]) (by decide) rfl (fun h => by cases h) rfl (Nat.le_of_ble_eq_true rfl) rfl ?_
  unfold fX7_having at h
  refine g_aload_n (M := mX7_having) dX7_having_0 0 rfl rfl ?_
  refine g_iload_n (M := mX7_having) dX7_having_1 1 rfl rfl ?_
  obtain ⟨t1, u2, h⟩ := zbi h
  rcases o3 : t1 with vt1 | Et1
  · have h := zslo o3 h
    refine g_callVx (M := mX7_having) [.int (iI a1)] hX dX7_having_2 vX7_requireWord kM_X7_208 (wX7_requireWord hX bn  u2) (congrArg zoV o3) 0 (zWs_at (by omega) ((zSt_c 0 rfl (show σ 0 = (σ 0) from rfl))).o) rfl ⟨(Nat.le_of_ble_eq_true rfl), (Nat.le_of_ble_eq_true rfl)⟩ ⟨(Nat.le_of_ble_eq_true rfl), (Nat.le_of_ble_eq_true rfl)⟩ (Nat.le_of_ble_eq_true rfl) ?_
    refine g_aload_n (M := mX7_having) dX7_having_5 0 rfl rfl ?_
    refine k_get (M := mX7_having) (v := .ref (A 12)) dX7_having_6 kF_X7_33.r 0 (by omega) ((zSt_c 0 rfl (show σ 0 = (σ 0) from rfl))).o rfl ?_
    refine g_aload_n (M := mX7_having) dX7_having_9 0 rfl rfl ?_
    refine k_get (M := mX7_having) (v := .ref (A 12)) dX7_having_10 kF_X7_33.r 0 (by omega) ((zSt_c 0 rfl (show σ 0 = (σ 0) from rfl))).o rfl ?_
    refine g_iload_n (M := mX7_having) dX7_having_13 1 rfl rfl ?_
    obtain ⟨t4, u5, h⟩ := zbi h
    refine g_callVr (M := mX7_having) [.int (iI a1)] hX dX7_having_14 vX0_codeOf kM_X7_211 (wX0_codeOf hX (zSt_c 4 rfl (show σ 4 = (σ 4) from rfl)) (by omega)  u5) 12 (zWs_at (by omega) ((zSt_c 4 rfl (show σ 4 = (σ 4) from rfl))).o) rfl ⟨(Nat.le_of_ble_eq_true rfl), (Nat.le_of_ble_eq_true rfl)⟩ ⟨(Nat.le_of_ble_eq_true rfl), (Nat.le_of_ble_eq_true rfl)⟩ (Nat.le_of_ble_eq_true rfl) ?_
    obtain ⟨t6, u7, h⟩ := zbi h
    refine g_callVr (M := mX7_having) [.int (iI t4)] hX dX7_having_17 vX0_rowsHaving kM_X7_224 (wX0_rowsHaving hX (zSt_c 4 rfl (show σ 4 = (σ 4) from rfl)) (by omega)  u7) 12 (zWs_at (by omega) ((zSt_c 4 rfl (show σ 4 = (σ 4) from rfl))).o) rfl ⟨(Nat.le_of_ble_eq_true rfl), (Nat.le_of_ble_eq_true rfl)⟩ ⟨(Nat.le_of_ble_eq_true rfl), (Nat.le_of_ble_eq_true rfl)⟩ (Nat.le_of_ble_eq_true rfl) ?_
    have e := (Option.some.inj h)
    subst e
    exact g_iret (M := mX7_having) dX7_having_20 rfl (Nat.le_of_ble_eq_true rfl) (Nat.le_of_ble_eq_true rfl) ⟨rfl, rfl⟩
  · have h := zsro o3 h
    have e := (Option.some.inj h)
    subst e
    exact g_callVe (M := mX7_having) [.int (iI a1)] hX dX7_having_2 vX7_requireWord kM_X7_208 (wX7_requireWord hX bn  u2) (congrArg zoV o3) 0 (zWs_at (by omega) ((zSt_c 0 rfl (show σ 0 = (σ 0) from rfl))).o) rfl ⟨(Nat.le_of_ble_eq_true rfl), (Nat.le_of_ble_eq_true rfl)⟩ ⟨(Nat.le_of_ble_eq_true rfl), (Nat.le_of_ble_eq_true rfl)⟩ (Nat.le_of_ble_eq_true rfl) (gx_out rfl (Nat.le_of_ble_eq_true rfl) (Nat.le_of_ble_eq_true rfl) ⟨rfl, rfl⟩)
