set_option maxHeartbeats 4000000 in
set_option maxRecDepth 100000 in
theorem wX6_append {X : zX} (hX : zOK X) {A : Nat → Nat} {n : Nat} {S : Nat → va_E} {qTo : Nat} {VTo : CV} (hTo : isC X A shTo qTo VTo S) (bTo : qTo + 1 < n) {a1 : Int} {res : CV} (h : fX6_append VTo a1 = some res) : Con X yX6_append mX6_append 0 0 0 [.ref (A qTo), .int (iI a1)] (zWs A n S) (zRet (zWs A n (zC X A shTo qTo res S)) none) := by
  refine con_of (lv := [(0, .ref (A qTo)), (1, .int (iI a1))]) (by decide) rfl (fun h => by cases h) rfl (Nat.le_of_ble_eq_true rfl) rfl ?_
  refine g_ws (M := mX6_append) (congrArg (zWs A n) hTo.symm) ?_
  unfold fX6_append at h
  refine h_bipush (M := mX6_append) dX6_append_0 rfl ?_
  refine g_istore_n (M := mX6_append) (lv' := [(0, .ref (A qTo)), (1, .int (iI a1)), (2, .int (iI 24))]) dX6_append_2 rfl (by decide) rfl ?_
  obtain ⟨x1, l1, h⟩ := zbi h
  have r1 : ∀ y1, y1 = x1 → G X mX6_append (zPm X 0 0 0 (zRet (zWs A n (zC X A shTo qTo res S)) none)) 0 0 46 [] [] (zWs A n (zC X A shTo qTo y1.2 S)) := by
    intro y1 ey
    rw [← ey] at h
    have e := (Option.some.inj h)
    subst e
    exact g_vret (M := mX6_append) dX6_append_46 rfl (Nat.le_of_ble_eq_true rfl) (Nat.le_of_ble_eq_true rfl) ⟨rfl, rfl⟩
  refine zLp_J (J := fun s1 => G X mX6_append (zPm X 0 0 0 (zRet (zWs A n (zC X A shTo qTo res S)) none)) 0 0 3 [(0, .ref (A qTo)), (1, .int (iI a1)), (2, .int (iI s1.1))] [] (zWs A n (zC X A shTo qTo s1.2 S))) (fun s1 w1 h1 b1 e1 => ?_) _ _ l1
  refine g_iload_n (M := mX6_append) dX6_append_3 2 rfl rfl ?_
  obtain ⟨g9, h1⟩ := zgi h1
  refine h_if_lt (M := mX6_append) (tgt := 46) dX6_append_4 (by decide) g9 (fun c8 => ?_) (fun c8 => ?_)
  · have h1 := zti c8 h1
    refine g_lv (M := mX6_append) [] rfl ?_
    exact r1 _ (e1 _ (Option.some.inj h1).symm)
  · have h1 := zfi (Int.not_lt.mpr c8) h1
    refine g_aload_n (M := mX6_append) dX6_append_7 0 rfl rfl ?_
    refine k_get (M := mX6_append) (v := .int (iI (s1.2.1 1))) dX6_append_8 kF_X6_19.r qTo (by omega) (zC_o) rfl ?_
    refine h_sipush (M := mX6_append) dX6_append_11 rfl ?_
    obtain ⟨g11, h1⟩ := zgi h1
    refine h_icmp_ge (M := mX6_append) (tgt := 46) dX6_append_14 (by decide) g11 (by decide) (fun c10 => ?_) (fun c10 => ?_)
    · have h1 := zti c10 h1
      refine g_lv (M := mX6_append) [] rfl ?_
      exact r1 _ (e1 _ (Option.some.inj h1).symm)
    · have h1 := zfi (Int.not_le.mpr c10) h1
      refine g_aload_n (M := mX6_append) dX6_append_17 0 rfl rfl ?_
      refine k_get (M := mX6_append) (v := .ref (A (qTo + 1))) dX6_append_18 kF_X6_9.r qTo (by omega) (zC_o) rfl ?_
      refine g_aload_n (M := mX6_append) dX6_append_21 0 rfl rfl ?_
      refine k_get (M := mX6_append) (v := .int (iI (s1.2.1 1))) dX6_append_22 kF_X6_19.r qTo (by omega) (zC_o) rfl ?_
      refine g_iload_n (M := mX6_append) dX6_append_25 1 rfl rfl ?_
      refine g_iload_n (M := mX6_append) dX6_append_26 2 rfl rfl ?_
      obtain ⟨g12, h1⟩ := zgi h1
      refine g_iushr (M := mX6_append) dX6_append_27 rfl ?_
      refine h_topx (M := mX6_append) (b := a1 % 4294967296 / zP2 s1.1) (iI_ushrG g12) ?_
      refine g_i2b (M := mX6_append) dX6_append_28 rfl ?_
      refine h_topx (M := mX6_append) (b := ((a1 % 4294967296 / zP2 s1.1) + 128) % 256 - 128) (iI_i2b _) ?_
      obtain ⟨g13, h1⟩ := zgi h1
      refine c_bast (M := mX6_append) (len := 600) (d := (2, 600)) dX6_append_29 0 rfl rfl (by omega) (Nat.le_of_ble_eq_true rfl) g13.1 g13.2 (by omega) ?_
      refine g_aload_n (M := mX6_append) dX6_append_30 0 rfl rfl ?_
      refine g_dup (M := mX6_append) dX6_append_31 rfl ?_
      refine k_get (M := mX6_append) (v := .int (iI (s1.2.1 1))) dX6_append_32 kF_X6_19.r qTo (by omega) (zC_o) rfl ?_
      refine h_iconst (M := mX6_append) dX6_append_35 ?_
      refine h_iadd (M := mX6_append) dX6_append_36 ?_
      refine c_put (M := mX6_append) (k := 1) dX6_append_37 kF_X6_19 (by omega) rfl rfl (by decide) rfl rfl ?_
      refine h_iinc (M := mX6_append) (j := 2) (lv' := [(0, .ref (A qTo)), (1, .int (iI a1)), (2, .int (iI (s1.1 + (-8))))]) dX6_append_40 rfl (Nat.le_of_ble_eq_true rfl) rfl ?_
      refine g_goto (M := mX6_append) (tgt := 3) dX6_append_43 (by decide) ?_
      exact b1 _ (Option.some.inj h1).symm
set_option maxHeartbeats 4000000 in
set_option maxRecDepth 100000 in
theorem wX6_isBlank {X : zX} (hX : zOK X) {A : Nat → Nat} {n : Nat} {S : Nat → va_E} {a1 : Int} {res : Bool} (h : fX6_isBlank a1 = some res) : Con X yX6_isBlank mX6_isBlank 0 0 0 [.int (iI a1)] (zWs A n S) (zRet (zWs A n S) (some (.int (iI (b2 res))))) := by
  refine con_of (lv := [(0, .int (iI a1))]) (by decide) rfl (fun h => by cases h) rfl (Nat.le_of_ble_eq_true rfl) rfl ?_
  unfold fX6_isBlank at h
  refine g_iload_n (M := mX6_isBlank) dX6_isBlank_0 0 rfl rfl ?_
  refine h_bipush (M := mX6_isBlank) dX6_isBlank_1 rfl ?_
  obtain ⟨g2, h⟩ := zgi h
  refine h_icmp_eq (M := mX6_isBlank) (tgt := 12) dX6_isBlank_3 (by decide) g2 (by decide) (fun c1 => ?_) (fun c1 => ?_)
  · have h := zti c1 h
    refine h_iconst (M := mX6_isBlank) dX6_isBlank_12 ?_
    refine g_goto (M := mX6_isBlank) (tgt := 17) dX6_isBlank_13 (by decide) ?_
    have e := (Option.some.inj h)
    subst e
    exact g_zret (M := mX6_isBlank) .boolean dX6_isBlank_17 rfl rfl (Nat.le_of_ble_eq_true rfl) (Nat.le_of_ble_eq_true rfl) ⟨rfl, rfl⟩
  · have h := zfi c1 h
    refine g_iload_n (M := mX6_isBlank) dX6_isBlank_6 0 rfl rfl ?_
    refine h_bipush (M := mX6_isBlank) dX6_isBlank_7 rfl ?_
    refine h_icmp_ne (M := mX6_isBlank) (tgt := 16) dX6_isBlank_9 (by decide) g2 (by decide) (fun c3 => ?_) (fun c3 => ?_)
    · have h := zfi c3 h
      refine h_iconst (M := mX6_isBlank) dX6_isBlank_16 ?_
      have e := (Option.some.inj h)
      subst e
      exact g_zret (M := mX6_isBlank) .boolean dX6_isBlank_17 rfl rfl (Nat.le_of_ble_eq_true rfl) (Nat.le_of_ble_eq_true rfl) ⟨rfl, rfl⟩
    · have h := zti c3 h
      refine h_iconst (M := mX6_isBlank) dX6_isBlank_12 ?_
      refine g_goto (M := mX6_isBlank) (tgt := 17) dX6_isBlank_13 (by decide) ?_
      have e := (Option.some.inj h)
      subst e
      exact g_zret (M := mX6_isBlank) .boolean dX6_isBlank_17 rfl rfl (Nat.le_of_ble_eq_true rfl) (Nat.le_of_ble_eq_true rfl) ⟨rfl, rfl⟩
set_option maxHeartbeats 4000000 in
set_option maxRecDepth 100000 in
theorem wX6_isLetter {X : zX} (hX : zOK X) {A : Nat → Nat} {n : Nat} {S : Nat → va_E} {a1 : Int} {res : Bool} (h : fX6_isLetter a1 = some res) : Con X yX6_isLetter mX6_isLetter 0 0 0 [.int (iI a1)] (zWs A n S) (zRet (zWs A n S) (some (.int (iI (b2 res))))) := by
  refine con_of (lv := [(0, .int (iI a1))]) (by decide) rfl (fun h => by cases h) rfl (Nat.le_of_ble_eq_true rfl) rfl ?_
  unfold fX6_isLetter at h
  refine g_iload_n (M := mX6_isLetter) dX6_isLetter_0 0 rfl rfl ?_
  refine h_bipush (M := mX6_isLetter) dX6_isLetter_1 rfl ?_
  obtain ⟨g2, h⟩ := zgi h
  refine h_icmp_lt (M := mX6_isLetter) (tgt := 16) dX6_isLetter_3 (by decide) g2 (by decide) (fun c1 => ?_) (fun c1 => ?_)
  · have h := zti c1 h
    refine h_iconst (M := mX6_isLetter) dX6_isLetter_16 ?_
    have e := (Option.some.inj h)
    subst e
    exact g_zret (M := mX6_isLetter) .boolean dX6_isLetter_17 rfl rfl (Nat.le_of_ble_eq_true rfl) (Nat.le_of_ble_eq_true rfl) ⟨rfl, rfl⟩
  · have h := zfi (Int.not_lt.mpr c1) h
    refine g_iload_n (M := mX6_isLetter) dX6_isLetter_6 0 rfl rfl ?_
    refine h_bipush (M := mX6_isLetter) dX6_isLetter_7 rfl ?_
    refine h_icmp_gt (M := mX6_isLetter) (tgt := 16) dX6_isLetter_9 (by decide) g2 (by decide) (fun c3 => ?_) (fun c3 => ?_)
    · have h := zti c3 h
      refine h_iconst (M := mX6_isLetter) dX6_isLetter_16 ?_
      have e := (Option.some.inj h)
      subst e
      exact g_zret (M := mX6_isLetter) .boolean dX6_isLetter_17 rfl rfl (Nat.le_of_ble_eq_true rfl) (Nat.le_of_ble_eq_true rfl) ⟨rfl, rfl⟩
    · have h := zfi (Int.not_lt.mpr c3) h
      refine h_iconst (M := mX6_isLetter) dX6_isLetter_12 ?_
      refine g_goto (M := mX6_isLetter) (tgt := 17) dX6_isLetter_13 (by decide) ?_
      have e := (Option.some.inj h)
      subst e
      exact g_zret (M := mX6_isLetter) .boolean dX6_isLetter_17 rfl rfl (Nat.le_of_ble_eq_true rfl) (Nat.le_of_ble_eq_true rfl) ⟨rfl, rfl⟩
set_option maxHeartbeats 4000000 in
set_option maxRecDepth 100000 in
theorem wX6_readWord {X : zX} (hX : zOK X) {A : Nat → Nat} {n : Nat} {S : Nat → va_E} {qTo : Nat} {VTo : CV} (hTo : isC X A shTo qTo VTo S) (bTo : qTo + 1 < n) {res : CV} (h : fX6_readWord VTo = some res) : Con X yX6_readWord mX6_readWord 1 0 0 [.ref (A qTo)] (zWs A n S) (zRet (zWs A n (zC X A shTo qTo res S)) none) := by
  refine con_of (lv := [(0, .ref (A qTo))]) (by decide) rfl (fun h => by cases h) rfl (Nat.le_of_ble_eq_true rfl) rfl ?_
  refine g_ws (M := mX6_readWord) (congrArg (zWs A n) hTo.symm) ?_
  unfold fX6_readWord at h
  obtain ⟨x1, l1, h⟩ := zbi h
  have r1 : ∀ y1, y1 = x1 → G X mX6_readWord (zPm X 1 0 0 (zRet (zWs A n (zC X A shTo qTo res S)) none)) 0 0 39 [(0, .ref (A qTo))] [] (zWs A n (zC X A shTo qTo y1 S)) := by
    intro y1 ey
    rw [← ey] at h
    refine g_aload_n (M := mX6_readWord) dX6_readWord_39 0 rfl rfl ?_
    refine g_aload_n (M := mX6_readWord) dX6_readWord_40 0 rfl rfl ?_
    refine k_get (M := mX6_readWord) (v := .int (iI (y1.1 5))) dX6_readWord_41 kF_X6_25.r qTo (by omega) (zC_o) rfl ?_
    refine g_aload_n (M := mX6_readWord) dX6_readWord_44 0 rfl rfl ?_
    refine k_get (M := mX6_readWord) (v := .int (iI (y1.1 4))) dX6_readWord_45 kF_X6_31.r qTo (by omega) (zC_o) rfl ?_
    refine h_isub (M := mX6_readWord) dX6_readWord_48 ?_
    refine h_bipush (M := mX6_readWord) dX6_readWord_49 rfl ?_
    obtain ⟨g9, h⟩ := zgi h
    refine h_icmp_le (M := mX6_readWord) (tgt := 58) dX6_readWord_51 (by decide) g9 (by decide) (fun c8 => ?_) (fun c8 => ?_)
    · have h := zti c8 h
      refine h_iconst (M := mX6_readWord) dX6_readWord_58 ?_
      refine c_put (M := mX6_readWord) (k := 2) dX6_readWord_59 kF_X6_38 (by omega) rfl rfl (by decide) rfl rfl ?_
      have e := (Option.some.inj h)
      subst e
      exact g_vret (M := mX6_readWord) dX6_readWord_62 rfl (Nat.le_of_ble_eq_true rfl) (Nat.le_of_ble_eq_true rfl) ⟨rfl, rfl⟩
    · have h := zfi (Int.not_le.mpr c8) h
      refine h_iconst (M := mX6_readWord) dX6_readWord_54 ?_
      refine g_goto (M := mX6_readWord) (tgt := 59) dX6_readWord_55 (by decide) ?_
      refine c_put (M := mX6_readWord) (k := 2) dX6_readWord_59 kF_X6_38 (by omega) rfl rfl (by decide) rfl rfl ?_
      have e := (Option.some.inj h)
      subst e
      exact g_vret (M := mX6_readWord) dX6_readWord_62 rfl (Nat.le_of_ble_eq_true rfl) (Nat.le_of_ble_eq_true rfl) ⟨rfl, rfl⟩
  refine zLp_J (J := fun s1 => G X mX6_readWord (zPm X 1 0 0 (zRet (zWs A n (zC X A shTo qTo res S)) none)) 0 0 0 [(0, .ref (A qTo))] [] (zWs A n (zC X A shTo qTo s1 S))) (fun s1 w1 h1 b1 e1 => ?_) _ _ l1
  refine g_aload_n (M := mX6_readWord) dX6_readWord_0 0 rfl rfl ?_
  refine k_get (M := mX6_readWord) (v := .int (iI (s1.1 5))) dX6_readWord_1 kF_X6_25.r qTo (by omega) (zC_o) rfl ?_
  refine g_aload_n (M := mX6_readWord) dX6_readWord_4 0 rfl rfl ?_
  refine k_get (M := mX6_readWord) (v := .int (iI (s1.1 1))) dX6_readWord_5 kF_X6_19.r qTo (by omega) (zC_o) rfl ?_
  obtain ⟨g11, h1⟩ := zgi h1
  refine h_icmp_ge (M := mX6_readWord) (tgt := 39) dX6_readWord_8 (by decide) g11.1 g11.2 (fun c10 => ?_) (fun c10 => ?_)
  · have h1 := zti c10 h1
    exact r1 _ (e1 _ (Option.some.inj h1).symm)
  · have h1 := zfi (Int.not_le.mpr c10) h1
    refine g_aload_n (M := mX6_readWord) dX6_readWord_11 0 rfl rfl ?_
    refine k_get (M := mX6_readWord) (v := .ref (A (qTo + 1))) dX6_readWord_12 kF_X6_9.r qTo (by omega) (zC_o) rfl ?_
    refine g_aload_n (M := mX6_readWord) dX6_readWord_15 0 rfl rfl ?_
    refine k_get (M := mX6_readWord) (v := .int (iI (s1.1 5))) dX6_readWord_16 kF_X6_25.r qTo (by omega) (zC_o) rfl ?_
    obtain ⟨g12, h1⟩ := zgi h1
    refine k_bald (M := mX6_readWord) (len := 600) (f := s1.2 1) dX6_readWord_19 (qTo + 1) (by omega) (zC_a (d := (2, 600)) 0 rfl) (Nat.le_of_ble_eq_true rfl) g12.1 g12.2 ?_
    obtain ⟨t13, u14, h1⟩ := zbi h1
    refine g_callSr (M := mX6_readWord) [.int (iI (s1.2 1 (s1.1 5)))] hX dX6_readWord_20 vX6_isLetter kM_X6_41 (wX6_isLetter hX   u14) rfl ⟨(Nat.le_of_ble_eq_true rfl), (Nat.le_of_ble_eq_true rfl)⟩ ⟨(Nat.le_of_ble_eq_true rfl), (Nat.le_of_ble_eq_true rfl)⟩ (Nat.le_of_ble_eq_true rfl) ?_
    refine h_beq (M := mX6_readWord) (tgt := 39) dX6_readWord_23 (by decide) (fun c15 => ?_) (fun c15 => ?_)
    · have h1 := zfi (zbf c15) h1
      exact r1 _ (e1 _ (Option.some.inj h1).symm)
    · have h1 := zti c15 h1
      refine g_aload_n (M := mX6_readWord) dX6_readWord_26 0 rfl rfl ?_
      refine g_dup (M := mX6_readWord) dX6_readWord_27 rfl ?_
      refine k_get (M := mX6_readWord) (v := .int (iI (s1.1 5))) dX6_readWord_28 kF_X6_25.r qTo (by omega) (zC_o) rfl ?_
      refine h_iconst (M := mX6_readWord) dX6_readWord_31 ?_
      refine h_iadd (M := mX6_readWord) dX6_readWord_32 ?_
      refine c_put (M := mX6_readWord) (k := 5) dX6_readWord_33 kF_X6_25 (by omega) rfl rfl (by decide) rfl rfl ?_
      refine g_goto (M := mX6_readWord) (tgt := 0) dX6_readWord_36 (by decide) ?_
      exact b1 _ (Option.some.inj h1).symm
set_option maxHeartbeats 4000000 in
set_option maxRecDepth 100000 in
theorem wX6_isDigit {X : zX} (hX : zOK X) {A : Nat → Nat} {n : Nat} {S : Nat → va_E} {a1 : Int} {res : Bool} (h : fX6_isDigit a1 = some res) : Con X yX6_isDigit mX6_isDigit 0 0 0 [.int (iI a1)] (zWs A n S) (zRet (zWs A n S) (some (.int (iI (b2 res))))) := by
  refine con_of (lv := [(0, .int (iI a1))]) (by decide) rfl (fun h => by cases h) rfl (Nat.le_of_ble_eq_true rfl) rfl ?_
  unfold fX6_isDigit at h
  refine g_iload_n (M := mX6_isDigit) dX6_isDigit_0 0 rfl rfl ?_
  refine h_bipush (M := mX6_isDigit) dX6_isDigit_1 rfl ?_
  obtain ⟨g2, h⟩ := zgi h
  refine h_icmp_lt (M := mX6_isDigit) (tgt := 16) dX6_isDigit_3 (by decide) g2 (by decide) (fun c1 => ?_) (fun c1 => ?_)
  · have h := zti c1 h
    refine h_iconst (M := mX6_isDigit) dX6_isDigit_16 ?_
    have e := (Option.some.inj h)
    subst e
    exact g_zret (M := mX6_isDigit) .boolean dX6_isDigit_17 rfl rfl (Nat.le_of_ble_eq_true rfl) (Nat.le_of_ble_eq_true rfl) ⟨rfl, rfl⟩
  · have h := zfi (Int.not_lt.mpr c1) h
    refine g_iload_n (M := mX6_isDigit) dX6_isDigit_6 0 rfl rfl ?_
    refine h_bipush (M := mX6_isDigit) dX6_isDigit_7 rfl ?_
    refine h_icmp_gt (M := mX6_isDigit) (tgt := 16) dX6_isDigit_9 (by decide) g2 (by decide) (fun c3 => ?_) (fun c3 => ?_)
    · have h := zti c3 h
      refine h_iconst (M := mX6_isDigit) dX6_isDigit_16 ?_
      have e := (Option.some.inj h)
      subst e
      exact g_zret (M := mX6_isDigit) .boolean dX6_isDigit_17 rfl rfl (Nat.le_of_ble_eq_true rfl) (Nat.le_of_ble_eq_true rfl) ⟨rfl, rfl⟩
    · have h := zfi (Int.not_lt.mpr c3) h
      refine h_iconst (M := mX6_isDigit) dX6_isDigit_12 ?_
      refine g_goto (M := mX6_isDigit) (tgt := 17) dX6_isDigit_13 (by decide) ?_
      have e := (Option.some.inj h)
      subst e
      exact g_zret (M := mX6_isDigit) .boolean dX6_isDigit_17 rfl rfl (Nat.le_of_ble_eq_true rfl) (Nat.le_of_ble_eq_true rfl) ⟨rfl, rfl⟩
set_option maxHeartbeats 4000000 in
set_option maxRecDepth 100000 in
theorem wX6_readNumber {X : zX} (hX : zOK X) {A : Nat → Nat} {n : Nat} {S : Nat → va_E} {qTo : Nat} {VTo : CV} (hTo : isC X A shTo qTo VTo S) (bTo : qTo + 1 < n) {res : CV} (h : fX6_readNumber VTo = some res) : Con X yX6_readNumber mX6_readNumber 1 0 0 [.ref (A qTo)] (zWs A n S) (zRet (zWs A n (zC X A shTo qTo res S)) none) := by
  refine con_of (lv := [(0, .ref (A qTo))]) (by decide) rfl (fun h => by cases h) rfl (Nat.le_of_ble_eq_true rfl) rfl ?_
  refine g_ws (M := mX6_readNumber) (congrArg (zWs A n) hTo.symm) ?_
  unfold fX6_readNumber at h
  refine g_aload_n (M := mX6_readNumber) dX6_readNumber_0 0 rfl rfl ?_
  refine h_iconst (M := mX6_readNumber) dX6_readNumber_1 ?_
  refine c_put (M := mX6_readNumber) (k := 3) dX6_readNumber_2 kF_X6_56 (by omega) rfl rfl (by decide) rfl rfl ?_
  obtain ⟨x1, l1, h⟩ := zbi h
  have r1 : ∀ y1, y1 = x1 → G X mX6_readNumber (zPm X 1 0 0 (zRet (zWs A n (zC X A shTo qTo res S)) none)) 0 0 68 [(0, .ref (A qTo))] [] (zWs A n (zC X A shTo qTo y1 S)) := by
    intro y1 ey
    rw [← ey] at h
    refine g_aload_n (M := mX6_readNumber) dX6_readNumber_68 0 rfl rfl ?_
    refine g_aload_n (M := mX6_readNumber) dX6_readNumber_69 0 rfl rfl ?_
    refine k_get (M := mX6_readNumber) (v := .int (iI (y1.1 5))) dX6_readNumber_70 kF_X6_25.r qTo (by omega) (zC_o) rfl ?_
    refine g_aload_n (M := mX6_readNumber) dX6_readNumber_73 0 rfl rfl ?_
    refine k_get (M := mX6_readNumber) (v := .int (iI (y1.1 4))) dX6_readNumber_74 kF_X6_31.r qTo (by omega) (zC_o) rfl ?_
    refine h_isub (M := mX6_readNumber) dX6_readNumber_77 ?_
    refine h_iconst (M := mX6_readNumber) dX6_readNumber_78 ?_
    obtain ⟨g9, h⟩ := zgi h
    refine h_icmp_le (M := mX6_readNumber) (tgt := 86) dX6_readNumber_79 (by decide) g9 (by decide) (fun c8 => ?_) (fun c8 => ?_)
    · have h := zti c8 h
      refine h_iconst (M := mX6_readNumber) dX6_readNumber_86 ?_
      refine c_put (M := mX6_readNumber) (k := 2) dX6_readNumber_87 kF_X6_38 (by omega) rfl rfl (by decide) rfl rfl ?_
      have e := (Option.some.inj h)
      subst e
      exact g_vret (M := mX6_readNumber) dX6_readNumber_90 rfl (Nat.le_of_ble_eq_true rfl) (Nat.le_of_ble_eq_true rfl) ⟨rfl, rfl⟩
    · have h := zfi (Int.not_le.mpr c8) h
      refine h_iconst (M := mX6_readNumber) dX6_readNumber_82 ?_
      refine g_goto (M := mX6_readNumber) (tgt := 87) dX6_readNumber_83 (by decide) ?_
      refine c_put (M := mX6_readNumber) (k := 2) dX6_readNumber_87 kF_X6_38 (by omega) rfl rfl (by decide) rfl rfl ?_
      have e := (Option.some.inj h)
      subst e
      exact g_vret (M := mX6_readNumber) dX6_readNumber_90 rfl (Nat.le_of_ble_eq_true rfl) (Nat.le_of_ble_eq_true rfl) ⟨rfl, rfl⟩
  refine zLp_J (J := fun s1 => G X mX6_readNumber (zPm X 1 0 0 (zRet (zWs A n (zC X A shTo qTo res S)) none)) 0 0 5 [(0, .ref (A qTo))] [] (zWs A n (zC X A shTo qTo s1 S))) (fun s1 w1 h1 b1 e1 => ?_) _ _ l1
  refine g_aload_n (M := mX6_readNumber) dX6_readNumber_5 0 rfl rfl ?_
  refine k_get (M := mX6_readNumber) (v := .int (iI (s1.1 5))) dX6_readNumber_6 kF_X6_25.r qTo (by omega) (zC_o) rfl ?_
  refine g_aload_n (M := mX6_readNumber) dX6_readNumber_9 0 rfl rfl ?_
  refine k_get (M := mX6_readNumber) (v := .int (iI (s1.1 1))) dX6_readNumber_10 kF_X6_19.r qTo (by omega) (zC_o) rfl ?_
  obtain ⟨g11, h1⟩ := zgi h1
  refine h_icmp_ge (M := mX6_readNumber) (tgt := 68) dX6_readNumber_13 (by decide) g11.1 g11.2 (fun c10 => ?_) (fun c10 => ?_)
  · have h1 := zti c10 h1
    exact r1 _ (e1 _ (Option.some.inj h1).symm)
  · have h1 := zfi (Int.not_le.mpr c10) h1
    refine g_aload_n (M := mX6_readNumber) dX6_readNumber_16 0 rfl rfl ?_
    refine k_get (M := mX6_readNumber) (v := .ref (A (qTo + 1))) dX6_readNumber_17 kF_X6_9.r qTo (by omega) (zC_o) rfl ?_
    refine g_aload_n (M := mX6_readNumber) dX6_readNumber_20 0 rfl rfl ?_
    refine k_get (M := mX6_readNumber) (v := .int (iI (s1.1 5))) dX6_readNumber_21 kF_X6_25.r qTo (by omega) (zC_o) rfl ?_
    obtain ⟨g12, h1⟩ := zgi h1
    refine k_bald (M := mX6_readNumber) (len := 600) (f := s1.2 1) dX6_readNumber_24 (qTo + 1) (by omega) (zC_a (d := (2, 600)) 0 rfl) (Nat.le_of_ble_eq_true rfl) g12.1 g12.2 ?_
    obtain ⟨t13, u14, h1⟩ := zbi h1
    refine g_callSr (M := mX6_readNumber) [.int (iI (s1.2 1 (s1.1 5)))] hX dX6_readNumber_25 vX6_isDigit kM_X6_47 (wX6_isDigit hX   u14) rfl ⟨(Nat.le_of_ble_eq_true rfl), (Nat.le_of_ble_eq_true rfl)⟩ ⟨(Nat.le_of_ble_eq_true rfl), (Nat.le_of_ble_eq_true rfl)⟩ (Nat.le_of_ble_eq_true rfl) ?_
    refine h_beq (M := mX6_readNumber) (tgt := 68) dX6_readNumber_28 (by decide) (fun c15 => ?_) (fun c15 => ?_)
    · have h1 := zfi (zbf c15) h1
      exact r1 _ (e1 _ (Option.some.inj h1).symm)
    · have h1 := zti c15 h1
      refine g_aload_n (M := mX6_readNumber) dX6_readNumber_31 0 rfl rfl ?_
      refine h_bipush (M := mX6_readNumber) dX6_readNumber_32 rfl ?_
      refine g_aload_n (M := mX6_readNumber) dX6_readNumber_34 0 rfl rfl ?_
      refine k_get (M := mX6_readNumber) (v := .int (iI (s1.1 3))) dX6_readNumber_35 kF_X6_56.r qTo (by omega) (zC_o) rfl ?_
      refine h_imul (M := mX6_readNumber) dX6_readNumber_38 ?_
      refine g_aload_n (M := mX6_readNumber) dX6_readNumber_39 0 rfl rfl ?_
      refine k_get (M := mX6_readNumber) (v := .ref (A (qTo + 1))) dX6_readNumber_40 kF_X6_9.r qTo (by omega) (zC_o) rfl ?_
      refine g_aload_n (M := mX6_readNumber) dX6_readNumber_43 0 rfl rfl ?_
      refine k_get (M := mX6_readNumber) (v := .int (iI (s1.1 5))) dX6_readNumber_44 kF_X6_25.r qTo (by omega) (zC_o) rfl ?_
      refine k_bald (M := mX6_readNumber) (len := 600) (f := s1.2 1) dX6_readNumber_47 (qTo + 1) (by omega) (zC_a (d := (2, 600)) 0 rfl) (Nat.le_of_ble_eq_true rfl) g12.1 g12.2 ?_
      refine h_iadd (M := mX6_readNumber) dX6_readNumber_48 ?_
      refine h_bipush (M := mX6_readNumber) dX6_readNumber_49 rfl ?_
      refine h_isub (M := mX6_readNumber) dX6_readNumber_51 ?_
      refine c_put (M := mX6_readNumber) (k := 3) dX6_readNumber_52 kF_X6_56 (by omega) rfl rfl (by decide) rfl rfl ?_
      refine g_aload_n (M := mX6_readNumber) dX6_readNumber_55 0 rfl rfl ?_
      refine g_dup (M := mX6_readNumber) dX6_readNumber_56 rfl ?_
      refine k_get (M := mX6_readNumber) (v := .int (iI (s1.1 5))) dX6_readNumber_57 kF_X6_25.r qTo (by omega) (zC_o) rfl ?_
      refine h_iconst (M := mX6_readNumber) dX6_readNumber_60 ?_
      refine h_iadd (M := mX6_readNumber) dX6_readNumber_61 ?_
      refine c_put (M := mX6_readNumber) (k := 5) dX6_readNumber_62 kF_X6_25 (by omega) rfl rfl (by decide) rfl rfl ?_
      refine g_goto (M := mX6_readNumber) (tgt := 5) dX6_readNumber_65 (by decide) ?_
      exact b1 _ (Option.some.inj h1).symm
set_option maxHeartbeats 4000000 in
set_option maxRecDepth 100000 in
theorem wX6_isSingle {X : zX} (hX : zOK X) {A : Nat → Nat} {n : Nat} {S : Nat → va_E} {a1 : Int} {res : Bool} (h : fX6_isSingle a1 = some res) : Con X yX6_isSingle mX6_isSingle 0 0 0 [.int (iI a1)] (zWs A n S) (zRet (zWs A n S) (some (.int (iI (b2 res))))) := by
  refine con_of (lv := [(0, .int (iI a1))]) (by decide) rfl (fun h => by cases h) rfl (Nat.le_of_ble_eq_true rfl) rfl ?_
  unfold fX6_isSingle at h
  refine g_iload_n (M := mX6_isSingle) dX6_isSingle_0 0 rfl rfl ?_
  refine h_bipush (M := mX6_isSingle) dX6_isSingle_1 rfl ?_
  obtain ⟨g2, h⟩ := zgi h
  refine h_icmp_eq (M := mX6_isSingle) (tgt := 18) dX6_isSingle_3 (by decide) g2 (by decide) (fun c1 => ?_) (fun c1 => ?_)
  · have h := zti c1 h
    refine h_iconst (M := mX6_isSingle) dX6_isSingle_18 ?_
    refine g_goto (M := mX6_isSingle) (tgt := 23) dX6_isSingle_19 (by decide) ?_
    have e := (Option.some.inj h)
    subst e
    exact g_zret (M := mX6_isSingle) .boolean dX6_isSingle_23 rfl rfl (Nat.le_of_ble_eq_true rfl) (Nat.le_of_ble_eq_true rfl) ⟨rfl, rfl⟩
  · have h := zfi c1 h
    refine g_iload_n (M := mX6_isSingle) dX6_isSingle_6 0 rfl rfl ?_
    refine h_bipush (M := mX6_isSingle) dX6_isSingle_7 rfl ?_
    refine h_icmp_eq (M := mX6_isSingle) (tgt := 18) dX6_isSingle_9 (by decide) g2 (by decide) (fun c3 => ?_) (fun c3 => ?_)
    · have h := zti c3 h
      refine h_iconst (M := mX6_isSingle) dX6_isSingle_18 ?_
      refine g_goto (M := mX6_isSingle) (tgt := 23) dX6_isSingle_19 (by decide) ?_
      have e := (Option.some.inj h)
      subst e
      exact g_zret (M := mX6_isSingle) .boolean dX6_isSingle_23 rfl rfl (Nat.le_of_ble_eq_true rfl) (Nat.le_of_ble_eq_true rfl) ⟨rfl, rfl⟩
    · have h := zfi c3 h
      refine g_iload_n (M := mX6_isSingle) dX6_isSingle_12 0 rfl rfl ?_
      refine h_bipush (M := mX6_isSingle) dX6_isSingle_13 rfl ?_
      refine h_icmp_ne (M := mX6_isSingle) (tgt := 22) dX6_isSingle_15 (by decide) g2 (by decide) (fun c4 => ?_) (fun c4 => ?_)
      · have h := zfi c4 h
        refine h_iconst (M := mX6_isSingle) dX6_isSingle_22 ?_
        have e := (Option.some.inj h)
        subst e
        exact g_zret (M := mX6_isSingle) .boolean dX6_isSingle_23 rfl rfl (Nat.le_of_ble_eq_true rfl) (Nat.le_of_ble_eq_true rfl) ⟨rfl, rfl⟩
      · have h := zti c4 h
        refine h_iconst (M := mX6_isSingle) dX6_isSingle_18 ?_
        refine g_goto (M := mX6_isSingle) (tgt := 23) dX6_isSingle_19 (by decide) ?_
        have e := (Option.some.inj h)
        subst e
        exact g_zret (M := mX6_isSingle) .boolean dX6_isSingle_23 rfl rfl (Nat.le_of_ble_eq_true rfl) (Nat.le_of_ble_eq_true rfl) ⟨rfl, rfl⟩
set_option maxHeartbeats 4000000 in
set_option maxRecDepth 100000 in
theorem wX6_next {X : zX} (hX : zOK X) {A : Nat → Nat} {n : Nat} {S : Nat → va_E} {qTo : Nat} {VTo : CV} (hTo : isC X A shTo qTo VTo S) (bTo : qTo + 1 < n) {res : CV} (h : fX6_next VTo = some res) : Con X yX6_next mX6_next 2 0 0 [.ref (A qTo)] (zWs A n S) (zRet (zWs A n (zC X A shTo qTo res S)) none) := by
  refine con_of (lv := [(0, .ref (A qTo))]) (by decide) rfl (fun h => by cases h) rfl (Nat.le_of_ble_eq_true rfl) rfl ?_
  refine g_ws (M := mX6_next) (congrArg (zWs A n) hTo.symm) ?_
  unfold fX6_next at h
  refine g_aload_n (M := mX6_next) dX6_next_0 0 rfl rfl ?_
  refine g_aload_n (M := mX6_next) dX6_next_1 0 rfl rfl ?_
  refine k_get (M := mX6_next) (v := .int (iI (VTo.1 5))) dX6_next_2 kF_X6_25.r qTo (by omega) (zC_o) rfl ?_
  refine c_put (M := mX6_next) (k := 4) dX6_next_5 kF_X6_31 (by omega) rfl rfl (by decide) rfl rfl ?_
  obtain ⟨x1, l1, h⟩ := zbi h
  have r1 : ∀ y1, y1 = x1 → G X mX6_next (zPm X 2 0 0 (zRet (zWs A n (zC X A shTo qTo res S)) none)) 0 0 47 [(0, .ref (A qTo))] [] (zWs A n (zC X A shTo qTo y1 S)) := by
    intro y1 ey
    rw [← ey] at h
    refine g_aload_n (M := mX6_next) dX6_next_47 0 rfl rfl ?_
    refine g_aload_n (M := mX6_next) dX6_next_48 0 rfl rfl ?_
    refine k_get (M := mX6_next) (v := .int (iI (y1.1 4))) dX6_next_49 kF_X6_31.r qTo (by omega) (zC_o) rfl ?_
    refine c_put (M := mX6_next) (k := 5) dX6_next_52 kF_X6_25 (by omega) rfl rfl (by decide) rfl rfl ?_
    refine g_aload_n (M := mX6_next) dX6_next_55 0 rfl rfl ?_
    refine k_get (M := mX6_next) (v := .int (iI (y1.1 4))) dX6_next_56 kF_X6_31.r qTo (by omega) (zC_o) rfl ?_
    refine g_aload_n (M := mX6_next) dX6_next_59 0 rfl rfl ?_
    refine k_get (M := mX6_next) (v := .int (iI (y1.1 1))) dX6_next_60 kF_X6_19.r qTo (by omega) (zC_o) rfl ?_
    obtain ⟨g9, h⟩ := zgi h
    refine h_icmp_lt (M := mX6_next) (tgt := 74) dX6_next_63 (by decide) g9.1 g9.2 (fun c8 => ?_) (fun c8 => ?_)
    · have h := zti c8 h
      refine g_aload_n (M := mX6_next) dX6_next_74 0 rfl rfl ?_
      refine k_get (M := mX6_next) (v := .ref (A (qTo + 1))) dX6_next_75 kF_X6_9.r qTo (by omega) (zC_o) rfl ?_
      refine g_aload_n (M := mX6_next) dX6_next_78 0 rfl rfl ?_
      refine k_get (M := mX6_next) (v := .int (iI (y1.1 4))) dX6_next_79 kF_X6_31.r qTo (by omega) (zC_o) rfl ?_
      obtain ⟨g10, h⟩ := zgi h
      refine k_bald (M := mX6_next) (len := 600) (f := y1.2 1) dX6_next_82 (qTo + 1) (by omega) (zC_a (d := (2, 600)) 0 rfl) (Nat.le_of_ble_eq_true rfl) g10.1 g10.2 ?_
      obtain ⟨t11, u12, h⟩ := zbi h
      refine g_callSr (M := mX6_next) [.int (iI (y1.2 1 (y1.1 4)))] hX dX6_next_83 vX6_isLetter kM_X6_41 (wX6_isLetter hX   u12) rfl ⟨(Nat.le_of_ble_eq_true rfl), (Nat.le_of_ble_eq_true rfl)⟩ ⟨(Nat.le_of_ble_eq_true rfl), (Nat.le_of_ble_eq_true rfl)⟩ (Nat.le_of_ble_eq_true rfl) ?_
      refine h_beq (M := mX6_next) (tgt := 96) dX6_next_86 (by decide) (fun c13 => ?_) (fun c13 => ?_)
      · have h := zfi (zbf c13) h
        refine g_aload_n (M := mX6_next) dX6_next_96 0 rfl rfl ?_
        refine k_get (M := mX6_next) (v := .ref (A (qTo + 1))) dX6_next_97 kF_X6_9.r qTo (by omega) (zC_o) rfl ?_
        refine g_aload_n (M := mX6_next) dX6_next_100 0 rfl rfl ?_
        refine k_get (M := mX6_next) (v := .int (iI (y1.1 4))) dX6_next_101 kF_X6_31.r qTo (by omega) (zC_o) rfl ?_
        refine k_bald (M := mX6_next) (len := 600) (f := y1.2 1) dX6_next_104 (qTo + 1) (by omega) (zC_a (d := (2, 600)) 0 rfl) (Nat.le_of_ble_eq_true rfl) g10.1 g10.2 ?_
        obtain ⟨t14, u15, h⟩ := zbi h
        refine g_callSr (M := mX6_next) [.int (iI (y1.2 1 (y1.1 4)))] hX dX6_next_105 vX6_isDigit kM_X6_47 (wX6_isDigit hX   u15) rfl ⟨(Nat.le_of_ble_eq_true rfl), (Nat.le_of_ble_eq_true rfl)⟩ ⟨(Nat.le_of_ble_eq_true rfl), (Nat.le_of_ble_eq_true rfl)⟩ (Nat.le_of_ble_eq_true rfl) ?_
        refine h_beq (M := mX6_next) (tgt := 118) dX6_next_108 (by decide) (fun c16 => ?_) (fun c16 => ?_)
        · have h := zfi (zbf c16) h
          refine g_aload_n (M := mX6_next) dX6_next_118 0 rfl rfl ?_
          refine g_aload_n (M := mX6_next) dX6_next_119 0 rfl rfl ?_
          refine k_get (M := mX6_next) (v := .ref (A (qTo + 1))) dX6_next_120 kF_X6_9.r qTo (by omega) (zC_o) rfl ?_
          refine g_aload_n (M := mX6_next) dX6_next_123 0 rfl rfl ?_
          refine k_get (M := mX6_next) (v := .int (iI (y1.1 4))) dX6_next_124 kF_X6_31.r qTo (by omega) (zC_o) rfl ?_
          refine k_bald (M := mX6_next) (len := 600) (f := y1.2 1) dX6_next_127 (qTo + 1) (by omega) (zC_a (d := (2, 600)) 0 rfl) (Nat.le_of_ble_eq_true rfl) g10.1 g10.2 ?_
          obtain ⟨t17, u18, h⟩ := zbi h
          refine g_callSr (M := mX6_next) [.int (iI (y1.2 1 (y1.1 4)))] hX dX6_next_128 vX6_isSingle kM_X6_53 (wX6_isSingle hX   u18) rfl ⟨(Nat.le_of_ble_eq_true rfl), (Nat.le_of_ble_eq_true rfl)⟩ ⟨(Nat.le_of_ble_eq_true rfl), (Nat.le_of_ble_eq_true rfl)⟩ (Nat.le_of_ble_eq_true rfl) ?_
          refine h_beq (M := mX6_next) (tgt := 138) dX6_next_131 (by decide) (fun c19 => ?_) (fun c19 => ?_)
          · have h := zfi (zbf c19) h
            refine h_iconst (M := mX6_next) dX6_next_138 ?_
            refine c_put (M := mX6_next) (k := 2) dX6_next_139 kF_X6_38 (by omega) rfl rfl (by decide) rfl rfl ?_
            refine g_aload_n (M := mX6_next) dX6_next_142 0 rfl rfl ?_
            refine g_aload_n (M := mX6_next) dX6_next_143 0 rfl rfl ?_
            refine k_get (M := mX6_next) (v := .int (iI (y1.1 4))) dX6_next_144 kF_X6_31.r qTo (by omega) (zC_o) rfl ?_
            refine h_iconst (M := mX6_next) dX6_next_147 ?_
            refine h_iadd (M := mX6_next) dX6_next_148 ?_
            refine c_put (M := mX6_next) (k := 5) dX6_next_149 kF_X6_25 (by omega) rfl rfl (by decide) rfl rfl ?_
            have e := (Option.some.inj h)
            subst e
            exact g_vret (M := mX6_next) dX6_next_152 rfl (Nat.le_of_ble_eq_true rfl) (Nat.le_of_ble_eq_true rfl) ⟨rfl, rfl⟩
          · have h := zti c19 h
            refine h_iconst (M := mX6_next) dX6_next_134 ?_
            refine g_goto (M := mX6_next) (tgt := 139) dX6_next_135 (by decide) ?_
            refine c_put (M := mX6_next) (k := 2) dX6_next_139 kF_X6_38 (by omega) rfl rfl (by decide) rfl rfl ?_
            refine g_aload_n (M := mX6_next) dX6_next_142 0 rfl rfl ?_
            refine g_aload_n (M := mX6_next) dX6_next_143 0 rfl rfl ?_
            refine k_get (M := mX6_next) (v := .int (iI (y1.1 4))) dX6_next_144 kF_X6_31.r qTo (by omega) (zC_o) rfl ?_
            refine h_iconst (M := mX6_next) dX6_next_147 ?_
            refine h_iadd (M := mX6_next) dX6_next_148 ?_
            refine c_put (M := mX6_next) (k := 5) dX6_next_149 kF_X6_25 (by omega) rfl rfl (by decide) rfl rfl ?_
            have e := (Option.some.inj h)
            subst e
            exact g_vret (M := mX6_next) dX6_next_152 rfl (Nat.le_of_ble_eq_true rfl) (Nat.le_of_ble_eq_true rfl) ⟨rfl, rfl⟩
        · have h := zti c16 h
          refine g_aload_n (M := mX6_next) dX6_next_111 0 rfl rfl ?_
          obtain ⟨t20, u21, h⟩ := zbi h
          refine g_callVr (M := mX6_next) [] hX dX6_next_112 vX6_readNumber kM_X6_50 (wX6_readNumber hX zC_self (by omega)  u21) qTo (zWs_at (by omega) (zC_o)) rfl ⟨(Nat.le_of_ble_eq_true rfl), (Nat.le_of_ble_eq_true rfl)⟩ ⟨(Nat.le_of_ble_eq_true rfl), (Nat.le_of_ble_eq_true rfl)⟩ (Nat.le_of_ble_eq_true rfl) ?_
          refine g_ws (M := mX6_next) (congrArg (zWs A n) zC_over) ?_
          refine g_goto (M := mX6_next) (tgt := 152) dX6_next_115 (by decide) ?_
          have e := (Option.some.inj h)
          subst e
          exact g_vret (M := mX6_next) dX6_next_152 rfl (Nat.le_of_ble_eq_true rfl) (Nat.le_of_ble_eq_true rfl) ⟨rfl, rfl⟩
      · have h := zti c13 h
        refine g_aload_n (M := mX6_next) dX6_next_89 0 rfl rfl ?_
        obtain ⟨t22, u23, h⟩ := zbi h
        refine g_callVr (M := mX6_next) [] hX dX6_next_90 vX6_readWord kM_X6_44 (wX6_readWord hX zC_self (by omega)  u23) qTo (zWs_at (by omega) (zC_o)) rfl ⟨(Nat.le_of_ble_eq_true rfl), (Nat.le_of_ble_eq_true rfl)⟩ ⟨(Nat.le_of_ble_eq_true rfl), (Nat.le_of_ble_eq_true rfl)⟩ (Nat.le_of_ble_eq_true rfl) ?_
        refine g_ws (M := mX6_next) (congrArg (zWs A n) zC_over) ?_
        refine g_goto (M := mX6_next) (tgt := 152) dX6_next_93 (by decide) ?_
        have e := (Option.some.inj h)
        subst e
        exact g_vret (M := mX6_next) dX6_next_152 rfl (Nat.le_of_ble_eq_true rfl) (Nat.le_of_ble_eq_true rfl) ⟨rfl, rfl⟩
    · have h := zfi (Int.not_lt.mpr c8) h
      refine g_aload_n (M := mX6_next) dX6_next_66 0 rfl rfl ?_
      refine h_iconst (M := mX6_next) dX6_next_67 ?_
      refine c_put (M := mX6_next) (k := 2) dX6_next_68 kF_X6_38 (by omega) rfl rfl (by decide) rfl rfl ?_
      refine g_goto (M := mX6_next) (tgt := 152) dX6_next_71 (by decide) ?_
      have e := (Option.some.inj h)
      subst e
      exact g_vret (M := mX6_next) dX6_next_152 rfl (Nat.le_of_ble_eq_true rfl) (Nat.le_of_ble_eq_true rfl) ⟨rfl, rfl⟩
  refine zLp_J (J := fun s1 => G X mX6_next (zPm X 2 0 0 (zRet (zWs A n (zC X A shTo qTo res S)) none)) 0 0 8 [(0, .ref (A qTo))] [] (zWs A n (zC X A shTo qTo s1 S))) (fun s1 w1 h1 b1 e1 => ?_) _ _ l1
  refine g_aload_n (M := mX6_next) dX6_next_8 0 rfl rfl ?_
  refine k_get (M := mX6_next) (v := .int (iI (s1.1 4))) dX6_next_9 kF_X6_31.r qTo (by omega) (zC_o) rfl ?_
  refine g_aload_n (M := mX6_next) dX6_next_12 0 rfl rfl ?_
  refine k_get (M := mX6_next) (v := .int (iI (s1.1 1))) dX6_next_13 kF_X6_19.r qTo (by omega) (zC_o) rfl ?_
  obtain ⟨g25, h1⟩ := zgi h1
  refine h_icmp_ge (M := mX6_next) (tgt := 47) dX6_next_16 (by decide) g25.1 g25.2 (fun c24 => ?_) (fun c24 => ?_)
  · have h1 := zti c24 h1
    exact r1 _ (e1 _ (Option.some.inj h1).symm)
  · have h1 := zfi (Int.not_le.mpr c24) h1
    refine g_aload_n (M := mX6_next) dX6_next_19 0 rfl rfl ?_
    refine k_get (M := mX6_next) (v := .ref (A (qTo + 1))) dX6_next_20 kF_X6_9.r qTo (by omega) (zC_o) rfl ?_
    refine g_aload_n (M := mX6_next) dX6_next_23 0 rfl rfl ?_
    refine k_get (M := mX6_next) (v := .int (iI (s1.1 4))) dX6_next_24 kF_X6_31.r qTo (by omega) (zC_o) rfl ?_
    obtain ⟨g26, h1⟩ := zgi h1
    refine k_bald (M := mX6_next) (len := 600) (f := s1.2 1) dX6_next_27 (qTo + 1) (by omega) (zC_a (d := (2, 600)) 0 rfl) (Nat.le_of_ble_eq_true rfl) g26.1 g26.2 ?_
    obtain ⟨t27, u28, h1⟩ := zbi h1
    refine g_callSr (M := mX6_next) [.int (iI (s1.2 1 (s1.1 4)))] hX dX6_next_28 vX6_isBlank kM_X6_34 (wX6_isBlank hX   u28) rfl ⟨(Nat.le_of_ble_eq_true rfl), (Nat.le_of_ble_eq_true rfl)⟩ ⟨(Nat.le_of_ble_eq_true rfl), (Nat.le_of_ble_eq_true rfl)⟩ (Nat.le_of_ble_eq_true rfl) ?_
    refine h_beq (M := mX6_next) (tgt := 47) dX6_next_31 (by decide) (fun c29 => ?_) (fun c29 => ?_)
    · have h1 := zfi (zbf c29) h1
      exact r1 _ (e1 _ (Option.some.inj h1).symm)
    · have h1 := zti c29 h1
      refine g_aload_n (M := mX6_next) dX6_next_34 0 rfl rfl ?_
      refine g_dup (M := mX6_next) dX6_next_35 rfl ?_
      refine k_get (M := mX6_next) (v := .int (iI (s1.1 4))) dX6_next_36 kF_X6_31.r qTo (by omega) (zC_o) rfl ?_
      refine h_iconst (M := mX6_next) dX6_next_39 ?_
      refine h_iadd (M := mX6_next) dX6_next_40 ?_
      refine c_put (M := mX6_next) (k := 4) dX6_next_41 kF_X6_31 (by omega) rfl rfl (by decide) rfl rfl ?_
      refine g_goto (M := mX6_next) (tgt := 8) dX6_next_44 (by decide) ?_
      exact b1 _ (Option.some.inj h1).symm
set_option maxHeartbeats 4000000 in
set_option maxRecDepth 100000 in
theorem wX6_begin {X : zX} (hX : zOK X) {A : Nat → Nat} {n : Nat} {S : Nat → va_E} {qTo : Nat} {VTo : CV} (hTo : isC X A shTo qTo VTo S) (bTo : qTo + 1 < n) {res : CV} (h : fX6_begin VTo = some res) : Con X yX6_begin mX6_begin 3 0 0 [.ref (A qTo)] (zWs A n S) (zRet (zWs A n (zC X A shTo qTo res S)) none) := by
  refine con_of (lv := [(0, .ref (A qTo))]) (by decide) rfl (fun h => by cases h) rfl (Nat.le_of_ble_eq_true rfl) rfl ?_
  refine g_ws (M := mX6_begin) (congrArg (zWs A n) hTo.symm) ?_
  unfold fX6_begin at h
  refine g_aload_n (M := mX6_begin) dX6_begin_0 0 rfl rfl ?_
  refine h_iconst (M := mX6_begin) dX6_begin_1 ?_
  refine c_put (M := mX6_begin) (k := 6) dX6_begin_2 kF_X6_22 (by omega) rfl rfl (by decide) rfl rfl ?_
  refine g_aload_n (M := mX6_begin) dX6_begin_5 0 rfl rfl ?_
  refine h_iconst (M := mX6_begin) dX6_begin_6 ?_
  refine c_put (M := mX6_begin) (k := 7) dX6_begin_7 kF_X6_15 (by omega) rfl rfl (by decide) rfl rfl ?_
  refine g_aload_n (M := mX6_begin) dX6_begin_10 0 rfl rfl ?_
  refine h_iconst (M := mX6_begin) dX6_begin_11 ?_
  refine c_put (M := mX6_begin) (k := 5) dX6_begin_12 kF_X6_25 (by omega) rfl rfl (by decide) rfl rfl ?_
  refine g_aload_n (M := mX6_begin) dX6_begin_15 0 rfl rfl ?_
  obtain ⟨t1, u2, h⟩ := zbi h
  refine g_callVr (M := mX6_begin) [] hX dX6_begin_16 vX6_next kM_X6_28 (wX6_next hX zC_self (by omega)  u2) qTo (zWs_at (by omega) (zC_o)) rfl ⟨(Nat.le_of_ble_eq_true rfl), (Nat.le_of_ble_eq_true rfl)⟩ ⟨(Nat.le_of_ble_eq_true rfl), (Nat.le_of_ble_eq_true rfl)⟩ (Nat.le_of_ble_eq_true rfl) ?_
  refine g_ws (M := mX6_begin) (congrArg (zWs A n) zC_over) ?_
  have e := (Option.some.inj h)
  subst e
  exact g_vret (M := mX6_begin) dX6_begin_19 rfl (Nat.le_of_ble_eq_true rfl) (Nat.le_of_ble_eq_true rfl) ⟨rfl, rfl⟩
set_option maxHeartbeats 4000000 in
set_option maxRecDepth 100000 in
theorem wX6_fail {X : zX} (hX : zOK X) {A : Nat → Nat} {n : Nat} {S : Nat → va_E} {qTo : Nat} {VTo : CV} (hTo : isC X A shTo qTo VTo S) (bTo : qTo + 1 < n) {a1 : Int} {res : CV} (h : fX6_fail VTo a1 = some res) : Con X yX6_fail mX6_fail 0 0 0 [.ref (A qTo), .int (iI a1)] (zWs A n S) (zRet (zWs A n (zC X A shTo qTo res S)) none) := by
  refine con_of (lv := [(0, .ref (A qTo)), (1, .int (iI a1))]) (by decide) rfl (fun h => by cases h) rfl (Nat.le_of_ble_eq_true rfl) rfl ?_
  refine g_ws (M := mX6_fail) (congrArg (zWs A n) hTo.symm) ?_
  unfold fX6_fail at h
  refine g_aload_n (M := mX6_fail) dX6_fail_0 0 rfl rfl ?_
  refine k_get (M := mX6_fail) (v := .int (iI (VTo.1 6))) dX6_fail_1 kF_X6_22.r qTo (by omega) (zC_o) rfl ?_
  obtain ⟨g2, h⟩ := zgi h
  refine h_if_ne (M := mX6_fail) (tgt := 20) dX6_fail_4 (by decide) g2 (fun c1 => ?_) (fun c1 => ?_)
  · have h := zfi c1 h
    have e := (Option.some.inj h)
    subst e
    exact g_vret (M := mX6_fail) dX6_fail_20 rfl (Nat.le_of_ble_eq_true rfl) (Nat.le_of_ble_eq_true rfl) ⟨rfl, rfl⟩
  · have h := zti c1 h
    refine g_aload_n (M := mX6_fail) dX6_fail_7 0 rfl rfl ?_
    refine g_iload_n (M := mX6_fail) dX6_fail_8 1 rfl rfl ?_
    refine c_put (M := mX6_fail) (k := 6) dX6_fail_9 kF_X6_22 (by omega) rfl rfl (by decide) rfl rfl ?_
    refine g_aload_n (M := mX6_fail) dX6_fail_12 0 rfl rfl ?_
    refine g_aload_n (M := mX6_fail) dX6_fail_13 0 rfl rfl ?_
    refine k_get (M := mX6_fail) (v := .int (iI (VTo.1 4))) dX6_fail_14 kF_X6_31.r qTo (by omega) (zC_o) rfl ?_
    refine c_put (M := mX6_fail) (k := 7) dX6_fail_17 kF_X6_15 (by omega) rfl rfl (by decide) rfl rfl ?_
    have e := (Option.some.inj h)
    subst e
    exact g_vret (M := mX6_fail) dX6_fail_20 rfl (Nat.le_of_ble_eq_true rfl) (Nat.le_of_ble_eq_true rfl) ⟨rfl, rfl⟩
set_option maxHeartbeats 4000000 in
set_option maxRecDepth 100000 in
theorem wX6_isMark {X : zX} (hX : zOK X) {A : Nat → Nat} {n : Nat} {S : Nat → va_E} {qTo : Nat} {VTo : CV} (hTo : isC X A shTo qTo VTo S) (bTo : qTo + 1 < n) {a1 : Int} {res : Bool} (h : fX6_isMark VTo a1 = some res) : Con X yX6_isMark mX6_isMark 0 0 0 [.ref (A qTo), .int (iI a1)] (zWs A n S) (zRet (zWs A n S) (some (.int (iI (b2 res))))) := by
  refine con_of (lv := [(0, .ref (A qTo)), (1, .int (iI a1))]) (by decide) rfl (fun h => by cases h) rfl (Nat.le_of_ble_eq_true rfl) rfl ?_
  unfold fX6_isMark at h
  refine g_aload_n (M := mX6_isMark) dX6_isMark_0 0 rfl rfl ?_
  refine k_get (M := mX6_isMark) (v := .int (iI (VTo.1 2))) dX6_isMark_1 kF_X6_38.r qTo (by omega) (hTo.o) rfl ?_
  refine h_iconst (M := mX6_isMark) dX6_isMark_4 ?_
  obtain ⟨g2, h⟩ := zgi h
  refine h_icmp_ne (M := mX6_isMark) (tgt := 36) dX6_isMark_5 (by decide) g2 (by decide) (fun c1 => ?_) (fun c1 => ?_)
  · have h := zfi c1 h
    refine h_iconst (M := mX6_isMark) dX6_isMark_36 ?_
    have e := (Option.some.inj h)
    subst e
    exact g_zret (M := mX6_isMark) .boolean dX6_isMark_37 rfl rfl (Nat.le_of_ble_eq_true rfl) (Nat.le_of_ble_eq_true rfl) ⟨rfl, rfl⟩
  · have h := zti c1 h
    refine g_aload_n (M := mX6_isMark) dX6_isMark_8 0 rfl rfl ?_
    refine k_get (M := mX6_isMark) (v := .int (iI (VTo.1 4))) dX6_isMark_9 kF_X6_31.r qTo (by omega) (hTo.o) rfl ?_
    refine g_aload_n (M := mX6_isMark) dX6_isMark_12 0 rfl rfl ?_
    refine k_get (M := mX6_isMark) (v := .int (iI (VTo.1 1))) dX6_isMark_13 kF_X6_19.r qTo (by omega) (hTo.o) rfl ?_
    obtain ⟨g4, h⟩ := zgi h
    refine h_icmp_ge (M := mX6_isMark) (tgt := 36) dX6_isMark_16 (by decide) g4.1 g4.2 (fun c3 => ?_) (fun c3 => ?_)
    · have h := zti c3 h
      refine h_iconst (M := mX6_isMark) dX6_isMark_36 ?_
      have e := (Option.some.inj h)
      subst e
      exact g_zret (M := mX6_isMark) .boolean dX6_isMark_37 rfl rfl (Nat.le_of_ble_eq_true rfl) (Nat.le_of_ble_eq_true rfl) ⟨rfl, rfl⟩
    · have h := zfi (Int.not_le.mpr c3) h
      refine g_aload_n (M := mX6_isMark) dX6_isMark_19 0 rfl rfl ?_
      refine k_get (M := mX6_isMark) (v := .ref (A (qTo + 1))) dX6_isMark_20 kF_X6_9.r qTo (by omega) (hTo.o) rfl ?_
      refine g_aload_n (M := mX6_isMark) dX6_isMark_23 0 rfl rfl ?_
      refine k_get (M := mX6_isMark) (v := .int (iI (VTo.1 4))) dX6_isMark_24 kF_X6_31.r qTo (by omega) (hTo.o) rfl ?_
      obtain ⟨g5, h⟩ := zgi h
      refine k_bald (M := mX6_isMark) (len := 600) (f := VTo.2 1) dX6_isMark_27 (qTo + 1) (by omega) (hTo.a (d := (2, 600)) 0 rfl) (Nat.le_of_ble_eq_true rfl) g5.1 g5.2 ?_
      refine g_iload_n (M := mX6_isMark) dX6_isMark_28 1 rfl rfl ?_
      obtain ⟨g7, h⟩ := zgi h
      refine h_icmp_ne (M := mX6_isMark) (tgt := 36) dX6_isMark_29 (by decide) g7.1 g7.2 (fun c6 => ?_) (fun c6 => ?_)
      · have h := zfi c6 h
        refine h_iconst (M := mX6_isMark) dX6_isMark_36 ?_
        have e := (Option.some.inj h)
        subst e
        exact g_zret (M := mX6_isMark) .boolean dX6_isMark_37 rfl rfl (Nat.le_of_ble_eq_true rfl) (Nat.le_of_ble_eq_true rfl) ⟨rfl, rfl⟩
      · have h := zti c6 h
        refine h_iconst (M := mX6_isMark) dX6_isMark_32 ?_
        refine g_goto (M := mX6_isMark) (tgt := 37) dX6_isMark_33 (by decide) ?_
        have e := (Option.some.inj h)
        subst e
        exact g_zret (M := mX6_isMark) .boolean dX6_isMark_37 rfl rfl (Nat.le_of_ble_eq_true rfl) (Nat.le_of_ble_eq_true rfl) ⟨rfl, rfl⟩
set_option maxHeartbeats 4000000 in
set_option maxRecDepth 100000 in
theorem wX6_signAt {X : zX} (hX : zOK X) {A : Nat → Nat} {n : Nat} {S : Nat → va_E} {qTo : Nat} {VTo : CV} (hTo : isC X A shTo qTo VTo S) (bTo : qTo + 1 < n) {a1 : Int} {res : Int} (h : fX6_signAt VTo a1 = some res) : Con X yX6_signAt mX6_signAt 0 0 0 [.ref (A qTo), .int (iI a1)] (zWs A n S) (zRet (zWs A n S) (some (.int (iI res)))) := by
  refine con_of (lv := [(0, .ref (A qTo)), (1, .int (iI a1))]) (by decide) rfl (fun h => by cases h) rfl (Nat.le_of_ble_eq_true rfl) rfl ?_
  unfold fX6_signAt at h
  refine g_aload_n (M := mX6_signAt) dX6_signAt_0 0 rfl rfl ?_
  refine k_get (M := mX6_signAt) (v := .int (iI (VTo.1 4))) dX6_signAt_1 kF_X6_31.r qTo (by omega) (hTo.o) rfl ?_
  refine g_iload_n (M := mX6_signAt) dX6_signAt_4 1 rfl rfl ?_
  refine h_iadd (M := mX6_signAt) dX6_signAt_5 ?_
  refine g_aload_n (M := mX6_signAt) dX6_signAt_6 0 rfl rfl ?_
  refine k_get (M := mX6_signAt) (v := .int (iI (VTo.1 1))) dX6_signAt_7 kF_X6_19.r qTo (by omega) (hTo.o) rfl ?_
  obtain ⟨g2, h⟩ := zgi h
  refine h_icmp_ge (M := mX6_signAt) (tgt := 27) dX6_signAt_10 (by decide) g2.1 g2.2 (fun c1 => ?_) (fun c1 => ?_)
  · have h := zti c1 h
    refine h_iconst (M := mX6_signAt) dX6_signAt_27 ?_
    have e := (Option.some.inj h)
    subst e
    exact g_iret (M := mX6_signAt) dX6_signAt_28 rfl (Nat.le_of_ble_eq_true rfl) (Nat.le_of_ble_eq_true rfl) ⟨rfl, rfl⟩
  · have h := zfi (Int.not_le.mpr c1) h
    refine g_aload_n (M := mX6_signAt) dX6_signAt_13 0 rfl rfl ?_
    refine k_get (M := mX6_signAt) (v := .ref (A (qTo + 1))) dX6_signAt_14 kF_X6_9.r qTo (by omega) (hTo.o) rfl ?_
    refine g_aload_n (M := mX6_signAt) dX6_signAt_17 0 rfl rfl ?_
    refine k_get (M := mX6_signAt) (v := .int (iI (VTo.1 4))) dX6_signAt_18 kF_X6_31.r qTo (by omega) (hTo.o) rfl ?_
    refine g_iload_n (M := mX6_signAt) dX6_signAt_21 1 rfl rfl ?_
    refine h_iadd (M := mX6_signAt) dX6_signAt_22 ?_
    obtain ⟨g3, h⟩ := zgi h
    refine k_bald (M := mX6_signAt) (len := 600) (f := VTo.2 1) dX6_signAt_23 (qTo + 1) (by omega) (hTo.a (d := (2, 600)) 0 rfl) (Nat.le_of_ble_eq_true rfl) g3.1 g3.2 ?_
    refine g_goto (M := mX6_signAt) (tgt := 28) dX6_signAt_24 (by decide) ?_
    have e := (Option.some.inj h)
    subst e
    exact g_iret (M := mX6_signAt) dX6_signAt_28 rfl (Nat.le_of_ble_eq_true rfl) (Nat.le_of_ble_eq_true rfl) ⟨rfl, rfl⟩
set_option maxHeartbeats 4000000 in
set_option maxRecDepth 100000 in
theorem wX6_isWord {X : zX} (hX2 : zOK2 X) {A : Nat → Nat} {n : Nat} {S : Nat → va_E} {qTo : Nat} {VTo : CV} (hTo : isC X A shTo qTo VTo S) (bTo : qTo + 1 < n) {p1 : Nat} {w1 : List Int} (z1 : zSO X p1 w1) {res : Bool} (h : fX6_isWord VTo w1 = some res) : Con X yX6_isWord mX6_isWord 4 0 0 [.ref (A qTo), .ref p1] (zWs A n S) (zRet (zWs A n S) (some (.int (iI (b2 res))))) := by
  refine con_of (lv := [(0, .ref (A qTo)), (1, .ref p1)]) (by decide) rfl (fun h => by cases h) rfl (Nat.le_of_ble_eq_true rfl) rfl ?_
  have hX := hX2.1
  unfold fX6_isWord at h
  refine g_aload_n (M := mX6_isWord) dX6_isWord_0 0 rfl rfl ?_
  refine k_get (M := mX6_isWord) (v := .int (iI (VTo.1 2))) dX6_isWord_1 kF_X6_38.r qTo (by omega) (hTo.o) rfl ?_
  refine h_iconst (M := mX6_isWord) dX6_isWord_4 ?_
  obtain ⟨g2, h⟩ := zgi h
  refine h_icmp_ne (M := mX6_isWord) (tgt := 24) dX6_isWord_5 (by decide) g2 (by decide) (fun c1 => ?_) (fun c1 => ?_)
  · have h := zfi c1 h
    refine h_iconst (M := mX6_isWord) dX6_isWord_24 ?_
    have e := (Option.some.inj h)
    subst e
    exact g_zret (M := mX6_isWord) .boolean dX6_isWord_25 rfl rfl (Nat.le_of_ble_eq_true rfl) (Nat.le_of_ble_eq_true rfl) ⟨rfl, rfl⟩
  · have h := zti c1 h
    refine g_aload_n (M := mX6_isWord) dX6_isWord_8 1 rfl rfl ?_
    refine g_callStr (M := mX6_isWord) [] hX dX6_isWord_9 vs_length kM_X6_59 (wJ0_length hX2 z1) (zSO_o z1) rfl ⟨(Nat.le_of_ble_eq_true rfl), (Nat.le_of_ble_eq_true rfl)⟩ ⟨(Nat.le_of_ble_eq_true rfl), (Nat.le_of_ble_eq_true rfl)⟩ (Nat.le_of_ble_eq_true rfl) ?_
    refine g_aload_n (M := mX6_isWord) dX6_isWord_12 0 rfl rfl ?_
    refine k_get (M := mX6_isWord) (v := .int (iI (VTo.1 5))) dX6_isWord_13 kF_X6_25.r qTo (by omega) (hTo.o) rfl ?_
    refine g_aload_n (M := mX6_isWord) dX6_isWord_16 0 rfl rfl ?_
    refine k_get (M := mX6_isWord) (v := .int (iI (VTo.1 4))) dX6_isWord_17 kF_X6_31.r qTo (by omega) (hTo.o) rfl ?_
    refine h_isub (M := mX6_isWord) dX6_isWord_20 ?_
    obtain ⟨g4, h⟩ := zgi h
    refine h_icmp_eq (M := mX6_isWord) (tgt := 26) dX6_isWord_21 (by decide) g4.1 g4.2 (fun c3 => ?_) (fun c3 => ?_)
    · have h := zti c3 h
      refine h_iconst (M := mX6_isWord) dX6_isWord_26 ?_
      refine g_istore_n (M := mX6_isWord) (lv' := [(0, .ref (A qTo)), (1, .ref p1), (2, .int (iI 0))]) dX6_isWord_27 rfl (by decide) rfl ?_
      obtain ⟨x5, l5, h⟩ := zbi h
      have r5 : ∀ y5, .inl y5 = x5 → G X mX6_isWord (zPm X 4 0 0 (zRet (zWs A n S) (some (.int (iI (b2 res)))))) 0 0 57 [] [] (zWs A n S) := by
        intro y5 ey
        rw [← ey] at h
        have h := zsl h
        refine h_iconst (M := mX6_isWord) dX6_isWord_57 ?_
        have e := (Option.some.inj h)
        subst e
        exact g_zret (M := mX6_isWord) .boolean dX6_isWord_58 rfl rfl (Nat.le_of_ble_eq_true rfl) (Nat.le_of_ble_eq_true rfl) ⟨rfl, rfl⟩
      have q5 : ∀ r, .inr r = x5 → r = res := by
        intro r er
        rw [← er] at h
        exact Option.some.inj h
      refine zLp_J (J := fun s5 => G X mX6_isWord (zPm X 4 0 0 (zRet (zWs A n S) (some (.int (iI (b2 res)))))) 0 0 28 [(0, .ref (A qTo)), (1, .ref p1), (2, .int (iI s5))] [] (zWs A n S)) (fun s5 w5 h5 b5 e5 => ?_) _ _ l5
      refine g_iload_n (M := mX6_isWord) dX6_isWord_28 2 rfl rfl ?_
      refine g_aload_n (M := mX6_isWord) dX6_isWord_29 1 rfl rfl ?_
      refine g_callStr (M := mX6_isWord) [] hX dX6_isWord_30 vs_length kM_X6_59 (wJ0_length hX2 z1) (zSO_o z1) rfl ⟨(Nat.le_of_ble_eq_true rfl), (Nat.le_of_ble_eq_true rfl)⟩ ⟨(Nat.le_of_ble_eq_true rfl), (Nat.le_of_ble_eq_true rfl)⟩ (Nat.le_of_ble_eq_true rfl) ?_
      obtain ⟨g14, h5⟩ := zgi h5
      refine h_icmp_ge (M := mX6_isWord) (tgt := 57) dX6_isWord_33 (by decide) g14 g4.1 (fun c13 => ?_) (fun c13 => ?_)
      · have h5 := zti c13 h5
        refine g_lv (M := mX6_isWord) [] rfl ?_
        exact r5 _ (e5 _ (Option.some.inj h5).symm)
      · have h5 := zfi (Int.not_le.mpr c13) h5
        refine g_aload_n (M := mX6_isWord) dX6_isWord_36 0 rfl rfl ?_
        refine g_iload_n (M := mX6_isWord) dX6_isWord_37 2 rfl rfl ?_
        obtain ⟨t15, u16, h5⟩ := zbi h5
        refine g_callVr (M := mX6_isWord) [.int (iI s5)] hX dX6_isWord_38 vX6_signAt kM_X6_65 (wX6_signAt hX hTo (by omega)  u16) qTo (zWs_at (by omega) (hTo.o)) rfl ⟨(Nat.le_of_ble_eq_true rfl), (Nat.le_of_ble_eq_true rfl)⟩ ⟨(Nat.le_of_ble_eq_true rfl), (Nat.le_of_ble_eq_true rfl)⟩ (Nat.le_of_ble_eq_true rfl) ?_
        refine g_aload_n (M := mX6_isWord) dX6_isWord_41 1 rfl rfl ?_
        refine g_iload_n (M := mX6_isWord) dX6_isWord_42 2 rfl rfl ?_
        obtain ⟨g17, h5⟩ := zgi h5
        refine g_callStr (M := mX6_isWord) [.int (iI s5)] hX dX6_isWord_43 vs_charAt kM_X6_69 (wJ0_charAt hX2 z1 g17.1 g17.2) (zSO_o z1) rfl ⟨(Nat.le_of_ble_eq_true rfl), (Nat.le_of_ble_eq_true rfl)⟩ ⟨(Nat.le_of_ble_eq_true rfl), (Nat.le_of_ble_eq_true rfl)⟩ (Nat.le_of_ble_eq_true rfl) ?_
        obtain ⟨g19, h5⟩ := zgi h5
        refine h_icmp_eq (M := mX6_isWord) (tgt := 51) dX6_isWord_46 (by decide) g19.1 g19.2 (fun c18 => ?_) (fun c18 => ?_)
        · have h5 := zti c18 h5
          refine h_iinc (M := mX6_isWord) (j := 2) (lv' := [(0, .ref (A qTo)), (1, .ref p1), (2, .int (iI (s5 + 1)))]) dX6_isWord_51 rfl (Nat.le_of_ble_eq_true rfl) rfl ?_
          refine g_goto (M := mX6_isWord) (tgt := 28) dX6_isWord_54 (by decide) ?_
          exact b5 _ (Option.some.inj h5).symm
        · have h5 := zfi c18 h5
          refine h_iconst (M := mX6_isWord) dX6_isWord_49 ?_
          have e := (q5 _ (e5 _ (Option.some.inj h5).symm))
          subst e
          exact g_zret (M := mX6_isWord) .boolean dX6_isWord_50 rfl rfl (Nat.le_of_ble_eq_true rfl) (Nat.le_of_ble_eq_true rfl) ⟨rfl, rfl⟩
    · have h := zfi c3 h
      refine h_iconst (M := mX6_isWord) dX6_isWord_24 ?_
      have e := (Option.some.inj h)
      subst e
      exact g_zret (M := mX6_isWord) .boolean dX6_isWord_25 rfl rfl (Nat.le_of_ble_eq_true rfl) (Nat.le_of_ble_eq_true rfl) ⟨rfl, rfl⟩
set_option maxHeartbeats 4000000 in
set_option maxRecDepth 100000 in
theorem wX6_wordSize {X : zX} (hX : zOK X) {A : Nat → Nat} {n : Nat} {S : Nat → va_E} {qTo : Nat} {VTo : CV} (hTo : isC X A shTo qTo VTo S) (bTo : qTo + 1 < n) {res : Int} (h : fX6_wordSize VTo = some res) : Con X yX6_wordSize mX6_wordSize 0 0 0 [.ref (A qTo)] (zWs A n S) (zRet (zWs A n S) (some (.int (iI res)))) := by
  refine con_of (lv := [(0, .ref (A qTo))]) (by decide) rfl (fun h => by cases h) rfl (Nat.le_of_ble_eq_true rfl) rfl ?_
  unfold fX6_wordSize at h
  refine g_aload_n (M := mX6_wordSize) dX6_wordSize_0 0 rfl rfl ?_
  refine k_get (M := mX6_wordSize) (v := .int (iI (VTo.1 2))) dX6_wordSize_1 kF_X6_38.r qTo (by omega) (hTo.o) rfl ?_
  refine h_iconst (M := mX6_wordSize) dX6_wordSize_4 ?_
  obtain ⟨g2, h⟩ := zgi h
  refine h_icmp_ne (M := mX6_wordSize) (tgt := 20) dX6_wordSize_5 (by decide) g2 (by decide) (fun c1 => ?_) (fun c1 => ?_)
  · have h := zfi c1 h
    refine h_iconst (M := mX6_wordSize) dX6_wordSize_20 ?_
    have e := (Option.some.inj h)
    subst e
    exact g_iret (M := mX6_wordSize) dX6_wordSize_21 rfl (Nat.le_of_ble_eq_true rfl) (Nat.le_of_ble_eq_true rfl) ⟨rfl, rfl⟩
  · have h := zti c1 h
    refine g_aload_n (M := mX6_wordSize) dX6_wordSize_8 0 rfl rfl ?_
    refine k_get (M := mX6_wordSize) (v := .int (iI (VTo.1 5))) dX6_wordSize_9 kF_X6_25.r qTo (by omega) (hTo.o) rfl ?_
    refine g_aload_n (M := mX6_wordSize) dX6_wordSize_12 0 rfl rfl ?_
    refine k_get (M := mX6_wordSize) (v := .int (iI (VTo.1 4))) dX6_wordSize_13 kF_X6_31.r qTo (by omega) (hTo.o) rfl ?_
    refine h_isub (M := mX6_wordSize) dX6_wordSize_16 ?_
    refine g_goto (M := mX6_wordSize) (tgt := 21) dX6_wordSize_17 (by decide) ?_
    have e := (Option.some.inj h)
    subst e
    exact g_iret (M := mX6_wordSize) dX6_wordSize_21 rfl (Nat.le_of_ble_eq_true rfl) (Nat.le_of_ble_eq_true rfl) ⟨rfl, rfl⟩
set_option maxHeartbeats 4000000 in
set_option maxRecDepth 100000 in
theorem wX6_nameCode {X : zX} (hX : zOK X) {A : Nat → Nat} {n : Nat} {S : Nat → va_E} {qTo : Nat} {VTo : CV} (hTo : isC X A shTo qTo VTo S) (bTo : qTo + 1 < n) {res : Int} (h : fX6_nameCode VTo = some res) : Con X yX6_nameCode mX6_nameCode 1 0 0 [.ref (A qTo)] (zWs A n S) (zRet (zWs A n S) (some (.long (iL res)))) := by
  refine con_of (lv := [(0, .ref (A qTo))]) (by decide) rfl (fun h => by cases h) rfl (Nat.le_of_ble_eq_true rfl) rfl ?_
  unfold fX6_nameCode at h
  refine g_aload_n (M := mX6_nameCode) dX6_nameCode_0 0 rfl rfl ?_
  obtain ⟨t1, u2, h⟩ := zbi h
  refine g_callVr (M := mX6_nameCode) [] hX dX6_nameCode_1 vX6_wordSize kM_X6_73 (wX6_wordSize hX hTo (by omega)  u2) qTo (zWs_at (by omega) (hTo.o)) rfl ⟨(Nat.le_of_ble_eq_true rfl), (Nat.le_of_ble_eq_true rfl)⟩ ⟨(Nat.le_of_ble_eq_true rfl), (Nat.le_of_ble_eq_true rfl)⟩ (Nat.le_of_ble_eq_true rfl) ?_
  refine h_bipush (M := mX6_nameCode) dX6_nameCode_4 rfl ?_
  obtain ⟨g4, h⟩ := zgi h
  refine h_icmp_le (M := mX6_nameCode) (tgt := 11) dX6_nameCode_6 (by decide) g4 (by decide) (fun c3 => ?_) (fun c3 => ?_)
  · have h := zti c3 h
    refine g_lconst (M := mX6_nameCode) (v := iL 0) dX6_nameCode_11 rfl ?_
    refine g_lstore_n (M := mX6_nameCode) (lv' := [(0, .ref (A qTo)), (1, .long (iL 0))]) dX6_nameCode_12 rfl (by decide) rfl ?_
    refine h_iconst (M := mX6_nameCode) dX6_nameCode_13 ?_
    refine g_istore_n (M := mX6_nameCode) (lv' := [(0, .ref (A qTo)), (1, .long (iL 0)), (3, .int (iI 0))]) dX6_nameCode_14 rfl (by decide) rfl ?_
    obtain ⟨x5, l5, h⟩ := zbi h
    have r5 : ∀ y5, y5 = x5 → G X mX6_nameCode (zPm X 1 0 0 (zRet (zWs A n S) (some (.long (iL res))))) 0 0 40 [(1, .long (iL y5.1))] [] (zWs A n S) := by
      intro y5 ey
      rw [← ey] at h
      refine g_lload_n (M := mX6_nameCode) dX6_nameCode_40 0 rfl rfl ?_
      have e := (Option.some.inj h)
      subst e
      exact g_lret (M := mX6_nameCode) dX6_nameCode_41 rfl (Nat.le_of_ble_eq_true rfl) (Nat.le_of_ble_eq_true rfl) ⟨rfl, rfl⟩
    refine zLp_J (J := fun s5 => G X mX6_nameCode (zPm X 1 0 0 (zRet (zWs A n S) (some (.long (iL res))))) 0 0 15 [(0, .ref (A qTo)), (1, .long (iL s5.1)), (3, .int (iI s5.2))] [] (zWs A n S)) (fun s5 w5 h5 b5 e5 => ?_) _ _ l5
    refine g_iload_n (M := mX6_nameCode) dX6_nameCode_15 2 rfl rfl ?_
    refine g_aload_n (M := mX6_nameCode) dX6_nameCode_16 0 rfl rfl ?_
    obtain ⟨t14, u15, h5⟩ := zbi h5
    refine g_callVr (M := mX6_nameCode) [] hX dX6_nameCode_17 vX6_wordSize kM_X6_73 (wX6_wordSize hX hTo (by omega)  u15) qTo (zWs_at (by omega) (hTo.o)) rfl ⟨(Nat.le_of_ble_eq_true rfl), (Nat.le_of_ble_eq_true rfl)⟩ ⟨(Nat.le_of_ble_eq_true rfl), (Nat.le_of_ble_eq_true rfl)⟩ (Nat.le_of_ble_eq_true rfl) ?_
    obtain ⟨g17, h5⟩ := zgi h5
    refine h_icmp_ge (M := mX6_nameCode) (tgt := 40) dX6_nameCode_20 (by decide) g17.1 g17.2 (fun c16 => ?_) (fun c16 => ?_)
    · have h5 := zti c16 h5
      refine g_lv (M := mX6_nameCode) [1] rfl ?_
      exact r5 _ (e5 _ (Option.some.inj h5).symm)
    · have h5 := zfi (Int.not_le.mpr c16) h5
      refine g_lload_n (M := mX6_nameCode) dX6_nameCode_23 1 rfl rfl ?_
      refine g_iload_n (M := mX6_nameCode) dX6_nameCode_24 2 rfl rfl ?_
      refine g_aload_n (M := mX6_nameCode) dX6_nameCode_25 0 rfl rfl ?_
      refine g_iload_n (M := mX6_nameCode) dX6_nameCode_26 2 rfl rfl ?_
      obtain ⟨t18, u19, h5⟩ := zbi h5
      refine g_callVr (M := mX6_nameCode) [.int (iI s5.2)] hX dX6_nameCode_27 vX6_signAt kM_X6_65 (wX6_signAt hX hTo (by omega)  u19) qTo (zWs_at (by omega) (hTo.o)) rfl ⟨(Nat.le_of_ble_eq_true rfl), (Nat.le_of_ble_eq_true rfl)⟩ ⟨(Nat.le_of_ble_eq_true rfl), (Nat.le_of_ble_eq_true rfl)⟩ (Nat.le_of_ble_eq_true rfl) ?_
      obtain ⟨t20, u21, h5⟩ := zbi h5
      refine g_callSr (M := mX6_nameCode) [.long (iL s5.1), .int (iI s5.2), .int (iI t18)] hX dX6_nameCode_30 vX0_withSign kM_X6_84 (wX0_withSign hX   u21) rfl ⟨(Nat.le_of_ble_eq_true rfl), (Nat.le_of_ble_eq_true rfl)⟩ ⟨(Nat.le_of_ble_eq_true rfl), (Nat.le_of_ble_eq_true rfl)⟩ (Nat.le_of_ble_eq_true rfl) ?_
      refine g_lstore_n (M := mX6_nameCode) (lv' := [(0, .ref (A qTo)), (1, .long (iL t20)), (3, .int (iI s5.2))]) dX6_nameCode_33 rfl (by decide) rfl ?_
      refine h_iinc (M := mX6_nameCode) (j := 2) (lv' := [(0, .ref (A qTo)), (1, .long (iL t20)), (3, .int (iI (s5.2 + 1)))]) dX6_nameCode_34 rfl (Nat.le_of_ble_eq_true rfl) rfl ?_
      refine g_goto (M := mX6_nameCode) (tgt := 15) dX6_nameCode_37 (by decide) ?_
      exact b5 _ (Option.some.inj h5).symm
  · have h := zfi (Int.not_le.mpr c3) h
    refine g_lconst (M := mX6_nameCode) (v := iL 0) dX6_nameCode_9 rfl ?_
    have e := (Option.some.inj h)
    subst e
    exact g_lret (M := mX6_nameCode) dX6_nameCode_10 rfl (Nat.le_of_ble_eq_true rfl) (Nat.le_of_ble_eq_true rfl) ⟨rfl, rfl⟩
set_option maxHeartbeats 4000000 in
set_option maxRecDepth 100000 in
theorem wX6_passMark {X : zX} (hX : zOK X) {A : Nat → Nat} {n : Nat} {S : Nat → va_E} {qTo : Nat} {VTo : CV} (hTo : isC X A shTo qTo VTo S) (bTo : qTo + 1 < n) {a1 : Int} {res : CV} (h : fX6_passMark VTo a1 = some res) : Con X yX6_passMark mX6_passMark 3 0 0 [.ref (A qTo), .int (iI a1)] (zWs A n S) (zRet (zWs A n (zC X A shTo qTo res S)) none) := by
  refine con_of (lv := [(0, .ref (A qTo)), (1, .int (iI a1))]) (by decide) rfl (fun h => by cases h) rfl (Nat.le_of_ble_eq_true rfl) rfl ?_
  refine g_ws (M := mX6_passMark) (congrArg (zWs A n) hTo.symm) ?_
  unfold fX6_passMark at h
  refine g_aload_n (M := mX6_passMark) dX6_passMark_0 0 rfl rfl ?_
  refine g_iload_n (M := mX6_passMark) dX6_passMark_1 1 rfl rfl ?_
  obtain ⟨t1, u2, h⟩ := zbi h
  refine g_callVr (M := mX6_passMark) [.int (iI a1)] hX dX6_passMark_2 vX6_isMark kM_X6_87 (wX6_isMark hX zC_self (by omega)  u2) qTo (zWs_at (by omega) (zC_o)) rfl ⟨(Nat.le_of_ble_eq_true rfl), (Nat.le_of_ble_eq_true rfl)⟩ ⟨(Nat.le_of_ble_eq_true rfl), (Nat.le_of_ble_eq_true rfl)⟩ (Nat.le_of_ble_eq_true rfl) ?_
  refine h_beq (M := mX6_passMark) (tgt := 15) dX6_passMark_5 (by decide) (fun c3 => ?_) (fun c3 => ?_)
  · have h := zfi (zbf c3) h
    refine g_aload_n (M := mX6_passMark) dX6_passMark_15 0 rfl rfl ?_
    refine h_iconst (M := mX6_passMark) dX6_passMark_16 ?_
    obtain ⟨t4, u5, h⟩ := zbi h
    refine g_callVr (M := mX6_passMark) [.int (iI 1)] hX dX6_passMark_17 vX6_fail kM_X6_91 (wX6_fail hX zC_self (by omega)  u5) qTo (zWs_at (by omega) (zC_o)) rfl ⟨(Nat.le_of_ble_eq_true rfl), (Nat.le_of_ble_eq_true rfl)⟩ ⟨(Nat.le_of_ble_eq_true rfl), (Nat.le_of_ble_eq_true rfl)⟩ (Nat.le_of_ble_eq_true rfl) ?_
    refine g_ws (M := mX6_passMark) (congrArg (zWs A n) zC_over) ?_
    have e := (Option.some.inj h)
    subst e
    exact g_vret (M := mX6_passMark) dX6_passMark_20 rfl (Nat.le_of_ble_eq_true rfl) (Nat.le_of_ble_eq_true rfl) ⟨rfl, rfl⟩
  · have h := zti c3 h
    refine g_aload_n (M := mX6_passMark) dX6_passMark_8 0 rfl rfl ?_
    obtain ⟨t6, u7, h⟩ := zbi h
    refine g_callVr (M := mX6_passMark) [] hX dX6_passMark_9 vX6_next kM_X6_28 (wX6_next hX zC_self (by omega)  u7) qTo (zWs_at (by omega) (zC_o)) rfl ⟨(Nat.le_of_ble_eq_true rfl), (Nat.le_of_ble_eq_true rfl)⟩ ⟨(Nat.le_of_ble_eq_true rfl), (Nat.le_of_ble_eq_true rfl)⟩ (Nat.le_of_ble_eq_true rfl) ?_
    refine g_ws (M := mX6_passMark) (congrArg (zWs A n) zC_over) ?_
    refine g_goto (M := mX6_passMark) (tgt := 20) dX6_passMark_12 (by decide) ?_
    have e := (Option.some.inj h)
    subst e
    exact g_vret (M := mX6_passMark) dX6_passMark_20 rfl (Nat.le_of_ble_eq_true rfl) (Nat.le_of_ble_eq_true rfl) ⟨rfl, rfl⟩
set_option maxHeartbeats 4000000 in
set_option maxRecDepth 100000 in
theorem wX6_passNumber {X : zX} (hX : zOK X) {A : Nat → Nat} {n : Nat} {S : Nat → va_E} {qTo : Nat} {VTo : CV} (hTo : isC X A shTo qTo VTo S) (bTo : qTo + 1 < n) {a1 : Int} {a2 : Int} {res : CV × Int} (h : fX6_passNumber VTo a1 a2 = some res) : Con X yX6_passNumber mX6_passNumber 3 0 0 [.ref (A qTo), .int (iI a1), .int (iI a2)] (zWs A n S) (zRet (zWs A n (zC X A shTo qTo res.1 S)) (some (.int (iI res.2)))) := by
  refine con_of (lv := [(0, .ref (A qTo)), (1, .int (iI a1)), (2, .int (iI a2))]) (by decide) rfl (fun h => by cases h) rfl (Nat.le_of_ble_eq_true rfl) rfl ?_
  refine g_ws (M := mX6_passNumber) (congrArg (zWs A n) hTo.symm) ?_
  unfold fX6_passNumber at h
  refine g_aload_n (M := mX6_passNumber) dX6_passNumber_0 0 rfl rfl ?_
  refine k_get (M := mX6_passNumber) (v := .int (iI (VTo.1 3))) dX6_passNumber_1 kF_X6_56.r qTo (by omega) (zC_o) rfl ?_
  refine g_istore_n (M := mX6_passNumber) (lv' := [(0, .ref (A qTo)), (1, .int (iI a1)), (2, .int (iI a2)), (3, .int (iI (VTo.1 3)))]) dX6_passNumber_4 rfl (by decide) rfl ?_
  refine g_aload_n (M := mX6_passNumber) dX6_passNumber_5 0 rfl rfl ?_
  refine k_get (M := mX6_passNumber) (v := .int (iI (VTo.1 2))) dX6_passNumber_6 kF_X6_38.r qTo (by omega) (zC_o) rfl ?_
  refine h_iconst (M := mX6_passNumber) dX6_passNumber_9 ?_
  obtain ⟨g2, h⟩ := zgi h
  refine h_icmp_eq (M := mX6_passNumber) (tgt := 21) dX6_passNumber_10 (by decide) g2 (by decide) (fun c1 => ?_) (fun c1 => ?_)
  · have h := zti c1 h
    refine g_iload_n (M := mX6_passNumber) dX6_passNumber_21 3 rfl rfl ?_
    refine g_iload_n (M := mX6_passNumber) dX6_passNumber_22 1 rfl rfl ?_
    refine zJn_J (J := fun x9 => G X mX6_passNumber (zPm X 3 0 0 (zRet (zWs A n (zC X A shTo qTo res.1 S)) (some (.int (iI res.2))))) 0 0 31 [(0, .ref (A qTo)), (3, .int (iI (VTo.1 3)))] [] (zWs A n (zC X A shTo qTo VTo S))) h (fun x9 h => ?_) (fun j9 h => ?_)
    · refine g_aload_n (M := mX6_passNumber) dX6_passNumber_31 0 rfl rfl ?_
      refine h_iconst (M := mX6_passNumber) dX6_passNumber_32 ?_
      obtain ⟨t10, u11, h⟩ := zbi h
      refine g_callVr (M := mX6_passNumber) [.int (iI 2)] hX dX6_passNumber_33 vX6_fail kM_X6_91 (wX6_fail hX zC_self (by omega)  u11) qTo (zWs_at (by omega) (zC_o)) rfl ⟨(Nat.le_of_ble_eq_true rfl), (Nat.le_of_ble_eq_true rfl)⟩ ⟨(Nat.le_of_ble_eq_true rfl), (Nat.le_of_ble_eq_true rfl)⟩ (Nat.le_of_ble_eq_true rfl) ?_
      refine g_ws (M := mX6_passNumber) (congrArg (zWs A n) zC_over) ?_
      refine g_goto (M := mX6_passNumber) (tgt := 43) dX6_passNumber_36 (by decide) ?_
      refine g_iload_n (M := mX6_passNumber) dX6_passNumber_43 1 rfl rfl ?_
      have e := (Option.some.inj h)
      subst e
      exact g_iret (M := mX6_passNumber) dX6_passNumber_44 rfl (Nat.le_of_ble_eq_true rfl) (Nat.le_of_ble_eq_true rfl) ⟨rfl, rfl⟩
    · obtain ⟨g13, h⟩ := zgi h
      refine h_icmp_lt (M := mX6_passNumber) (tgt := 31) dX6_passNumber_23 (by decide) g13.1 g13.2 (fun c12 => ?_) (fun c12 => ?_)
      · have h := zti c12 h
        refine g_lv (M := mX6_passNumber) [0, 3] rfl ?_
        exact j9 () h
      · have h := zfi (Int.not_lt.mpr c12) h
        refine g_iload_n (M := mX6_passNumber) dX6_passNumber_26 3 rfl rfl ?_
        refine g_iload_n (M := mX6_passNumber) dX6_passNumber_27 2 rfl rfl ?_
        obtain ⟨g15, h⟩ := zgi h
        refine h_icmp_le (M := mX6_passNumber) (tgt := 39) dX6_passNumber_28 (by decide) g13.1 g15 (fun c14 => ?_) (fun c14 => ?_)
        · have h := zti c14 h
          refine g_aload_n (M := mX6_passNumber) dX6_passNumber_39 0 rfl rfl ?_
          obtain ⟨t16, u17, h⟩ := zbi h
          refine g_callVr (M := mX6_passNumber) [] hX dX6_passNumber_40 vX6_next kM_X6_28 (wX6_next hX zC_self (by omega)  u17) qTo (zWs_at (by omega) (zC_o)) rfl ⟨(Nat.le_of_ble_eq_true rfl), (Nat.le_of_ble_eq_true rfl)⟩ ⟨(Nat.le_of_ble_eq_true rfl), (Nat.le_of_ble_eq_true rfl)⟩ (Nat.le_of_ble_eq_true rfl) ?_
          refine g_ws (M := mX6_passNumber) (congrArg (zWs A n) zC_over) ?_
          refine g_iload_n (M := mX6_passNumber) dX6_passNumber_43 3 rfl rfl ?_
          have e := (Option.some.inj h)
          subst e
          exact g_iret (M := mX6_passNumber) dX6_passNumber_44 rfl (Nat.le_of_ble_eq_true rfl) (Nat.le_of_ble_eq_true rfl) ⟨rfl, rfl⟩
        · have h := zfi (Int.not_le.mpr c14) h
          refine g_lv (M := mX6_passNumber) [0, 3] rfl ?_
          exact j9 () h
  · have h := zfi c1 h
    refine g_aload_n (M := mX6_passNumber) dX6_passNumber_13 0 rfl rfl ?_
    refine h_iconst (M := mX6_passNumber) dX6_passNumber_14 ?_
    obtain ⟨t18, u19, h⟩ := zbi h
    refine g_callVr (M := mX6_passNumber) [.int (iI 1)] hX dX6_passNumber_15 vX6_fail kM_X6_91 (wX6_fail hX zC_self (by omega)  u19) qTo (zWs_at (by omega) (zC_o)) rfl ⟨(Nat.le_of_ble_eq_true rfl), (Nat.le_of_ble_eq_true rfl)⟩ ⟨(Nat.le_of_ble_eq_true rfl), (Nat.le_of_ble_eq_true rfl)⟩ (Nat.le_of_ble_eq_true rfl) ?_
    refine g_ws (M := mX6_passNumber) (congrArg (zWs A n) zC_over) ?_
    refine g_goto (M := mX6_passNumber) (tgt := 43) dX6_passNumber_18 (by decide) ?_
    refine g_iload_n (M := mX6_passNumber) dX6_passNumber_43 3 rfl rfl ?_
    have e := (Option.some.inj h)
    subst e
    exact g_iret (M := mX6_passNumber) dX6_passNumber_44 rfl (Nat.le_of_ble_eq_true rfl) (Nat.le_of_ble_eq_true rfl) ⟨rfl, rfl⟩
set_option maxHeartbeats 4000000 in
set_option maxRecDepth 100000 in
theorem wX6_wordCode {X : zX} (hX : zOK X) {A : Nat → Nat} {n : Nat} {S : Nat → va_E} {qTo : Nat} {VTo : CV} (hTo : isC X A shTo qTo VTo S) (bTo : qTo + 1 < n) {a1 : Int} {res : Int} (h : fX6_wordCode VTo a1 = some res) : Con X yX6_wordCode mX6_wordCode 1 0 0 [.ref (A qTo), .int (iI a1)] (zWs A n S) (zRet (zWs A n S) (some (.long (iL res)))) := by
  refine con_of (lv := [(0, .ref (A qTo)), (1, .int (iI a1))]) (by decide) rfl (fun h => by cases h) rfl (Nat.le_of_ble_eq_true rfl) rfl ?_
  unfold fX6_wordCode at h
  refine g_lconst (M := mX6_wordCode) (v := iL 0) dX6_wordCode_0 rfl ?_
  refine g_lstore_n (M := mX6_wordCode) (lv' := [(0, .ref (A qTo)), (1, .int (iI a1)), (2, .long (iL 0))]) dX6_wordCode_1 rfl (by decide) rfl ?_
  refine h_iconst (M := mX6_wordCode) dX6_wordCode_2 ?_
  refine g_istore (M := mX6_wordCode) (lv' := [(0, .ref (A qTo)), (1, .int (iI a1)), (2, .long (iL 0)), (4, .int (iI 0))]) dX6_wordCode_3 (by decide) rfl ?_
  obtain ⟨x1, l1, h⟩ := zbi h
  have r1 : ∀ y1, .inl y1 = x1 → G X mX6_wordCode (zPm X 1 0 0 (zRet (zWs A n S) (some (.long (iL res))))) 0 0 50 [(2, .long (iL y1.1))] [] (zWs A n S) := by
    intro y1 ey
    rw [← ey] at h
    have h := zsl h
    refine g_lload_n (M := mX6_wordCode) dX6_wordCode_50 0 rfl rfl ?_
    have e := (Option.some.inj h)
    subst e
    exact g_lret (M := mX6_wordCode) dX6_wordCode_51 rfl (Nat.le_of_ble_eq_true rfl) (Nat.le_of_ble_eq_true rfl) ⟨rfl, rfl⟩
  have q1 : ∀ r, .inr r = x1 → r = res := by
    intro r er
    rw [← er] at h
    exact Option.some.inj h
  refine zLp_J (J := fun s1 => G X mX6_wordCode (zPm X 1 0 0 (zRet (zWs A n S) (some (.long (iL res))))) 0 0 5 [(0, .ref (A qTo)), (1, .int (iI a1)), (2, .long (iL s1.1)), (4, .int (iI s1.2))] [] (zWs A n S)) (fun s1 w1 h1 b1 e1 => ?_) _ _ l1
  refine g_iload (M := mX6_wordCode) dX6_wordCode_5 3 rfl ?_
  refine g_aload_n (M := mX6_wordCode) dX6_wordCode_7 0 rfl rfl ?_
  obtain ⟨t12, u13, h1⟩ := zbi h1
  refine g_callVr (M := mX6_wordCode) [] hX dX6_wordCode_8 vX6_wordSize kM_X6_73 (wX6_wordSize hX hTo (by omega)  u13) qTo (zWs_at (by omega) (hTo.o)) rfl ⟨(Nat.le_of_ble_eq_true rfl), (Nat.le_of_ble_eq_true rfl)⟩ ⟨(Nat.le_of_ble_eq_true rfl), (Nat.le_of_ble_eq_true rfl)⟩ (Nat.le_of_ble_eq_true rfl) ?_
  obtain ⟨g15, h1⟩ := zgi h1
  refine h_icmp_ge (M := mX6_wordCode) (tgt := 50) dX6_wordCode_11 (by decide) g15.1 g15.2 (fun c14 => ?_) (fun c14 => ?_)
  · have h1 := zti c14 h1
    refine g_lv (M := mX6_wordCode) [2] rfl ?_
    exact r1 _ (e1 _ (Option.some.inj h1).symm)
  · have h1 := zfi (Int.not_le.mpr c14) h1
    refine g_aload_n (M := mX6_wordCode) dX6_wordCode_14 0 rfl rfl ?_
    refine g_iload (M := mX6_wordCode) dX6_wordCode_15 3 rfl ?_
    obtain ⟨t16, u17, h1⟩ := zbi h1
    refine g_callVr (M := mX6_wordCode) [.int (iI s1.2)] hX dX6_wordCode_17 vX6_signAt kM_X6_65 (wX6_signAt hX hTo (by omega)  u17) qTo (zWs_at (by omega) (hTo.o)) rfl ⟨(Nat.le_of_ble_eq_true rfl), (Nat.le_of_ble_eq_true rfl)⟩ ⟨(Nat.le_of_ble_eq_true rfl), (Nat.le_of_ble_eq_true rfl)⟩ (Nat.le_of_ble_eq_true rfl) ?_
    refine h_bipush (M := mX6_wordCode) dX6_wordCode_20 rfl ?_
    refine h_isub (M := mX6_wordCode) dX6_wordCode_22 ?_
    refine g_istore (M := mX6_wordCode) (lv' := [(0, .ref (A qTo)), (1, .int (iI a1)), (2, .long (iL s1.1)), (4, .int (iI s1.2)), (5, .int (iI (t16 - 97)))]) dX6_wordCode_23 (by decide) rfl ?_
    refine g_iload (M := mX6_wordCode) dX6_wordCode_25 4 rfl ?_
    refine g_iload_n (M := mX6_wordCode) dX6_wordCode_27 1 rfl rfl ?_
    obtain ⟨g19, h1⟩ := zgi h1
    refine h_icmp_lt (M := mX6_wordCode) (tgt := 35) dX6_wordCode_28 (by decide) g19.1 g19.2 (fun c18 => ?_) (fun c18 => ?_)
    · have h1 := zti c18 h1
      refine g_lload_n (M := mX6_wordCode) dX6_wordCode_35 2 rfl rfl ?_
      refine g_iload (M := mX6_wordCode) dX6_wordCode_36 3 rfl ?_
      refine g_iload (M := mX6_wordCode) dX6_wordCode_38 4 rfl ?_
      obtain ⟨t20, u21, h1⟩ := zbi h1
      refine g_callSr (M := mX6_wordCode) [.long (iL s1.1), .int (iI s1.2), .int (iI (t16 - 97))] hX dX6_wordCode_40 vX0_withLetter kM_X6_78 (wX0_withLetter hX   u21) rfl ⟨(Nat.le_of_ble_eq_true rfl), (Nat.le_of_ble_eq_true rfl)⟩ ⟨(Nat.le_of_ble_eq_true rfl), (Nat.le_of_ble_eq_true rfl)⟩ (Nat.le_of_ble_eq_true rfl) ?_
      refine g_lstore_n (M := mX6_wordCode) (lv' := [(0, .ref (A qTo)), (1, .int (iI a1)), (2, .long (iL t20)), (4, .int (iI s1.2)), (5, .int (iI (t16 - 97)))]) dX6_wordCode_43 rfl (by decide) rfl ?_
      refine h_iinc (M := mX6_wordCode) (j := 3) (lv' := [(0, .ref (A qTo)), (1, .int (iI a1)), (2, .long (iL t20)), (4, .int (iI (s1.2 + 1))), (5, .int (iI (t16 - 97)))]) dX6_wordCode_44 rfl (Nat.le_of_ble_eq_true rfl) rfl ?_
      refine g_goto (M := mX6_wordCode) (tgt := 5) dX6_wordCode_47 (by decide) ?_
      refine g_lv (M := mX6_wordCode) [0, 1, 2, 3] rfl ?_
      exact b1 _ (Option.some.inj h1).symm
    · have h1 := zfi (Int.not_lt.mpr c18) h1
      refine g_ldc2 (M := mX6_wordCode) (v := iL (-1)) dX6_wordCode_31 ((show (-1 : Int64) = iL (-1) from by decide) ▸ kC_X6_76) ?_
      have e := (q1 _ (e1 _ (Option.some.inj h1).symm))
      subst e
      exact g_lret (M := mX6_wordCode) dX6_wordCode_34 rfl (Nat.le_of_ble_eq_true rfl) (Nat.le_of_ble_eq_true rfl) ⟨rfl, rfl⟩
