/-! THE BOARD: V.1 = 0 letters, 1 length, 2 changes, 3 rows, 4 out, 5 taken; V.2 = 1 names, 2 codes, 3 sizes, 4 covered, 5 chosen, 6 words taken -/
abbrev shB : Sh := (0, [(0,0),(0,1),(0,2),(0,3),(0,4),(0,5),(1,1),(1,2),(1,3),(1,4),(1,5),(1,6)], [(1,10),(1,10),(0,10),(0,10),(0,10),(0,6)])
def okB (V : CV) : Prop := (2 ≤ V.1 0 ∧ V.1 0 ≤ 4) ∧ (2 ≤ V.1 1 ∧ V.1 1 ≤ 6) ∧ (0 ≤ V.1 2 ∧ V.1 2 ≤ 3) ∧ (0 ≤ V.1 3 ∧ V.1 3 ≤ 10) ∧ (0 ≤ V.1 4 ∧ V.1 4 < 1024) ∧ (0 ≤ V.1 5 ∧ V.1 5 ≤ 6) ∧
  (∀ r, 0 ≤ r → r < 10 → (0 ≤ V.2 3 r ∧ V.2 3 r ≤ 30) ∧ (0 ≤ V.2 4 r ∧ V.2 4 r < 1073741824) ∧ (0 ≤ V.2 2 r ∧ V.2 2 r < 1152921504606846976) ∧ (-1 ≤ V.2 5 r ∧ V.2 5 r ≤ 29)) ∧
  (∀ r, 0 ≤ r → r < V.1 3 → V.2 5 r = -1 ∨ V.2 5 r + V.1 1 ≤ V.2 3 r) ∧ (∀ r, 0 ≤ r → r < V.1 5 → 0 ≤ V.2 6 r ∧ V.2 6 r < 4096)
def bLast (V : CV) (r : Int) : Int := V.2 3 r - V.1 1
def bOut (V : CV) (r : Int) : Bool := decide (V.1 4 / zP2 r % 2 = 1)
def bMask (L i : Int) : Int := (zP2 L - 1) * zP2 i
def bPl (V : CV) (r i : Int) : Bool := decide (0 ≤ i) && decide (i ≤ bLast V r) && !bOut V r && decide (zAnd (V.2 4 r) (bMask (V.1 1) i) = 0)
def bCode (V : CV) (r i : Int) : Int := V.2 2 r / zP2 (2 * i) % zP2 (2 * V.1 1)
theorem zP2_le {k : Int} {m : Nat} (h : k ≤ m) : zP2 k ≤ ((2 ^ m : Nat) : Int) := by
  unfold zP2
  exact Int.ofNat_le.mpr (Nat.pow_le_pow_right (by omega) (by omega))
theorem zP2_add {a b : Int} (ha : 0 ≤ a) (hb : 0 ≤ b) : zP2 (a + b) = zP2 a * zP2 b := by
  unfold zP2
  rw [Int.toNat_add ha hb, Nat.pow_add]
  rfl
theorem bMask_r {L i : Int} (hL : 0 ≤ L) (h0 : 0 ≤ i) (h1 : i + L ≤ 30) : 0 ≤ bMask L i ∧ bMask L i < 1073741824 := by
  unfold bMask
  have h2 := zP2_pos L
  have h3 := zP2_pos i
  have h4 := zP2_add hL h0
  have h5 : zP2 (L + i) ≤ ((2 ^ 30 : Nat) : Int) := zP2_le (by omega)
  have h6 : ((2 ^ 30 : Nat) : Int) = 1073741824 := by decide
  have h7 : (zP2 L - 1) * zP2 i = zP2 L * zP2 i - zP2 i := by rw [Int.sub_mul, Int.one_mul]
  rw [h7]
  have h8 : 0 ≤ (zP2 L - 1) * zP2 i := Int.mul_nonneg (by omega) (by omega)
  rw [h7] at h8
  omega
theorem bDiv_r {x k m : Int} (h0 : 0 ≤ x) (h1 : x < m) : 0 ≤ x / zP2 k ∧ x / zP2 k < m := by
  have h2 := zP2_pos k
  have h3 : x / zP2 k ≤ x := by
    apply Int.ediv_le_self
    exact h0
  exact ⟨Int.ediv_nonneg h0 (by omega), by omega⟩
def zFo {σ : Type} (g : Int → σ → σ) (s : σ) : Nat → σ
  | 0 => s
  | n + 1 => g n (zFo g s n)
theorem zFo_s {σ : Type} {g : Int → σ → σ} {s : σ} {i : Int} (h : 0 ≤ i) : zFo g s (i + 1).toNat = g i (zFo g s i.toNat) := by
  obtain ⟨n, rfl⟩ : ∃ n : Nat, i = n := ⟨i.toNat, by omega⟩
  rfl
theorem zAnd_r {a b : Int} : 0 ≤ zAnd a b ∧ (0 ≤ b → zAnd a b ≤ b) := by
  unfold zAnd
  refine ⟨by omega, fun h => ?_⟩
  have : a.toNat &&& b.toNat ≤ b.toNat := Nat.and_le_right
  omega
set_option maxHeartbeats 4000000 in
set_option maxRecDepth 100000 in
/-- lastStart(r) -/
theorem cX0_lastStart' {X : zX} (hX : zOK X) {A : Nat → Nat} {n : Nat} {S : Nat → va_E} {q : Nat} {V : CV} (hB : isC X A shB q V S) (hq : q + 6 < n) (hV : okB V) {r : Int} (r0 : 0 ≤ r) (r1 : r < 10) : Con X yX0_lastStart mX0_lastStart 0 0 0 [.ref (A q), .int (iI r)] (zWs A n S) (zRet (zWs A n S) (some (.int (iI (bLast V r))))) := by
  obtain ⟨⟨v0, v0'⟩, ⟨v1, v1'⟩, ⟨v2, v2'⟩, ⟨v3, v3'⟩, ⟨v4, v4'⟩, ⟨v5, v5'⟩, vr, vc, vt⟩ := id hV
  obtain ⟨⟨s3, s3'⟩, ⟨s4, s4'⟩, ⟨s2, s2'⟩, ⟨s5, s5'⟩⟩ := vr (r) (by omega) (by omega)
  refine con_of (lv := [(0, .ref (A q)), (1, .int (iI r))]) (by decide) rfl (fun h => by cases h) rfl (Nat.le_of_ble_eq_true rfl) rfl ?_
  refine g_aload_n (M := mX0_lastStart) dX0_lastStart_0 0 rfl rfl ?_
  refine k_get (M := mX0_lastStart) (v := .ref (A (q + 3))) dX0_lastStart_1 kF_X0_28.r q (by omega) (hB.o) rfl ?_
  refine g_iload_n (M := mX0_lastStart) dX0_lastStart_4 1 rfl rfl ?_
  refine k_iald (M := mX0_lastStart) (len := 10) (f := V.2 3) dX0_lastStart_5 (q + 3) (by omega) (hB.a (d := (0, 10)) 2 rfl) (Nat.le_of_ble_eq_true rfl) (by omega) (by omega) ?_
  refine g_aload_n (M := mX0_lastStart) dX0_lastStart_6 0 rfl rfl ?_
  refine k_get (M := mX0_lastStart) (v := .int (iI (V.1 1))) dX0_lastStart_7 kF_X0_15.r q (by omega) (hB.o) rfl ?_
  refine h_isub (M := mX0_lastStart) dX0_lastStart_10 ?_
  exact g_iret (M := mX0_lastStart) dX0_lastStart_11 rfl (by omega) (by omega) ⟨rfl, congrArg (fun z => Sum.inl (some (Value.int (iI z)))) (show ((V.2 3 r) - (V.1 1) : Int) = bLast V r from by first | rfl | (simp [bLast]; done) | (simp [bLast]; omega) | (simp [bLast]; intros; omega))⟩
set_option maxHeartbeats 4000000 in
set_option maxRecDepth 100000 in
/-- isOut(r) -/
theorem cX0_isOut' {X : zX} (hX : zOK X) {A : Nat → Nat} {n : Nat} {S : Nat → va_E} {q : Nat} {V : CV} (hB : isC X A shB q V S) (hq : q + 6 < n) (hV : okB V) {r : Int} (r0 : 0 ≤ r) (r1 : r < 10) : Con X yX0_isOut mX0_isOut 0 0 0 [.ref (A q), .int (iI r)] (zWs A n S) (zRet (zWs A n S) (some (.int (iI (b2 (bOut V r)))))) := by
  obtain ⟨⟨v0, v0'⟩, ⟨v1, v1'⟩, ⟨v2, v2'⟩, ⟨v3, v3'⟩, ⟨v4, v4'⟩, ⟨v5, v5'⟩, vr, vc, vt⟩ := id hV
  refine con_of (lv := [(0, .ref (A q)), (1, .int (iI r))]) (by decide) rfl (fun h => by cases h) rfl (Nat.le_of_ble_eq_true rfl) rfl ?_
  refine g_aload_n (M := mX0_isOut) dX0_isOut_0 0 rfl rfl ?_
  refine k_get (M := mX0_isOut) (v := .int (iI (V.1 4))) dX0_isOut_1 kF_X0_44.r q (by omega) (hB.o) rfl ?_
  refine g_iload_n (M := mX0_isOut) dX0_isOut_4 1 rfl rfl ?_
  refine g_iushr (M := mX0_isOut) dX0_isOut_5 rfl ?_
  refine h_topx (M := mX0_isOut) (b := V.1 4 / zP2 r) (iI_ushr (by omega) (by omega) (by omega) (by omega)) ?_
  refine h_iconst (M := mX0_isOut) dX0_isOut_6 ?_
  refine g_iand (M := mX0_isOut) dX0_isOut_7 ?_
  refine h_topx (M := mX0_isOut) (b := V.1 4 / zP2 r % 2) (iI_mask _ 1 (by decide)) ?_
  have hm : 0 ≤ V.1 4 / zP2 r % 2 ∧ V.1 4 / zP2 r % 2 < 2 := ⟨Int.emod_nonneg _ (by decide), Int.emod_lt_of_pos _ (by decide)⟩
  refine h_if_eq (M := mX0_isOut) (tgt := 15) dX0_isOut_8 (by decide) ⟨by omega, by omega⟩ (fun c_8 => ?_) (fun c_8 => ?_)
  · refine h_iconst (M := mX0_isOut) dX0_isOut_15 ?_
    exact g_zret (M := mX0_isOut) .boolean dX0_isOut_16 rfl rfl (by omega) (by omega) ⟨rfl, congrArg (fun z => Sum.inl (some (Value.int (iI z)))) (by unfold bOut b2; rw [if_neg (by simp; omega)])⟩
  · refine h_iconst (M := mX0_isOut) dX0_isOut_11 ?_
    refine g_goto (M := mX0_isOut) (tgt := 16) dX0_isOut_12 (by decide) ?_
    exact g_zret (M := mX0_isOut) .boolean dX0_isOut_16 rfl rfl (by omega) (by omega) ⟨rfl, congrArg (fun z => Sum.inl (some (Value.int (iI z)))) (by unfold bOut b2; rw [if_pos (by simp; omega)])⟩
set_option maxHeartbeats 4000000 in
set_option maxRecDepth 100000 in
/-- lettersFrom(i) -/
theorem cX0_lettersFrom' {X : zX} (hX : zOK X) {A : Nat → Nat} {n : Nat} {S : Nat → va_E} {q : Nat} {V : CV} (hB : isC X A shB q V S) (hq : q + 6 < n) (hV : okB V) {i : Int} (i0 : 0 ≤ i) (i1 : i + V.1 1 ≤ 30) : Con X yX0_lettersFrom mX0_lettersFrom 0 0 0 [.ref (A q), .int (iI i)] (zWs A n S) (zRet (zWs A n S) (some (.int (iI (bMask (V.1 1) i))))) := by
  obtain ⟨⟨v0, v0'⟩, ⟨v1, v1'⟩, ⟨v2, v2'⟩, ⟨v3, v3'⟩, ⟨v4, v4'⟩, ⟨v5, v5'⟩, vr, vc, vt⟩ := id hV
  refine con_of (lv := [(0, .ref (A q)), (1, .int (iI i))]) (by decide) rfl (fun h => by cases h) rfl (Nat.le_of_ble_eq_true rfl) rfl ?_
  refine h_iconst (M := mX0_lettersFrom) dX0_lettersFrom_0 ?_
  refine g_aload_n (M := mX0_lettersFrom) dX0_lettersFrom_1 0 rfl rfl ?_
  refine k_get (M := mX0_lettersFrom) (v := .int (iI (V.1 1))) dX0_lettersFrom_2 kF_X0_15.r q (by omega) (hB.o) rfl ?_
  refine g_ishl (M := mX0_lettersFrom) dX0_lettersFrom_5 ?_
  refine h_topx (M := mX0_lettersFrom) (b := 1 * zP2 (V.1 1)) (iI_shl 1 (by omega) (by omega)) ?_
  refine h_iconst (M := mX0_lettersFrom) dX0_lettersFrom_6 ?_
  refine h_isub (M := mX0_lettersFrom) dX0_lettersFrom_7 ?_
  refine g_iload_n (M := mX0_lettersFrom) dX0_lettersFrom_8 1 rfl rfl ?_
  refine g_ishl (M := mX0_lettersFrom) dX0_lettersFrom_9 ?_
  refine h_topx (M := mX0_lettersFrom) (b := ((1 * zP2 (V.1 1)) - 1) * zP2 i) (iI_shl _ (by omega) (by omega)) ?_
  exact g_iret (M := mX0_lettersFrom) dX0_lettersFrom_10 rfl (by omega) (by omega) ⟨rfl, congrArg (fun z => Sum.inl (some (Value.int (iI z)))) (by unfold bMask; rw [Int.one_mul])⟩
set_option maxHeartbeats 4000000 in
set_option maxRecDepth 100000 in
/-- isPlace(r, i) -/
theorem cX0_isPlace' {X : zX} (hX : zOK X) {A : Nat → Nat} {n : Nat} {S : Nat → va_E} {q : Nat} {V : CV} (hB : isC X A shB q V S) (hq : q + 6 < n) (hV : okB V) {r i : Int} (r0 : 0 ≤ r) (r1 : r < 10) (hi : iR i) : Con X yX0_isPlace mX0_isPlace 1 0 0 [.ref (A q), .int (iI r), .int (iI i)] (zWs A n S) (zRet (zWs A n S) (some (.int (iI (b2 (bPl V r i)))))) := by
  obtain ⟨⟨v0, v0'⟩, ⟨v1, v1'⟩, ⟨v2, v2'⟩, ⟨v3, v3'⟩, ⟨v4, v4'⟩, ⟨v5, v5'⟩, vr, vc, vt⟩ := id hV
  obtain ⟨⟨s3, s3'⟩, ⟨s4, s4'⟩, ⟨s2, s2'⟩, ⟨s5, s5'⟩⟩ := vr (r) (by omega) (by omega)
  refine con_of (lv := [(0, .ref (A q)), (1, .int (iI r)), (2, .int (iI i))]) (by decide) rfl (fun h => by cases h) rfl (Nat.le_of_ble_eq_true rfl) rfl ?_
  refine g_iload_n (M := mX0_isPlace) dX0_isPlace_0 2 rfl rfl ?_
  refine h_if_lt (M := mX0_isPlace) (tgt := 40) dX0_isPlace_1 (by decide) hi (fun c_1 => ?_) (fun c_1 => ?_)
  · refine h_iconst (M := mX0_isPlace) dX0_isPlace_40 ?_
    exact g_zret (M := mX0_isPlace) .boolean dX0_isPlace_41 rfl rfl (by omega) (by omega) ⟨rfl, congrArg (fun z => Sum.inl (some (Value.int (iI z)))) (show (0 : Int) = b2 (bPl V r i) from by first | rfl | (simp [bPl, b2, c_1]; done) | (simp [bPl, b2, c_1]; omega) | (simp [bPl, b2, c_1]; intros; omega))⟩
  · refine g_iload_n (M := mX0_isPlace) dX0_isPlace_4 2 rfl rfl ?_
    refine g_aload_n (M := mX0_isPlace) dX0_isPlace_5 0 rfl rfl ?_
    refine g_iload_n (M := mX0_isPlace) dX0_isPlace_6 1 rfl rfl ?_
    refine g_callVr (M := mX0_isPlace) [.int (iI r)] hX dX0_isPlace_7 vX0_lastStart kM_X0_66 (cX0_lastStart' hX hB (by omega) hV (r := r) (by omega) (by omega)) q (zWs_at (by omega) (hB.o)) rfl ⟨Nat.le_of_ble_eq_true rfl, Nat.le_of_ble_eq_true rfl⟩ ⟨Nat.le_of_ble_eq_true rfl, Nat.le_of_ble_eq_true rfl⟩ (Nat.le_of_ble_eq_true rfl) ?_
    refine h_icmp_gt (M := mX0_isPlace) (tgt := 40) dX0_isPlace_10 (by decide) hi (by unfold bLast; exact ⟨by omega, by omega⟩) (fun c_10 => ?_) (fun c_10 => ?_)
    · refine h_iconst (M := mX0_isPlace) dX0_isPlace_40 ?_
      exact g_zret (M := mX0_isPlace) .boolean dX0_isPlace_41 rfl rfl (by omega) (by omega) ⟨rfl, congrArg (fun z => Sum.inl (some (Value.int (iI z)))) (show (0 : Int) = b2 (bPl V r i) from by first | rfl | (simp [bPl, b2, c_1, c_10]; done) | (simp [bPl, b2, c_1, c_10]; omega) | (simp [bPl, b2, c_1, c_10]; intros; omega))⟩
    · refine g_aload_n (M := mX0_isPlace) dX0_isPlace_13 0 rfl rfl ?_
      refine g_iload_n (M := mX0_isPlace) dX0_isPlace_14 1 rfl rfl ?_
      refine g_callVr (M := mX0_isPlace) [.int (iI r)] hX dX0_isPlace_15 vX0_isOut kM_X0_69 (cX0_isOut' hX hB (by omega) hV (r := r) (by omega) (by omega)) q (zWs_at (by omega) (hB.o)) rfl ⟨Nat.le_of_ble_eq_true rfl, Nat.le_of_ble_eq_true rfl⟩ ⟨Nat.le_of_ble_eq_true rfl, Nat.le_of_ble_eq_true rfl⟩ (Nat.le_of_ble_eq_true rfl) ?_
      refine h_bne (M := mX0_isPlace) (tgt := 40) dX0_isPlace_18 (by decide) (fun c_18 => ?_) (fun c_18 => ?_)
      · refine h_iconst (M := mX0_isPlace) dX0_isPlace_40 ?_
        exact g_zret (M := mX0_isPlace) .boolean dX0_isPlace_41 rfl rfl (by omega) (by omega) ⟨rfl, congrArg (fun z => Sum.inl (some (Value.int (iI z)))) (show (0 : Int) = b2 (bPl V r i) from by first | rfl | (simp [bPl, b2, c_1, c_10, c_18]; done) | (simp [bPl, b2, c_1, c_10, c_18]; omega) | (simp [bPl, b2, c_1, c_10, c_18]; intros; omega))⟩
      · have hm := bMask_r (L := V.1 1) (i := i) (by omega) (by omega) (by unfold bLast at c_10; omega)
        have ha := zAnd_r (a := V.2 4 r) (b := bMask (V.1 1) i)
        refine g_aload_n (M := mX0_isPlace) dX0_isPlace_21 0 rfl rfl ?_
        refine k_get (M := mX0_isPlace) (v := .ref (A (q + 4))) dX0_isPlace_22 kF_X0_32.r q (by omega) (hB.o) rfl ?_
        refine g_iload_n (M := mX0_isPlace) dX0_isPlace_25 1 rfl rfl ?_
        refine k_iald (M := mX0_isPlace) (len := 10) (f := V.2 4) dX0_isPlace_26 (q + 4) (by omega) (hB.a (d := (0, 10)) 3 rfl) (Nat.le_of_ble_eq_true rfl) (by omega) (by omega) ?_
        refine g_aload_n (M := mX0_isPlace) dX0_isPlace_27 0 rfl rfl ?_
        refine g_iload_n (M := mX0_isPlace) dX0_isPlace_28 2 rfl rfl ?_
        refine g_callVr (M := mX0_isPlace) [.int (iI i)] hX dX0_isPlace_29 vX0_lettersFrom kM_X0_73 (cX0_lettersFrom' hX hB (by omega) hV (i := i) (by omega) (by unfold bLast at c_10; omega)) q (zWs_at (by omega) (hB.o)) rfl ⟨Nat.le_of_ble_eq_true rfl, Nat.le_of_ble_eq_true rfl⟩ ⟨Nat.le_of_ble_eq_true rfl, Nat.le_of_ble_eq_true rfl⟩ (Nat.le_of_ble_eq_true rfl) ?_
        refine g_iand (M := mX0_isPlace) dX0_isPlace_32 ?_
        refine h_topx (M := mX0_isPlace) (b := zAnd (V.2 4 r) (bMask (V.1 1) i)) (iI_and (by omega) (by omega)) ?_
        refine h_if_ne (M := mX0_isPlace) (tgt := 40) dX0_isPlace_33 (by decide) ⟨by omega, by omega⟩ (fun c_33 => ?_) (fun c_33 => ?_)
        · refine h_iconst (M := mX0_isPlace) dX0_isPlace_40 ?_
          exact g_zret (M := mX0_isPlace) .boolean dX0_isPlace_41 rfl rfl (by omega) (by omega) ⟨rfl, congrArg (fun z => Sum.inl (some (Value.int (iI z)))) (show (0 : Int) = b2 (bPl V r i) from by first | rfl | (simp [bPl, b2, c_1, c_10, c_18, c_33]; done) | (simp [bPl, b2, c_1, c_10, c_18, c_33]; omega) | (simp [bPl, b2, c_1, c_10, c_18, c_33]; intros; omega))⟩
        · refine h_iconst (M := mX0_isPlace) dX0_isPlace_36 ?_
          refine g_goto (M := mX0_isPlace) (tgt := 41) dX0_isPlace_37 (by decide) ?_
          exact g_zret (M := mX0_isPlace) .boolean dX0_isPlace_41 rfl rfl (by omega) (by omega) ⟨rfl, congrArg (fun z => Sum.inl (some (Value.int (iI z)))) (show (1 : Int) = b2 (bPl V r i) from by first | rfl | (simp [bPl, b2, c_1, c_10, c_18, c_33]; done) | (simp [bPl, b2, c_1, c_10, c_18, c_33]; omega) | (simp [bPl, b2, c_1, c_10, c_18, c_33]; intros; omega))⟩
set_option maxHeartbeats 4000000 in
set_option maxRecDepth 100000 in
/-- codeAt(r, i) -/
theorem cX0_codeAt' {X : zX} (hX : zOK X) {A : Nat → Nat} {n : Nat} {S : Nat → va_E} {q : Nat} {V : CV} (hB : isC X A shB q V S) (hq : q + 6 < n) (hV : okB V) {r i : Int} (r0 : 0 ≤ r) (r1 : r < 10) (i0 : 0 ≤ i) (i1 : i < 30) : Con X yX0_codeAt mX0_codeAt 0 0 0 [.ref (A q), .int (iI r), .int (iI i)] (zWs A n S) (zRet (zWs A n S) (some (.int (iI (bCode V r i))))) := by
  obtain ⟨⟨v0, v0'⟩, ⟨v1, v1'⟩, ⟨v2, v2'⟩, ⟨v3, v3'⟩, ⟨v4, v4'⟩, ⟨v5, v5'⟩, vr, vc, vt⟩ := id hV
  obtain ⟨⟨s3, s3'⟩, ⟨s4, s4'⟩, ⟨s2, s2'⟩, ⟨s5, s5'⟩⟩ := vr (r) (by omega) (by omega)
  refine con_of (lv := [(0, .ref (A q)), (1, .int (iI r)), (2, .int (iI i))]) (by decide) rfl (fun h => by cases h) rfl (Nat.le_of_ble_eq_true rfl) rfl ?_
  refine g_aload_n (M := mX0_codeAt) dX0_codeAt_0 0 rfl rfl ?_
  refine k_get (M := mX0_codeAt) (v := .ref (A (q + 2))) dX0_codeAt_1 kF_X0_25.r q (by omega) (hB.o) rfl ?_
  refine g_iload_n (M := mX0_codeAt) dX0_codeAt_4 1 rfl rfl ?_
  refine k_lald (M := mX0_codeAt) (len := 10) (f := V.2 2) dX0_codeAt_5 (q + 2) (by omega) (hB.a (d := (1, 10)) 1 rfl) (Nat.le_of_ble_eq_true rfl) (by omega) (by omega) ?_
  refine h_iconst (M := mX0_codeAt) dX0_codeAt_6 ?_
  refine g_iload_n (M := mX0_codeAt) dX0_codeAt_7 2 rfl rfl ?_
  refine h_imul (M := mX0_codeAt) dX0_codeAt_8 ?_
  refine g_lushr (M := mX0_codeAt) dX0_codeAt_9 rfl ?_
  refine h_topl (M := mX0_codeAt) (b := V.2 2 r / zP2 (2 * i)) (iL_ushr (by omega) (by omega) (by omega) (by omega)) ?_
  refine g_l2i (M := mX0_codeAt) dX0_codeAt_10 rfl ?_
  refine h_topx (M := mX0_codeAt) (b := V.2 2 r / zP2 (2 * i)) (iL_i (bDiv_r (m := 1152921504606846976) (by omega) (by omega)).1) ?_
  refine h_iconst (M := mX0_codeAt) dX0_codeAt_11 ?_
  refine h_iconst (M := mX0_codeAt) dX0_codeAt_12 ?_
  refine g_aload_n (M := mX0_codeAt) dX0_codeAt_13 0 rfl rfl ?_
  refine k_get (M := mX0_codeAt) (v := .int (iI (V.1 1))) dX0_codeAt_14 kF_X0_15.r q (by omega) (hB.o) rfl ?_
  refine h_imul (M := mX0_codeAt) dX0_codeAt_17 ?_
  refine g_ishl (M := mX0_codeAt) dX0_codeAt_18 ?_
  refine h_topx (M := mX0_codeAt) (b := 1 * zP2 (2 * V.1 1)) (iI_shl 1 (by omega) (by omega)) ?_
  refine h_iconst (M := mX0_codeAt) dX0_codeAt_19 ?_
  refine h_isub (M := mX0_codeAt) dX0_codeAt_20 ?_
  refine g_iand (M := mX0_codeAt) dX0_codeAt_21 ?_
  refine h_topx (M := mX0_codeAt) (b := V.2 2 r / zP2 (2 * i) % zP2 (2 * V.1 1)) (by rw [Int.one_mul]; exact iI_maskI _ (by omega) (by omega)) ?_
  exact g_iret (M := mX0_codeAt) dX0_codeAt_22 rfl (by omega) (by omega) ⟨rfl, congrArg (fun z => Sum.inl (some (Value.int (iI z)))) (show (V.2 2 r / zP2 (2 * i) % zP2 (2 * V.1 1) : Int) = bCode V r i from by first | rfl | (simp [bCode]; done) | (simp [bCode]; omega) | (simp [bCode]; intros; omega))⟩
