def zXor (a b : Int) : Int := ((a.toNat ^^^ b.toNat : Nat) : Int)
theorem iI_xor {a b : Int} (h0 : 0 ≤ a) (h1 : 0 ≤ b) : iI a ^^^ iI b = iI (zXor a b) := by
  obtain ⟨n, rfl⟩ : ∃ n : Nat, a = n := ⟨a.toNat, by omega⟩
  obtain ⟨m, rfl⟩ : ∃ m : Nat, b = m := ⟨b.toNat, by omega⟩
  show nI n ^^^ nI m = nI (n ^^^ m)
  apply Int32.toBitVec_inj.mp
  rw [Int32.toBitVec_xor]
  show BitVec.ofNat 32 n ^^^ BitVec.ofNat 32 m = BitVec.ofNat 32 (n ^^^ m)
  exact (BitVec.ofNat_xor).symm
def bUn (c d m : Int) : Int := zXor c d % zP2 (2 * m)
def bDif (c d m : Int) : Int := zPop (zAnd (zOr (bUn c d m) (bUn c d m / zP2 1)) 1431655765)
theorem zOr_r {a b : Int} (k : Nat) (ha : a < ((2 ^ k : Nat) : Int)) (hb : b < ((2 ^ k : Nat) : Int)) : 0 ≤ zOr a b ∧ zOr a b < ((2 ^ k : Nat) : Int) := by
  unfold zOr
  have hp : 0 < 2 ^ k := Nat.pow_pos (by decide)
  have := Nat.or_lt_two_pow (x := a.toNat) (y := b.toNat) (n := k) (by omega) (by omega)
  omega
theorem bUn_r {c d m : Int} (h1 : m ≤ 6) : 0 ≤ bUn c d m ∧ bUn c d m < 4096 := by
  unfold bUn
  have h2 := zP2_pos (2 * m)
  have h3 : zP2 (2 * m) ≤ ((2 ^ 12 : Nat) : Int) := zP2_le (by omega)
  have h4 : ((2 ^ 12 : Nat) : Int) = 4096 := by decide
  exact ⟨Int.emod_nonneg _ (by omega), by have := Int.emod_lt_of_pos (zXor c d) (show 0 < zP2 (2 * m) by omega); omega⟩
theorem bUo_r {c d m : Int} (h1 : m ≤ 6) : 0 ≤ zOr (bUn c d m) (bUn c d m / zP2 1) ∧ zOr (bUn c d m) (bUn c d m / zP2 1) < 4096 := by
  have h2 := bUn_r (c := c) (d := d) h1
  have h3 := bDiv_r (k := 1) h2.1 h2.2
  have h4 : ((2 ^ 12 : Nat) : Int) = 4096 := by decide
  have h5 := zOr_r (a := bUn c d m) (b := bUn c d m / zP2 1) 12 (by omega) (by omega)
  omega
theorem bUa_r {c d m : Int} (h1 : m ≤ 6) : 0 ≤ zAnd (zOr (bUn c d m) (bUn c d m / zP2 1)) 1431655765 ∧ zAnd (zOr (bUn c d m) (bUn c d m / zP2 1)) 1431655765 < 4096 := by
  have h2 := bUo_r (c := c) (d := d) h1
  generalize zOr (bUn c d m) (bUn c d m / zP2 1) = u at h2
  unfold zAnd
  have : u.toNat &&& (1431655765 : Int).toNat ≤ u.toNat := Nat.and_le_left
  omega
theorem bDif_r {c d m : Int} (h1 : m ≤ 6) : 0 ≤ bDif c d m ∧ bDif c d m ≤ 12 := by
  unfold bDif
  have h2 := bUa_r (c := c) (d := d) h1
  generalize zAnd (zOr (bUn c d m) (bUn c d m / zP2 1)) 1431655765 = u at h2
  have h3 := zPop_12 u.toNat (by omega)
  rw [Int.toNat_of_nonneg h2.1] at h3
  exact h3
def bDig (c i : Int) : Int := c / zP2 (2 * i) % 4
def bLet (V : CV) (r i : Int) : Int := V.2 2 r / zP2 (2 * i) % 4
set_option maxHeartbeats 4000000 in
set_option maxRecDepth 100000 in
/-- differing(c, d, m) -/
theorem cX0_differing' {X : zX} (hX : zOK X) {A : Nat → Nat} {n : Nat} {S : Nat → va_E} {c d m : Int} (c0 : 0 ≤ c) (c1 : c < 2147483648) (d0 : 0 ≤ d) (d1 : d < 2147483648) (m0 : 0 ≤ m) (m1 : m ≤ 6) : Con X yX0_differing mX0_differing 1 0 0 [.int (iI c), .int (iI d), .int (iI m)] (zWs A n S) (zRet (zWs A n S) (some (.int (iI (bDif c d m))))) := by
  have hu := bUn_r (c := c) (d := d) m1
  have ho := bUo_r (c := c) (d := d) m1
  have ha := bUa_r (c := c) (d := d) m1
  refine con_of (lv := [(0, .int (iI c)), (1, .int (iI d)), (2, .int (iI m))]) (by decide) rfl (fun h => by cases h) rfl (Nat.le_of_ble_eq_true rfl) rfl ?_
  refine g_iload_n (M := mX0_differing) dX0_differing_0 0 rfl rfl ?_
  refine g_iload_n (M := mX0_differing) dX0_differing_1 1 rfl rfl ?_
  refine g_ixor (M := mX0_differing) dX0_differing_2 ?_
  refine h_topx (M := mX0_differing) (b := zXor c d) (iI_xor (by omega) (by omega)) ?_
  refine h_iconst (M := mX0_differing) dX0_differing_3 ?_
  refine h_iconst (M := mX0_differing) dX0_differing_4 ?_
  refine g_iload_n (M := mX0_differing) dX0_differing_5 2 rfl rfl ?_
  refine h_imul (M := mX0_differing) dX0_differing_6 ?_
  refine g_ishl (M := mX0_differing) dX0_differing_7 ?_
  refine h_topx (M := mX0_differing) (b := 1 * zP2 (2 * m)) (iI_shl 1 (by omega) (by omega)) ?_
  refine h_iconst (M := mX0_differing) dX0_differing_8 ?_
  refine h_isub (M := mX0_differing) dX0_differing_9 ?_
  refine g_iand (M := mX0_differing) dX0_differing_10 ?_
  refine h_topx (M := mX0_differing) (b := bUn c d m) (by rw [Int.one_mul]; exact iI_maskI _ (by omega) (by omega)) ?_
  refine g_istore_n (M := mX0_differing) (lv' := [(0, .int (iI c)), (1, .int (iI d)), (2, .int (iI m)), (3, .int (iI (bUn c d m)))]) dX0_differing_11 rfl (by decide) rfl ?_
  refine g_iload_n (M := mX0_differing) dX0_differing_12 3 rfl rfl ?_
  refine g_iload_n (M := mX0_differing) dX0_differing_13 3 rfl rfl ?_
  refine h_iconst (M := mX0_differing) dX0_differing_14 ?_
  refine g_iushr (M := mX0_differing) dX0_differing_15 rfl ?_
  refine h_topx (M := mX0_differing) (b := bUn c d m / zP2 1) (iI_ushr (by omega) (by omega) (by omega) (by omega)) ?_
  refine g_ior (M := mX0_differing) dX0_differing_16 ?_
  refine h_topx (M := mX0_differing) (b := zOr (bUn c d m) (bUn c d m / zP2 1)) (iI_or (by omega) (bDiv_r (m := 4096) (by omega) (by omega)).1) ?_
  refine g_ldc (M := mX0_differing) (v := iI (1431655765)) dX0_differing_17 kC_X0_59 ?_
  refine g_iand (M := mX0_differing) dX0_differing_19 ?_
  refine h_topx (M := mX0_differing) (b := zAnd (zOr (bUn c d m) (bUn c d m / zP2 1)) 1431655765) (iI_and (by omega) (by decide)) ?_
  refine g_callSr (M := mX0_differing) [.int (iI (zAnd (zOr (bUn c d m) (bUn c d m / zP2 1)) 1431655765))] hX dX0_differing_20 vJ6_bitCount_0f7a4 kM_X0_60 (cJ6_bitCount_0f7a4' (iI (zAnd (zOr (bUn c d m) (bUn c d m / zP2 1)) 1431655765))) rfl ⟨Nat.le_of_ble_eq_true rfl, Nat.le_of_ble_eq_true rfl⟩ ⟨Nat.le_of_ble_eq_true rfl, Nat.le_of_ble_eq_true rfl⟩ (Nat.le_of_ble_eq_true rfl) ?_
  refine h_topx (M := mX0_differing) (b := zPop (zAnd (zOr (bUn c d m) (bUn c d m / zP2 1)) 1431655765)) (zPop_e _) ?_
  exact g_iret (M := mX0_differing) dX0_differing_23 rfl (by omega) (by omega) ⟨rfl, congrArg (fun z => Sum.inl (some (Value.int (iI z)))) (show (zPop (zAnd (zOr (bUn c d m) (bUn c d m / zP2 1)) 1431655765) : Int) = bDif c d m from by first | rfl | (simp [bDif]; done) | (simp [bDif]; omega) | (simp [bDif]; intros; omega))⟩
set_option maxHeartbeats 4000000 in
set_option maxRecDepth 100000 in
/-- letterOf(c, i) -/
theorem cX0_letterOf' {X : zX} (hX : zOK X) {A : Nat → Nat} {n : Nat} {S : Nat → va_E} {c i : Int} (c0 : 0 ≤ c) (c1 : c < 2147483648) (i0 : 0 ≤ i) (i1 : i < 16) : Con X yX0_letterOf mX0_letterOf 0 0 0 [.int (iI c), .int (iI i)] (zWs A n S) (zRet (zWs A n S) (some (.int (iI (bDig c i))))) := by
  refine con_of (lv := [(0, .int (iI c)), (1, .int (iI i))]) (by decide) rfl (fun h => by cases h) rfl (Nat.le_of_ble_eq_true rfl) rfl ?_
  refine g_iload_n (M := mX0_letterOf) dX0_letterOf_0 0 rfl rfl ?_
  refine h_iconst (M := mX0_letterOf) dX0_letterOf_1 ?_
  refine g_iload_n (M := mX0_letterOf) dX0_letterOf_2 1 rfl rfl ?_
  refine h_imul (M := mX0_letterOf) dX0_letterOf_3 ?_
  refine g_iushr (M := mX0_letterOf) dX0_letterOf_4 rfl ?_
  refine h_topx (M := mX0_letterOf) (b := c / zP2 (2 * i)) (iI_ushr (by omega) (by omega) (by omega) (by omega)) ?_
  refine h_iconst (M := mX0_letterOf) dX0_letterOf_5 ?_
  refine g_iand (M := mX0_letterOf) dX0_letterOf_6 ?_
  refine h_topx (M := mX0_letterOf) (b := c / zP2 (2 * i) % 4) (iI_mask _ 2 (by decide)) ?_
  exact g_iret (M := mX0_letterOf) dX0_letterOf_7 rfl (by omega) (by omega) ⟨rfl, congrArg (fun z => Sum.inl (some (Value.int (iI z)))) (show (c / zP2 (2 * i) % 4 : Int) = bDig c i from by first | rfl | (simp []; done) | (simp []; omega) | (simp []; intros; omega))⟩
set_option maxHeartbeats 4000000 in
set_option maxRecDepth 100000 in
/-- letterAt(r, i) -/
theorem cX0_letterAt' {X : zX} (hX : zOK X) {A : Nat → Nat} {n : Nat} {S : Nat → va_E} {q : Nat} {V : CV} (hB : isC X A shB q V S) (hq : q + 6 < n) (hV : okB V) {r i : Int} (r0 : 0 ≤ r) (r1 : r < 10) (i0 : 0 ≤ i) (i1 : i < 30) : Con X yX0_letterAt mX0_letterAt 0 0 0 [.ref (A q), .int (iI r), .int (iI i)] (zWs A n S) (zRet (zWs A n S) (some (.int (iI (bLet V r i))))) := by
  obtain ⟨⟨v0, v0'⟩, ⟨v1, v1'⟩, ⟨v2, v2'⟩, ⟨v3, v3'⟩, ⟨v4, v4'⟩, ⟨v5, v5'⟩, vr, vc, vt⟩ := id hV
  obtain ⟨⟨s3, s3'⟩, ⟨s4, s4'⟩, ⟨s2, s2'⟩, ⟨s5, s5'⟩⟩ := vr (r) (by omega) (by omega)
  refine con_of (lv := [(0, .ref (A q)), (1, .int (iI r)), (2, .int (iI i))]) (by decide) rfl (fun h => by cases h) rfl (Nat.le_of_ble_eq_true rfl) rfl ?_
  refine g_aload_n (M := mX0_letterAt) dX0_letterAt_0 0 rfl rfl ?_
  refine k_get (M := mX0_letterAt) (v := .ref (A (q + 2))) dX0_letterAt_1 kF_X0_25.r q (by omega) (hB.o) rfl ?_
  refine g_iload_n (M := mX0_letterAt) dX0_letterAt_4 1 rfl rfl ?_
  refine k_lald (M := mX0_letterAt) (len := 10) (f := V.2 2) dX0_letterAt_5 (q + 2) (by omega) (hB.a (d := (1, 10)) 1 rfl) (Nat.le_of_ble_eq_true rfl) (by omega) (by omega) ?_
  refine h_iconst (M := mX0_letterAt) dX0_letterAt_6 ?_
  refine g_iload_n (M := mX0_letterAt) dX0_letterAt_7 2 rfl rfl ?_
  refine h_imul (M := mX0_letterAt) dX0_letterAt_8 ?_
  refine g_lushr (M := mX0_letterAt) dX0_letterAt_9 rfl ?_
  refine h_topl (M := mX0_letterAt) (b := V.2 2 r / zP2 (2 * i)) (iL_ushr (by omega) (by omega) (by omega) (by omega)) ?_
  refine g_l2i (M := mX0_letterAt) dX0_letterAt_10 rfl ?_
  refine h_topx (M := mX0_letterAt) (b := V.2 2 r / zP2 (2 * i)) (iL_i (bDiv_r (m := 1152921504606846976) (by omega) (by omega)).1) ?_
  refine h_iconst (M := mX0_letterAt) dX0_letterAt_11 ?_
  refine g_iand (M := mX0_letterAt) dX0_letterAt_12 ?_
  refine h_topx (M := mX0_letterAt) (b := V.2 2 r / zP2 (2 * i) % 4) (iI_mask _ 2 (by decide)) ?_
  exact g_iret (M := mX0_letterAt) dX0_letterAt_13 rfl (by omega) (by omega) ⟨rfl, congrArg (fun z => Sum.inl (some (Value.int (iI z)))) (show (V.2 2 r / zP2 (2 * i) % 4 : Int) = bLet V r i from by first | rfl | (simp []; done) | (simp []; omega) | (simp []; intros; omega))⟩
