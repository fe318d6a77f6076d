/-! STRINGS: constants outside the region -/
def zSO (X : zX) (a : Nat) (w : List Int) : Prop := w.length < 1000 ∧ (∀ b ∈ w, 0 ≤ b ∧ b < 128) ∧ ∃ av, ∀ U, zE X U → va_O "java/lang/String" a (zA X) U U.heap ∧ va_OF "java/lang/String" "coder" "B" (.int (iI 0)) a (zA X) U U.heap ∧ va_OF "java/lang/String" "value" "[B" (.ref av) a (zA X) U U.heap ∧ va_T .byte av w.length (fun j => .int (iI (w.getD j 0))) (zA X) U U.heap
/-- the constants of the words that the readers know: class, entry, text, its letters -/
def zWrd : List (String × Nat × String) := [("HiddenWords$TextReader", 39, "letters"), ("HiddenWords$TextReader", 58, "length"), ("HiddenWords$TextReader", 62, "changes"), ("HiddenWords$TextReader", 66, "row"), ("HiddenWords$Script", 98, "choose"), ("HiddenWords$Script", 104, "clear"), ("HiddenWords$Script", 106, "better"), ("HiddenWords$Script", 108, "improve"), ("HiddenWords$Script", 110, "take"), ("HiddenWords$Script", 112, "best"), ("HiddenWords$Script", 114, "out"), ("HiddenWords$Script", 116, "in"), ("HiddenWords$Script", 118, "changes"), ("HiddenWords$Script", 120, "repeat")]
def zTx (t : String) : List Int := t.toList.map (fun c => (c.toNat : Int))
def zOS (X : zX) : Prop := (∀ U, zE X U → va_Z "java/lang/String" "COMPACT_STRINGS" "Z" (.int (iI 1)) (zA X) U U.heap) ∧ (∃ v : Value, (v = .null ∨ ∃ f, v = .ref f) ∧ ∀ U, zE X U → va_Z "jdk/internal/util/Preconditions" "SIOOBE_FORMATTER" "Ljava/util/function/BiFunction;" v (zA X) U U.heap) ∧
  (∀ q ∈ zWrd, (∀ U, zE X U → vk_R q.1 q.2.1 q.2.2 (X.2.2.2.2.2 (q.1, q.2.1)) U) ∧ zSO X (X.2.2.2.2.2 (q.1, q.2.1)) (zTx q.2.2))
def zOK2 (X : zX) : Prop := zOK X ∧ zOS X
section ZSTR
variable {X : zX} {M : zM} {P : zP} {kc ks pc : Nat} {lv : List (Nat × Value)} {rest : List Value} {ws : va_W}
theorem g_gets {ix : Nat} {C n d : String} {v : Value} (hdg : decode M.2.1 pc = .ok (.getstatic ix, 3)) (hZ : ∀ U, zE X U → va_Z C n d v (zA X) U U.heap) (hl : Cond.fieldLink M.1 ix C n d ∈ zW) (kk : G X M P kc ks (pc + 3) lv (v :: rest) ws) : G X M P kc ks pc lv rest ws := fun p e s m args below meth c H locs ls I hP hD hS hl2 =>
  va_gets I.1 I.2.1 (hZ s I.2.2.2.2.2.2.2.2.1) hS I.2.2.2.2.1 (I.2.2.2.2.2.1 _ hl) (fun _ h => h) hdg (kk p e s m args below meth c H locs ls I hP hD hS hl2)
theorem g_getO {ix a : Nat} {o n d : String} {v : Value} (hdg : decode M.2.1 pc = .ok (.getfield ix, 3)) (hZ : ∀ U, zE X U → va_OF o n d v a (zA X) U U.heap) (hl : Cond.fieldLink M.1 ix o n d ∈ zW) (kk : G X M P kc ks (pc + 3) lv (v :: rest) ws) : G X M P kc ks pc lv (.ref a :: rest) ws := fun p e s m args below meth c H locs ls I hP hD hS hl2 =>
  vk_getf I.1 I.2.1 (hZ s I.2.2.2.2.2.2.2.2.1) hS I.2.2.2.2.1 (I.2.2.2.2.2.1 _ hl) (fun _ h => h) hdg (kk p e s m args below meth c H locs ls I hP hD hS hl2)
theorem g_alenO {a N : Nat} {f : Nat → Value} {v : Int32} (hdg : decode M.2.1 pc = .ok (.arraylength, 1)) (hT : ∀ U, zE X U → va_T .byte a N f (zA X) U U.heap) (hv : Int32.ofNat N = v) (kk : G X M P kc ks (pc + 1) lv (.int v :: rest) ws) : G X M P kc ks pc lv (.ref a :: rest) ws := fun p e s m args below meth c H locs ls I hP hD hS hl2 =>
  va_tlen I.1 I.2.1 (hT s I.2.2.2.2.2.2.2.2.1) hS hv hdg (kk p e s m args below meth c H locs ls I hP hD hS hl2)
theorem g_baldO {a N : Nat} {f : Nat → Value} {v : Value} {i : Int32} (hdg : decode M.2.1 pc = .ok (.baload, 1)) (hT : ∀ U, zE X U → va_T .byte a N f (zA X) U U.heap) (hin : vp_in i N) (hv : f i.toNatClampNeg = v) (kk : G X M P kc ks (pc + 1) lv (v :: rest) ws) : G X M P kc ks pc lv (.int i :: .ref a :: rest) ws := fun p e s m args below meth c H locs ls I hP hD hS hl2 =>
  va_tb I.1 I.2.1 (hT s I.2.2.2.2.2.2.2.2.1) hS hin hv hdg (kk p e s m args below meth c H locs ls I hP hD hS hl2)
theorem g_ldcS {ix a : Nat} {tx : String} (hdg : decode M.2.1 pc = .ok (.ldc ix, 2)) (hR : ∀ U, zE X U → vk_R M.1 ix tx a U) (kk : G X M P kc ks (pc + 2) lv (.ref a :: rest) ws) : G X M P kc ks pc lv rest ws := fun p e s m args below meth c H locs ls I hP hD hS hl2 =>
  va_ldcS I.1 I.2.1 I.2.2.2.2.1 (hR s I.2.2.2.2.2.2.2.2.1) hdg (kk p e s m args below meth c H locs ls I hP hD hS hl2)
def zVs (y : MethodName) (M' : zM) (np : Nat) : Prop := zB0 y M' np ∧ Cond.instanceMethod y ∈ zW ∧ Cond.selects y.cls y y ∈ zW ∧ y.cls = "java/lang/String"
theorem g_callStr {y : MethodName} {M' : zM} {np ix fr mc ms b : Nat} (As : List Value) {ws' : va_W} {v : Option Value} (hX : zOK X) (hdg : decode M.2.1 pc = .ok (.invokevirtual ix, 3)) (hV : zVs y M' np) (hl : Cond.methodLink M.1 ix y ∈ zW) (hM : Con X y M' fr mc ms (.ref b :: As) ws (zRet ws' v)) (hb : ∀ U, zE X U → va_O "java/lang/String" b (zA X) U U.heap)
    (hn : As.length = np) (hR : fr + 1 ≤ P.1.frames ∧ 8 + (M'.2.2.1 + 11) + 64 * fr ≤ P.1.locals) (hf : kc + mc ≤ P.1.cells ∧ ks + ms ≤ P.1.slots) (hcat : (rest.map fun v => v.category).sum ≤ 8)
    (kk : G X M P (kc + mc) (ks + ms) (pc + 3) lv (v.toList ++ rest) ws') : G X M P kc ks pc lv (As.reverse ++ .ref b :: rest) ws := by
  intro p e s m args below meth c H locs ls I hP hD hS hl2
  obtain ⟨h0, h1, h2, h4⟩ := hV
  have hts := I.2.2.2.2.2.1
  refine z_run I hS hl2 (vx_runV (Ts := zW) (own := M.1) (C := y.cls) (nL := M.2.2.1) (As := As) ⟨I.1, I.2.1, I.2.2.2.1, I.2.2.2.2.1, hts⟩ hM ⟨zcb I h0 hl hR, hts _ h1, hts _ h2⟩ ⟨zB_blind hX, ?_, fun U hU hW => ⟨rfl, zB_at hX I hP hD hS U hU hW⟩⟩ rfl hn hl2.1 rfl (lv_room hcat) hdg hf) (fun w v2 h => by obtain ⟨h1, h2⟩ := h; cases h2; rw [h1]; exact kk) (fun w E h => by cases h.2)
  obtain ⟨cell, g1, g2, g3, -⟩ := (hb s I.2.2.2.2.2.2.2.2.1).kept hS.2.1
  exact ⟨cell, g1, g2, by rw [h4]; exact g3⟩
end ZSTR
theorem zSO_o {X : zX} {a : Nat} {w : List Int} (h : zSO X a w) : ∀ U, zE X U → va_O "java/lang/String" a (zA X) U U.heap := by
  obtain ⟨-, -, av, hz⟩ := h
  exact fun U hU => (hz U hU).1
theorem vs_coder : zVs yJ0_coder_7d493 mJ0_coder_7d493 0 := ⟨⟨rfl, rfl, by decide +kernel, by decide +kernel, ⟨by decide +kernel, by decide +kernel⟩, by decide +kernel⟩, by decide +kernel, by decide +kernel, rfl⟩
theorem vs_isLatin1 : zVs yJ0_isLatin1_aae02 mJ0_isLatin1_aae02 0 := ⟨⟨rfl, rfl, by decide +kernel, by decide +kernel, ⟨by decide +kernel, by decide +kernel⟩, by decide +kernel⟩, by decide +kernel, by decide +kernel, rfl⟩
theorem vs_length : zVs yJ0_length_8abf5 mJ0_length_8abf5 0 := ⟨⟨rfl, rfl, by decide +kernel, by decide +kernel, ⟨by decide +kernel, by decide +kernel⟩, by decide +kernel⟩, by decide +kernel, by decide +kernel, rfl⟩
theorem vs_charAt : zVs yJ0_charAt_5068e mJ0_charAt_5068e 1 := ⟨⟨rfl, rfl, by decide +kernel, by decide +kernel, ⟨by decide +kernel, by decide +kernel⟩, by decide +kernel⟩, by decide +kernel, by decide +kernel, rfl⟩
theorem kS_38 : Cond.fieldLink RJ0 38 "java/lang/String" "COMPACT_STRINGS" "Z" ∈ zW := by decide +kernel
theorem kS_15 : Cond.fieldLink RJ0 15 "java/lang/String" "coder" "B" ∈ zW := by decide +kernel
theorem kS_9 : Cond.fieldLink RJ0 9 "java/lang/String" "value" "[B" ∈ zW := by decide +kernel
theorem kS_1053 : Cond.fieldLink RJ0 1053 "jdk/internal/util/Preconditions" "SIOOBE_FORMATTER" "Ljava/util/function/BiFunction;" ∈ zW := by decide +kernel
theorem zNarC {b : Int} (h : 0 ≤ b ∧ b < 128) : narrow .char (.int (iI b)) = .int (iI b) := by
  have e : ((iI b).toUInt32 % 65536).toInt32 = iI b := by rw [iI_i2c, show b % 65536 = b by omega]
  exact congrArg Value.int e
theorem wJ3_checkIndex {X : zX} (hX : zOK2 X) {ws : va_W} {i n : Int} {v : Value} (hv : v = .null ∨ ∃ f, v = .ref f) (h0 : 0 ≤ i) (h1 : i < n) (h2 : n < 1000) : Con X yJ3_checkIndex_8e157 mJ3_checkIndex_8e157 0 0 0 [.int (iI i), .int (iI n), v] ws (zRet ws (some (.int (iI i)))) := by
  rcases hv with rfl | ⟨f, rfl⟩
  · refine con_of (lv := [(0, .int (iI i)), (1, .int (iI n)), (2, .null)]) (by decide) rfl (fun h => by cases h) rfl (Nat.le_of_ble_eq_true rfl) rfl ?_
    refine g_iload_n (M := mJ3_checkIndex_8e157) dJ3_checkIndex_8e157_0 0 rfl rfl ?_
    refine h_if_lt (M := mJ3_checkIndex_8e157) (tgt := 9) dJ3_checkIndex_8e157_1 (by decide) ⟨by omega, by omega⟩ (fun c => absurd c (by omega)) (fun c => ?_)
    refine g_iload_n (M := mJ3_checkIndex_8e157) dJ3_checkIndex_8e157_4 0 rfl rfl ?_
    refine g_iload_n (M := mJ3_checkIndex_8e157) dJ3_checkIndex_8e157_5 1 rfl rfl ?_
    refine h_icmp_lt (M := mJ3_checkIndex_8e157) (tgt := 16) dJ3_checkIndex_8e157_6 (by decide) ⟨by omega, by omega⟩ ⟨by omega, by omega⟩ (fun c => ?_) (fun c => absurd c (by omega))
    refine g_iload_n (M := mJ3_checkIndex_8e157) dJ3_checkIndex_8e157_16 0 rfl rfl ?_
    exact g_iret (M := mJ3_checkIndex_8e157) dJ3_checkIndex_8e157_17 rfl (Nat.le_of_ble_eq_true rfl) (Nat.le_of_ble_eq_true rfl) ⟨rfl, rfl⟩
  · refine con_of (lv := [(0, .int (iI i)), (1, .int (iI n)), (2, .ref f)]) (by decide) rfl (fun h => by cases h) rfl (Nat.le_of_ble_eq_true rfl) rfl ?_
    refine g_iload_n (M := mJ3_checkIndex_8e157) dJ3_checkIndex_8e157_0 0 rfl rfl ?_
    refine h_if_lt (M := mJ3_checkIndex_8e157) (tgt := 9) dJ3_checkIndex_8e157_1 (by decide) ⟨by omega, by omega⟩ (fun c => absurd c (by omega)) (fun c => ?_)
    refine g_iload_n (M := mJ3_checkIndex_8e157) dJ3_checkIndex_8e157_4 0 rfl rfl ?_
    refine g_iload_n (M := mJ3_checkIndex_8e157) dJ3_checkIndex_8e157_5 1 rfl rfl ?_
    refine h_icmp_lt (M := mJ3_checkIndex_8e157) (tgt := 16) dJ3_checkIndex_8e157_6 (by decide) ⟨by omega, by omega⟩ ⟨by omega, by omega⟩ (fun c => ?_) (fun c => absurd c (by omega))
    refine g_iload_n (M := mJ3_checkIndex_8e157) dJ3_checkIndex_8e157_16 0 rfl rfl ?_
    exact g_iret (M := mJ3_checkIndex_8e157) dJ3_checkIndex_8e157_17 rfl (Nat.le_of_ble_eq_true rfl) (Nat.le_of_ble_eq_true rfl) ⟨rfl, rfl⟩
theorem wJ0_checkIndex {X : zX} (hX : zOK2 X) {ws : va_W} {i n : Int} (h0 : 0 ≤ i) (h1 : i < n) (h2 : n < 1000) : Con X yJ0_checkIndex_df160 mJ0_checkIndex_df160 1 0 0 [.int (iI i), .int (iI n)] ws (zRet ws none) := by
  refine con_of (lv := [(0, .int (iI i)), (1, .int (iI n))]) (by decide) rfl (fun h => by cases h) rfl (Nat.le_of_ble_eq_true rfl) rfl ?_
  obtain ⟨v, hv, hf⟩ := hX.2.2.1
  refine g_iload_n (M := mJ0_checkIndex_df160) dJ0_checkIndex_df160_0 0 rfl rfl ?_
  refine g_iload_n (M := mJ0_checkIndex_df160) dJ0_checkIndex_df160_1 1 rfl rfl ?_
  refine g_gets (M := mJ0_checkIndex_df160) dJ0_checkIndex_df160_2 hf kS_1053 ?_
  refine g_callSr (M := mJ0_checkIndex_df160) [.int (iI i), .int (iI n), v] hX.1 dJ0_checkIndex_df160_5 vJ3_checkIndex_8e157 kM_J0_1059 (wJ3_checkIndex hX hv h0 h1 h2) rfl ⟨(Nat.le_of_ble_eq_true rfl), (Nat.le_of_ble_eq_true rfl)⟩ ⟨(Nat.le_of_ble_eq_true rfl), (Nat.le_of_ble_eq_true rfl)⟩ (Nat.le_of_ble_eq_true rfl) ?_
  refine g_pop (M := mJ0_checkIndex_df160) dJ0_checkIndex_df160_8 rfl ?_
  exact g_vret (M := mJ0_checkIndex_df160) dJ0_checkIndex_df160_9 rfl (Nat.le_of_ble_eq_true rfl) (Nat.le_of_ble_eq_true rfl) ⟨rfl, rfl⟩
theorem wJ1_charAt {X : zX} (hX : zOK2 X) {ws : va_W} {i : Int} {w : List Int} {av : Nat} (h0 : 0 ≤ i) (h1 : i < w.length) (h2 : w.length < 1000) (h3 : ∀ b ∈ w, 0 ≤ b ∧ b < 128) (hT : ∀ U, zE X U → va_T .byte av w.length (fun j => .int (iI (w.getD j 0))) (zA X) U U.heap) : Con X yJ1_charAt_3b067 mJ1_charAt_3b067 2 0 0 [.ref av, .int (iI i)] ws (zRet ws (some (.int (iI (w.getD i.toNat 0))))) := by
  refine con_of (lv := [(0, .ref av), (1, .int (iI i))]) (by decide) rfl (fun h => by cases h) rfl (Nat.le_of_ble_eq_true rfl) rfl ?_
  have hi : (iI i).toNatClampNeg = i.toNat := by have := iI_idx h0 (show i < 2147483648 by omega); omega
  have hb : 0 ≤ w.getD i.toNat 0 ∧ w.getD i.toNat 0 < 128 := by
    have hl : i.toNat < w.length := by omega
    rw [List.getD_eq_getElem?_getD, List.getElem?_eq_getElem hl]
    exact h3 _ (List.getElem_mem hl)
  refine g_iload_n (M := mJ1_charAt_3b067) dJ1_charAt_3b067_0 1 rfl rfl ?_
  refine g_aload_n (M := mJ1_charAt_3b067) dJ1_charAt_3b067_1 0 rfl rfl ?_
  refine g_alenO (M := mJ1_charAt_3b067) (v := iI (w.length : Int)) dJ1_charAt_3b067_2 hT rfl ?_
  refine g_callSr (M := mJ1_charAt_3b067) [.int (iI i), .int (iI (w.length : Int))] hX.1 dJ1_charAt_3b067_3 vJ0_checkIndex_df160 kM_J1_9 (wJ0_checkIndex hX h0 h1 (by omega)) rfl ⟨(Nat.le_of_ble_eq_true rfl), (Nat.le_of_ble_eq_true rfl)⟩ ⟨(Nat.le_of_ble_eq_true rfl), (Nat.le_of_ble_eq_true rfl)⟩ (Nat.le_of_ble_eq_true rfl) ?_
  refine g_aload_n (M := mJ1_charAt_3b067) dJ1_charAt_3b067_6 0 rfl rfl ?_
  refine g_iload_n (M := mJ1_charAt_3b067) dJ1_charAt_3b067_7 1 rfl rfl ?_
  refine g_baldO (M := mJ1_charAt_3b067) (v := .int (iI (w.getD i.toNat 0))) dJ1_charAt_3b067_8 hT (iI_in h0 h1 (by omega)) (by rw [hi]) ?_
  refine h_sipush (M := mJ1_charAt_3b067) dJ1_charAt_3b067_9 rfl ?_
  refine g_iand (M := mJ1_charAt_3b067) dJ1_charAt_3b067_12 ?_
  refine h_topx (M := mJ1_charAt_3b067) (b := w.getD i.toNat 0 % 256) (iI_mask _ 8 (by decide)) ?_
  refine g_i2c (M := mJ1_charAt_3b067) dJ1_charAt_3b067_13 rfl ?_
  refine h_topx (M := mJ1_charAt_3b067) (b := w.getD i.toNat 0 % 256 % 65536) (iI_i2c _) ?_
  refine h_top (M := mJ1_charAt_3b067) (b := w.getD i.toNat 0) (by omega) ?_
  exact g_zret (M := mJ1_charAt_3b067) .char dJ1_charAt_3b067_14 rfl (zNarC hb) (Nat.le_of_ble_eq_true rfl) (Nat.le_of_ble_eq_true rfl) ⟨rfl, rfl⟩
theorem wJ0_coder {X : zX} (hX : zOK2 X) {ws : va_W} {a : Nat} {w : List Int} (hz : zSO X a w) : Con X yJ0_coder_7d493 mJ0_coder_7d493 0 0 0 [.ref a] ws (zRet ws (some (.int (iI 0)))) := by
  refine con_of (lv := [(0, .ref a)]) (by decide) rfl (fun h => by cases h) rfl (Nat.le_of_ble_eq_true rfl) rfl ?_
  obtain ⟨-, -, av, hz⟩ := hz
  refine g_gets (M := mJ0_coder_7d493) dJ0_coder_7d493_0 hX.2.1 kS_38 ?_
  refine h_if_eq (M := mJ0_coder_7d493) (tgt := 13) dJ0_coder_7d493_3 (by decide) (by decide) (fun c => absurd c (by decide)) (fun c => ?_)
  refine g_aload_n (M := mJ0_coder_7d493) dJ0_coder_7d493_6 0 rfl rfl ?_
  refine g_getO (M := mJ0_coder_7d493) dJ0_coder_7d493_7 (fun U hU => (hz U hU).2.1) kS_15 ?_
  refine g_goto (M := mJ0_coder_7d493) (tgt := 14) dJ0_coder_7d493_10 (by decide) ?_
  exact g_zret (M := mJ0_coder_7d493) .byte dJ0_coder_7d493_14 rfl rfl (Nat.le_of_ble_eq_true rfl) (Nat.le_of_ble_eq_true rfl) ⟨rfl, rfl⟩
theorem wJ0_isLatin1 {X : zX} (hX : zOK2 X) {ws : va_W} {a : Nat} {w : List Int} (hz : zSO X a w) : Con X yJ0_isLatin1_aae02 mJ0_isLatin1_aae02 0 0 0 [.ref a] ws (zRet ws (some (.int (iI 1)))) := by
  refine con_of (lv := [(0, .ref a)]) (by decide) rfl (fun h => by cases h) rfl (Nat.le_of_ble_eq_true rfl) rfl ?_
  obtain ⟨-, -, av, hz⟩ := hz
  refine g_gets (M := mJ0_isLatin1_aae02) dJ0_isLatin1_aae02_0 hX.2.1 kS_38 ?_
  refine h_if_eq (M := mJ0_isLatin1_aae02) (tgt := 17) dJ0_isLatin1_aae02_3 (by decide) (by decide) (fun c => absurd c (by decide)) (fun c => ?_)
  refine g_aload_n (M := mJ0_isLatin1_aae02) dJ0_isLatin1_aae02_6 0 rfl rfl ?_
  refine g_getO (M := mJ0_isLatin1_aae02) dJ0_isLatin1_aae02_7 (fun U hU => (hz U hU).2.1) kS_15 ?_
  refine h_if_ne (M := mJ0_isLatin1_aae02) (tgt := 17) dJ0_isLatin1_aae02_10 (by decide) (by decide) (fun c => absurd rfl c) (fun c => ?_)
  refine h_iconst (M := mJ0_isLatin1_aae02) dJ0_isLatin1_aae02_13 ?_
  refine g_goto (M := mJ0_isLatin1_aae02) (tgt := 18) dJ0_isLatin1_aae02_14 (by decide) ?_
  exact g_zret (M := mJ0_isLatin1_aae02) .boolean dJ0_isLatin1_aae02_18 rfl rfl (Nat.le_of_ble_eq_true rfl) (Nat.le_of_ble_eq_true rfl) ⟨rfl, rfl⟩
theorem wJ0_length {X : zX} (hX : zOK2 X) {ws : va_W} {a : Nat} {w : List Int} (hz : zSO X a w) : Con X yJ0_length_8abf5 mJ0_length_8abf5 1 0 0 [.ref a] ws (zRet ws (some (.int (iI (w.length : Int))))) := by
  refine con_of (lv := [(0, .ref a)]) (by decide) rfl (fun h => by cases h) rfl (Nat.le_of_ble_eq_true rfl) rfl ?_
  have hz0 := hz
  obtain ⟨hl, -, av, hz⟩ := hz
  refine g_aload_n (M := mJ0_length_8abf5) dJ0_length_8abf5_0 0 rfl rfl ?_
  refine g_getO (M := mJ0_length_8abf5) dJ0_length_8abf5_1 (fun U hU => (hz U hU).2.2.1) kS_9 ?_
  refine g_alenO (M := mJ0_length_8abf5) (v := iI (w.length : Int)) dJ0_length_8abf5_4 (fun U hU => (hz U hU).2.2.2) rfl ?_
  refine g_aload_n (M := mJ0_length_8abf5) dJ0_length_8abf5_5 0 rfl rfl ?_
  refine g_callStr (M := mJ0_length_8abf5) [] hX.1 dJ0_length_8abf5_6 vs_coder kM_J0_335 (wJ0_coder hX hz0) (fun U hU => (hz U hU).1) rfl ⟨(Nat.le_of_ble_eq_true rfl), (Nat.le_of_ble_eq_true rfl)⟩ ⟨(Nat.le_of_ble_eq_true rfl), (Nat.le_of_ble_eq_true rfl)⟩ (Nat.le_of_ble_eq_true rfl) ?_
  refine g_ishr (M := mJ0_length_8abf5) dJ0_length_8abf5_9 ?_
  refine h_topx (M := mJ0_length_8abf5) (b := (w.length : Int) / zP2 0) (iI_shr ⟨by omega, by omega⟩ ⟨by decide, by decide⟩) ?_
  refine h_top (M := mJ0_length_8abf5) (b := (w.length : Int)) (by rw [show zP2 0 = 1 from rfl, Int.ediv_one]) ?_
  exact g_iret (M := mJ0_length_8abf5) dJ0_length_8abf5_10 rfl (Nat.le_of_ble_eq_true rfl) (Nat.le_of_ble_eq_true rfl) ⟨rfl, rfl⟩
theorem wJ0_charAt {X : zX} (hX : zOK2 X) {ws : va_W} {a : Nat} {w : List Int} (hz : zSO X a w) {i : Int} (h0 : 0 ≤ i) (h1 : i < w.length) : Con X yJ0_charAt_5068e mJ0_charAt_5068e 3 0 0 [.ref a, .int (iI i)] ws (zRet ws (some (.int (iI (w.getD i.toNat 0))))) := by
  refine con_of (lv := [(0, .ref a), (1, .int (iI i))]) (by decide) rfl (fun h => by cases h) rfl (Nat.le_of_ble_eq_true rfl) rfl ?_
  have hz0 := hz
  obtain ⟨hl, hb, av, hz⟩ := hz
  have hbb : 0 ≤ w.getD i.toNat 0 ∧ w.getD i.toNat 0 < 128 := by
    have hl : i.toNat < w.length := by omega
    rw [List.getD_eq_getElem?_getD, List.getElem?_eq_getElem hl]
    exact hb _ (List.getElem_mem hl)
  refine g_aload_n (M := mJ0_charAt_5068e) dJ0_charAt_5068e_0 0 rfl rfl ?_
  refine g_callStr (M := mJ0_charAt_5068e) [] hX.1 dJ0_charAt_5068e_1 vs_isLatin1 kM_J0_492 (wJ0_isLatin1 hX hz0) (fun U hU => (hz U hU).1) rfl ⟨(Nat.le_of_ble_eq_true rfl), (Nat.le_of_ble_eq_true rfl)⟩ ⟨(Nat.le_of_ble_eq_true rfl), (Nat.le_of_ble_eq_true rfl)⟩ (Nat.le_of_ble_eq_true rfl) ?_
  refine h_if_eq (M := mJ0_charAt_5068e) (tgt := 16) dJ0_charAt_5068e_4 (by decide) (by decide) (fun c => absurd c (by decide)) (fun c => ?_)
  refine g_aload_n (M := mJ0_charAt_5068e) dJ0_charAt_5068e_7 0 rfl rfl ?_
  refine g_getO (M := mJ0_charAt_5068e) dJ0_charAt_5068e_8 (fun U hU => (hz U hU).2.2.1) kS_9 ?_
  refine g_iload_n (M := mJ0_charAt_5068e) dJ0_charAt_5068e_11 1 rfl rfl ?_
  refine g_callSr (M := mJ0_charAt_5068e) [.ref av, .int (iI i)] hX.1 dJ0_charAt_5068e_12 vJ1_charAt_3b067 kM_J0_495 (wJ1_charAt hX h0 h1 hl hb (fun U hU => (hz U hU).2.2.2)) rfl ⟨(Nat.le_of_ble_eq_true rfl), (Nat.le_of_ble_eq_true rfl)⟩ ⟨(Nat.le_of_ble_eq_true rfl), (Nat.le_of_ble_eq_true rfl)⟩ (Nat.le_of_ble_eq_true rfl) ?_
  exact g_zret (M := mJ0_charAt_5068e) .char dJ0_charAt_5068e_15 rfl (zNarC hbb) (Nat.le_of_ble_eq_true rfl) (Nat.le_of_ble_eq_true rfl) ⟨rfl, rfl⟩
