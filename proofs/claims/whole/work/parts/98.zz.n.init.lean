section ZIN
/-- a block of cells: an object and its arrays; what a constructor leaves behind the world it found -/
def zS0 : Nat → va_E := fun _ => .inr (0, [])
def zBk (X : zX) (sh : Sh) (V : CV) (ps : Nat → Nat) : va_W := zWs ps (sh.2.2.length + 1) (zC X ps sh 0 V zS0)
def zIq (X : zX) (W : va_W) (a : Nat) (sh : Sh) (V : CV) : va_W → zO → Prop := fun w o => o = .inl none ∧ ∃ ps : Nat → Nat, ps 0 = a ∧ w = W ++ zBk X sh V ps
theorem zBk_of {X : zX} {sh : Sh} {V : CV} {ps : Nat → Nat} {L : va_W} (h0 : L.length = sh.2.2.length + 1) (h : ∀ k, k < sh.2.2.length + 1 → L[k]? = some (ps k, zC X ps sh 0 V zS0 k)) : L = zBk X sh V ps := by
  apply List.ext_getElem?
  intro k
  by_cases hk : k < sh.2.2.length + 1
  · rw [h k hk]
    exact (zWs_at hk rfl).symm
  · rw [List.getElem?_eq_none (by omega), List.getElem?_eq_none (by unfold zBk zWs; simp; omega)]
def zGp (l : List Nat) : Nat → Nat := fun k => l.getD k 0
def zV0 : CV := (fun _ => 0, fun _ _ => 0)
def zV0B : CV := (fun k => if k = 0 then 4 else if k = 1 then 3 else if k = 2 then 1 else 0, fun _ _ => 0)
def zV0T : CV := (fun k => if k = 7 then -1 else 0, fun _ _ => 0)
def zV0M : CV := (fun k => if k = 10 then -1 else if k = 12 then -1 else 0, fun _ _ => 0)
variable {X : zX} {M : zM} {P : zP} {kc ks pc : Nat} {lv : List (Nat × Value)} {rest : List Value} {ws W l : va_W}
theorem o_put {a ci fi ix : Nat} {ty : FieldType} {fs fs' : List Value} {v : Value} (hdg : decode M.2.1 pc = .ok (.putfield ix, 3)) (hF : zF M.1 ix ci fi ty false) (hw : ws = W ++ (a, .inr (ci, fs)) :: l) (hn : narrow ty v = v) (hf : fits ty v = true) (hlt : fi < fs.length) (hfs : fs.set fi v = fs') (kk : G X M P kc ks (pc + 3) lv rest (W ++ (a, .inr (ci, fs')) :: l)) : G X M P kc ks pc lv (v :: .ref a :: rest) ws := by
  subst hw
  subst hfs
  refine g_put hdg hF W.length (by rw [List.getElem?_append_right (Nat.le_refl _), Nat.sub_self]; rfl) hn hf hlt ?_
  rw [List.set_append_right _ _ (Nat.le_refl _), Nat.sub_self]
  exact kk
theorem o_putF {a ci fi ix : Nat} {ty : FieldType} {fs fs' : List Value} {v : Value} (hdg : decode M.2.1 pc = .ok (.putfield ix, 3)) (hF : zF M.1 ix ci fi ty true) (hM : M.2.2.2.2.2 = true) (hw : ws = W ++ (a, .inr (ci, fs)) :: l) (hn : narrow ty v = v) (hf : fits ty v = true) (hlt : fi < fs.length) (hfs : fs.set fi v = fs') (kk : G X M P kc ks (pc + 3) lv rest (W ++ (a, .inr (ci, fs')) :: l)) : G X M P kc ks pc lv (v :: .ref a :: rest) ws := by
  subst hw
  subst hfs
  refine g_putF hdg hF hM W.length (by rw [List.getElem?_append_right (Nat.le_refl _), Nat.sub_self]; rfl) hn hf hlt ?_
  rw [List.set_append_right _ _ (Nat.le_refl _), Nat.sub_self]
  exact kk
theorem o_newI {len : Nat} {z : Int} {x : Nat × va_E} {l' : Nat → va_W} (hdg : decode M.2.1 pc = .ok (.newarray .int, 2)) (h0 : ¬ iI z < 0) (hn : (iI z).toNatClampNeg = len) (hlen : len ≤ 100000) (hc : kc + 1 ≤ P.1.cells) (hs : ks + len ≤ P.1.slots) (hl : ∀ q : Nat, l ++ [(q, zArr X (0, len) (fun _ => 0))] = l' q) (kk : ∀ q : Nat, G X M P (kc + 1) (ks + len) (pc + 2) lv (.ref q :: rest) (W ++ x :: l' q)) : G X M P kc ks pc lv (.int (iI z) :: rest) (W ++ x :: l) :=
  g_newI hdg kZ_arr_int h0 hn hlen hc hs (fun q => by rw [zArr_0I, List.append_assoc, List.cons_append, hl]; exact kk q)
theorem o_newL {len : Nat} {z : Int} {x : Nat × va_E} {l' : Nat → va_W} (hdg : decode M.2.1 pc = .ok (.newarray .long, 2)) (h0 : ¬ iI z < 0) (hn : (iI z).toNatClampNeg = len) (hlen : len ≤ 100000) (hc : kc + 1 ≤ P.1.cells) (hs : ks + len ≤ P.1.slots) (hl : ∀ q : Nat, l ++ [(q, zArr X (1, len) (fun _ => 0))] = l' q) (kk : ∀ q : Nat, G X M P (kc + 1) (ks + len) (pc + 2) lv (.ref q :: rest) (W ++ x :: l' q)) : G X M P kc ks pc lv (.int (iI z) :: rest) (W ++ x :: l) :=
  g_newL hdg kZ_arr_long h0 hn hlen hc hs (fun q => by rw [zArr_0L, List.append_assoc, List.cons_append, hl]; exact kk q)
theorem o_newB {len : Nat} {z : Int} {x : Nat × va_E} {l' : Nat → va_W} (hdg : decode M.2.1 pc = .ok (.newarray .byte, 2)) (h0 : ¬ iI z < 0) (hn : (iI z).toNatClampNeg = len) (hlen : len ≤ 100000) (hc : kc + 1 ≤ P.1.cells) (hs : ks + len ≤ P.1.slots) (hl : ∀ q : Nat, l ++ [(q, zArr X (2, len) (fun _ => 0))] = l' q) (kk : ∀ q : Nat, G X M P (kc + 1) (ks + len) (pc + 2) lv (.ref q :: rest) (W ++ x :: l' q)) : G X M P kc ks pc lv (.int (iI z) :: rest) (W ++ x :: l) :=
  g_newB hdg kZ_arr_byte h0 hn hlen hc hs (fun q => by rw [zArr_0B, List.append_assoc, List.cons_append, hl]; exact kk q)
end ZIN
set_option maxHeartbeats 4000000 in
set_option maxRecDepth 100000 in
theorem wX0_init {X : zX} {W : va_W} {a : Nat} : Con X yX0_init mX0_init 1 6 56 [.ref a] (W ++ [(a, .inr (0, [.int 0, .int 0, .int 0, .int 0, .int 0, .int 0, .null, .null, .null, .null, .null, .null]))]) (zIq X W a shB zV0B) := by
  refine con_of (lv := [(0, .ref a)]) (by decide) rfl (fun _ => rfl) rfl (Nat.le_of_ble_eq_true rfl) rfl ?_
  refine g_aload_n (M := mX0_init) dX0_init_0 0 rfl rfl ?_
  refine g_objInit (M := mX0_init) dX0_init_1 kM_X0_3 kZ_objI kZ_objC (Nat.le_of_ble_eq_true rfl) (Nat.le_of_ble_eq_true rfl) ?_
  refine g_aload_n (M := mX0_init) dX0_init_4 0 rfl rfl ?_
  refine h_iconst (M := mX0_init) dX0_init_5 ?_
  refine o_put (M := mX0_init) (fs' := [.int (iI (4)), .int 0, .int 0, .int 0, .int 0, .int 0, .null, .null, .null, .null, .null, .null]) dX0_init_6 kF_X0_9 rfl rfl rfl (Nat.le_of_ble_eq_true rfl) rfl ?_
  refine g_aload_n (M := mX0_init) dX0_init_9 0 rfl rfl ?_
  refine h_iconst (M := mX0_init) dX0_init_10 ?_
  refine o_put (M := mX0_init) (fs' := [.int (iI (4)), .int (iI (3)), .int 0, .int 0, .int 0, .int 0, .null, .null, .null, .null, .null, .null]) dX0_init_11 kF_X0_15 rfl rfl rfl (Nat.le_of_ble_eq_true rfl) rfl ?_
  refine g_aload_n (M := mX0_init) dX0_init_14 0 rfl rfl ?_
  refine h_iconst (M := mX0_init) dX0_init_15 ?_
  refine o_put (M := mX0_init) (fs' := [.int (iI (4)), .int (iI (3)), .int (iI (1)), .int 0, .int 0, .int 0, .null, .null, .null, .null, .null, .null]) dX0_init_16 kF_X0_18 rfl rfl rfl (Nat.le_of_ble_eq_true rfl) rfl ?_
  refine g_aload_n (M := mX0_init) dX0_init_19 0 rfl rfl ?_
  refine h_bipush (M := mX0_init) dX0_init_20 rfl ?_
  refine o_newL (M := mX0_init) (len := 10) (l' := fun qq => [(qq, zArr X (1, 10) (fun _ => 0))]) dX0_init_22 (by decide) (by decide) (Nat.le_of_ble_eq_true rfl) (Nat.le_of_ble_eq_true rfl) (Nat.le_of_ble_eq_true rfl) (fun _ => rfl) (fun q1 => ?_)
  refine o_putF (M := mX0_init) (fs' := [.int (iI (4)), .int (iI (3)), .int (iI (1)), .int 0, .int 0, .int 0, .ref q1, .null, .null, .null, .null, .null]) dX0_init_24 kF_X0_21 rfl rfl rfl rfl (Nat.le_of_ble_eq_true rfl) rfl ?_
  refine g_aload_n (M := mX0_init) dX0_init_27 0 rfl rfl ?_
  refine h_bipush (M := mX0_init) dX0_init_28 rfl ?_
  refine o_newL (M := mX0_init) (len := 10) (l' := fun qq => [(q1, zArr X (1, 10) (fun _ => 0)), (qq, zArr X (1, 10) (fun _ => 0))]) dX0_init_30 (by decide) (by decide) (Nat.le_of_ble_eq_true rfl) (Nat.le_of_ble_eq_true rfl) (Nat.le_of_ble_eq_true rfl) (fun _ => rfl) (fun q2 => ?_)
  refine o_putF (M := mX0_init) (fs' := [.int (iI (4)), .int (iI (3)), .int (iI (1)), .int 0, .int 0, .int 0, .ref q1, .ref q2, .null, .null, .null, .null]) dX0_init_32 kF_X0_25 rfl rfl rfl rfl (Nat.le_of_ble_eq_true rfl) rfl ?_
  refine g_aload_n (M := mX0_init) dX0_init_35 0 rfl rfl ?_
  refine h_bipush (M := mX0_init) dX0_init_36 rfl ?_
  refine o_newI (M := mX0_init) (len := 10) (l' := fun qq => [(q1, zArr X (1, 10) (fun _ => 0)), (q2, zArr X (1, 10) (fun _ => 0)), (qq, zArr X (0, 10) (fun _ => 0))]) dX0_init_38 (by decide) (by decide) (Nat.le_of_ble_eq_true rfl) (Nat.le_of_ble_eq_true rfl) (Nat.le_of_ble_eq_true rfl) (fun _ => rfl) (fun q3 => ?_)
  refine o_putF (M := mX0_init) (fs' := [.int (iI (4)), .int (iI (3)), .int (iI (1)), .int 0, .int 0, .int 0, .ref q1, .ref q2, .ref q3, .null, .null, .null]) dX0_init_40 kF_X0_28 rfl rfl rfl rfl (Nat.le_of_ble_eq_true rfl) rfl ?_
  refine g_aload_n (M := mX0_init) dX0_init_43 0 rfl rfl ?_
  refine h_bipush (M := mX0_init) dX0_init_44 rfl ?_
  refine o_newI (M := mX0_init) (len := 10) (l' := fun qq => [(q1, zArr X (1, 10) (fun _ => 0)), (q2, zArr X (1, 10) (fun _ => 0)), (q3, zArr X (0, 10) (fun _ => 0)), (qq, zArr X (0, 10) (fun _ => 0))]) dX0_init_46 (by decide) (by decide) (Nat.le_of_ble_eq_true rfl) (Nat.le_of_ble_eq_true rfl) (Nat.le_of_ble_eq_true rfl) (fun _ => rfl) (fun q4 => ?_)
  refine o_putF (M := mX0_init) (fs' := [.int (iI (4)), .int (iI (3)), .int (iI (1)), .int 0, .int 0, .int 0, .ref q1, .ref q2, .ref q3, .ref q4, .null, .null]) dX0_init_48 kF_X0_32 rfl rfl rfl rfl (Nat.le_of_ble_eq_true rfl) rfl ?_
  refine g_aload_n (M := mX0_init) dX0_init_51 0 rfl rfl ?_
  refine h_bipush (M := mX0_init) dX0_init_52 rfl ?_
  refine o_newI (M := mX0_init) (len := 10) (l' := fun qq => [(q1, zArr X (1, 10) (fun _ => 0)), (q2, zArr X (1, 10) (fun _ => 0)), (q3, zArr X (0, 10) (fun _ => 0)), (q4, zArr X (0, 10) (fun _ => 0)), (qq, zArr X (0, 10) (fun _ => 0))]) dX0_init_54 (by decide) (by decide) (Nat.le_of_ble_eq_true rfl) (Nat.le_of_ble_eq_true rfl) (Nat.le_of_ble_eq_true rfl) (fun _ => rfl) (fun q5 => ?_)
  refine o_putF (M := mX0_init) (fs' := [.int (iI (4)), .int (iI (3)), .int (iI (1)), .int 0, .int 0, .int 0, .ref q1, .ref q2, .ref q3, .ref q4, .ref q5, .null]) dX0_init_56 kF_X0_35 rfl rfl rfl rfl (Nat.le_of_ble_eq_true rfl) rfl ?_
  refine g_aload_n (M := mX0_init) dX0_init_59 0 rfl rfl ?_
  refine h_bipush (M := mX0_init) dX0_init_60 rfl ?_
  refine o_newI (M := mX0_init) (len := 6) (l' := fun qq => [(q1, zArr X (1, 10) (fun _ => 0)), (q2, zArr X (1, 10) (fun _ => 0)), (q3, zArr X (0, 10) (fun _ => 0)), (q4, zArr X (0, 10) (fun _ => 0)), (q5, zArr X (0, 10) (fun _ => 0)), (qq, zArr X (0, 6) (fun _ => 0))]) dX0_init_62 (by decide) (by decide) (Nat.le_of_ble_eq_true rfl) (Nat.le_of_ble_eq_true rfl) (Nat.le_of_ble_eq_true rfl) (fun _ => rfl) (fun q6 => ?_)
  refine o_putF (M := mX0_init) (fs' := [.int (iI (4)), .int (iI (3)), .int (iI (1)), .int 0, .int 0, .int 0, .ref q1, .ref q2, .ref q3, .ref q4, .ref q5, .ref q6]) dX0_init_64 kF_X0_38 rfl rfl rfl rfl (Nat.le_of_ble_eq_true rfl) rfl ?_
  exact g_vret (M := mX0_init) dX0_init_67 rfl (Nat.le_of_ble_eq_true rfl) (Nat.le_of_ble_eq_true rfl) ⟨rfl, zGp [a, q1, q2, q3, q4, q5, q6], rfl, congrArg (W ++ ·) (zBk_of rfl (fun k hk => match k, hk with | 0, _ => rfl | 1, _ => rfl | 2, _ => rfl | 3, _ => rfl | 4, _ => rfl | 5, _ => rfl | 6, _ => rfl | k + 7, h => absurd h (by show ¬ k + 7 < 7; omega)))⟩
set_option maxHeartbeats 4000000 in
set_option maxRecDepth 100000 in
theorem wX1_init {X : zX} {W : va_W} {a : Nat} : Con X yX1_init mX1_init 1 1 24 [.ref a] (W ++ [(a, .inr (1, [.null, .int 0, .int 0]))]) (zIq X W a shP zV0) := by
  refine con_of (lv := [(0, .ref a)]) (by decide) rfl (fun _ => rfl) rfl (Nat.le_of_ble_eq_true rfl) rfl ?_
  refine g_aload_n (M := mX1_init) dX1_init_0 0 rfl rfl ?_
  refine g_objInit (M := mX1_init) dX1_init_1 kM_X1_3 kZ_objI kZ_objC (Nat.le_of_ble_eq_true rfl) (Nat.le_of_ble_eq_true rfl) ?_
  refine g_aload_n (M := mX1_init) dX1_init_4 0 rfl rfl ?_
  refine h_bipush (M := mX1_init) dX1_init_5 rfl ?_
  refine o_newI (M := mX1_init) (len := 24) (l' := fun qq => [(qq, zArr X (0, 24) (fun _ => 0))]) dX1_init_7 (by decide) (by decide) (Nat.le_of_ble_eq_true rfl) (Nat.le_of_ble_eq_true rfl) (Nat.le_of_ble_eq_true rfl) (fun _ => rfl) (fun q1 => ?_)
  refine o_putF (M := mX1_init) (fs' := [.ref q1, .int 0, .int 0]) dX1_init_9 kF_X1_9 rfl rfl rfl rfl (Nat.le_of_ble_eq_true rfl) rfl ?_
  exact g_vret (M := mX1_init) dX1_init_12 rfl (Nat.le_of_ble_eq_true rfl) (Nat.le_of_ble_eq_true rfl) ⟨rfl, zGp [a, q1], rfl, congrArg (W ++ ·) (zBk_of rfl (fun k hk => match k, hk with | 0, _ => rfl | 1, _ => rfl | k + 2, h => absurd h (by show ¬ k + 2 < 2; omega)))⟩
set_option maxHeartbeats 4000000 in
set_option maxRecDepth 100000 in
theorem wX2_init {X : zX} {W : va_W} {a : Nat} : Con X yX2_init mX2_init 1 5 122 [.ref a] (W ++ [(a, .inr (2, [.null, .null, .null, .int 0, .null, .null, .int 0]))]) (zIq X W a shSc zV0) := by
  refine con_of (lv := [(0, .ref a)]) (by decide) rfl (fun _ => rfl) rfl (Nat.le_of_ble_eq_true rfl) rfl ?_
  refine g_aload_n (M := mX2_init) dX2_init_0 0 rfl rfl ?_
  refine g_objInit (M := mX2_init) dX2_init_1 kM_X2_3 kZ_objI kZ_objC (Nat.le_of_ble_eq_true rfl) (Nat.le_of_ble_eq_true rfl) ?_
  refine g_aload_n (M := mX2_init) dX2_init_4 0 rfl rfl ?_
  refine h_bipush (M := mX2_init) dX2_init_5 rfl ?_
  refine o_newI (M := mX2_init) (len := 30) (l' := fun qq => [(qq, zArr X (0, 30) (fun _ => 0))]) dX2_init_7 (by decide) (by decide) (Nat.le_of_ble_eq_true rfl) (Nat.le_of_ble_eq_true rfl) (Nat.le_of_ble_eq_true rfl) (fun _ => rfl) (fun q1 => ?_)
  refine o_putF (M := mX2_init) (fs' := [.ref q1, .null, .null, .int 0, .null, .null, .int 0]) dX2_init_9 kF_X2_11 rfl rfl rfl rfl (Nat.le_of_ble_eq_true rfl) rfl ?_
  refine g_aload_n (M := mX2_init) dX2_init_12 0 rfl rfl ?_
  refine h_bipush (M := mX2_init) dX2_init_13 rfl ?_
  refine o_newI (M := mX2_init) (len := 30) (l' := fun qq => [(q1, zArr X (0, 30) (fun _ => 0)), (qq, zArr X (0, 30) (fun _ => 0))]) dX2_init_15 (by decide) (by decide) (Nat.le_of_ble_eq_true rfl) (Nat.le_of_ble_eq_true rfl) (Nat.le_of_ble_eq_true rfl) (fun _ => rfl) (fun q2 => ?_)
  refine o_putF (M := mX2_init) (fs' := [.ref q1, .ref q2, .null, .int 0, .null, .null, .int 0]) dX2_init_17 kF_X2_15 rfl rfl rfl rfl (Nat.le_of_ble_eq_true rfl) rfl ?_
  refine g_aload_n (M := mX2_init) dX2_init_20 0 rfl rfl ?_
  refine h_bipush (M := mX2_init) dX2_init_21 rfl ?_
  refine o_newI (M := mX2_init) (len := 30) (l' := fun qq => [(q1, zArr X (0, 30) (fun _ => 0)), (q2, zArr X (0, 30) (fun _ => 0)), (qq, zArr X (0, 30) (fun _ => 0))]) dX2_init_23 (by decide) (by decide) (Nat.le_of_ble_eq_true rfl) (Nat.le_of_ble_eq_true rfl) (Nat.le_of_ble_eq_true rfl) (fun _ => rfl) (fun q3 => ?_)
  refine o_putF (M := mX2_init) (fs' := [.ref q1, .ref q2, .ref q3, .int 0, .null, .null, .int 0]) dX2_init_25 kF_X2_18 rfl rfl rfl rfl (Nat.le_of_ble_eq_true rfl) rfl ?_
  refine g_aload_n (M := mX2_init) dX2_init_28 0 rfl rfl ?_
  refine h_bipush (M := mX2_init) dX2_init_29 rfl ?_
  refine o_newI (M := mX2_init) (len := 30) (l' := fun qq => [(q1, zArr X (0, 30) (fun _ => 0)), (q2, zArr X (0, 30) (fun _ => 0)), (q3, zArr X (0, 30) (fun _ => 0)), (qq, zArr X (0, 30) (fun _ => 0))]) dX2_init_31 (by decide) (by decide) (Nat.le_of_ble_eq_true rfl) (Nat.le_of_ble_eq_true rfl) (Nat.le_of_ble_eq_true rfl) (fun _ => rfl) (fun q4 => ?_)
  refine o_putF (M := mX2_init) (fs' := [.ref q1, .ref q2, .ref q3, .int 0, .ref q4, .null, .int 0]) dX2_init_33 kF_X2_21 rfl rfl rfl rfl (Nat.le_of_ble_eq_true rfl) rfl ?_
  refine g_aload_n (M := mX2_init) dX2_init_36 0 rfl rfl ?_
  refine h_iconst (M := mX2_init) dX2_init_37 ?_
  refine o_newI (M := mX2_init) (len := 2) (l' := fun qq => [(q1, zArr X (0, 30) (fun _ => 0)), (q2, zArr X (0, 30) (fun _ => 0)), (q3, zArr X (0, 30) (fun _ => 0)), (q4, zArr X (0, 30) (fun _ => 0)), (qq, zArr X (0, 2) (fun _ => 0))]) dX2_init_38 (by decide) (by decide) (Nat.le_of_ble_eq_true rfl) (Nat.le_of_ble_eq_true rfl) (Nat.le_of_ble_eq_true rfl) (fun _ => rfl) (fun q5 => ?_)
  refine o_putF (M := mX2_init) (fs' := [.ref q1, .ref q2, .ref q3, .int 0, .ref q4, .ref q5, .int 0]) dX2_init_40 kF_X2_24 rfl rfl rfl rfl (Nat.le_of_ble_eq_true rfl) rfl ?_
  exact g_vret (M := mX2_init) dX2_init_43 rfl (Nat.le_of_ble_eq_true rfl) (Nat.le_of_ble_eq_true rfl) ⟨rfl, zGp [a, q1, q2, q3, q4, q5], rfl, congrArg (W ++ ·) (zBk_of rfl (fun k hk => match k, hk with | 0, _ => rfl | 1, _ => rfl | 2, _ => rfl | 3, _ => rfl | 4, _ => rfl | 5, _ => rfl | k + 6, h => absurd h (by show ¬ k + 6 < 6; omega)))⟩
set_option maxHeartbeats 4000000 in
set_option maxRecDepth 100000 in
theorem wX3_init {X : zX} {W : va_W} {a : Nat} : Con X yX3_init mX3_init 1 5 68 [.ref a] (W ++ [(a, .inr (3, [.null, .null, .null, .null, .null, .int 0, .int 0, .int 0, .int 0, .int 0, .int 0, .int 0, .int 0]))]) (zIq X W a shSe zV0) := by
  refine con_of (lv := [(0, .ref a)]) (by decide) rfl (fun _ => rfl) rfl (Nat.le_of_ble_eq_true rfl) rfl ?_
  refine g_aload_n (M := mX3_init) dX3_init_0 0 rfl rfl ?_
  refine g_objInit (M := mX3_init) dX3_init_1 kM_X3_3 kZ_objI kZ_objC (Nat.le_of_ble_eq_true rfl) (Nat.le_of_ble_eq_true rfl) ?_
  refine g_aload_n (M := mX3_init) dX3_init_4 0 rfl rfl ?_
  refine h_iconst (M := mX3_init) dX3_init_5 ?_
  refine o_newI (M := mX3_init) (len := 0) (l' := fun qq => [(qq, zArr X (0, 0) (fun _ => 0))]) dX3_init_6 (by decide) (by decide) (Nat.le_of_ble_eq_true rfl) (Nat.le_of_ble_eq_true rfl) (Nat.le_of_ble_eq_true rfl) (fun _ => rfl) (fun q1 => ?_)
  refine o_put (M := mX3_init) (fs' := [.ref q1, .null, .null, .null, .null, .int 0, .int 0, .int 0, .int 0, .int 0, .int 0, .int 0, .int 0]) dX3_init_8 kF_X3_9 rfl rfl rfl (Nat.le_of_ble_eq_true rfl) rfl ?_
  refine g_aload_n (M := mX3_init) dX3_init_11 0 rfl rfl ?_
  refine h_iconst (M := mX3_init) dX3_init_12 ?_
  refine o_newI (M := mX3_init) (len := 0) (l' := fun qq => [(q1, zArr X (0, 0) (fun _ => 0)), (qq, zArr X (0, 0) (fun _ => 0))]) dX3_init_13 (by decide) (by decide) (Nat.le_of_ble_eq_true rfl) (Nat.le_of_ble_eq_true rfl) (Nat.le_of_ble_eq_true rfl) (fun _ => rfl) (fun q2 => ?_)
  refine o_put (M := mX3_init) (fs' := [.ref q1, .ref q2, .null, .null, .null, .int 0, .int 0, .int 0, .int 0, .int 0, .int 0, .int 0, .int 0]) dX3_init_15 kF_X3_15 rfl rfl rfl (Nat.le_of_ble_eq_true rfl) rfl ?_
  refine g_aload_n (M := mX3_init) dX3_init_18 0 rfl rfl ?_
  refine h_iconst (M := mX3_init) dX3_init_19 ?_
  refine o_newI (M := mX3_init) (len := 0) (l' := fun qq => [(q1, zArr X (0, 0) (fun _ => 0)), (q2, zArr X (0, 0) (fun _ => 0)), (qq, zArr X (0, 0) (fun _ => 0))]) dX3_init_20 (by decide) (by decide) (Nat.le_of_ble_eq_true rfl) (Nat.le_of_ble_eq_true rfl) (Nat.le_of_ble_eq_true rfl) (fun _ => rfl) (fun q3 => ?_)
  refine o_put (M := mX3_init) (fs' := [.ref q1, .ref q2, .ref q3, .null, .null, .int 0, .int 0, .int 0, .int 0, .int 0, .int 0, .int 0, .int 0]) dX3_init_22 kF_X3_18 rfl rfl rfl (Nat.le_of_ble_eq_true rfl) rfl ?_
  refine g_aload_n (M := mX3_init) dX3_init_25 0 rfl rfl ?_
  refine h_bipush (M := mX3_init) dX3_init_26 rfl ?_
  refine o_newI (M := mX3_init) (len := 7) (l' := fun qq => [(q1, zArr X (0, 0) (fun _ => 0)), (q2, zArr X (0, 0) (fun _ => 0)), (q3, zArr X (0, 0) (fun _ => 0)), (qq, zArr X (0, 7) (fun _ => 0))]) dX3_init_28 (by decide) (by decide) (Nat.le_of_ble_eq_true rfl) (Nat.le_of_ble_eq_true rfl) (Nat.le_of_ble_eq_true rfl) (fun _ => rfl) (fun q4 => ?_)
  refine o_putF (M := mX3_init) (fs' := [.ref q1, .ref q2, .ref q3, .ref q4, .null, .int 0, .int 0, .int 0, .int 0, .int 0, .int 0, .int 0, .int 0]) dX3_init_30 kF_X3_21 rfl rfl rfl rfl (Nat.le_of_ble_eq_true rfl) rfl ?_
  refine g_aload_n (M := mX3_init) dX3_init_33 0 rfl rfl ?_
  refine h_bipush (M := mX3_init) dX3_init_34 rfl ?_
  refine o_newI (M := mX3_init) (len := 61) (l' := fun qq => [(q1, zArr X (0, 0) (fun _ => 0)), (q2, zArr X (0, 0) (fun _ => 0)), (q3, zArr X (0, 0) (fun _ => 0)), (q4, zArr X (0, 7) (fun _ => 0)), (qq, zArr X (0, 61) (fun _ => 0))]) dX3_init_36 (by decide) (by decide) (Nat.le_of_ble_eq_true rfl) (Nat.le_of_ble_eq_true rfl) (Nat.le_of_ble_eq_true rfl) (fun _ => rfl) (fun q5 => ?_)
  refine o_putF (M := mX3_init) (fs' := [.ref q1, .ref q2, .ref q3, .ref q4, .ref q5, .int 0, .int 0, .int 0, .int 0, .int 0, .int 0, .int 0, .int 0]) dX3_init_38 kF_X3_24 rfl rfl rfl rfl (Nat.le_of_ble_eq_true rfl) rfl ?_
  exact g_vret (M := mX3_init) dX3_init_41 rfl (Nat.le_of_ble_eq_true rfl) (Nat.le_of_ble_eq_true rfl) ⟨rfl, zGp [a, q1, q2, q3, q4, q5], rfl, congrArg (W ++ ·) (zBk_of rfl (fun k hk => match k, hk with | 0, _ => rfl | 1, _ => rfl | 2, _ => rfl | 3, _ => rfl | 4, _ => rfl | 5, _ => rfl | k + 6, h => absurd h (by show ¬ k + 6 < 6; omega)))⟩
set_option maxHeartbeats 4000000 in
set_option maxRecDepth 100000 in
theorem wX4_init {X : zX} {W : va_W} {a : Nat} : Con X yX4_init mX4_init 1 1 0 [.ref a] (W ++ [(a, .inr (4, [.null, .int 0]))]) (zIq X W a shTa zV0) := by
  refine con_of (lv := [(0, .ref a)]) (by decide) rfl (fun _ => rfl) rfl (Nat.le_of_ble_eq_true rfl) rfl ?_
  refine g_aload_n (M := mX4_init) dX4_init_0 0 rfl rfl ?_
  refine g_objInit (M := mX4_init) dX4_init_1 kM_X4_3 kZ_objI kZ_objC (Nat.le_of_ble_eq_true rfl) (Nat.le_of_ble_eq_true rfl) ?_
  refine g_aload_n (M := mX4_init) dX4_init_4 0 rfl rfl ?_
  refine h_iconst (M := mX4_init) dX4_init_5 ?_
  refine o_newI (M := mX4_init) (len := 0) (l' := fun qq => [(qq, zArr X (0, 0) (fun _ => 0))]) dX4_init_6 (by decide) (by decide) (Nat.le_of_ble_eq_true rfl) (Nat.le_of_ble_eq_true rfl) (Nat.le_of_ble_eq_true rfl) (fun _ => rfl) (fun q1 => ?_)
  refine o_put (M := mX4_init) (fs' := [.ref q1, .int 0]) dX4_init_8 kF_X4_9 rfl rfl rfl (Nat.le_of_ble_eq_true rfl) rfl ?_
  exact g_vret (M := mX4_init) dX4_init_11 rfl (Nat.le_of_ble_eq_true rfl) (Nat.le_of_ble_eq_true rfl) ⟨rfl, zGp [a, q1], rfl, congrArg (W ++ ·) (zBk_of rfl (fun k hk => match k, hk with | 0, _ => rfl | 1, _ => rfl | k + 2, h => absurd h (by show ¬ k + 2 < 2; omega)))⟩
set_option maxHeartbeats 4000000 in
set_option maxRecDepth 100000 in
theorem wX5_init {X : zX} {W : va_W} {a : Nat} : Con X yX5_init mX5_init 1 0 0 [.ref a] (W ++ [(a, .inr (5, [.int 0]))]) (zIq X W a shRd zV0) := by
  refine con_of (lv := [(0, .ref a)]) (by decide) rfl (fun _ => rfl) rfl (Nat.le_of_ble_eq_true rfl) rfl ?_
  refine g_aload_n (M := mX5_init) dX5_init_0 0 rfl rfl ?_
  refine g_objInit (M := mX5_init) dX5_init_1 kM_X5_3 kZ_objI kZ_objC (Nat.le_of_ble_eq_true rfl) (Nat.le_of_ble_eq_true rfl) ?_
  exact g_vret (M := mX5_init) dX5_init_4 rfl (Nat.le_of_ble_eq_true rfl) (Nat.le_of_ble_eq_true rfl) ⟨rfl, zGp [a], rfl, congrArg (W ++ ·) (zBk_of rfl (fun k hk => match k, hk with | 0, _ => rfl | k + 1, h => absurd h (by show ¬ k + 1 < 1; omega)))⟩
set_option maxHeartbeats 4000000 in
set_option maxRecDepth 100000 in
theorem wX6_init {X : zX} {W : va_W} {a : Nat} : Con X yX6_init mX6_init 1 1 600 [.ref a] (W ++ [(a, .inr (6, [.null, .int 0, .int 0, .int 0, .int 0, .int 0, .int 0, .int 0]))]) (zIq X W a shTo zV0T) := by
  refine con_of (lv := [(0, .ref a)]) (by decide) rfl (fun _ => rfl) rfl (Nat.le_of_ble_eq_true rfl) rfl ?_
  refine g_aload_n (M := mX6_init) dX6_init_0 0 rfl rfl ?_
  refine g_objInit (M := mX6_init) dX6_init_1 kM_X6_3 kZ_objI kZ_objC (Nat.le_of_ble_eq_true rfl) (Nat.le_of_ble_eq_true rfl) ?_
  refine g_aload_n (M := mX6_init) dX6_init_4 0 rfl rfl ?_
  refine h_sipush (M := mX6_init) dX6_init_5 rfl ?_
  refine o_newB (M := mX6_init) (len := 600) (l' := fun qq => [(qq, zArr X (2, 600) (fun _ => 0))]) dX6_init_8 (by decide) (by decide) (Nat.le_of_ble_eq_true rfl) (Nat.le_of_ble_eq_true rfl) (Nat.le_of_ble_eq_true rfl) (fun _ => rfl) (fun q1 => ?_)
  refine o_putF (M := mX6_init) (fs' := [.ref q1, .int 0, .int 0, .int 0, .int 0, .int 0, .int 0, .int 0]) dX6_init_10 kF_X6_9 rfl rfl rfl rfl (Nat.le_of_ble_eq_true rfl) rfl ?_
  refine g_aload_n (M := mX6_init) dX6_init_13 0 rfl rfl ?_
  refine h_iconst (M := mX6_init) dX6_init_14 ?_
  refine o_put (M := mX6_init) (fs' := [.ref q1, .int 0, .int 0, .int 0, .int 0, .int 0, .int 0, .int (iI (-1))]) dX6_init_15 kF_X6_15 rfl rfl rfl (Nat.le_of_ble_eq_true rfl) rfl ?_
  exact g_vret (M := mX6_init) dX6_init_18 rfl (Nat.le_of_ble_eq_true rfl) (Nat.le_of_ble_eq_true rfl) ⟨rfl, zGp [a, q1], rfl, congrArg (W ++ ·) (zBk_of rfl (fun k hk => match k, hk with | 0, _ => rfl | 1, _ => rfl | k + 2, h => absurd h (by show ¬ k + 2 < 2; omega)))⟩
theorem zMo_0 {a q1 q2 q3 q4 q5 q6 q7 q8 q9 q10 q11 q12 q13 q14 q15 q16 q17 q18 q19 q20 : Nat} : ([.int 0, .ref q1, .int 0, .int 0, .int 0, .int 0, .int 0, .int 0, .int 0, .int 0, .int (iI (-1)), .int 0, .int (iI (-1)), .long 0, .ref q2, .ref q3, .ref q4, .ref q5, .ref q6, .ref q7, .ref q8, .ref q9, .int 0, .int 0, .int 0, .ref q10, .ref q11, .int 0, .int 0, .int 0, .ref q12, .int 0, .int 0, .int 0, .int 0, .ref q13, .ref q14, .ref q15, .ref q16, .ref q17, .ref q18, .ref q19, .int 0, .int 0, .int 0, .int 0, .ref q20, .int 0, .int 0] : List Value) = oFs (zGp [a, q1, q2, q3, q4, q5, q6, q7, q8, q9, q10, q11, q12, q13, q14, q15, q16, q17, q18, q19, q20]) 0 zV0M shMo.2.1 := by
  have e1 : iI 0 = 0 := rfl
  have e2 : iL 0 = 0 := rfl
  simp [oFs, oF, zV0M, zGp, e1, e2]
set_option maxHeartbeats 4000000 in
set_option maxRecDepth 100000 in
theorem wX8_fields {X : zX} {W : va_W} {a mc ms : Nat} {Q : va_W → zO → Prop} (hc : 20 ≤ mc) (hs : 13052 ≤ ms) (next : ∀ ps : Nat → Nat, ps 0 = a → G X mX8_init (zPm X 1 mc ms Q) 20 13052 181 [(0, .ref a)] [] (W ++ zBk X shMo zV0M ps)) : G X mX8_init (zPm X 1 mc ms Q) 0 0 0 [(0, .ref a)] [] (W ++ [(a, .inr (8, [.int 0, .null, .int 0, .int 0, .int 0, .int 0, .int 0, .int 0, .int 0, .int 0, .int 0, .int 0, .int 0, .long 0, .null, .null, .null, .null, .null, .null, .null, .null, .int 0, .int 0, .int 0, .null, .null, .int 0, .int 0, .int 0, .null, .int 0, .int 0, .int 0, .int 0, .null, .null, .null, .null, .null, .null, .null, .int 0, .int 0, .int 0, .int 0, .null, .int 0, .int 0]))]) := by
  refine g_aload_n (M := mX8_init) dX8_init_0 0 rfl rfl ?_
  refine g_objInit (M := mX8_init) dX8_init_1 kM_X8_1 kZ_objI kZ_objC (Nat.le_of_ble_eq_true rfl) (Nat.le_of_ble_eq_true rfl) ?_
  refine g_aload_n (M := mX8_init) dX8_init_4 0 rfl rfl ?_
  refine h_sipush (M := mX8_init) dX8_init_5 rfl ?_
  refine o_newI (M := mX8_init) (len := 600) (l' := fun qq => [(qq, zArr X (0, 600) (fun _ => 0))]) dX8_init_8 (by decide) (by decide) (Nat.le_of_ble_eq_true rfl) (Nat.le_trans (Nat.le_of_ble_eq_true rfl) hc) (Nat.le_trans (Nat.le_of_ble_eq_true rfl) hs) (fun _ => rfl) (fun q1 => ?_)
  refine o_putF (M := mX8_init) (fs' := [.int 0, .ref q1, .int 0, .int 0, .int 0, .int 0, .int 0, .int 0, .int 0, .int 0, .int 0, .int 0, .int 0, .long 0, .null, .null, .null, .null, .null, .null, .null, .null, .int 0, .int 0, .int 0, .null, .null, .int 0, .int 0, .int 0, .null, .int 0, .int 0, .int 0, .int 0, .null, .null, .null, .null, .null, .null, .null, .int 0, .int 0, .int 0, .int 0, .null, .int 0, .int 0]) dX8_init_10 kF_X8_7 rfl rfl rfl rfl (Nat.le_of_ble_eq_true rfl) rfl ?_
  refine g_aload_n (M := mX8_init) dX8_init_13 0 rfl rfl ?_
  refine h_iconst (M := mX8_init) dX8_init_14 ?_
  refine o_put (M := mX8_init) (fs' := [.int 0, .ref q1, .int 0, .int 0, .int 0, .int 0, .int 0, .int 0, .int 0, .int 0, .int (iI (-1)), .int 0, .int 0, .long 0, .null, .null, .null, .null, .null, .null, .null, .null, .int 0, .int 0, .int 0, .null, .null, .int 0, .int 0, .int 0, .null, .int 0, .int 0, .int 0, .int 0, .null, .null, .null, .null, .null, .null, .null, .int 0, .int 0, .int 0, .int 0, .null, .int 0, .int 0]) dX8_init_15 kF_X8_13 rfl rfl rfl (Nat.le_of_ble_eq_true rfl) rfl ?_
  refine g_aload_n (M := mX8_init) dX8_init_18 0 rfl rfl ?_
  refine h_iconst (M := mX8_init) dX8_init_19 ?_
  refine o_put (M := mX8_init) (fs' := [.int 0, .ref q1, .int 0, .int 0, .int 0, .int 0, .int 0, .int 0, .int 0, .int 0, .int (iI (-1)), .int 0, .int (iI (-1)), .long 0, .null, .null, .null, .null, .null, .null, .null, .null, .int 0, .int 0, .int 0, .null, .null, .int 0, .int 0, .int 0, .null, .int 0, .int 0, .int 0, .int 0, .null, .null, .null, .null, .null, .null, .null, .int 0, .int 0, .int 0, .int 0, .null, .int 0, .int 0]) dX8_init_20 kF_X8_17 rfl rfl rfl (Nat.le_of_ble_eq_true rfl) rfl ?_
  refine g_aload_n (M := mX8_init) dX8_init_23 0 rfl rfl ?_
  refine h_sipush (M := mX8_init) dX8_init_24 rfl ?_
  refine o_newI (M := mX8_init) (len := 351) (l' := fun qq => [(q1, zArr X (0, 600) (fun _ => 0)), (qq, zArr X (0, 351) (fun _ => 0))]) dX8_init_27 (by decide) (by decide) (Nat.le_of_ble_eq_true rfl) (Nat.le_trans (Nat.le_of_ble_eq_true rfl) hc) (Nat.le_trans (Nat.le_of_ble_eq_true rfl) hs) (fun _ => rfl) (fun q2 => ?_)
  refine o_putF (M := mX8_init) (fs' := [.int 0, .ref q1, .int 0, .int 0, .int 0, .int 0, .int 0, .int 0, .int 0, .int 0, .int (iI (-1)), .int 0, .int (iI (-1)), .long 0, .ref q2, .null, .null, .null, .null, .null, .null, .null, .int 0, .int 0, .int 0, .null, .null, .int 0, .int 0, .int 0, .null, .int 0, .int 0, .int 0, .int 0, .null, .null, .null, .null, .null, .null, .null, .int 0, .int 0, .int 0, .int 0, .null, .int 0, .int 0]) dX8_init_29 kF_X8_20 rfl rfl rfl rfl (Nat.le_of_ble_eq_true rfl) rfl ?_
  refine g_aload_n (M := mX8_init) dX8_init_32 0 rfl rfl ?_
  refine h_sipush (M := mX8_init) dX8_init_33 rfl ?_
  refine o_newI (M := mX8_init) (len := 351) (l' := fun qq => [(q1, zArr X (0, 600) (fun _ => 0)), (q2, zArr X (0, 351) (fun _ => 0)), (qq, zArr X (0, 351) (fun _ => 0))]) dX8_init_36 (by decide) (by decide) (Nat.le_of_ble_eq_true rfl) (Nat.le_trans (Nat.le_of_ble_eq_true rfl) hc) (Nat.le_trans (Nat.le_of_ble_eq_true rfl) hs) (fun _ => rfl) (fun q3 => ?_)
  refine o_putF (M := mX8_init) (fs' := [.int 0, .ref q1, .int 0, .int 0, .int 0, .int 0, .int 0, .int 0, .int 0, .int 0, .int (iI (-1)), .int 0, .int (iI (-1)), .long 0, .ref q2, .ref q3, .null, .null, .null, .null, .null, .null, .int 0, .int 0, .int 0, .null, .null, .int 0, .int 0, .int 0, .null, .int 0, .int 0, .int 0, .int 0, .null, .null, .null, .null, .null, .null, .null, .int 0, .int 0, .int 0, .int 0, .null, .int 0, .int 0]) dX8_init_38 kF_X8_23 rfl rfl rfl rfl (Nat.le_of_ble_eq_true rfl) rfl ?_
  refine g_aload_n (M := mX8_init) dX8_init_41 0 rfl rfl ?_
  refine h_sipush (M := mX8_init) dX8_init_42 rfl ?_
  refine o_newI (M := mX8_init) (len := 2106) (l' := fun qq => [(q1, zArr X (0, 600) (fun _ => 0)), (q2, zArr X (0, 351) (fun _ => 0)), (q3, zArr X (0, 351) (fun _ => 0)), (qq, zArr X (0, 2106) (fun _ => 0))]) dX8_init_45 (by decide) (by decide) (Nat.le_of_ble_eq_true rfl) (Nat.le_trans (Nat.le_of_ble_eq_true rfl) hc) (Nat.le_trans (Nat.le_of_ble_eq_true rfl) hs) (fun _ => rfl) (fun q4 => ?_)
  refine o_putF (M := mX8_init) (fs' := [.int 0, .ref q1, .int 0, .int 0, .int 0, .int 0, .int 0, .int 0, .int 0, .int 0, .int (iI (-1)), .int 0, .int (iI (-1)), .long 0, .ref q2, .ref q3, .ref q4, .null, .null, .null, .null, .null, .int 0, .int 0, .int 0, .null, .null, .int 0, .int 0, .int 0, .null, .int 0, .int 0, .int 0, .int 0, .null, .null, .null, .null, .null, .null, .null, .int 0, .int 0, .int 0, .int 0, .null, .int 0, .int 0]) dX8_init_47 kF_X8_26 rfl rfl rfl rfl (Nat.le_of_ble_eq_true rfl) rfl ?_
  refine g_aload_n (M := mX8_init) dX8_init_50 0 rfl rfl ?_
  refine h_sipush (M := mX8_init) dX8_init_51 rfl ?_
  refine o_newI (M := mX8_init) (len := 351) (l' := fun qq => [(q1, zArr X (0, 600) (fun _ => 0)), (q2, zArr X (0, 351) (fun _ => 0)), (q3, zArr X (0, 351) (fun _ => 0)), (q4, zArr X (0, 2106) (fun _ => 0)), (qq, zArr X (0, 351) (fun _ => 0))]) dX8_init_54 (by decide) (by decide) (Nat.le_of_ble_eq_true rfl) (Nat.le_trans (Nat.le_of_ble_eq_true rfl) hc) (Nat.le_trans (Nat.le_of_ble_eq_true rfl) hs) (fun _ => rfl) (fun q5 => ?_)
  refine o_putF (M := mX8_init) (fs' := [.int 0, .ref q1, .int 0, .int 0, .int 0, .int 0, .int 0, .int 0, .int 0, .int 0, .int (iI (-1)), .int 0, .int (iI (-1)), .long 0, .ref q2, .ref q3, .ref q4, .ref q5, .null, .null, .null, .null, .int 0, .int 0, .int 0, .null, .null, .int 0, .int 0, .int 0, .null, .int 0, .int 0, .int 0, .int 0, .null, .null, .null, .null, .null, .null, .null, .int 0, .int 0, .int 0, .int 0, .null, .int 0, .int 0]) dX8_init_56 kF_X8_29 rfl rfl rfl rfl (Nat.le_of_ble_eq_true rfl) rfl ?_
  refine g_aload_n (M := mX8_init) dX8_init_59 0 rfl rfl ?_
  refine h_sipush (M := mX8_init) dX8_init_60 rfl ?_
  refine o_newI (M := mX8_init) (len := 351) (l' := fun qq => [(q1, zArr X (0, 600) (fun _ => 0)), (q2, zArr X (0, 351) (fun _ => 0)), (q3, zArr X (0, 351) (fun _ => 0)), (q4, zArr X (0, 2106) (fun _ => 0)), (q5, zArr X (0, 351) (fun _ => 0)), (qq, zArr X (0, 351) (fun _ => 0))]) dX8_init_63 (by decide) (by decide) (Nat.le_of_ble_eq_true rfl) (Nat.le_trans (Nat.le_of_ble_eq_true rfl) hc) (Nat.le_trans (Nat.le_of_ble_eq_true rfl) hs) (fun _ => rfl) (fun q6 => ?_)
  refine o_putF (M := mX8_init) (fs' := [.int 0, .ref q1, .int 0, .int 0, .int 0, .int 0, .int 0, .int 0, .int 0, .int 0, .int (iI (-1)), .int 0, .int (iI (-1)), .long 0, .ref q2, .ref q3, .ref q4, .ref q5, .ref q6, .null, .null, .null, .int 0, .int 0, .int 0, .null, .null, .int 0, .int 0, .int 0, .null, .int 0, .int 0, .int 0, .int 0, .null, .null, .null, .null, .null, .null, .null, .int 0, .int 0, .int 0, .int 0, .null, .int 0, .int 0]) dX8_init_65 kF_X8_32 rfl rfl rfl rfl (Nat.le_of_ble_eq_true rfl) rfl ?_
  refine g_aload_n (M := mX8_init) dX8_init_68 0 rfl rfl ?_
  refine h_bipush (M := mX8_init) dX8_init_69 rfl ?_
  refine o_newL (M := mX8_init) (len := 10) (l' := fun qq => [(q1, zArr X (0, 600) (fun _ => 0)), (q2, zArr X (0, 351) (fun _ => 0)), (q3, zArr X (0, 351) (fun _ => 0)), (q4, zArr X (0, 2106) (fun _ => 0)), (q5, zArr X (0, 351) (fun _ => 0)), (q6, zArr X (0, 351) (fun _ => 0)), (qq, zArr X (1, 10) (fun _ => 0))]) dX8_init_71 (by decide) (by decide) (Nat.le_of_ble_eq_true rfl) (Nat.le_trans (Nat.le_of_ble_eq_true rfl) hc) (Nat.le_trans (Nat.le_of_ble_eq_true rfl) hs) (fun _ => rfl) (fun q7 => ?_)
  refine o_putF (M := mX8_init) (fs' := [.int 0, .ref q1, .int 0, .int 0, .int 0, .int 0, .int 0, .int 0, .int 0, .int 0, .int (iI (-1)), .int 0, .int (iI (-1)), .long 0, .ref q2, .ref q3, .ref q4, .ref q5, .ref q6, .ref q7, .null, .null, .int 0, .int 0, .int 0, .null, .null, .int 0, .int 0, .int 0, .null, .int 0, .int 0, .int 0, .int 0, .null, .null, .null, .null, .null, .null, .null, .int 0, .int 0, .int 0, .int 0, .null, .int 0, .int 0]) dX8_init_73 kF_X8_35 rfl rfl rfl rfl (Nat.le_of_ble_eq_true rfl) rfl ?_
  refine g_aload_n (M := mX8_init) dX8_init_76 0 rfl rfl ?_
  refine h_bipush (M := mX8_init) dX8_init_77 rfl ?_
  refine o_newL (M := mX8_init) (len := 10) (l' := fun qq => [(q1, zArr X (0, 600) (fun _ => 0)), (q2, zArr X (0, 351) (fun _ => 0)), (q3, zArr X (0, 351) (fun _ => 0)), (q4, zArr X (0, 2106) (fun _ => 0)), (q5, zArr X (0, 351) (fun _ => 0)), (q6, zArr X (0, 351) (fun _ => 0)), (q7, zArr X (1, 10) (fun _ => 0)), (qq, zArr X (1, 10) (fun _ => 0))]) dX8_init_79 (by decide) (by decide) (Nat.le_of_ble_eq_true rfl) (Nat.le_trans (Nat.le_of_ble_eq_true rfl) hc) (Nat.le_trans (Nat.le_of_ble_eq_true rfl) hs) (fun _ => rfl) (fun q8 => ?_)
  refine o_putF (M := mX8_init) (fs' := [.int 0, .ref q1, .int 0, .int 0, .int 0, .int 0, .int 0, .int 0, .int 0, .int 0, .int (iI (-1)), .int 0, .int (iI (-1)), .long 0, .ref q2, .ref q3, .ref q4, .ref q5, .ref q6, .ref q7, .ref q8, .null, .int 0, .int 0, .int 0, .null, .null, .int 0, .int 0, .int 0, .null, .int 0, .int 0, .int 0, .int 0, .null, .null, .null, .null, .null, .null, .null, .int 0, .int 0, .int 0, .int 0, .null, .int 0, .int 0]) dX8_init_81 kF_X8_39 rfl rfl rfl rfl (Nat.le_of_ble_eq_true rfl) rfl ?_
  refine g_aload_n (M := mX8_init) dX8_init_84 0 rfl rfl ?_
  refine h_bipush (M := mX8_init) dX8_init_85 rfl ?_
  refine o_newL (M := mX8_init) (len := 10) (l' := fun qq => [(q1, zArr X (0, 600) (fun _ => 0)), (q2, zArr X (0, 351) (fun _ => 0)), (q3, zArr X (0, 351) (fun _ => 0)), (q4, zArr X (0, 2106) (fun _ => 0)), (q5, zArr X (0, 351) (fun _ => 0)), (q6, zArr X (0, 351) (fun _ => 0)), (q7, zArr X (1, 10) (fun _ => 0)), (q8, zArr X (1, 10) (fun _ => 0)), (qq, zArr X (1, 10) (fun _ => 0))]) dX8_init_87 (by decide) (by decide) (Nat.le_of_ble_eq_true rfl) (Nat.le_trans (Nat.le_of_ble_eq_true rfl) hc) (Nat.le_trans (Nat.le_of_ble_eq_true rfl) hs) (fun _ => rfl) (fun q9 => ?_)
  refine o_putF (M := mX8_init) (fs' := [.int 0, .ref q1, .int 0, .int 0, .int 0, .int 0, .int 0, .int 0, .int 0, .int 0, .int (iI (-1)), .int 0, .int (iI (-1)), .long 0, .ref q2, .ref q3, .ref q4, .ref q5, .ref q6, .ref q7, .ref q8, .ref q9, .int 0, .int 0, .int 0, .null, .null, .int 0, .int 0, .int 0, .null, .int 0, .int 0, .int 0, .int 0, .null, .null, .null, .null, .null, .null, .null, .int 0, .int 0, .int 0, .int 0, .null, .int 0, .int 0]) dX8_init_89 kF_X8_42 rfl rfl rfl rfl (Nat.le_of_ble_eq_true rfl) rfl ?_
  refine g_aload_n (M := mX8_init) dX8_init_92 0 rfl rfl ?_
  refine h_bipush (M := mX8_init) dX8_init_93 rfl ?_
  refine o_newI (M := mX8_init) (len := 6) (l' := fun qq => [(q1, zArr X (0, 600) (fun _ => 0)), (q2, zArr X (0, 351) (fun _ => 0)), (q3, zArr X (0, 351) (fun _ => 0)), (q4, zArr X (0, 2106) (fun _ => 0)), (q5, zArr X (0, 351) (fun _ => 0)), (q6, zArr X (0, 351) (fun _ => 0)), (q7, zArr X (1, 10) (fun _ => 0)), (q8, zArr X (1, 10) (fun _ => 0)), (q9, zArr X (1, 10) (fun _ => 0)), (qq, zArr X (0, 6) (fun _ => 0))]) dX8_init_95 (by decide) (by decide) (Nat.le_of_ble_eq_true rfl) (Nat.le_trans (Nat.le_of_ble_eq_true rfl) hc) (Nat.le_trans (Nat.le_of_ble_eq_true rfl) hs) (fun _ => rfl) (fun q10 => ?_)
  refine o_putF (M := mX8_init) (fs' := [.int 0, .ref q1, .int 0, .int 0, .int 0, .int 0, .int 0, .int 0, .int 0, .int 0, .int (iI (-1)), .int 0, .int (iI (-1)), .long 0, .ref q2, .ref q3, .ref q4, .ref q5, .ref q6, .ref q7, .ref q8, .ref q9, .int 0, .int 0, .int 0, .ref q10, .null, .int 0, .int 0, .int 0, .null, .int 0, .int 0, .int 0, .int 0, .null, .null, .null, .null, .null, .null, .null, .int 0, .int 0, .int 0, .int 0, .null, .int 0, .int 0]) dX8_init_97 kF_X8_45 rfl rfl rfl rfl (Nat.le_of_ble_eq_true rfl) rfl ?_
  refine g_aload_n (M := mX8_init) dX8_init_100 0 rfl rfl ?_
  refine h_bipush (M := mX8_init) dX8_init_101 rfl ?_
  refine o_newI (M := mX8_init) (len := 6) (l' := fun qq => [(q1, zArr X (0, 600) (fun _ => 0)), (q2, zArr X (0, 351) (fun _ => 0)), (q3, zArr X (0, 351) (fun _ => 0)), (q4, zArr X (0, 2106) (fun _ => 0)), (q5, zArr X (0, 351) (fun _ => 0)), (q6, zArr X (0, 351) (fun _ => 0)), (q7, zArr X (1, 10) (fun _ => 0)), (q8, zArr X (1, 10) (fun _ => 0)), (q9, zArr X (1, 10) (fun _ => 0)), (q10, zArr X (0, 6) (fun _ => 0)), (qq, zArr X (0, 6) (fun _ => 0))]) dX8_init_103 (by decide) (by decide) (Nat.le_of_ble_eq_true rfl) (Nat.le_trans (Nat.le_of_ble_eq_true rfl) hc) (Nat.le_trans (Nat.le_of_ble_eq_true rfl) hs) (fun _ => rfl) (fun q11 => ?_)
  refine o_putF (M := mX8_init) (fs' := [.int 0, .ref q1, .int 0, .int 0, .int 0, .int 0, .int 0, .int 0, .int 0, .int 0, .int (iI (-1)), .int 0, .int (iI (-1)), .long 0, .ref q2, .ref q3, .ref q4, .ref q5, .ref q6, .ref q7, .ref q8, .ref q9, .int 0, .int 0, .int 0, .ref q10, .ref q11, .int 0, .int 0, .int 0, .null, .int 0, .int 0, .int 0, .int 0, .null, .null, .null, .null, .null, .null, .null, .int 0, .int 0, .int 0, .int 0, .null, .int 0, .int 0]) dX8_init_105 kF_X8_48 rfl rfl rfl rfl (Nat.le_of_ble_eq_true rfl) rfl ?_
  refine g_aload_n (M := mX8_init) dX8_init_108 0 rfl rfl ?_
  refine h_sipush (M := mX8_init) dX8_init_109 rfl ?_
  refine o_newI (M := mX8_init) (len := 4096) (l' := fun qq => [(q1, zArr X (0, 600) (fun _ => 0)), (q2, zArr X (0, 351) (fun _ => 0)), (q3, zArr X (0, 351) (fun _ => 0)), (q4, zArr X (0, 2106) (fun _ => 0)), (q5, zArr X (0, 351) (fun _ => 0)), (q6, zArr X (0, 351) (fun _ => 0)), (q7, zArr X (1, 10) (fun _ => 0)), (q8, zArr X (1, 10) (fun _ => 0)), (q9, zArr X (1, 10) (fun _ => 0)), (q10, zArr X (0, 6) (fun _ => 0)), (q11, zArr X (0, 6) (fun _ => 0)), (qq, zArr X (0, 4096) (fun _ => 0))]) dX8_init_112 (by decide) (by decide) (Nat.le_of_ble_eq_true rfl) (Nat.le_trans (Nat.le_of_ble_eq_true rfl) hc) (Nat.le_trans (Nat.le_of_ble_eq_true rfl) hs) (fun _ => rfl) (fun q12 => ?_)
  refine o_putF (M := mX8_init) (fs' := [.int 0, .ref q1, .int 0, .int 0, .int 0, .int 0, .int 0, .int 0, .int 0, .int 0, .int (iI (-1)), .int 0, .int (iI (-1)), .long 0, .ref q2, .ref q3, .ref q4, .ref q5, .ref q6, .ref q7, .ref q8, .ref q9, .int 0, .int 0, .int 0, .ref q10, .ref q11, .int 0, .int 0, .int 0, .ref q12, .int 0, .int 0, .int 0, .int 0, .null, .null, .null, .null, .null, .null, .null, .int 0, .int 0, .int 0, .int 0, .null, .int 0, .int 0]) dX8_init_114 kF_X8_51 rfl rfl rfl rfl (Nat.le_of_ble_eq_true rfl) rfl ?_
  refine g_aload_n (M := mX8_init) dX8_init_117 0 rfl rfl ?_
  refine h_sipush (M := mX8_init) dX8_init_118 rfl ?_
  refine o_newI (M := mX8_init) (len := 4096) (l' := fun qq => [(q1, zArr X (0, 600) (fun _ => 0)), (q2, zArr X (0, 351) (fun _ => 0)), (q3, zArr X (0, 351) (fun _ => 0)), (q4, zArr X (0, 2106) (fun _ => 0)), (q5, zArr X (0, 351) (fun _ => 0)), (q6, zArr X (0, 351) (fun _ => 0)), (q7, zArr X (1, 10) (fun _ => 0)), (q8, zArr X (1, 10) (fun _ => 0)), (q9, zArr X (1, 10) (fun _ => 0)), (q10, zArr X (0, 6) (fun _ => 0)), (q11, zArr X (0, 6) (fun _ => 0)), (q12, zArr X (0, 4096) (fun _ => 0)), (qq, zArr X (0, 4096) (fun _ => 0))]) dX8_init_121 (by decide) (by decide) (Nat.le_of_ble_eq_true rfl) (Nat.le_trans (Nat.le_of_ble_eq_true rfl) hc) (Nat.le_trans (Nat.le_of_ble_eq_true rfl) hs) (fun _ => rfl) (fun q13 => ?_)
  refine o_putF (M := mX8_init) (fs' := [.int 0, .ref q1, .int 0, .int 0, .int 0, .int 0, .int 0, .int 0, .int 0, .int 0, .int (iI (-1)), .int 0, .int (iI (-1)), .long 0, .ref q2, .ref q3, .ref q4, .ref q5, .ref q6, .ref q7, .ref q8, .ref q9, .int 0, .int 0, .int 0, .ref q10, .ref q11, .int 0, .int 0, .int 0, .ref q12, .int 0, .int 0, .int 0, .int 0, .ref q13, .null, .null, .null, .null, .null, .null, .int 0, .int 0, .int 0, .int 0, .null, .int 0, .int 0]) dX8_init_123 kF_X8_54 rfl rfl rfl rfl (Nat.le_of_ble_eq_true rfl) rfl ?_
  refine g_aload_n (M := mX8_init) dX8_init_126 0 rfl rfl ?_
  refine h_bipush (M := mX8_init) dX8_init_127 rfl ?_
  refine o_newI (M := mX8_init) (len := 24) (l' := fun qq => [(q1, zArr X (0, 600) (fun _ => 0)), (q2, zArr X (0, 351) (fun _ => 0)), (q3, zArr X (0, 351) (fun _ => 0)), (q4, zArr X (0, 2106) (fun _ => 0)), (q5, zArr X (0, 351) (fun _ => 0)), (q6, zArr X (0, 351) (fun _ => 0)), (q7, zArr X (1, 10) (fun _ => 0)), (q8, zArr X (1, 10) (fun _ => 0)), (q9, zArr X (1, 10) (fun _ => 0)), (q10, zArr X (0, 6) (fun _ => 0)), (q11, zArr X (0, 6) (fun _ => 0)), (q12, zArr X (0, 4096) (fun _ => 0)), (q13, zArr X (0, 4096) (fun _ => 0)), (qq, zArr X (0, 24) (fun _ => 0))]) dX8_init_129 (by decide) (by decide) (Nat.le_of_ble_eq_true rfl) (Nat.le_trans (Nat.le_of_ble_eq_true rfl) hc) (Nat.le_trans (Nat.le_of_ble_eq_true rfl) hs) (fun _ => rfl) (fun q14 => ?_)
  refine o_putF (M := mX8_init) (fs' := [.int 0, .ref q1, .int 0, .int 0, .int 0, .int 0, .int 0, .int 0, .int 0, .int 0, .int (iI (-1)), .int 0, .int (iI (-1)), .long 0, .ref q2, .ref q3, .ref q4, .ref q5, .ref q6, .ref q7, .ref q8, .ref q9, .int 0, .int 0, .int 0, .ref q10, .ref q11, .int 0, .int 0, .int 0, .ref q12, .int 0, .int 0, .int 0, .int 0, .ref q13, .ref q14, .null, .null, .null, .null, .null, .int 0, .int 0, .int 0, .int 0, .null, .int 0, .int 0]) dX8_init_131 kF_X8_57 rfl rfl rfl rfl (Nat.le_of_ble_eq_true rfl) rfl ?_
  refine g_aload_n (M := mX8_init) dX8_init_134 0 rfl rfl ?_
  refine h_bipush (M := mX8_init) dX8_init_135 rfl ?_
  refine o_newI (M := mX8_init) (len := 60) (l' := fun qq => [(q1, zArr X (0, 600) (fun _ => 0)), (q2, zArr X (0, 351) (fun _ => 0)), (q3, zArr X (0, 351) (fun _ => 0)), (q4, zArr X (0, 2106) (fun _ => 0)), (q5, zArr X (0, 351) (fun _ => 0)), (q6, zArr X (0, 351) (fun _ => 0)), (q7, zArr X (1, 10) (fun _ => 0)), (q8, zArr X (1, 10) (fun _ => 0)), (q9, zArr X (1, 10) (fun _ => 0)), (q10, zArr X (0, 6) (fun _ => 0)), (q11, zArr X (0, 6) (fun _ => 0)), (q12, zArr X (0, 4096) (fun _ => 0)), (q13, zArr X (0, 4096) (fun _ => 0)), (q14, zArr X (0, 24) (fun _ => 0)), (qq, zArr X (0, 60) (fun _ => 0))]) dX8_init_137 (by decide) (by decide) (Nat.le_of_ble_eq_true rfl) (Nat.le_trans (Nat.le_of_ble_eq_true rfl) hc) (Nat.le_trans (Nat.le_of_ble_eq_true rfl) hs) (fun _ => rfl) (fun q15 => ?_)
  refine o_putF (M := mX8_init) (fs' := [.int 0, .ref q1, .int 0, .int 0, .int 0, .int 0, .int 0, .int 0, .int 0, .int 0, .int (iI (-1)), .int 0, .int (iI (-1)), .long 0, .ref q2, .ref q3, .ref q4, .ref q5, .ref q6, .ref q7, .ref q8, .ref q9, .int 0, .int 0, .int 0, .ref q10, .ref q11, .int 0, .int 0, .int 0, .ref q12, .int 0, .int 0, .int 0, .int 0, .ref q13, .ref q14, .ref q15, .null, .null, .null, .null, .int 0, .int 0, .int 0, .int 0, .null, .int 0, .int 0]) dX8_init_139 kF_X8_60 rfl rfl rfl rfl (Nat.le_of_ble_eq_true rfl) rfl ?_
  refine g_aload_n (M := mX8_init) dX8_init_142 0 rfl rfl ?_
  refine h_bipush (M := mX8_init) dX8_init_143 rfl ?_
  refine o_newI (M := mX8_init) (len := 60) (l' := fun qq => [(q1, zArr X (0, 600) (fun _ => 0)), (q2, zArr X (0, 351) (fun _ => 0)), (q3, zArr X (0, 351) (fun _ => 0)), (q4, zArr X (0, 2106) (fun _ => 0)), (q5, zArr X (0, 351) (fun _ => 0)), (q6, zArr X (0, 351) (fun _ => 0)), (q7, zArr X (1, 10) (fun _ => 0)), (q8, zArr X (1, 10) (fun _ => 0)), (q9, zArr X (1, 10) (fun _ => 0)), (q10, zArr X (0, 6) (fun _ => 0)), (q11, zArr X (0, 6) (fun _ => 0)), (q12, zArr X (0, 4096) (fun _ => 0)), (q13, zArr X (0, 4096) (fun _ => 0)), (q14, zArr X (0, 24) (fun _ => 0)), (q15, zArr X (0, 60) (fun _ => 0)), (qq, zArr X (0, 60) (fun _ => 0))]) dX8_init_145 (by decide) (by decide) (Nat.le_of_ble_eq_true rfl) (Nat.le_trans (Nat.le_of_ble_eq_true rfl) hc) (Nat.le_trans (Nat.le_of_ble_eq_true rfl) hs) (fun _ => rfl) (fun q16 => ?_)
  refine o_putF (M := mX8_init) (fs' := [.int 0, .ref q1, .int 0, .int 0, .int 0, .int 0, .int 0, .int 0, .int 0, .int 0, .int (iI (-1)), .int 0, .int (iI (-1)), .long 0, .ref q2, .ref q3, .ref q4, .ref q5, .ref q6, .ref q7, .ref q8, .ref q9, .int 0, .int 0, .int 0, .ref q10, .ref q11, .int 0, .int 0, .int 0, .ref q12, .int 0, .int 0, .int 0, .int 0, .ref q13, .ref q14, .ref q15, .ref q16, .null, .null, .null, .int 0, .int 0, .int 0, .int 0, .null, .int 0, .int 0]) dX8_init_147 kF_X8_63 rfl rfl rfl rfl (Nat.le_of_ble_eq_true rfl) rfl ?_
  refine g_aload_n (M := mX8_init) dX8_init_150 0 rfl rfl ?_
  refine h_bipush (M := mX8_init) dX8_init_151 rfl ?_
  refine o_newI (M := mX8_init) (len := 60) (l' := fun qq => [(q1, zArr X (0, 600) (fun _ => 0)), (q2, zArr X (0, 351) (fun _ => 0)), (q3, zArr X (0, 351) (fun _ => 0)), (q4, zArr X (0, 2106) (fun _ => 0)), (q5, zArr X (0, 351) (fun _ => 0)), (q6, zArr X (0, 351) (fun _ => 0)), (q7, zArr X (1, 10) (fun _ => 0)), (q8, zArr X (1, 10) (fun _ => 0)), (q9, zArr X (1, 10) (fun _ => 0)), (q10, zArr X (0, 6) (fun _ => 0)), (q11, zArr X (0, 6) (fun _ => 0)), (q12, zArr X (0, 4096) (fun _ => 0)), (q13, zArr X (0, 4096) (fun _ => 0)), (q14, zArr X (0, 24) (fun _ => 0)), (q15, zArr X (0, 60) (fun _ => 0)), (q16, zArr X (0, 60) (fun _ => 0)), (qq, zArr X (0, 60) (fun _ => 0))]) dX8_init_153 (by decide) (by decide) (Nat.le_of_ble_eq_true rfl) (Nat.le_trans (Nat.le_of_ble_eq_true rfl) hc) (Nat.le_trans (Nat.le_of_ble_eq_true rfl) hs) (fun _ => rfl) (fun q17 => ?_)
  refine o_putF (M := mX8_init) (fs' := [.int 0, .ref q1, .int 0, .int 0, .int 0, .int 0, .int 0, .int 0, .int 0, .int 0, .int (iI (-1)), .int 0, .int (iI (-1)), .long 0, .ref q2, .ref q3, .ref q4, .ref q5, .ref q6, .ref q7, .ref q8, .ref q9, .int 0, .int 0, .int 0, .ref q10, .ref q11, .int 0, .int 0, .int 0, .ref q12, .int 0, .int 0, .int 0, .int 0, .ref q13, .ref q14, .ref q15, .ref q16, .ref q17, .null, .null, .int 0, .int 0, .int 0, .int 0, .null, .int 0, .int 0]) dX8_init_155 kF_X8_66 rfl rfl rfl rfl (Nat.le_of_ble_eq_true rfl) rfl ?_
  refine g_aload_n (M := mX8_init) dX8_init_158 0 rfl rfl ?_
  refine h_iconst (M := mX8_init) dX8_init_159 ?_
  refine o_newI (M := mX8_init) (len := 2) (l' := fun qq => [(q1, zArr X (0, 600) (fun _ => 0)), (q2, zArr X (0, 351) (fun _ => 0)), (q3, zArr X (0, 351) (fun _ => 0)), (q4, zArr X (0, 2106) (fun _ => 0)), (q5, zArr X (0, 351) (fun _ => 0)), (q6, zArr X (0, 351) (fun _ => 0)), (q7, zArr X (1, 10) (fun _ => 0)), (q8, zArr X (1, 10) (fun _ => 0)), (q9, zArr X (1, 10) (fun _ => 0)), (q10, zArr X (0, 6) (fun _ => 0)), (q11, zArr X (0, 6) (fun _ => 0)), (q12, zArr X (0, 4096) (fun _ => 0)), (q13, zArr X (0, 4096) (fun _ => 0)), (q14, zArr X (0, 24) (fun _ => 0)), (q15, zArr X (0, 60) (fun _ => 0)), (q16, zArr X (0, 60) (fun _ => 0)), (q17, zArr X (0, 60) (fun _ => 0)), (qq, zArr X (0, 2) (fun _ => 0))]) dX8_init_160 (by decide) (by decide) (Nat.le_of_ble_eq_true rfl) (Nat.le_trans (Nat.le_of_ble_eq_true rfl) hc) (Nat.le_trans (Nat.le_of_ble_eq_true rfl) hs) (fun _ => rfl) (fun q18 => ?_)
  refine o_putF (M := mX8_init) (fs' := [.int 0, .ref q1, .int 0, .int 0, .int 0, .int 0, .int 0, .int 0, .int 0, .int 0, .int (iI (-1)), .int 0, .int (iI (-1)), .long 0, .ref q2, .ref q3, .ref q4, .ref q5, .ref q6, .ref q7, .ref q8, .ref q9, .int 0, .int 0, .int 0, .ref q10, .ref q11, .int 0, .int 0, .int 0, .ref q12, .int 0, .int 0, .int 0, .int 0, .ref q13, .ref q14, .ref q15, .ref q16, .ref q17, .ref q18, .null, .int 0, .int 0, .int 0, .int 0, .null, .int 0, .int 0]) dX8_init_162 kF_X8_69 rfl rfl rfl rfl (Nat.le_of_ble_eq_true rfl) rfl ?_
  refine g_aload_n (M := mX8_init) dX8_init_165 0 rfl rfl ?_
  refine h_iconst (M := mX8_init) dX8_init_166 ?_
  refine o_newI (M := mX8_init) (len := 2) (l' := fun qq => [(q1, zArr X (0, 600) (fun _ => 0)), (q2, zArr X (0, 351) (fun _ => 0)), (q3, zArr X (0, 351) (fun _ => 0)), (q4, zArr X (0, 2106) (fun _ => 0)), (q5, zArr X (0, 351) (fun _ => 0)), (q6, zArr X (0, 351) (fun _ => 0)), (q7, zArr X (1, 10) (fun _ => 0)), (q8, zArr X (1, 10) (fun _ => 0)), (q9, zArr X (1, 10) (fun _ => 0)), (q10, zArr X (0, 6) (fun _ => 0)), (q11, zArr X (0, 6) (fun _ => 0)), (q12, zArr X (0, 4096) (fun _ => 0)), (q13, zArr X (0, 4096) (fun _ => 0)), (q14, zArr X (0, 24) (fun _ => 0)), (q15, zArr X (0, 60) (fun _ => 0)), (q16, zArr X (0, 60) (fun _ => 0)), (q17, zArr X (0, 60) (fun _ => 0)), (q18, zArr X (0, 2) (fun _ => 0)), (qq, zArr X (0, 2) (fun _ => 0))]) dX8_init_167 (by decide) (by decide) (Nat.le_of_ble_eq_true rfl) (Nat.le_trans (Nat.le_of_ble_eq_true rfl) hc) (Nat.le_trans (Nat.le_of_ble_eq_true rfl) hs) (fun _ => rfl) (fun q19 => ?_)
  refine o_putF (M := mX8_init) (fs' := [.int 0, .ref q1, .int 0, .int 0, .int 0, .int 0, .int 0, .int 0, .int 0, .int 0, .int (iI (-1)), .int 0, .int (iI (-1)), .long 0, .ref q2, .ref q3, .ref q4, .ref q5, .ref q6, .ref q7, .ref q8, .ref q9, .int 0, .int 0, .int 0, .ref q10, .ref q11, .int 0, .int 0, .int 0, .ref q12, .int 0, .int 0, .int 0, .int 0, .ref q13, .ref q14, .ref q15, .ref q16, .ref q17, .ref q18, .ref q19, .int 0, .int 0, .int 0, .int 0, .null, .int 0, .int 0]) dX8_init_169 kF_X8_72 rfl rfl rfl rfl (Nat.le_of_ble_eq_true rfl) rfl ?_
  refine g_aload_n (M := mX8_init) dX8_init_172 0 rfl rfl ?_
  refine h_sipush (M := mX8_init) dX8_init_173 rfl ?_
  refine o_newI (M := mX8_init) (len := 500) (l' := fun qq => [(q1, zArr X (0, 600) (fun _ => 0)), (q2, zArr X (0, 351) (fun _ => 0)), (q3, zArr X (0, 351) (fun _ => 0)), (q4, zArr X (0, 2106) (fun _ => 0)), (q5, zArr X (0, 351) (fun _ => 0)), (q6, zArr X (0, 351) (fun _ => 0)), (q7, zArr X (1, 10) (fun _ => 0)), (q8, zArr X (1, 10) (fun _ => 0)), (q9, zArr X (1, 10) (fun _ => 0)), (q10, zArr X (0, 6) (fun _ => 0)), (q11, zArr X (0, 6) (fun _ => 0)), (q12, zArr X (0, 4096) (fun _ => 0)), (q13, zArr X (0, 4096) (fun _ => 0)), (q14, zArr X (0, 24) (fun _ => 0)), (q15, zArr X (0, 60) (fun _ => 0)), (q16, zArr X (0, 60) (fun _ => 0)), (q17, zArr X (0, 60) (fun _ => 0)), (q18, zArr X (0, 2) (fun _ => 0)), (q19, zArr X (0, 2) (fun _ => 0)), (qq, zArr X (0, 500) (fun _ => 0))]) dX8_init_176 (by decide) (by decide) (Nat.le_of_ble_eq_true rfl) (Nat.le_trans (Nat.le_of_ble_eq_true rfl) hc) (Nat.le_trans (Nat.le_of_ble_eq_true rfl) hs) (fun _ => rfl) (fun q20 => ?_)
  refine o_putF (M := mX8_init) (fs' := [.int 0, .ref q1, .int 0, .int 0, .int 0, .int 0, .int 0, .int 0, .int 0, .int 0, .int (iI (-1)), .int 0, .int (iI (-1)), .long 0, .ref q2, .ref q3, .ref q4, .ref q5, .ref q6, .ref q7, .ref q8, .ref q9, .int 0, .int 0, .int 0, .ref q10, .ref q11, .int 0, .int 0, .int 0, .ref q12, .int 0, .int 0, .int 0, .int 0, .ref q13, .ref q14, .ref q15, .ref q16, .ref q17, .ref q18, .ref q19, .int 0, .int 0, .int 0, .int 0, .ref q20, .int 0, .int 0]) dX8_init_178 kF_X8_75 rfl rfl rfl rfl (Nat.le_of_ble_eq_true rfl) rfl ?_
  refine g_ws (M := mX8_init) (congrArg (W ++ ·) (zBk_of (sh := shMo) (V := zV0M) (ps := zGp [a, q1, q2, q3, q4, q5, q6, q7, q8, q9, q10, q11, q12, q13, q14, q15, q16, q17, q18, q19, q20]) rfl (fun k hk => ?_))) (next _ rfl)
  match k, hk with
  | 0, _ => exact congrArg (fun z => some (a, (.inr (8, z) : va_E))) zMo_0
  | 1, _ => rfl
  | 2, _ => rfl
  | 3, _ => rfl
  | 4, _ => rfl
  | 5, _ => rfl
  | 6, _ => rfl
  | 7, _ => rfl
  | 8, _ => rfl
  | 9, _ => rfl
  | 10, _ => rfl
  | 11, _ => rfl
  | 12, _ => rfl
  | 13, _ => rfl
  | 14, _ => rfl
  | 15, _ => rfl
  | 16, _ => rfl
  | 17, _ => rfl
  | 18, _ => rfl
  | 19, _ => rfl
  | 20, _ => rfl
  | k + 21, h => exact absurd h (by show ¬ k + 21 < 21; omega)
