section ZHW
variable {X : zX} {M : zM} {P : zP} {kc ks pc : Nat} {lv : List (Nat × Value)} {rest : List Value} {ws W l : va_W}
theorem o_callN {y : MethodName} {M' : zM} {ix fr mc ms b ci : Nat} {fs : List Value} {sh : Sh} {V : CV} (hX : zOK X) (hdg : decode M.2.1 pc = .ok (.invokespecial ix, 3)) (hV : zN y M' 0) (hown : M.1 = RX7) (hl : (ix, y) ∈ zNest) (hM : Con X y M' fr mc ms [.ref b] (W ++ [(b, .inr (ci, fs))]) (zIq X W b sh V))
    (hR : fr + 1 ≤ P.1.frames ∧ 8 + (M'.2.2.1 + 11) + 64 * fr ≤ P.1.locals) (hf : kc + mc ≤ P.1.cells ∧ ks + ms ≤ P.1.slots) (hcat : (rest.map fun v => v.category).sum ≤ 8)
    (kk : ∀ ps : Nat → Nat, ps 0 = b → G X M P (kc + mc) (ks + ms) (pc + 3) lv rest (W ++ zBk X sh V ps)) : G X M P kc ks pc lv (.ref b :: rest) (W ++ [(b, .inr (ci, fs))]) := by
  intro p e s m args below meth c H locs ls I hP hD hS hl2
  obtain ⟨⟨h1, h2, h3, h4, h5, h6⟩, g1, g2, g3⟩ := hV
  have hts := I.2.2.2.2.2.1
  have hY : zY y M' = Cond.code y M'.2.1 M'.2.2.1 M'.2.2.2.1 :: zW := by unfold zY; rw [h2]
  have hcn : va_CN P.1 s args M.1 ix y RX7 M'.2.1 M'.2.2.1 M'.2.2.2.1 (zY y M') (zR fr mc ms) mc ms 0 := by
    refine ⟨⟨rfl, rfl, hR.1, hR.2, ?_, by rw [hY]; exact List.mem_cons_self⟩, hts _ h3, hts _ h4, h5, ?_, ?_⟩
    · intro w hw a' U hW
      have hz : w ∈ zW := by
        rw [hY] at hw
        rcases List.mem_cons.mp hw with e | e
        · rw [e]; exact h3
        · exact e
      exact word_at hW (good_of_word (zW_good hz)) (hts _ hz)
    · intro sig h
      rw [h] at h6
      exact (Option.some.inj h6).symm
    · rw [hown]
      exact va_Nw.use rfl (hX.2.2.2.2.2 s I.2.2.2.2.2.2.2.2.1 _ hl)
  rw [g1] at hcn
  exact z_run0 I hS hl2 (va_runIN (Ts := zW) (own := M.1) (nL := M.2.2.1) (As := []) ⟨I.1, I.2.1, I.2.2.2.1, I.2.2.2.2.1, hts⟩ (con_met hM (fun w E h => by cases h.1)) ⟨hcn, g2, hts _ g3⟩ ⟨zB_blind hX, fun U hU hW => ⟨rfl, zB_at hX I hP hD hS U hU hW⟩⟩ rfl rfl hl2.1 rfl (lv_room hcat) hdg hf) (fun w v h => by obtain ⟨h1, ps, h2, h3⟩ := h; cases h1; rw [h3]; exact kk ps h2)
/-- .. of an own class, with any post -/
theorem o_callI {y : MethodName} {M' : zM} {ix fr mc ms b : Nat} {Q' : va_W → zO → Prop} (hX : zOK X) (hdg : decode M.2.1 pc = .ok (.invokespecial ix, 3)) (hV : zN y M' 0) (hl : Cond.methodLink M.1 ix y ∈ zW) (hM : Con X y M' fr mc ms [.ref b] ws Q') (hQ : ∀ w o, Q' w o → o = .inl none)
    (hR : fr + 1 ≤ P.1.frames ∧ 8 + (M'.2.2.1 + 11) + 64 * fr ≤ P.1.locals) (hf : kc + mc ≤ P.1.cells ∧ ks + ms ≤ P.1.slots) (hcat : (rest.map fun v => v.category).sum ≤ 8)
    (kk : ∀ w : va_W, Q' w (.inl none) → G X M P (kc + mc) (ks + ms) (pc + 3) lv rest w) : G X M P kc ks pc lv (.ref b :: rest) ws := by
  intro p e s m args below meth c H locs ls I hP hD hS hl2
  obtain ⟨h0, h1, h2, h3⟩ := hV
  have hts := I.2.2.2.2.2.1
  have hcb := zcb (ix := ix) (mc := mc) (ms := ms) I h0 hl hR
  rw [h1] at hcb
  exact z_run0 I hS hl2 (va_runI (Ts := zW) (own := M.1) (nL := M.2.2.1) (As := []) ⟨I.1, I.2.1, I.2.2.2.1, I.2.2.2.2.1, hts⟩ (con_met hM (fun w E h => by have := hQ _ _ h; cases this)) ⟨hcb, h2, hts _ h3⟩ ⟨zB_blind hX, fun U hU hW => ⟨rfl, zB_at hX I hP hD hS U hU hW⟩⟩ rfl rfl hl2.1 rfl (lv_room hcat) hdg hf) (fun w v h => by have e := hQ _ _ h; cases e; exact kk w h)
/-- an array of boards -/
theorem g_newQ {len ix : Nat} {nv : Int32} (hA : ∀ U, zE X U → va_AO RX0 U) (hdg : decode M.2.1 pc = .ok (.anewarray ix, 3)) (hl : Cond.classLink M.1 ix RX0 ∈ zW) (h0 : ¬ nv < 0) (hn : nv.toNatClampNeg = len) (hlen : len * 4 ≤ 536870912) (hc : kc + 1 ≤ P.1.cells) (hs : ks + len ≤ P.1.slots) (kk : ∀ q : Nat, G X M P (kc + 1) (ks + len) (pc + 3) lv (.ref q :: rest) (ws ++ [(q, aQ X len (fun _ => none))])) : G X M P kc ks pc lv (.int nv :: rest) ws := by
  intro p e s m args below meth c H locs ls I hP hD hS hl2
  refine va_newq (C := RX0) I.1 I.2.1 I.2.2.2.2.1 (I.2.2.2.2.2.1 _ hl) (hA s I.2.2.2.2.2.2.2.2.1) I.2.2.2.2.2.2.2.1 hP hD hS (fun q h => Nat.le_trans I.2.2.2.2.2.2.2.2.2.1 h) h0 hn hlen hc hs hdg (fun q cA H1 hK1 hP1 hD1 hS1 => ?_)
  have e1 : cA = X.2.2.1.2.2.2 := by
    obtain ⟨_, _, _, _, _, r1⟩ := (hK1.2 4 (cA, .object RX0) rfl).2
    obtain ⟨_, _, _, _, _, r2⟩ := (I.2.2.2.2.2.2.2.1.2 3 _ rfl).2
    exact Option.some.inj (r1.symm.trans r2)
  rw [e1] at hP1 hD1
  exact kk q p e s m args below meth c H1 locs ls I hP1 hD1 hS1 hl2
/-- a world of some of these cells, or of cells that are as good, in another order -/
theorem g_subE {ws' : va_W} (i : Nat → Nat) (hi : ∀ k x, ws'[k]? = some x → ∃ y, ws[i k]? = some y ∧ y.1 = x.1 ∧ ∀ H, va_at (zD X) vwCl y H → va_at (zD X) vwCl x H) (hj : ∀ j k, j < ws'.length → k < ws'.length → i j = i k → j = k) (kk : G X M P kc ks pc lv rest ws') : G X M P kc ks pc lv rest ws := by
  intro p e s m args below meth c H locs ls I hP hD hS hl
  refine kk p e s m args below meth c H locs ls I (fun k q hk => ?_) ⟨?_, fun k q hk => ?_⟩ hS hl
  · obtain ⟨y, h1, h2, h3⟩ := hi k q hk
    exact h3 H (hP _ _ h1)
  · intro a b x y ha hb hxy
    obtain ⟨x', h1, h2, -⟩ := hi a x ha
    obtain ⟨y', h4, h5, -⟩ := hi b y hb
    have h := hD.1 (i a) (i b) x' y' h1 h4 (by rw [h2, h5, hxy])
    exact hj a b (List.getElem?_eq_some_iff.mp ha).1 (List.getElem?_eq_some_iff.mp hb).1 h
  · obtain ⟨y, h1, h2, -⟩ := hi k q hk
    rw [← h2]
    exact hD.2 _ _ h1
set_option maxHeartbeats 4000000 in
theorem hw_step (hX : zOK X) {a p mc ms : Nat} {Q : va_W → zO → Prop} {fs : List Value} {R L : va_W} {f : Nat → Option Nat} {i : Int} (hi : 0 ≤ i ∧ i < 6) (hfs : fs[6]? = some (.ref p)) (hc : kc + 7 ≤ mc) (hs : ks + 68 ≤ ms) (kk : ∀ ps : Nat → Nat, G X mX7_init (zPm X 2 mc ms Q) (kc + 1 + 6) (ks + 12 + 56) 134 [(0, .ref a), (1, .int (iI (i + 1)))] [] (((a, .inr (7, fs)) :: R) ++ (p, aQ X 6 (va_up f i.toNat (some (ps 0)))) :: (L ++ zBk X shB zV0B ps))) : G X mX7_init (zPm X 2 mc ms Q) kc ks 134 [(0, .ref a), (1, .int (iI i))] [] (((a, .inr (7, fs)) :: R) ++ (p, aQ X 6 f) :: L) := by
  have hp : ∀ L' : va_W, (((a, .inr (7, fs)) :: R) ++ (p, aQ X 6 f) :: L' : va_W)[R.length + 1]? = some (p, aQ X 6 f) := fun L' => by
    rw [List.getElem?_append_right (by simp)]
    simp
  refine g_iload_n (M := mX7_init) dX7_init_134 1 rfl rfl ?_
  refine g_aload_n (M := mX7_init) dX7_init_135 0 rfl rfl ?_
  refine g_get (M := mX7_init) (v := .ref p) dX7_init_136 kF_X7_43.r 0 rfl hfs ?_
  refine g_alen (M := mX7_init) (t := 3) (v := iI 6) dX7_init_139 (R.length + 1) (hp L) rfl rfl ?_
  refine h_icmp_ge (M := mX7_init) (tgt := 162) dX7_init_140 (by decide) ⟨by omega, by omega⟩ (by decide) (fun c => absurd c (by omega)) (fun c => ?_)
  refine g_aload_n (M := mX7_init) dX7_init_143 0 rfl rfl ?_
  refine g_get (M := mX7_init) (v := .ref p) dX7_init_144 kF_X7_43.r 0 rfl hfs ?_
  refine g_iload_n (M := mX7_init) dX7_init_147 1 rfl rfl ?_
  refine g_new (M := mX7_init) dX7_init_148 kN_X7_30 (by show _ ≤ mc; omega) (by show _ ≤ ms; omega) (fun q => ?_)
  refine g_dup (M := mX7_init) dX7_init_151 rfl ?_
  refine o_callN (M := mX7_init) hX dX7_init_152 vX0_init rfl (List.mem_of_getElem? (i := 3) rfl) wX0_init ⟨Nat.le_of_ble_eq_true rfl, Nat.le_of_ble_eq_true rfl⟩ ⟨by show _ ≤ mc; omega, by show _ ≤ ms; omega⟩ (Nat.le_of_ble_eq_true rfl) (fun ps hps => ?_)
  subst hps
  have hn : (iI i).toNatClampNeg = i.toNat := by have := iI_idx hi.1 (show i < 2147483648 by omega); omega
  refine g_ws (M := mX7_init) (ws' := ((a, .inr (7, fs)) :: R) ++ (p, aQ X 6 f) :: (L ++ zBk X shB zV0B ps)) (by simp only [List.append_assoc, List.cons_append]) ?_
  refine g_aast (M := mX7_init) (f := f) (qk := R.length + 1 + 1 + L.length) (vs := oFs ps 0 zV0B shB.2.1) dX7_init_155 (R.length + 1) (hp _) ?_ (iI_in hi.1 hi.2 (by decide)) ?_
  · rw [List.getElem?_append_right (by simp; omega)]
    rw [List.length_cons, show R.length + 1 + 1 + L.length - (R.length + 1) = L.length + 1 by omega, List.getElem?_cons_succ, List.getElem?_append_right (Nat.le_refl _), Nat.sub_self]
    rfl
  rw [hn]
  refine g_ws (M := mX7_init) (ws' := ((a, .inr (7, fs)) :: R) ++ (p, aQ X 6 (va_up f i.toNat (some (ps 0)))) :: (L ++ zBk X shB zV0B ps)) ?_ ?_
  · rw [List.set_append_right _ _ (by simp)]
    simp
  refine h_iinc (M := mX7_init) (j := 1) (lv' := [(0, .ref a), (1, .int (iI (i + 1)))]) dX7_init_156 rfl (Nat.le_of_ble_eq_true rfl) rfl ?_
  refine g_goto (M := mX7_init) (tgt := 134) dX7_init_159 (by decide) ?_
  exact kk ps
/-- the cells of a new HiddenWords, in the order in which they are made -/
def zHl (X : zX) (a p r : Nat) (B : Nat → Nat → Nat) : va_W := ((a, .inr (7, [.ref (B 1 0), .ref (B 2 0), .ref (B 3 0), .ref (B 4 0), .ref (B 5 0), .ref (B 6 0), .ref p, .ref (B 7 0), .ref (B 8 0), .ref (B 9 0), .ref (B 10 0), .ref r, .int 0, .int 0, .int 0, .int 0])) :: (zBk X shTo zV0T (B 1) ++ (zBk X shRd zV0 (B 2) ++ (zBk X shSc zV0 (B 3) ++ (zBk X shB zV0B (B 4) ++ (zBk X shB zV0B (B 5) ++ (zBk X shB zV0B (B 6)))))))) ++ (p, aQ X 6 (va_up (va_up (va_up (va_up (va_up (va_up (fun _ => none) 0 (some (B 11 0))) 1 (some (B 12 0))) 2 (some (B 13 0))) 3 (some (B 14 0))) 4 (some (B 15 0))) 5 (some (B 16 0)))) :: (((((((zBk X shSe zV0 (B 7) ++ (zBk X shSe zV0 (B 8) ++ (zBk X shP zV0 (B 9) ++ (zBk X shTa zV0 (B 10) ++ ([(r, zArr X (2, 410) (fun _ => 0))]))))) ++ zBk X shB zV0B (B 11)) ++ zBk X shB zV0B (B 12)) ++ zBk X shB zV0B (B 13)) ++ zBk X shB zV0B (B 14)) ++ zBk X shB zV0B (B 15)) ++ zBk X shB zV0B (B 16))
def zHq (X : zX) (a : Nat) : va_W → zO → Prop := fun w o => o = .inl none ∧ ∃ (p r : Nat) (B : Nat → Nat → Nat), w = zHl X a p r B
set_option maxHeartbeats 8000000 in
set_option maxRecDepth 100000 in
theorem wX7_init (hX : zOK X) (hA : ∀ U, zE X U → va_AO RX0 U) {a : Nat} : Con X yX7_init mX7_init 2 90 1957 [.ref a] [(a, .inr (7, [.null, .null, .null, .null, .null, .null, .null, .null, .null, .null, .null, .null, .int 0, .int 0, .int 0, .int 0]))] (zHq X a) := by
  refine con_of (lv := [(0, .ref a)]) (by decide) rfl (fun _ => rfl) rfl (Nat.le_of_ble_eq_true rfl) rfl ?_
  refine g_aload_n (M := mX7_init) dX7_init_0 0 rfl rfl ?_
  refine g_objInit (M := mX7_init) dX7_init_1 kM_X7_3 kZ_objI kZ_objC (Nat.le_of_ble_eq_true rfl) (Nat.le_of_ble_eq_true rfl) ?_
  refine g_aload_n (M := mX7_init) dX7_init_4 0 rfl rfl ?_
  refine g_new (M := mX7_init) dX7_init_5 kN_X7_9 (Nat.le_of_ble_eq_true rfl) (Nat.le_of_ble_eq_true rfl) (fun q1 => ?_)
  refine g_dup (M := mX7_init) dX7_init_8 rfl ?_
  refine o_callN (M := mX7_init) hX dX7_init_9 vX6_init rfl (List.mem_of_getElem? (i := 0) rfl) wX6_init ⟨(Nat.le_of_ble_eq_true rfl), (Nat.le_of_ble_eq_true rfl)⟩ ⟨(Nat.le_of_ble_eq_true rfl), (Nat.le_of_ble_eq_true rfl)⟩ (Nat.le_of_ble_eq_true rfl) (fun p1 h1 => ?_)
  subst h1
  refine o_putF (M := mX7_init) (W := []) (l := zBk X shTo zV0T p1) (fs' := [.ref (p1 0), .null, .null, .null, .null, .null, .null, .null, .null, .null, .null, .null, .int 0, .int 0, .int 0, .int 0]) dX7_init_12 kF_X7_12 rfl rfl rfl rfl (Nat.le_of_ble_eq_true rfl) rfl ?_
  refine g_aload_n (M := mX7_init) dX7_init_15 0 rfl rfl ?_
  refine g_new (M := mX7_init) dX7_init_16 kN_X7_16 (Nat.le_of_ble_eq_true rfl) (Nat.le_of_ble_eq_true rfl) (fun q2 => ?_)
  refine g_dup (M := mX7_init) dX7_init_19 rfl ?_
  refine o_callN (M := mX7_init) hX dX7_init_20 vX5_init rfl (List.mem_of_getElem? (i := 1) rfl) wX5_init ⟨(Nat.le_of_ble_eq_true rfl), (Nat.le_of_ble_eq_true rfl)⟩ ⟨(Nat.le_of_ble_eq_true rfl), (Nat.le_of_ble_eq_true rfl)⟩ (Nat.le_of_ble_eq_true rfl) (fun p2 h2 => ?_)
  subst h2
  refine o_putF (M := mX7_init) (W := []) (l := (zBk X shTo zV0T p1 ++ zBk X shRd zV0 p2)) (fs' := [.ref (p1 0), .ref (p2 0), .null, .null, .null, .null, .null, .null, .null, .null, .null, .null, .int 0, .int 0, .int 0, .int 0]) dX7_init_23 kF_X7_19 rfl rfl rfl rfl (Nat.le_of_ble_eq_true rfl) rfl ?_
  refine g_aload_n (M := mX7_init) dX7_init_26 0 rfl rfl ?_
  refine g_new (M := mX7_init) dX7_init_27 kN_X7_23 (Nat.le_of_ble_eq_true rfl) (Nat.le_of_ble_eq_true rfl) (fun q3 => ?_)
  refine g_dup (M := mX7_init) dX7_init_30 rfl ?_
  refine o_callN (M := mX7_init) hX dX7_init_31 vX2_init rfl (List.mem_of_getElem? (i := 2) rfl) wX2_init ⟨(Nat.le_of_ble_eq_true rfl), (Nat.le_of_ble_eq_true rfl)⟩ ⟨(Nat.le_of_ble_eq_true rfl), (Nat.le_of_ble_eq_true rfl)⟩ (Nat.le_of_ble_eq_true rfl) (fun p3 h3 => ?_)
  subst h3
  refine o_putF (M := mX7_init) (W := []) (l := ((zBk X shTo zV0T p1 ++ zBk X shRd zV0 p2) ++ zBk X shSc zV0 p3)) (fs' := [.ref (p1 0), .ref (p2 0), .ref (p3 0), .null, .null, .null, .null, .null, .null, .null, .null, .null, .int 0, .int 0, .int 0, .int 0]) dX7_init_34 kF_X7_26 rfl rfl rfl rfl (Nat.le_of_ble_eq_true rfl) rfl ?_
  refine g_aload_n (M := mX7_init) dX7_init_37 0 rfl rfl ?_
  refine g_new (M := mX7_init) dX7_init_38 kN_X7_30 (Nat.le_of_ble_eq_true rfl) (Nat.le_of_ble_eq_true rfl) (fun q4 => ?_)
  refine g_dup (M := mX7_init) dX7_init_41 rfl ?_
  refine o_callN (M := mX7_init) hX dX7_init_42 vX0_init rfl (List.mem_of_getElem? (i := 3) rfl) wX0_init ⟨(Nat.le_of_ble_eq_true rfl), (Nat.le_of_ble_eq_true rfl)⟩ ⟨(Nat.le_of_ble_eq_true rfl), (Nat.le_of_ble_eq_true rfl)⟩ (Nat.le_of_ble_eq_true rfl) (fun p4 h4 => ?_)
  subst h4
  refine o_putF (M := mX7_init) (W := []) (l := (((zBk X shTo zV0T p1 ++ zBk X shRd zV0 p2) ++ zBk X shSc zV0 p3) ++ zBk X shB zV0B p4)) (fs' := [.ref (p1 0), .ref (p2 0), .ref (p3 0), .ref (p4 0), .null, .null, .null, .null, .null, .null, .null, .null, .int 0, .int 0, .int 0, .int 0]) dX7_init_45 kF_X7_33 rfl rfl rfl rfl (Nat.le_of_ble_eq_true rfl) rfl ?_
  refine g_aload_n (M := mX7_init) dX7_init_48 0 rfl rfl ?_
  refine g_new (M := mX7_init) dX7_init_49 kN_X7_30 (Nat.le_of_ble_eq_true rfl) (Nat.le_of_ble_eq_true rfl) (fun q5 => ?_)
  refine g_dup (M := mX7_init) dX7_init_52 rfl ?_
  refine o_callN (M := mX7_init) hX dX7_init_53 vX0_init rfl (List.mem_of_getElem? (i := 3) rfl) wX0_init ⟨(Nat.le_of_ble_eq_true rfl), (Nat.le_of_ble_eq_true rfl)⟩ ⟨(Nat.le_of_ble_eq_true rfl), (Nat.le_of_ble_eq_true rfl)⟩ (Nat.le_of_ble_eq_true rfl) (fun p5 h5 => ?_)
  subst h5
  refine o_putF (M := mX7_init) (W := []) (l := ((((zBk X shTo zV0T p1 ++ zBk X shRd zV0 p2) ++ zBk X shSc zV0 p3) ++ zBk X shB zV0B p4) ++ zBk X shB zV0B p5)) (fs' := [.ref (p1 0), .ref (p2 0), .ref (p3 0), .ref (p4 0), .ref (p5 0), .null, .null, .null, .null, .null, .null, .null, .int 0, .int 0, .int 0, .int 0]) dX7_init_56 kF_X7_37 rfl rfl rfl rfl (Nat.le_of_ble_eq_true rfl) rfl ?_
  refine g_aload_n (M := mX7_init) dX7_init_59 0 rfl rfl ?_
  refine g_new (M := mX7_init) dX7_init_60 kN_X7_30 (Nat.le_of_ble_eq_true rfl) (Nat.le_of_ble_eq_true rfl) (fun q6 => ?_)
  refine g_dup (M := mX7_init) dX7_init_63 rfl ?_
  refine o_callN (M := mX7_init) hX dX7_init_64 vX0_init rfl (List.mem_of_getElem? (i := 3) rfl) wX0_init ⟨(Nat.le_of_ble_eq_true rfl), (Nat.le_of_ble_eq_true rfl)⟩ ⟨(Nat.le_of_ble_eq_true rfl), (Nat.le_of_ble_eq_true rfl)⟩ (Nat.le_of_ble_eq_true rfl) (fun p6 h6 => ?_)
  subst h6
  refine o_putF (M := mX7_init) (W := []) (l := (((((zBk X shTo zV0T p1 ++ zBk X shRd zV0 p2) ++ zBk X shSc zV0 p3) ++ zBk X shB zV0B p4) ++ zBk X shB zV0B p5) ++ zBk X shB zV0B p6)) (fs' := [.ref (p1 0), .ref (p2 0), .ref (p3 0), .ref (p4 0), .ref (p5 0), .ref (p6 0), .null, .null, .null, .null, .null, .null, .int 0, .int 0, .int 0, .int 0]) dX7_init_67 kF_X7_40 rfl rfl rfl rfl (Nat.le_of_ble_eq_true rfl) rfl ?_
  refine g_aload_n (M := mX7_init) dX7_init_70 0 rfl rfl ?_
  refine h_bipush (M := mX7_init) dX7_init_71 rfl ?_
  refine g_newQ (M := mX7_init) (len := 6) hA dX7_init_73 kK_X7_30 (by decide) (by decide) (Nat.le_of_ble_eq_true rfl) (Nat.le_of_ble_eq_true rfl) (Nat.le_of_ble_eq_true rfl) (fun p => ?_)
  refine o_putF (M := mX7_init) (W := []) (l := ((((((zBk X shTo zV0T p1 ++ zBk X shRd zV0 p2) ++ zBk X shSc zV0 p3) ++ zBk X shB zV0B p4) ++ zBk X shB zV0B p5) ++ zBk X shB zV0B p6) ++ [(p, aQ X 6 (fun _ => none))])) (fs' := [.ref (p1 0), .ref (p2 0), .ref (p3 0), .ref (p4 0), .ref (p5 0), .ref (p6 0), .ref p, .null, .null, .null, .null, .null, .int 0, .int 0, .int 0, .int 0]) dX7_init_76 kF_X7_43 rfl rfl rfl rfl (Nat.le_of_ble_eq_true rfl) rfl ?_
  refine g_aload_n (M := mX7_init) dX7_init_79 0 rfl rfl ?_
  refine g_new (M := mX7_init) dX7_init_80 kN_X7_47 (Nat.le_of_ble_eq_true rfl) (Nat.le_of_ble_eq_true rfl) (fun q7 => ?_)
  refine g_dup (M := mX7_init) dX7_init_83 rfl ?_
  refine o_callN (M := mX7_init) hX dX7_init_84 vX3_init rfl (List.mem_of_getElem? (i := 4) rfl) wX3_init ⟨(Nat.le_of_ble_eq_true rfl), (Nat.le_of_ble_eq_true rfl)⟩ ⟨(Nat.le_of_ble_eq_true rfl), (Nat.le_of_ble_eq_true rfl)⟩ (Nat.le_of_ble_eq_true rfl) (fun p7 h7 => ?_)
  subst h7
  refine o_putF (M := mX7_init) (W := []) (l := (((((((zBk X shTo zV0T p1 ++ zBk X shRd zV0 p2) ++ zBk X shSc zV0 p3) ++ zBk X shB zV0B p4) ++ zBk X shB zV0B p5) ++ zBk X shB zV0B p6) ++ [(p, aQ X 6 (fun _ => none))]) ++ zBk X shSe zV0 p7)) (fs' := [.ref (p1 0), .ref (p2 0), .ref (p3 0), .ref (p4 0), .ref (p5 0), .ref (p6 0), .ref p, .ref (p7 0), .null, .null, .null, .null, .int 0, .int 0, .int 0, .int 0]) dX7_init_87 kF_X7_50 rfl rfl rfl rfl (Nat.le_of_ble_eq_true rfl) rfl ?_
  refine g_aload_n (M := mX7_init) dX7_init_90 0 rfl rfl ?_
  refine g_new (M := mX7_init) dX7_init_91 kN_X7_47 (Nat.le_of_ble_eq_true rfl) (Nat.le_of_ble_eq_true rfl) (fun q8 => ?_)
  refine g_dup (M := mX7_init) dX7_init_94 rfl ?_
  refine o_callN (M := mX7_init) hX dX7_init_95 vX3_init rfl (List.mem_of_getElem? (i := 4) rfl) wX3_init ⟨(Nat.le_of_ble_eq_true rfl), (Nat.le_of_ble_eq_true rfl)⟩ ⟨(Nat.le_of_ble_eq_true rfl), (Nat.le_of_ble_eq_true rfl)⟩ (Nat.le_of_ble_eq_true rfl) (fun p8 h8 => ?_)
  subst h8
  refine o_putF (M := mX7_init) (W := []) (l := ((((((((zBk X shTo zV0T p1 ++ zBk X shRd zV0 p2) ++ zBk X shSc zV0 p3) ++ zBk X shB zV0B p4) ++ zBk X shB zV0B p5) ++ zBk X shB zV0B p6) ++ [(p, aQ X 6 (fun _ => none))]) ++ zBk X shSe zV0 p7) ++ zBk X shSe zV0 p8)) (fs' := [.ref (p1 0), .ref (p2 0), .ref (p3 0), .ref (p4 0), .ref (p5 0), .ref (p6 0), .ref p, .ref (p7 0), .ref (p8 0), .null, .null, .null, .int 0, .int 0, .int 0, .int 0]) dX7_init_98 kF_X7_54 rfl rfl rfl rfl (Nat.le_of_ble_eq_true rfl) rfl ?_
  refine g_aload_n (M := mX7_init) dX7_init_101 0 rfl rfl ?_
  refine g_new (M := mX7_init) dX7_init_102 kN_X7_57 (Nat.le_of_ble_eq_true rfl) (Nat.le_of_ble_eq_true rfl) (fun q9 => ?_)
  refine g_dup (M := mX7_init) dX7_init_105 rfl ?_
  refine o_callN (M := mX7_init) hX dX7_init_106 vX1_init rfl (List.mem_of_getElem? (i := 5) rfl) wX1_init ⟨(Nat.le_of_ble_eq_true rfl), (Nat.le_of_ble_eq_true rfl)⟩ ⟨(Nat.le_of_ble_eq_true rfl), (Nat.le_of_ble_eq_true rfl)⟩ (Nat.le_of_ble_eq_true rfl) (fun p9 h9 => ?_)
  subst h9
  refine o_putF (M := mX7_init) (W := []) (l := (((((((((zBk X shTo zV0T p1 ++ zBk X shRd zV0 p2) ++ zBk X shSc zV0 p3) ++ zBk X shB zV0B p4) ++ zBk X shB zV0B p5) ++ zBk X shB zV0B p6) ++ [(p, aQ X 6 (fun _ => none))]) ++ zBk X shSe zV0 p7) ++ zBk X shSe zV0 p8) ++ zBk X shP zV0 p9)) (fs' := [.ref (p1 0), .ref (p2 0), .ref (p3 0), .ref (p4 0), .ref (p5 0), .ref (p6 0), .ref p, .ref (p7 0), .ref (p8 0), .ref (p9 0), .null, .null, .int 0, .int 0, .int 0, .int 0]) dX7_init_109 kF_X7_60 rfl rfl rfl rfl (Nat.le_of_ble_eq_true rfl) rfl ?_
  refine g_aload_n (M := mX7_init) dX7_init_112 0 rfl rfl ?_
  refine g_new (M := mX7_init) dX7_init_113 kN_X7_64 (Nat.le_of_ble_eq_true rfl) (Nat.le_of_ble_eq_true rfl) (fun q10 => ?_)
  refine g_dup (M := mX7_init) dX7_init_116 rfl ?_
  refine o_callN (M := mX7_init) hX dX7_init_117 vX4_init rfl (List.mem_of_getElem? (i := 6) rfl) wX4_init ⟨(Nat.le_of_ble_eq_true rfl), (Nat.le_of_ble_eq_true rfl)⟩ ⟨(Nat.le_of_ble_eq_true rfl), (Nat.le_of_ble_eq_true rfl)⟩ (Nat.le_of_ble_eq_true rfl) (fun p10 h10 => ?_)
  subst h10
  refine o_putF (M := mX7_init) (W := []) (l := ((((((((((zBk X shTo zV0T p1 ++ zBk X shRd zV0 p2) ++ zBk X shSc zV0 p3) ++ zBk X shB zV0B p4) ++ zBk X shB zV0B p5) ++ zBk X shB zV0B p6) ++ [(p, aQ X 6 (fun _ => none))]) ++ zBk X shSe zV0 p7) ++ zBk X shSe zV0 p8) ++ zBk X shP zV0 p9) ++ zBk X shTa zV0 p10)) (fs' := [.ref (p1 0), .ref (p2 0), .ref (p3 0), .ref (p4 0), .ref (p5 0), .ref (p6 0), .ref p, .ref (p7 0), .ref (p8 0), .ref (p9 0), .ref (p10 0), .null, .int 0, .int 0, .int 0, .int 0]) dX7_init_120 kF_X7_67 rfl rfl rfl rfl (Nat.le_of_ble_eq_true rfl) rfl ?_
  refine g_aload_n (M := mX7_init) dX7_init_123 0 rfl rfl ?_
  refine h_sipush (M := mX7_init) dX7_init_124 rfl ?_
  refine g_newB (M := mX7_init) (len := 410) dX7_init_127 kZ_arr_byte (by decide) (by decide) (Nat.le_of_ble_eq_true rfl) (Nat.le_of_ble_eq_true rfl) (Nat.le_of_ble_eq_true rfl) (fun r => ?_)
  refine o_putF (M := mX7_init) (W := []) (l := (((((((((((zBk X shTo zV0T p1 ++ zBk X shRd zV0 p2) ++ zBk X shSc zV0 p3) ++ zBk X shB zV0B p4) ++ zBk X shB zV0B p5) ++ zBk X shB zV0B p6) ++ [(p, aQ X 6 (fun _ => none))]) ++ zBk X shSe zV0 p7) ++ zBk X shSe zV0 p8) ++ zBk X shP zV0 p9) ++ zBk X shTa zV0 p10) ++ [(r, aB X 410 (fun _ => 0))])) (fs' := [.ref (p1 0), .ref (p2 0), .ref (p3 0), .ref (p4 0), .ref (p5 0), .ref (p6 0), .ref p, .ref (p7 0), .ref (p8 0), .ref (p9 0), .ref (p10 0), .ref r, .int 0, .int 0, .int 0, .int 0]) dX7_init_129 kF_X7_71 rfl rfl rfl rfl (Nat.le_of_ble_eq_true rfl) rfl ?_
  refine g_ws (M := mX7_init) (ws' := ((a, .inr (7, [.ref (p1 0), .ref (p2 0), .ref (p3 0), .ref (p4 0), .ref (p5 0), .ref (p6 0), .ref p, .ref (p7 0), .ref (p8 0), .ref (p9 0), .ref (p10 0), .ref r, .int 0, .int 0, .int 0, .int 0])) :: (zBk X shTo zV0T p1 ++ (zBk X shRd zV0 p2 ++ (zBk X shSc zV0 p3 ++ (zBk X shB zV0B p4 ++ (zBk X shB zV0B p5 ++ (zBk X shB zV0B p6))))))) ++ (p, aQ X 6 (fun _ => none)) :: (zBk X shSe zV0 p7 ++ (zBk X shSe zV0 p8 ++ (zBk X shP zV0 p9 ++ (zBk X shTa zV0 p10 ++ ([(r, zArr X (2, 410) (fun _ => 0))])))))) (by rw [← zArr_0B]; simp only [List.append_assoc, List.cons_append, List.nil_append, List.append_nil]) ?_
  refine h_iconst (M := mX7_init) dX7_init_132 ?_
  refine g_istore_n (M := mX7_init) (lv' := [(0, .ref a), (1, .int (iI 0))]) dX7_init_133 rfl (Nat.le_of_ble_eq_true rfl) rfl ?_
  refine hw_step hX (i := 0) (by decide) rfl (Nat.le_of_ble_eq_true rfl) (Nat.le_of_ble_eq_true rfl) (fun p11 => ?_)
  refine hw_step hX (i := 1) (by decide) rfl (Nat.le_of_ble_eq_true rfl) (Nat.le_of_ble_eq_true rfl) (fun p12 => ?_)
  refine hw_step hX (i := 2) (by decide) rfl (Nat.le_of_ble_eq_true rfl) (Nat.le_of_ble_eq_true rfl) (fun p13 => ?_)
  refine hw_step hX (i := 3) (by decide) rfl (Nat.le_of_ble_eq_true rfl) (Nat.le_of_ble_eq_true rfl) (fun p14 => ?_)
  refine hw_step hX (i := 4) (by decide) rfl (Nat.le_of_ble_eq_true rfl) (Nat.le_of_ble_eq_true rfl) (fun p15 => ?_)
  refine hw_step hX (i := 5) (by decide) rfl (Nat.le_of_ble_eq_true rfl) (Nat.le_of_ble_eq_true rfl) (fun p16 => ?_)
  refine g_iload_n (M := mX7_init) dX7_init_134 1 rfl rfl ?_
  refine g_aload_n (M := mX7_init) dX7_init_135 0 rfl rfl ?_
  refine g_get (M := mX7_init) (v := .ref p) dX7_init_136 kF_X7_43.r 0 rfl rfl ?_
  refine g_alen (M := mX7_init) (t := 3) (v := iI 6) dX7_init_139 31 rfl rfl rfl ?_
  refine h_icmp_ge (M := mX7_init) (tgt := 162) dX7_init_140 (by decide) (by decide) (by decide) (fun c => ?_) (fun c => absurd c (by decide))
  exact g_vret (M := mX7_init) dX7_init_162 rfl (Nat.le_of_ble_eq_true rfl) (Nat.le_of_ble_eq_true rfl) ⟨rfl, p, r, fun j => match j with | 1 => p1 | 2 => p2 | 3 => p3 | 4 => p4 | 5 => p5 | 6 => p6 | 7 => p7 | 8 => p8 | 9 => p9 | 10 => p10 | 11 => p11 | 12 => p12 | 13 => p13 | 14 => p14 | 15 => p15 | _ => p16, rfl⟩
end ZHW
