section ZFC
variable {s U : State}
/-- what lies outside the region: the entry's heap below the base, and what the entry's machine is good for -/
def zfE (s : State) : State → Prop := fun U => s.WarmedH U.vm ∧ (∀ q : Nat, q < s.heap.size → U.heap[q]? = s.heap[q]?) ∧ s.heap.size ≤ U.heap.size
theorem zfE_s : zfE s s := ⟨State.WarmedH.refl s, fun _ _ => rfl, Nat.le_refl _⟩
theorem zfE_t {u : State} (h : zfE s u) (hW : u.WarmedH U.vm) (hk : ∀ q : Nat, q < u.heap.size → ¬ s.heap.size ≤ q → U.heap[q]? = u.heap[q]?) (hn : u.heap.size ≤ U.heap.size) : zfE s U := ⟨State.WarmedH.trans h.1 hW, fun q hq => (hk q (Nat.lt_of_lt_of_le hq h.2.2) (Nat.not_le.mpr hq)).trans (h.2.1 q hq), Nat.le_trans h.2.2 hn⟩
theorem zfE_h (h : zfE s U) : ∀ a : Nat, a < s.heap.size → ¬ s.heap.size ≤ a → U.heap[a]? = s.heap[a]? := fun a ha _ => h.2.1 a ha
theorem zfA : ∀ a : Nat, a < s.heap.size → ¬ s.heap.size ≤ a := fun _ h => Nat.not_le.mpr h
theorem zf_Z {C n d : String} {v : Value} (h : va_Z C n d v (fun q => s.heap.size ≤ q) s s.heap) (hU : zfE s U) : va_Z C n d v (fun q => s.heap.size ≤ q) U U.heap := (va_Z.moved hU.1.alike h).kept (zfE_h hU)
theorem zf_Zq {C n d : String} (h : vx_Zq C n d (fun q => s.heap.size ≤ q) s s.heap) (hU : zfE s U) : vx_Zq C n d (fun q => s.heap.size ≤ q) U U.heap := (vx_Zq.moved hU.1.alike h).kept (zfE_h hU)
theorem zf_O {E : String} {t : Nat} (h : va_O E t (fun q => s.heap.size ≤ q) s s.heap) (hU : zfE s U) : va_O E t (fun q => s.heap.size ≤ q) U U.heap := (va_O.moved hU.1.alike h).kept (zfE_h hU)
theorem zf_OF {o n d : String} {v : Value} {t : Nat} (h : va_OF o n d v t (fun q => s.heap.size ≤ q) s s.heap) (hU : zfE s U) : va_OF o n d v t (fun q => s.heap.size ≤ q) U U.heap := (va_OF.moved hU.1.alike h).kept (zfE_h hU)
theorem zf_T {ty : FieldType} {t N : Nat} {f : Nat → Value} (h : va_T ty t N f (fun q => s.heap.size ≤ q) s s.heap) (hU : zfE s U) : va_T ty t N f (fun q => s.heap.size ≤ q) U U.heap := (va_T.moved hU.1.alike h).kept (zfE_h hU)
/-- where the String constants lie -/
def zfAd (s : State) : String × Nat → Nat := fun q => match (Term.string q.1 q.2).eval #[] s none [] s with
  | some (.ref a) => a
  | _ => 0
def zfX (l : Launch) (D : va_G) (cs : ClassId × ClassId × ClassId × ClassId) (s : State) : zX := (l, D, cs, s.heap.size, zfE s, zfAd s)
def zfG : List Cond := flatC (Jvm.Cond.and given_1 narrow_1)
def zsW (c : String) (k : Nat) (tx : String) : List Cond := [.eq (.field (.string c k) "java/lang/String" "coder" "B") (.int (iI 0)), .arrayOf (.field (.string c k) "java/lang/String" "value" "[B") .byte, .eq (.length (.field (.string c k) "java/lang/String" "value" "[B")) (.int (Int32.ofNat (zTx tx).length))] ++ (List.range (zTx tx).length).map (fun j => .eq (.elem (.field (.string c k) "java/lang/String" "value" "[B") (.int (Int32.ofNat j))) (.int (iI ((zTx tx).getD j 0))))
theorem zg_ex1 : ∀ q ∈ zStr, Cond.exactly (.string q.1 q.2.1) "java/lang/String" ∈ zfG := by decide +kernel
theorem zg_ex2 : ∀ q ∈ zWrd, Cond.exactly (.string q.1 q.2.1) "java/lang/String" ∈ zfG := by decide +kernel
theorem zg_sw : ∀ q ∈ zWrd, ∀ w ∈ zsW q.1 q.2.1 q.2.2, w ∈ zfG := by decide +kernel
theorem zg_st1 : Cond.isRef (.static Bundle.tN "UNASSIGNED_STACK" Bundle.steD) ∈ zfG := by decide +kernel
theorem zg_st2 : Cond.isRef (.static Bundle.tN "SUPPRESSED_SENTINEL" Bundle.listD) ∈ zfG := by decide +kernel
theorem zg_fmt : Cond.isRef (.static "jdk/internal/util/Preconditions" "SIOOBE_FORMATTER" "Ljava/util/function/BiFunction;") ∈ zfG := by decide +kernel
theorem zg_cs : Cond.eq (.static "java/lang/String" "COMPACT_STRINGS" "Z") (.int (iI 1)) ∈ zfG := by decide +kernel
theorem zg_nc : ∀ E ∈ ["java/lang/IllegalStateException", "java/lang/IllegalArgumentException"], Cond.not (.castable E "java/lang/IndexOutOfBoundsException") ∈ zfG := by decide +kernel
theorem zt_sr1 : ∀ q ∈ zStr, Cond.stringRef q.1 q.2.1 q.2.2 ∈ lw_tbl := by decide +kernel
theorem zt_sr2 : ∀ q ∈ zWrd, Cond.stringRef q.1 q.2.1 q.2.2 ∈ lw_tbl := by decide +kernel
theorem zt_nest : ∀ q ∈ zNest, Cond.methodLinkNest RX7 q.1 q.2 RX7 ∈ lw_tbl := by decide +kernel
theorem zt_cast : ∀ q ∈ zExc, Cond.castable q.1 q.1 ∈ lw_tbl := by decide +kernel
theorem zt_exc : ∀ q ∈ zExc, ∀ w ∈ (vx_atS RX7 q.2 q.1 zExN).filter (fun w => !goodWord w), w ∈ lw_tbl := by decide +kernel
theorem zt_st1 : Cond.laysStatic Bundle.tN "UNASSIGNED_STACK" Bundle.steD ∈ lw_tbl := by decide +kernel
theorem zt_st2 : Cond.laysStatic Bundle.tN "SUPPRESSED_SENTINEL" Bundle.listD ∈ lw_tbl := by decide +kernel
theorem zt_ini1 : Cond.initialized Bundle.tN ∈ lw_tbl := by decide +kernel
theorem zt_cs : Cond.laysStatic "java/lang/String" "COMPACT_STRINGS" "Z" ∈ lw_tbl := by decide +kernel
theorem zt_fmt : Cond.laysStatic "jdk/internal/util/Preconditions" "SIOOBE_FORMATTER" "Ljava/util/function/BiFunction;" ∈ lw_tbl := by decide +kernel
theorem zt_ini2 : Cond.initialized "java/lang/String" ∈ lw_tbl := by decide +kernel
theorem zt_ini3 : Cond.initialized "jdk/internal/util/Preconditions" ∈ lw_tbl := by decide +kernel
theorem zt_over : Cond.arrayOver (.object RX0) ∈ lw_tbl := by decide +kernel
theorem zt_inst : ∀ q ∈ vwCl, Cond.instantiable q.1 q.2.2 ∈ lw_tbl := by decide +kernel
theorem zst_len : ∀ q ∈ zWrd, (zTx q.2.2).length < 1000 ∧ ∀ b ∈ zTx q.2.2, 0 ≤ b ∧ b < 128 := by decide +kernel
def zkk : Cond → Bool
  | .castable _ _ => true
  | .declares _ => true
  | _ => false
theorem zkk_ok : ∀ q ∈ zExc, ∀ w ∈ (vx_atS RX7 q.2 q.1 zExN).filter (fun w => !goodWord w), zkk w = true := by decide +kernel
theorem zkk_w {w : Cond} {A : Array Value} (hk : zkk w = true) (hw : w.before A s = true) (hW : s.WarmedH U.vm) (B : Array Value) : w.before B U = true := by
  cases w with
  | castable C T => exact va_Nw.use rfl (va_Nw.warmC hW (va_Nw.of rfl hw))
  | declares x => exact va_Nw.use rfl (va_Nw.warmD hW (va_Nw.of rfl hw))
  | _ => exact absurd (show false = true from hk) Bool.false_ne_true
theorem zfS {c : String} {k : Nat} {A : Array Value} (hex : (Cond.exactly (.string c k) "java/lang/String").before A s = true) : (Term.string c k).eval A s none [] s = some (.ref (zfAd s (c, k))) ∧ va_O "java/lang/String" (zfAd s (c, k)) (fun q => s.heap.size ≤ q) s s.heap := by
  obtain ⟨a, cc, cA, kA, q1, q2, q3, q4, q5, q6, -⟩ := Cond.exactly_spec (args := A) (first := s) (o := none) (s := s) (idx := []) (t := .string c k) (cls := "java/lang/String") hex
  have e : (Term.string c k).eval #[] s none [] s = some (.ref a) := q1
  have e2 : zfAd s (c, k) = a := by
    unfold zfAd
    dsimp only
    rw [e]
  rw [e2]
  exact ⟨q1, cA, q3, q5, by rw [q6]; exact q2, zfA a (Array.getElem?_eq_some_iff.mp q3).1⟩
variable {l : Launch} {D : va_G} {cs : ClassId × ClassId × ClassId × ClassId} {b : Nat}
theorem zf_OK (hfl : l.stackTraces = false) (hts : ∀ w ∈ lw_tbl, w.before #[Value.ref b] s = true) (hgv : (Jvm.Cond.and given_1 narrow_1).before #[Value.ref b] s = true) : zOK (zfX l D cs s) := by
  have hf : ∀ w ∈ zfG, w.before #[Value.ref b] s = true := flat_of_before _ hgv
  refine ⟨hfl, fun u U hu hW hk hn => zfE_t hu hW hk hn, fun U hU => ⟨?_, ?_⟩, fun U hU q hq w hw A => ?_, fun U hU q hq => ?_, fun U hU q hq => ?_⟩
  · exact zf_Zq (vx_Zqof (hts _ zt_st1) (hts _ zt_ini1) (hf _ zg_st1) zfA) hU
  · exact zf_Zq (vx_Zqof (hts _ zt_st2) (hts _ zt_ini1) (hf _ zg_st2) zfA) hU
  · exact zkk_w (zkk_ok q hq w hw) (hts w (zt_exc q hq w hw)) hU.1 A
  · exact vk_R.warm hU.1 (vk_R.of (hts _ (zt_sr1 q hq)) (zfS (hf _ (zg_ex1 q hq))).1)
  · exact va_Nw.warmM hU.1 (va_Nw.of rfl (hts _ (zt_nest q hq)))
theorem zf_OS (hts : ∀ w ∈ lw_tbl, w.before #[Value.ref b] s = true) (hgv : (Jvm.Cond.and given_1 narrow_1).before #[Value.ref b] s = true) : zOS (zfX l D cs s) := by
  have hf : ∀ w ∈ zfG, w.before #[Value.ref b] s = true := flat_of_before _ hgv
  refine ⟨fun U hU => zf_Z (va_Zof (hts _ zt_cs) (hts _ zt_ini2) (va_eqt (hf _ zg_cs)) zfA) hU, ?_, fun q hq => ⟨fun U hU => ?_, ?_⟩⟩
  · obtain ⟨v, hv, hr⟩ := Cond.isRef_spec (hf _ zg_fmt)
    refine ⟨v, ?_, fun U hU => zf_Z (va_Zof (hts _ zt_fmt) (hts _ zt_ini3) hv zfA) hU⟩
    cases v with
    | null => exact Or.inl rfl
    | ref f => exact Or.inr ⟨f, rfl⟩
    | _ => exact absurd (show false = true from hr) Bool.false_ne_true
  · exact vk_R.warm hU.1 (vk_R.of (hts _ (zt_sr2 q hq)) (zfS (hf _ (zg_ex2 q hq))).1)
  · have hz := zst_len q hq
    have h1 := zfS (hf _ (zg_ex2 q hq))
    have hsw : ∀ w ∈ zsW q.1 q.2.1 q.2.2, w.before #[Value.ref b] s = true := fun w hw => hf _ (zg_sw q hq w hw)
    have hco := hsw _ (List.mem_append_left _ (List.mem_cons_self))
    have har := hsw _ (List.mem_append_left _ (List.mem_cons_of_mem _ (List.mem_cons_self)))
    have hle := hsw _ (List.mem_append_left _ (List.mem_cons_of_mem _ (List.mem_cons_of_mem _ (List.mem_cons_self))))
    have hel : ∀ j : Nat, j < (zTx q.2.2).length → (Cond.eq (.elem (.field (.string q.1 q.2.1) "java/lang/String" "value" "[B") (.int (Int32.ofNat j))) (.int (iI ((zTx q.2.2).getD j 0)))).before #[Value.ref b] s = true := fun j hj => hsw _ (List.mem_append_right _ (List.mem_map.mpr ⟨j, List.mem_range.mpr hj, rfl⟩))
    obtain ⟨t, ht, hT⟩ := va_Tof (f := fun j => .int (iI ((zTx q.2.2).getD j 0))) (A := fun z => s.heap.size ≤ z) (N := (zTx q.2.2).length) (by have := hz.1; omega) har (va_eqt hle) (fun j hj => va_eqt (hel j hj)) zfA
    exact ⟨hz.1, hz.2, t, fun U hU => ⟨zf_O h1.2 hU, zf_OF (vk_OFof h1.1 (va_eqt hco) zfA) hU, zf_OF (vk_OFof h1.1 ht zfA) hU, zf_T hT hU⟩⟩
theorem zf_OL (hts : ∀ w ∈ lw_tbl, w.before #[Value.ref b] s = true) (hgv : (Jvm.Cond.and given_1 narrow_1).before #[Value.ref b] s = true) : zOL (zfX l D cs s) := by
  have hf : ∀ w ∈ zfG, w.before #[Value.ref b] s = true := flat_of_before _ hgv
  exact ⟨fun U hU q hq => va_Nw.warmC hU.1 (va_Nw.of rfl (hts _ (zt_cast q hq))), fun E hE U hU => va_Nc.moved hU.1.alike (va_Nc.of (hf _ (zg_nc E hE)))⟩
theorem zf_k {C : String} {T : u_T} {N : Nat} (hts : ∀ w ∈ lw_tbl, w.before #[Value.ref b] s = true) (hin : ∀ w ∈ u_ws C T N, w ∈ zW) (hi : Cond.instantiable C N ∈ lw_tbl) : ∃ p : ClassId × (Nat → Nat), u_Kn s C T N p.1 p.2 := by
  obtain ⟨c, i, h⟩ := u_known (ws := lw_tbl) hts (fun w hw => zW_tbl (hin w hw)) (hts _ hi)
  exact ⟨(c, i), h⟩
theorem zf_K (hts : ∀ w ∈ lw_tbl, w.before #[Value.ref b] s = true) : ∃ D : va_G, ∀ (c : Nat) (q : vw_C), vwCl[c]? = some q → u_Kn s q.1 q.2.1 q.2.2 (D.1 c) (D.2 c) := by
  have hi : ∀ (k : Nat) (q : vw_C), vwCl[k]? = some q → Cond.instantiable q.1 q.2.2 ∈ lw_tbl := fun k q h => zt_inst q (List.mem_of_getElem? h)
  obtain ⟨p0, h0⟩ := zf_k (C := RX0) (T := TX0) (N := 12) hts izX0 (hi 0 (RX0, TX0, 12) rfl)
  have h : ∀ k : Nat, ∃ p : ClassId × (Nat → Nat), ∀ q : vw_C, vwCl[k]? = some q → u_Kn s q.1 q.2.1 q.2.2 p.1 p.2 := by
    intro k
    match k with
    | 0 => exact ⟨p0, fun q hq => by cases hq; exact h0⟩
    | 1 =>
      obtain ⟨p, h⟩ := zf_k (C := RX1) (T := TX1) (N := 3) hts izX1 (hi 1 (RX1, TX1, 3) rfl)
      exact ⟨p, fun q hq => by cases hq; exact h⟩
    | 2 =>
      obtain ⟨p, h⟩ := zf_k (C := RX2) (T := TX2) (N := 7) hts izX2 (hi 2 (RX2, TX2, 7) rfl)
      exact ⟨p, fun q hq => by cases hq; exact h⟩
    | 3 =>
      obtain ⟨p, h⟩ := zf_k (C := RX3) (T := TX3) (N := 13) hts izX3 (hi 3 (RX3, TX3, 13) rfl)
      exact ⟨p, fun q hq => by cases hq; exact h⟩
    | 4 =>
      obtain ⟨p, h⟩ := zf_k (C := RX4) (T := TX4) (N := 2) hts izX4 (hi 4 (RX4, TX4, 2) rfl)
      exact ⟨p, fun q hq => by cases hq; exact h⟩
    | 5 =>
      obtain ⟨p, h⟩ := zf_k (C := RX5) (T := TX5) (N := 1) hts izX5 (hi 5 (RX5, TX5, 1) rfl)
      exact ⟨p, fun q hq => by cases hq; exact h⟩
    | 6 =>
      obtain ⟨p, h⟩ := zf_k (C := RX6) (T := TX6) (N := 8) hts izX6 (hi 6 (RX6, TX6, 8) rfl)
      exact ⟨p, fun q hq => by cases hq; exact h⟩
    | 7 =>
      obtain ⟨p, h⟩ := zf_k (C := RX7) (T := TX7) (N := 16) hts izX7 (hi 7 (RX7, TX7, 16) rfl)
      exact ⟨p, fun q hq => by cases hq; exact h⟩
    | 8 =>
      obtain ⟨p, h⟩ := zf_k (C := RX8) (T := TX8) (N := 49) hts izX8 (hi 8 (RX8, TX8, 49) rfl)
      exact ⟨p, fun q hq => by cases hq; exact h⟩
    | k + 9 => exact ⟨p0, fun q hq => by
      obtain ⟨h, _⟩ := List.getElem?_eq_some_iff.mp hq
      exact absurd h (by show ¬ k + 9 < 9; omega)⟩
  obtain ⟨f, hf⟩ := Classical.axiomOfChoice h
  exact ⟨(fun k => (f k).1, fun k => (f k).2), fun k q hq => hf k q hq⟩
theorem zf_arr {ty : FieldType} (hty : ∀ C, ty ≠ .object C) (hts : ∀ w ∈ lw_tbl, w.before #[Value.ref b] s = true) (hw : Cond.arrayClass ty ∈ zW) : ∃ c : ClassId, ArrOfT s c ty ∧ va_RA s c ty := by
  obtain ⟨c, k, comp, h1, h2, h3⟩ := Cond.arrayClass_spec (hts _ (zW_tbl hw))
  refine ⟨c, fun n z => ⟨fun k h => (by cases h), k, h2, comp, h3⟩, ?_⟩
  unfold va_RA
  cases ty with
  | object C => exact absurd rfl (hty C)
  | _ => exact h1
theorem zf_arq (hts : ∀ w ∈ lw_tbl, w.before #[Value.ref b] s = true) : ∃ c : ClassId, ArrOfT s c (.object RX0) ∧ va_RA s c (.object RX0) := by
  obtain ⟨comp, c, k, h1, _, h3, h4, h5⟩ := Cond.arrayOver_spec (hts _ zt_over)
  exact ⟨c, fun n z => ⟨fun k h => (by cases h), k, h3, comp, h4⟩, k, comp, h3, h4, h1, h5⟩
set_option maxHeartbeats 4000000 in
/-- THE LAW, from its entry -/
theorem whole_start {p : Program} {e : Env} {m : MethodId} {below : List Frame} {meth : Method} {c : Code} (l : Launch) (hflags : l.flags = flags0) {L : Nat} {xs : Nat → Int32} (hL : L ≤ 3072) (htab : c.exceptionTable.toList = []) (C0 : lw_At p s m meth c b L xs) : W p l e room_1 s m #[Value.ref b] below meth c s.heap [] 0 0 (lw_Z below #[Value.ref b] s) (entryFrame m ([Value.ref b] : List Value).toArray 9) := by
  obtain ⟨hx, hb, hr, hml, hown, hts, hXx, hbl, hlocks, hgv⟩ := id C0
  obtain ⟨D, hD⟩ := zf_K hts
  obtain ⟨cI, hI⟩ := zf_arr (ty := .int) (fun C h => by cases h) hts kZ_arr_int
  obtain ⟨cL, hLo⟩ := zf_arr (ty := .long) (fun C h => by cases h) hts kZ_arr_long
  obtain ⟨cB, hB⟩ := zf_arr (ty := .byte) (fun C h => by cases h) hts kZ_arr_byte
  obtain ⟨cQ, hQ⟩ := zf_arq hts
  have hfl : l.stackTraces = false := by
    unfold Launch.stackTraces
    rw [hflags]
    decide +kernel
  have h := l_start (X := zfX l D (cI, cL, cB, cQ) s) ⟨zf_OK hfl hts hgv, zf_OS hts hgv⟩ (zf_OL hts hgv) (fun U hU => va_AO.moved hU.1.alike (va_AO.of (hts _ zt_over))) (fun U hU => (va_X.moved hU.1.alike hXx).kept (hU.2.1 b hbl)) hbl hL
  have hl := lv_entry ([.ref b]) (n := 9) (Nat.le_of_ble_eq_true rfl)
  have harr : ∀ (k : Nat) (q : ClassId × FieldType), (zT (zfX l D (cI, cL, cB, cQ) s))[k]? = some q → ArrOfT s q.1 q.2 ∧ va_RA s q.1 q.2 := by
    intro k q hq
    match k, hq with
    | 0, hq => cases hq; exact hI
    | 1, hq => cases hq; exact hLo
    | 2, hq => cases hq; exact hB
    | 3, hq => cases hq; exact hQ
    | k + 4, hq =>
      obtain ⟨h, _⟩ := List.getElem?_eq_some_iff.mp hq
      exact absurd h (by show ¬ k + 4 < 4; omega)
  rw [lg_entry_eq]
  have hw := h p e s m #[Value.ref b] below meth c s.heap [] _ ⟨hx, hb, hr, hml, hown, fun w hw => hts w (zW_tbl hw), hlocks, ⟨hD, harr⟩, zfE_s, Nat.le_refl _, htab, fun h => by cases h⟩ (fun k q h => by simp at h) ⟨fun i j p q h => (by simp at h), fun k q h => (by simp at h)⟩ va_S.rf hl
  intro T hT Xs
  obtain ⟨t, a, z⟩ := hw T hT Xs
  exact ⟨t, a, z ⟨rfl, rfl⟩⟩
end ZFC
