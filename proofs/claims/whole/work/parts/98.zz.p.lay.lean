section ZLAY
variable {X : zX}
/-- from the layout to the order in which the cells are made -/
def zPi (k : Nat) : Nat := if k = 0 then 0 else if k = 1 then 48 else if k = 2 then 31 else if k < 33 then k - 2 else if k < 49 then k - 1 else k
def zHA (a p r : Nat) (B : Nat → Nat → Nat) (ps : Nat → Nat) (o : Nat) (k : Nat) : Nat := if k = 0 then a else if k = 1 then r else if k = 2 then p else if k < 5 then B 1 (k - 3) else if k < 6 then B 2 (k - 5) else if k < 12 then B 3 (k - 6) else if k < 19 then B 4 (k - 12) else if k < 26 then B 5 (k - 19) else if k < 33 then B 6 (k - 26) else if k < 39 then B 7 (k - 33) else if k < 45 then B 8 (k - 39) else if k < 47 then B 9 (k - 45) else if k < 49 then B 10 (k - 47) else if k < 56 then B 11 (k - 49) else if k < 63 then B 12 (k - 56) else if k < 70 then B 13 (k - 63) else if k < 77 then B 14 (k - 70) else if k < 84 then B 15 (k - 77) else if k < 91 then B 16 (k - 84) else if k < 112 then ps (k - 91) else o
def zs0 : CS := fun i => if i = 1 then zV0T else if i = 4 then zV0B else if i = 5 then zV0B else if i = 6 then zV0B else if i < 11 then zV0 else zV0B
set_option maxHeartbeats 4000000 in
theorem zH_at {a p r : Nat} {B : Nat → Nat → Nat} {ps : Nat → Nat} {o : Nat} {S : Nat → va_E} : ∀ k, k < 91 → k ≠ 2 → (zHl X a p r B)[zPi k]? = some (zHA a p r B ps o k, zSt X (zHA a p r B ps o) zs0 S k) := by
  intro k hk h2
  match k, hk with
  | 0, _ => exact rfl
  | 1, _ => exact rfl
  | 2, _ => exact absurd rfl h2
  | 3, _ => exact rfl
  | 4, _ => exact rfl
  | 5, _ => exact rfl
  | 6, _ => exact rfl
  | 7, _ => exact rfl
  | 8, _ => exact rfl
  | 9, _ => exact rfl
  | 10, _ => exact rfl
  | 11, _ => exact rfl
  | 12, _ => exact rfl
  | 13, _ => exact rfl
  | 14, _ => exact rfl
  | 15, _ => exact rfl
  | 16, _ => exact rfl
  | 17, _ => exact rfl
  | 18, _ => exact rfl
  | 19, _ => exact rfl
  | 20, _ => exact rfl
  | 21, _ => exact rfl
  | 22, _ => exact rfl
  | 23, _ => exact rfl
  | 24, _ => exact rfl
  | 25, _ => exact rfl
  | 26, _ => exact rfl
  | 27, _ => exact rfl
  | 28, _ => exact rfl
  | 29, _ => exact rfl
  | 30, _ => exact rfl
  | 31, _ => exact rfl
  | 32, _ => exact rfl
  | 33, _ => exact rfl
  | 34, _ => exact rfl
  | 35, _ => exact rfl
  | 36, _ => exact rfl
  | 37, _ => exact rfl
  | 38, _ => exact rfl
  | 39, _ => exact rfl
  | 40, _ => exact rfl
  | 41, _ => exact rfl
  | 42, _ => exact rfl
  | 43, _ => exact rfl
  | 44, _ => exact rfl
  | 45, _ => exact rfl
  | 46, _ => exact rfl
  | 47, _ => exact rfl
  | 48, _ => exact rfl
  | 49, _ => exact rfl
  | 50, _ => exact rfl
  | 51, _ => exact rfl
  | 52, _ => exact rfl
  | 53, _ => exact rfl
  | 54, _ => exact rfl
  | 55, _ => exact rfl
  | 56, _ => exact rfl
  | 57, _ => exact rfl
  | 58, _ => exact rfl
  | 59, _ => exact rfl
  | 60, _ => exact rfl
  | 61, _ => exact rfl
  | 62, _ => exact rfl
  | 63, _ => exact rfl
  | 64, _ => exact rfl
  | 65, _ => exact rfl
  | 66, _ => exact rfl
  | 67, _ => exact rfl
  | 68, _ => exact rfl
  | 69, _ => exact rfl
  | 70, _ => exact rfl
  | 71, _ => exact rfl
  | 72, _ => exact rfl
  | 73, _ => exact rfl
  | 74, _ => exact rfl
  | 75, _ => exact rfl
  | 76, _ => exact rfl
  | 77, _ => exact rfl
  | 78, _ => exact rfl
  | 79, _ => exact rfl
  | 80, _ => exact rfl
  | 81, _ => exact rfl
  | 82, _ => exact rfl
  | 83, _ => exact rfl
  | 84, _ => exact rfl
  | 85, _ => exact rfl
  | 86, _ => exact rfl
  | 87, _ => exact rfl
  | 88, _ => exact rfl
  | 89, _ => exact rfl
  | 90, _ => exact rfl
  | k + 91, h => exact absurd h (by omega)
theorem zH_2 {a p r : Nat} {B : Nat → Nat → Nat} : (zHl X a p r B)[31]? = some (p, aQ X 6 (va_up (va_up (va_up (va_up (va_up (va_up (fun _ => none) 0 (some (B 11 0))) 1 (some (B 12 0))) 2 (some (B 13 0))) 3 (some (B 14 0))) 4 (some (B 15 0))) 5 (some (B 16 0)))) := rfl
theorem zPi_j {j k : Nat} (hj : j < 91) (hk : k < 91) (h : zPi j = zPi k) : j = k := by
  unfold zPi at h
  split at h <;> split at h <;> try omega
  all_goals (repeat (split at h <;> try omega))
theorem zPi_lt {k : Nat} (hk : k < 91) : zPi k < 91 := by
  unfold zPi
  repeat (split; omega)
  omega
theorem vaQ_c {p n : Nat} {f g : Nat → Option Nat} (h : ∀ j, j < n → f j = g j) : ∀ H, va_at (zD X) vwCl (p, aQ X n f) H → va_at (zD X) vwCl (p, aQ X n g) H := by
  intro H hH
  have e : vp_cell X.2.2.1.2.2.2 (n, .inr (.inr (.inr (.inr f)))) = vp_cell X.2.2.1.2.2.2 (n, .inr (.inr (.inr (.inr g)))) := by
    rw [vp_cell_q, vp_cell_q]
    unfold arrV
    congr 1
    congr 1
    funext j
    exact congrArg va_rf (h j.val j.isLt)
  show H[p]? = some (vp_cell X.2.2.1.2.2.2 (n, .inr (.inr (.inr (.inr g)))))
  rw [← e]
  exact hH
/-- a block at its place in a world -/
theorem zC_shift {A B : Nat → Nat} {q : Nat} {sh : Sh} {V : CV} {S S' : Nat → va_E} (hB : ∀ k, k ≤ sh.2.2.length → B k = A (q + k)) (hn : ∀ f ∈ sh.2.1, f.1 ≠ 2 ∧ f.2 ≤ 100 ∧ (f.1 = 1 → f.2 ≤ sh.2.2.length)) {j : Nat} (hj : j ≤ sh.2.2.length) : zC X A sh q V S (q + j) = zC X B sh 0 V S' j := by
  cases j with
  | zero =>
    rw [Nat.add_zero, zC_o, zC_o]
    congr 2
    unfold oFs
    apply List.map_congr_left
    intro f hf
    obtain ⟨h1, _, h3⟩ := hn f hf
    obtain ⟨x, y⟩ := f
    match x, h1, h3 with
    | 0, _, _ => rfl
    | 1, _, h3 =>
      show Value.ref (A (q + y)) = Value.ref (B (0 + y))
      rw [Nat.zero_add, hB y (h3 rfl)]
    | 2, h1, _ => exact absurd rfl h1
    | x + 3, _, _ => rfl
  | succ j =>
    have h : sh.2.2[j]? = some (sh.2.2[j]'(by omega)) := List.getElem?_eq_getElem (by omega)
    rw [zC_a j h, show j + 1 = 0 + (j + 1) by omega, zC_a j h, Nat.zero_add]
def zWj (W : va_W) (ps : Nat → Nat) (k : Nat) : Nat := if k < W.length then ((W[k]?).getD (0, zS0 0)).1 else ps (k - W.length)
def zWkk (W : va_W) (k : Nat) : va_E := ((W[k]?).getD (0, zS0 0)).2
theorem zBk_app {W : va_W} {sh : Sh} {V : CV} {ps : Nat → Nat} (hn : ∀ f ∈ sh.2.1, f.1 ≠ 2 ∧ f.2 ≤ 100 ∧ (f.1 = 1 → f.2 ≤ sh.2.2.length)) : W ++ zBk X sh V ps = zWs (zWj W ps) (W.length + (sh.2.2.length + 1)) (zC X (zWj W ps) sh W.length V (zWkk W)) := by
  apply List.ext_getElem?
  intro k
  by_cases h1 : k < W.length
  · rw [List.getElem?_append_left h1, zWs_at (by omega) rfl, zC_skip (Or.inl h1)]
    unfold zWj zWkk
    rw [if_pos h1, List.getElem?_eq_getElem h1]
    rfl
  · obtain ⟨j, rfl⟩ : ∃ j, k = W.length + j := ⟨k - W.length, by omega⟩
    rw [List.getElem?_append_right (by omega), show W.length + j - W.length = j by omega]
    by_cases h2 : j < sh.2.2.length + 1
    · have h3 : zWj W ps (W.length + j) = ps j := by
        unfold zWj
        rw [if_neg (by omega), show W.length + j - W.length = j by omega]
      rw [zWs_at (by omega) rfl, h3, zC_shift (B := ps) (S' := zS0) (fun k _ => by unfold zWj; rw [if_neg (by omega), show W.length + k - W.length = k by omega]) hn (by omega)]
      exact zWs_at h2 rfl
    · rw [List.getElem?_eq_none (by unfold zBk zWs; simp; omega), List.getElem?_eq_none (by unfold zWs; simp; omega)]
theorem shMo_n : ∀ f ∈ shMo.2.1, f.1 ≠ 2 ∧ f.2 ≤ 100 ∧ (f.1 = 1 → f.2 ≤ shMo.2.2.length) := by decide
set_option maxHeartbeats 2000000 in
theorem wX8_init (hX : zOK X) {W : va_W} {a : Nat} {res : CV} (h : fX8_clears zV0M = some res) : Con X yX8_init mX8_init 1 20 13052 [.ref a] (W ++ [(a, .inr (8, [.int 0, .null, .int 0, .int 0, .int 0, .int 0, .int 0, .int 0, .int 0, .int 0, .int 0, .int 0, .int 0, .long 0, .null, .null, .null, .null, .null, .null, .null, .null, .int 0, .int 0, .int 0, .null, .null, .int 0, .int 0, .int 0, .null, .int 0, .int 0, .int 0, .int 0, .null, .null, .null, .null, .null, .null, .null, .int 0, .int 0, .int 0, .int 0, .null, .int 0, .int 0]))]) (zIq X W a shMo res) := by
  refine con_of (lv := [(0, .ref a)]) (by decide) rfl (fun _ => rfl) rfl (Nat.le_of_ble_eq_true rfl) rfl ?_
  refine wX8_fields (Nat.le_refl _) (Nat.le_refl _) (fun ps hps => ?_)
  have hj : zWj W ps W.length = a := by
    unfold zWj
    rw [if_neg (Nat.lt_irrefl _), Nat.sub_self, hps]
  refine g_ws (M := mX8_init) (zBk_app shMo_n) ?_
  refine g_aload_n (M := mX8_init) dX8_init_181 0 rfl rfl ?_
  rw [← hj]
  refine g_callVr (M := mX8_init) [] hX dX8_init_182 vX8_clears kM_X8_78 (wX8_clears hX zC_self (by show W.length + 20 < W.length + (20 + 1); omega) h) W.length (zWs_at (by show W.length < W.length + (20 + 1); omega) zC_o) rfl ⟨Nat.le_of_ble_eq_true rfl, Nat.le_of_ble_eq_true rfl⟩ ⟨Nat.le_of_ble_eq_true rfl, Nat.le_of_ble_eq_true rfl⟩ (Nat.le_of_ble_eq_true rfl) ?_
  refine g_vret (M := mX8_init) dX8_init_185 rfl (Nat.le_of_ble_eq_true rfl) (Nat.le_of_ble_eq_true rfl) ⟨rfl, ps, hps.trans hj.symm, ?_⟩
  rw [zC_over, zBk_app shMo_n]
/-- class and model at the start -/
theorem zR0 {m0 : CV} (h1 : zEx [] [2] zV0M m0) (h2 : m0.2 2 1 = 4 ∧ m0.2 2 2 = 3 ∧ m0.2 2 3 = 1) (h3 : ∀ j, 0 ≤ j → j < 351 → j ≠ 1 → j ≠ 2 → j ≠ 3 → m0.2 2 j = 0) : zRR zs0 m0 := by
  have n := fun k => h1.1 k List.not_mem_nil
  have s0 := h3 0 (by decide) (by decide) (by decide) (by decide) (by decide)
  have s4 := h3 4 (by decide) (by decide) (by decide) (by decide) (by decide)
  have n2 : m0.1 2 = 0 := n 2
  have n11 : m0.1 11 = 0 := n 11
  have n12 : m0.1 12 = -1 := n 12
  have n22 : m0.1 22 = 0 := n 22
  have n23 : m0.1 23 = 0 := n 23
  have n48 : m0.1 48 = 0 := n 48
  have hc : zCap zV0 := ⟨⟨Int.le_refl _, by decide⟩, rfl, ⟨Int.le_refl _, by decide⟩⟩
  refine ⟨⟨⟨n2.symm, by omega, by omega⟩, fun k k0 k1 => absurd k1 (by omega), ⟨n11.symm, by omega, by omega⟩, ⟨n12.symm, by omega, by omega⟩⟩, ?_, ⟨n23.symm, Or.inl n23⟩, ⟨n22.symm, ⟨by omega, by omega⟩, fun p p0 p1 => absurd p1 (by omega)⟩, ⟨⟨hc, Or.inl rfl⟩, hc, Or.inl rfl⟩, ⟨Int.le_refl _, by decide⟩, ⟨Or.inl n48, ?_, ⟨Int.le_refl _, by decide⟩, fun i i0 i1 => absurd i1 (by show ¬ i < 0; omega)⟩⟩
  · refine ⟨⟨⟨by omega, by omega⟩, ⟨by omega, by omega⟩, ⟨by omega, by omega⟩, ⟨by omega, by omega⟩, ⟨by omega, by omega⟩, fun k k0 k1 => absurd k1 (by omega), fun r r0 r1 => absurd r1 (by omega)⟩, ⟨h2.1.symm, h2.2.1.symm, h2.2.2.symm, s0.symm, s4.symm, fun k k0 k1 => absurd k1 (by omega), ⟨Int.le_refl _, ?_⟩, fun r r0 r1 => absurd r1 (by omega)⟩, fun r r0 r1 => absurd r1 (by omega)⟩
    rw [s0]
    exact (by decide : (0 : Int) < 1)
  · rw [if_neg (by omega)]
    rfl
set_option maxHeartbeats 4000000 in
theorem l_start (hX2 : zOK2 X) (hL : zOL X) (hA : ∀ U, zE X U → va_AO RX0 U) {b L : Nat} {xs : Nat → Int32} (hE : ∀ U, zE X U → va_X b L xs U U.heap) (hb : b < X.2.2.2.1) (hLm : L ≤ 3072) : G X mL_law (zLP X b) 0 0 0 [(0, .ref b)] [] [] := by
  obtain ⟨m0, hm0, hm1, hm2, hm3, _⟩ := m_clears (m := zV0M)
  have hX := hX2.1
  refine g_new (M := mL_law) dL_law_0 kN_L_8 (Nat.le_of_ble_eq_true rfl) (Nat.le_of_ble_eq_true rfl) (fun a => ?_)
  refine g_dup (M := mL_law) dL_law_3 rfl ?_
  refine o_callI (M := mL_law) hX dL_law_4 vX7_init kM_L_144 (wX7_init hX hA) (fun _ _ h => h.1) ⟨Nat.le_of_ble_eq_true rfl, Nat.le_of_ble_eq_true rfl⟩ ⟨Nat.le_of_ble_eq_true rfl, Nat.le_of_ble_eq_true rfl⟩ (Nat.le_of_ble_eq_true rfl) (fun w hw => ?_)
  obtain ⟨-, p, r, B, rfl⟩ := hw
  refine g_astore_n (M := mL_law) (lv' := [(0, .ref b), (1, .ref a)]) dL_law_7 rfl (Nat.le_of_ble_eq_true rfl) rfl ?_
  refine g_new (M := mL_law) dL_law_8 kN_L_145 (Nat.le_of_ble_eq_true rfl) (Nat.le_of_ble_eq_true rfl) (fun q => ?_)
  refine g_dup (M := mL_law) dL_law_11 rfl ?_
  refine o_callI (M := mL_law) hX dL_law_12 vX8_init kM_L_147 (wX8_init hX hm0) (fun _ _ h => h.1) ⟨Nat.le_of_ble_eq_true rfl, Nat.le_of_ble_eq_true rfl⟩ ⟨Nat.le_of_ble_eq_true rfl, Nat.le_of_ble_eq_true rfl⟩ (Nat.le_of_ble_eq_true rfl) (fun w hw => ?_)
  obtain ⟨-, ps, hps, rfl⟩ := hw
  subst hps
  refine g_astore_n (M := mL_law) (lv' := [(0, .ref b), (1, .ref a), (2, .ref (ps 0))]) dL_law_15 rfl (Nat.le_of_ble_eq_true rfl) rfl ?_
  refine h_iconst (M := mL_law) dL_law_16 ?_
  refine g_newL (M := mL_law) (len := 1) dL_law_17 kZ_arr_long (by decide) (by decide) (Nat.le_of_ble_eq_true rfl) (Nat.le_of_ble_eq_true rfl) (Nat.le_of_ble_eq_true rfl) (fun o => ?_)
  refine g_astore_n (M := mL_law) (lv' := [(0, .ref b), (1, .ref a), (2, .ref (ps 0)), (3, .ref o)]) dL_law_19 rfl (Nat.le_of_ble_eq_true rfl) rfl ?_
  refine h_iconst (M := mL_law) dL_law_20 ?_
  refine g_istore (M := mL_law) (lv' := zvLv b (zHA a p r B ps o) 0) dL_law_21 (Nat.le_of_ble_eq_true rfl) rfl ?_
  obtain ⟨S, hS⟩ : ∃ S : Nat → va_E, S = fun k => if k < 112 then zC X ps shMo 0 m0 zS0 (k - 91) else aL X 1 (fun _ => 0) := ⟨_, rfl⟩
  have hl : (zHl X a p r B).length = 91 := rfl
  have hlb : (zBk X shMo m0 ps).length = 21 := rfl
  refine g_subE (M := mL_law) (ws' := zWs (zHA a p r B ps o) 113 (zSt X (zHA a p r B ps o) zs0 S)) (fun k => if k < 91 then zPi k else k) (fun k x hx => ?_) (fun j k hj hk h => ?_) ?_
  · have hk : k < 113 := by
      have := (List.getElem?_eq_some_iff.mp hx).1
      unfold zWs at this
      simpa using this
    rw [zWs_at hk rfl] at hx
    cases hx
    by_cases c : k < 91
    · by_cases c2 : k = 2
      · subst c2
        rw [zSt_2]
        refine ⟨(p, aQ X 6 (va_up (va_up (va_up (va_up (va_up (va_up (fun _ => none) 0 (some (B 11 0))) 1 (some (B 12 0))) 2 (some (B 13 0))) 3 (some (B 14 0))) 4 (some (B 15 0))) 5 (some (B 16 0)))), ?_, rfl, vaQ_c (n := 6) (g := fun k => some (zHA a p r B ps o (49 + 7 * k))) (fun j hj => ?_)⟩
        · show (((zHl X a p r B) ++ zBk X shMo m0 ps) ++ [(o, aL X 1 (fun _ => 0))])[31]? = _
          rw [List.getElem?_append_left (by rw [List.length_append, hl, hlb]; decide), List.getElem?_append_left (by rw [hl]; decide)]
          exact zH_2
        · match j, hj with
          | 0, _ => rfl
          | 1, _ => rfl
          | 2, _ => rfl
          | 3, _ => rfl
          | 4, _ => rfl
          | 5, _ => rfl
          | j + 6, h => exact absurd h (by omega)
      · refine ⟨_, ?_, rfl, fun _ h => h⟩
        have hp := zPi_lt c
        show (((zHl X a p r B) ++ zBk X shMo m0 ps) ++ [(o, aL X 1 (fun _ => 0))])[if k < 91 then zPi k else k]? = _
        rw [if_pos c, List.getElem?_append_left (by rw [List.length_append, hl, hlb]; omega), List.getElem?_append_left (by rw [hl]; exact hp)]
        exact zH_at k c c2
    · refine ⟨_, ?_, rfl, fun _ h => h⟩
      rw [zSt_hi (by omega), hS]
      show (((zHl X a p r B) ++ zBk X shMo m0 ps) ++ [(o, aL X 1 (fun _ => 0))])[if k < 91 then zPi k else k]? = _
      rw [if_neg c]
      by_cases c2 : k < 112
      · rw [List.getElem?_append_left (by rw [List.length_append, hl, hlb]; omega), List.getElem?_append_right (by rw [hl]; omega), hl]
        have e : zHA a p r B ps o k = ps (k - 91) := by
          unfold zHA
          rw [if_neg (by omega), if_neg (by omega), if_neg (by omega), if_neg (by omega), if_neg (by omega), if_neg (by omega), if_neg (by omega), if_neg (by omega), if_neg (by omega), if_neg (by omega), if_neg (by omega), if_neg (by omega), if_neg (by omega), if_neg (by omega), if_neg (by omega), if_neg (by omega), if_neg (by omega), if_neg (by omega), if_neg (by omega), if_pos c2]
        rw [e]
        show _ = some (_, if k < 112 then _ else _)
        rw [if_pos c2]
        exact zWs_at (by show k - 91 < 21; omega) rfl
      · have e : k = 112 := by omega
        subst e
        rw [List.getElem?_append_right (by rw [List.length_append, hl, hlb]; decide), List.length_append, hl, hlb]
        rfl
  · have hj : j < 113 := by unfold zWs at hj; simpa using hj
    have hk : k < 113 := by unfold zWs at hk; simpa using hk
    by_cases c : j < 91
    · by_cases c2 : k < 91
      · rw [if_pos c, if_pos c2] at h
        exact zPi_j c c2 h
      · rw [if_pos c, if_neg c2] at h
        have := zPi_lt c
        omega
    · by_cases c2 : k < 91
      · rw [if_neg c, if_pos c2] at h
        have := zPi_lt c2
        omega
      · rw [if_neg c, if_neg c2] at h
        exact h
  · have hls : zvLs X (zHA a p r B ps o) m0 (fun _ => 0) S := by
      refine ⟨?_, by rw [hS]; rfl⟩
      unfold isC
      funext k
      by_cases c : k < 91 ∨ 91 + 20 < k
      · exact zC_skip c
      · obtain ⟨j, rfl⟩ : ∃ j, k = 91 + j := ⟨k - 91, by omega⟩
        rw [zC_shift (B := ps) (S' := zS0) (fun k hk => ?_) shMo_n (by show j ≤ 20; omega), hS]
        · show _ = if 91 + j < 112 then zC X ps shMo 0 m0 zS0 (91 + j - 91) else _
          rw [if_pos (by omega), show 91 + j - 91 = j by omega]
        · have hk : k ≤ 20 := hk
          unfold zHA
          rw [if_neg (by omega), if_neg (by omega), if_neg (by omega), if_neg (by omega), if_neg (by omega), if_neg (by omega), if_neg (by omega), if_neg (by omega), if_neg (by omega), if_neg (by omega), if_neg (by omega), if_neg (by omega), if_neg (by omega), if_neg (by omega), if_neg (by omega), if_neg (by omega), if_neg (by omega), if_neg (by omega), if_neg (by omega), if_pos (by omega), show 91 + k - 91 = k by omega]
    refine l_loop hX2 hL hE hb hLm zr_F 512 0 _ S zs0 m0 (fun _ => 0) _ _ ⟨by decide, by decide⟩ (by omega) (zR0 hm1 hm2 hm3) hls ?_
    have hn : zrNu zs0 ≤ 15 := zrNu_15
    unfold zvR
    omega
end ZLAY
