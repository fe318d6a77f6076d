abbrev shB : Sh := (0, [(0,0), (0,1), (0,2), (0,3), (0,4), (0,5), (1,1), (1,2), (1,3), (1,4), (1,5), (1,6)], [(1,10), (1,10), (0,10), (0,10), (0,10), (0,6)])
abbrev shP : Sh := (1, [(1,1), (0,1), (0,2)], [(0,24)])
abbrev shSc : Sh := (2, [(1,1), (1,2), (1,3), (0,3), (1,4), (1,5), (0,6)], [(0,30), (0,30), (0,30), (0,30), (0,2)])
abbrev shSe : Sh := (3, [(1,1), (1,2), (1,3), (1,4), (1,5), (0,5), (0,6), (0,7), (0,8), (0,9), (0,10), (0,11), (0,12)], [(10,100), (10,101), (10,102), (0,7), (0,61)])
abbrev shTa : Sh := (4, [(1,1), (0,1)], [(10,100)])
abbrev shRd : Sh := (5, [(0,0)], [])
abbrev shTo : Sh := (6, [(1,1), (0,1), (0,2), (0,3), (0,4), (0,5), (0,6), (0,7)], [(2,600)])
abbrev shMo : Sh := (8, [(0,0), (1,1), (0,2), (0,3), (0,4), (0,5), (0,6), (0,7), (0,8), (0,9), (0,10), (0,11), (0,12), (3,13), (1,2), (1,3), (1,4), (1,5), (1,6), (1,7), (1,8), (1,9), (0,22), (0,23), (0,24), (1,10), (1,11), (0,27), (0,28), (0,29), (1,12), (0,31), (0,32), (0,33), (0,34), (1,13), (1,14), (1,15), (1,16), (1,17), (1,18), (1,19), (0,42), (0,43), (0,44), (0,45), (1,20), (0,47), (0,48)], [(0,600), (0,351), (0,351), (0,2106), (0,351), (0,351), (1,10), (1,10), (1,10), (0,6), (0,6), (0,4096), (0,4096), (0,24), (0,60), (0,60), (0,60), (0,2), (0,2), (0,500)])
/-! THE STATE OF THE CLASS: one component after the other -/
abbrev CS : Type := Nat → CV
def zSu (σ : CS) (i : Nat) (V : CV) : CS := fun j => if j = i then V else σ j
theorem zSu_s {σ : CS} {i : Nat} {V : CV} : zSu σ i V i = V := if_pos rfl
theorem zSu_n {σ : CS} {i j : Nat} {V : CV} (h : j ≠ i) : zSu σ i V j = σ j := if_neg h
def zStL (X : zX) (A : Nat → Nat) (σ : CS) : List (Nat × Sh) → Nat → (Nat → va_E) → Nat → va_E
  | [], _, S => S
  | (q, sh) :: L, i, S => zC X A sh q (σ i) (zStL X A σ L (i + 1) S)
def zDj (a b : Nat × Sh) : Prop := b.1 + b.2.2.2.length < a.1 ∨ a.1 + a.2.2.2.length < b.1
def zDjL : List (Nat × Sh) → Prop
  | [] => True
  | a :: L => (∀ b ∈ L, zDj a b) ∧ zDjL L
section ZSL
variable {X : zX} {A A' : Nat → Nat} {S : Nat → va_E} {V : CV}
theorem zStL_c : ∀ (L : List (Nat × Sh)) (σ : CS) (i j : Nat) (q : Nat) (sh : Sh), zDjL L → L[j]? = some (q, sh) → isC X A sh q (σ (i + j)) (zStL X A σ L i S) := by
  intro L
  induction L with
  | nil => intro σ i j q sh _ h; cases h
  | cons a L ih =>
    intro σ i j q sh hd h
    obtain ⟨q0, sh0⟩ := a
    cases j with
    | zero =>
      cases h
      exact zC_over
    | succ j =>
      have h1 : L[j]? = some (q, sh) := h
      have h2 := ih σ (i + 1) j q sh hd.2 h1
      rw [show i + 1 + j = i + (j + 1) by omega] at h2
      have h3 := hd.1 _ (List.mem_of_getElem? h1)
      exact h2.keep (by unfold zDj at h3; simp only at h3; omega)
theorem zStL_n : ∀ (L : List (Nat × Sh)) (σ : CS) (i k : Nat) (V : CV), k < i → zStL X A (zSu σ k V) L i S = zStL X A σ L i S := by
  intro L
  induction L with
  | nil => intro σ i k V _; rfl
  | cons a L ih =>
    intro σ i k V h
    obtain ⟨q0, sh0⟩ := a
    show zC X A sh0 q0 (zSu σ k V i) _ = zC X A sh0 q0 (σ i) _
    rw [ih σ (i + 1) k V (by omega), zSu_n (by omega)]
theorem zStL_p : ∀ (L : List (Nat × Sh)) (σ : CS) (i j : Nat) (q : Nat) (sh : Sh) (V : CV), zDjL L → L[j]? = some (q, sh) → zC X A sh q V (zStL X A σ L i S) = zStL X A (zSu σ (i + j) V) L i S := by
  intro L
  induction L with
  | nil => intro σ i j q sh V _ h; cases h
  | cons a L ih =>
    intro σ i j q sh V hd h
    obtain ⟨q0, sh0⟩ := a
    cases j with
    | zero =>
      cases h
      show zC X A sh q V (zC X A sh q (σ i) _) = zC X A sh q (zSu σ i V i) (zStL X A (zSu σ i V) L (i + 1) S)
      rw [zC_over, zSu_s, zStL_n L σ (i + 1) i V (by omega)]
    | succ j =>
      have h1 : L[j]? = some (q, sh) := h
      have h3 := hd.1 _ (List.mem_of_getElem? h1)
      show zC X A sh q V (zC X A sh0 q0 (σ i) _) = zC X A sh0 q0 (zSu σ (i + (j + 1)) V i) _
      rw [zSu_n (by omega), zC_comm (by unfold zDj at h3; simp only at h3; omega), ih σ (i + 1) j q sh V hd.2 h1, show i + 1 + j = i + (j + 1) by omega]
theorem zC_at {sh : Sh} {q k : Nat} {S1 S2 : Nat → va_E} (h : S1 k = S2 k) : zC X A sh q V S1 k = zC X A sh q V S2 k := by
  unfold zC
  by_cases h1 : k < q
  · simp [h1, h]
  · by_cases h2 : k = q
    · simp [h2]
    · simp only [h1, h2, if_false]
      cases sh.2.2[k - q - 1]? with
      | none => exact h
      | some d => rfl
/-- no other component names a cell of the array part of (q, N) -/
def zFar (q N : Nat) (a : Nat × Sh) : Prop := a.1 = q ∨ ∀ f ∈ a.2.2.1, (f.1 = 1 → ¬ (q < a.1 + f.2 ∧ a.1 + f.2 ≤ q + N)) ∧ (f.1 = 2 → ¬ (q < f.2 ∧ f.2 ≤ q + N))
theorem zStL_a (q N : Nat) (hA : ∀ k, ¬ (q < k ∧ k ≤ q + N) → A' k = A k) : ∀ (L : List (Nat × Sh)) (σ : CS) (i : Nat) (k : Nat), (∀ a ∈ L, zFar q N a ∧ (a.1 = q → a.2.2.2.length = N)) → ¬ (q ≤ k ∧ k ≤ q + N) → zStL X A' σ L i S k = zStL X A σ L i S k := by
  intro L
  induction L with
  | nil => intro σ i k _ _; rfl
  | cons a L ih =>
    intro σ i k hL hk
    obtain ⟨q0, sh0⟩ := a
    have h1 := hL _ List.mem_cons_self
    have h2 := ih σ (i + 1) k (fun a ha => hL a (List.mem_cons_of_mem _ ha)) hk
    show zC X A' sh0 q0 (σ i) _ k = zC X A sh0 q0 (σ i) _ k
    rw [zC_at h2]
    rcases h1.1 with h3 | h3
    · have h4 := h1.2 h3
      simp only at h3 h4
      rw [zC_skip (by omega), zC_skip (by omega)]
    · rw [zC_rel (oFs_rel (fun f hf => ⟨fun e => hA _ ((h3 f hf).1 e), fun e => hA _ ((h3 f hf).2 e)⟩))]
theorem zStL_pa {q : Nat} {sh : Sh} (hA : ∀ k, ¬ (q < k ∧ k ≤ q + sh.2.2.length) → A' k = A k) (L : List (Nat × Sh)) (σ : CS) (i j : Nat) (V : CV) (hd : zDjL L) (h : L[j]? = some (q, sh)) (hL : ∀ a ∈ L, zFar q sh.2.2.length a ∧ (a.1 = q → a.2.2.2.length = sh.2.2.length)) :
    zC X A' sh q V (zStL X A σ L i S) = zStL X A' (zSu σ (i + j) V) L i S := by
  rw [← zStL_p L σ i j q sh V hd h]
  funext k
  by_cases hk : q ≤ k ∧ k ≤ q + sh.2.2.length
  · by_cases h1 : k = q
    · subst h1; rw [zC_o, zC_o]
    · obtain ⟨m, rfl⟩ : ∃ m, k = q + (m + 1) := ⟨k - q - 1, by omega⟩
      have h2 : m < sh.2.2.length := by omega
      rw [zC_a m (List.getElem?_eq_getElem h2), zC_a m (List.getElem?_eq_getElem h2)]
  · rw [zC_skip (by omega), zC_skip (by omega)]
    exact (zStL_a q _ hA L σ i k hL hk).symm
end ZSL
/-! the components of HiddenWords: 0 itself, 1 tokens, 2 textReader, 3 script, 4 now, 5 saved, 6 draft, 7 search, 8 searchBehind, 9 profile, 10 tally, 11.. past -/
abbrev shH : Sh := (7, [(2,3),(2,5),(2,6),(2,12),(2,19),(2,26),(2,2),(2,33),(2,39),(2,45),(2,47),(1,1),(0,12),(0,13),(0,14),(0,15)], [(2,410)])
abbrev zCL : List (Nat × Sh) := [(0, shH), (3, shTo), (5, shRd), (6, shSc), (12, shB), (19, shB), (26, shB), (33, shSe), (39, shSe), (45, shP), (47, shTa), (49, shB), (56, shB), (63, shB), (70, shB), (77, shB), (84, shB)]
def zPast (X : zX) (A : Nat → Nat) : va_E := aQ X 6 (fun k => some (A (49 + 7 * k)))
def zSt (X : zX) (A : Nat → Nat) (σ : CS) (S : Nat → va_E) : Nat → va_E := zStL X A σ zCL 0 (va_up S 2 (zPast X A))
def zDjLb : List (Nat × Sh) → Bool
  | [] => true
  | a :: L => L.all (fun b => Nat.blt (b.1 + b.2.2.2.length) a.1 || Nat.blt (a.1 + a.2.2.2.length) b.1) && zDjLb L
theorem zDjL_of : ∀ L : List (Nat × Sh), zDjLb L = true → zDjL L := by
  intro L
  induction L with
  | nil => intro _; exact trivial
  | cons a L ih =>
    intro h
    unfold zDjLb at h
    rw [Bool.and_eq_true, List.all_eq_true] at h
    refine ⟨fun b hb => ?_, ih h.2⟩
    have h1 := h.1 b hb
    simp only [Bool.or_eq_true, Nat.blt_eq] at h1
    exact h1
theorem zCL_d : zDjL zCL := zDjL_of _ (by decide)
def zFarb (q N : Nat) (a : Nat × Sh) : Bool := (Nat.beq a.1 q && Nat.beq a.2.2.2.length N) || (!Nat.beq a.1 q && a.2.2.1.all (fun f => (!Nat.beq f.1 1 || !(Nat.blt q (a.1 + f.2) && Nat.ble (a.1 + f.2) (q + N))) && (!Nat.beq f.1 2 || !(Nat.blt q f.2 && Nat.ble f.2 (q + N)))))
theorem zFar_of {q N : Nat} {L : List (Nat × Sh)} (h : L.all (zFarb q N) = true) : ∀ a ∈ L, zFar q N a ∧ (a.1 = q → a.2.2.2.length = N) := by
  intro a ha
  have h1 := List.all_eq_true.mp h a ha
  unfold zFarb at h1
  rw [Bool.or_eq_true, Bool.and_eq_true, Bool.and_eq_true] at h1
  rcases h1 with ⟨h2, h3⟩ | ⟨h2, h3⟩
  · exact ⟨Or.inl (Nat.eq_of_beq_eq_true h2), fun _ => Nat.eq_of_beq_eq_true h3⟩
  · have hn : a.1 ≠ q := by
      intro e
      rw [e, Nat.beq_refl] at h2
      cases h2
    refine ⟨Or.inr (fun f hf => ?_), fun e => absurd e hn⟩
    have h4 := List.all_eq_true.mp h3 f hf
    simp only [Bool.and_eq_true, Bool.or_eq_true, Bool.not_eq_true', Bool.and_eq_false_iff] at h4
    refine ⟨fun e => ?_, fun e => ?_⟩
    · rcases h4.1 with h5 | h5 | h5
      · rw [e] at h5; cases h5
      · intro ⟨h6, _⟩; rw [Nat.blt_eq.mpr h6] at h5; cases h5
      · intro ⟨_, h6⟩; rw [Nat.ble_eq.mpr h6] at h5; cases h5
    · rcases h4.2 with h5 | h5 | h5
      · rw [e] at h5; cases h5
      · intro ⟨h6, _⟩; rw [Nat.blt_eq.mpr h6] at h5; cases h5
      · intro ⟨_, h6⟩; rw [Nat.ble_eq.mpr h6] at h5; cases h5
section ZSt
variable {X : zX} {A A' : Nat → Nat} {S : Nat → va_E} {σ : CS} {V : CV} {q : Nat} {sh : Sh}
theorem zSt_c (i : Nat) (hi : zCL[i]? = some (q, sh)) (hV : σ i = V) : isC X A sh q V (zSt X A σ S) := by
  have h := zStL_c (X := X) (A := A) (S := va_up S 2 (zPast X A)) zCL σ 0 i q sh zCL_d hi
  rw [Nat.zero_add, hV] at h
  exact h
theorem zSt_p (i : Nat) (hi : zCL[i]? = some (q, sh)) : zC X A sh q V (zSt X A σ S) = zSt X A (zSu σ i V) S := by
  have h := zStL_p (X := X) (A := A) (S := va_up S 2 (zPast X A)) zCL σ 0 i q sh V zCL_d hi
  rw [Nat.zero_add] at h
  exact h
theorem zSt_pa (i : Nat) (hi : zCL[i]? = some (q, sh)) (hL : zCL.all (zFarb q sh.2.2.length) = true) (hP : q + sh.2.2.length < 49) (hA : ∀ k, ¬ (q < k ∧ k ≤ q + sh.2.2.length) → A' k = A k) : zC X A' sh q V (zSt X A σ S) = zSt X A' (zSu σ i V) S := by
  have h := zStL_pa (X := X) (S := va_up S 2 (zPast X A)) hA zCL σ 0 i V zCL_d hi (zFar_of hL)
  rw [Nat.zero_add] at h
  unfold zSt
  rw [h]
  have e : zPast X A = zPast X A' := by
    unfold zPast
    have : (fun k => some (A (49 + 7 * k))) = (fun k => some (A' (49 + 7 * k))) := by
      funext k
      rw [hA _ (by omega)]
    rw [this]
  rw [e]
theorem zSt_past {p : Int} (h0 : 0 ≤ p) (h1 : p < 6) : isC X A shB (49 + 7 * p.toNat) (σ (11 + p.toNat)) (zSt X A σ S) := by
  obtain ⟨n, rfl⟩ : ∃ n : Nat, p = n := ⟨p.toNat, by omega⟩
  have h : n < 6 := by omega
  match n, h with
  | 0, _ => exact zSt_c 11 rfl rfl
  | 1, _ => exact zSt_c 12 rfl rfl
  | 2, _ => exact zSt_c 13 rfl rfl
  | 3, _ => exact zSt_c 14 rfl rfl
  | 4, _ => exact zSt_c 15 rfl rfl
  | 5, _ => exact zSt_c 16 rfl rfl
  | n + 6, h => exact absurd h (by omega)
end ZSt
theorem zStL_out {X : zX} {A : Nat → Nat} {S : Nat → va_E} (k : Nat) : ∀ (L : List (Nat × Sh)) (σ : CS) (i : Nat), L.all (fun a => Nat.blt k a.1 || Nat.blt (a.1 + a.2.2.2.length) k) = true → zStL X A σ L i S k = S k := by
  intro L
  induction L with
  | nil => intro σ i _; rfl
  | cons a L ih =>
    intro σ i h
    rw [List.all_cons, Bool.and_eq_true, Bool.or_eq_true, Nat.blt_eq, Nat.blt_eq] at h
    show zC X A a.2 a.1 (σ i) _ k = _
    rw [zC_skip h.1]
    exact ih σ (i + 1) h.2
theorem zSt_2 {X : zX} {A : Nat → Nat} {S : Nat → va_E} {σ : CS} : zSt X A σ S 2 = zPast X A := by
  unfold zSt
  rw [zStL_out 2 _ _ _ (by decide)]
  rfl
theorem zSt_hi {X : zX} {A : Nat → Nat} {S : Nat → va_E} {σ : CS} {k : Nat} (hk : 91 ≤ k) : zSt X A σ S k = S k := by
  unfold zSt
  rw [zStL_out k _ _ _ ?_]
  · unfold va_up; rw [if_neg (by omega)]
  · simp only [zCL, List.all_cons, List.all_nil, Bool.and_true, Bool.and_eq_true, Bool.or_eq_true, Nat.blt_eq, List.length_cons, List.length_nil]
    omega
section ZP
variable {X : zX} {M : zM} {P : zP} {kc ks pc : Nat} {lv : List (Nat × Value)} {rest : List Value} {A : Nat → Nat} {n : Nat} {S : Nat → va_E} {σ : CS}
theorem k_past {i : Int} (hdg : decode M.2.1 pc = .ok (.aaload, 1)) (hq : 2 < n) (h0 : 0 ≤ i) (h1 : i < 6) (kk : G X M P kc ks (pc + 1) lv (.ref (A (49 + 7 * i.toNat)) :: rest) (zWs A n (zSt X A σ S))) : G X M P kc ks pc lv (.int (iI i) :: .ref (A 2) :: rest) (zWs A n (zSt X A σ S)) := by
  refine g_aald hdg 2 (zWs_at hq zSt_2) (iI_in h0 h1 (by decide)) ?_
  have h : (iI i).toNatClampNeg = i.toNat := by have := iI_idx h0 (show i < 2147483648 by omega); omega
  rw [h]
  exact kk
end ZP
