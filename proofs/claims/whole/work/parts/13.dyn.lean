section ZQ
variable {X : zX} {M : zM} {P : zP} {kc ks pc : Nat} {lv : List (Nat × Value)} {rest : List Value} {ws : va_W}
/-- a world of some of these cells, in another order -/
theorem g_sub {ws' : va_W} (i : Nat → Nat) (hi : ∀ k x, ws'[k]? = some x → ws[i k]? = some x) (hj : ∀ j k, j < ws'.length → k < ws'.length → i j = i k → j = k) (kk : G X M P kc ks pc lv rest ws') : G X M P kc ks pc lv rest ws := by
  intro p e s m args below meth c H locs ls I hP hD hS hl
  refine kk p e s m args below meth c H locs ls I (fun k q hk => hP (i k) q (hi k q hk)) ⟨?_, fun k q hk => hD.2 (i k) q (hi k q hk)⟩ hS hl
  intro a b x y ha hb hxy
  have h := hD.1 (i a) (i b) x y (hi a x ha) (hi b y hb) hxy
  exact hj a b (List.getElem?_eq_some_iff.mp ha).1 (List.getElem?_eq_some_iff.mp hb).1 h
/-- other names for the same cells -/
theorem g_sub_up {A : Nat → Nat} {n k a : Nat} {S : Nat → va_E} {e : va_E} (hk : k < n) (kk : G X M P kc ks pc lv rest (zWs (va_up A k a) n (va_up S k e))) : G X M P kc ks pc lv rest (zWs A n S ++ [(a, e)]) := by
  have hl : (zWs (va_up A k a) n (va_up S k e)).length = n := by unfold zWs; simp
  have hl2 : (zWs A n S).length = n := by unfold zWs; simp
  refine g_sub (fun j => if j = k then n else j) ?_ ?_ kk
  · intro j x hj
    have hjn : j < n := by have := (List.getElem?_eq_some_iff.mp hj).1; omega
    by_cases h : j = k
    · subst h
      rw [if_pos rfl, List.getElem?_append_right (by omega), hl2, Nat.sub_self]
      rw [zWs_at (e := e) hjn (by simp [va_up])] at hj
      have : va_up A j a j = a := by simp [va_up]
      rw [this] at hj
      exact hj
    · rw [if_neg h, List.getElem?_append_left (by omega)]
      rw [zWs_at (e := S j) hjn (by simp [va_up, h])] at hj
      have : va_up A k a j = A j := by simp [va_up, h]
      rw [this] at hj
      rw [zWs_at (e := S j) hjn rfl]
      exact hj
  · intro a b ha hb hab
    by_cases h1 : a = k <;> by_cases h2 : b = k <;> simp only [h1, h2, if_true, if_false] at hab <;> omega
theorem g_lvc {lv' : List (Nat × Value)} (h : lv = lv') (kk : G X M P kc ks pc lv' rest ws) : G X M P kc ks pc lv rest ws := h ▸ kk
end ZQ
section ZR2
variable {X : zX} {M : zM} {P : zP} {kc ks pc : Nat} {lv : List (Nat × Value)} {rest : List Value} {ws : va_W} {A A' : Nat → Nat} {n : Nat} {S : Nat → va_E} {sh : Sh} {q : Nat} {V : CV}
theorem oFs_rel {fl : List (Nat × Nat)} (h : ∀ f ∈ fl, (f.1 = 1 → A' (q + f.2) = A (q + f.2)) ∧ (f.1 = 2 → A' f.2 = A f.2)) : oFs A' q V fl = oFs A q V fl := by
  unfold oFs
  apply List.map_congr_left
  intro f hf
  obtain ⟨a, b⟩ := f
  have h1 := h _ hf
  match a, h1 with
  | 0, _ => rfl
  | 1, h1 => exact congrArg Value.ref (h1.1 rfl)
  | 2, h1 => exact congrArg Value.ref (h1.2 rfl)
  | a + 3, _ => rfl
theorem zC_rel (h : oFs A' q V sh.2.1 = oFs A q V sh.2.1) : zC X A' sh q V S = zC X A sh q V S := by
  funext k
  unfold zC
  rw [h]
theorem isC.rel (hC : isC X A sh q V S) (N : Nat) (hf : sh.2.1.all (fun f => f.1 != 2 && (f.1 != 1 || Nat.ble f.2 N)) = true) (hA : ∀ k, q ≤ k → k ≤ q + N → A' k = A k) : isC X A' sh q V S := by
  refine (zC_rel (oFs_rel (fun f hm => ?_))).trans hC
  have h1 := List.all_eq_true.mp hf f hm
  simp only [Bool.and_eq_true, bne_iff_ne, ne_eq, Bool.or_eq_true] at h1
  refine ⟨fun h2 => hA _ (by omega) ?_, fun h2 => absurd h2 h1.1⟩
  rcases h1.2 with h3 | h3
  · exact absurd h2 h3
  · have := Nat.le_of_ble_eq_true h3; omega
/-- a new array for the component: its length is a number of the component's -/
def zNe (V : CV) (key j : Nat) (L : Int) : CV := (va_up V.1 key L, va_up V.2 j (fun _ => 0))
theorem c_newput {ix fi key j : Nat} {ty : FieldType} {L : Int} (hdg : decode M.2.1 pc = .ok (.newarray .int, 2)) (hdg2 : decode M.2.1 (pc + 2) = .ok (.putfield ix, 3)) (hF : zF M.1 ix sh.1 fi ty false) (hq : q + (j + 1) < n) (hL0 : 0 ≤ L) (hL1 : L ≤ 100000) (hc : kc + 1 ≤ P.1.cells) (hs : ks + L.toNat ≤ P.1.slots)
    (hn : ∀ a, narrow ty (.ref a) = .ref a) (hf : ∀ a, fits ty (.ref a) = true) (hlt : fi < sh.2.1.length) (hj : sh.2.2[j]? = some (10, key))
    (hset : ∀ a, (oFs A q V sh.2.1).set fi (.ref a) = oFs (va_up A (q + (j + 1)) a) q (zNe V key (j + 1) L) sh.2.1) (hd : sh.2.2.map (zDm (zNe V key (j + 1) L)) = (sh.2.2.map (zDm V)).set j (0, L.toNat))
    (kk : ∀ A', (∀ k, k ≠ q + (j + 1) → A' k = A k) → G X M P (kc + 1) (ks + L.toNat) (pc + 5) lv rest (zWs A' n (zC X A' sh q (zNe V key (j + 1) L) S))) : G X M P kc ks pc lv (.int (iI L) :: .ref (A q) :: rest) (zWs A n (zC X A sh q V S)) := by
  obtain ⟨m, rfl⟩ : ∃ m : Nat, L = m := ⟨L.toNat, by omega⟩
  refine g_newI (len := m) hdg kZ_arr_int (by rw [iI_neg ⟨by omega, by omega⟩]; omega) (by have := iI_idx (a := (m : Int)) (by omega) (by omega); omega) (by omega) hc hs (fun a => ?_)
  refine g_sub_up (k := q + (j + 1)) hq ?_
  have e1 : A q = va_up A (q + (j + 1)) a q := by
    unfold va_up
    rw [if_neg (by omega)]
  rw [e1]
  have hS1 : va_up (zC X A sh q V S) (q + (j + 1)) (aI X m (fun _ => 0)) q = .inr (sh.1, oFs A q V sh.2.1) := by
    unfold va_up
    rw [if_neg (by omega)]
    exact zC_o
  refine k_put hdg2 hF q (by omega) hS1 (hn a) (hf a) (by unfold oFs; rw [List.length_map]; exact hlt) ?_
  rw [hset a]
  have e2 : va_up (va_up (zC X A sh q V S) (q + (j + 1)) (aI X m (fun _ => 0))) q (.inr (sh.1, oFs (va_up A (q + (j + 1)) a) q (zNe V key (j + 1) m) sh.2.1)) = zC X (va_up A (q + (j + 1)) a) sh q (zNe V key (j + 1) m) S := by
    funext k
    by_cases h1 : k = q
    · subst h1
      rw [zC_o]
      simp [va_up]
    · by_cases h2 : k < q
      · have h3 : k ≠ q + (j + 1) := by omega
        simp only [va_up, h1, h3, if_false]
        rw [zC_skip (Or.inl h2), zC_skip (Or.inl h2)]
      · obtain ⟨i, rfl⟩ : ∃ i, k = q + (i + 1) := ⟨k - q - 1, by omega⟩
        cases hi : sh.2.2[i]? with
        | none =>
          have hlen := List.getElem?_eq_none_iff.mp hi
          have h3 : q + (i + 1) ≠ q + (j + 1) := by
            intro h
            have : i = j := by omega
            rw [this, hj] at hi
            cases hi
          simp only [va_up, h1, h3, if_false]
          rw [zC_skip (Or.inr (by omega)), zC_skip (Or.inr (by omega))]
        | some d =>
          rw [zC_a i hi]
          have hdi : (sh.2.2.map (zDm (zNe V key (j + 1) m)))[i]? = some (zDm (zNe V key (j + 1) m) d) := by rw [List.getElem?_map, hi]; rfl
          rw [hd, List.getElem?_set] at hdi
          by_cases h3 : j = i
          · subst h3
            rw [if_pos rfl, if_pos (by rw [List.length_map]; exact (List.getElem?_eq_some_iff.mp hj).1)] at hdi
            rw [← Option.some.inj hdi]
            have e3 : (zNe V key (j + 1) m).2 (j + 1) = fun _ => 0 := by unfold zNe va_up; simp
            rw [e3]
            simp only [va_up, h1, if_false, if_true]
            exact zArr_0I
          · rw [if_neg h3, List.getElem?_map, hi] at hdi
            rw [← Option.some.inj hdi]
            have h4 : q + (i + 1) ≠ q + (j + 1) := by omega
            have e3 : (zNe V key (j + 1) m).2 (i + 1) = V.2 (i + 1) := by
              show (if i + 1 = j + 1 then _ else V.2 (i + 1)) = _
              rw [if_neg (by omega)]
            rw [e3]
            simp only [va_up, h1, h4, if_false]
            exact zC_a i hi
  rw [e2]
  exact kk _ (fun k hk => by unfold va_up; rw [if_neg hk])
/-- an answer, the cells under other names -/
def zRA (A : Nat → Nat) (D : Nat → Prop) (w' : (Nat → Nat) → va_W) (o : (Nat → Nat) → zO) : va_W → zO → Prop := fun w o' => ∃ A', (∀ k, ¬ D k → A' k = A k) ∧ w = w' A' ∧ o' = o A'
theorem g_callVA {y : MethodName} {M' : zM} {np ci ix fr mc ms b : Nat} {fs : List Value} (As : List Value) {D : Nat → Prop} {w' : (Nat → Nat) → va_W} {o : (Nat → Nat) → zO} {v : (Nat → Nat) → Option Value} (hX : zOK X) (hdg : decode M.2.1 pc = .ok (.invokevirtual ix, 3)) (hV : zV y M' np ci) (hl : Cond.methodLink M.1 ix y ∈ zW)
    (hM : Con X y M' fr mc ms (.ref b :: As) ws (zRA A D w' o)) (ho : ∀ A', o A' = .inl (v A')) (q : Nat) (hb : ws[q]? = some (b, .inr (ci, fs)))
    (hn : As.length = np) (hR : fr + 1 ≤ P.1.frames ∧ 8 + (M'.2.2.1 + 11) + 64 * fr ≤ P.1.locals) (hf : kc + mc ≤ P.1.cells ∧ ks + ms ≤ P.1.slots) (hcat : (rest.map fun v => v.category).sum ≤ 8)
    (kk : ∀ A', (∀ k, ¬ D k → A' k = A k) → G X M P (kc + mc) (ks + ms) (pc + 3) lv ((v A').toList ++ rest) (w' A')) : G X M P kc ks pc lv (As.reverse ++ .ref b :: rest) ws :=
  g_callV As hX hdg hV hl hM q hb hn hR hf hcat (fun w v2 h => by obtain ⟨A', h1, h2, h3⟩ := h; rw [ho] at h3; cases h3; rw [h2]; exact kk A' h1) (fun w E2 h => by obtain ⟨A', h1, h2, h3⟩ := h; rw [ho] at h3; cases h3)
theorem g_callVAe {y : MethodName} {M' : zM} {np ci ix fr mc ms b : Nat} {fs : List Value} (As : List Value) {D : Nat → Prop} {w' : (Nat → Nat) → va_W} {o : (Nat → Nat) → zO} {E : String} (hX : zOK X) (hdg : decode M.2.1 pc = .ok (.invokevirtual ix, 3)) (hV : zV y M' np ci) (hl : Cond.methodLink M.1 ix y ∈ zW)
    (hM : Con X y M' fr mc ms (.ref b :: As) ws (zRA A D w' o)) (ho : ∀ A', o A' = .inr E) (q : Nat) (hb : ws[q]? = some (b, .inr (ci, fs)))
    (hn : As.length = np) (hR : fr + 1 ≤ P.1.frames ∧ 8 + (M'.2.2.1 + 11) + 64 * fr ≤ P.1.locals) (hf : kc + mc ≤ P.1.cells ∧ ks + ms ≤ P.1.slots) (hcat : (rest.map fun v => v.category).sum ≤ 8)
    (kx : ∀ A', (∀ k, ¬ D k → A' k = A k) → GX X M P (kc + mc) (ks + ms) pc lv rest (w' A') E) : G X M P kc ks pc lv (As.reverse ++ .ref b :: rest) ws :=
  g_callV As hX hdg hV hl hM q hb hn hR hf hcat (fun w v2 h => by obtain ⟨A', h1, h2, h3⟩ := h; rw [ho] at h3; cases h3) (fun w E2 h => by obtain ⟨A', h1, h2, h3⟩ := h; rw [ho] at h3; cases h3; rw [h2]; exact kx A' h1)
end ZR2
noncomputable def zGc {α : Type} (p : Prop) (k : Option α) : Option α := @ite _ p (Classical.propDecidable p) k none
theorem zgci {α : Type} {p : Prop} {k : Option α} {r : α} (h : zGc p k = some r) : p ∧ k = some r := by
  unfold zGc at h
  by_cases c : p
  · rw [if_pos c] at h; exact ⟨c, h⟩
  · rw [if_neg c] at h; cases h
theorem zC_overA {X : zX} {A A' : Nat → Nat} {sh : Sh} {q : Nat} {V V' : CV} {S : Nat → va_E} : zC X A' sh q V' (zC X A sh q V S) = zC X A' sh q V' S := by
  funext k
  unfold zC
  by_cases h1 : k < q
  · simp [h1]
  · by_cases h2 : k = q
    · simp [h2]
    · simp only [h1, h2, if_false]
      cases sh.2.2[k - q - 1]? <;> rfl
/-! what is wanting of the arrays that grow -/
def zWd (L : Int) : Nat → Int
  | 0 => 1
  | n + 1 => zWd L n * L
def zBe (L : Int) : Nat → Int
  | 0 => 0
  | n + 1 => zBe L n + zWd L (n + 1)
def zNd (V B : CV) : Nat := if zWd (B.1 0) (B.1 1).toNat ≤ V.1 100 ∧ zWd (B.1 0) (B.1 1).toNat ≤ V.1 102 ∧ zBe (B.1 0) (B.1 1).toNat ≤ V.1 101 then 0 else 1
def zNt (V B : CV) : Nat := if zWd (B.1 0) (B.1 1).toNat ≤ V.1 100 then 0 else 1
section ZT2
variable {X : zX} {M : zM} {kc ks pc : Nat} {lv : List (Nat × Value)} {rest : List Value} {ws : va_W}
theorem g_throwW {fr mc ms : Nat} {Q : va_W → zO → Prop} {ik is ic : Nat} {E text : String} (hX : zOK X) (hown : M.1 = RX7) (hh : M.2.2.2.2.1 = []) (hT : zTh ik is ic E text)
    (d0 : decode M.2.1 pc = .ok (.new ik, 3)) (d3 : decode M.2.1 (pc + 3) = .ok (.dup, 1)) (d4 : decode M.2.1 (pc + 4) = .ok (.ldc_w is, 3)) (d6 : decode M.2.1 (pc + 7) = .ok (.invokespecial ic, 3)) (d9 : decode M.2.1 (pc + 10) = .ok (.athrow, 1))
    (hfr : 6 ≤ fr) (hcat : (rest.map fun v => v.category).sum ≤ 8) (hc : kc + 1 ≤ mc) (hs : ks + 6 ≤ ms) (hQ : Q ws (.inr E)) : G X M (zPm X fr mc ms Q) kc ks pc lv rest ws := by
  intro p e s m args below meth c H locs ls I hP hD hS hl
  obtain ⟨h1, h2, h3, h4, h5, h6, h7⟩ := hT
  have hts := I.2.2.2.2.2.1
  have hE := I.2.2.2.2.2.2.2.2.1
  refine vx_throwSW (A := zA X) (names := zExN) (own := RX7) (cls := E) (text := text) (ik := ik) (is := is) (ic := ic) I.1 I.2.1 hX.1 (by rw [← hown]; exact I.2.2.2.2.1) h3 zExN_fit (hts _ h4) (hts _ h5) (hX.2.2.2.2.1 s hE _ h2) ?_ h7 (hX.2.2.1 s hE).1 (hX.2.2.1 s hE).2 hS (hl.1.trans I.2.2.2.1.symm) d0 d3 d4 d6 d9
    (fun x hx => absurd (I.2.2.2.2.2.2.2.2.2.2.1 ▸ hx) (by rw [hh]; exact List.not_mem_nil)) (by show 2 + 3 < fr; omega) (by show _ + (13 * (2 + 1) + 43) ≤ 64 * fr; omega) hc hs I.2.2.2.2.2.2.1 ?_ (fun z hz => hS.2.2 z hz) hc hs
  · intro w hw
    by_cases g : goodWord w = true
    · exact hts _ (h6 w (List.mem_filter.mpr ⟨hw, g⟩))
    · exact hX.2.2.2.1 s hE _ h1 w (List.mem_filter.mpr ⟨hw, by simpa using g⟩) _
  · intro t ht hz hq
    exact ⟨ws, hQ, hP.kept (fun k x hx => hq x.1 ((hP k x hx).lt)), hD, Nat.le_trans hS.1 hz, fun q h1 h2 => (hq q (Nat.lt_of_lt_of_le h1 hS.1)).trans (hS.2.1 q h1 h2)⟩
end ZT2
/-! what will be said of the answer is known ahead -/
def zFt {ρ : Type} (p : ρ → Prop) [DecidablePred p] (k : Option ρ) : Option ρ := k.bind fun r => zG (p r) (some r)
theorem zFi {ρ : Type} {p : ρ → Prop} [DecidablePred p] {k : Option ρ} {r : ρ} (h : zFt p k = some r) : p r ∧ k = some r := by
  obtain ⟨t, e, h⟩ := zbi h
  obtain ⟨g, h⟩ := zgi h
  cases h
  exact ⟨g, e⟩
theorem zLp_Jf {σ ρ : Type} {step : σ → Option (σ ⊕ ρ)} {J : σ → Prop} {x : ρ} (u : σ → Nat) (v : ρ → Nat) (hs : ∀ s w, step s = some w → Sum.elim u v w ≤ u s) (body : ∀ s w, step s = some w → v x ≤ Sum.elim u v w → (∀ t, w = .inl t → J t) → (∀ y, w = .inr y → y = x) → J s) :
    ∀ (n : Nat) (s : σ), zLp step n s = some x → J s := by
  have mono : ∀ (n : Nat) (s : σ), zLp step n s = some x → v x ≤ u s := by
    intro n
    induction n with
    | zero => intro s h; cases h
    | succ n ih =>
      intro s h
      unfold zLp at h
      cases e : step s with
      | none => rw [e] at h; cases h
      | some w =>
        rw [e] at h
        have h1 := hs s w e
        cases w with
        | inl t => exact Nat.le_trans (ih t h) h1
        | inr y => cases h; exact h1
  intro n
  induction n with
  | zero => intro s h; cases h
  | succ n ih =>
    intro s h
    unfold zLp at h
    cases e : step s with
    | none => rw [e] at h; cases h
    | some w =>
      rw [e] at h
      cases w with
      | inl t => exact body s _ e (mono n t h) (fun t2 h2 => by cases h2; exact ih t h) (fun y h2 => by cases h2)
      | inr y =>
        cases h
        exact body s _ e (Nat.le_refl _) (fun t2 h2 => by cases h2) (fun y2 h2 => by cases h2; rfl)
/-- what the command at a place of the script wants -/
def zNk (Sc : CV) (a : Int) (V B : CV) : Nat := if Sc.2 1 a = 6 then zNd V B else 0
