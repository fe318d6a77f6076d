section ZLC
variable {X : zX} {A A' : Nat → Nat} {S : Nat → va_E}
def zvXs (xs : Nat → Int32) (i : Int) : Int := (xs i.toNat).toInt
theorem zvXs_r {xs : Nat → Int32} {i : Int} : iR (zvXs xs i) := ⟨Int32.le_toInt _, Int32.toInt_lt _⟩
theorem zvXs_e {xs : Nat → Int32} {i : Int} : xs i.toNat = iI (zvXs xs i) := (Int32.ofInt_toInt _).symm
/-- the law's locals at the head of its loop -/
def zvLv (b : Nat) (A : Nat → Nat) (i : Int) : List (Nat × Value) := [(0, .ref b), (1, .ref (A 0)), (2, .ref (A 91)), (3, .ref (A 112)), (4, .int (iI i))]
def zvAk (A A' : Nat → Nat) : Prop := ∀ k, ¬ (1 ≤ k ∧ k < 91) → A' k = A k
theorem zvAk_t {A2 : Nat → Nat} (h : zvAk A A') (h2 : zvAk A' A2) : zvAk A A2 := fun k hk => (h2 k hk).trans (h k hk)
theorem zvLv_k {b : Nat} {i : Int} (h : zvAk A A') : zvLv b A i = zvLv b A' i := by
  unfold zvLv
  rw [h 0 (by omega), h 91 (by omega), h 112 (by omega)]
/-- the model and the answer's cell in the law's world -/
def zvLs (X : zX) (A : Nat → Nat) (m : CV) (f : Nat → Int64) (S : Nat → va_E) : Prop := isC X A shMo 91 m S ∧ S 112 = aL X 1 f
theorem zvLs_k {m : CV} {f : Nat → Int64} (h : zvLs X A m f S) (hA : zvAk A A') : zvLs X A' m f S := ⟨h.1.rel 20 (by decide) (fun k k0 k1 => hA k (by omega)), h.2⟩
theorem zvLs_f {m : CV} {f g : Nat → Int64} (h : zvLs X A m f S) : zvLs X A m g (va_up S 112 (aL X 1 g)) := by
  refine ⟨?_, va_up_self _ _ _⟩
  unfold isC
  funext k
  by_cases c : k = 112
  · rw [c, zC_skip (Or.inr (by decide))]
  · by_cases c2 : k < 91 ∨ 91 + 20 < k
    · rw [zC_skip c2]
    · have e := congrFun h.1 k
      have e2 : zC X A shMo 91 m (va_up S 112 (aL X 1 g)) k = zC X A shMo 91 m S k := zC_at (va_up_ne _ _ c)
      rw [e2, e, va_up_ne _ _ c]
theorem zvLs_c {m : CV} {f : Nat → Int64} {σ : CS} (h : zvLs X A m f S) : isC X A shMo 91 m (zSt X A σ S) := by
  unfold isC
  funext k
  by_cases c2 : k < 91 ∨ 91 + 20 < k
  · rw [zC_skip c2]
  · rw [zC_at (S2 := S) (zSt_hi (by omega)), zSt_hi (by omega)]
    exact congrFun h.1 k
theorem zSt_zC {m : CV} {σ : CS} : zC X A shMo 91 m (zSt X A σ S) = zSt X A σ (zC X A shMo 91 m S) := by
  funext k
  by_cases c : k < 91
  · rw [zC_skip (Or.inl c)]
    unfold zSt
    refine zStL_k ?_ _ _ _
    by_cases c2 : k = 2
    · rw [c2, va_up_self, va_up_self]
    · rw [va_up_ne _ _ c2, va_up_ne _ _ c2, zC_skip (Or.inl c)]
  · rw [zSt_hi (by omega), zC_at (S2 := S) (zSt_hi (by omega))]
theorem zvLs_m {m m' : CV} {f : Nat → Int64} (h : zvLs X A m f S) : zvLs X A m' f (zC X A shMo 91 m' S) := ⟨zC_self, by rw [zC_skip (Or.inr (by decide))]; exact h.2⟩
/-- what out[0] is behind a wrapper -/
def zvLf (f : Nat → Int64) : (Int ⊕ String) → Nat → Int64
  | .inl v => vp_updL f (iI 0).toNatClampNeg (iI v).toInt64
  | .inr _ => f
theorem zvLs_o {m : CV} {f : Nat → Int64} {r : Int ⊕ String} (h : zvLs X A m f S) : zvLs X A m (zvLf f r) (zLo X 112 f S r) := by
  cases r with
  | inl v => exact zvLs_f h
  | inr E => exact h
theorem zvLf_0 {f : Nat → Int64} {v : Int} : zvLf f (.inl v) (iI 0).toNatClampNeg = (iI v).toInt64 := by
  show vp_updL f (iI 0).toNatClampNeg (iI v).toInt64 (iI 0).toNatClampNeg = _
  unfold vp_updL
  exact if_pos rfl
theorem lg_cmp_s {x : Int64} : lg_cmp x x = iI 0 := by
  unfold lg_cmp
  simp
  rfl
/-- what an answer says of the code -/
theorem zAn_k {L : List String} {r : Int ⊕ String} {c b : Int} (h : zAn L r c b) (hL : L.length ≤ 2) (hd : ∀ a ∈ L.head?, ∀ c ∈ L.tail, c ≠ a) : (∀ E, r = .inr E → E ∈ L) ∧ c = zKo L r ∧ (0 ≤ c ∧ c ≤ 2) ∧ (c = 0 → ∃ v, r = .inl v ∧ v = b ∧ iR v) := by
  rcases h with ⟨v, h1, h2, h3, h4⟩ | ⟨E, i, h1, h2, h3⟩
  · subst h1
    refine ⟨(fun E z => by cases z), ?_, by omega, fun _ => ⟨v, rfl, h3, h4⟩⟩
    rw [h2]
    cases L <;> rfl
  · subst h1
    match L, i, h2 with
    | a :: L', 0, h2 =>
      have e : a = E := Option.some.inj h2
      subst e
      exact ⟨(fun E z => Sum.inr.inj z ▸ List.mem_cons_self), by rw [zKo_1]; exact h3, by omega, fun z => by omega⟩
    | [a, c], 1, h2 =>
      have e : c = E := Option.some.inj h2
      subst e
      have hne : c ≠ a := hd a rfl c List.mem_cons_self
      exact ⟨(fun E z => Sum.inr.inj z ▸ List.mem_cons_of_mem _ List.mem_cons_self), by rw [zKo_2 hne]; exact h3, by omega, fun z => by omega⟩
    | [a, c], i + 2, h2 => simp at h2
    | [a], i + 1, h2 => simp at h2
    | a :: c :: d :: L', i + 1, h2 => simp at hL
/-- a number of the script -/
theorem g_arg {b L : Nat} {xs : Nat → Int32} {i k : Int} {pc kc ks : Nat} {lv : List (Nat × Value)} {rest : List Value} {ws : va_W} {P : zP} (hE : ∀ U, zE X U → va_X b L xs U U.heap) (hb : b < X.2.2.2.1) (d1 : decode mL_law.2.1 pc = .ok (.aload_n 0, 1)) (d2 : decode mL_law.2.1 (pc + 1) = .ok (.iload 4, 2)) (d3 : decode mL_law.2.1 (pc + 3) = .ok (.iconst k, 1)) (d4 : decode mL_law.2.1 (pc + 4) = .ok (.iadd, 1)) (d5 : decode mL_law.2.1 (pc + 5) = .ok (.iaload, 1)) (j0 : lv[0]? = some (0, .ref b)) (j4 : lv[4]? = some (4, .int (iI i))) (hi : 0 ≤ i ∧ 0 ≤ k ∧ i + k < L) (hL : L ≤ 3072) (kk : G X mL_law P kc ks (pc + 6) lv (.int (iI (zvXs xs (i + k))) :: rest) ws) : G X mL_law P kc ks pc lv rest ws := by
  refine g_aload_n (M := mL_law) d1 0 j0 rfl ?_
  refine g_iload (M := mL_law) d2 4 j4 ?_
  refine h_iconst (M := mL_law) d3 ?_
  refine h_iadd (M := mL_law) d4 ?_
  refine g_sld (M := mL_law) hE hb d5 (iI_in (by omega) (by omega) (by omega)) ?_
  have e : xs (iI (i + k)).toNatClampNeg = iI (zvXs xs (i + k)) := by
    have h := iI_idx (a := i + k) (by omega) (by omega)
    rw [show (iI (i + k)).toNatClampNeg = (i + k).toNat by omega]
    exact zvXs_e
  rw [e]
  exact kk
/-- a number made a truth -/
theorem g_nz {v : Int} {pc kc ks : Nat} {lv : List (Nat × Value)} {rest : List Value} {ws : va_W} {P : zP} (hv : iR v) (d1 : decode mL_law.2.1 pc = .ok (.ifCond .eq 7, 3)) (d2 : decode mL_law.2.1 (pc + 3) = .ok (.iconst 1, 1)) (d3 : decode mL_law.2.1 (pc + 4) = .ok (.goto 4, 3)) (d4 : decode mL_law.2.1 (pc + 7) = .ok (.iconst 0, 1)) (kk : G X mL_law P kc ks (pc + 8) lv (.int (iI (b2 (!decide (v = 0)))) :: rest) ws) : G X mL_law P kc ks pc lv (.int (iI v) :: rest) ws := by
  refine h_if_eq (M := mL_law) (tgt := pc + 7) d1 (by omega) hv (fun c => ?_) (fun c => ?_)
  · rw [decide_eq_true c] at kk
    exact h_iconst (M := mL_law) d4 kk
  · rw [decide_eq_false c] at kk
    exact h_iconst (M := mL_law) d2 (g_goto (M := mL_law) (tgt := pc + 8) d3 (by omega) kk)
end ZLC
