/-! PROGRAMS AS FUNCTIONS THAT MAY HAVE NO ANSWER -/
def zG {α : Type} (p : Prop) [Decidable p] (k : Option α) : Option α := if p then k else none
theorem zgi {α : Type} {p : Prop} [Decidable p] {k : Option α} {r : α} (h : zG p k = some r) : p ∧ k = some r := by
  unfold zG at h
  by_cases c : p
  · rw [if_pos c] at h; exact ⟨c, h⟩
  · rw [if_neg c] at h; cases h
theorem zgp {α : Type} {p : Prop} [Decidable p] {k : Option α} (c : p) : zG p k = k := if_pos c
theorem zbi {α β : Type} {o : Option α} {k : α → Option β} {r : β} (h : o.bind k = some r) : ∃ t, o = some t ∧ k t = some r := by
  cases o with
  | none => cases h
  | some t => exact ⟨t, rfl, h⟩
theorem zti {α : Type} {p : Prop} [Decidable p] {a b : Option α} {r : α} (c : p) (h : (if p then a else b) = some r) : a = some r := (if_pos c).symm.trans h
theorem zfi {α : Type} {p : Prop} [Decidable p] {a b : Option α} {r : α} (c : ¬ p) (h : (if p then a else b) = some r) : b = some r := (if_neg c).symm.trans h
theorem zbf {p : Bool} (h : p = false) : ¬ p = true := by rw [h]; decide
/-- a loop: step after step until it is left -/
def zLp {σ ρ : Type} (step : σ → Option (σ ⊕ ρ)) : Nat → σ → Option ρ
  | 0, _ => none
  | n + 1, s => match step s with
    | some (.inl t) => zLp step n t
    | some (.inr y) => some y
    | none => none
def zFu : Nat := 100000
theorem zLp_J {σ ρ : Type} {step : σ → Option (σ ⊕ ρ)} {J : σ → Prop} {x : ρ} (body : ∀ s w, step s = some w → (∀ t, w = .inl t → J t) → (∀ y, w = .inr y → y = x) → J s) :
    ∀ (n : Nat) (s : σ), zLp step n s = some x → J s := by
  intro n
  induction n with
  | zero => intro s h; cases h
  | succ n ih =>
    intro s h
    unfold zLp at h
    cases e : step s with
    | none => rw [e] at h; cases h
    | some w =>
      rw [e] at h
      cases w with
      | inl t => exact body s _ e (fun t2 h2 => by cases h2; exact ih t h) (fun y h2 => by cases h2)
      | inr y => exact body s _ e (fun t2 h2 => by cases h2) (fun y2 h2 => by cases h2; exact Option.some.inj h)
theorem zLp_rule {σ ρ : Type} {step : σ → Option (σ ⊕ ρ)} (I : σ → Prop) (μ : σ → Nat) (Q : ρ → Prop) (h : ∀ s, I s → ∃ w, step s = some w ∧ (∀ t, w = .inl t → I t ∧ μ t < μ s) ∧ (∀ y, w = .inr y → Q y)) :
    ∀ (n : Nat) (s : σ), I s → μ s < n → ∃ x, zLp step n s = some x ∧ Q x := by
  intro n
  induction n with
  | zero => intro s _ h; exact absurd h (Nat.not_lt_zero _)
  | succ n ih =>
    intro s hI hm
    obtain ⟨w, e, h1, h2⟩ := h s hI
    unfold zLp
    rw [e]
    cases w with
    | inl t => exact ih t (h1 t rfl).1 (by have := (h1 t rfl).2; omega)
    | inr y => exact ⟨y, rfl, h2 y rfl⟩
/-- a place where roads meet -/
def zJn {σ ρ : Type} (k : σ → Option ρ) (b : (σ → Option ρ) → Option ρ) : Option ρ := b k
theorem zJn_J {σ ρ : Type} {J : σ → Prop} {P : Prop} {k : σ → Option ρ} {b : (σ → Option ρ) → Option ρ} {r : ρ} (h : zJn k b = some r) (h1 : ∀ x, k x = some r → J x) (h2 : (∀ x, k x = some r → J x) → b k = some r → P) : P := h2 h1 h
theorem zsl {α β γ : Type} {k1 : α → Option γ} {k2 : β → Option γ} {v : α} {r : γ} (h : Sum.elim k1 k2 (.inl v) = some r) : k1 v = some r := h
theorem zsr {α β γ : Type} {k1 : α → Option γ} {k2 : β → Option γ} {v : β} {r : γ} (h : Sum.elim k1 k2 (.inr v) = some r) : k2 v = some r := h
theorem zslo {α β γ : Type} {o : α ⊕ β} {k1 : α → Option γ} {k2 : β → Option γ} {v : α} {r : γ} (c : o = .inl v) (h : Sum.elim k1 k2 o = some r) : k1 v = some r := by rw [c] at h; exact h
theorem zsro {α β γ : Type} {o : α ⊕ β} {k1 : α → Option γ} {k2 : β → Option γ} {v : β} {r : γ} (c : o = .inr v) (h : Sum.elim k1 k2 o = some r) : k2 v = some r := by rw [c] at h; exact h
theorem zEqR {α : Type} {P : α → Prop} {a b : α} (e : a = b) (h : P a) : P b := e ▸ h
/-! what is answered, or thrown -/
def zRx (ws' : va_W) (o : zO) : va_W → zO → Prop := fun w o' => w = ws' ∧ o' = o
def zoI : Int ⊕ String → zO
  | .inl v => .inl (some (.int (iI v)))
  | .inr E => .inr E
def zoB : Bool ⊕ String → zO
  | .inl v => .inl (some (.int (iI (b2 v))))
  | .inr E => .inr E
def zoV : Unit ⊕ String → zO
  | .inl _ => .inl none
  | .inr E => .inr E
section ZX
variable {X : zX} {M : zM} {P : zP} {kc ks pc : Nat} {lv : List (Nat × Value)} {rest : List Value} {ws : va_W}
theorem zrx_l {ws' : va_W} {o : zO} {v : Option Value} (ho : o = .inl v) : zRx ws' o = zRet ws' v := by rw [ho]; rfl
theorem g_callVx {y : MethodName} {M' : zM} {np ci ix fr mc ms b : Nat} {fs : List Value} (As : List Value) {ws' : va_W} {o : zO} {v : Option Value} (hX : zOK X) (hdg : decode M.2.1 pc = .ok (.invokevirtual ix, 3)) (hV : zV y M' np ci) (hl : Cond.methodLink M.1 ix y ∈ zW)
    (hM : Con X y M' fr mc ms (.ref b :: As) ws (zRx ws' o)) (ho : o = .inl v) (q : Nat) (hb : ws[q]? = some (b, .inr (ci, fs)))
    (hn : As.length = np) (hR : fr + 1 ≤ P.1.frames ∧ 8 + (M'.2.2.1 + 11) + 64 * fr ≤ P.1.locals) (hf : kc + mc ≤ P.1.cells ∧ ks + ms ≤ P.1.slots) (hcat : (rest.map fun v => v.category).sum ≤ 8)
    (kk : G X M P (kc + mc) (ks + ms) (pc + 3) lv (v.toList ++ rest) ws') : G X M P kc ks pc lv (As.reverse ++ .ref b :: rest) ws :=
  g_callVr As hX hdg hV hl (zrx_l ho ▸ hM) q hb hn hR hf hcat kk
theorem g_callVe {y : MethodName} {M' : zM} {np ci ix fr mc ms b : Nat} {fs : List Value} (As : List Value) {ws' : va_W} {o : zO} {E : String} (hX : zOK X) (hdg : decode M.2.1 pc = .ok (.invokevirtual ix, 3)) (hV : zV y M' np ci) (hl : Cond.methodLink M.1 ix y ∈ zW)
    (hM : Con X y M' fr mc ms (.ref b :: As) ws (zRx ws' o)) (ho : o = .inr E) (q : Nat) (hb : ws[q]? = some (b, .inr (ci, fs)))
    (hn : As.length = np) (hR : fr + 1 ≤ P.1.frames ∧ 8 + (M'.2.2.1 + 11) + 64 * fr ≤ P.1.locals) (hf : kc + mc ≤ P.1.cells ∧ ks + ms ≤ P.1.slots) (hcat : (rest.map fun v => v.category).sum ≤ 8)
    (kx : GX X M P (kc + mc) (ks + ms) pc lv rest ws' E) : G X M P kc ks pc lv (As.reverse ++ .ref b :: rest) ws :=
  g_callV As hX hdg hV hl hM q hb hn hR hf hcat (fun w v2 h => by rw [ho] at h; cases h.2) (fun w E2 h => by rw [ho] at h; obtain ⟨h1, h2⟩ := h; cases h2; rw [h1]; exact kx)
/-- compared longs -/
def zCmp (a b : Int) : Int := if a < b then -1 else if a = b then 0 else 1
theorem zCmp_r (a b : Int) : iR (zCmp a b) := by
  unfold zCmp
  split
  · decide
  · split <;> decide
theorem zCmp_0 {a b : Int} : zCmp a b = 0 ↔ a = b := by
  unfold zCmp
  split
  · omega
  · split <;> omega
end ZX
theorem b2_d {v : Int} (h : v = 0 ∨ v = 1) : v = b2 (decide (v = 1)) := by
  rcases h with h | h <;> subst h <;> decide
theorem iL_lt {a b : Int} (ha : iRL a) (hb : iRL b) : iL a < iL b ↔ a < b := by rw [Int64.lt_iff_toInt_lt, iL_toInt ha, iL_toInt hb]
theorem iL_eq {a b : Int} (ha : iRL a) (hb : iRL b) : iL a = iL b ↔ a = b := by rw [← Int64.toInt_inj, iL_toInt ha, iL_toInt hb]
theorem lg_cmp_i {a b : Int} (ha : iRL a) (hb : iRL b) : lg_cmp (iL a) (iL b) = iI (zCmp a b) := by
  unfold lg_cmp zCmp
  by_cases h1 : a < b
  · rw [if_neg (fun h => by have := (iL_lt hb ha).mp h; omega), if_neg (fun h => by have := (iL_eq ha hb).mp h; omega), if_pos h1]
    rfl
  · by_cases h2 : a = b
    · rw [if_neg (fun h => by have := (iL_lt hb ha).mp h; omega), if_pos ((iL_eq ha hb).mpr h2), if_neg h1, if_pos h2]
      rfl
    · rw [if_pos ((iL_lt hb ha).mpr (by omega)), if_neg h1, if_neg h2]
      rfl
theorem iI_bm (x : Int) : (iI x).toInt = x.bmod 4294967296 := by unfold iI; rw [Int32.toInt_ofInt]
theorem iI_i2b (x : Int) : (iI x).toInt8.toInt32 = iI ((x + 128) % 256 - 128) := by
  apply Int32.toInt_inj.mp
  rw [Int8.toInt_toInt32, Int32.toInt_toInt8, iI_bm, iI_toInt (by constructor <;> omega)]
  have h : (x.bmod 4294967296).bmod 256 = x.bmod 256 := Int.bmod_bmod_of_dvd (by decide)
  show (x.bmod 4294967296).bmod 256 = _
  rw [h, Int.bmod_def]
  omega
theorem iI_i2c (x : Int) : ((iI x).toUInt32 % 65536).toInt32 = iI (x % 65536) := by
  apply Int32.toBitVec_inj.mp
  apply BitVec.eq_of_toNat_eq
  rw [iI_bv, BitVec.toNat_ofInt]
  show ((iI x).toUInt32 % 65536).toNat = _
  rw [UInt32.toNat_mod]
  show (iI x).toBitVec.toNat % 65536 = _
  rw [iI_bv, BitVec.toNat_ofInt]
  have : ((2 ^ 32 : Nat) : Int) = 4294967296 := by decide
  rw [this]
  omega
theorem iI_ushrG {x r : Int} (h2 : 0 ≤ r ∧ r < 32) : ((iI x).toUInt32 >>> ((iI r).toUInt32 &&& Int32.toUInt32 31)).toInt32 = iI (x % 4294967296 / zP2 r) := by
  have h : iI x = iI (x % 4294967296) := iI_wrap ⟨x / 4294967296, by omega⟩
  rw [h]
  exact iI_ushr (by omega) (by omega) h2.1 h2.2
theorem iI_not (x : Int) : iI x ^^^ iI (-1) = iI (-1 - x) := by
  apply Int32.toBitVec_inj.mp
  rw [Int32.toBitVec_xor]
  have h1 : (iI (-1)).toBitVec = BitVec.allOnes 32 := by decide
  rw [h1, BitVec.xor_allOnes]
  apply BitVec.eq_of_toNat_eq
  rw [BitVec.toNat_not, iI_bv, iI_bv, BitVec.toNat_ofInt, BitVec.toNat_ofInt]
  have : ((2 ^ 32 : Nat) : Int) = 4294967296 := by decide
  rw [this]
  omega
theorem iI_shr {x r : Int} (hx : iR x) (h0 : 0 ≤ r ∧ r < 32) : iI x >>> (iI r &&& 31) = iI (x / zP2 r) := by
  obtain ⟨n, rfl⟩ : ∃ n : Nat, r = n := ⟨r.toNat, by omega⟩
  have hn : n < 32 := by omega
  apply Int32.toInt_inj.mp
  have hp : 1 ≤ zP2 (n : Int) := zP2_pos _
  have hd : -2147483648 ≤ x / zP2 n ∧ x / zP2 n < 2147483648 := by
    have h1 : x / zP2 n ≤ x / zP2 n * zP2 n ∨ x / zP2 n < 0 := by
      by_cases h : x / zP2 n < 0
      · exact Or.inr h
      · left
        have := Int.mul_le_mul_of_nonneg_left hp (show 0 ≤ x / zP2 n by omega)
        omega
    have h2 := Int.ediv_mul_le x (show zP2 n ≠ 0 by omega)
    have h3 : -2147483648 ≤ x / zP2 n := by
      apply (Int.le_ediv_iff_mul_le (by omega)).mpr
      have := Int.mul_le_mul_of_nonneg_left hp (show (0:Int) ≤ 2147483648 by omega)
      have := hx.1
      rw [show (-2147483648 : Int) * zP2 n = -(2147483648 * zP2 n) from Int.neg_mul ..]
      omega
    exact ⟨h3, by have := hx.2; omega⟩
  rw [iI_toInt hd]
  show ((iI x) >>> (nI n &&& 31)).toBitVec.toInt = _
  rw [Int32.toBitVec_shiftRight, BitVec.sshiftRight_eq', zN_s n hn, BitVec.toInt_sshiftRight]
  show (iI x).toInt >>> n = _
  rw [iI_toInt hx, Int.shiftRight_eq_div_pow]
  rfl
section ZY
variable {X : zX} {A : Nat → Nat} {sh sh' sh2 : Sh} {q q' q2 : Nat} {V V' W W' U U' : CV} {S : Nat → va_E}
theorem zC_skipN (N : Nat) (hN : sh.2.2.length = N) {k : Nat} (h : k < q ∨ q + N < k) : zC X A sh q V S k = S k := zC_skip (by rw [hN]; exact h)
theorem isC.keepN (h : isC X A sh q V S) (N' N : Nat) (hN' : sh'.2.2.length = N') (hN : sh.2.2.length = N) (hd : q' + N' < q ∨ q + N < q') : isC X A sh q V (zC X A sh' q' W S) := h.keep (by rw [hN, hN']; exact hd)
theorem zC_commN (N N' : Nat) (hN : sh.2.2.length = N) (hN' : sh'.2.2.length = N') (hd : q' + N' < q ∨ q + N < q') : zC X A sh q V (zC X A sh' q' W S) = zC X A sh' q' W (zC X A sh q V S) := zC_comm (by rw [hN, hN']; exact hd)
theorem zC_over2 (N N' : Nat) (hN : sh.2.2.length = N) (hN' : sh'.2.2.length = N') (hd : q' + N' < q ∨ q + N < q') : zC X A sh' q' W' (zC X A sh q V' (zC X A sh' q' W (zC X A sh q V S))) = zC X A sh' q' W' (zC X A sh q V' S) := by
  rw [zC_commN N N' hN hN' hd, zC_over, zC_over]
theorem zC_over3 (N N' N2 : Nat) (hN : sh.2.2.length = N) (hN' : sh'.2.2.length = N') (hN2 : sh2.2.2.length = N2) (hd : q' + N' < q ∨ q + N < q') (hd2 : q2 + N2 < q ∨ q + N < q2) (hd3 : q2 + N2 < q' ∨ q' + N' < q2) :
    zC X A sh2 q2 U' (zC X A sh' q' W' (zC X A sh q V' (zC X A sh2 q2 U (zC X A sh' q' W (zC X A sh q V S))))) = zC X A sh2 q2 U' (zC X A sh' q' W' (zC X A sh q V' S)) := by
  rw [zC_commN N N2 hN hN2 hd2, zC_commN N' N2 hN' hN2 hd3, zC_over, zC_over2 N N' hN hN' hd]
end ZY
theorem iI_maskP {x k : Int} (h0 : 0 ≤ k) (hk : k ≤ 30) : iI x &&& iI (zP2 k - 1) = iI (x % zP2 k) := iI_maskI x h0 hk
theorem iI_shl1 {r : Int} (h0 : 0 ≤ r) (h1 : r < 32) : iI 1 <<< (iI r &&& 31) = iI (zP2 r) := by rw [iI_shl 1 h0 h1, Int.one_mul]
def zAndG (a b : Int) : Int := (iI a &&& iI b).toInt
theorem iI_andG (a b : Int) : iI a &&& iI b = iI (zAndG a b) := (Int32.ofInt_toInt _).symm
def zXor (a b : Int) : Int := ((a.toNat ^^^ b.toNat : Nat) : Int)
theorem iI_xor {a b : Int} (h0 : 0 ≤ a) (h1 : 0 ≤ b) : iI a ^^^ iI b = iI (zXor a b) := by
  obtain ⟨n, rfl⟩ : ∃ n : Nat, a = n := ⟨a.toNat, by omega⟩
  obtain ⟨m, rfl⟩ : ∃ m : Nat, b = m := ⟨b.toNat, by omega⟩
  show nI n ^^^ nI m = nI (n ^^^ m)
  apply Int32.toBitVec_inj.mp
  rw [Int32.toBitVec_xor]
  show BitVec.ofNat 32 n ^^^ BitVec.ofNat 32 m = BitVec.ofNat 32 (n ^^^ m)
  exact (BitVec.ofNat_xor).symm
theorem iI_div {a b : Int} (h0 : 0 ≤ a) (h1 : a < 2147483648) (h2 : 0 < b) (h3 : b < 2147483648) : iI a / iI b = iI (a / b) := by
  obtain ⟨n, rfl⟩ : ∃ n : Nat, a = n := ⟨a.toNat, by omega⟩
  obtain ⟨m, rfl⟩ : ∃ m : Nat, b = m := ⟨b.toNat, by omega⟩
  exact pk_div (by omega) (by omega) (by omega)
theorem iI_rem {a b : Int} (h0 : 0 ≤ a) (h1 : a < 2147483648) (h2 : 0 < b) (h3 : b < 2147483648) : iI a - iI a / iI b * iI b = iI (a % b) := by
  obtain ⟨n, rfl⟩ : ∃ n : Nat, a = n := ⟨a.toNat, by omega⟩
  obtain ⟨m, rfl⟩ : ∃ m : Nat, b = m := ⟨b.toNat, by omega⟩
  exact pk_rem (by omega) (by omega) (by omega)
theorem iI_ne0 {b : Int} (h2 : 0 < b) (h3 : b < 2147483648) : ¬ iI b = 0 := fun h => by
  have := (iI_eq (a := b) (b := 0) ⟨by omega, by omega⟩ (by decide)).mp h
  omega
theorem iL_shl {x r : Int} (hx : 0 ≤ x ∧ x < 9223372036854775808) (h : 0 ≤ r ∧ r < 64) : iL x <<< ((iI r).toInt64 &&& 63) = iL (x * zP2 r) := by
  obtain ⟨n, rfl⟩ : ∃ n : Nat, r = n := ⟨r.toNat, by omega⟩
  obtain ⟨m, rfl⟩ : ∃ m : Nat, x = m := ⟨x.toNat, by omega⟩
  rw [iI_nat, iL_nat, wb_shl m (by omega)]
  rfl
theorem iL_or {a b : Int} (ha : 0 ≤ a ∧ a < 9223372036854775808) (hb : 0 ≤ b ∧ b < 9223372036854775808) : iL a ||| iL b = iL (zOr a b) := by
  obtain ⟨n, rfl⟩ : ∃ n : Nat, a = n := ⟨a.toNat, by omega⟩
  obtain ⟨m, rfl⟩ : ∃ m : Nat, b = m := ⟨b.toNat, by omega⟩
  rw [iL_nat, iL_nat, wb_or (by omega) (by omega)]
  rfl
theorem iL_mask {a : Int} (k : Nat) (ha : 0 ≤ a ∧ a < 9223372036854775808) (hk : k < 63) : iL a &&& iL (((2 ^ k - 1 : Nat)) : Int) = iL (a % ((2 ^ k : Nat) : Int)) := by
  obtain ⟨n, rfl⟩ : ∃ n : Nat, a = n := ⟨a.toNat, by omega⟩
  rw [iL_nat, iL_nat, wb_mask (by omega) (by omega)]
  rfl
theorem iL_shr {x r : Int} (hx : 0 ≤ x ∧ x < 9223372036854775808) (h : 0 ≤ r ∧ r < 64) : iL x >>> ((iI r).toInt64 &&& 63) = iL (x / zP2 r) := by
  obtain ⟨n, rfl⟩ : ∃ n : Nat, r = n := ⟨r.toNat, by omega⟩
  obtain ⟨m, rfl⟩ : ∃ m : Nat, x = m := ⟨x.toNat, by omega⟩
  rw [iI_nat, wb_c n (by omega)]
  apply Int64.toInt_inj.mp
  show ((iL m) >>> lN n).toBitVec.toInt = _
  rw [Int64.toBitVec_shiftRight, BitVec.sshiftRight_eq', wb_tb, wb_sm n (by omega), BitVec.toInt_sshiftRight]
  show (iL m).toInt >>> (BitVec.ofNat 64 n).toNat = _
  have hd : 0 ≤ (m : Int) / zP2 n ∧ (m : Int) / zP2 n ≤ m := ⟨Int.ediv_nonneg (by omega) (by have := zP2_pos n; omega), Int.ediv_le_self _ (by omega)⟩
  rw [iL_toInt ⟨by omega, by omega⟩, iL_toInt ⟨by omega, by omega⟩, BitVec.toNat_ofNat, Nat.mod_eq_of_lt (by omega), Int.shiftRight_eq_div_pow]
  rfl
theorem iL_add (a b : Int) : iL a + iL b = iL (a + b) := (Int64.ofInt_add a b).symm
theorem iL_sub (a b : Int) : iL a - iL b = iL (a - b) := (Int64.ofInt_sub a b).symm
theorem iL_mul (a b : Int) : iL a * iL b = iL (a * b) := (Int64.ofInt_mul a b).symm
section ZV
variable {X : zX} {M : zM} {P : zP} {kc ks pc : Nat} {lv : List (Nat × Value)} {rest : List Value} {ws : va_W}
theorem h_ladd {a b : Int} (hdg : decode M.2.1 pc = .ok (.ladd, 1)) (kk : G X M P kc ks (pc + 1) lv (.long (iL (a + b)) :: rest) ws) : G X M P kc ks pc lv (.long (iL b) :: .long (iL a) :: rest) ws := g_ladd hdg (by rw [iL_add]; exact kk)
theorem h_lsub {a b : Int} (hdg : decode M.2.1 pc = .ok (.lsub, 1)) (kk : G X M P kc ks (pc + 1) lv (.long (iL (a - b)) :: rest) ws) : G X M P kc ks pc lv (.long (iL b) :: .long (iL a) :: rest) ws := g_lsub hdg (by rw [iL_sub]; exact kk)
theorem h_lmul {a b : Int} (hdg : decode M.2.1 pc = .ok (.lmul, 1)) (kk : G X M P kc ks (pc + 1) lv (.long (iL (a * b)) :: rest) ws) : G X M P kc ks pc lv (.long (iL b) :: .long (iL a) :: rest) ws := g_lmul hdg (by rw [iL_mul]; exact kk)
end ZV
theorem b2_fit (p : Bool) : fits .boolean (.int (iI (b2 p))) = true := by cases p <;> rfl
theorem b2_narD {v : Int} (h : v = 0 ∨ v = 1) : narrow .boolean (.int (iI v)) = .int (iI v) := by rw [b2_d h]; exact b2_nar _
theorem b2_fitD {v : Int} (h : v = 0 ∨ v = 1) : fits .boolean (.int (iI v)) = true := by rw [b2_d h]; exact b2_fit _
theorem iI_len {v : Int} (h : 0 ≤ v) : Int32.ofNat v.toNat = iI v := by
  obtain ⟨n, rfl⟩ : ∃ n : Nat, v = n := ⟨v.toNat, by omega⟩
  rfl
theorem iI_tlo {v lo : Int} (h : iR v) (h2 : lo ≤ v) : ¬ (iI v).toInt < lo := by rw [iI_toInt h]; omega
theorem iI_thi {v hi : Int} (h : iR v) (h2 : v ≤ hi) : ¬ hi < (iI v).toInt := by rw [iI_toInt h]; omega
theorem iI_tout {v lo hi : Int} (h : iR v) (h2 : v < lo ∨ hi < v) : (iI v).toInt < lo ∨ hi < (iI v).toInt := by rw [iI_toInt h]; exact h2
theorem iI_tat {v k lo : Int} {offs : Array Int} {off : Int} (h : iR v) (h2 : v = k) (ho : offs[(k - lo).toNat]? = some off) : offs[((iI v).toInt - lo).toNat]? = some off := by rw [iI_toInt h, h2]; exact ho
theorem zDy1 {L i : Int} (h0 : 0 ≤ i) (h1 : i < L) (h2 : L ≤ 2147483647) : L.toNat ≤ 2147483647 := by omega
theorem zDy2 {L i : Int} (h0 : 0 ≤ i) (h1 : i < L) : i < (L.toNat : Int) := by omega
