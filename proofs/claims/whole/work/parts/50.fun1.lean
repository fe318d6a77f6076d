/-! WHAT PROGRAMS ANSWER: a small calculus -/
def zOk {α : Type} (o : Option α) (Q : α → Prop) : Prop := ∃ x, o = some x ∧ Q x
section ZOK
variable {α β σ ρ τ : Type} {Q : α → Prop} {R : β → Prop}
theorem zok_s {x : α} (h : Q x) : zOk (some x) Q := ⟨x, rfl, h⟩
theorem zok_g {p : Prop} [Decidable p] {k : Option α} (c : p) (h : zOk k Q) : zOk (zG p k) Q := by rw [zgp c]; exact h
theorem zok_b {P : α → Prop} {o : Option α} {k : α → Option β} (h : zOk o P) (h2 : ∀ t, P t → zOk (k t) R) : zOk (o.bind k) R := by
  obtain ⟨x, e, hx⟩ := h
  rw [e]
  exact h2 x hx
theorem zok_e {o : Option α} {k : α → Option β} {t : α} (h : o = some t) (h2 : zOk (k t) R) : zOk (o.bind k) R := by rw [h]; exact h2
theorem zok_i {p : Prop} [Decidable p] {a b : Option α} (h1 : p → zOk a Q) (h2 : ¬ p → zOk b Q) : zOk (if p then a else b) Q := by
  by_cases c : p
  · rw [if_pos c]; exact h1 c
  · rw [if_neg c]; exact h2 c
theorem zok_t {p : Prop} [Decidable p] {a b : Option α} (c : p) (h1 : zOk a Q) : zOk (if p then a else b) Q := by rw [if_pos c]; exact h1
theorem zok_f {p : Prop} [Decidable p] {a b : Option α} (c : ¬ p) (h1 : zOk b Q) : zOk (if p then a else b) Q := by rw [if_neg c]; exact h1
theorem zok_j {k : σ → Option α} {b : (σ → Option α) → Option α} (h : zOk (b k) Q) : zOk (zJn k b) Q := h
theorem zok_w {P : α → Prop} {o : Option α} (h : zOk o P) (h2 : ∀ x, P x → Q x) : zOk o Q := by
  obtain ⟨x, e, hx⟩ := h
  exact ⟨x, e, h2 x hx⟩
theorem zok_q {o : Option α} {x : α} (h : zOk o (fun y => y = x)) : o = some x := by
  obtain ⟨y, e, hy⟩ := h
  rw [e, hy]
theorem zok_v {o : Option α} {x : α} (h : o = some x) (hx : Q x) : zOk o Q := ⟨x, h, hx⟩
theorem zok_sl {A : σ → Prop} {B : ρ → Prop} {t : σ} (h : A t) : zOk (some (Sum.inl t)) (Sum.elim A B) := ⟨_, rfl, h⟩
theorem zok_sr {A : σ → Prop} {B : ρ → Prop} {t : ρ} (h : B t) : zOk (some (Sum.inr t)) (Sum.elim A B) := ⟨_, rfl, h⟩
theorem zok_L {step : σ → Option (σ ⊕ ρ)} {k : ρ → Option α} (I : σ → Prop) (μ : σ → Nat) {s0 : σ} (h0 : I s0) (hm : μ s0 < 100000)
    (hs : ∀ s, I s → zOk (step s) (Sum.elim (fun t => I t ∧ μ t < μ s) (fun y => zOk (k y) Q))) : zOk ((zLp step zFu s0).bind k) Q := by
  obtain ⟨x, e, hx⟩ := zLp_rule (step := step) I μ (fun y => zOk (k y) Q) (fun s hI => by
    obtain ⟨w, e, hw⟩ := hs s hI
    refine ⟨w, e, fun t ht => ?_, fun y hy => ?_⟩
    · subst ht; exact hw
    · subst hy; exact hw) zFu s0 h0 hm
  exact zok_e e hx
/-- a loop that counts from 0 -/
theorem zok_F {step : σ → Option (σ ⊕ ρ)} {k : ρ → Option α} (mk : β → Int → σ) (N : Int) (I : Int → β → Prop) {a0 : β} {s0 : σ} (hs0 : s0 = mk a0 0) (hF : N ≤ 90000) (h0 : I 0 a0)
    (hs : ∀ (i : Int) (a : β), 0 ≤ i → i < N → I i a → zOk (step (mk a i)) (Sum.elim (fun s => ∃ a', s = mk a' (i + 1) ∧ I (i + 1) a') (fun y => zOk (k y) Q)))
    (he : ∀ (i : Int) (a : β), 0 ≤ i → N ≤ i → (0 ≤ N → i = N) → (N ≤ 0 → i = 0) → I i a → zOk (step (mk a i)) (Sum.elim (fun _ => False) (fun y => zOk (k y) Q))) : zOk ((zLp step zFu s0).bind k) Q := by
  have key : ∀ (n : Nat) (i : Int) (a : β), 0 ≤ i → (N - i).toNat ≤ n → (i ≤ N ∨ i = 0) → I i a → ∀ m, n < m → zOk (zLp step m (mk a i)) (fun y => zOk (k y) Q) := by
    intro n
    induction n with
    | zero =>
      intro i a hi hn hc hI m hm
      obtain ⟨w, e, hw⟩ := he i a hi (by omega) (by omega) (by omega) hI
      cases m with
      | zero => omega
      | succ m =>
        unfold zLp
        rw [e]
        cases w with
        | inl t => exact absurd hw id
        | inr y => exact ⟨y, rfl, hw⟩
    | succ n ih =>
      intro i a hi hn hc hI m hm
      by_cases hiN : i < N
      · obtain ⟨w, e, hw⟩ := hs i a hi hiN hI
        cases m with
        | zero => omega
        | succ m =>
          unfold zLp
          rw [e]
          cases w with
          | inl t =>
            obtain ⟨a', ht, hI'⟩ := hw
            subst ht
            exact ih (i + 1) a' (by omega) (by omega) (Or.inl (by omega)) hI' m (by omega)
          | inr y => exact ⟨y, rfl, hw⟩
      · exact ih i a hi (by omega) hc hI m (by omega)
  obtain ⟨y, e, hy⟩ := key N.toNat 0 a0 (Int.le_refl 0) (by omega) (Or.inr rfl) h0 zFu (by unfold zFu; omega)
  rw [hs0]
  exact zok_e e hy
/-- a loop that counts from c -/
theorem zok_Fc (c : Int) {step : σ → Option (σ ⊕ ρ)} {k : ρ → Option α} (mk : β → Int → σ) (N : Int) (I : Int → β → Prop) {a0 : β} {s0 : σ} (hs0 : s0 = mk a0 c) (hF : N ≤ 90000) (hc0 : 0 ≤ c) (h0 : I c a0)
    (hs : ∀ (i : Int) (a : β), c ≤ i → i < N → I i a → zOk (step (mk a i)) (Sum.elim (fun s => ∃ a', s = mk a' (i + 1) ∧ I (i + 1) a') (fun y => zOk (k y) Q)))
    (he : ∀ (i : Int) (a : β), c ≤ i → N ≤ i → (c ≤ N → i = N) → (N ≤ c → i = c) → I i a → zOk (step (mk a i)) (Sum.elim (fun _ => False) (fun y => zOk (k y) Q))) : zOk ((zLp step zFu s0).bind k) Q := by
  have key : ∀ (n : Nat) (i : Int) (a : β), c ≤ i → (N - i).toNat ≤ n → (i ≤ N ∨ i = c) → I i a → ∀ m, n < m → zOk (zLp step m (mk a i)) (fun y => zOk (k y) Q) := by
    intro n
    induction n with
    | zero =>
      intro i a hi hn hcc hI m hm
      obtain ⟨w, e, hw⟩ := he i a hi (by omega) (by omega) (by omega) hI
      cases m with
      | zero => omega
      | succ m =>
        unfold zLp
        rw [e]
        cases w with
        | inl t => exact absurd hw id
        | inr y => exact ⟨y, rfl, hw⟩
    | succ n ih =>
      intro i a hi hn hcc hI m hm
      by_cases hiN : i < N
      · obtain ⟨w, e, hw⟩ := hs i a hi hiN hI
        cases m with
        | zero => omega
        | succ m =>
          unfold zLp
          rw [e]
          cases w with
          | inl t =>
            obtain ⟨a', ht, hI'⟩ := hw
            subst ht
            exact ih (i + 1) a' (by omega) (by omega) (Or.inl (by omega)) hI' m (by omega)
          | inr y => exact ⟨y, rfl, hw⟩
      · exact ih i a hi (by omega) hcc hI m (by omega)
  obtain ⟨y, e, hy⟩ := key (N - c).toNat c a0 (Int.le_refl c) (by omega) (Or.inr rfl) h0 zFu (by unfold zFu; omega)
  rw [hs0]
  exact zok_e e hy
end ZOK
/-! folds -/
def zFd {α : Type} (f : Int → α → α) : Nat → α → α
  | 0, a => a
  | n + 1, a => f (n : Int) (zFd f n a)
theorem zFd_s {α : Type} {f : Int → α → α} {a : α} {i : Int} (h : 0 ≤ i) : zFd f (i + 1).toNat a = f i (zFd f i.toNat a) := by
  obtain ⟨n, rfl⟩ : ∃ n : Nat, i = n := ⟨i.toNat, by omega⟩
  have h1 : ((n : Int) + 1).toNat = n + 1 := by omega
  have h2 : (n : Int).toNat = n := by omega
  rw [h1, h2]
  rfl
theorem zFd_eq {α : Type} {f g : Int → α → α} {a : α} : ∀ (n : Nat), (∀ (i : Int) (x : α), 0 ≤ i → i < n → f i x = g i x) → zFd f n a = zFd g n a := by
  intro n
  induction n with
  | zero => intro _; rfl
  | succ n ih =>
    intro h
    show f n (zFd f n a) = g n (zFd g n a)
    rw [ih (fun i x h0 h1 => h i x h0 (by omega)), h n _ (by omega) (by omega)]
theorem zFd_more {α : Type} {f : Int → α → α} {a : α} (n : Nat) : ∀ (m : Nat), (∀ (i : Int) (x : α), (n : Int) ≤ i → f i x = x) → n ≤ m → zFd f m a = zFd f n a := by
  intro m
  induction m with
  | zero => intro _ h; have : n = 0 := by omega
            subst this; rfl
  | succ m ih =>
    intro h hn
    by_cases e : n = m + 1
    · rw [e]
    · show f m (zFd f m a) = _
      rw [h m _ (by omega), ih h (by omega)]
/-- with a property that is kept -/
theorem zFd_I {α : Type} {f : Int → α → α} {a : α} (I : Int → α → Prop) (h0 : I 0 a) : ∀ (n : Nat), (∀ (i : Int) (x : α), 0 ≤ i → i < n → I i x → I (i + 1) (f i x)) → I n (zFd f n a) := by
  intro n
  induction n with
  | zero => intro _; exact h0
  | succ n ih =>
    intro h
    have h1 := h n _ (by omega) (by omega) (ih (fun i x h0 h1 => h i x h0 (by omega)))
    have h2 : ((n + 1 : Nat) : Int) = (n : Int) + 1 := by omega
    rw [h2]
    exact h1
/-! powers -/
theorem zP2_0 : zP2 0 = 1 := rfl
theorem zP2_1 : zP2 1 = 2 := rfl
theorem zP2_add {a b : Int} (ha : 0 ≤ a) (hb : 0 ≤ b) : zP2 (a + b) = zP2 a * zP2 b := by
  unfold zP2
  have h : (a + b).toNat = a.toNat + b.toNat := by omega
  rw [h, Nat.pow_add, Int.natCast_mul]
theorem zP2_s {a : Int} (ha : 0 ≤ a) : zP2 (a + 1) = 2 * zP2 a := by rw [zP2_add ha (by omega), zP2_1, Int.mul_comm]
theorem zP2_s2 {a : Int} (ha : 0 ≤ a) : zP2 (2 * (a + 1)) = 4 * zP2 (2 * a) := by
  rw [show 2 * (a + 1) = 2 * a + 1 + 1 by omega, zP2_s (by omega), zP2_s (by omega)]
  omega
theorem zP2_le {a b : Int} (h : a ≤ b) : zP2 a ≤ zP2 b := by
  unfold zP2
  have := Nat.pow_le_pow_right (n := 2) (by omega) (show a.toNat ≤ b.toNat by omega)
  omega
theorem zP2_n (n : Nat) : zP2 (n : Int) = ((2 ^ n : Nat) : Int) := by unfold zP2; rw [Int.toNat_natCast]
def zPw (b k : Int) : Int := b ^ k.toNat
theorem zPw_0 {b : Int} : zPw b 0 = 1 := by unfold zPw; exact Int.pow_zero b
theorem zPw_s {b k : Int} (h : 0 ≤ k) : zPw b (k + 1) = zPw b k * b := by
  unfold zPw
  rw [show (k + 1).toNat = k.toNat + 1 by omega, Int.pow_succ]
theorem zPw_pos {b : Int} (hb : 1 ≤ b) (k : Int) : 1 ≤ zPw b k := by
  unfold zPw
  have := Int.pow_pos (n := b) (m := k.toNat) (by omega)
  omega
theorem zPw_add {b j k : Int} (hj : 0 ≤ j) (hk : 0 ≤ k) : zPw b (j + k) = zPw b j * zPw b k := by
  unfold zPw
  rw [show (j + k).toNat = j.toNat + k.toNat by omega, Int.pow_add]
theorem zPw_le {b j k : Int} (hb : 1 ≤ b) (hj : 0 ≤ j) (h : j ≤ k) : zPw b j ≤ zPw b k := by
  obtain ⟨d, rfl⟩ : ∃ d, k = j + d := ⟨k - j, by omega⟩
  rw [zPw_add hj (by omega)]
  have h1 := zPw_pos hb d
  have h2 := zPw_pos hb j
  calc zPw b j = zPw b j * 1 := by omega
    _ ≤ zPw b j * zPw b d := Int.mul_le_mul_of_nonneg_left h1 (by omega)
/-! codes: two bits a letter -/
def zCd (c n : Int) (u : Int → Int) : Prop := 0 ≤ c ∧ c < zP2 (2 * n) ∧ ∀ j, 0 ≤ j → j < n → c / zP2 (2 * j) % 4 = u j
theorem zCd.ext {c n : Int} {u v : Int → Int} (h : zCd c n u) (e : ∀ j, 0 ≤ j → j < n → u j = v j) : zCd c n v := ⟨h.1, h.2.1, fun j h0 h1 => (h.2.2 j h0 h1).trans (e j h0 h1)⟩
theorem zP2_div {c a b : Int} (ha : 0 ≤ a) (hb : 0 ≤ b) : c / zP2 a / zP2 b = c / zP2 (a + b) := by
  have := zP2_pos a
  rw [zP2_add ha hb, Int.ediv_ediv_of_nonneg (by omega)]
theorem zP2_md {c a b : Int} (hc : 0 ≤ c) (ha : 0 ≤ a) (hb : 0 ≤ b) : c % zP2 (a + b) / zP2 a = c / zP2 a % zP2 b := by
  obtain ⟨x, rfl⟩ : ∃ n : Nat, c = n := ⟨c.toNat, by omega⟩
  rw [zP2_add ha hb]
  unfold zP2
  rw [← Int.natCast_mul, ← Int.natCast_emod, ← Int.natCast_ediv, ← Int.natCast_ediv, ← Int.natCast_emod, Nat.mod_mul_right_div_self]
theorem zP2_mm {c a : Int} (hc : 0 ≤ c) (ha : 2 ≤ a) : c % zP2 a % 4 = c % 4 := by
  obtain ⟨d, rfl⟩ : ∃ d, a = 2 + d := ⟨a - 2, by omega⟩
  apply Int.emod_emod_of_dvd
  rw [zP2_add (by omega) (by omega)]
  exact ⟨zP2 d, by rfl⟩
theorem zCd_slice {c n : Int} {u : Int → Int} (h : zCd c n u) {i m : Int} (hi : 0 ≤ i) (hm : 0 ≤ m) (hn : i + m ≤ n) : zCd (c / zP2 (2 * i) % zP2 (2 * m)) m (fun j => u (i + j)) := by
  have p1 := zP2_pos (2 * i)
  have p2 := zP2_pos (2 * m)
  have h0 : 0 ≤ c / zP2 (2 * i) := Int.ediv_nonneg h.1 (by omega)
  refine ⟨Int.emod_nonneg _ (by omega), Int.emod_lt_of_pos _ (by omega), fun j hj0 hj1 => ?_⟩
  have e1 : zP2 (2 * m) = zP2 (2 * j + (2 * m - 2 * j)) := by rw [show 2 * j + (2 * m - 2 * j) = 2 * m by omega]
  rw [e1, zP2_md h0 (by omega) (by omega), zP2_mm (Int.ediv_nonneg h0 (by have := zP2_pos (2 * j); omega)) (by omega), zP2_div (by omega) (by omega), show 2 * i + 2 * j = 2 * (i + j) by omega]
  exact h.2.2 (i + j) (by omega) (by omega)
theorem zOr_add {c d k : Int} (hk : 0 ≤ k) (hc : 0 ≤ c) (hck : c < zP2 k) (hd : 0 ≤ d) : zOr c (d * zP2 k) = c + d * zP2 k := by
  obtain ⟨x, rfl⟩ : ∃ n : Nat, c = n := ⟨c.toNat, by omega⟩
  obtain ⟨y, rfl⟩ : ∃ n : Nat, d = n := ⟨d.toNat, by omega⟩
  obtain ⟨n, rfl⟩ : ∃ n : Nat, k = n := ⟨k.toNat, by omega⟩
  rw [zP2_n] at hck ⊢
  have hx : x < 2 ^ n := by omega
  rw [← Int.natCast_mul]
  unfold zOr
  rw [Int.toNat_natCast, Int.toNat_natCast, Nat.or_comm, Nat.mul_comm, ← Nat.two_pow_add_eq_or_of_lt hx, ← Int.natCast_add, Nat.add_comm]
theorem zOr_comm {a b : Int} : zOr a b = zOr b a := by unfold zOr; rw [Nat.or_comm]
theorem zCd_0 {u : Int → Int} : zCd 0 0 u := ⟨by omega, by decide, fun j h0 h1 => by omega⟩
theorem zCd_snoc {c n d : Int} {u : Int → Int} (h : zCd c n u) (hn : 0 ≤ n) (hd : 0 ≤ d ∧ d < 4) (hu : u n = d) : zCd (zOr c (d * zP2 (2 * n))) (n + 1) u := by
  rw [zOr_add (by omega) h.1 h.2.1 hd.1]
  have p1 := zP2_pos (2 * n)
  have e := zP2_s2 hn
  have h1 : 0 ≤ d * zP2 (2 * n) := Int.mul_nonneg hd.1 (by omega)
  have h2 : d * zP2 (2 * n) ≤ 3 * zP2 (2 * n) := Int.mul_le_mul_of_nonneg_right (by omega) (by omega)
  have hc := h.1
  have hl := h.2.1
  refine ⟨by omega, by omega, fun j hj0 hj1 => ?_⟩
  by_cases hj : j = n
  · subst hj
    rw [Int.add_mul_ediv_right _ _ (by omega), Int.ediv_eq_zero_of_lt hc hl, hu]
    omega
  · have hjn : j < n := by omega
    rw [← h.2.2 j hj0 hjn]
    have e1 : zP2 (2 * n) = zP2 (2 * (n - j - 1)) * 4 * zP2 (2 * j) := by
      rw [show 2 * n = 2 * (n - j - 1 + 1) + 2 * j by omega, zP2_add (by omega) (by omega), zP2_s2 (by omega), Int.mul_comm 4]
    have p2 := zP2_pos (2 * j)
    rw [e1, ← Int.mul_assoc, Int.add_mul_ediv_right _ _ (by omega), ← Int.mul_assoc, Int.add_mul_emod_self_right]
theorem zCd_cons {c n d : Int} {u : Int → Int} (h : zCd c n (fun j => u (j + 1))) (hn : 0 ≤ n) (hd : 0 ≤ d ∧ d < 4) (hu : u 0 = d) : zCd (4 * c + d) (n + 1) u := by
  have e := zP2_s2 hn
  have hc := h.1
  have hl := h.2.1
  refine ⟨by omega, by omega, fun j hj0 hj1 => ?_⟩
  by_cases hj : j = 0
  · subst hj
    show (4 * c + d) / zP2 0 % 4 = _
    rw [zP2_0, hu]
    omega
  · obtain ⟨i, rfl⟩ : ∃ i, j = i + 1 := ⟨j - 1, by omega⟩
    have this : c / zP2 (2 * i) % 4 = u (i + 1) := h.2.2 i (by omega) (by omega)
    rw [← this, show 2 * (i + 1) = 2 + 2 * i by omega, ← zP2_div (by omega) (by omega)]
    have : (4 * c + d) / zP2 2 = c := by
      show (4 * c + d) / 4 = c
      omega
    rw [this]
/-! how many of the first letters differ -/
def zDn (u v : Int → Int) (m : Int) : Int := zFd (fun j a => a + (if u j = v j then 0 else 1)) m.toNat 0
theorem zDn_s {u v : Int → Int} {m : Int} (h : 0 ≤ m) : zDn u v (m + 1) = zDn u v m + (if u m = v m then 0 else 1) := zFd_s h
theorem zDn_r {u v : Int → Int} (m : Nat) : 0 ≤ zDn u v m ∧ zDn u v m ≤ m := by
  have h := zFd_I (f := fun j a => a + (if u j = v j then 0 else 1)) (a := (0 : Int)) (fun i x => 0 ≤ x ∧ x ≤ i) ⟨by omega, by omega⟩ m (fun i x h0 h1 h2 => by
    show 0 ≤ x + (if u i = v i then 0 else 1) ∧ x + (if u i = v i then 0 else 1) ≤ i + 1
    split <;> omega)
  have e : zDn u v m = zFd (fun j a => a + (if u j = v j then 0 else 1)) m 0 := by unfold zDn; rw [Int.toNat_natCast]
  rw [e]
  exact h
def zDx (x : Nat) : Nat := (if x % 4 = 0 then 0 else 1) + (if x / 4 % 4 = 0 then 0 else 1) + (if x / 16 % 4 = 0 then 0 else 1) + (if x / 64 % 4 = 0 then 0 else 1) + (if x / 256 % 4 = 0 then 0 else 1) + (if x / 1024 % 4 = 0 then 0 else 1)
theorem zPop_x : ∀ a : Fin 64, ∀ b : Fin 64, zPop (((64 * a.val + b.val ||| (64 * a.val + b.val) / 2) &&& 1431655765 : Nat) : Int) = (zDx (64 * a.val + b.val) : Int) := by decide +kernel
theorem zPop_y {x : Int} (h0 : 0 ≤ x) (h1 : x < 4096) : zPop (zAnd (zOr x (x / zP2 1)) 1431655765) = (zDx x.toNat : Int) := by
  obtain ⟨n, rfl⟩ : ∃ n : Nat, x = n := ⟨x.toNat, by omega⟩
  have h := zPop_x ⟨n / 64, by omega⟩ ⟨n % 64, by omega⟩
  have e : 64 * (n / 64) + n % 64 = n := by omega
  simp only [e] at h
  rw [Int.toNat_natCast, ← h]
  rw [zP2_1]
  have e2 : ((n : Int) / 2).toNat = n / 2 := by omega
  unfold zAnd zOr
  rw [Int.toNat_natCast, Int.toNat_natCast, e2]
  rfl
theorem zXor_dg {a b j : Int} (ha : 0 ≤ a) (hb : 0 ≤ b) (hj : 0 ≤ j) : zXor a b / zP2 (2 * j) % 4 = 0 ↔ a / zP2 (2 * j) % 4 = b / zP2 (2 * j) % 4 := by
  obtain ⟨x, rfl⟩ : ∃ n : Nat, a = n := ⟨a.toNat, by omega⟩
  obtain ⟨y, rfl⟩ : ∃ n : Nat, b = n := ⟨b.toNat, by omega⟩
  obtain ⟨n, rfl⟩ : ∃ n : Nat, j = n := ⟨j.toNat, by omega⟩
  have e : zP2 (2 * (n : Int)) = ((2 ^ (2 * n) : Nat) : Int) := by rw [← zP2_n]; rfl
  rw [e]
  unfold zXor
  rw [Int.toNat_natCast, Int.toNat_natCast]
  rw [← Int.natCast_ediv, ← Int.natCast_ediv, ← Int.natCast_ediv]
  have h4 : (4 : Int) = ((2 ^ 2 : Nat) : Int) := rfl
  rw [h4, ← Int.natCast_emod, ← Int.natCast_emod, ← Int.natCast_emod, Nat.xor_div_two_pow, Nat.xor_mod_two_pow]
  constructor
  · intro h
    have h' : x / 2 ^ (2 * n) % 2 ^ 2 ^^^ y / 2 ^ (2 * n) % 2 ^ 2 = 0 := by omega
    have h2 := congrArg (fun z => z ^^^ (y / 2 ^ (2 * n) % 2 ^ 2)) h'
    simp only [Nat.xor_assoc, Nat.xor_self, Nat.xor_zero, Nat.zero_xor] at h2
    rw [h2]
  · intro h
    have h' : x / 2 ^ (2 * n) % 2 ^ 2 = y / 2 ^ (2 * n) % 2 ^ 2 := by omega
    rw [h', Nat.xor_self]
    rfl
def zDy (x : Int) (k : Int) : Int := zFd (fun j a => a + (if x / zP2 (2 * j) % 4 = 0 then 0 else 1)) k.toNat 0
theorem zDx_y {x : Int} (h0 : 0 ≤ x) : (zDx x.toNat : Int) = zDy x 6 := by
  obtain ⟨n, rfl⟩ : ∃ n : Nat, x = n := ⟨x.toNat, by omega⟩
  rw [Int.toNat_natCast]
  have e : zDy n 6 = (((((0 + (if (n : Int) / 1 % 4 = 0 then 0 else 1)) + (if (n : Int) / 4 % 4 = 0 then 0 else 1)) + (if (n : Int) / 16 % 4 = 0 then 0 else 1)) + (if (n : Int) / 64 % 4 = 0 then 0 else 1)) + (if (n : Int) / 256 % 4 = 0 then 0 else 1)) + (if (n : Int) / 1024 % 4 = 0 then 0 else 1) := rfl
  rw [e]
  unfold zDx
  have q : ∀ (p : Prop) (q : Prop) [Decidable p] [Decidable q], (p ↔ q) → ((if p then (0 : Nat) else 1 : Nat) : Int) = (if q then (0 : Int) else 1) := by
    intro p q _ _ h
    by_cases hp : p
    · rw [if_pos hp, if_pos (h.mp hp)]; rfl
    · rw [if_neg hp, if_neg (fun z => hp (h.mpr z))]; rfl
  simp only [Int.natCast_add]
  rw [q (n % 4 = 0) ((n : Int) / 1 % 4 = 0) (by omega), q (n / 4 % 4 = 0) ((n : Int) / 4 % 4 = 0) (by omega), q (n / 16 % 4 = 0) ((n : Int) / 16 % 4 = 0) (by omega), q (n / 64 % 4 = 0) ((n : Int) / 64 % 4 = 0) (by omega), q (n / 256 % 4 = 0) ((n : Int) / 256 % 4 = 0) (by omega), q (n / 1024 % 4 = 0) ((n : Int) / 1024 % 4 = 0) (by omega)]
  omega
theorem zDf_e {a b m : Int} {u v : Int → Int} (ha : 0 ≤ a) (hb : 0 ≤ b) (hm : 0 ≤ m) (hm6 : m ≤ 6) (hu : ∀ j, 0 ≤ j → j < m → a / zP2 (2 * j) % 4 = u j) (hv : ∀ j, 0 ≤ j → j < m → b / zP2 (2 * j) % 4 = v j) :
    zPop (zAnd (zOr (zXor a b % zP2 (2 * m)) ((zXor a b % zP2 (2 * m)) / zP2 1)) 1431655765) = zDn u v m := by
  have hx : 0 ≤ zXor a b := by unfold zXor; omega
  have p := zP2_pos (2 * m)
  have h0 : 0 ≤ zXor a b % zP2 (2 * m) := Int.emod_nonneg _ (by omega)
  have h1 : zXor a b % zP2 (2 * m) < zP2 (2 * m) := Int.emod_lt_of_pos _ (by omega)
  have h2 : zP2 (2 * m) ≤ 4096 := zP2_le (show 2 * m ≤ 12 by omega)
  rw [zPop_y h0 (by omega), zDx_y h0]
  unfold zDy zDn
  generalize hX : zXor a b % zP2 (2 * m) = x at h0 h1
  have e1 : zFd (fun j (y : Int) => y + (if x / zP2 (2 * j) % 4 = 0 then 0 else 1)) (6 : Int).toNat 0 = zFd (fun j (y : Int) => y + (if x / zP2 (2 * j) % 4 = 0 then 0 else 1)) m.toNat 0 := by
    refine zFd_more m.toNat _ (fun i y hi => ?_) (by omega)
    have h3 : zP2 (2 * m) ≤ zP2 (2 * i) := zP2_le (by omega)
    show y + (if x / zP2 (2 * i) % 4 = 0 then 0 else 1) = y
    rw [Int.ediv_eq_zero_of_lt h0 (by omega), if_pos (by decide)]
    omega
  rw [e1]
  refine zFd_eq _ (fun i y hi0 hi1 => ?_)
  have h4 : x / zP2 (2 * i) % 4 = zXor a b / zP2 (2 * i) % 4 := by
    have e2 : zP2 (2 * m) = zP2 (2 * i + (2 * m - 2 * i)) := by rw [show 2 * i + (2 * m - 2 * i) = 2 * m by omega]
    rw [← hX, e2, zP2_md hx (by omega) (by omega), zP2_mm (Int.ediv_nonneg hx (by have := zP2_pos (2 * i); omega)) (by omega)]
  have h5 := zXor_dg ha hb hi0
  rw [hu i hi0 (by omega), hv i hi0 (by omega)] at h5
  show y + (if x / zP2 (2 * i) % 4 = 0 then 0 else 1) = y + (if u i = v i then 0 else 1)
  rw [h4]
  by_cases c : u i = v i
  · rw [if_pos c, if_pos (h5.mpr c)]
  · rw [if_neg c, if_neg (fun z => c (h5.mp z))]
/-! bits -/
theorem zAnd_0 {c n i : Int} (hc : 0 ≤ c) (hn : 0 ≤ n) (hi : 0 ≤ i) : zAnd c ((zP2 n - 1) * zP2 i) = 0 ↔ ∀ j, 0 ≤ j → j < n → c / zP2 (i + j) % 2 ≠ 1 := by
  obtain ⟨x, rfl⟩ : ∃ k : Nat, c = k := ⟨c.toNat, by omega⟩
  obtain ⟨n, rfl⟩ : ∃ k : Nat, n = k := ⟨n.toNat, by omega⟩
  obtain ⟨i, rfl⟩ : ∃ k : Nat, i = k := ⟨i.toNat, by omega⟩
  have e1 : (zP2 (n : Int) - 1) * zP2 (i : Int) = (((2 ^ n - 1) * 2 ^ i : Nat) : Int) := by
    rw [zP2_n, zP2_n, Int.natCast_mul, Int.ofNat_sub (Nat.one_le_two_pow)]
    rfl
  rw [e1]
  unfold zAnd
  rw [Int.toNat_natCast, Int.toNat_natCast]
  have hb : ∀ j : Nat, ((x : Int) / zP2 ((i : Int) + (j : Int)) % 2 = 1) ↔ x.testBit (i + j) = true := by
    intro j
    rw [← Int.natCast_add, zP2_n, ← Int.natCast_ediv, Nat.testBit_eq_decide_div_mod_eq, decide_eq_true_eq]
    omega
  constructor
  · intro h j hj0 hj1 hbit
    obtain ⟨j, rfl⟩ : ∃ k : Nat, j = k := ⟨j.toNat, by omega⟩
    have h1 : x &&& (2 ^ n - 1) * 2 ^ i = 0 := by omega
    have h2 := congrArg (fun z => z.testBit (i + j)) h1
    simp only [Nat.testBit_and, Nat.testBit_mul_two_pow, Nat.testBit_two_pow_sub_one, Nat.zero_testBit, (hb j).mp hbit] at h2
    simp at h2
    omega
  · intro h
    have h1 : x &&& (2 ^ n - 1) * 2 ^ i = 0 := by
      apply Nat.eq_of_testBit_eq
      intro k
      rw [Nat.testBit_and, Nat.testBit_mul_two_pow, Nat.testBit_two_pow_sub_one, Nat.zero_testBit]
      by_cases hk : i ≤ k ∧ k - i < n
      · have h3 := h ((k - i : Nat) : Int) (by omega) (by omega)
        have h4 : x.testBit (i + (k - i)) = false := by
          cases e : x.testBit (i + (k - i))
          · rfl
          · exact absurd ((hb _).mpr e) h3
        rw [show i + (k - i) = k by omega] at h4
        rw [h4]
        rfl
      · have : (decide (i ≤ k) && decide (k - i < n)) = false := by
          simp only [Bool.and_eq_false_iff, decide_eq_false_iff_not]
          omega
        rw [this, Bool.and_false]
    omega
theorem zAnd_le {a b : Int} (ha : 0 ≤ a) : 0 ≤ zAnd a b ∧ zAnd a b ≤ a := by
  unfold zAnd
  have := Nat.and_le_left (n := a.toNat) (m := b.toNat)
  omega
/-- a bit of an or -/
theorem zOr_bit {a b i : Int} (ha : 0 ≤ a) (hb : 0 ≤ b) (hi : 0 ≤ i) : zOr a b / zP2 i % 2 = 1 ↔ a / zP2 i % 2 = 1 ∨ b / zP2 i % 2 = 1 := by
  obtain ⟨x, rfl⟩ : ∃ k : Nat, a = k := ⟨a.toNat, by omega⟩
  obtain ⟨y, rfl⟩ : ∃ k : Nat, b = k := ⟨b.toNat, by omega⟩
  obtain ⟨i, rfl⟩ : ∃ k : Nat, i = k := ⟨i.toNat, by omega⟩
  unfold zOr
  rw [Int.toNat_natCast, Int.toNat_natCast, zP2_n, ← Int.natCast_ediv, ← Int.natCast_ediv, ← Int.natCast_ediv]
  have h : ∀ z : Nat, (((z / 2 ^ i : Nat) : Int) % 2 = 1) ↔ z.testBit i = true := by
    intro z
    rw [Nat.testBit_eq_decide_div_mod_eq, decide_eq_true_eq]
    omega
  rw [h, h, h, Nat.testBit_or, Bool.or_eq_true]
theorem zOr_lt {a b k : Int} (hk : 0 ≤ k) (ha : 0 ≤ a ∧ a < zP2 k) (hb : 0 ≤ b ∧ b < zP2 k) : 0 ≤ zOr a b ∧ zOr a b < zP2 k := by
  obtain ⟨x, rfl⟩ : ∃ n : Nat, a = n := ⟨a.toNat, by omega⟩
  obtain ⟨y, rfl⟩ : ∃ n : Nat, b = n := ⟨b.toNat, by omega⟩
  obtain ⟨k, rfl⟩ : ∃ n : Nat, k = n := ⟨k.toNat, by omega⟩
  rw [zP2_n] at ha hb ⊢
  unfold zOr
  rw [Int.toNat_natCast, Int.toNat_natCast]
  have := Nat.or_lt_two_pow (x := x) (y := y) (n := k) (by omega) (by omega)
  omega
