section ZRX
def zW1 (x : CS) (c : Int) : CS := zSu (zSu x 0 (zPa (x 0) 1 ((x 0).1 12) c)) 0 (zPu (zPa (x 0) 1 ((x 0).1 12) c) 12 (((x 0).1 12) + 1))
def zT1 (t : CV) (c : Int) : CV := zPu (zPa t 20 (t.1 47) c) 47 ((t.1 47) + 1)
def zWL (x : CS) (l : List Int) : CS := l.foldl zW1 x
def zTL (t : CV) (l : List Int) : CV := l.foldl zT1 t
theorem zWL_app {x : CS} {l r : List Int} : zWL x (l ++ r) = zWL (zWL x l) r := List.foldl_append
theorem zTL_app {t : CV} {l r : List Int} : zTL t (l ++ r) = zTL (zTL t l) r := List.foldl_append
theorem zW1_12 {x : CS} {c : Int} : (zW1 x c 0).1 12 = (x 0).1 12 + 1 := by
  unfold zW1
  rw [zSu_s, zPu_s]
theorem zW1_1 {x : CS} {c : Int} {k : Nat} (h : k ≠ 12) : (zW1 x c 0).1 k = (x 0).1 k := by
  unfold zW1
  rw [zSu_s, zPu_n h]
  rfl
theorem zW1_2 {x : CS} {c : Int} : (zW1 x c 0).2 1 = zup ((x 0).2 1) ((x 0).1 12) c := by
  unfold zW1
  rw [zSu_s]
  show (zPa (x 0) 1 ((x 0).1 12) c).2 1 = _
  rw [zPa_s]
theorem zW1_k {x : CS} {c : Int} {k : Nat} (h : k ≠ 0) : zW1 x c k = x k := by
  unfold zW1
  rw [zSu_n h, zSu_n h]
theorem zWL_12 : ∀ (l : List Int) (x : CS), (zWL x l 0).1 12 = (x 0).1 12 + (l.length : Int) := by
  intro l
  induction l with
  | nil => intro x; exact (Int.add_zero _).symm
  | cons c l ih =>
    intro x
    show (zWL (zW1 x c) l 0).1 12 = _
    rw [ih, zW1_12, List.length_cons]
    omega
theorem zWL_1 {k : Nat} (h : k ≠ 12) : ∀ (l : List Int) (x : CS), (zWL x l 0).1 k = (x 0).1 k := by
  intro l
  induction l with
  | nil => intro x; rfl
  | cons c l ih =>
    intro x
    show (zWL (zW1 x c) l 0).1 k = _
    rw [ih, zW1_1 h]
theorem zWL_k {k : Nat} (h : k ≠ 0) : ∀ (l : List Int) (x : CS), zWL x l k = x k := by
  intro l
  induction l with
  | nil => intro x; rfl
  | cons c l ih =>
    intro x
    show zWL (zW1 x c) l k = _
    rw [ih, zW1_k h]
theorem zT1_47 {t : CV} {c : Int} : (zT1 t c).1 47 = t.1 47 + 1 := by
  unfold zT1
  rw [zPu_s]
theorem zT1_1 {t : CV} {c : Int} {k : Nat} (h : k ≠ 47) : (zT1 t c).1 k = t.1 k := by
  unfold zT1
  rw [zPu_n h]
  rfl
theorem zT1_20 {t : CV} {c : Int} : (zT1 t c).2 20 = zup (t.2 20) (t.1 47) c := by
  show (zPa t 20 (t.1 47) c).2 20 = _
  rw [zPa_s]
theorem zT1_2 {t : CV} {c : Int} {k : Nat} (h : k ≠ 20) : (zT1 t c).2 k = t.2 k := by
  show (zPa t 20 (t.1 47) c).2 k = _
  rw [zPa_n h]
theorem zTL_47 : ∀ (l : List Int) (t : CV), (zTL t l).1 47 = t.1 47 + (l.length : Int) := by
  intro l
  induction l with
  | nil => intro x; exact (Int.add_zero _).symm
  | cons c l ih =>
    intro t
    show (zTL (zT1 t c) l).1 47 = _
    rw [ih, zT1_47, List.length_cons]
    omega
theorem zTL_1 {k : Nat} (h : k ≠ 47) : ∀ (l : List Int) (t : CV), (zTL t l).1 k = t.1 k := by
  intro l
  induction l with
  | nil => intro x; rfl
  | cons c l ih =>
    intro t
    show (zTL (zT1 t c) l).1 k = _
    rw [ih, zT1_1 h]
theorem zTL_2 {k : Nat} (h : k ≠ 20) : ∀ (l : List Int) (t : CV), (zTL t l).2 k = t.2 k := by
  intro l
  induction l with
  | nil => intro x; rfl
  | cons c l ih =>
    intro t
    show (zTL (zT1 t c) l).2 k = _
    rw [ih, zT1_2 h]
def zWTb (x : CS) (t : CV) : Prop := (x 0).1 12 = t.1 47 ∧ 0 ≤ t.1 47 ∧ ∀ i, 0 ≤ i → i < t.1 47 → (x 0).2 1 i = t.2 20 i ∧ (0 ≤ t.2 20 i ∧ t.2 20 i < 128)
theorem zWTb_s {x : CS} {t : CV} {c : Int} (h : zWTb x t) (hc : 0 ≤ c ∧ c < 128) : zWTb (zW1 x c) (zT1 t c) := by
  obtain ⟨h1, h2, h3⟩ := h
  refine ⟨by rw [zW1_12, zT1_47, h1], by rw [zT1_47]; omega, fun i i0 i1 => ?_⟩
  rw [zT1_47] at i1
  rw [zW1_2, zT1_20, h1]
  by_cases e : i = t.1 47
  · rw [e, zup_s, zup_s]
    exact ⟨rfl, hc⟩
  · rw [zup_n e, zup_n e]
    exact h3 i i0 (by omega)
theorem zWTb_l : ∀ (l : List Int) (x : CS) (t : CV), zWTb x t → (∀ c ∈ l, 0 ≤ c ∧ c < 128) → zWTb (zWL x l) (zTL t l) := by
  intro l
  induction l with
  | nil => intro x t h _; exact h
  | cons c l ih =>
    intro x t h hl
    exact ih _ _ (zWTb_s h (hl c List.mem_cons_self)) (fun d hd => hl d (List.mem_cons_of_mem _ hd))
theorem c_write {x : CS} {c : Int} (h0 : 0 ≤ (x 0).1 12) (h1 : (x 0).1 12 < 410) (hc : 0 ≤ c ∧ c < 128) : fX7_writeByte x c = some (zW1 x c) := by
  apply zok_q
  unfold fX7_writeByte
  (repeat (first | (with_reducible refine zok_g ?_ ?_; focus omega) | with_reducible refine zok_j ?_ | (with_reducible refine zok_t ?_ ?_; focus omega) | (with_reducible refine zok_f ?_ ?_; focus omega)))
  have e : (c + 128) % 256 - 128 = c := by omega
  rw [e]
  exact zok_s rfl
theorem m_tell {t : CV} {c : Int} (h0 : 0 ≤ t.1 47) (h1 : t.1 47 < 500) : fX8_tell t c = some (zT1 t c) := by
  apply zok_q
  unfold fX8_tell
  (repeat (first | (with_reducible refine zok_g ?_ ?_; focus omega) | with_reducible refine zok_j ?_ | (with_reducible refine zok_t ?_ ?_; focus omega) | (with_reducible refine zok_f ?_ ?_; focus omega)))
  exact zok_s rfl
/-! names -/
def zLet (w : List Int) : Prop := ∀ c ∈ w, 1 ≤ c ∧ c ≤ 26
theorem zP2_88 (n : Nat) : zP2 (8 * ((n + 1 : Nat) : Int)) = 256 * zP2 (8 * (n : Int)) := by
  rw [show 8 * ((n + 1 : Nat) : Int) = 8 + 8 * (n : Int) by omega, zP2_add (by omega) (by omega)]
  rfl
theorem zP2_55 (n : Nat) : zP2 (5 * ((n + 1 : Nat) : Int)) = 32 * zP2 (5 * (n : Int)) := by
  rw [show 5 * ((n + 1 : Nat) : Int) = 5 + 5 * (n : Int) by omega, zP2_add (by omega) (by omega)]
  rfl
theorem z8_c {c : Int} {w : List Int} : z8 (c :: w) = (96 + c) + 256 * z8 w := rfl
theorem z8_r : ∀ (w : List Int), zLet w → 0 ≤ z8 w ∧ 2 * z8 w < zP2 (8 * (w.length : Int)) := by
  intro w
  induction w with
  | nil => intro _; exact ⟨Int.le_refl 0, by show 2 * 0 < zP2 0; rw [zP2_0]; omega⟩
  | cons c w ih =>
    intro h
    have h1 := ih (fun d hd => h d (List.mem_cons_of_mem _ hd))
    have h2 := h c List.mem_cons_self
    rw [z8_c, List.length_cons, zP2_88]
    omega
theorem z8_63 {w : List Int} (h : zLet w) (hl : w.length ≤ 8) : 0 ≤ z8 w ∧ z8 w < 9223372036854775808 := by
  have h1 := z8_r w h
  have h2 : zP2 (8 * (w.length : Int)) ≤ zP2 64 := zP2_le (by omega)
  have h3 : zP2 64 = 18446744073709551616 := by decide +kernel
  omega
theorem z8_dg : ∀ (w : List Int), zLet w → ∀ i : Nat, z8 w / zP2 (8 * (i : Int)) % 256 = if i < w.length then 96 + w.getD i 0 else 0 := by
  intro w
  induction w with
  | nil => intro _ i; rw [if_neg (show ¬ i < ([] : List Int).length from Nat.not_lt_zero _)]; show 0 / zP2 (8 * (i : Int)) % 256 = 0; rw [Int.zero_ediv]; rfl
  | cons c w ih =>
    intro h i
    have h2 := h c List.mem_cons_self
    cases i with
    | zero =>
      rw [if_pos (show 0 < (c :: w).length from Nat.succ_pos _)]
      show z8 (c :: w) / zP2 0 % 256 = 96 + c
      rw [zP2_0, z8_c]
      omega
    | succ i =>
      have h1 := ih (fun d hd => h d (List.mem_cons_of_mem _ hd)) i
      have e : z8 (c :: w) / zP2 (8 * ((i + 1 : Nat) : Int)) = z8 w / zP2 (8 * (i : Int)) := by
        rw [show 8 * ((i + 1 : Nat) : Int) = 8 + 8 * (i : Int) by omega, ← zP2_div (by omega) (by omega), z8_c]
        have e2 : (96 + c + 256 * z8 w) / zP2 8 = z8 w := by
          show (96 + c + 256 * z8 w) / 256 = z8 w
          omega
        rw [e2]
      rw [e, h1, List.length_cons]
      show (if i < w.length then 96 + w.getD i 0 else 0) = (if i + 1 < w.length + 1 then 96 + w.getD i 0 else 0)
      by_cases hi : i < w.length
      · rw [if_pos hi, if_pos (by omega)]
      · rw [if_neg hi, if_neg (by omega)]
theorem zTake_s : ∀ (w : List Int) (n : Nat), n < w.length → w.take (n + 1) = w.take n ++ [w.getD n 0]
  | [], n, h => absurd h (Nat.not_lt_zero _)
  | _ :: _, 0, _ => rfl
  | c :: w, n + 1, h => congrArg (fun z => c :: z) (zTake_s w n (Nat.lt_of_succ_lt_succ h))
theorem zGetD_m : ∀ (w : List Int) (n : Nat), n < w.length → w.getD n 0 ∈ w
  | [], n, h => absurd h (Nat.not_lt_zero _)
  | _ :: _, 0, _ => List.mem_cons_self
  | _ :: w, n + 1, h => List.mem_cons_of_mem _ (zGetD_m w n (Nat.lt_of_succ_lt_succ h))
def zUpc (w : List Int) : List Int := w.map (fun c => 96 + c)
theorem zUpc_s {w : List Int} {n : Nat} (h : n < w.length) : zUpc (w.take (n + 1)) = zUpc (w.take n) ++ [96 + w.getD n 0] := by
  unfold zUpc
  rw [zTake_s w n h, List.map_append]
  rfl
theorem zUpc_l {w : List Int} : (zUpc w).length = w.length := List.length_map _
theorem c_writeName {x : CS} {w : List Int} (hl : w.length ≤ 8) (hd : zLet w) (h0 : 0 ≤ (x 0).1 12) (h1 : (x 0).1 12 + 8 ≤ 410) : fX7_writeName x (z8 w) = some (zWL x (zUpc w)) := by
  apply zok_q
  unfold fX7_writeName
  have hr := z8_63 hd hl
  refine zok_F (β := CS) (mk := fun a i => (i, a)) 8 (fun i a => a = zWL x (zUpc (w.take i.toNat))) (a0 := x) rfl (by omega) rfl (fun i a hi hi2 hI => ?_) (fun i a hi hi2 hi3 hi4 hI => ?_)
  · dsimp only
    (repeat (first | (with_reducible refine zok_g ?_ ?_; focus omega) | with_reducible refine zok_j ?_ | (with_reducible refine zok_t ?_ ?_; focus omega) | (with_reducible refine zok_f ?_ ?_; focus omega)))
    have hs : fX0_signOfName (z8 w) i = some (z8 w / zP2 (8 * i) % 256) := by
      apply zok_q
      unfold fX0_signOfName
      have hq : 0 ≤ z8 w / zP2 (8 * i) := Int.ediv_nonneg hr.1 (by have := zP2_pos (8 * i); omega)
      (repeat (first | (with_reducible refine zok_g ?_ ?_; focus omega) | with_reducible refine zok_j ?_ | (with_reducible refine zok_t ?_ ?_; focus omega) | (with_reducible refine zok_f ?_ ?_; focus omega)))
      exact zok_s rfl
    refine zok_e hs ?_
    obtain ⟨n, rfl⟩ : ∃ n : Nat, i = n := ⟨i.toNat, by omega⟩
    rw [z8_dg w hd n]
    rw [Int.toNat_natCast] at hI
    by_cases c : n < w.length
    · rw [if_pos c]
      have hm := hd _ (zGetD_m w n c)
      (repeat (first | (with_reducible refine zok_g ?_ ?_; focus omega) | with_reducible refine zok_j ?_ | (with_reducible refine zok_t ?_ ?_; focus omega) | (with_reducible refine zok_f ?_ ?_; focus omega)))
      have hsz : (a 0).1 12 = (x 0).1 12 + (n : Int) := by
        rw [hI, zWL_12, zUpc_l, List.length_take]
        omega
      refine zok_e (c_write (by omega) (by omega) ⟨by omega, by omega⟩) (zok_sl ⟨_, rfl, ?_⟩)
      rw [show ((n : Int) + 1).toNat = n + 1 by omega, zUpc_s c, zWL_app, ← hI]
      rfl
    · rw [if_neg c]
      (repeat (first | (with_reducible refine zok_g ?_ ?_; focus omega) | with_reducible refine zok_j ?_ | (with_reducible refine zok_t ?_ ?_; focus omega) | (with_reducible refine zok_f ?_ ?_; focus omega)))
      refine zok_sl ⟨_, rfl, ?_⟩
      rw [show ((n : Int) + 1).toNat = n + 1 by omega, List.take_of_length_le (by omega), hI, List.take_of_length_le (by omega)]
  · dsimp only
    (repeat (first | (with_reducible refine zok_g ?_ ?_; focus omega) | with_reducible refine zok_j ?_ | (with_reducible refine zok_t ?_ ?_; focus omega) | (with_reducible refine zok_f ?_ ?_; focus omega)))
    refine zok_sr (zok_s ?_)
    rw [hI, List.take_of_length_le (by omega)]
theorem z5_a : ∀ (r : List Int) (a : Int), r.foldl (fun a c => 32 * a + c) a = a * zP2 (5 * (r.length : Int)) + z5 r := by
  intro r
  induction r with
  | nil => intro a; show a = a * zP2 0 + 0; rw [zP2_0]; omega
  | cons c r ih =>
    intro a
    show r.foldl (fun a c => 32 * a + c) (32 * a + c) = a * zP2 (5 * ((r.length + 1 : Nat) : Int)) + r.foldl (fun a c => 32 * a + c) (32 * 0 + c)
    rw [ih, ih (32 * 0 + c), zP2_55, show 32 * 0 + c = c by omega, Int.add_mul, Int.mul_comm 32 a, Int.mul_assoc]
    omega
theorem z5_c {c : Int} {r : List Int} : z5 (c :: r) = c * zP2 (5 * (r.length : Int)) + z5 r := by
  show r.foldl (fun a c => 32 * a + c) (32 * 0 + c) = _
  rw [z5_a, show 32 * 0 + c = c by omega]
theorem z5_r : ∀ (w : List Int), zLet w → 0 ≤ z5 w ∧ z5 w < zP2 (5 * (w.length : Int)) ∧ (w ≠ [] → 0 < z5 w) := by
  intro w
  induction w with
  | nil => intro _; exact ⟨Int.le_refl 0, by show 0 < zP2 0; rw [zP2_0]; omega, fun h => absurd rfl h⟩
  | cons c w ih =>
    intro h
    have h1 := ih (fun d hd => h d (List.mem_cons_of_mem _ hd))
    have h2 := h c List.mem_cons_self
    have p := zP2_pos (5 * (w.length : Int))
    have a1 : 1 * zP2 (5 * (w.length : Int)) ≤ c * zP2 (5 * (w.length : Int)) := Int.mul_le_mul_of_nonneg_right h2.1 (by omega)
    have a2 : c * zP2 (5 * (w.length : Int)) ≤ 26 * zP2 (5 * (w.length : Int)) := Int.mul_le_mul_of_nonneg_right h2.2 (by omega)
    rw [z5_c, List.length_cons, zP2_55]
    exact ⟨by omega, by omega, fun _ => by omega⟩
theorem z5_tk {w : List Int} (h : zLet w) {m : Nat} (hm : m ≤ w.length) : z5 w / zP2 (5 * ((w.length - m : Nat) : Int)) = z5 (w.take m) := by
  have e1 : z5 w = z5 (w.take m) * zP2 (5 * ((w.drop m).length : Int)) + z5 (w.drop m) := by
    have h1 := z5_a (w.drop m) (z5 (w.take m))
    rw [← h1]
    show z5 w = (w.drop m).foldl _ ((w.take m).foldl _ 0)
    rw [← List.foldl_append, List.take_append_drop]
    rfl
  have h2 := z5_r (w.drop m) (fun d hd => h d (List.mem_of_mem_drop hd))
  rw [List.length_drop] at e1 h2
  rw [e1, Int.add_comm, Int.add_mul_ediv_right _ _ (by omega), Int.ediv_eq_zero_of_lt h2.1 h2.2.1]
  omega
theorem z5_s {l : List Int} {c : Int} : z5 (l ++ [c]) = 32 * z5 l + c := by
  unfold z5
  rw [List.foldl_append]
  rfl
theorem z5_40 {w : List Int} (h : zLet w) (hl : w.length ≤ 8) : 0 ≤ z5 w ∧ z5 w < 1099511627776 := by
  have h1 := z5_r w h
  have h2 : zP2 (5 * (w.length : Int)) ≤ zP2 40 := zP2_le (by omega)
  have h3 : zP2 40 = 1099511627776 := by decide +kernel
  omega
theorem zCmp_p {a : Int} : zCmp a 0 ≤ 0 ↔ a ≤ 0 := by
  unfold zCmp
  by_cases h : a < 0
  · rw [if_pos h]; omega
  · rw [if_neg h]
    by_cases h2 : a = 0
    · rw [if_pos h2]; omega
    · rw [if_neg h2]; omega
theorem m_tellName {t : CV} {w : List Int} (hl : w.length ≤ 8) (hd : zLet w) (h0 : 0 ≤ t.1 47) (h1 : t.1 47 + 8 ≤ 500) : fX8_tellName t (z5 w) = some (zTL t (zUpc w)) := by
  apply zok_q
  unfold fX8_tellName
  have hz := z5_40 hd hl
  refine zok_L (fun (q : Int × CV) => ∃ j : Nat, j ≤ 8 ∧ q.1 = 5 * (j : Int) - 5 ∧ q.2 = zTL t (zUpc (w.take (w.length - j)))) (fun q => (q.1 + 5).toNat) ⟨8, Nat.le_refl 8, rfl, by rw [show w.length - 8 = 0 by omega]; rfl⟩ (by show ((35 : Int) + 5).toNat < 100000; decide) (fun q hI => ?_)
  obtain ⟨k, a⟩ := q
  obtain ⟨j, hj, hk, ha⟩ := hI
  dsimp only at hk ha ⊢
  cases j with
  | zero =>
    refine zok_g (by omega) ?_
    refine zok_t (by omega) ?_
    refine zok_sr (zok_s ?_)
    rw [ha, Nat.sub_zero, List.take_length]
  | succ i =>
    have hk2 : k = 5 * (i : Int) := by omega
    subst hk2
    have hq0 : 0 ≤ z5 w / zP2 (5 * (i : Int)) := Int.ediv_nonneg hz.1 (by have := zP2_pos (5 * (i : Int)); omega)
    have hq1 : z5 w / zP2 (5 * (i : Int)) ≤ z5 w := Int.ediv_le_self _ hz.1
    have hcp := zCmp_p (a := z5 w / zP2 (5 * (i : Int)))
    by_cases c : i < w.length
    · have e := z5_tk hd (m := w.length - i) (by omega)
      rw [show w.length - (w.length - i) = i by omega] at e
      have c2 : w.length - (i + 1) < w.length := by omega
      have e3 : w.length - i = (w.length - (i + 1)) + 1 := by omega
      have hpos : 0 < z5 w / zP2 (5 * (i : Int)) := by
        rw [e]
        refine (z5_r _ (fun d hd2 => hd d (List.mem_of_mem_take hd2))).2.2 (fun z => ?_)
        have := congrArg List.length z
        rw [List.length_take] at this
        have h3 : ([] : List Int).length = 0 := rfl
        omega
      have hm := hd _ (zGetD_m w _ c2)
      have hmod : z5 w / zP2 (5 * (i : Int)) % 32 = w.getD (w.length - (i + 1)) 0 := by
        rw [e, e3, zTake_s w _ c2, z5_s]
        omega
      refine zok_g (by omega) ?_
      refine zok_f (by omega) ?_
      refine zok_g (by omega) ?_
      refine zok_g (by omega) ?_
      refine zok_f (fun z => by have := hcp.mp z; omega) ?_
      refine zok_g (by omega) ?_
      refine zok_g (by omega) ?_
      rw [hmod]
      have hsz : a.1 47 = t.1 47 + ((w.length - (i + 1) : Nat) : Int) := by
        rw [ha, zTL_47, zUpc_l, List.length_take]
        omega
      refine zok_e (m_tell (by omega) (by omega)) (zok_sl ⟨⟨i, by omega, ?_, ?_⟩, ?_⟩)
      · show 5 * (i : Int) + -5 = _
        omega
      · rw [e3, zUpc_s c2, zTL_app, ← ha]
        rfl
      · show (5 * (i : Int) + -5 + 5).toNat < (5 * (i : Int) + 5).toNat
        omega
    · have e : z5 w / zP2 (5 * (i : Int)) = 0 := by
        refine Int.ediv_eq_zero_of_lt hz.1 ?_
        have h2 := (z5_r w hd).2.1
        have h3 : zP2 (5 * (w.length : Int)) ≤ zP2 (5 * (i : Int)) := zP2_le (by omega)
        omega
      refine zok_g (by omega) ?_
      refine zok_f (by omega) ?_
      refine zok_g (by omega) ?_
      refine zok_g (by omega) ?_
      refine zok_t (hcp.mpr (by omega)) ?_
      refine zok_sl ⟨⟨i, by omega, ?_, ?_⟩, ?_⟩
      · show 5 * (i : Int) + -5 = _
        omega
      · rw [ha, show w.length - (i + 1) = 0 by omega, show w.length - i = 0 by omega]
      · show (5 * (i : Int) + -5 + 5).toNat < (5 * (i : Int) + 5).toNat
        omega
end ZRX
