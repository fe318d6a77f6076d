/-! TAKING A WORD -/
theorem zOr_assoc {a b c : Int} (ha : 0 ≤ a) (hb : 0 ≤ b) (hc : 0 ≤ c) : zOr (zOr a b) c = zOr a (zOr b c) := by
  obtain ⟨x, rfl⟩ : ∃ k : Nat, a = k := ⟨a.toNat, by omega⟩
  obtain ⟨y, rfl⟩ : ∃ k : Nat, b = k := ⟨b.toNat, by omega⟩
  obtain ⟨z, rfl⟩ : ∃ k : Nat, c = k := ⟨c.toNat, by omega⟩
  unfold zOr
  simp only [Int.toNat_natCast]
  rw [Nat.or_assoc]
theorem zOr_0 {a : Int} (ha : 0 ≤ a) : zOr a 0 = a := by
  obtain ⟨x, rfl⟩ : ∃ k : Nat, a = k := ⟨a.toNat, by omega⟩
  unfold zOr
  rw [Int.toNat_natCast]
  show ((x ||| 0 : Nat) : Int) = x
  rw [Nat.or_zero]
/-- the letters from i on, k many -/
def zLt (k i : Int) : Int := (zP2 k - 1) * zP2 i
theorem zLt_0 {k i : Int} : 0 ≤ zLt k i := Int.mul_nonneg (by have := zP2_pos k; omega) (by have := zP2_pos i; omega)
theorem zLt_s {k i : Int} (hk : 0 ≤ k) (hi : 0 ≤ i) : zOr (zLt k i) (zP2 (i + k)) = zLt (k + 1) i := by
  have p := zP2_pos k
  have q := zP2_pos i
  have e := zP2_add hi hk
  have h : zLt k i < zP2 (i + k) := by
    unfold zLt
    rw [e, Int.mul_comm (zP2 i)]
    exact Int.mul_lt_mul_of_pos_right (by omega) (by omega)
  rw [zOr_p (by omega) ⟨zLt_0, h⟩]
  unfold zLt
  rw [e, zP2_s hk, Int.sub_mul, Int.sub_mul, Int.mul_assoc, Int.mul_comm (zP2 i)]
  omega
theorem zLt_lt {k i n : Int} (hk : 0 ≤ k) (hi : 0 ≤ i) (h : i + k ≤ n) : zLt k i < zP2 n := by
  have p := zP2_pos k
  have q := zP2_pos i
  have e := zP2_add hi hk
  have h1 : zLt k i < zP2 (i + k) := by
    unfold zLt
    rw [e, Int.mul_comm (zP2 i)]
    exact Int.mul_lt_mul_of_pos_right (by omega) (by omega)
  have := zP2_le h
  omega
section ZTK
variable {s : Int → Int}
/-- where a row is covered -/
noncomputable def zTs (s : Int → Int) (u : Int → Int) (set r : Int) : Int := if set / zP2 r % 2 = 1 then zNs s r u else -1
noncomputable def zTc (s : Int → Int) (u : Int → Int) (set r : Int) : Int → Int := if zTs s u set r = -1 then s else zSet s r 3 (zOr (zf s r 3) (zLt (s 2) (zTs s u set r)))
noncomputable def zTr (u : Int → Int) (set r : Int) (s : Int → Int) : Int → Int := if zf (zTc s u set r) r 1 ≠ -1 ∧ zPl (zTc s u set r) r (zf (zTc s u set r) r 1) = false then zSet (zTc s u set r) r 1 (-1) else zTc s u set r
noncomputable def zTn (s : Int → Int) (u : Int → Int) (set : Int) (n : Nat) : Int → Int := zFd (zTr u set) n s
/-- the state behind taking word w -/
noncomputable def zTk (s : Int → Int) (w : Int) : Int → Int := zup (zup (zTn s (zDg s w) (zHv s (zDg s w)) (s 0).toNat) (5 + s 4) w) 4 (s 4 + 1)
theorem zTc_c {u : Int → Int} {set r k : Int} (hk : k ≤ 10) (hr : 0 ≤ r) : zTc s u set r k = s k := by
  unfold zTc
  split
  · rfl
  · exact zSet_c hk hr (by omega)
theorem zTr_c {u : Int → Int} {set r k : Int} (hk : k ≤ 10) (hr : 0 ≤ r) : zTr u set r s k = s k := by
  unfold zTr
  split
  · rw [zSet_c hk hr (by omega), zTc_c hk hr]
  · exact zTc_c hk hr
theorem zTs_r (hW : zWf s) {u : Int → Int} {set r : Int} : zTs s u set r = -1 ∨ zPlP s r (zTs s u set r) := by
  unfold zTs
  split
  · by_cases h : zNs s r u = -1
    · exact Or.inl h
    · exact Or.inr (zNs_p hW h)
  · exact Or.inl rfl
theorem zTc_f {u : Int → Int} {set r r' w : Int} (hw : 0 ≤ w ∧ w ≤ 3) (h : w ≠ 3 ∨ r' ≠ r) : zf (zTc s u set r) r' w = zf s r' w := by
  unfold zTc
  split
  · rfl
  · exact zSet_n (by omega) hw (by omega)
theorem zTc_l {u : Int → Int} {set r r' i : Int} (hr : r < 10) (hr' : 0 ≤ r') (hi : 0 ≤ i) : zl (zTc s u set r) r' i = zl s r' i := by
  unfold zTc
  split
  · rfl
  · exact zSet_l hr (by omega) hr' hi
theorem zTc_3 (hW : zWf s) {u : Int → Int} {set r : Int} (h0 : 0 ≤ r) (h1 : r < s 0) : 0 ≤ zf (zTc s u set r) r 3 ∧ zf (zTc s u set r) r 3 < 1073741824 := by
  obtain ⟨⟨a1, a2⟩, _, _, a4, _⟩ := hW.row h0 h1
  have w2 := hW.2.2.1
  have hst := zTs_r hW (u := u) (set := set) (r := r)
  unfold zTc
  split
  · exact a4
  · rename_i hn
    rw [zSet_s]
    rcases hst with h | h
    · exact absurd h hn
    · have h2 := h.2.1
      have h3 := h.2.2.1
      have e : zP2 30 = 1073741824 := rfl
      have := zOr_lt (a := zf s r 3) (b := zLt (s 2) (zTs s u set r)) (k := 30) (by omega) (by omega) ⟨zLt_0, zLt_lt (by omega) h2 (by omega)⟩
      omega
theorem zTc_k (hW : zWf s) {u : Int → Int} {set r : Int} (h0 : 0 ≤ r) (h1 : r < s 0) : zWk (zTc s u set r) := by
  have w0 := hW.1
  have c := fun k (hk : k ≤ 10) => zTc_c (s := s) (u := u) (set := set) (k := k) hk h0
  unfold zWk zWords
  rw [c 0 (by omega), c 1 (by omega), c 2 (by omega), c 3 (by omega), c 4 (by omega)]
  refine ⟨hW.1, hW.2.1, hW.2.2.1, hW.2.2.2.1, hW.2.2.2.2.1, fun k k0 k1 => ?_, fun r' hr0 hr1 => ?_⟩
  · have := hW.2.2.2.2.1
    rw [c (5 + k) (by omega)]
    exact hW.2.2.2.2.2.1 k k0 k1
  · obtain ⟨g0, g1, g2, g3, g4, _⟩ := hW.row hr0 hr1
    unfold zRk
    rw [zTc_f (w := 0) (by omega) (Or.inl (by omega)), zTc_f (w := 1) (by omega) (Or.inl (by omega)), zTc_f (w := 2) (by omega) (Or.inl (by omega)), c 1 (by omega)]
    refine ⟨g0, g1, g2, ?_, fun i i0 i1 => ?_⟩
    · by_cases e : r' = r
      · subst e; exact zTc_3 hW h0 h1
      · rw [zTc_f (by omega) (Or.inr e)]; exact g3
    · rw [zTc_l (by omega) hr0 i0]
      exact g4 i i0 i1
/-- a place of another row stays one -/
theorem zTc_p {u : Int → Int} {set r r' i : Int} (h0 : 0 ≤ r) (h : r' ≠ r) : zPlP (zTc s u set r) r' i ↔ zPlP s r' i := by
  unfold zPlP
  rw [zTc_f (w := 0) (by omega) (Or.inl (by omega)), zTc_f (w := 2) (by omega) (Or.inl (by omega)), zTc_f (w := 3) (by omega) (Or.inr h), zTc_c (by omega) h0]
theorem zTr_W (hW : zWf s) {u : Int → Int} {set r : Int} (h0 : 0 ≤ r) (h1 : r < s 0) : zWf (zTr u set r s) := by
  have hk := zTc_k hW (u := u) (set := set) h0 h1
  have hc0 := zTc_c (s := s) (u := u) (set := set) (k := 0) (by omega) h0
  have w0 := hW.1
  unfold zTr
  by_cases hc : zf (zTc s u set r) r 1 ≠ -1 ∧ zPl (zTc s u set r) r (zf (zTc s u set r) r 1) = false
  · rw [if_pos hc]
    have c := fun k (hk : k ≤ 10) => zSet_c (s := zTc s u set r) (v := -1) (k := k) hk h0 (w := 1) (by omega)
    refine zWk.f ?_ (fun r' hr0 hr1 => ?_)
    · unfold zWk zWords
      rw [c 0 (by omega), c 1 (by omega), c 2 (by omega), c 3 (by omega), c 4 (by omega)]
      refine ⟨hk.1, hk.2.1, hk.2.2.1, hk.2.2.2.1, hk.2.2.2.2.1, fun k k0 k1 => ?_, fun r' hr0 hr1 => ?_⟩
      · have := hk.2.2.2.2.1
        rw [c (5 + k) (by omega)]
        exact hk.2.2.2.2.2.1 k k0 k1
      · obtain ⟨g0, g1, g2, g3, g4⟩ := hk.row hr0 hr1
        unfold zRk
        rw [zSet_n (w := 1) (w' := 0) (by omega) (by omega) (by omega), zSet_n (w := 1) (w' := 2) (by omega) (by omega) (by omega), zSet_n (w := 1) (w' := 3) (by omega) (by omega) (by omega), c 1 (by omega)]
        refine ⟨g0, ?_, g2, g3, fun i i0 i1 => ?_⟩
        · by_cases e : r' = r
          · rw [e, zSet_s]; omega
          · rw [zSet_n (by omega) (by omega) (by omega)]; exact g1
        · rw [zSet_l (by omega) (by omega) hr0 i0]
          exact g4 i i0 i1
    · rw [c 0 (by omega), hc0] at hr1
      intro hn
      by_cases e : r' = r
      · rw [e, zSet_s] at hn
        exact absurd rfl hn
      · rw [zSet_n (w := 1) (w' := 1) (by omega) (by omega) (by omega)] at hn ⊢
        rw [zSet1_p h0 hr0, zTc_p h0 e]
        rw [zTc_f (w := 1) (by omega) (Or.inl (by omega))] at hn ⊢
        exact hW.ch hr0 hr1 hn
  · rw [if_neg hc]
    refine hk.f (fun r' hr0 hr1 hn => ?_)
    rw [hc0] at hr1
    by_cases e : r' = r
    · subst e
      cases hp : zPl (zTc s u set r') r' (zf (zTc s u set r') r' 1) with
      | true => exact zPl_t.mp hp
      | false => exact absurd ⟨hn, hp⟩ hc
    · rw [zTc_p h0 e]
      rw [zTc_f (w := 1) (by omega) (Or.inl (by omega))] at hn ⊢
      exact hW.ch hr0 hr1 hn
theorem zTn_W (hW : zWf s) {u : Int → Int} {set : Int} (n : Nat) (hn : (n : Int) ≤ s 0) : zWf (zTn s u set n) ∧ ∀ k, k ≤ 10 → zTn s u set n k = s k :=
  zFd_I (f := zTr u set) (fun _ t => zWf t ∧ ∀ k, k ≤ 10 → t k = s k) ⟨hW, fun _ _ => rfl⟩ n (fun i t hi hi2 ht => ⟨zTr_W ht.1 hi (by rw [ht.2 0 (by omega)]; omega), fun k hk => by rw [zTr_c hk hi]; exact ht.2 k hk⟩)
theorem zTn_s {u : Int → Int} {set i : Int} (h : 0 ≤ i) : zTn s u set (i + 1).toNat = zTr u set i (zTn s u set i.toNat) := zFd_s h
theorem zTk_W (hW : zWf s) {w : Int} (h0 : 0 ≤ w) (h1 : w < zWords s) (h4 : s 4 < 6) : zWf (zTk s w) := by
  have w0 := hW.1
  have w4 := hW.2.2.2.2.1
  obtain ⟨hN, hc⟩ := zTn_W hW (u := zDg s w) (set := zHv s (zDg s w)) (s 0).toNat (by omega)
  unfold zTk
  generalize zTn s (zDg s w) (zHv s (zDg s w)) (s 0).toNat = t at hN hc
  have e : ∀ k, k ≠ 4 → k ≠ 5 + s 4 → zup (zup t (5 + s 4) w) 4 (s 4 + 1) k = t k := fun k a b => by rw [zup_n a, zup_n b]
  have e4 : zup (zup t (5 + s 4) w) 4 (s 4 + 1) 4 = s 4 + 1 := zup_s
  have ew : zWords (zup (zup t (5 + s 4) w) 4 (s 4 + 1)) = zWords s := by unfold zWords; rw [e 1 (by omega) (by omega), e 2 (by omega) (by omega), hc 1 (by omega), hc 2 (by omega)]
  have ewt : zWords t = zWords s := by unfold zWords; rw [hc 1 (by omega), hc 2 (by omega)]
  generalize hT : zup (zup t (5 + s 4) w) 4 (s 4 + 1) = T at e e4 ew
  have ef : ∀ r k, 0 ≤ r → 0 ≤ k → zf T r k = zf t r k := fun r k a b => e _ (by omega) (by omega)
  have el : ∀ r k, 0 ≤ r → 0 ≤ k → zl T r k = zl t r k := fun r k a b => e _ (by omega) (by omega)
  refine ⟨by rw [e 0 (by omega) (by omega)]; exact hN.1, by rw [e 1 (by omega) (by omega)]; exact hN.2.1, by rw [e 2 (by omega) (by omega)]; exact hN.2.2.1, by rw [e 3 (by omega) (by omega)]; exact hN.2.2.2.1, by omega, fun k k0 k1 => ?_, fun r r0 r1 => ?_⟩
  · rw [ew]
    by_cases ek : k = s 4
    · rw [ek, ← hT, zup_n (by omega), zup_s]
      exact ⟨h0, h1⟩
    · rw [e (5 + k) (by omega) (by omega)]
      have := hN.2.2.2.2.2.1 k k0 (by rw [hc 4 (by omega)]; omega)
      rw [ewt] at this
      exact this
  · rw [e 0 (by omega) (by omega)] at r1
    obtain ⟨g0, g1, g2, g3, g4, g5⟩ := hN.row r0 r1
    unfold zRw zPlP
    rw [ef r 0 r0 (by omega), ef r 1 r0 (by omega), ef r 2 r0 (by omega), ef r 3 r0 (by omega), e 1 (by omega) (by omega), e 2 (by omega) (by omega)]
    exact ⟨g0, g1, g2, g3, fun i i0 i1 => by rw [el r i r0 i0]; exact g4 i i0 i1, g5⟩
end ZTK
