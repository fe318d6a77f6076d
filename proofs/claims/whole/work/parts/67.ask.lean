/-! THE SEARCH ITSELF: best word, its score, beginnings that were asked, cuts -/
abbrev zQ : Type := Int × Int × Int × Int
def zAk (F : Int → Int → Int) (n L : Int) : Nat → Int → Int → zQ → zQ
  | 0, _, _, q => q
  | d + 1, m, b, q => if q.1 ≠ -1 ∧ q.2.1 ≤ F m b then (q.1, q.2.1, q.2.2.1 + 1, q.2.2.2 + 1) else if n ≤ m then (b, F m b, q.2.2.1 + 1, q.2.2.2) else zFd (fun x q => zAk F n L d (m + 1) (b * L + x) q) L.toNat (q.1, q.2.1, q.2.2.1 + 1, q.2.2.2)
theorem zAk_s {F : Int → Int → Int} {n L : Int} {d : Nat} {m b : Int} {q : zQ} : zAk F n L (d + 1) m b q = if q.1 ≠ -1 ∧ q.2.1 ≤ F m b then (q.1, q.2.1, q.2.2.1 + 1, q.2.2.2 + 1) else if n ≤ m then (b, F m b, q.2.2.1 + 1, q.2.2.2) else zFd (fun x q => zAk F n L d (m + 1) (b * L + x) q) L.toNat (q.1, q.2.1, q.2.2.1 + 1, q.2.2.2) := rfl
section ZAK
variable {s : Int → Int}
noncomputable def zFb (s : Int → Int) (m b : Int) : Int := zBd s (zDb s m b) m
noncomputable def zSr (s : Int → Int) : zQ := zFd (fun x q => zAk (zFb s) (s 2) (s 1) 6 1 x q) (s 1).toNat (-1, 0, 0, 0)
theorem zBd_r (hW : zWf s) {u : Int → Int} {m : Int} (hm : 0 ≤ m) (hm2 : m ≤ s 2) : 0 ≤ zBd s u m ∧ zBd s u m ≤ 60 := by
  have w0 := hW.1
  have w2 := hW.2.2.1
  have key := zFd_I (f := fun r a => if zf s r 2 = 1 then a else a + zNr s r u m) (a := (0 : Int)) (fun r x => 0 ≤ x ∧ x ≤ 6 * r) ⟨Int.le_refl 0, by decide⟩ (s 0).toNat (fun r x hr _ hx => by
    have h := zNr_r (s := s) (r := r) (u := u) hm
    show 0 ≤ (if zf s r 2 = 1 then x else x + zNr s r u m) ∧ (if zf s r 2 = 1 then x else x + zNr s r u m) ≤ 6 * (r + 1)
    split <;> omega)
  unfold zBd
  omega
theorem zFb_r (hW : zWf s) {m b : Int} (hm : 0 ≤ m) (hm2 : m ≤ s 2) : 0 ≤ zFb s m b ∧ zFb s m b ≤ 60 := zBd_r hW hm hm2
def zQr (q : zQ) : Prop := (-1 ≤ q.1 ∧ q.1 < 4096) ∧ (0 ≤ q.2.1 ∧ q.2.1 ≤ 60)
theorem zAk_r (hW : zWf s) : ∀ (d : Nat) (m b : Int) (q : zQ), 1 ≤ m → m ≤ s 2 → 0 ≤ b → b < zPw (s 1) m → zQr q → zQr (zAk (zFb s) (s 2) (s 1) d m b q) := by
  have w1 := hW.2.1
  have hw := zWords_r hW
  intro d
  induction d with
  | zero => intro m b q _ _ _ _ h; exact h
  | succ d ih =>
    intro m b q h1 h2 h3 h4 hq
    rw [zAk_s]
    split
    · exact hq
    · split
      · rename_i hm
        have e : m = s 2 := by omega
        subst e
        have h5 : zPw (s 1) (s 2) = zWords s := rfl
        exact ⟨⟨by show -1 ≤ b; omega, by show b < 4096; omega⟩, zFb_r hW (by omega) (by omega)⟩
      · refine zFd_I (f := fun x q => zAk (zFb s) (s 2) (s 1) d (m + 1) (b * s 1 + x) q) (a := (q.1, q.2.1, q.2.2.1 + 1, q.2.2.2)) (fun _ q => zQr q) ⟨hq.1, hq.2⟩ (s 1).toNat (fun x q hx hx2 hq => ?_)
        have h6 := Int.mul_le_mul_of_nonneg_right (show b + 1 ≤ zPw (s 1) m by omega) (show 0 ≤ s 1 by omega)
        rw [Int.add_mul, Int.one_mul, ← zPw_s (by omega)] at h6
        have h7 : 0 ≤ b * s 1 := Int.mul_nonneg h3 (by omega)
        exact ih (m + 1) (b * s 1 + x) q (by omega) (by omega) (by omega) (by omega) hq
/-- a search that holds the bounds -/
def zSB (T : CV) (s : Int → Int) : Prop := T.1 5 = s 1 ∧ T.1 6 = s 2 ∧ T.1 7 = zWords s ∧ (zWords s ≤ T.1 100 ∧ T.1 100 ≤ 2147483647) ∧ (zLv s (s 2 + 1) ≤ T.1 101 ∧ T.1 101 ≤ 2147483647) ∧ (zWords s ≤ T.1 102 ∧ T.1 102 ≤ 2147483647) ∧ (∀ m, 1 ≤ m → m ≤ s 2 → T.2 4 m = zLv s m) ∧ (∀ m b, 1 ≤ m → m ≤ s 2 → 0 ≤ b → b < zPw (s 1) m → T.2 2 (zLv s m + b) = zFb s m b)
def zSq (T : CV) : zQ := (T.1 9, T.1 10, T.1 11, T.1 12)
theorem zSB.ex {T t : CV} (h : zSB T s) (e : zEx [9, 10, 11, 12] [] T t) : zSB t s := by
  unfold zSB at h ⊢
  rw [e.1 5 (by decide), e.1 6 (by decide), e.1 7 (by decide), e.1 100 (by decide), e.1 101 (by decide), e.1 102 (by decide), e.2 4 (by decide), e.2 2 (by decide)]
  exact h
theorem zSB.at (hW : zWf s) {T : CV} (h : zSB T s) {m b : Int} (h1 : 1 ≤ m) (h2 : m ≤ s 2) (h3 : 0 ≤ b) (h4 : b < zPw (s 1) m) : T.2 2 (T.2 4 m + b) = zFb s m b ∧ 0 ≤ T.2 4 m + b ∧ T.2 4 m + b < T.1 101 := by
  rw [h.2.2.2.2.2.2.1 m h1 h2]
  refine ⟨h.2.2.2.2.2.2.2 m b h1 h2 h3 h4, ?_, ?_⟩
  · have := zLv_0 hW h1
    omega
  · have e := zLv_s (s := s) h1
    have := zLv_le hW (m := m + 1) (m' := s 2 + 1) (by omega) (by omega)
    have := h.2.2.2.2.1.1
    omega
theorem c_ask (hW : zWf s) : ∀ (d : Nat) (T : CV) (m b : Int), zSB T s → 1 ≤ m → m ≤ s 2 → s 2 < m + d → 0 ≤ b → b < zPw (s 1) m → zQr (zSq T) → zOk (fX3_ask d T m b) (fun t => zEx [9, 10, 11, 12] [] T t ∧ zSq t = zAk (zFb s) (s 2) (s 1) d m b (zSq T)) := by
  have w1 := hW.2.1
  have w2 := hW.2.2.1
  intro d
  induction d with
  | zero => intro T m b _ _ _ _ _ _ _; omega
  | succ d ih =>
    intro T m b hB h1 h2 hd h3 h4 hq
    unfold fX3_ask
    rw [zAk_s]
    obtain ⟨eb, g1, g2⟩ := hB.at hW h1 h2 h3 h4
    have hF := zFb_r hW (m := m) (b := b) (by omega) h2
    have q1 : zSq T = (T.1 9, T.1 10, T.1 11, T.1 12) := rfl
    have hq1 : -1 ≤ T.1 9 ∧ T.1 9 < 4096 := hq.1
    have hq2 : 0 ≤ T.1 10 ∧ T.1 10 ≤ 60 := hq.2
    have h101 := hB.2.2.2.2.1
    rw [eb, hB.2.1]
    have body : (T.1 9 = -1 ∨ zFb s m b < T.1 10) → zOk (zG (iR m ∧ iR (s 2)) <| if m < s 2 then ((zLp (σ := Int × CV) (ρ := (Int × CV)) (fun s10 => zG (iR s10.1 ∧ iR (s10.2.1 5)) <| if (s10.2.1 5) ≤ s10.1 then (some (.inr (s10.1, s10.2))) else ((fX3_ask d s10.2 (m + 1) ((b * (s10.2.1 5)) + s10.1)).bind fun t17 => some (.inl (s10.1 + 1, t17)))) zFu (0, (zPu T 11 ((T.1 11) + 1)))).bind (fun y10 => some y10.2)) else (some (zPu (zPu (zPu T 11 ((T.1 11) + 1)) 9 b) 10 (zFb s m b))))
        (fun t => zEx [9, 10, 11, 12] [] T t ∧ zSq t = if (zSq T).1 ≠ -1 ∧ (zSq T).2.1 ≤ zFb s m b then ((zSq T).1, (zSq T).2.1, (zSq T).2.2.1 + 1, (zSq T).2.2.2 + 1) else if s 2 ≤ m then (b, zFb s m b, (zSq T).2.2.1 + 1, (zSq T).2.2.2) else zFd (fun x q => zAk (zFb s) (s 2) (s 1) d (m + 1) (b * s 1 + x) q) (s 1).toNat ((zSq T).1, (zSq T).2.1, (zSq T).2.2.1 + 1, (zSq T).2.2.2)) := by
      intro hc
      have hnc : ¬ ((zSq T).1 ≠ -1 ∧ (zSq T).2.1 ≤ zFb s m b) := fun z => by
        have z1 : T.1 9 ≠ -1 := z.1
        have z2 : T.1 10 ≤ zFb s m b := z.2
        omega
      rw [if_neg hnc]
      (repeat (first | (with_reducible refine zok_g ?_ ?_; focus omega) | with_reducible refine zok_j ?_ | (with_reducible refine zok_t ?_ ?_; focus omega) | (with_reducible refine zok_f ?_ ?_; focus omega)))
      refine zok_i (fun c => ?_) (fun c => zok_s ⟨zEx_u (zEx_u (zEx_u zEx_0 (by decide)) (by decide)) (by decide), ?_⟩)
      · rw [if_neg (show ¬ s 2 ≤ m by omega)]
        have hpl := zPw_s (b := s 1) (k := m) (by omega)
        refine zok_F (mk := fun a i => (i, a)) (s 1) (fun x U => zEx [9, 10, 11, 12] [] T U ∧ zQr (zSq U) ∧ zSq U = zFd (fun x q => zAk (zFb s) (s 2) (s 1) d (m + 1) (b * s 1 + x) q) x.toNat ((zSq T).1, (zSq T).2.1, (zSq T).2.2.1 + 1, (zSq T).2.2.2)) rfl (by omega) ⟨zEx_u zEx_0 (by decide), ⟨hq1, hq2⟩, rfl⟩ (fun x U hx hx2 hU => ?_) (fun x U hx hx2 hx3 hx4 hU => ?_)
        · obtain ⟨hE, hr, hU⟩ := hU
          have hBU := hB.ex hE
          dsimp only
          rw [hBU.1]
          (repeat (first | (with_reducible refine zok_g ?_ ?_; focus omega) | with_reducible refine zok_j ?_ | (with_reducible refine zok_t ?_ ?_; focus omega) | (with_reducible refine zok_f ?_ ?_; focus omega)))
          have h6 := Int.mul_le_mul_of_nonneg_right (show b + 1 ≤ zPw (s 1) m by omega) (show 0 ≤ s 1 by omega)
          rw [Int.add_mul, Int.one_mul] at h6
          have h7 : 0 ≤ b * s 1 := Int.mul_nonneg h3 (by omega)
          refine zok_b (ih U (m + 1) (b * s 1 + x) hBU (by omega) (by omega) (by omega) (by omega) (by omega) hr) (fun t ht => zok_sl ⟨_, rfl, zEx_t hE ht.1, ?_, ?_⟩)
          · rw [ht.2]
            exact zAk_r hW d _ _ _ (by omega) (by omega) (by omega) (by omega) hr
          · rw [zFd_s hx, ← hU]
            exact ht.2
        · obtain ⟨hE, hr, hU⟩ := hU
          dsimp only
          rw [(hB.ex hE).1]
          (repeat (first | (with_reducible refine zok_g ?_ ?_; focus omega) | with_reducible refine zok_j ?_ | (with_reducible refine zok_t ?_ ?_; focus omega) | (with_reducible refine zok_f ?_ ?_; focus omega)))
          refine zok_sr (zok_s ⟨hE, ?_⟩)
          rw [hU, hx3 (by omega)]
      · rw [if_pos (by omega)]
        rfl
    (repeat (first | (with_reducible refine zok_g ?_ ?_; focus omega) | with_reducible refine zok_j ?_ | (with_reducible refine zok_t ?_ ?_; focus omega) | (with_reducible refine zok_f ?_ ?_; focus omega)))
    refine zok_i (fun c => body (Or.inl c)) (fun c => ?_)
    (repeat (first | (with_reducible refine zok_g ?_ ?_; focus omega) | with_reducible refine zok_j ?_ | (with_reducible refine zok_t ?_ ?_; focus omega) | (with_reducible refine zok_f ?_ ?_; focus omega)))
    refine zok_i (fun c2 => body (Or.inr c2)) (fun c2 => zok_s ⟨zEx_u (zEx_u zEx_0 (by decide)) (by decide), ?_⟩)
    have hyc : (zSq T).1 ≠ -1 ∧ (zSq T).2.1 ≤ zFb s m b := ⟨c, by show T.1 10 ≤ _; omega⟩
    rw [if_pos hyc]
    rfl
end ZAK
