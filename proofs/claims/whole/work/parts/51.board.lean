/-! THE BOARD: what the numbers s say -/
def zf (s : Int → Int) (r w : Int) : Int := s (11 + 4 * r + w)
def zl (s : Int → Int) (r i : Int) : Int := s (51 + 30 * r + i)
def zPlP (s : Int → Int) (r i : Int) : Prop := zf s r 2 ≠ 1 ∧ 0 ≤ i ∧ i ≤ zf s r 0 - s 2 ∧ ∀ j, 0 ≤ j → j < s 2 → zf s r 3 / zP2 (i + j) % 2 ≠ 1
noncomputable def zPl (s : Int → Int) (r i : Int) : Bool := @decide (zPlP s r i) (Classical.propDecidable _)
theorem zPl_t {s : Int → Int} {r i : Int} : zPl s r i = true ↔ zPlP s r i := @decide_eq_true_iff _ (Classical.propDecidable _)
theorem zPl_f {s : Int → Int} {r i : Int} : zPl s r i = false ↔ ¬ zPlP s r i := @decide_eq_false_iff_not _ (Classical.propDecidable _)
theorem zPl_c {s : Int → Int} {r i : Int} : (zPl s r i = true ∧ zPlP s r i) ∨ (zPl s r i = false ∧ ¬ zPlP s r i) := by
  cases h : zPl s r i
  · exact Or.inr ⟨rfl, zPl_f.mp h⟩
  · exact Or.inl ⟨rfl, zPl_t.mp h⟩
def zWords (s : Int → Int) : Int := zPw (s 1) (s 2)
def zRw (s : Int → Int) (r : Int) : Prop := (2 ≤ zf s r 0 ∧ zf s r 0 ≤ 30) ∧ (-1 ≤ zf s r 1 ∧ zf s r 1 < 30) ∧ (zf s r 2 = 0 ∨ zf s r 2 = 1) ∧ (0 ≤ zf s r 3 ∧ zf s r 3 < 1073741824) ∧ (∀ i, 0 ≤ i → i < zf s r 0 → 0 ≤ zl s r i ∧ zl s r i < s 1) ∧ (zf s r 1 ≠ -1 → zPlP s r (zf s r 1))
def zWf (s : Int → Int) : Prop := (0 ≤ s 0 ∧ s 0 ≤ 10) ∧ (2 ≤ s 1 ∧ s 1 ≤ 4) ∧ (2 ≤ s 2 ∧ s 2 ≤ 6) ∧ (0 ≤ s 3 ∧ s 3 ≤ 3) ∧ (0 ≤ s 4 ∧ s 4 ≤ 6) ∧ (∀ k, 0 ≤ k → k < s 4 → 0 ≤ s (5 + k) ∧ s (5 + k) < zWords s) ∧ ∀ r, 0 ≤ r → r < s 0 → zRw s r
/-- the same, but that a chosen place is one -/
def zRk (s : Int → Int) (r : Int) : Prop := (2 ≤ zf s r 0 ∧ zf s r 0 ≤ 30) ∧ (-1 ≤ zf s r 1 ∧ zf s r 1 < 30) ∧ (zf s r 2 = 0 ∨ zf s r 2 = 1) ∧ (0 ≤ zf s r 3 ∧ zf s r 3 < 1073741824) ∧ (∀ i, 0 ≤ i → i < zf s r 0 → 0 ≤ zl s r i ∧ zl s r i < s 1)
def zWk (s : Int → Int) : Prop := (0 ≤ s 0 ∧ s 0 ≤ 10) ∧ (2 ≤ s 1 ∧ s 1 ≤ 4) ∧ (2 ≤ s 2 ∧ s 2 ≤ 6) ∧ (0 ≤ s 3 ∧ s 3 ≤ 3) ∧ (0 ≤ s 4 ∧ s 4 ≤ 6) ∧ (∀ k, 0 ≤ k → k < s 4 → 0 ≤ s (5 + k) ∧ s (5 + k) < zWords s) ∧ ∀ r, 0 ≤ r → r < s 0 → zRk s r
theorem zWf.k {s : Int → Int} (h : zWf s) : zWk s := ⟨h.1, h.2.1, h.2.2.1, h.2.2.2.1, h.2.2.2.2.1, h.2.2.2.2.2.1, fun r h0 h1 => by
  obtain ⟨a, b, c, d, e, _⟩ := h.2.2.2.2.2.2 r h0 h1
  exact ⟨a, b, c, d, e⟩⟩
theorem zWk.f {s : Int → Int} (h : zWk s) (hc : ∀ r, 0 ≤ r → r < s 0 → zf s r 1 ≠ -1 → zPlP s r (zf s r 1)) : zWf s := ⟨h.1, h.2.1, h.2.2.1, h.2.2.2.1, h.2.2.2.2.1, h.2.2.2.2.2.1, fun r h0 h1 => by
  obtain ⟨a, b, c, d, e⟩ := h.2.2.2.2.2.2 r h0 h1
  exact ⟨a, b, c, d, e, hc r h0 h1⟩⟩
theorem zWk.row {s : Int → Int} (hW : zWk s) {r : Int} (h0 : 0 ≤ r) (h1 : r < s 0) : zRk s r := hW.2.2.2.2.2.2 r h0 h1
/-- the class's board V says what s says -/
def zRB (V : CV) (s : Int → Int) : Prop := V.1 0 = s 1 ∧ V.1 1 = s 2 ∧ V.1 2 = s 3 ∧ V.1 3 = s 0 ∧ V.1 5 = s 4 ∧ (∀ k, 0 ≤ k → k < s 4 → V.2 6 k = s (5 + k)) ∧ (0 ≤ V.1 4 ∧ V.1 4 < zP2 (s 0)) ∧ ∀ r, 0 ≤ r → r < s 0 → V.2 3 r = zf s r 0 ∧ V.2 5 r = zf s r 1 ∧ V.1 4 / zP2 r % 2 = zf s r 2 ∧ V.2 4 r = zf s r 3 ∧ zCd (V.2 2 r) (zf s r 0) (zl s r)
theorem zWords_r {s : Int → Int} (hW : zWf s) : 4 ≤ zWords s ∧ zWords s ≤ 4096 := by
  obtain ⟨_, ⟨a1, a2⟩, ⟨b1, b2⟩, _⟩ := hW
  unfold zWords zPw
  have ha : s 1 = 2 ∨ s 1 = 3 ∨ s 1 = 4 := by omega
  have hb : s 2 = 2 ∨ s 2 = 3 ∨ s 2 = 4 ∨ s 2 = 5 ∨ s 2 = 6 := by omega
  rcases ha with h | h | h <;> rcases hb with h2 | h2 | h2 | h2 | h2 <;> rw [h, h2] <;> decide
section ZBD
variable {V : CV} {s : Int → Int}
theorem zRB.row (hR : zRB V s) {r : Int} (h0 : 0 ≤ r) (h1 : r < s 0) : V.2 3 r = zf s r 0 ∧ V.2 5 r = zf s r 1 ∧ V.1 4 / zP2 r % 2 = zf s r 2 ∧ V.2 4 r = zf s r 3 ∧ zCd (V.2 2 r) (zf s r 0) (zl s r) := hR.2.2.2.2.2.2.2 r h0 h1
theorem zWf.row (hW : zWf s) {r : Int} (h0 : 0 ≤ r) (h1 : r < s 0) : zRw s r := hW.2.2.2.2.2.2 r h0 h1
theorem zRB.out (hW : zWk s) (hR : zRB V s) : 0 ≤ V.1 4 ∧ V.1 4 < 1024 := by
  obtain ⟨h1, h2⟩ := hR.2.2.2.2.2.2.1
  have := zP2_le (a := s 0) (b := 10) hW.1.2
  have e : zP2 10 = 1024 := rfl
  omega
theorem k_lastStart (hW : zWk s) (hR : zRB V s) {r : Int} (h0 : 0 ≤ r) (h1 : r < s 0) : fX0_lastStart V r = some (zf s r 0 - s 2) := by
  apply zok_q
  unfold fX0_lastStart
  have := hW.1
  rw [(hR.row h0 h1).1, hR.2.1]
  (repeat (first | (with_reducible refine zok_g ?_ ?_; focus omega) | with_reducible refine zok_j ?_ | (with_reducible refine zok_t ?_ ?_; focus omega) | (with_reducible refine zok_f ?_ ?_; focus omega)))
  exact zok_s rfl
theorem k_isOut (hW : zWk s) (hR : zRB V s) {r : Int} (h0 : 0 ≤ r) (h1 : r < s 0) : fX0_isOut V r = some (decide (zf s r 2 = 1)) := by
  apply zok_q
  unfold fX0_isOut
  have := hW.1
  have := hR.out hW
  have h2 := (hR.row h0 h1).2.2.1
  have h3 := (hW.row h0 h1).2.2.1
  rw [h2]
  (repeat (first | (with_reducible refine zok_g ?_ ?_; focus omega) | with_reducible refine zok_j ?_ | (with_reducible refine zok_t ?_ ?_; focus omega) | (with_reducible refine zok_f ?_ ?_; focus omega)))
  refine zok_i (fun c => zok_s ?_) (fun c => zok_s ?_)
  · rw [c]; rfl
  · rw [show zf s r 2 = 1 by omega]; rfl
theorem k_isPlace (hW : zWk s) (hR : zRB V s) {r i : Int} (h0 : 0 ≤ r) (h1 : r < s 0) (hi : iR i) : fX0_isPlace V r i = some (zPl s r i) := by
  apply zok_q
  unfold fX0_isPlace
  have w0 := hW.1
  have w2 := hW.2.2.1
  obtain ⟨⟨a1, a2⟩, _, a3, a4, _⟩ := hW.row h0 h1
  (repeat (first | (with_reducible refine zok_g ?_ ?_; focus omega) | with_reducible refine zok_j ?_ | (with_reducible refine zok_t ?_ ?_; focus omega) | (with_reducible refine zok_f ?_ ?_; focus omega)))
  refine zok_i (fun c => zok_s ?_) (fun c => ?_)
  · exact (zPl_f.mpr (fun h => by have := h.2.1; omega)).symm
  refine zok_e (k_lastStart hW hR h0 h1) ?_
  (repeat (first | (with_reducible refine zok_g ?_ ?_; focus omega) | with_reducible refine zok_j ?_ | (with_reducible refine zok_t ?_ ?_; focus omega) | (with_reducible refine zok_f ?_ ?_; focus omega)))
  refine zok_i (fun c2 => zok_s ?_) (fun c2 => ?_)
  · exact (zPl_f.mpr (fun h => by have := h.2.2.1; omega)).symm
  refine zok_e (k_isOut hW hR h0 h1) ?_
  refine zok_i (fun c3 => zok_s ?_) (fun c3 => ?_)
  · exact (zPl_f.mpr (fun h => h.1 (of_decide_eq_true c3))).symm
  have hl : fX0_lettersFrom V i = some ((zP2 (s 2) - 1) * zP2 i) := by
    apply zok_q
    unfold fX0_lettersFrom
    rw [hR.2.1]
    (repeat (first | (with_reducible refine zok_g ?_ ?_; focus omega) | with_reducible refine zok_j ?_ | (with_reducible refine zok_t ?_ ?_; focus omega) | (with_reducible refine zok_f ?_ ?_; focus omega)))
    exact zok_s rfl
  have p1 := zP2_pos (s 2)
  have p2 := zP2_pos i
  have hk : 0 ≤ (zP2 (s 2) - 1) * zP2 i := Int.mul_nonneg (by omega) (by omega)
  (repeat (first | (with_reducible refine zok_g ?_ ?_; focus omega) | with_reducible refine zok_j ?_ | (with_reducible refine zok_t ?_ ?_; focus omega) | (with_reducible refine zok_f ?_ ?_; focus omega)))
  refine zok_e hl ?_
  rw [(hR.row h0 h1).2.2.2.1]
  have hq := zAnd_le (a := zf s r 3) (b := (zP2 (s 2) - 1) * zP2 i) a4.1
  have hz := zAnd_0 (c := zf s r 3) (n := s 2) (i := i) a4.1 (by omega) (by omega)
  (repeat (first | (with_reducible refine zok_g ?_ ?_; focus omega) | with_reducible refine zok_j ?_ | (with_reducible refine zok_t ?_ ?_; focus omega) | (with_reducible refine zok_f ?_ ?_; focus omega)))
  refine zok_i (fun c4 => zok_s ?_) (fun c4 => zok_s ?_)
  · exact (zPl_t.mpr ⟨fun z => c3 (decide_eq_true z), by omega, by omega, hz.mp c4⟩).symm
  · exact (zPl_f.mpr (fun h => c4 (hz.mpr h.2.2.2))).symm
theorem b_lastStart (hW : zWf s) (hR : zRB V s) {r : Int} (h0 : 0 ≤ r) (h1 : r < s 0) : fX0_lastStart V r = some (zf s r 0 - s 2) := k_lastStart hW.k hR h0 h1
theorem b_isOut (hW : zWf s) (hR : zRB V s) {r : Int} (h0 : 0 ≤ r) (h1 : r < s 0) : fX0_isOut V r = some (decide (zf s r 2 = 1)) := k_isOut hW.k hR h0 h1
theorem b_isPlace (hW : zWf s) (hR : zRB V s) {r i : Int} (h0 : 0 ≤ r) (h1 : r < s 0) (hi : iR i) : fX0_isPlace V r i = some (zPl s r i) := k_isPlace hW.k hR h0 h1 hi
theorem b_codeAt (hW : zWf s) (hR : zRB V s) {r i : Int} (h0 : 0 ≤ r) (h1 : r < s 0) (hi : 0 ≤ i) (hi2 : i ≤ zf s r 0 - s 2) : zOk (fX0_codeAt V r i) (fun c => zCd c (s 2) (fun j => zl s r (i + j))) := by
  unfold fX0_codeAt
  have w0 := hW.1
  have w2 := hW.2.2.1
  obtain ⟨⟨a1, a2⟩, _⟩ := hW.row h0 h1
  have hc := (hR.row h0 h1).2.2.2.2
  have hl := hc.2.1
  have hn := hc.1
  have h60 : zP2 (2 * zf s r 0) ≤ 1152921504606846976 := zP2_le (show 2 * zf s r 0 ≤ 60 by omega)
  rw [hR.2.1]
  have p := zP2_pos (2 * i)
  have hd : 0 ≤ V.2 2 r / zP2 (2 * i) := Int.ediv_nonneg hn (by omega)
  (repeat (first | (with_reducible refine zok_g ?_ ?_; focus omega) | with_reducible refine zok_j ?_ | (with_reducible refine zok_t ?_ ?_; focus omega) | (with_reducible refine zok_f ?_ ?_; focus omega)))
  exact zok_s (zCd_slice hc hi (by omega) (by omega))
theorem b_differing {a b m : Int} {u v : Int → Int} (ha : 0 ≤ a) (hb : 0 ≤ b) (hm : 0 ≤ m) (hm6 : m ≤ 6) (hu : ∀ j, 0 ≤ j → j < m → a / zP2 (2 * j) % 4 = u j) (hv : ∀ j, 0 ≤ j → j < m → b / zP2 (2 * j) % 4 = v j) : fX0_differing a b m = some (zDn u v m) := by
  apply zok_q
  unfold fX0_differing
  have hx : 0 ≤ zXor a b := by unfold zXor; omega
  have p := zP2_pos (2 * m)
  have g0 : 0 ≤ zXor a b % zP2 (2 * m) := Int.emod_nonneg _ (by omega)
  have g1 : zXor a b % zP2 (2 * m) < zP2 (2 * m) := Int.emod_lt_of_pos _ (by omega)
  have g2 : zP2 (2 * m) ≤ 4096 := zP2_le (show 2 * m ≤ 12 by omega)
  have g3 : 0 ≤ zXor a b % zP2 (2 * m) / zP2 1 := Int.ediv_nonneg g0 (by decide)
  have g4 : 0 ≤ zOr (zXor a b % zP2 (2 * m)) (zXor a b % zP2 (2 * m) / zP2 1) := by unfold zOr; omega
  have hz := zDf_e ha hb hm hm6 hu hv
  generalize zPop (zAnd (zOr (zXor a b % zP2 (2 * m)) (zXor a b % zP2 (2 * m) / zP2 1)) 1431655765) = z at hz ⊢
  (repeat (first | (with_reducible refine zok_g ?_ ?_; focus omega) | with_reducible refine zok_j ?_ | (with_reducible refine zok_t ?_ ?_; focus omega) | (with_reducible refine zok_f ?_ ?_; focus omega)))
  exact zok_s hz
/-- how far a word's first m letters are from a place -/
def zDf (s : Int → Int) (r i : Int) (u : Int → Int) (m : Int) : Int := zDn (fun j => zl s r (i + j)) u m
noncomputable def zNr (s : Int → Int) (r : Int) (u : Int → Int) (m : Int) : Int := zFd (fun i a => if zPl s r i = true then zMin a (zDf s r i u m) else a) (zf s r 0).toNat m
theorem zDf_r {r i m : Int} {u : Int → Int} (hm : 0 ≤ m) : 0 ≤ zDf s r i u m ∧ zDf s r i u m ≤ m := by
  obtain ⟨n, rfl⟩ : ∃ n : Nat, m = n := ⟨m.toNat, by omega⟩
  exact zDn_r n
/-- a fold over the places of a row -/
theorem zFd_pl {α : Type} {f : Int → α → α} {a : α} (hW : zWf s) {r : Int} (h0 : 0 ≤ r) (h1 : r < s 0) (h : ∀ i x, zPl s r i = false → f i x = x) : zFd f (zf s r 0).toNat a = zFd f (zf s r 0 - s 2 + 1).toNat a := by
  have w2 := hW.2.2.1
  obtain ⟨⟨a1, a2⟩, _⟩ := hW.row h0 h1
  refine zFd_more _ _ (fun i x hi => h i x (zPl_f.mpr (fun hp => ?_))) (by omega)
  have := hp.2.2.1
  omega
theorem zMin_r {a b lo hi : Int} (h1 : lo ≤ a ∧ a ≤ hi) (h2 : lo ≤ b ∧ b ≤ hi) : lo ≤ zMin a b ∧ zMin a b ≤ hi := by
  unfold zMin
  split
  · exact h2
  · exact h1
theorem zNr_i {r m : Int} {u : Int → Int} (hm : 0 ≤ m) (n : Nat) : 0 ≤ zFd (fun i a => if zPl s r i = true then zMin a (zDf s r i u m) else a) n m ∧ zFd (fun i a => if zPl s r i = true then zMin a (zDf s r i u m) else a) n m ≤ m :=
  zFd_I (fun _ x => 0 ≤ x ∧ x ≤ m) ⟨hm, Int.le_refl m⟩ n (fun i x _ _ hx => by
    show 0 ≤ (if zPl s r i = true then zMin x (zDf s r i u m) else x) ∧ (if zPl s r i = true then zMin x (zDf s r i u m) else x) ≤ m
    split
    · exact zMin_r hx (zDf_r hm)
    · exact hx)
theorem zNr_r {r m : Int} {u : Int → Int} (hm : 0 ≤ m) : 0 ≤ zNr s r u m ∧ zNr s r u m ≤ m := zNr_i hm _
theorem b_nearest (hW : zWf s) (hR : zRB V s) {r c m : Int} {u : Int → Int} (h0 : 0 ≤ r) (h1 : r < s 0) (hm : 0 ≤ m) (hm2 : m ≤ s 2) (hc : 0 ≤ c) (hu : ∀ j, 0 ≤ j → j < m → c / zP2 (2 * j) % 4 = u j) : fX0_nearest V r c m = some (zNr s r u m) := by
  apply zok_q
  unfold fX0_nearest
  have w2 := hW.2.2.1
  obtain ⟨⟨a1, a2⟩, _⟩ := hW.row h0 h1
  have e : zNr s r u m = zFd (fun i a => if zPl s r i = true then zMin a (zDf s r i u m) else a) (zf s r 0 - s 2 + 1).toNat m := zFd_pl hW h0 h1 (fun i x h => by rw [h]; rfl)
  refine zok_F (mk := fun a i => (a, i)) (zf s r 0 - s 2 + 1) (fun i a => a = zFd (fun i a => if zPl s r i = true then zMin a (zDf s r i u m) else a) i.toNat m) rfl (by omega) rfl (fun i a hi hi2 hI => ?_) (fun i a hi hi2 hi3 hi4 hI => ?_)
  · refine zok_e (b_lastStart hW hR h0 h1) ?_
    dsimp only
    (repeat (first | (with_reducible refine zok_g ?_ ?_; focus omega) | with_reducible refine zok_j ?_ | (with_reducible refine zok_t ?_ ?_; focus omega) | (with_reducible refine zok_f ?_ ?_; focus omega)))
    refine zok_e (b_isPlace hW hR h0 h1 ⟨by omega, by omega⟩) ?_
    rcases zPl_c (s := s) (r := r) (i := i) with ⟨hp, hP⟩ | ⟨hp, hP⟩
    · refine zok_t hp ?_
      refine zok_b (b_codeAt hW hR h0 h1 hi (by omega)) (fun t ht => ?_)
      refine zok_e (b_differing (u := fun j => zl s r (i + j)) (v := u) ht.1 hc hm (by omega) (fun j j0 j1 => ht.2.2 j j0 (by omega)) hu) ?_
      have hr := zNr_i (s := s) (r := r) (u := u) hm i.toNat
      rw [← hI] at hr
      have hd := zDf_r (s := s) (r := r) (i := i) (u := u) hm
      unfold zDf at hd
      (repeat (first | (with_reducible refine zok_g ?_ ?_; focus omega) | with_reducible refine zok_j ?_ | (with_reducible refine zok_t ?_ ?_; focus omega) | (with_reducible refine zok_f ?_ ?_; focus omega)))
      refine zok_sl ⟨_, rfl, ?_⟩
      rw [zFd_s hi, if_pos hp, ← hI]
      rfl
    · refine zok_f (by rw [hp]; decide) ?_
      refine zok_sl ⟨_, rfl, ?_⟩
      rw [zFd_s hi, if_neg (by rw [hp]; decide), ← hI]
  · refine zok_e (b_lastStart hW hR h0 h1) ?_
    dsimp only
    (repeat (first | (with_reducible refine zok_g ?_ ?_; focus omega) | with_reducible refine zok_j ?_ | (with_reducible refine zok_t ?_ ?_; focus omega) | (with_reducible refine zok_f ?_ ?_; focus omega)))
    refine zok_sr (zok_s ?_)
    rw [hI, e]
    have : i.toNat = (zf s r 0 - s 2 + 1).toNat := by omega
    rw [this]
end ZBD
