/-! CLASS AND MODEL -/
/-- a name as the class holds it (a byte a letter, the first one lowest), and as the model does (five bits a letter, the last one lowest) -/
def z8 : List Int → Int
  | [] => 0
  | c :: w => (96 + c) + 256 * z8 w
def z5 (w : List Int) : Int := w.foldl (fun a c => 32 * a + c) 0
def zNm (a b : Int) : Prop := ∃ w : List Int, (1 ≤ w.length ∧ w.length ≤ 8) ∧ (∀ c ∈ w, 1 ≤ c ∧ c ≤ 26) ∧ a = z8 w ∧ b = z5 w
def zB1 (V : CV) (s nm : Int → Int) : Prop := zWf s ∧ zRB V s ∧ ∀ r, 0 ≤ r → r < s 0 → zNm (V.2 1 r) (nm r) ∧ ∀ q, 0 ≤ q → q < r → nm q ≠ nm r
def zPt (m : CV) (p : Int) : Int → Int := fun j => m.2 4 (351 * p + j)
def zRt (T : CV) (m : CV) : Prop := (T.1 1 = m.1 2 ∧ 0 ≤ m.1 2 ∧ m.1 2 ≤ 600) ∧ (∀ k, 0 ≤ k → k < m.1 2 → (0 ≤ m.2 1 k ∧ m.2 1 k < 256) ∧ T.2 1 k = (m.2 1 k + 128) % 256 - 128) ∧ (T.1 6 = m.1 11 ∧ 0 ≤ m.1 11 ∧ m.1 11 ≤ 10) ∧ (T.1 7 = m.1 12 ∧ -1 ≤ m.1 12 ∧ m.1 12 ≤ 600)
def zRs (H V : CV) (m : CV) : Prop := H.1 14 = m.1 23 ∧ (m.1 23 = 0 ∨ (m.1 23 = 1 ∧ zB1 V (m.2 3) (m.2 8)))
def zRp (σ : CS) (m : CV) : Prop := (σ 0).1 13 = m.1 22 ∧ (0 ≤ m.1 22 ∧ m.1 22 ≤ 6) ∧ ∀ p, 0 ≤ p → p < m.1 22 → zB1 (σ (11 + p.toNat)) (zPt m p) (m.2 7) ∧ zPt m p 0 = m.2 2 0
noncomputable def zRe (T U : CV) (s : Int → Int) : Prop := (zCap T ∧ (T.1 8 = 0 ∨ (T.1 8 = 1 ∧ zSoT T s))) ∧ (zCap U ∧ (U.1 8 = 0 ∨ (U.1 8 = 1 ∧ zSoT U (zTk s (zSr s).1))))
def zRr (H : CV) (m : CV) : Prop := (m.1 48 = 0 ∨ m.1 48 = 1) ∧ H.1 12 = (if m.1 48 = 1 then m.1 47 else 0) ∧ (0 ≤ H.1 12 ∧ H.1 12 ≤ 410) ∧ ∀ i, 0 ≤ i → i < H.1 12 → H.2 1 i = m.2 20 i ∧ (0 ≤ m.2 20 i ∧ m.2 20 i < 128)
noncomputable def zRR (σ : CS) (m : CV) : Prop := zRt (σ 1) m ∧ zB1 (σ 4) (m.2 2) (m.2 7) ∧ zRs (σ 0) (σ 5) m ∧ zRp σ m ∧ zRe (σ 7) (σ 8) (m.2 2) ∧ (0 ≤ (σ 10).1 100 ∧ (σ 10).1 100 ≤ 4096) ∧ zRr (σ 0) m
def zKn : List Nat := [2, 11, 12, 22, 23, 47, 48]
def zKa : List Nat := [1, 2, 3, 4, 7, 8, 20]
section ZRR
variable {σ σ' : CS} {m t : CV}
/-- what the model writes down for itself -/
theorem zRR_m {ns js : List Nat} (h : zRR σ m) (e : zEx ns js m t) (h1 : ∀ k ∈ zKn, k ∉ ns) (h2 : ∀ k ∈ zKa, k ∉ js) : zRR σ t := by
  have a := fun k (hk : k ∈ zKn) => e.1 k (h1 k hk)
  have b := fun k (hk : k ∈ zKa) => e.2 k (h2 k hk)
  unfold zRR zRt zRs zRp zRr zPt at h ⊢
  rw [a 2 (by decide), a 11 (by decide), a 12 (by decide), a 22 (by decide), a 23 (by decide), a 47 (by decide), a 48 (by decide), b 1 (by decide), b 2 (by decide), b 3 (by decide), b 4 (by decide), b 7 (by decide), b 8 (by decide), b 20 (by decide)]
  exact h
/-- what the class writes down for itself: the script, the draft, the profile -/
theorem zRR_c (h : zRR σ m) (e : ∀ k, k ≠ 3 → k ≠ 6 → k ≠ 9 → σ' k = σ k) : zRR σ' m := by
  unfold zRR zRp at h ⊢
  rw [e 0 (by decide) (by decide) (by decide), e 1 (by decide) (by decide) (by decide), e 4 (by decide) (by decide) (by decide), e 5 (by decide) (by decide) (by decide), e 7 (by decide) (by decide) (by decide), e 8 (by decide) (by decide) (by decide), e 10 (by decide) (by decide) (by decide)]
  refine ⟨h.1, h.2.1, h.2.2.1, ⟨h.2.2.2.1.1, h.2.2.2.1.2.1, fun p p0 p1 => ?_⟩, h.2.2.2.2⟩
  rw [e (11 + p.toNat) (by omega) (by omega) (by omega)]
  exact h.2.2.2.1.2.2 p p0 p1
theorem zRR.W (h : zRR σ m) : zWf (m.2 2) := h.2.1.1
theorem zRR.B (h : zRR σ m) : zRB (σ 4) (m.2 2) := h.2.1.2.1
def zAn (L : List String) (o : Int ⊕ String) (c b : Int) : Prop := (∃ v, o = .inl v ∧ c = 0 ∧ v = b ∧ iR v) ∨ ∃ E i, o = .inr E ∧ L[i]? = some E ∧ c = ((i : Nat) : Int) + 1
/-- a call that throws nothing but what L names -/
noncomputable def zCl (L : List String) (f : Option (CS × (Int ⊕ String))) (g : Option (CV × Int)) : Prop := zOk f (fun t => zOk g (fun u => zRR t.1 u.1 ∧ zAn L t.2 (u.1.1 0) u.2))
noncomputable def zCp (σ : CS) (L : List String) (f : Option (Int ⊕ String)) (g : Option (CV × Int)) : Prop := zOk f (fun t => zOk g (fun u => zRR σ u.1 ∧ zAn L t (u.1.1 0) u.2))
abbrev zIO : String := "java/lang/IndexOutOfBoundsException"
abbrev zIA : String := "java/lang/IllegalArgumentException"
abbrev zIS : String := "java/lang/IllegalStateException"
theorem zAn_v {L : List String} {v c b : Int} (hc : c = 0) (hv : v = b) (hr : iR v) : zAn L (.inl v) c b := Or.inl ⟨v, rfl, hc, hv, hr⟩
theorem zAn_e {L : List String} {E : String} {c b : Int} (i : Nat) (h : L[i]? = some E) (hc : c = (i : Int) + 1) : zAn L (.inr E) c b := Or.inr ⟨E, i, rfl, h, hc⟩
theorem zRR_0 {x : Int} (h : zRR σ m) : zRR σ (zPu m 0 x) := zRR_m (ns := [0]) (js := []) h (zEx_u zEx_0 (by decide)) (by decide) (by decide)
theorem x_requireRow (h : zRR σ m) {r : Int} (hr : iR r) : fX7_requireRow σ r = some (if 0 ≤ r ∧ r < m.2 2 0 then .inl () else .inr zIO) := by
  apply zok_q
  unfold fX7_requireRow
  have w0 := h.W.1
  rw [h.B.2.2.2.1]
  refine zok_jP (fun _ => ¬ (0 ≤ r ∧ r < m.2 2 0)) (fun _ hx => zok_s (by rw [if_neg hx])) (fun K hK => ?_)
  (repeat (first | (with_reducible refine zok_g ?_ ?_; focus omega) | with_reducible refine zok_j ?_ | (with_reducible refine zok_t ?_ ?_; focus omega) | (with_reducible refine zok_f ?_ ?_; focus omega)))
  refine zok_i (fun c => hK () (by omega)) (fun c => ?_)
  (repeat (first | (with_reducible refine zok_g ?_ ?_; focus omega) | with_reducible refine zok_j ?_ | (with_reducible refine zok_t ?_ ?_; focus omega) | (with_reducible refine zok_f ?_ ?_; focus omega)))
  exact zok_i (fun c2 => zok_s (by rw [if_pos (by omega)])) (fun c2 => hK () (by omega))
theorem x_requireWord (h : zRR σ m) {w : Int} (hr : iR w) : fX7_requireWord σ w = some (if 0 ≤ w ∧ w < zWords (m.2 2) then .inl () else .inr zIO) := by
  apply zok_q
  unfold fX7_requireWord
  have hw := zWords_r h.W
  refine zok_jP (fun _ => ¬ (0 ≤ w ∧ w < zWords (m.2 2))) (fun _ hx => zok_s (by rw [if_neg hx])) (fun K hK => ?_)
  (repeat (first | (with_reducible refine zok_g ?_ ?_; focus omega) | with_reducible refine zok_j ?_ | (with_reducible refine zok_t ?_ ?_; focus omega) | (with_reducible refine zok_f ?_ ?_; focus omega)))
  refine zok_i (fun c => hK () (by omega)) (fun c => ?_)
  refine zok_e (b_wordCount h.W h.B) ?_
  (repeat (first | (with_reducible refine zok_g ?_ ?_; focus omega) | with_reducible refine zok_j ?_ | (with_reducible refine zok_t ?_ ?_; focus omega) | (with_reducible refine zok_f ?_ ?_; focus omega)))
  exact zok_i (fun c2 => zok_s (by rw [if_pos (by omega)])) (fun c2 => hK () (by omega))
/-- the two ways of a call with a row -/
theorem zRow_c {P : Prop} (h : zRR σ m) {r : Int} (hr : iR r) (h1 : 0 ≤ r → r < m.2 2 0 → fX7_requireRow σ r = some (.inl ()) → fX8_isRow m r = some true → P) (h2 : fX7_requireRow σ r = some (.inr zIO) → fX8_isRow m r = some false → P) : P := by
  have a := x_requireRow h hr
  have b := m_isRow (m := m) rfl h.W hr
  by_cases c : 0 ≤ r ∧ r < m.2 2 0
  · rw [if_pos c] at a
    rw [decide_eq_true c] at b
    exact h1 c.1 c.2 a b
  · rw [if_neg c] at a
    rw [decide_eq_false c] at b
    exact h2 a b
theorem zWord_c {P : Prop} (h : zRR σ m) {w : Int} (hr : iR w) (h1 : 0 ≤ w → w < zWords (m.2 2) → fX7_requireWord σ w = some (.inl ()) → fX8_isOne m w = some true → P) (h2 : fX7_requireWord σ w = some (.inr zIO) → fX8_isOne m w = some false → P) : P := by
  have a := x_requireWord h hr
  have b := m_isOne (m := m) rfl h.W hr
  by_cases c : 0 ≤ w ∧ w < zWords (m.2 2)
  · rw [if_pos c] at a
    rw [decide_eq_true c] at b
    exact h1 c.1 c.2 a b
  · rw [if_neg c] at a
    rw [decide_eq_false c] at b
    exact h2 a b
end ZRR
