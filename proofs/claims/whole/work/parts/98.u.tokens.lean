section ZTK
abbrev zcB (b : Int) : Prop := b = 32 ∨ b = 10
abbrev zcL (b : Int) : Prop := 97 ≤ b ∧ b ≤ 122
abbrev zcD (b : Int) : Prop := 48 ≤ b ∧ b ≤ 57
abbrev zcS (b : Int) : Prop := b = 59 ∨ b = 40 ∨ b = 41
/-- from e on P holds up to r, and no further -/
def zChr (P : Int → Prop) (bf : Int → Int) (n e r : Int) : Prop := e ≤ r ∧ r ≤ n ∧ (∀ j, e ≤ j → j < r → P (bf j)) ∧ (r < n → ¬ P (bf r))
theorem zChr_u {P : Int → Prop} {bf : Int → Int} {n e r r' : Int} (h : zChr P bf n e r) (h' : zChr P bf n e r') : r = r' := by
  obtain ⟨a, b, c, d⟩ := h
  obtain ⟨a', b', c', d'⟩ := h'
  by_cases q : r < r'
  · exact absurd (c' r a q) (d (by omega))
  · by_cases q2 : r' < r
    · exact absurd (c r' a' q2) (d' (by omega))
    · omega
/-- a token: start, end, kind -/
def zTok (bf : Int → Int) (n e p q k : Int) : Prop := zChr zcB bf n e p ∧ ((p = n ∧ q = n ∧ k = 0) ∨ (p < n ∧ zcL (bf p) ∧ zChr zcL bf n p q ∧ k = if q - p ≤ 30 then 1 else 4) ∨ (p < n ∧ zcD (bf p) ∧ zChr zcD bf n p q ∧ k = if q - p ≤ 3 then 2 else 4) ∨ (p < n ∧ ¬ zcL (bf p) ∧ ¬ zcD (bf p) ∧ q = p + 1 ∧ k = if zcS (bf p) then 3 else 4))
theorem zTok_u {bf : Int → Int} {n e p q k p' q' k' : Int} (h : zTok bf n e p q k) (h' : zTok bf n e p' q' k') : p = p' ∧ q = q' ∧ k = k' := by
  obtain ⟨a, b⟩ := h
  obtain ⟨a', b'⟩ := h'
  have e1 := zChr_u a a'
  subst e1
  refine ⟨rfl, ?_⟩
  rcases b with ⟨b1, b2, b3⟩ | ⟨b1, b2, b3, b4⟩ | ⟨b1, b2, b3, b4⟩ | ⟨b1, b2, b3, b4, b5⟩ <;> rcases b' with ⟨c1, c2, c3⟩ | ⟨c1, c2, c3, c4⟩ | ⟨c1, c2, c3, c4⟩ | ⟨c1, c2, c3, c4, c5⟩
  · exact ⟨b2.trans c2.symm, b3.trans c3.symm⟩
  · omega
  · omega
  · omega
  · omega
  · have e2 := zChr_u b3 c3
    subst e2
    exact ⟨rfl, b4.trans c4.symm⟩
  · omega
  · exact absurd b2 c2
  · omega
  · omega
  · have e2 := zChr_u b3 c3
    subst e2
    exact ⟨rfl, b4.trans c4.symm⟩
  · exact absurd b2 c3
  · omega
  · exact absurd c2 b2
  · exact absurd c2 b3
  · exact ⟨b4.trans c4.symm, b5.trans c5.symm⟩
theorem zTok_r {bf : Int → Int} {n e p q k : Int} (he : 0 ≤ e ∧ e ≤ n) (h : zTok bf n e p q k) : e ≤ p ∧ p ≤ q ∧ q ≤ n ∧ (0 ≤ k ∧ k ≤ 4) ∧ (k ≠ 0 → p < q) ∧ (k = 0 → p = n) ∧ (k = 1 → 1 ≤ q - p ∧ q - p ≤ 30 ∧ ∀ j, p ≤ j → j < q → zcL (bf j)) ∧ (k = 2 → 1 ≤ q - p ∧ q - p ≤ 3 ∧ ∀ j, p ≤ j → j < q → zcD (bf j)) ∧ (k = 3 → zcS (bf p) ∧ p < n) ∧ (p < n → ¬ zcB (bf p)) := by
  obtain ⟨⟨a1, a2, a3, a4⟩, b⟩ := h
  rcases b with ⟨b1, b2, b3⟩ | ⟨b1, b2, b3, b4⟩ | ⟨b1, b2, b3, b4⟩ | ⟨b1, b2, b3, b4, b5⟩
  · exact ⟨a1, by omega, by omega, by omega, fun z => by omega, fun z => b1, fun z => by omega, fun z => by omega, fun z => by omega, a4⟩
  · obtain ⟨c1, c2, c3, c4⟩ := b3
    have hpq : p < q := by
      by_cases e1 : p = q
      · subst e1; exact absurd b2 (c4 b1)
      · omega
    split at b4
    · exact ⟨a1, c1, c2, by omega, fun z => hpq, fun z => by omega, fun z => ⟨by omega, by omega, c3⟩, fun z => by omega, fun z => by omega, a4⟩
    · exact ⟨a1, c1, c2, by omega, fun z => hpq, fun z => by omega, fun z => by omega, fun z => by omega, fun z => by omega, a4⟩
  · obtain ⟨c1, c2, c3, c4⟩ := b3
    have hpq : p < q := by
      by_cases e1 : p = q
      · subst e1; exact absurd b2 (c4 b1)
      · omega
    split at b4
    · exact ⟨a1, c1, c2, by omega, fun z => hpq, fun z => by omega, fun z => by omega, fun z => ⟨by omega, by omega, c3⟩, fun z => by omega, a4⟩
    · exact ⟨a1, c1, c2, by omega, fun z => hpq, fun z => by omega, fun z => by omega, fun z => by omega, fun z => by omega, a4⟩
  · split at b5
    · rename_i hs
      exact ⟨a1, by omega, by omega, by omega, fun z => by omega, fun z => by omega, fun z => by omega, fun z => by omega, fun z => ⟨hs, b1⟩, a4⟩
    · exact ⟨a1, by omega, by omega, by omega, fun z => by omega, fun z => by omega, fun z => by omega, fun z => by omega, fun z => by omega, a4⟩
def zNum (bf : Int → Int) (p k : Int) : Int := zFd (fun j a => 10 * a + bf (p + j) - 48) k.toNat 0
theorem zNum_s {bf : Int → Int} {p k : Int} (h : 0 ≤ k) : zNum bf p (k + 1) = 10 * zNum bf p k + bf (p + k) - 48 := zFd_s h
theorem zNum_r {bf : Int → Int} {p k : Int} (h0 : 0 ≤ k) (h3 : k ≤ 3) (h : ∀ j, p ≤ j → j < p + k → zcD (bf j)) : 0 ≤ zNum bf p k ∧ zNum bf p k ≤ 999 := by
  have e0 : zNum bf p 0 = 0 := rfl
  have c : k = 0 ∨ k = 1 ∨ k = 2 ∨ k = 3 := by omega
  have s0 := zNum_s (bf := bf) (p := p) (k := 0) (by omega)
  have s1 := zNum_s (bf := bf) (p := p) (k := 1) (by omega)
  have s2 := zNum_s (bf := bf) (p := p) (k := 2) (by omega)
  rw [show (0 : Int) + 1 = 1 by omega, Int.add_zero] at s0
  rw [show (1 : Int) + 1 = 2 by omega] at s1
  rw [show (2 : Int) + 1 = 3 by omega] at s2
  rcases c with c | c | c | c <;> subst c
  · omega
  · have := h p (by omega) (by omega)
    omega
  · have := h p (by omega) (by omega)
    have := h (p + 1) (by omega) (by omega)
    omega
  · have := h p (by omega) (by omega)
    have := h (p + 1) (by omega) (by omega)
    have := h (p + 2) (by omega) (by omega)
    omega
def zUl (bf : Int → Int) (p : Int) (k : Nat) : List Int := (List.range k).map (fun j : Nat => bf (p + (j : Int)) - 96)
theorem zUl_s {bf : Int → Int} {p : Int} {k : Nat} : zUl bf p (k + 1) = zUl bf p k ++ [bf (p + (k : Int)) - 96] := by
  unfold zUl
  rw [List.range_succ, List.map_append]
  rfl
theorem zUl_l {bf : Int → Int} {p : Int} {k : Nat} : (zUl bf p k).length = k := by
  unfold zUl
  rw [List.length_map, List.length_range]
theorem zUl_w {bf : Int → Int} {p : Int} {k : Nat} (h : ∀ j, p ≤ j → j < p + k → zcL (bf j)) : zLet (zUl bf p k) := by
  intro c hc
  obtain ⟨j, hj, e⟩ := List.mem_map.mp (show c ∈ (List.range k).map (fun j : Nat => bf (p + (j : Int)) - 96) from hc)
  have h1 := List.mem_range.mp hj
  have h2 := h (p + (j : Int)) (by omega) (by omega)
  omega
/-! the class -/
def zTc0 (bf : Int → Int) (n : Int) (T : CV) : Prop := T.1 1 = n ∧ (0 ≤ n ∧ n ≤ 600) ∧ ∀ k, 0 ≤ k → k < n → (0 ≤ bf k ∧ bf k < 256) ∧ T.2 1 k = (bf k + 128) % 256 - 128
theorem zTc0_e {bf : Int → Int} {n : Int} {T t : CV} {ns js : List Nat} (h : zTc0 bf n T) (e : zEx ns js T t) (h1 : 1 ∉ ns) (h2 : 1 ∉ js) : zTc0 bf n t := by
  unfold zTc0 at h ⊢
  rw [e.1 1 h1, e.2 1 h2]
  exact h
theorem x6_isBlank {b : Int} (h : 0 ≤ b ∧ b < 256) : fX6_isBlank ((b + 128) % 256 - 128) = some (decide (zcB b)) := by
  apply zok_q
  unfold fX6_isBlank
  refine zok_g (by omega) ?_
  refine zok_i (fun c => zok_s (decide_eq_true (by omega)).symm) (fun c => ?_)
  exact zok_i (fun c => zok_s (decide_eq_true (by omega)).symm) (fun c => zok_s (decide_eq_false (by omega)).symm)
theorem x6_isLetter {b : Int} (h : 0 ≤ b ∧ b < 256) : fX6_isLetter ((b + 128) % 256 - 128) = some (decide (zcL b)) := by
  apply zok_q
  unfold fX6_isLetter
  refine zok_g (by omega) ?_
  refine zok_i (fun c => zok_s (decide_eq_false (by omega)).symm) (fun c => ?_)
  exact zok_i (fun c => zok_s (decide_eq_false (by omega)).symm) (fun c => zok_s (decide_eq_true (by omega)).symm)
theorem x6_isDigit {b : Int} (h : 0 ≤ b ∧ b < 256) : fX6_isDigit ((b + 128) % 256 - 128) = some (decide (zcD b)) := by
  apply zok_q
  unfold fX6_isDigit
  refine zok_g (by omega) ?_
  refine zok_i (fun c => zok_s (decide_eq_false (by omega)).symm) (fun c => ?_)
  exact zok_i (fun c => zok_s (decide_eq_false (by omega)).symm) (fun c => zok_s (decide_eq_true (by omega)).symm)
theorem x6_isSingle {b : Int} (h : 0 ≤ b ∧ b < 256) : fX6_isSingle ((b + 128) % 256 - 128) = some (decide (zcS b)) := by
  apply zok_q
  unfold fX6_isSingle
  refine zok_g (by omega) ?_
  refine zok_i (fun c => zok_s (decide_eq_true (by omega)).symm) (fun c => ?_)
  refine zok_i (fun c => zok_s (decide_eq_true (by omega)).symm) (fun c => ?_)
  exact zok_i (fun c => zok_s (decide_eq_true (by omega)).symm) (fun c => zok_s (decide_eq_false (by omega)).symm)
/-- a loop over the bytes -/
theorem zScan {α : Type} {Q : α → Prop} {bf : Int → Int} {n : Int} {p : Nat} {F : Int → Option Bool} {P : Int → Prop} [DecidablePred P] {G : CV → CV} {k : CV → Option α} {t0 : CV} (I : CV → Prop) (h0 : I t0)
    (hF : ∀ b, 0 ≤ b → b < 256 → F ((b + 128) % 256 - 128) = some (decide (P b)))
    (hI : ∀ t, I t → zTc0 bf n t ∧ 0 ≤ t.1 p ∧ t.1 p ≤ n)
    (hG : ∀ t, I t → t.1 p < n → P (bf (t.1 p)) → I (G t) ∧ (G t).1 p = t.1 p + 1)
    (hk : ∀ t, I t → (t.1 p < n → ¬ P (bf (t.1 p))) → zOk (k t) Q) :
    zOk ((zLp (σ := CV) (ρ := CV) (fun s1 => zG (iR (s1.1 p) ∧ iR (s1.1 1)) <| if (s1.1 1) ≤ (s1.1 p) then (some (.inr s1)) else (zG (0 ≤ (s1.1 p) ∧ (s1.1 p) < 600) <| (F (s1.2 1 (s1.1 p))).bind fun b => if b = true then (some (.inl (G s1))) else (some (.inr s1)))) zFu t0).bind k) Q := by
  refine zok_L (I := I) (μ := fun t => (n - t.1 p).toNat) h0 ?_ (fun t ht => ?_)
  · have h := (hI t0 h0)
    have h2 := h.1.2.1
    show (n - t0.1 p).toNat < 100000
    omega
  · obtain ⟨⟨a1, a2, a3⟩, a4, a5⟩ := hI t ht
    rw [a1]
    refine zok_g (by omega) ?_
    refine zok_i (fun c => zok_sr (hk t ht (fun z => by omega))) (fun c => ?_)
    refine zok_g (by omega) ?_
    have hb := a3 (t.1 p) a4 (by omega)
    rw [hb.2]
    refine zok_e (hF _ hb.1.1 hb.1.2) ?_
    refine zok_i (fun c2 => ?_) (fun c2 => zok_sr (hk t ht (fun _ z => c2 (decide_eq_true z))))
    obtain ⟨g1, g2⟩ := hG t ht (by omega) (of_decide_eq_true c2)
    refine zok_sl ⟨g1, ?_⟩
    show (n - (G t).1 p).toNat < (n - t.1 p).toNat
    rw [g2]
    omega
theorem c_readWord {bf : Int → Int} {n : Int} {T : CV} (h : zTc0 bf n T) (h0 : 0 ≤ T.1 4) (h1 : T.1 5 = T.1 4) (h2 : T.1 4 < n) : zOk (fX6_readWord T) (fun t => zEx [2, 5] [] T t ∧ zChr zcL bf n (T.1 4) (t.1 5) ∧ t.1 2 = if t.1 5 - T.1 4 ≤ 30 then 1 else 4) := by
  unfold fX6_readWord
  refine zScan (bf := bf) (n := n) (p := 5) (P := zcL) (G := fun s => zPu s 5 (s.1 5 + 1)) (I := fun t => zEx [2, 5] [] T t ∧ T.1 4 ≤ t.1 5 ∧ t.1 5 ≤ n ∧ ∀ j, T.1 4 ≤ j → j < t.1 5 → zcL (bf j)) ⟨zEx_0, by omega, by omega, fun j _ _ => by omega⟩ (fun b b0 b1 => x6_isLetter ⟨b0, b1⟩) (fun t ht => ⟨zTc0_e h ht.1 (by decide) (by decide), by omega, by omega⟩) (fun t ht c1 c2 => ?_) (fun t ht c => ?_)
  · have e : (zPu t 5 (t.1 5 + 1)).1 5 = t.1 5 + 1 := zPu_s
    refine ⟨⟨zEx_u ht.1 (by decide), by rw [e]; omega, by rw [e]; omega, fun j j0 j1 => ?_⟩, e⟩
    rw [e] at j1
    by_cases c3 : j = t.1 5
    · rw [c3]; exact c2
    · exact ht.2.2.2 j j0 (by omega)
  · have e4 : t.1 4 = T.1 4 := ht.1.1 4 (by decide)
    have hn := h.2.1
    have ht1 := ht.2.1
    have ht2 := ht.2.2.1
    rw [e4]
    refine zok_g (by omega) ?_
    refine zok_i (fun c3 => zok_s ⟨zEx_u ht.1 (by decide), ?_, ?_⟩) (fun c3 => zok_s ⟨zEx_u ht.1 (by decide), ?_, ?_⟩)
    · exact ⟨ht1, ht2, ht.2.2.2, c⟩
    · show 1 = if t.1 5 - T.1 4 ≤ 30 then 1 else 4
      rw [if_pos c3]
    · exact ⟨ht1, ht2, ht.2.2.2, c⟩
    · show 4 = if t.1 5 - T.1 4 ≤ 30 then 1 else 4
      rw [if_neg c3]
theorem c_readNumber {bf : Int → Int} {n : Int} {T : CV} (h : zTc0 bf n T) (h0 : 0 ≤ T.1 4) (h1 : T.1 5 = T.1 4) (h2 : T.1 4 < n) : zOk (fX6_readNumber T) (fun t => zEx [2, 3, 5] [] T t ∧ zChr zcD bf n (T.1 4) (t.1 5) ∧ (t.1 2 = if t.1 5 - T.1 4 ≤ 3 then 2 else 4) ∧ t.1 3 = zNum bf (T.1 4) (t.1 5 - T.1 4)) := by
  unfold fX6_readNumber
  have hn := h.2.1
  refine zScan (bf := bf) (n := n) (p := 5) (P := zcD) (G := fun s => zPu (zPu s 3 (((10 * (s.1 3)) + (s.2 1 (s.1 5))) - 48)) 5 (s.1 5 + 1)) (I := fun t => zEx [2, 3, 5] [] T t ∧ T.1 4 ≤ t.1 5 ∧ t.1 5 ≤ n ∧ (∀ j, T.1 4 ≤ j → j < t.1 5 → zcD (bf j)) ∧ t.1 3 = zNum bf (T.1 4) (t.1 5 - T.1 4)) ⟨zEx_u zEx_0 (by decide), ?_, ?_, fun j j0 j1 => ?_, ?_⟩ (fun b b0 b1 => x6_isDigit ⟨b0, b1⟩) (fun t ht => ⟨zTc0_e h ht.1 (by decide) (by decide), by omega, by omega⟩) (fun t ht c1 c2 => ?_) (fun t ht c => ?_)
  · show T.1 4 ≤ T.1 5
    omega
  · show T.1 5 ≤ n
    omega
  · have j2 : j < T.1 5 := j1
    omega
  · show 0 = zNum bf (T.1 4) (T.1 5 - T.1 4)
    rw [show T.1 5 - T.1 4 = 0 by omega]
    rfl
  · have e : (zPu (zPu t 3 (((10 * (t.1 3)) + (t.2 1 (t.1 5))) - 48)) 5 (t.1 5 + 1)).1 5 = t.1 5 + 1 := zPu_s
    have e3 : (zPu (zPu t 3 (((10 * (t.1 3)) + (t.2 1 (t.1 5))) - 48)) 5 (t.1 5 + 1)).1 3 = ((10 * (t.1 3)) + (t.2 1 (t.1 5))) - 48 := by rw [zPu_n (by decide), zPu_s]
    refine ⟨⟨zEx_u (zEx_u ht.1 (by decide)) (by decide), by rw [e]; omega, by rw [e]; omega, fun j j0 j1 => ?_, ?_⟩, e⟩
    · rw [e] at j1
      by_cases c3 : j = t.1 5
      · rw [c3]; exact c2
      · exact ht.2.2.2.1 j j0 (by omega)
    · rw [e, e3, ht.2.2.2.2, show t.1 5 + 1 - T.1 4 = (t.1 5 - T.1 4) + 1 by omega, zNum_s (by omega), show T.1 4 + (t.1 5 - T.1 4) = t.1 5 by omega]
      have hb := ((zTc0_e h ht.1 (by decide) (by decide)).2.2 (t.1 5) (by omega) c1).2
      rw [hb]
      omega
  · have e4 : t.1 4 = T.1 4 := ht.1.1 4 (by decide)
    have ht1 := ht.2.1
    have ht2 := ht.2.2.1
    rw [e4]
    refine zok_g (by omega) ?_
    refine zok_i (fun c3 => zok_s ⟨zEx_u ht.1 (by decide), ?_, ?_, ?_⟩) (fun c3 => zok_s ⟨zEx_u ht.1 (by decide), ?_, ?_, ?_⟩)
    · exact ⟨ht1, ht2, ht.2.2.2.1, c⟩
    · show 2 = if t.1 5 - T.1 4 ≤ 3 then 2 else 4
      rw [if_pos c3]
    · exact ht.2.2.2.2
    · exact ⟨ht1, ht2, ht.2.2.2.1, c⟩
    · show 4 = if t.1 5 - T.1 4 ≤ 3 then 2 else 4
      rw [if_neg c3]
    · exact ht.2.2.2.2
theorem c_nextT {bf : Int → Int} {n e : Int} {T y1 : CV} (h : zTc0 bf n T) (hE : zEx [2, 3, 4, 5] [] T y1) (h0 : 0 ≤ e) (hc : zChr zcB bf n e (y1.1 4)) : zOk ((fun y1 => zG (iR (y1.1 4) ∧ iR (y1.1 1)) <| if (y1.1 4) < (y1.1 1) then (zG (0 ≤ (y1.1 4) ∧ (y1.1 4) < 600) <| (fX6_isLetter (y1.2 1 (y1.1 4))).bind fun t11 => if t11 = true then ((fX6_readWord (zPu y1 5 (y1.1 4))).bind fun t22 => some t22) else ((fX6_isDigit (y1.2 1 (y1.1 4))).bind fun t14 => if t14 = true then ((fX6_readNumber (zPu y1 5 (y1.1 4))).bind fun t20 => some t20) else ((fX6_isSingle (y1.2 1 (y1.1 4))).bind fun t17 => if t17 = true then (some (zPu (zPu (zPu y1 5 (y1.1 4)) 2 3) 5 ((y1.1 4) + 1))) else (some (zPu (zPu (zPu y1 5 (y1.1 4)) 2 4) 5 ((y1.1 4) + 1)))))) else (some (zPu (zPu y1 5 (y1.1 4)) 2 0))) y1) (fun t => zEx [2, 3, 4, 5] [] T t ∧ zTok bf n e (t.1 4) (t.1 5) (t.1 2) ∧ (t.1 2 = 2 → t.1 3 = zNum bf (t.1 4) (t.1 5 - t.1 4))) := by
  have hy := zTc0_e h hE (by decide) (by decide)
  have hn := hy.2.1
  have hp0 := hc.1
  have hp1 := hc.2.1
  dsimp only
  rw [hy.1]
  refine zok_g (by omega) ?_
  refine zok_i (fun c => ?_) (fun c => zok_s ⟨zEx_u (zEx_u hE (by decide)) (by decide), ⟨hc, Or.inl ⟨?_, ?_, rfl⟩⟩, fun z => by cases z⟩)
  · refine zok_g (by omega) ?_
    have hb := hy.2.2 (y1.1 4) (by omega) c
    rw [hb.2]
    refine zok_e (x6_isLetter hb.1) ?_
    have hz : zTc0 bf n (zPu y1 5 (y1.1 4)) := zTc0_e h (zEx_u hE (by decide)) (by decide) (by decide)
    refine zok_i (fun c1 => ?_) (fun c1 => ?_)
    · refine zok_b (c_readWord (T := zPu y1 5 (y1.1 4)) hz (by show 0 ≤ y1.1 4; omega) zPu_s (by show y1.1 4 < n; exact c)) (fun t ht => zok_s ⟨?_, ?_, ?_⟩)
      · exact zEx_t (zEx_u hE (by decide)) (zEx_w ht.1 (by decide) (by decide))
      · have e4 : t.1 4 = y1.1 4 := (ht.1.1 4 (by decide)).trans rfl
        rw [e4]
        exact ⟨hc, Or.inr (Or.inl ⟨c, of_decide_eq_true c1, ht.2.1, ht.2.2⟩)⟩
      · intro z
        have := ht.2.2
        split at this <;> omega
    · refine zok_e (x6_isDigit hb.1) ?_
      refine zok_i (fun c2 => ?_) (fun c2 => ?_)
      · refine zok_b (c_readNumber (T := zPu y1 5 (y1.1 4)) hz (by show 0 ≤ y1.1 4; omega) zPu_s (by show y1.1 4 < n; exact c)) (fun t ht => zok_s ⟨?_, ?_, ?_⟩)
        · exact zEx_t (zEx_u hE (by decide)) (zEx_w ht.1 (by decide) (by decide))
        · have e4 : t.1 4 = y1.1 4 := (ht.1.1 4 (by decide)).trans rfl
          rw [e4]
          exact ⟨hc, Or.inr (Or.inr (Or.inl ⟨c, of_decide_eq_true c2, ht.2.1, ht.2.2.1⟩))⟩
        · intro z
          have e4 : t.1 4 = y1.1 4 := (ht.1.1 4 (by decide)).trans rfl
          rw [e4]
          exact ht.2.2.2
      · refine zok_e (x6_isSingle hb.1) ?_
        refine zok_i (fun c3 => zok_s ⟨zEx_u (zEx_u (zEx_u hE (by decide)) (by decide)) (by decide), ⟨hc, Or.inr (Or.inr (Or.inr ⟨c, fun z => c1 (decide_eq_true z), fun z => c2 (decide_eq_true z), rfl, ?_⟩))⟩, fun z => by cases z⟩) (fun c3 => zok_s ⟨zEx_u (zEx_u (zEx_u hE (by decide)) (by decide)) (by decide), ⟨hc, Or.inr (Or.inr (Or.inr ⟨c, fun z => c1 (decide_eq_true z), fun z => c2 (decide_eq_true z), rfl, ?_⟩))⟩, fun z => by cases z⟩)
        · show 3 = if zcS (bf (y1.1 4)) then 3 else 4
          rw [if_pos (of_decide_eq_true c3)]
        · show 4 = if zcS (bf (y1.1 4)) then 3 else 4
          rw [if_neg (fun z => c3 (decide_eq_true z))]
  · show y1.1 4 = n
    omega
  · show y1.1 4 = n
    omega
theorem c_next {bf : Int → Int} {n : Int} {T : CV} (h : zTc0 bf n T) (h0 : 0 ≤ T.1 5 ∧ T.1 5 ≤ n) : zOk (fX6_next T) (fun t => zEx [2, 3, 4, 5] [] T t ∧ zTok bf n (T.1 5) (t.1 4) (t.1 5) (t.1 2) ∧ (t.1 2 = 2 → t.1 3 = zNum bf (t.1 4) (t.1 5 - t.1 4))) := by
  unfold fX6_next
  refine zScan (bf := bf) (n := n) (p := 4) (P := zcB) (G := fun s => zPu s 4 (s.1 4 + 1)) (I := fun t => zEx [2, 3, 4, 5] [] T t ∧ T.1 5 ≤ t.1 4 ∧ t.1 4 ≤ n ∧ ∀ j, T.1 5 ≤ j → j < t.1 4 → zcB (bf j)) ⟨zEx_u zEx_0 (by decide), ?_, ?_, fun j j0 j1 => ?_⟩ (fun b b0 b1 => x6_isBlank ⟨b0, b1⟩) (fun t ht => ⟨zTc0_e h ht.1 (by decide) (by decide), by omega, by omega⟩) (fun t ht c1 c2 => ?_) (fun t ht c => ?_)
  · show T.1 5 ≤ T.1 5
    omega
  · show T.1 5 ≤ n
    omega
  · have j2 : j < T.1 5 := j1
    omega
  · have e : (zPu t 4 (t.1 4 + 1)).1 4 = t.1 4 + 1 := zPu_s
    refine ⟨⟨zEx_u ht.1 (by decide), by rw [e]; omega, by rw [e]; omega, fun j j0 j1 => ?_⟩, e⟩
    rw [e] at j1
    by_cases c3 : j = t.1 4
    · rw [c3]; exact c2
    · exact ht.2.2.2 j j0 (by omega)
  · exact c_nextT h ht.1 h0.1 ⟨ht.2.1, ht.2.2.1, ht.2.2.2, c⟩
end ZTK
