section ZTM
/-! the model -/
def zMc0 (bf : Int → Int) (n : Int) (m : CV) : Prop := m.1 3 = n ∧ (0 ≤ n ∧ n ≤ 600) ∧ ∀ k, 0 ≤ k → k < n → (0 ≤ bf k ∧ bf k < 256) ∧ m.2 1 k = bf k
theorem zMc0_e {bf : Int → Int} {n : Int} {T t : CV} {ns js : List Nat} (h : zMc0 bf n T) (e : zEx ns js T t) (h1 : 3 ∉ ns) (h2 : 1 ∉ js) : zMc0 bf n t := by
  unfold zMc0 at h ⊢
  rw [e.1 3 h1, e.2 1 h2]
  exact h
def zHy (bf : Int → Int) (n j : Int) : Int := if j < n then bf j else -1
theorem zHy_t {bf : Int → Int} {n j : Int} (h : j < n) : zHy bf n j = bf j := if_pos h
theorem zHy_f {bf : Int → Int} {n j : Int} (h : ¬ j < n) : zHy bf n j = -1 := if_neg h
theorem m_here {bf : Int → Int} {n : Int} {m : CV} (h : zMc0 bf n m) {k : Int} (h0 : 0 ≤ m.1 4 + k) (h1 : m.1 4 + k ≤ 10000) : fX8_here m k = some (zHy bf n (m.1 4 + k)) := by
  apply zok_q
  unfold fX8_here
  have hn := h.2.1
  rw [h.1]
  refine zok_g (by omega) ?_
  refine zok_i (fun c => zok_s (zHy_f (by omega)).symm) (fun c => ?_)
  refine zok_g (by omega) (zok_s ?_)
  rw [zHy_t (by omega)]
  exact (h.2.2 _ h0 (by omega)).2
theorem zHy_r {bf : Int → Int} {n : Int} {m : CV} (h : zMc0 bf n m) {j : Int} (h0 : 0 ≤ j) : -1 ≤ zHy bf n j ∧ zHy bf n j < 256 := by
  by_cases c : j < n
  · rw [zHy_t c]
    have := (h.2.2 j h0 c).1
    omega
  · rw [zHy_f c]; omega
theorem x8_isLetter {b : Int} (h : -1 ≤ b ∧ b < 256) : fX8_isLetter b = some (decide (zcL b)) := by
  apply zok_q
  unfold fX8_isLetter
  refine zok_g (by omega) ?_
  refine zok_i (fun c => zok_s (decide_eq_false (by omega)).symm) (fun c => ?_)
  exact zok_i (fun c => zok_s (decide_eq_false (by omega)).symm) (fun c => zok_s (decide_eq_true (by omega)).symm)
theorem x8_isDigit {b : Int} (h : -1 ≤ b ∧ b < 256) : fX8_isDigit b = some (decide (zcD b)) := by
  apply zok_q
  unfold fX8_isDigit
  refine zok_g (by omega) ?_
  refine zok_i (fun c => zok_s (decide_eq_false (by omega)).symm) (fun c => ?_)
  exact zok_i (fun c => zok_s (decide_eq_false (by omega)).symm) (fun c => zok_s (decide_eq_true (by omega)).symm)
def zTv (bf : Int → Int) (t : CV) : Prop := (t.1 6 = 2 → t.1 7 = zNum bf (t.1 5) (t.1 4 - t.1 5)) ∧ (t.1 6 = 3 → t.1 7 = bf (t.1 5)) ∧ (t.1 6 = 1 → t.1 8 = t.1 4 - t.1 5 ∧ (t.1 8 ≤ 8 → t.1 13 = z5 (zUl bf (t.1 5) (t.1 8).toNat))) ∧ (0 ≤ t.1 13 ∧ t.1 13 < 1099511627776)
def zMn8 (k : Nat) : Nat := if k ≤ 8 then k else 8
theorem zHy_l {bf : Int → Int} {n j : Int} {P : Int → Prop} (hm : ¬ P (-1)) : P (zHy bf n j) ↔ j < n ∧ P (bf j) := by
  by_cases c : j < n
  · rw [zHy_t c]; exact ⟨fun h => ⟨c, h⟩, fun h => h.2⟩
  · rw [zHy_f c]; exact ⟨fun h => absurd h hm, fun h => absurd h.1 c⟩
theorem m_goOnT {bf : Int → Int} {n e : Int} {m y1 : CV} (h : zMc0 bf n m) (hE : zEx [4, 5, 6, 7, 8, 13] [] m y1) (h0 : 0 ≤ e) (hc : zChr zcB bf n e (y1.1 4)) : zOk ((fun y1 => (fX8_here (zPu (zPu (zPu (zPu y1 5 (y1.1 4)) 13 0) 7 0) 8 0) 0).bind fun t10 => zG (iR t10) <| if 0 ≤ t10 then ((fX8_isLetter t10).bind fun t14 => if t14 = true then ((zLp (σ := Int × CV) (ρ := (Int × CV)) (fun s56 => (fX8_here s56.2 s56.1).bind fun t74 => (fX8_isLetter t74).bind fun t76 => if t76 = true then (zG (iR s56.1) <| if 8 ≤ s56.1 then (some (.inl (s56.1 + 1, s56.2))) else (zG (0 ≤ (s56.2.1 13) ∧ (s56.2.1 13) < 9223372036854775808) <| (fX8_here s56.2 s56.1).bind fun t82 => zG (iR ((t82 - 97) + 1)) <| zG ((0 ≤ ((s56.2.1 13) * zP2 5) ∧ ((s56.2.1 13) * zP2 5) < 9223372036854775808) ∧ (0 ≤ ((t82 - 97) + 1) ∧ ((t82 - 97) + 1) < 9223372036854775808)) <| some (.inl (s56.1 + 1, (zPu s56.2 13 (zOr ((s56.2.1 13) * zP2 5) ((t82 - 97) + 1))))))) else (some (.inr (s56.1, s56.2)))) zFu (0, (zPu (zPu (zPu (zPu y1 5 (y1.1 4)) 13 0) 7 0) 8 0))).bind (fun y56 => zJn (σ := Int) (ρ := CV) (fun x71 => some (zPu (zPu (zPu y56.2 6 x71) 8 y56.1) 4 ((y56.2.1 4) + y56.1))) (fun j71 => zG (iR y56.1) <| if y56.1 ≤ 30 then (j71 1) else (j71 4)))) else ((fX8_isDigit t10).bind fun t17 => if t17 = true then ((zLp (σ := Int × CV) (ρ := (Int × CV)) (fun s35 => (fX8_here s35.2 s35.1).bind fun t47 => (fX8_isDigit t47).bind fun t49 => if t49 = true then (zG (iR s35.1) <| if 3 ≤ s35.1 then (some (.inl (s35.1 + 1, s35.2))) else ((fX8_here s35.2 s35.1).bind fun t54 => some (.inl (s35.1 + 1, (zPu s35.2 7 (((10 * (s35.2.1 7)) + t54) - 48)))))) else (some (.inr (s35.1, s35.2)))) zFu (0, (zPu (zPu (zPu (zPu y1 5 (y1.1 4)) 13 0) 7 0) 8 0))).bind (fun y35 => zG (iR y35.1) <| if y35.1 ≤ 3 then (some (zPu (zPu y35.2 6 2) 4 ((y35.2.1 4) + y35.1))) else (some (zPu (zPu y35.2 6 4) 4 ((y35.2.1 4) + y35.1))))) else (zJn (σ := Int) (ρ := CV) (fun x27 => some (zPu (zPu (zPu (zPu (zPu (zPu (zPu y1 5 (y1.1 4)) 13 0) 7 0) 8 0) 6 x27) 7 t10) 4 ((y1.1 4) + 1))) (fun j27 => zJn (σ := Unit) (ρ := CV) (fun x31 => j27 3) (fun j31 => if t10 = 59 then (j31 ()) else (if t10 = 40 then (j31 ()) else (if t10 = 41 then (j31 ()) else (j27 4)))))))) else (some (zPu (zPu (zPu (zPu (zPu y1 5 (y1.1 4)) 13 0) 7 0) 8 0) 6 0))) y1) (fun t => zEx [4, 5, 6, 7, 8, 13] [] m t ∧ zTok bf n e (t.1 5) (t.1 4) (t.1 6) ∧ zTv bf t) := by
  obtain ⟨z, hz⟩ : ∃ z, z = zPu (zPu (zPu (zPu y1 5 (y1.1 4)) 13 0) 7 0) 8 0 := ⟨_, rfl⟩
  obtain ⟨p, hp⟩ : ∃ p, p = y1.1 4 := ⟨_, rfl⟩
  have hzE : zEx [4, 5, 6, 7, 8, 13] [] m z := by rw [hz]; exact zEx_u (zEx_u (zEx_u (zEx_u hE (by decide)) (by decide)) (by decide)) (by decide)
  have hzM := zMc0_e h hzE (by decide) (by decide)
  have hn := hzM.2.1
  have z4 : z.1 4 = p := by rw [hz, hp]; rfl
  have z5' : z.1 5 = p := by rw [hz, hp]; rfl
  have z13 : z.1 13 = 0 := by rw [hz]; rfl
  have z7 : z.1 7 = 0 := by rw [hz]; rfl
  have z8' : z.1 8 = 0 := by rw [hz]; rfl
  rw [← hp] at hc
  have hp0 := hc.1
  have hp1 := hc.2.1
  dsimp only
  rw [← hz, ← hp]
  have hh := m_here hzM (k := 0) (by omega) (by omega)
  rw [z4, Int.add_zero] at hh
  refine zok_e hh ?_
  have hr := zHy_r hzM (j := p) (by omega)
  refine zok_g (by omega) ?_
  refine zok_i (fun c => ?_) (fun c => ?_)
  · have hpn : p < n := by
      by_cases q : p < n
      · exact q
      · rw [zHy_f q] at c; omega
    have hb := (hzM.2.2 p (by omega) hpn).1
    rw [zHy_t hpn]
    refine zok_e (x8_isLetter ⟨by omega, by omega⟩) ?_
    refine zok_i (fun c1 => ?_) (fun c1 => ?_)
    · refine zok_L (I := fun (q : Int × CV) => ∃ k : Nat, q.1 = k ∧ p + k ≤ n ∧ zEx [4, 5, 6, 7, 8, 13] [] m q.2 ∧ q.2.1 4 = p ∧ q.2.1 5 = p ∧ (∀ j, p ≤ j → j < p + k → zcL (bf j)) ∧ q.2.1 13 = z5 (zUl bf p (zMn8 k))) (μ := fun q => (n - q.1).toNat) ⟨0, rfl, by show p + (0 : Int) ≤ n; omega, hzE, z4, z5', fun j _ _ => by omega, z13⟩ (by show (n - 0).toNat < 100000; omega) (fun q hI => ?_)
      obtain ⟨q1, t⟩ := q
      obtain ⟨k, hk, hkn, hE2, t4, t5, hl, ht13⟩ := hI
      dsimp only at hk hE2 t4 t5 ht13 ⊢
      subst hk
      have htM := zMc0_e h hE2 (by decide) (by decide)
      have hh2 := m_here htM (k := (k : Int)) (by omega) (by omega)
      rw [t4] at hh2
      have hr2 := zHy_r htM (j := p + k) (by omega)
      have hlt := zHy_l (bf := bf) (n := n) (j := p + (k : Int)) (P := zcL) (by decide)
      have hlw : zLet (zUl bf p (zMn8 k)) := zUl_w (fun j j0 j1 => hl j j0 (by unfold zMn8 at j1; split at j1 <;> omega))
      have hll : (zUl bf p (zMn8 k)).length ≤ 8 := by rw [zUl_l]; unfold zMn8; split <;> omega
      have h40 := z5_40 hlw hll
      refine zok_e hh2 ?_
      refine zok_e (x8_isLetter hr2) ?_
      refine zok_i (fun c2 => ?_) (fun c2 => ?_)
      · have hL := hlt.mp (of_decide_eq_true c2)
        have hl2 : ∀ j, p ≤ j → j < p + ((k + 1 : Nat) : Int) → zcL (bf j) := fun j j0 j1 => by
          by_cases q : j = p + (k : Int)
          · rw [q]; exact hL.2
          · exact hl j j0 (by omega)
        refine zok_g (by omega) ?_
        refine zok_i (fun c3 => zok_sl ⟨⟨k + 1, by show (k : Int) + 1 = _; omega, by omega, hE2, t4, t5, hl2, ?_⟩, ?_⟩) (fun c3 => ?_)
        · show t.1 13 = _
          rw [ht13]
          have e1 : zMn8 k = 8 := by unfold zMn8; split <;> omega
          have e2 : zMn8 (k + 1) = 8 := by unfold zMn8; split <;> omega
          rw [e1, e2]
        · show (n - ((k : Int) + 1)).toNat < (n - (k : Int)).toNat
          omega
        · have e1 : zMn8 k = k := by unfold zMn8; split <;> omega
          have e2 : zMn8 (k + 1) = k + 1 := by unfold zMn8; split <;> omega
          rw [e1] at h40 ht13
          rw [ht13]
          refine zok_g (by omega) ?_
          refine zok_e hh2 ?_
          have hLL := hL.2
          rw [zHy_t hL.1]
          have e32 : zP2 5 = 32 := rfl
          refine zok_g (by omega) ?_
          rw [e32]
          refine zok_g (by omega) ?_
          refine zok_sl ⟨⟨k + 1, by show (k : Int) + 1 = _; omega, by omega, zEx_u hE2 (by decide), by rw [zPu_n (by decide)]; exact t4, by rw [zPu_n (by decide)]; exact t5, hl2, ?_⟩, ?_⟩
          · show (zPu t 13 _).1 13 = _
            rw [zPu_s, e2, zUl_s, z5_s, ← e32, zOr_comm, zOr_add (by omega) (by omega) (by omega) h40.1, e32]
            omega
          · show (n - ((k : Int) + 1)).toNat < (n - (k : Int)).toNat
            omega
      · have hL : ¬ (p + (k : Int) < n ∧ zcL (bf (p + k))) := fun z => c2 (decide_eq_true (hlt.mpr z))
        have hCh : zChr zcL bf n p (p + k) := ⟨by omega, hkn, hl, fun a b => hL ⟨a, b⟩⟩
        refine zok_sr ?_
        refine zok_jP (fun (x : Int) => x = if (k : Int) ≤ 30 then 1 else 4) (fun x hx => zok_s ⟨zEx_u (zEx_u (zEx_u hE2 (by decide)) (by decide)) (by decide), ?_, ?_⟩) (fun K hK => ?_)
        · have e5 : (zPu (zPu (zPu t 6 x) 8 (k : Int)) 4 (t.1 4 + k)).1 5 = p := by rw [zPu_n (by decide), zPu_n (by decide), zPu_n (by decide)]; exact t5
          have e4 : (zPu (zPu (zPu t 6 x) 8 (k : Int)) 4 (t.1 4 + k)).1 4 = p + k := by rw [zPu_s, t4]
          have e6 : (zPu (zPu (zPu t 6 x) 8 (k : Int)) 4 (t.1 4 + k)).1 6 = x := by rw [zPu_n (by decide), zPu_n (by decide), zPu_s]
          rw [e5, e4, e6]
          refine ⟨hc, Or.inr (Or.inl ⟨hpn, of_decide_eq_true c1, hCh, ?_⟩)⟩
          rw [hx, show p + (k : Int) - p = k by omega]
        · have e5 : (zPu (zPu (zPu t 6 x) 8 (k : Int)) 4 (t.1 4 + k)).1 5 = p := by rw [zPu_n (by decide), zPu_n (by decide), zPu_n (by decide)]; exact t5
          have e4 : (zPu (zPu (zPu t 6 x) 8 (k : Int)) 4 (t.1 4 + k)).1 4 = p + k := by rw [zPu_s, t4]
          have e6 : (zPu (zPu (zPu t 6 x) 8 (k : Int)) 4 (t.1 4 + k)).1 6 = x := by rw [zPu_n (by decide), zPu_n (by decide), zPu_s]
          have e8 : (zPu (zPu (zPu t 6 x) 8 (k : Int)) 4 (t.1 4 + k)).1 8 = k := by rw [zPu_n (by decide), zPu_s]
          have e13 : (zPu (zPu (zPu t 6 x) 8 (k : Int)) 4 (t.1 4 + k)).1 13 = t.1 13 := by rw [zPu_n (by decide), zPu_n (by decide), zPu_n (by decide)]
          unfold zTv
          rw [e5, e4, e6, e8, e13, ht13]
          refine ⟨fun z => ?_, fun z => ?_, fun z => ⟨by omega, fun z2 => ?_⟩, h40⟩
          · rw [hx] at z; split at z <;> omega
          · rw [hx] at z; split at z <;> omega
          · have e1 : zMn8 k = k := by unfold zMn8; split <;> omega
            rw [e1, Int.toNat_natCast]
        · refine zok_g (by omega) ?_
          refine zok_i (fun c3 => hK _ ?_) (fun c3 => hK _ ?_)
          · rw [if_pos c3]
          · rw [if_neg c3]
    · refine zok_e (x8_isDigit ⟨by omega, by omega⟩) ?_
      refine zok_i (fun c2 => ?_) (fun c2 => ?_)
      · refine zok_L (I := fun (q : Int × CV) => ∃ k : Nat, q.1 = k ∧ p + k ≤ n ∧ zEx [4, 5, 6, 7, 8, 13] [] m q.2 ∧ q.2.1 4 = p ∧ q.2.1 5 = p ∧ (∀ j, p ≤ j → j < p + k → zcD (bf j)) ∧ q.2.1 13 = 0 ∧ (k ≤ 3 → q.2.1 7 = zNum bf p k)) (μ := fun q => (n - q.1).toNat) ⟨0, rfl, by show p + (0 : Int) ≤ n; omega, hzE, z4, z5', fun j _ _ => by omega, z13, fun _ => z7⟩ (by show (n - 0).toNat < 100000; omega) (fun q hI => ?_)
        obtain ⟨q1, t⟩ := q
        obtain ⟨k, hk, hkn, hE2, t4, t5, hl, ht13, ht7⟩ := hI
        dsimp only at hk hE2 t4 t5 ht13 ht7 ⊢
        subst hk
        have htM := zMc0_e h hE2 (by decide) (by decide)
        have hh2 := m_here htM (k := (k : Int)) (by omega) (by omega)
        rw [t4] at hh2
        have hr2 := zHy_r htM (j := p + k) (by omega)
        have hlt := zHy_l (bf := bf) (n := n) (j := p + (k : Int)) (P := zcD) (by decide)
        refine zok_e hh2 ?_
        refine zok_e (x8_isDigit hr2) ?_
        refine zok_i (fun c3 => ?_) (fun c3 => ?_)
        · have hL := hlt.mp (of_decide_eq_true c3)
          have hl2 : ∀ j, p ≤ j → j < p + ((k + 1 : Nat) : Int) → zcD (bf j) := fun j j0 j1 => by
            by_cases q : j = p + (k : Int)
            · rw [q]; exact hL.2
            · exact hl j j0 (by omega)
          refine zok_g (by omega) ?_
          refine zok_i (fun c4 => zok_sl ⟨⟨k + 1, by show (k : Int) + 1 = _; omega, by omega, hE2, t4, t5, hl2, ht13, fun z => by omega⟩, ?_⟩) (fun c4 => ?_)
          · show (n - ((k : Int) + 1)).toNat < (n - (k : Int)).toNat
            omega
          · refine zok_e hh2 ?_
            rw [zHy_t hL.1, ht7 (by omega)]
            refine zok_sl ⟨⟨k + 1, by show (k : Int) + 1 = _; omega, by omega, zEx_u hE2 (by decide), by rw [zPu_n (by decide)]; exact t4, by rw [zPu_n (by decide)]; exact t5, hl2, by rw [zPu_n (by decide)]; exact ht13, fun z => ?_⟩, ?_⟩
            · show (zPu t 7 _).1 7 = _
              rw [zPu_s, show ((k + 1 : Nat) : Int) = (k : Int) + 1 by omega, zNum_s (by omega)]
            · show (n - ((k : Int) + 1)).toNat < (n - (k : Int)).toNat
              omega
        · have hL : ¬ (p + (k : Int) < n ∧ zcD (bf (p + k))) := fun z => c3 (decide_eq_true (hlt.mpr z))
          have hCh : zChr zcD bf n p (p + k) := ⟨by omega, hkn, hl, fun a b => hL ⟨a, b⟩⟩
          refine zok_sr ?_
          refine zok_g (by omega) ?_
          have fin : ∀ x : Int, (x = if (k : Int) ≤ 3 then 2 else 4) → zEx [4, 5, 6, 7, 8, 13] [] m (zPu (zPu t 6 x) 4 (t.1 4 + k)) ∧ zTok bf n e ((zPu (zPu t 6 x) 4 (t.1 4 + k)).1 5) ((zPu (zPu t 6 x) 4 (t.1 4 + k)).1 4) ((zPu (zPu t 6 x) 4 (t.1 4 + k)).1 6) ∧ zTv bf (zPu (zPu t 6 x) 4 (t.1 4 + k)) := by
            intro x hx
            have e5 : (zPu (zPu t 6 x) 4 (t.1 4 + k)).1 5 = p := by rw [zPu_n (by decide), zPu_n (by decide)]; exact t5
            have e4 : (zPu (zPu t 6 x) 4 (t.1 4 + k)).1 4 = p + k := by rw [zPu_s, t4]
            have e6 : (zPu (zPu t 6 x) 4 (t.1 4 + k)).1 6 = x := by rw [zPu_n (by decide), zPu_s]
            have e7 : (zPu (zPu t 6 x) 4 (t.1 4 + k)).1 7 = t.1 7 := by rw [zPu_n (by decide), zPu_n (by decide)]
            have e13 : (zPu (zPu t 6 x) 4 (t.1 4 + k)).1 13 = 0 := by rw [zPu_n (by decide), zPu_n (by decide)]; exact ht13
            refine ⟨zEx_u (zEx_u hE2 (by decide)) (by decide), ?_, ?_⟩
            · rw [e5, e4, e6]
              refine ⟨hc, Or.inr (Or.inr (Or.inl ⟨hpn, of_decide_eq_true c2, hCh, ?_⟩))⟩
              rw [hx, show p + (k : Int) - p = k by omega]
            · unfold zTv
              rw [e5, e4, e6, e7, e13]
              refine ⟨fun z => ?_, fun z => ?_, fun z => ?_, by omega⟩
              · rw [ht7 (by rw [hx] at z; split at z <;> omega), show p + (k : Int) - p = k by omega]
              · rw [hx] at z; split at z <;> omega
              · rw [hx] at z; split at z <;> omega
          refine zok_i (fun c4 => zok_s (fin 2 ?_)) (fun c4 => zok_s (fin 4 ?_))
          · rw [if_pos c4]
          · rw [if_neg c4]
      · refine zok_jP (fun (x : Int) => x = if zcS (bf p) then 3 else 4) (fun x hx => zok_s ?_) (fun K hK => ?_)
        · rw [hz]
          rw [hz] at hzE
          have e5 : (zPu (zPu (zPu (zPu (zPu (zPu (zPu y1 5 p) 13 0) 7 0) 8 0) 6 x) 7 (bf p)) 4 (p + 1)).1 5 = p := rfl
          have e4 : (zPu (zPu (zPu (zPu (zPu (zPu (zPu y1 5 p) 13 0) 7 0) 8 0) 6 x) 7 (bf p)) 4 (p + 1)).1 4 = p + 1 := rfl
          have e6 : (zPu (zPu (zPu (zPu (zPu (zPu (zPu y1 5 p) 13 0) 7 0) 8 0) 6 x) 7 (bf p)) 4 (p + 1)).1 6 = x := rfl
          have e7 : (zPu (zPu (zPu (zPu (zPu (zPu (zPu y1 5 p) 13 0) 7 0) 8 0) 6 x) 7 (bf p)) 4 (p + 1)).1 7 = bf p := rfl
          have e13 : (zPu (zPu (zPu (zPu (zPu (zPu (zPu y1 5 p) 13 0) 7 0) 8 0) 6 x) 7 (bf p)) 4 (p + 1)).1 13 = 0 := rfl
          rw [← hp]
          refine ⟨zEx_u (zEx_u (zEx_u (zEx_u (zEx_u (zEx_u (zEx_u hE (by decide)) (by decide)) (by decide)) (by decide)) (by decide)) (by decide)) (by decide), ?_, ?_⟩
          · rw [e5, e4, e6]
            exact ⟨hc, Or.inr (Or.inr (Or.inr ⟨hpn, fun z => c1 (decide_eq_true z), fun z => c2 (decide_eq_true z), rfl, hx⟩))⟩
          · unfold zTv
            rw [e5, e4, e6, e7, e13]
            refine ⟨fun z => ?_, fun z => rfl, fun z => ?_, by omega⟩
            · rw [hx] at z; split at z <;> omega
            · rw [hx] at z; split at z <;> omega
        · refine zok_jP (fun _ => zcS (bf p)) (fun _ hq => hK 3 (by rw [if_pos hq])) (fun J hJ => ?_)
          refine zok_i (fun c3 => hJ () (Or.inl c3)) (fun c3 => ?_)
          refine zok_i (fun c4 => hJ () (Or.inr (Or.inl c4))) (fun c4 => ?_)
          refine zok_i (fun c5 => hJ () (Or.inr (Or.inr c5))) (fun c5 => hK 4 ?_)
          rw [if_neg (fun q => by rcases q with q | q | q <;> contradiction)]
  · have hpn : ¬ p < n := fun q => by
      rw [zHy_t q] at c
      have := (hzM.2.2 p (by omega) q).1
      omega
    refine zok_s ?_
    have e5 : (zPu z 6 0).1 5 = p := by rw [zPu_n (by decide)]; exact z5'
    have e4 : (zPu z 6 0).1 4 = p := by rw [zPu_n (by decide)]; exact z4
    have e6 : (zPu z 6 0).1 6 = 0 := zPu_s
    have e13 : (zPu z 6 0).1 13 = 0 := by rw [zPu_n (by decide)]; exact z13
    refine ⟨zEx_u hzE (by decide), ?_, ?_⟩
    · rw [e5, e4, e6]
      exact ⟨hc, Or.inl ⟨by omega, by omega, rfl⟩⟩
    · unfold zTv
      rw [e5, e4, e6, e13]
      exact ⟨fun z => absurd z (by decide), fun z => absurd z (by decide), fun z => absurd z (by decide), by omega⟩
theorem m_goOn {bf : Int → Int} {n : Int} {m : CV} (h : zMc0 bf n m) (h0 : 0 ≤ m.1 4 ∧ m.1 4 ≤ n) : zOk (fX8_goOn m) (fun t => zEx [4, 5, 6, 7, 8, 13] [] m t ∧ zTok bf n (m.1 4) (t.1 5) (t.1 4) (t.1 6) ∧ zTv bf t) := by
  unfold fX8_goOn
  have hn := h.2.1
  refine zok_L (I := fun t => zEx [4, 5, 6, 7, 8, 13] [] m t ∧ m.1 4 ≤ t.1 4 ∧ t.1 4 ≤ n ∧ ∀ j, m.1 4 ≤ j → j < t.1 4 → zcB (bf j)) (μ := fun t => (n - t.1 4).toNat) ⟨zEx_0, by omega, by omega, fun j _ _ => by omega⟩ (by show (n - m.1 4).toNat < 100000; omega) (fun t ht => ?_)
  obtain ⟨hE, t0, t1, hb⟩ := ht
  have htM := zMc0_e h hE (by decide) (by decide)
  have hh := m_here htM (k := 0) (by omega) (by omega)
  rw [Int.add_zero] at hh
  have hr := zHy_r htM (j := t.1 4) (by omega)
  have hlt := zHy_l (bf := bf) (n := n) (j := t.1 4) (P := zcB) (by decide)
  have more : zcB (zHy bf n (t.1 4)) → (zEx [4, 5, 6, 7, 8, 13] [] m (zPu t 4 (t.1 4 + 1)) ∧ m.1 4 ≤ (zPu t 4 (t.1 4 + 1)).1 4 ∧ (zPu t 4 (t.1 4 + 1)).1 4 ≤ n ∧ ∀ j, m.1 4 ≤ j → j < (zPu t 4 (t.1 4 + 1)).1 4 → zcB (bf j)) ∧ (n - (zPu t 4 (t.1 4 + 1)).1 4).toNat < (n - t.1 4).toNat := fun hz => by
    have hL := hlt.mp hz
    have e : (zPu t 4 (t.1 4 + 1)).1 4 = t.1 4 + 1 := zPu_s
    rw [e]
    refine ⟨⟨zEx_u hE (by decide), by omega, by omega, fun j j0 j1 => ?_⟩, by omega⟩
    by_cases c : j = t.1 4
    · rw [c]; exact hL.2
    · exact hb j j0 (by omega)
  refine zok_e hh ?_
  refine zok_g (by omega) ?_
  refine zok_i (fun c => zok_sl (more (Or.inl c))) (fun c => ?_)
  refine zok_e hh ?_
  refine zok_g (by omega) ?_
  refine zok_i (fun c2 => zok_sl (more (Or.inr c2))) (fun c2 => zok_sr ?_)
  have hN : ¬ zcB (zHy bf n (t.1 4)) := fun z => by rcases z with z | z <;> contradiction
  exact m_goOnT h hE h0.1 ⟨t0, t1, hb, fun a b => hN (hlt.mpr ⟨a, b⟩)⟩
end ZTM
