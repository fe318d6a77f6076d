section ZSX
variable {σ : CS} {m : CV} {s : Int → Int}
def zSat (s : Int → Int) (a b k r : Int) : Prop := (r = -1 ∧ (k < 0 ∨ zBn s a b (zWords s).toNat ≤ k)) ∨ ((0 ≤ r ∧ r < zWords s) ∧ zBo s a b r = 1 ∧ zBn s a b r.toNat = k)
theorem zBn_m {a b p : Int} (hp : 0 ≤ p) : ∀ (n : Nat), zBn s a b p.toNat ≤ zBn s a b (p + n).toNat := by
  intro n
  induction n with
  | zero => rw [show (p + ((0 : Nat) : Int)) = p by omega]; exact Int.le_refl _
  | succ n ih =>
    rw [show p + ((n + 1 : Nat) : Int) = (p + n) + 1 by omega, zBn_s (by omega)]
    split <;> omega
theorem zBn_lt {a b p q : Int} (hp : 0 ≤ p) (hq : p < q) (h : zBo s a b p = 1) : zBn s a b p.toNat < zBn s a b q.toNat := by
  have e := zBn_s (s := s) (a := a) (b := b) hp
  rw [if_neg (by omega)] at e
  have g := zBn_m (s := s) (a := a) (b := b) (p := p + 1) (by omega) (q - (p + 1)).toNat
  rw [show p + 1 + (((q - (p + 1)).toNat : Nat) : Int) = q by omega] at g
  omega
theorem zSat_u {a b k r q : Int} (h1 : zSat s a b k r) (h2 : zSat s a b k q) : r = q := by
  have nn := fun (n : Nat) => (zBn_r (s := s) (a := a) (b := b) n).1
  rcases h1 with ⟨e1, f1⟩ | ⟨e1, f1, g1⟩
  · rcases h2 with ⟨e2, f2⟩ | ⟨e2, f2, g2⟩
    · omega
    · have l := zBn_lt (s := s) e2.1 e2.2 f2
      have := nn q.toNat
      omega
  · rcases h2 with ⟨e2, f2⟩ | ⟨e2, f2, g2⟩
    · have l := zBn_lt (s := s) e1.1 e1.2 f1
      have := nn r.toNat
      omega
    · by_cases c : r < q
      · have l := zBn_lt (s := s) e1.1 c f1
        omega
      · by_cases d : q < r
        · have l := zBn_lt (s := s) e2.1 d f2
          omega
        · omega
theorem c_markedAt {T t0 : CV} {a b k : Int} (hW : zWf s) (hk : iR k) (h1 : t0.1 1 = zWords s) (h100 : zWords s ≤ t0.1 100 ∧ t0.1 100 ≤ 4096) (ht : ∀ w, 0 ≤ w → w < zWords s → t0.2 1 w = zBo s a b w) : zOk (fX4_markedAt t0 k) (fun r => zSat s a b k r) := by
  unfold fX4_markedAt
  have hw := zWords_r hW
  rw [h1]
  refine zok_F (mk := fun a i => (a, i)) (zWords s) (fun w c => c = zBn s a b w.toNat ∧ (k < 0 ∨ c ≤ k)) rfl (by omega) ⟨rfl, by show k < 0 ∨ 0 ≤ k; omega⟩ (fun w c q0 q1 hI => ?_) (fun w c q0 q1 q2 q3 hI => ?_)
  · dsimp only
    have e := ht w q0 q1
    have hr01 := zBo_r (s := s) (a := a) (b := b) (w := w)
    have hr := zBn_r (s := s) (a := a) (b := b) w.toNat
    rw [e]
    have eS := zBn_s (s := s) (a := a) (b := b) q0
    rw [← hI.1] at eS hr
    refine zok_g ⟨⟨by omega, by omega⟩, ⟨by omega, by omega⟩⟩ ?_
    refine zok_f (by omega) ?_
    refine zok_g ⟨by omega, by omega, by omega⟩ ?_
    refine zok_g ⟨by omega, by omega⟩ ?_
    refine zok_i (fun c1 => zok_sl ⟨_, rfl, by rw [eS, if_pos c1], hI.2⟩) (fun c1 => ?_)
    refine zok_g ⟨⟨by omega, by omega⟩, hk⟩ ?_
    refine zok_i (fun c2 => zok_sr (zok_s (Or.inr ⟨⟨q0, q1⟩, by omega, ?_⟩))) (fun c2 => zok_sl ⟨_, rfl, by rw [eS, if_neg c1], by have := hI.2; omega⟩)
    rw [← hI.1]
    exact c2
  · dsimp only
    (repeat (first | (with_reducible refine zok_g ?_ ?_; focus omega) | with_reducible refine zok_j ?_ | (with_reducible refine zok_t ?_ ?_; focus omega) | (with_reducible refine zok_f ?_ ?_; focus omega)))
    refine zok_sr (zok_s (Or.inl ⟨rfl, ?_⟩))
    rw [← q2 (by omega), ← hI.1]
    exact hI.2
theorem s_sharedAt (h : zRR σ m) {a b k : Int} (ha : iR a) (hb : iR b) (hk : iR k) : zCl [zIO] (fX7_sharedAt σ a b k) (fX8_sharedAt m a b k) := by
  have hW := h.W
  have hw := zWords_r hW
  have hT := zRR_t100 h
  refine zRow_c h ha (fun a0 a1 ca ma => ?_) (fun ca ma => ?_)
  · refine zRow_c h hb (fun b0 b1 cb mb => ?_) (fun cb mb => ?_)
    · unfold zCl fX7_sharedAt fX8_sharedAt
      refine zok_el ca ?_
      refine zok_el cb ?_
      refine zok_g ⟨by omega, by omega⟩ ?_
      refine zok_b (c_markShared hW h.B hT a0 a1 b0 b1) (fun t0 ht0 => ?_)
      have h100 := zTy_100 hW hT ht0.1
      refine zok_b (c_markedAt (T := t0) hW hk ht0.1.1 h100 ht0.2) (fun x hx => zok_s ?_)
      have xr : iR x := by
        rcases hx with ⟨e, _⟩ | ⟨e, _⟩ <;> exact ⟨by omega, by omega⟩
      refine zok_e ma ?_
      refine zok_j ?_
      refine zok_j ?_
      refine zok_t rfl ?_
      refine zok_e mb ?_
      refine zok_t rfl ?_
      refine zok_e m_go1 ?_
      refine zok_t rfl ?_
      have fin : ∀ y, zSat (m.2 2) a b k y → zOk (some (zPu m 0 0, y)) (fun u => zRR (zSu σ 10 t0) u.1 ∧ zAn [zIO] (.inl x) (u.1.1 0) u.2) := fun y hy => zok_s ⟨zRR_10 (zRR_0 h) (by omega), zAn_v rfl (zSat_u hx hy) xr⟩
      have lp : ∀ y0, ((y0 = -1 ∧ (k < 0 ∨ zBn (m.2 2) a b (zWords (m.2 2)).toNat ≤ 0)) ∨ ((0 ≤ y0 ∧ y0 < zWords (m.2 2)) ∧ 0 ≤ k ∧ zBo (m.2 2) a b y0 = 1 ∧ zBn (m.2 2) a b y0.toNat = 0)) → zOk ((zLp (σ := Int × Int) (ρ := (Int × Int)) (fun s21 => zG (iR s21.2 ∧ iR k) <| if k ≤ s21.2 then (some (.inr (s21.1, s21.2))) else (zG (iR s21.1) <| if s21.1 = (-1) then (some (.inr (s21.1, s21.2))) else ((fX8_sharedAbove (zPu m 0 0) a b s21.1).bind fun t32 => some (.inl (t32, s21.2 + 1))))) zFu (y0, 0)).bind (fun y21 => some (zPu m 0 0, y21.1))) (fun u => zRR (zSu σ 10 t0) u.1 ∧ zAn [zIO] (.inl x) (u.1.1 0) u.2) := by
        intro y0 hy0
        refine zok_L (I := fun (p : Int × Int) => (0 ≤ p.2 ∧ (p.2 = 0 ∨ p.2 ≤ k)) ∧ ((p.1 = -1 ∧ (k < 0 ∨ zBn (m.2 2) a b (zWords (m.2 2)).toNat ≤ p.2)) ∨ ((0 ≤ p.1 ∧ p.1 < zWords (m.2 2)) ∧ 0 ≤ k ∧ zBo (m.2 2) a b p.1 = 1 ∧ zBn (m.2 2) a b p.1.toNat = p.2))) (μ := fun p => if p.1 = -1 then 0 else (5000 - p.1).toNat) ⟨⟨Int.le_refl 0, Or.inl rfl⟩, hy0⟩ (by show (if y0 = -1 then 0 else (5000 - y0).toNat) < 100000; rcases hy0 with h | h <;> split <;> omega) ?_
        rintro ⟨y, i⟩ ⟨hi, hI⟩
        dsimp only at hi hI ⊢
        have hyr : -1 ≤ y ∧ y < 4096 := by
          rcases hI with e | e <;> omega
        refine zok_g ⟨⟨by omega, by omega⟩, hk⟩ ?_
        by_cases c1 : k ≤ i
        · refine zok_t c1 (zok_sr (fin y ?_))
          rcases hI with ⟨e, f⟩ | ⟨e, f⟩
          · exact Or.inl ⟨e, by omega⟩
          · exact Or.inr ⟨e, f.2.1, by omega⟩
        · refine zok_f c1 ?_
          refine zok_g ⟨by omega, by omega⟩ ?_
          by_cases c2 : y = -1
          · refine zok_t c2 (zok_sr (fin y ?_))
            rcases hI with ⟨e, f⟩ | ⟨e, f⟩
            · exact Or.inl ⟨e, by omega⟩
            · omega
          · refine zok_f c2 ?_
            rcases hI with ⟨e, f⟩ | ⟨e, f⟩
            · omega
            · refine zok_b (m_sharedAbove (m := zPu m 0 0) (s := m.2 2) rfl hW a0 a1 b0 b1 (x := y) ⟨by omega, by omega⟩) (fun z hz => ?_)
              have e1 := zBn_s (s := m.2 2) (a := a) (b := b) e.1
              rw [if_neg (by omega), f.2.2] at e1
              refine zok_sl ⟨⟨⟨by show 0 ≤ i + 1; omega, by show i + 1 = 0 ∨ i + 1 ≤ k; omega⟩, ?_⟩, ?_⟩
              · rcases zLst_b hz with ⟨e2, f2⟩ | ⟨e2, g2, f2⟩
                · refine Or.inl ⟨e2, Or.inr ?_⟩
                  show zBn (m.2 2) a b (zWords (m.2 2)).toNat ≤ i + 1
                  rw [← e1]
                  exact Int.le_of_eq (zBn_g (s := m.2 2) (a := a) (b := b) (p := y + 1) (q := zWords (m.2 2)) (by omega) (by omega) (fun w w0 _ => f2 w (by omega)))
                · refine Or.inr ⟨⟨by show 0 ≤ z; omega, e2.2⟩, f.1, g2, ?_⟩
                  show zBn (m.2 2) a b z.toNat = i + 1
                  rw [← e1]
                  exact zBn_g (s := m.2 2) (a := a) (b := b) (p := y + 1) (q := z) (by omega) (by omega) (fun w w0 w1 => f2 w (by omega) w1)
              · show (if z = -1 then 0 else (5000 - z).toNat) < (if y = -1 then 0 else (5000 - y).toNat)
                rw [if_neg c2]
                rcases zLst_b hz with h | h <;> split <;> omega
      refine zok_j ?_
      refine zok_g hk ?_
      by_cases ck : 0 ≤ k
      · refine zok_t ck ?_
        refine zok_b (m_sharedAbove (m := zPu m 0 0) (s := m.2 2) rfl hW a0 a1 b0 b1 (x := -1) ⟨by omega, by omega⟩) (fun y hy => lp y ?_)
        rcases zLst_b hy with ⟨e, f⟩ | ⟨e, g, f⟩
        · refine Or.inl ⟨e, Or.inr (Int.le_of_eq ?_)⟩
          exact zBn_g (s := m.2 2) (a := a) (b := b) (p := 0) (q := zWords (m.2 2)) (by omega) (by omega) (fun w w0 _ => f w (by omega))
        · refine Or.inr ⟨⟨by omega, e.2⟩, ck, g, ?_⟩
          exact zBn_g (s := m.2 2) (a := a) (b := b) (p := 0) (q := y) (by omega) (by omega) (fun w w0 w1 => f w (by omega) w1)
      · refine zok_f ck (lp (-1) (Or.inl ⟨rfl, Or.inl (by omega)⟩))
    · unfold zCl fX7_sharedAt fX8_sharedAt
      refine zok_el ca ?_
      refine zok_er cb ?_
      refine zok_g ⟨by omega, by omega⟩ (zok_s ?_)
      refine zok_e ma ?_
      refine zok_j ?_
      refine zok_j ?_
      refine zok_t rfl ?_
      refine zok_e mb ?_
      refine zok_f Bool.false_ne_true ?_
      refine zok_e m_go0 ?_
      refine zok_f Bool.false_ne_true ?_
      exact zok_s ⟨zRR_0 h, zAn_e 0 rfl rfl⟩
  · unfold zCl fX7_sharedAt fX8_sharedAt
    refine zok_er ca ?_
    refine zok_g ⟨by omega, by omega⟩ (zok_s ?_)
    refine zok_e ma ?_
    refine zok_j ?_
    refine zok_j ?_
    refine zok_f Bool.false_ne_true ?_
    refine zok_e m_go0 ?_
    refine zok_f Bool.false_ne_true ?_
    exact zok_s ⟨zRR_0 h, zAn_e 0 rfl rfl⟩
end ZSX
