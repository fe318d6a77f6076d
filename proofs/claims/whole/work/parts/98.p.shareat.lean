section ZSX
variable {σ : CS} {m : CV} {s : Int → Int}
def zSat (s : Int → Int) (a b k r : Int) : Prop := (r = -1 ∧ (k < 0 ∨ zBn s a b (zWords s).toNat ≤ k)) ∨ ((0 ≤ r ∧ r < zWords s) ∧ zBo s a b r = 1 ∧ zBn s a b r.toNat = k)
theorem zBn_m {a b p : Int} (hp : 0 ≤ p) : ∀ (n : Nat), zBn s a b p.toNat ≤ zBn s a b (p + n).toNat := by
  intro n
  induction n with
  | zero => rw [show (p + ((0 : Nat) : Int)) = p by omega]; exact Int.le_refl _
  | succ n ih =>
    rw [show p + ((n + 1 : Nat) : Int) = (p + n) + 1 by omega, zBn_s (by omega)]
    split <;> omega
theorem zBn_lt {a b p q : Int} (hp : 0 ≤ p) (hq : p < q) (h : zBo s a b p = 1) : zBn s a b p.toNat < zBn s a b q.toNat := by
  have e := zBn_s (s := s) (a := a) (b := b) hp
  rw [if_neg (by omega)] at e
  have g := zBn_m (s := s) (a := a) (b := b) (p := p + 1) (by omega) (q - (p + 1)).toNat
  rw [show p + 1 + (((q - (p + 1)).toNat : Nat) : Int) = q by omega] at g
  omega
theorem zSat_u {a b k r q : Int} (h1 : zSat s a b k r) (h2 : zSat s a b k q) : r = q := by
  have nn := fun (n : Nat) => (zBn_r (s := s) (a := a) (b := b) n).1
  rcases h1 with ⟨e1, f1⟩ | ⟨e1, f1, g1⟩
  · rcases h2 with ⟨e2, f2⟩ | ⟨e2, f2, g2⟩
    · omega
    · have l := zBn_lt (s := s) e2.1 e2.2 f2
      have := nn q.toNat
      omega
  · rcases h2 with ⟨e2, f2⟩ | ⟨e2, f2, g2⟩
    · have l := zBn_lt (s := s) e1.1 e1.2 f1
      have := nn r.toNat
      omega
    · by_cases c : r < q
      · have l := zBn_lt (s := s) e1.1 c f1
        omega
      · by_cases d : q < r
        · have l := zBn_lt (s := s) e2.1 d f2
          omega
        · omega
theorem c_markedAt {T t0 : CV} {a b k : Int} (hW : zWf s) (hk : iR k) (h1 : t0.1 1 = zWords s) (h100 : zWords s ≤ t0.1 100 ∧ t0.1 100 ≤ 4096) (ht : ∀ w, 0 ≤ w → w < zWords s → t0.2 1 w = zBo s a b w) : zOk (fX4_markedAt t0 k) (fun r => zSat s a b k r) := by
  unfold fX4_markedAt
  have hw := zWords_r hW
  rw [h1]
  refine zok_F (mk := fun a i => (a, i)) (zWords s) (fun w c => c = zBn s a b w.toNat ∧ (k < 0 ∨ c ≤ k)) rfl (by omega) ⟨rfl, by show k < 0 ∨ 0 ≤ k; omega⟩ (fun w c q0 q1 hI => ?_) (fun w c q0 q1 q2 q3 hI => ?_)
  · dsimp only
    have e := ht w q0 q1
    have hr01 := zBo_r (s := s) (a := a) (b := b) (w := w)
    have hr := zBn_r (s := s) (a := a) (b := b) w.toNat
    rw [e]
    have eS := zBn_s (s := s) (a := a) (b := b) q0
    rw [← hI.1] at eS hr
    refine zok_g ⟨⟨by omega, by omega⟩, ⟨by omega, by omega⟩⟩ ?_
    refine zok_f (by omega) ?_
    refine zok_g ⟨by omega, by omega, by omega⟩ ?_
    refine zok_g ⟨by omega, by omega⟩ ?_
    refine zok_i (fun c1 => zok_sl ⟨_, rfl, by rw [eS, if_pos c1], hI.2⟩) (fun c1 => ?_)
    refine zok_g ⟨⟨by omega, by omega⟩, hk⟩ ?_
    refine zok_i (fun c2 => zok_sr (zok_s (Or.inr ⟨⟨q0, q1⟩, by omega, ?_⟩))) (fun c2 => zok_sl ⟨_, rfl, by rw [eS, if_neg c1], by have := hI.2; omega⟩)
    rw [← hI.1]
    exact c2
  · dsimp only
    (repeat (first | (with_reducible refine zok_g ?_ ?_; focus omega) | with_reducible refine zok_j ?_ | (with_reducible refine zok_t ?_ ?_; focus omega) | (with_reducible refine zok_f ?_ ?_; focus omega)))
    refine zok_sr (zok_s (Or.inl ⟨rfl, ?_⟩))
    rw [← q2 (by omega), ← hI.1]
    exact hI.2
end ZSX
