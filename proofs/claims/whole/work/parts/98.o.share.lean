section ZSW
variable {σ : CS} {m : CV} {s : Int → Int}
/-- how many of the words below n both rows have -/
noncomputable def zBn (s : Int → Int) (a b : Int) (n : Nat) : Int := zFd (fun w c => if zBo s a b w = 0 then c else c + 1) n 0
theorem zBn_s {a b w : Int} (h : 0 ≤ w) : zBn s a b (w + 1).toNat = if zBo s a b w = 0 then zBn s a b w.toNat else zBn s a b w.toNat + 1 := zFd_s h
theorem zBo_r {a b w : Int} : zBo s a b w = 0 ∨ zBo s a b w = 1 := by
  unfold zBo
  split
  · exact Or.inr rfl
  · exact Or.inl rfl
theorem zBo_1 {a b w : Int} : zBo s a b w = 1 ↔ zIa s a w = 1 ∧ zIa s b w = 1 := by
  unfold zBo
  split
  · rename_i h; exact ⟨fun _ => h, fun _ => rfl⟩
  · rename_i h; exact ⟨fun z => absurd z (by decide), fun z => absurd z h⟩
theorem zBn_gap {a b p : Int} (hp : 0 ≤ p) : ∀ (n : Nat), (∀ w, p ≤ w → w < p + n → zBo s a b w ≠ 1) → zBn s a b (p + n).toNat = zBn s a b p.toNat := by
  intro n
  induction n with
  | zero => intro _; rw [show (p + ((0 : Nat) : Int)) = p by omega]
  | succ n ih =>
    intro h
    rw [show p + ((n + 1 : Nat) : Int) = (p + n) + 1 by omega, zBn_s (by omega)]
    have h2 := h (p + n) (by omega) (by omega)
    rcases zBo_r (s := s) (a := a) (b := b) (w := p + n) with e | e
    · rw [if_pos e]
      exact ih (fun w w0 w1 => h w w0 (by omega))
    · exact absurd e h2
theorem zBn_g {a b p q : Int} (hp : 0 ≤ p) (hq : p ≤ q) (h : ∀ w, p ≤ w → w < q → zBo s a b w ≠ 1) : zBn s a b q.toNat = zBn s a b p.toNat := by
  have g := zBn_gap (s := s) (a := a) (b := b) hp (q - p).toNat (fun w w0 w1 => h w w0 (by omega))
  rw [show p + (((q - p).toNat : Nat) : Int) = q by omega] at g
  exact g
/-- y is the least word above x that both rows have, or -1 -/
theorem zLst_b {a b x y : Int} (h : zLst s a b x (zf s a 0).toNat y) : (y = -1 ∧ ∀ w, x < w → zBo s a b w ≠ 1) ∨ ((x < y ∧ y < zWords s) ∧ zBo s a b y = 1 ∧ ∀ w, x < w → w < y → zBo s a b w ≠ 1) := by
  rcases h with ⟨e, f⟩ | ⟨e, g, f⟩
  · exact Or.inl ⟨e, fun w hw z => f w hw (zBo_1.mp z)⟩
  · exact Or.inr ⟨e, zBo_1.mpr g, fun w hw hw2 z => f w hw hw2 (zBo_1.mp z)⟩
theorem zBn_r {a b : Int} (n : Nat) : 0 ≤ zBn s a b n ∧ zBn s a b n ≤ n :=
  zFd_I (f := fun w c => if zBo s a b w = 0 then c else c + 1) (fun i c => 0 ≤ c ∧ c ≤ i) ⟨Int.le_refl 0, Int.le_refl 0⟩ n (fun i c _ _ hc => by
    show 0 ≤ (if zBo s a b i = 0 then c else c + 1) ∧ (if zBo s a b i = 0 then c else c + 1) ≤ i + 1
    split <;> omega)
theorem m_sharedN {a b : Int} (hs : m.2 2 = s) (hW : zWf s) (a0 : 0 ≤ a) (a1 : a < s 0) (b0 : 0 ≤ b) (b1 : b < s 0) {α : Type} {k : Int × Int → Option α} {Q : α → Prop} {y0 : Int} (hy0 : zLst s a b (-1) (zf s a 0).toNat y0) (hk : zOk (k (zBn s a b (zWords s).toNat, -1)) Q) :
    zOk ((zLp (σ := Int × Int) (ρ := (Int × Int)) (fun s18 => zG (iR s18.2) <| if s18.2 = (-1) then (some (.inr (s18.1, s18.2))) else ((fX8_sharedAbove m a b s18.2).bind fun t25 => some (.inl (s18.1 + 1, t25)))) zFu (0, y0)).bind k) Q := by
  have hw := zWords_r hW
  refine zok_L (I := fun (p : Int × Int) => (p.2 = -1 ∧ p.1 = zBn s a b (zWords s).toNat) ∨ ((0 ≤ p.2 ∧ p.2 < zWords s) ∧ zBo s a b p.2 = 1 ∧ p.1 = zBn s a b p.2.toNat)) (μ := fun p => if p.2 = -1 then 0 else (5000 - p.2).toNat) ?_ (by show (if y0 = -1 then 0 else (5000 - y0).toNat) < 100000; rcases zLst_b hy0 with h | h <;> split <;> omega) ?_
  · rcases zLst_b hy0 with ⟨e, f⟩ | ⟨e, g, f⟩
    · refine Or.inl ⟨e, ?_⟩
      exact (zBn_g (s := s) (a := a) (b := b) (p := 0) (q := zWords s) (by omega) (by omega) (fun w w0 _ => f w (by omega))).symm
    · refine Or.inr ⟨⟨by show 0 ≤ y0; omega, e.2⟩, g, ?_⟩
      exact (zBn_g (s := s) (a := a) (b := b) (p := 0) (q := y0) (by omega) (by omega) (fun w w0 w1 => f w (by omega) w1)).symm
  · rintro ⟨c, y⟩ hI
    dsimp only at hI ⊢
    rcases hI with ⟨e, hc⟩ | ⟨e, g, hc⟩
    · subst e
      refine zok_g (by decide) ?_
      refine zok_t rfl (zok_sr ?_)
      rw [hc]
      exact hk
    · refine zok_g ⟨by omega, by omega⟩ ?_
      refine zok_f (by omega) ?_
      refine zok_b (m_sharedAbove hs hW a0 a1 b0 b1 (x := y) ⟨by omega, by omega⟩) (fun z hz => ?_)
      have e1 := zBn_s (s := s) (a := a) (b := b) e.1
      rw [if_neg (by omega), ← hc] at e1
      refine zok_sl ⟨?_, ?_⟩
      · rcases zLst_b hz with ⟨e2, f⟩ | ⟨e2, g2, f⟩
        · refine Or.inl ⟨e2, ?_⟩
          show c + 1 = _
          rw [← e1]
          exact (zBn_g (s := s) (a := a) (b := b) (p := y + 1) (q := zWords s) (by omega) (by omega) (fun w w0 _ => f w (by omega))).symm
        · refine Or.inr ⟨⟨by show 0 ≤ z; omega, e2.2⟩, g2, ?_⟩
          show c + 1 = zBn s a b z.toNat
          rw [← e1]
          exact (zBn_g (s := s) (a := a) (b := b) (p := y + 1) (q := z) (by omega) (by omega) (fun w w0 w1 => f w (by omega) w1)).symm
      · show (if z = -1 then 0 else (5000 - z).toNat) < (if y = -1 then 0 else (5000 - y).toNat)
        rw [if_neg (show ¬ y = -1 by omega)]
        rcases zLst_b hz with h | h <;> split <;> omega
theorem s_shared (h : zRR σ m) {a b : Int} (ha : iR a) (hb : iR b) : zCl [zIO] (fX7_shared σ a b) (fX8_shared m a b) := by
  have hW := h.W
  have hw := zWords_r hW
  have hT := zRR_t100 h
  refine zRow_c h ha (fun a0 a1 ca ma => ?_) (fun ca ma => ?_)
  · refine zRow_c h hb (fun b0 b1 cb mb => ?_) (fun cb mb => ?_)
    · unfold zCl fX7_shared fX8_shared
      refine zok_el ca ?_
      refine zok_el cb ?_
      refine zok_g ⟨by omega, by omega⟩ ?_
      refine zok_b (c_markShared hW h.B hT a0 a1 b0 b1) (fun t0 ht0 => ?_)
      have h100 := zTy_100 hW hT ht0.1
      have hr := zBn_r (s := m.2 2) (a := a) (b := b) (zWords (m.2 2)).toNat
      refine zok_b (P := fun x => x = zBn (m.2 2) a b (zWords (m.2 2)).toNat) ?_ (fun x hx => zok_s ?_)
      · unfold fX4_marked
        rw [ht0.1.1]
        refine zok_F (mk := fun a i => (a, i)) (zWords (m.2 2)) (fun w c => c = zBn (m.2 2) a b w.toNat) rfl (by omega) rfl (fun w c q0 q1 hI => ?_) (fun w c q0 q1 q2 q3 hI => ?_)
        · dsimp only
          have e := ht0.2 w q0 q1
          have hr01 := zBo_r (s := m.2 2) (a := a) (b := b) (w := w)
          rw [e]
          have eS := zBn_s (s := m.2 2) (a := a) (b := b) q0
          rw [← hI] at eS
          refine zok_g ⟨⟨by omega, by omega⟩, ⟨by omega, by omega⟩⟩ ?_
          refine zok_f (by omega) ?_
          refine zok_g ⟨by omega, by omega, by omega⟩ ?_
          refine zok_g ⟨by omega, by omega⟩ ?_
          exact zok_i (fun c => zok_sl ⟨_, rfl, by rw [eS, if_pos c]⟩) (fun c => zok_sl ⟨_, rfl, by rw [eS, if_neg c]⟩)
        · dsimp only
          (repeat (first | (with_reducible refine zok_g ?_ ?_; focus omega) | with_reducible refine zok_j ?_ | (with_reducible refine zok_t ?_ ?_; focus omega) | (with_reducible refine zok_f ?_ ?_; focus omega)))
          refine zok_sr (zok_s ?_)
          rw [hI, q2 (by omega)]
      · refine zok_e ma ?_
        refine zok_j ?_
        refine zok_j ?_
        refine zok_t rfl ?_
        refine zok_e mb ?_
        refine zok_t rfl ?_
        refine zok_e m_go1 ?_
        refine zok_t rfl ?_
        refine zok_b (m_sharedAbove (m := zPu m 0 0) (s := m.2 2) rfl hW a0 a1 b0 b1 (x := -1) ⟨by omega, by omega⟩) (fun y hy => ?_)
        refine m_sharedN (m := zPu m 0 0) (s := m.2 2) rfl hW a0 a1 b0 b1 hy (zok_s ⟨zRR_10 (zRR_0 h) (by omega), zAn_v rfl hx ⟨by omega, by omega⟩⟩)
    · unfold zCl fX7_shared fX8_shared
      refine zok_el ca ?_
      refine zok_er cb ?_
      refine zok_g ⟨by omega, by omega⟩ (zok_s ?_)
      refine zok_e ma ?_
      refine zok_j ?_
      refine zok_j ?_
      refine zok_t rfl ?_
      refine zok_e mb ?_
      refine zok_f Bool.false_ne_true ?_
      refine zok_e m_go0 ?_
      refine zok_f Bool.false_ne_true ?_
      exact zok_s ⟨zRR_0 h, zAn_e 0 rfl rfl⟩
  · unfold zCl fX7_shared fX8_shared
    refine zok_er ca ?_
    refine zok_g ⟨by omega, by omega⟩ (zok_s ?_)
    refine zok_e ma ?_
    refine zok_j ?_
    refine zok_j ?_
    refine zok_f Bool.false_ne_true ?_
    refine zok_e m_go0 ?_
    refine zok_f Bool.false_ne_true ?_
    exact zok_s ⟨zRR_0 h, zAn_e 0 rfl rfl⟩
end ZSW
