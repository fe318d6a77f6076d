section ZBK
theorem zok_ft {α : Type} {Q : α → Prop} {p : α → Prop} [DecidablePred p] {k : Option α} (h : zOk k (fun r => p r ∧ Q r)) : zOk (zFt p k) Q := by
  obtain ⟨x, e, h1, h2⟩ := h
  unfold zFt
  rw [e]
  exact zok_g h1 (zok_s h2)
theorem zok_fl {α β : Type} {A : α → Prop} {B : β → Prop} {t : α} (h : A t) : Sum.elim A B (.inl t) := h
theorem zok_fr {α β : Type} {A : α → Prop} {B : β → Prop} {t : β} (h : B t) : Sum.elim A B (.inr t) := h
/-- so many steps -/
def zIt {σ ρ : Type} (step : σ → Option (σ ⊕ ρ)) : Nat → σ → σ → Prop
  | 0, s, t => s = t
  | n + 1, s, t => ∃ u, step s = some (.inl u) ∧ zIt step n u t
theorem zIt_t {σ ρ : Type} {step : σ → Option (σ ⊕ ρ)} : ∀ (a b : Nat) (s t u : σ), zIt step a s t → zIt step b t u → zIt step (a + b) s u := by
  intro a
  induction a with
  | zero => intro b s t u h h2; rw [show s = t from h, Nat.zero_add]; exact h2
  | succ a ih =>
    intro b s t u h h2
    obtain ⟨v, e, h⟩ := h
    rw [show a + 1 + b = (a + b) + 1 by omega]
    exact ⟨v, e, ih b v t u h h2⟩
theorem zIt_1 {σ ρ : Type} {step : σ → Option (σ ⊕ ρ)} {s t : σ} (h : step s = some (.inl t)) : zIt step 1 s t := ⟨t, h, rfl⟩
theorem zIt_s {σ ρ : Type} {step : σ → Option (σ ⊕ ρ)} {a : Nat} {s t u : σ} (h : zIt step a s t) (h2 : step t = some (.inl u)) : zIt step (a + 1) s u := zIt_t a 1 s t u h (zIt_1 h2)
theorem zLp_it {σ ρ : Type} {step : σ → Option (σ ⊕ ρ)} : ∀ (a b : Nat) (s t : σ), zIt step a s t → zLp step (a + b) s = zLp step b t := by
  intro a
  induction a with
  | zero => intro b s t h; rw [show s = t from h, Nat.zero_add]
  | succ a ih =>
    intro b s t h
    obtain ⟨v, e, h⟩ := h
    rw [show a + 1 + b = (a + b) + 1 by omega]
    show zLp step ((a + b) + 1) s = _
    rw [← ih b v t h]
    show (match step s with
      | some (.inl t) => zLp step (a + b) t
      | some (.inr y) => some y
      | none => none) = _
    rw [e]
/-- a block of commands: the class's and the model's -/
noncomputable def zBlk (K R N F P O W : Int → Int) (s0 ws : Int) : Nat → Nat → Int → Int → Int → Int → Prop
  | 0, _, i, f, k, l => i = f ∧ k = l
  | n + 1, D, i, f, k, l => (i = f ∧ k = l) ∨ (i < f ∧ zCms K R N P O W s0 ws i k ∧ (0 ≤ F i ∧ F i ≤ i + 1) ∧ zBlk K R N F P O W s0 ws n D (i + 1) f (k + 1) l) ∨ (∃ D', D = D' + 1 ∧ ∃ b kb, i + 1 ≤ b ∧ b ≤ f ∧ (K i = 10 ∧ P k = 9 ∧ N i = O k ∧ (1 ≤ O k ∧ O k ≤ 20)) ∧ ((0 ≤ F i ∧ F i ≤ 30) ∧ zMax (i + 1) (F i) = b) ∧ zBlk K R N F P O W s0 ws n D' (i + 1) b (k + 1) kb ∧ P kb = 10 ∧ zBlk K R N F P O W s0 ws n D b f (kb + 1) l)
section
variable {K R N F P O W : Int → Int} {s0 ws : Int}
theorem zBlk_le : ∀ (n D : Nat) (i f k l : Int), zBlk K R N F P O W s0 ws n D i f k l → i ≤ f ∧ k ≤ l := by
  intro n
  induction n with
  | zero => intro D i f k l h; exact ⟨Int.le_of_eq h.1, Int.le_of_eq h.2⟩
  | succ n ih =>
    intro D i f k l h
    rcases h with ⟨h1, h2⟩ | ⟨h1, h2, h3, h4⟩ | ⟨D', h1, b, kb, h2, h3, h4, h5, h6, h7, h8⟩
    · exact ⟨Int.le_of_eq h1, Int.le_of_eq h2⟩
    · have := ih _ _ _ _ _ h4
      omega
    · have a := ih _ _ _ _ _ h6
      have b := ih _ _ _ _ _ h8
      omega
end
theorem fRC_s {d : Nat} {σ : CS} {a1 a2 a3 : Int} : fX7_runCommands (d + 1) σ a1 a2 a3 = (zG (iR a3) <| if a3 ≤ 2 then ((zLp (σ := Int × Int × CS) (ρ := ((Int × Int × CS) ⊕ (CS × Bool))) (fun s3 => zFt (fun w => Sum.elim (fun (s : Int × Int × CS) => zNd (s.2.2 7) (s.2.2 4)) (Sum.elim (fun (s : Int × Int × CS) => zNd (s.2.2 7) (s.2.2 4)) (fun (r : CS × Bool) => zNd (r.1 7) (r.1 4))) w ≤ (fun (s : Int × Int × CS) => zNd (s.2.2 7) (s.2.2 4)) s3) <| zG (iR s3.2.1) <| if 30 ≤ s3.2.1 then (some (.inr (.inl (s3.1, s3.2.1, s3.2.2)))) else (zG (iR s3.1 ∧ iR a2) <| if a2 ≤ s3.1 then (some (.inr (.inl (s3.1, s3.2.1, s3.2.2)))) else (zG (0 ≤ s3.1 ∧ s3.1 < 30) <| zJn (σ := CS) (ρ := (Int × Int × CS) ⊕ ((Int × Int × CS) ⊕ (CS × Bool))) (fun x127 => zFt (fun r => (Sum.elim (fun (s : Int × Int × CS) => zNd (s.2.2 7) (s.2.2 4)) (Sum.elim (fun (s : Int × Int × CS) => zNd (s.2.2 7) (s.2.2 4)) (fun (r : CS × Bool) => zNd (r.1 7) (r.1 4)))) r ≤ zNd (x127 7) (x127 4)) <| (fX2_behind (x127 3) s3.1).bind fun t129 => some (.inl (t129, s3.2.1 + 1, x127))) (fun j127 => zG (iR (((s3.2.2 3).2 1) s3.1)) <| if (((s3.2.2 3).2 1) s3.1) = 10 then ((zLp (σ := Int × CS) (ρ := ((Int × CS) ⊕ ((Int × Int × CS) ⊕ ((Int × Int × CS) ⊕ (CS × Bool))))) (fun s142 => zFt (fun w => Sum.elim (fun (s : Int × CS) => zNd (s.2 7) (s.2 4)) (Sum.elim (fun (s : Int × CS) => zNd (s.2 7) (s.2 4)) (Sum.elim (fun (s : Int × Int × CS) => zNd (s.2.2 7) (s.2.2 4)) (Sum.elim (fun (s : Int × Int × CS) => zNd (s.2.2 7) (s.2.2 4)) (fun (r : CS × Bool) => zNd (r.1 7) (r.1 4))))) w ≤ (fun (s : Int × CS) => zNd (s.2 7) (s.2 4)) s142) <| zG (iR s142.1 ∧ iR (((s142.2 3).2 3) s3.1)) <| if (((s142.2 3).2 3) s3.1) ≤ s142.1 then (some (.inr (.inl (s142.1, s142.2)))) else ((fX2_behind (s142.2 3) s3.1).bind fun t158 => (fX7_runCommands d s142.2 (s3.1 + 1) t158 (a3 + 1)).bind fun t160 => zFt (fun r => (Sum.elim (fun (s : Int × CS) => zNd (s.2 7) (s.2 4)) (Sum.elim (fun (s : Int × CS) => zNd (s.2 7) (s.2 4)) (Sum.elim (fun (s : Int × Int × CS) => zNd (s.2.2 7) (s.2.2 4)) (Sum.elim (fun (s : Int × Int × CS) => zNd (s.2.2 7) (s.2.2 4)) (fun (r : CS × Bool) => zNd (r.1 7) (r.1 4)))))) r ≤ zNd (t160.1 7) (t160.1 4)) <| zG (zNd (s142.2 7) (s142.2 4) - zNd (t160.1 7) (t160.1 4) + zNd (t160.1 7) (t160.1 4) ≤ zNd (s142.2 7) (s142.2 4) ∧ zNd (s142.2 7) (s142.2 4) ≤ zNd (σ 7) (σ 4)) <| if t160.2 = true then (some (.inl (s142.1 + 1, t160.1))) else (some (.inr (.inr (.inr (.inr (t160.1, false)))))))) zFu (0, s3.2.2)).bind (Sum.elim (fun y142 => zFt (fun r => (Sum.elim (fun (s : Int × Int × CS) => zNd (s.2.2 7) (s.2.2 4)) (Sum.elim (fun (s : Int × Int × CS) => zNd (s.2.2 7) (s.2.2 4)) (fun (r : CS × Bool) => zNd (r.1 7) (r.1 4)))) r ≤ (fun (s : Int × CS) => zNd (s.2 7) (s.2 4)) y142) <| j127 y142.2) (fun r => some r))) else (zG (iR ((s3.2.2 0).1 15)) <| if ((s3.2.2 0).1 15) = 40 then (some (.inr (.inr (s3.2.2, false)))) else ((fX7_runCommand s3.2.2 s3.1).bind fun t135 => zFt (fun r => (Sum.elim (fun (s : Int × Int × CS) => zNd (s.2.2 7) (s.2.2 4)) (Sum.elim (fun (s : Int × Int × CS) => zNd (s.2.2 7) (s.2.2 4)) (fun (r : CS × Bool) => zNd (r.1 7) (r.1 4)))) r ≤ zNd (t135.1 7) (t135.1 4)) <| zG (zNk (s3.2.2 3) s3.1 (s3.2.2 7) (s3.2.2 4) + zNd (t135.1 7) (t135.1 4) ≤ zNd (s3.2.2 7) (s3.2.2 4) ∧ zNd (s3.2.2 7) (s3.2.2 4) ≤ zNd (σ 7) (σ 4)) <| if t135.2 = true then (j127 (zSu t135.1 0 (zPu (t135.1 0) 15 (((t135.1 0).1 15) + 1)))) else (some (.inr (.inr (t135.1, false)))))))))) zFu (a1, 0, σ)).bind (Sum.elim (fun y3 => zFt (fun r => (fun (r : CS × Bool) => zNd (r.1 7) (r.1 4)) r ≤ (fun (s : Int × Int × CS) => zNd (s.2.2 7) (s.2.2 4)) y3) <| some (y3.2.2, true)) (fun r => some r))) else (some (σ, false))) := rfl
theorem x_behind {S : CV} {i : Int} (h0 : 0 ≤ i ∧ i < 30) (hF : 0 ≤ S.2 4 i ∧ S.2 4 i ≤ 30) : fX2_behind S i = some (zMax (i + 1) (S.2 4 i)) := by
  apply zok_q
  unfold fX2_behind
  exact zok_g h0 (zok_g ⟨⟨by omega, by omega⟩, ⟨by omega, by omega⟩⟩ (zok_s rfl))
/-- forty are done: nothing more is -/
theorem z_blk40 {P O W : Int → Int} {s0 ws : Int} : ∀ (d D : Nat), D + 1 ≤ d → D ≤ 2 → ∀ (n : Nat) (i f k l : Int) (σ : CS), zBlk ((σ 3).2 1) ((σ 3).2 2) ((σ 3).2 3) ((σ 3).2 4) P O W s0 ws n D i f k l → 0 ≤ i → f ≤ 30 → (σ 0).1 15 = 40 → zOk (fX7_runCommands d σ i f (2 - (D : Int))) (fun r => r.1 = σ) := by
  intro d
  induction d with
  | zero => intro D hD; exact absurd hD (Nat.not_succ_le_zero _)
  | succ d ih =>
    intro D hD hD2 n i f k l σ hb hi hf h40
    have hle := zBlk_le _ _ _ _ _ _ hb
    rw [fRC_s]
    refine zok_g ⟨by omega, by omega⟩ (zok_t (by omega) ?_)
    refine zok_L (I := fun (s : Int × Int × CS) => s.2.2 = σ ∧ 0 ≤ s.1 ∧ s.1 ≤ f ∧ (0 ≤ s.2.1 ∧ s.2.1 ≤ s.1) ∧ ∃ n k', zBlk ((σ 3).2 1) ((σ 3).2 2) ((σ 3).2 3) ((σ 3).2 4) P O W s0 ws n D s.1 f k' l) (μ := fun s => (f - s.1).toNat) ⟨rfl, hi, hle.1, ⟨Int.le_refl 0, hi⟩, n, k, hb⟩ (by show (f - i).toNat < 100000; omega) (fun s hI => ?_)
    obtain ⟨q, st, σ'⟩ := s
    obtain ⟨e, h0, h1, ⟨t0, t1⟩, n', k', hb'⟩ := hI
    dsimp only at e h0 h1 t0 t1 hb' ⊢
    rw [e]
    refine zok_ft ?_
    refine zok_g ⟨by omega, by omega⟩ ?_
    by_cases c : f ≤ q
    · exact zok_i (fun _ => zok_s ⟨Nat.le_refl _, zok_fr (zok_ft (zok_s ⟨Nat.le_refl _, rfl⟩))⟩) (fun _ => zok_g ⟨⟨by omega, by omega⟩, ⟨by omega, by omega⟩⟩ (zok_t c (zok_s ⟨Nat.le_refl _, zok_fr (zok_ft (zok_s ⟨Nat.le_refl _, rfl⟩))⟩)))
    refine zok_f (by omega) (zok_g ⟨⟨by omega, by omega⟩, ⟨by omega, by omega⟩⟩ (zok_f c (zok_g ⟨h0, by omega⟩ ?_)))
    have nxt : ∃ b, fX2_behind (σ 3) q = some b ∧ q + 1 ≤ b ∧ b ≤ f ∧ ∃ n k', zBlk ((σ 3).2 1) ((σ 3).2 2) ((σ 3).2 3) ((σ 3).2 4) P O W s0 ws n D b f k' l := by
      cases n' with
      | zero => exact absurd hb'.1 (by omega)
      | succ n' =>
        rcases hb' with ⟨g1, g2⟩ | ⟨g1, g2, g3, g4⟩ | ⟨D', g1, b, kb, g2, g3, g4, g5, g6, g7, g8⟩
        · omega
        · refine ⟨q + 1, ?_, Int.le_refl _, by omega, n', _, g4⟩
          rw [x_behind ⟨h0, by omega⟩ ⟨g3.1, by omega⟩]
          unfold zMax
          rw [if_neg (by omega)]
        · refine ⟨b, ?_, g2, g3, n', _, g8⟩
          rw [x_behind ⟨h0, by omega⟩ g5.1, g5.2]
    obtain ⟨b, eb, b1, b2', nb, kb, hbb⟩ := nxt
    refine zok_jP (fun (x : CS) => x = σ) (fun x hx => ?_) (fun Kk hK => ?_)
    · rw [hx]
      exact zok_ft (zok_e eb (zok_s ⟨Nat.le_refl _, Nat.le_refl _, zok_fl ⟨⟨rfl, by show 0 ≤ b; omega, b2', ⟨by show 0 ≤ st + 1; omega, by show st + 1 ≤ b; omega⟩, nb, kb, hbb⟩, by show (f - b).toNat < (f - q).toNat; omega⟩⟩))
    · cases n' with
      | zero => exact absurd hb'.1 (by omega)
      | succ n' =>
        rcases hb' with ⟨g1, g2⟩ | ⟨g1, g2, g3, g4⟩ | ⟨D', g1, b', kb', g2, g3, g4, g5, g6, g7, g8⟩
        · omega
        · have hk : 1 ≤ (σ 3).2 1 q ∧ (σ 3).2 1 q ≤ 9 := by
            rcases g2 with g | g | g | g | g | g | g | g | g <;> omega
          refine zok_g ⟨by omega, by omega⟩ (zok_f (by omega) ?_)
          rw [h40]
          exact zok_g (by decide) (zok_t rfl (zok_s ⟨Nat.le_refl _, zok_fr (zok_s rfl)⟩))
        · have ebb : b' = b := by
            have := (x_behind (S := σ 3) ⟨h0, by omega⟩ g5.1).symm.trans eb
            have := Option.some.inj this
            rw [← this, g5.2]
          rw [ebb] at g6
          refine zok_g (by have := g4.1; omega) (zok_t g4.1 ?_)
          refine zok_L (I := fun (s : Int × CS) => s.2 = σ ∧ 0 ≤ s.1 ∧ s.1 ≤ 20) (μ := fun s => (20 - s.1).toNat) ⟨rfl, by show (0 : Int) ≤ 0; omega, by show (0 : Int) ≤ 20; omega⟩ (by show (20 - (0 : Int)).toNat < 100000; omega) (fun s hI => ?_)
          obtain ⟨kk, σ''⟩ := s
          obtain ⟨e2, k0, k1⟩ := hI
          dsimp only at e2 k0 k1 ⊢
          rw [e2]
          have hN := g4.2.2
          refine zok_ft ?_
          refine zok_g ⟨⟨by omega, by omega⟩, ⟨by omega, by omega⟩⟩ ?_
          by_cases c2 : (σ 3).2 3 q ≤ kk
          · exact zok_t c2 (zok_s ⟨Nat.le_refl _, zok_fr (zok_ft (zok_w (hK _ rfl) (fun r hr => ⟨hr.1, hr⟩)))⟩)
          · refine zok_f c2 (zok_e eb ?_)
            have e3 : 2 - (D : Int) + 1 = 2 - (D' : Int) := by omega
            rw [e3]
            refine zok_b (ih D' (by omega) (by omega) n' (q + 1) b (k' + 1) kb' σ g6 (by omega) (by omega) h40) (fun r hr => ?_)
            rw [hr]
            refine zok_ft (zok_g ⟨by omega, Nat.le_refl _⟩ ?_)
            refine zok_i (fun _ => zok_s ⟨Nat.le_refl _, Nat.le_refl _, zok_fl ⟨⟨rfl, by show 0 ≤ kk + 1; omega, by show kk + 1 ≤ 20; omega⟩, by show (20 - (kk + 1)).toNat < (20 - kk).toNat; omega⟩⟩) (fun _ => zok_s ⟨Nat.le_refl _, Nat.le_refl _, zok_fr (zok_s ⟨Nat.le_refl _, zok_fr (zok_s rfl)⟩)⟩)
end ZBK
