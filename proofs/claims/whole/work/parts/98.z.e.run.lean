section ZRUN
noncomputable def zRst : (Int × Int × Int × Int × CV) → Option ((Int × Int × Int × Int × CV) ⊕ (Int × Int × Int × Int × CV)) := (fun s1 => zG (iR s1.2.2.2.1) <| if s1.2.2.2.1 = 0 then (some (.inr (s1.1, s1.2.1, s1.2.2.1, s1.2.2.2.1, s1.2.2.2.2))) else (zG (iR s1.2.2.1 ∧ iR (s1.2.2.2.2.1 42)) <| if (s1.2.2.2.2.1 42) ≤ s1.2.2.1 then (some (.inr (s1.1, s1.2.1, s1.2.2.1, s1.2.2.2.1, s1.2.2.2.2))) else (zG (iR s1.1) <| if 40 ≤ s1.1 then (some (.inr (s1.1, s1.2.1, s1.2.2.1, s1.2.2.2.1, s1.2.2.2.2))) else (zG (0 ≤ s1.2.2.1 ∧ s1.2.2.1 < 60) <| zG (iR (s1.2.2.2.2.2 15 s1.2.2.1)) <| if (s1.2.2.2.2.2 15 s1.2.2.1) = 9 then (zG (0 ≤ s1.2.1 ∧ s1.2.1 < 2) <| some (.inl (s1.1, s1.2.1 + 1, s1.2.2.1 + 1, s1.2.2.2.1, (zPa (zPa s1.2.2.2.2 18 s1.2.1 s1.2.2.1) 19 s1.2.1 (s1.2.2.2.2.2 16 s1.2.2.1))))) else (if (s1.2.2.2.2.2 15 s1.2.2.1) = 10 then (zG (0 ≤ (s1.2.1 - 1) ∧ (s1.2.1 - 1) < 2) <| zJn (σ := Int) (ρ := (Int × Int × Int × Int × CV) ⊕ (Int × Int × Int × Int × CV)) (fun x52 => zJn (σ := Int) (ρ := (Int × Int × Int × Int × CV) ⊕ (Int × Int × Int × Int × CV)) (fun x55 => zJn (σ := Int) (ρ := (Int × Int × Int × Int × CV) ⊕ (Int × Int × Int × Int × CV)) (fun x58 => (fX8_truth x58).bind fun t59 => some (.inl (s1.1, s1.2.1 - t59, x55, s1.2.2.2.1, (zPa s1.2.2.2.2 19 (s1.2.1 - 1) ((s1.2.2.2.2.2 19 (s1.2.1 - 1)) - 1))))) (fun j58 => zG (iR x52) <| if x52 = 0 then (j58 1) else (j58 0))) (fun j55 => zG (iR x52) <| if x52 = 0 then (j55 (s1.2.2.1 + 1)) else (j55 ((s1.2.2.2.2.2 18 (s1.2.1 - 1)) + 1)))) (fun j52 => zG (iR ((zup (s1.2.2.2.2.2 19) (s1.2.1 - 1) ((s1.2.2.2.2.2 19 (s1.2.1 - 1)) - 1)) (s1.2.1 - 1))) <| if ((zup (s1.2.2.2.2.2 19) (s1.2.1 - 1) ((s1.2.2.2.2.2 19 (s1.2.1 - 1)) - 1)) (s1.2.1 - 1)) ≤ 0 then (j52 0) else (j52 1))) else ((fX8_does s1.2.2.2.2 (s1.2.2.2.2.2 15 s1.2.2.1) (s1.2.2.2.2.2 16 s1.2.2.1) (s1.2.2.2.2.2 17 s1.2.2.1)).bind fun t45 => (fX8_truth (b2 t45.2)).bind fun t47 => some (.inl (s1.1 + t47, s1.2.1, s1.2.2.1 + 1, b2 t45.2, t45.1))))))))
theorem fRuns_e {m : CV} : fX8_runs m = (zLp zRst zFu (0, 0, 0, 1, m)).bind (fun y1 => some (y1.2.2.2.2, y1.1)) := rfl
/-- class and model in the midst of a script -/
noncomputable def zrU (σ : CS) (m : CV) (σ' : CS) (m' : CV) : Prop := (∀ k, k ≠ 0 → k ≠ 4 → k ≠ 7 → k ≠ 8 → k ≠ 9 → σ' k = σ k) ∧ (∀ k, k ≠ 15 → (σ' 0).1 k = (σ 0).1 k) ∧ (σ' 0).2 = (σ 0).2 ∧ zEx [31, 32, 33, 34, 45] [2, 10, 14, 18, 19] m m' ∧ zB1 (σ' 4) (m'.2 2) (m.2 7) ∧ (m'.2 2 0 = m.2 2 0 ∧ m'.2 2 1 = m.2 2 1 ∧ m'.2 2 2 = m.2 2 2) ∧ zRe (σ' 7) (σ' 8) (m'.2 2) ∧ zNd (σ' 7) (σ' 4) ≤ zNd (σ 7) (σ 4)
theorem zrU_0 {σ : CS} {m : CV} (hB : zB1 (σ 4) (m.2 2) (m.2 7)) (hE : zRe (σ 7) (σ 8) (m.2 2)) : zrU σ m σ m := ⟨fun _ _ _ _ _ _ => rfl, fun _ _ => rfl, rfl, zEx_0, hB, ⟨rfl, rfl, rfl⟩, hE, Nat.le_refl _⟩
theorem zrU_t {σ σ1 σ2 : CS} {m m1 m2 : CV} (h : zrU σ m σ1 m1) (h2 : zrU σ1 m1 σ2 m2) : zrU σ m σ2 m2 := by
  obtain ⟨a1, a2, a3, a4, a5, a6, a7, a8⟩ := h
  obtain ⟨b1, b2', b3, b4, b5, b6, b7, b8⟩ := h2
  refine ⟨fun k c0 c4 c7 c8 c9 => (b1 k c0 c4 c7 c8 c9).trans (a1 k c0 c4 c7 c8 c9), fun k c => (b2' k c).trans (a2 k c), b3.trans a3, zEx_t a4 b4, ?_, ⟨b6.1.trans a6.1, b6.2.1.trans a6.2.1, b6.2.2.trans a6.2.2⟩, b7, Nat.le_trans b8 a8⟩
  rw [a4.2 7 (by decide)] at b5
  exact b5
theorem zrU_m {σ σ1 : CS} {m m1 m2 : CV} (h : zrU σ m σ1 m1) (e : zEx [] [18, 19] m1 m2) : zrU σ m σ1 m2 := by
  obtain ⟨a1, a2, a3, a4, a5, a6, a7, a8⟩ := h
  have e2 := e.2 2 (by decide)
  refine ⟨a1, a2, a3, zEx_t a4 (zEx_w e (by decide) (by decide)), ?_, ?_, ?_, a8⟩
  · rw [e2]; exact a5
  · rw [e2]; exact a6
  · rw [e2]; exact a7
theorem zrU_w {σ σ' : CS} {m m' : CV} (h : zrU σ m σ' m') : zWords (m'.2 2) = zWords (m.2 2) := by
  obtain ⟨a1, a2, a3, a4, a5, a6, a7, a8⟩ := h
  unfold zWords
  rw [a6.2.1, a6.2.2]
def zLive (σ : CS) (m : CV) (inner l : Int) (σ' : CS) (t : Int × Int × Int × Int × CV) : Prop := t.2.1 = inner ∧ t.2.2.1 = l ∧ t.2.2.2.1 = 1 ∧ t.1 = (σ' 0).1 15 ∧ (0 ≤ t.1 ∧ t.1 < 40) ∧ zrU σ m σ' t.2.2.2.2 ∧ ∀ q, 0 ≤ q → q < inner → t.2.2.2.2.2 18 q = m.2 18 q ∧ t.2.2.2.2.2 19 q = m.2 19 q
def zDead (σ : CS) (m : CV) (σ' : CS) (t : Int × Int × Int × Int × CV) : Prop := t.1 = (σ' 0).1 15 ∧ t.1 = 40 ∧ zrU σ m σ' t.2.2.2.2 ∧ t.2.2.2.1 = 1 ∧ (0 ≤ t.2.2.1 ∧ t.2.2.1 ≤ 61)
def zFail (σ : CS) (m : CV) (σ' : CS) (t : Int × Int × Int × Int × CV) : Prop := t.1 = (σ' 0).1 15 ∧ (0 ≤ t.1 ∧ t.1 ≤ 40) ∧ zrU σ m σ' t.2.2.2.2 ∧ t.2.2.2.1 = 0
def zOut (σ : CS) (m : CV) (inner l : Int) (r : CS × Bool) (t : Int × Int × Int × Int × CV) : Prop := (r.2 = true ∧ zLive σ m inner l r.1 t) ∨ zDead σ m r.1 t ∨ (r.2 = false ∧ zFail σ m r.1 t)
def zEb : Nat → Int
  | 0 => 1
  | 1 => 21
  | _ + 2 => 420
/-! the model's steps -/
section
variable {m : CV} {done inner k : Int}
theorem y_rep (hd : 0 ≤ done ∧ done < 40) (hk : 0 ≤ k ∧ k < m.1 42) (h42 : m.1 42 ≤ 60) (hi : 0 ≤ inner ∧ inner < 2) (h : m.2 15 k = 9) : zRst (done, inner, k, 1, m) = some (.inl (done, inner + 1, k + 1, 1, zPa (zPa m 18 inner k) 19 inner (m.2 16 k))) := by
  apply zok_q
  unfold zRst
  dsimp only
  rw [h]
  exact zok_g (by decide) (zok_f (by decide) (zok_g (by omega) (zok_f (by omega) (zok_g (by omega) (zok_f (by omega) (zok_g (by omega) (zok_g (by decide) (zok_t rfl (zok_g hi (zok_s rfl))))))))))
theorem y_lap {c : Int} (hd : 0 ≤ done ∧ done < 40) (hk : 0 ≤ k ∧ k < m.1 42) (h42 : m.1 42 ≤ 60) (hi : 0 ≤ inner ∧ inner < 2) (h : m.2 15 k = 10) (hc : m.2 19 inner = c + 1) (hc0 : 0 ≤ c ∧ c ≤ 20) : zRst (done, inner + 1, k, 1, m) = some (.inl (if 0 < c then (done, inner + 1, m.2 18 inner + 1, 1, zPa m 19 inner c) else (done, inner, k + 1, 1, zPa m 19 inner c))) := by
  apply zok_q
  unfold zRst
  dsimp only
  rw [h]
  have e1 : inner + 1 - 1 = inner := by omega
  rw [e1, zup_s, hc]
  have e2 : c + 1 - 1 = c := by omega
  rw [e2]
  refine zok_g (by decide) (zok_f (by decide) (zok_g (by omega) (zok_f (by omega) (zok_g (by omega) (zok_f (by omega) (zok_g (by omega) (zok_g (by decide) (zok_f (by decide) (zok_t rfl (zok_g hi ?_))))))))))
  by_cases cc : 0 < c
  · rw [if_pos cc]
    refine zok_jP (fun (x : Int) => x = 1) (fun x hx => ?_) (fun K hK => zok_g ⟨by omega, by omega⟩ (zok_f (by omega) (hK _ rfl)))
    rw [hx]
    refine zok_jP (fun (y : Int) => y = m.2 18 inner + 1) (fun y hy => ?_) (fun K hK => zok_g (by decide) (zok_f (by decide) (hK _ rfl)))
    rw [hy]
    refine zok_jP (fun (z : Int) => z = 0) (fun z hz => ?_) (fun K hK => zok_g (by decide) (zok_f (by decide) (hK _ rfl)))
    rw [hz]
    refine zok_e (m_truth (by decide)) (zok_s ?_)
    rw [if_pos rfl, Int.sub_zero]
  · rw [if_neg cc]
    refine zok_jP (fun (x : Int) => x = 0) (fun x hx => ?_) (fun K hK => zok_g ⟨by omega, by omega⟩ (zok_t (by omega) (hK _ rfl)))
    rw [hx]
    refine zok_jP (fun (y : Int) => y = k + 1) (fun y hy => ?_) (fun K hK => zok_g (by decide) (zok_t rfl (hK _ rfl)))
    rw [hy]
    refine zok_jP (fun (z : Int) => z = 1) (fun z hz => ?_) (fun K hK => zok_g (by decide) (zok_t rfl (hK _ rfl)))
    rw [hz]
    refine zok_e (m_truth (by decide)) (zok_s ?_)
    rw [if_neg (by decide), e1]
theorem y_cmd {u : CV × Bool} (hd : 0 ≤ done ∧ done < 40) (hk : 0 ≤ k ∧ k < m.1 42) (h42 : m.1 42 ≤ 60) (h : 0 ≤ m.2 15 k ∧ m.2 15 k ≤ 8) (hu : fX8_does m (m.2 15 k) (m.2 16 k) (m.2 17 k) = some u) : zRst (done, inner, k, 1, m) = some (.inl (done + b2 u.2, inner, k + 1, b2 u.2, u.1)) := by
  apply zok_q
  unfold zRst
  dsimp only
  refine zok_g (by decide) (zok_f (by decide) (zok_g (by omega) (zok_f (by omega) (zok_g (by omega) (zok_f (by omega) (zok_g (by omega) (zok_g (by omega) (zok_f (by omega) (zok_f (by omega) ?_)))))))))
  exact zok_e hu (zok_e m_truth_b (zok_s rfl))
end
theorem zBlk_e {K R N F P O W : Int → Int} {s0 ws : Int} {n D : Nat} {f k l : Int} (h : zBlk K R N F P O W s0 ws n D f f k l) : k = l := by
  cases n with
  | zero => exact h.2
  | succ n =>
    rcases h with ⟨h1, h2⟩ | ⟨h1, h2, h3, h4⟩ | ⟨D', h1, b, kb, h2, h3, h4⟩
    · exact h2
    · omega
    · omega
theorem zEb_p (D : Nat) (h : D ≤ 2) : 1 ≤ zEb D := by
  have c : D = 0 ∨ D = 1 ∨ D = 2 := by omega
  rcases c with c | c | c <;> subst c <;> decide
theorem zEb_s {D : Nat} (h : D + 1 ≤ 2) {L : Int} (hL : 0 ≤ L) : 1 + 20 * (zEb D * L + 1) ≤ zEb (D + 1) * (L + 1) ∧ 0 ≤ zEb D * L := by
  have c : D = 0 ∨ D = 1 := by omega
  rcases c with c | c <;> subst c
  · show 1 + 20 * (1 * L + 1) ≤ 21 * (L + 1) ∧ 0 ≤ 1 * L
    omega
  · show 1 + 20 * (21 * L + 1) ≤ 420 * (L + 1) ∧ 0 ≤ 21 * L
    omega
theorem zCo_u {N : Nat} {σ : CS} {m : CV} {x : CS × Bool} {u : CV × Bool} (h : zCo N σ m x u) (hN : N ≤ zNd (σ 7) (σ 4)) : zrU σ m x.1 u.1 := by
  obtain ⟨a1, a2, a3, a4, a5, a6, a7⟩ := h
  have e0 : x.1 0 = σ 0 := a2 0 (by decide) (by decide) (by decide) (by decide)
  exact ⟨fun k c0 c4 c7 c8 c9 => a2 k c4 c7 c8 c9, fun k _ => by rw [e0], by rw [e0], zEx_w a3 (by decide) (by decide), a4, a5, a6, Nat.le_trans a7 hN⟩
/-- one more is done -/
theorem zrU_d {σ σ1 : CS} {m m1 : CV} {v : Int} (h : zrU σ m σ1 m1) : zrU σ m (zSu σ1 0 (zPu (σ1 0) 15 v)) m1 := by
  obtain ⟨a1, a2, a3, a4, a5, a6, a7, a8⟩ := h
  refine ⟨fun k c0 c4 c7 c8 c9 => by rw [zSu_n c0]; exact a1 k c0 c4 c7 c8 c9, fun k c => by rw [zSu_s, zPu_n c]; exact a2 k c, by rw [zSu_s]; exact a3, a4, by rw [zSu_n (by decide)]; exact a5, a6, by rw [zSu_n (by decide), zSu_n (by decide)]; exact a7, by rw [zSu_n (by decide), zSu_n (by decide)]; exact a8⟩
end ZRUN
