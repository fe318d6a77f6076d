/-! THE MODEL'S SEARCH: its steps -/
noncomputable def zMst : Int × CV → Option ((Int × CV) ⊕ (Int × CV)) := (fun s1 => zG (iR s1.1) <| if s1.1 ≤ 0 then (some (.inr (s1.1, s1.2))) else ((fX8_bounds (zPu s1.2 33 ((s1.2.1 33) + 1)) s1.1).bind fun t66 => zJn (σ := Int) (ρ := (Int × CV) ⊕ (Int × CV)) (fun x77 => (fX8_truth x77).bind fun t78 => zJn (σ := CV) (ρ := (Int × CV) ⊕ (Int × CV)) (fun x86 => zJn (σ := Unit) (ρ := (Int × CV) ⊕ (Int × CV)) (fun x92 => (zLp (σ := Int) (ρ := (Int)) (fun s93 => zG (iR s93) <| if s93 ≤ 0 then (some (.inr s93)) else (zG (0 ≤ (s93 - 1) ∧ (s93 - 1) < 6) <| zG (iR (x86.2 10 (s93 - 1)) ∧ iR ((x86.2 2 1) - 1)) <| if (x86.2 10 (s93 - 1)) = ((x86.2 2 1) - 1) then (some (.inl (s93 + (-1)))) else (some (.inr s93)))) zFu s1.1).bind (fun y93 => zG (iR y93) <| if y93 ≤ 0 then (some (.inl (y93, x86))) else (zG (0 ≤ (y93 - 1) ∧ (y93 - 1) < 6) <| some (.inl (y93, (zPa x86 10 (y93 - 1) ((x86.2 10 (y93 - 1)) + 1))))))) (fun j92 => zG (iR x77) <| if x77 = 0 then (zG (iR (x86.2 2 2)) <| if (x86.2 2 2) ≤ s1.1 then (j92 ()) else (zG (0 ≤ s1.1 ∧ s1.1 < 6) <| some (.inl (s1.1 + 1, (zPa x86 10 s1.1 0))))) else (j92 ()))) (fun j86 => zG (iR x77) <| if x77 = 0 then (zG (iR (s1.2.2 2 2)) <| if s1.1 = (s1.2.2 2 2) then ((fX8_numberOfSpelt (zPu (zPu s1.2 33 ((s1.2.1 33) + 1)) 34 ((s1.2.1 34) + t78))).bind fun t116 => j86 (zPu (zPu (zPu (zPu s1.2 33 ((s1.2.1 33) + 1)) 34 ((s1.2.1 34) + t78)) 31 t116) 32 t66)) else (j86 (zPu (zPu s1.2 33 ((s1.2.1 33) + 1)) 34 ((s1.2.1 34) + t78)))) else (j86 (zPu (zPu s1.2 33 ((s1.2.1 33) + 1)) 34 ((s1.2.1 34) + t78))))) (fun j77 => zJn (σ := Unit) (ρ := (Int × CV) ⊕ (Int × CV)) (fun x122 => j77 0) (fun j122 => zG (iR (s1.2.1 31)) <| if (s1.2.1 31) = (-1) then (j122 ()) else (zG (iR t66 ∧ iR (s1.2.1 32)) <| if t66 < (s1.2.1 32) then (j122 ()) else (j77 1))))))
theorem m_searches_e {m : CV} : fX8_searches m = (zLp zMst zFu (1, (zPa (zPu (zPu (zPu (zPu m 31 (-1)) 32 0) 33 0) 34 0) 10 0 0))).bind (fun y1 => some y1.2) := rfl
def zRu {σ ρ : Type} (step : σ → Option (σ ⊕ ρ)) (a b : σ) (k : Nat) : Prop := ∀ N, zLp step (N + k) a = zLp step N b
theorem zRu_0 {σ ρ : Type} {step : σ → Option (σ ⊕ ρ)} {a : σ} : zRu step a a 0 := fun _ => rfl
theorem zRu_1 {σ ρ : Type} {step : σ → Option (σ ⊕ ρ)} {a b : σ} (h : step a = some (.inl b)) : zRu step a b 1 := fun N => by
  show zLp step (N + 1) a = _
  show (match step a with | some (.inl t) => zLp step N t | some (.inr y) => some y | none => none) = _
  rw [h]
theorem zRu_t {σ ρ : Type} {step : σ → Option (σ ⊕ ρ)} {a b c : σ} {k l : Nat} (h : zRu step a b k) (h2 : zRu step b c l) : zRu step a c (k + l) := fun N => by
  rw [show N + (k + l) = (N + l) + k by omega, h, h2]
/-- the beginning that comes behind one and all that go on with it -/
def zNx (L : Int) : Nat → Int → Int × Int
  | 0, b => (0, b)
  | k + 1, b => if b % L = L - 1 then zNx L k (b / L) else ((k : Int) + 1, b + 1)
theorem zok_jP {α σ : Type} {Q : α → Prop} {k : σ → Option α} {b : (σ → Option α) → Option α} (P : σ → Prop) (hk : ∀ x, P x → zOk (k x) Q) (h : ∀ K, (∀ x, P x → zOk (K x) Q) → zOk (b K) Q) : zOk (zJn k b) Q := h k hk
section ZMS
variable {s : Int → Int}
def zGo (s : Int → Int) (M : CV) (m b : Int) (q : zQ) (z : Int × CV) : Prop := z.1 = m ∧ zEx [31, 32, 33, 34] [10] M z.2 ∧ (z.2.1 31, z.2.1 32, z.2.1 33, z.2.1 34) = q ∧ ∀ j, 0 ≤ j → j < m → z.2.2 10 j = zDb s m b j
theorem zDb_up (hW : zWf s) {m b j : Int} (hb : 0 ≤ b) (hj : j < m - 1) : zDb s (m - 1) (b / s 1) j = zDb s m b j := by
  have hL := hW.2.1
  unfold zDb
  rw [Int.ediv_ediv_of_nonneg (by omega), show m - 1 - j = (m - 1 - 1 - j) + 1 by omega, zPw_s (by omega), Int.mul_comm (s 1)]
theorem zDb_last {m b : Int} : zDb s m b (m - 1) = b % s 1 := by
  unfold zDb
  rw [show m - 1 - (m - 1) = 0 by omega, zPw_0, Int.ediv_one]
theorem zInc (hW : zWf s) {b : Int} (h : b % s 1 ≠ s 1 - 1) : (b + 1) / s 1 = b / s 1 ∧ (b + 1) % s 1 = b % s 1 + 1 := by
  have hL := hW.2.1
  have e := Int.ediv_mul_add_emod b (s 1)
  have r0 := Int.emod_nonneg b (show s 1 ≠ 0 by omega)
  have r1 := Int.emod_lt_of_pos b (show 0 < s 1 by omega)
  have e2 : b + 1 = (b % s 1 + 1) + (b / s 1) * s 1 := by omega
  constructor
  · rw [e2, Int.add_mul_ediv_right _ _ (by omega), Int.ediv_eq_zero_of_lt (by omega) (by omega)]
    omega
  · rw [e2, Int.add_mul_emod_self_right]
    exact Int.emod_eq_of_lt (by omega) (by omega)
/-- the last of a road goes up -/
theorem zNx_up {L b : Int} {k : Nat} (hL : 2 ≤ L) (hb : 0 ≤ b) : zNx L (k + 1) (b * L + (L - 1)) = zNx L k b := by
  show (if (b * L + (L - 1)) % L = L - 1 then zNx L k ((b * L + (L - 1)) / L) else _) = _
  have e1 : (b * L + (L - 1)) % L = L - 1 := by
    rw [Int.add_comm, Int.add_mul_emod_self_right]
    exact Int.emod_eq_of_lt (by omega) (by omega)
  have e2 : (b * L + (L - 1)) / L = b := by
    rw [Int.add_comm, Int.add_mul_ediv_right _ _ (by omega), Int.ediv_eq_zero_of_lt (by omega) (by omega)]
    omega
  rw [if_pos e1, e2]
theorem zNx_on {L b x : Int} {k : Nat} (hL : 2 ≤ L) (hx : 0 ≤ x) (hx2 : x < L - 1) : zNx L (k + 1) (b * L + x) = ((k : Int) + 1, b * L + x + 1) := by
  show (if (b * L + x) % L = L - 1 then _ else _) = _
  have e1 : (b * L + x) % L = x := by
    rw [Int.add_comm, Int.add_mul_emod_self_right]
    exact Int.emod_eq_of_lt (by omega) (by omega)
  rw [if_neg (by omega)]
/-- the end of a step -/
theorem m_adv (hW : zWf s) {M : CV} (hM : M.2 2 = s) {m b : Int} {q : zQ} {U : CV} (h1 : 1 ≤ m) (h2 : m ≤ s 2) (h3 : 0 ≤ b) (h4 : b < zPw (s 1) m) (hE : zEx [31, 32, 33, 34] [10] M U) (hq : (U.1 31, U.1 32, U.1 33, U.1 34) = q) (hd : ∀ j, 0 ≤ j → j < m → U.2 10 j = zDb s m b j) :
    zOk ((zLp (σ := Int) (ρ := (Int)) (fun s93 => zG (iR s93) <| if s93 ≤ 0 then (some (.inr s93)) else (zG (0 ≤ (s93 - 1) ∧ (s93 - 1) < 6) <| zG (iR (U.2 10 (s93 - 1)) ∧ iR ((U.2 2 1) - 1)) <| if (U.2 10 (s93 - 1)) = ((U.2 2 1) - 1) then (some (.inl (s93 + (-1)))) else (some (.inr s93)))) zFu m).bind (fun y93 => zG (iR y93) <| if y93 ≤ 0 then (some (Sum.inl (y93, U))) else (zG (0 ≤ (y93 - 1) ∧ (y93 - 1) < 6) <| some (.inl (y93, (zPa U 10 (y93 - 1) ((U.2 10 (y93 - 1)) + 1)))))))
      (fun (w : (Int × CV) ⊕ (Int × CV)) => ∃ z', w = .inl z' ∧ zGo s M (zNx (s 1) m.toNat b).1 (zNx (s 1) m.toNat b).2 q z') := by
  have hL := hW.2.1
  have w2 := hW.2.2.1
  have e21 : U.2 2 = s := (hE.2 2 (by decide)).trans hM
  rw [e21]
  refine zok_L (I := fun y => ∃ bb, (0 ≤ y ∧ y ≤ m) ∧ (0 ≤ bb ∧ bb < zPw (s 1) y) ∧ zNx (s 1) m.toNat b = zNx (s 1) y.toNat bb ∧ ∀ j, 0 ≤ j → j < y → U.2 10 j = zDb s y bb j) (μ := fun y => y.toNat) ⟨b, ⟨by omega, by omega⟩, ⟨h3, h4⟩, rfl, hd⟩ (by omega) ?_
  rintro y ⟨bb, hy, hbb, hn, hdd⟩
  by_cases c : y ≤ 0
  · have : y = 0 := by omega
    subst this
    (repeat (first | (with_reducible refine zok_g ?_ ?_; focus omega) | with_reducible refine zok_j ?_ | (with_reducible refine zok_t ?_ ?_; focus omega) | (with_reducible refine zok_f ?_ ?_; focus omega)))
    refine zok_sr ?_
    (repeat (first | (with_reducible refine zok_g ?_ ?_; focus omega) | with_reducible refine zok_j ?_ | (with_reducible refine zok_t ?_ ?_; focus omega) | (with_reducible refine zok_f ?_ ?_; focus omega)))
    refine zok_s ⟨_, rfl, ?_⟩
    rw [hn]
    exact ⟨rfl, hE, hq, fun j j0 j1 => by have : j < 0 := j1; omega⟩
  · have hl := hdd (y - 1) (by omega) (by omega)
    rw [zDb_last] at hl
    have r0 := Int.emod_nonneg bb (show s 1 ≠ 0 by omega)
    have r1 := Int.emod_lt_of_pos bb (show 0 < s 1 by omega)
    obtain ⟨k, hk⟩ : ∃ k : Nat, y.toNat = k + 1 := ⟨y.toNat - 1, by omega⟩
    rw [hk] at hn
    have hn2 : zNx (s 1) (k + 1) bb = if bb % s 1 = s 1 - 1 then zNx (s 1) k (bb / s 1) else ((k : Int) + 1, bb + 1) := rfl
    rw [hn2] at hn
    rw [hl]
    (repeat (first | (with_reducible refine zok_g ?_ ?_; focus omega) | with_reducible refine zok_j ?_ | (with_reducible refine zok_t ?_ ?_; focus omega) | (with_reducible refine zok_f ?_ ?_; focus omega)))
    refine zok_i (fun c2 => zok_sl ⟨⟨bb / s 1, ⟨by omega, by omega⟩, ⟨Int.ediv_nonneg hbb.1 (by omega), ?_⟩, ?_, fun j j0 j1 => ?_⟩, by omega⟩) (fun c2 => ?_)
    · have e : zPw (s 1) y = zPw (s 1) (y + -1) * s 1 := by rw [← zPw_s (by omega), show y + -1 + 1 = y by omega]
      exact Int.ediv_lt_of_lt_mul (by omega) (by omega)
    · rw [if_pos c2] at hn
      rw [hn, show (y + -1).toNat = k by omega]
    · rw [hdd j j0 (by omega)]
      have := zDb_up hW (m := y) (j := j) hbb.1 (by omega)
      rw [show y + -1 = y - 1 by omega]
      exact this.symm
    · refine zok_sr ?_
      rw [if_neg c2] at hn
      obtain ⟨i1, i2⟩ := zInc hW c2
      rw [hl]
      (repeat (first | (with_reducible refine zok_g ?_ ?_; focus omega) | with_reducible refine zok_j ?_ | (with_reducible refine zok_t ?_ ?_; focus omega) | (with_reducible refine zok_f ?_ ?_; focus omega)))
      refine zok_s ⟨_, rfl, ?_⟩
      rw [hn]
      refine ⟨by show y = (k : Int) + 1; omega, zEx_a hE (by decide), hq, fun j j0 j1 => ?_⟩
      have j1' : j < (k : Int) + 1 := j1
      show (zPa U 10 (y - 1) (bb % s 1 + 1)).2 10 j = zDb s ((k : Int) + 1) (bb + 1) j
      rw [zPa_s, show (k : Int) + 1 = y by omega]
      by_cases e : j = y - 1
      · rw [e, zup_s, zDb_last, i2]
      · rw [zup_n e, hdd j j0 (by omega), ← zDb_up hW hbb.1 (by omega), ← zDb_up hW (show 0 ≤ bb + 1 by omega) (by omega), i1]
theorem m_numberOfSpelt (hW : zWf s) {U : CV} (hU : U.2 2 = s) {b : Int} (h0 : 0 ≤ b) (h1 : b < zWords s) (hd : ∀ j, 0 ≤ j → j < s 2 → U.2 10 j = zDb s (s 2) b j) : fX8_numberOfSpelt U = some b := by
  apply zok_q
  unfold fX8_numberOfSpelt
  have w2 := hW.2.2.1
  rw [hU]
  refine zok_F (mk := fun a i => (a, i)) (s 2) (fun i a => a = zNb s (zDb s (s 2) b) i) rfl (by omega) rfl (fun i a hi hi2 hI => ?_) (fun i a hi hi2 hi3 hi4 hI => ?_)
  · dsimp only
    (repeat (first | (with_reducible refine zok_g ?_ ?_; focus omega) | with_reducible refine zok_j ?_ | (with_reducible refine zok_t ?_ ?_; focus omega) | (with_reducible refine zok_f ?_ ?_; focus omega)))
    exact zok_sl ⟨_, rfl, by rw [zNb_s hi, hI, hd i hi hi2, Int.mul_comm]⟩
  · dsimp only
    (repeat (first | (with_reducible refine zok_g ?_ ?_; focus omega) | with_reducible refine zok_j ?_ | (with_reducible refine zok_t ?_ ?_; focus omega) | (with_reducible refine zok_f ?_ ?_; focus omega)))
    refine zok_sr (zok_s ?_)
    rw [hI, hi3 (by omega)]
    exact zNb_w hW h0 h1
theorem m_step (hW : zWf s) {M : CV} (hM : M.2 2 = s) {m b : Int} {q : zQ} {z : Int × CV} (h1 : 1 ≤ m) (h2 : m ≤ s 2) (h3 : 0 ≤ b) (h4 : b < zPw (s 1) m) (hr : zQr q) (hz : zGo s M m b q z) :
    zOk (zMst z) (fun w => ∃ z', w = .inl z' ∧ (if q.1 ≠ -1 ∧ q.2.1 ≤ zFb s m b then zGo s M (zNx (s 1) m.toNat b).1 (zNx (s 1) m.toNat b).2 (q.1, q.2.1, q.2.2.1 + 1, q.2.2.2 + 1) z' else if s 2 ≤ m then zGo s M (zNx (s 1) m.toNat b).1 (zNx (s 1) m.toNat b).2 (b, zFb s m b, q.2.2.1 + 1, q.2.2.2) z' else zGo s M (m + 1) (b * s 1) (q.1, q.2.1, q.2.2.1 + 1, q.2.2.2) z')) := by
  obtain ⟨mm, U⟩ := z
  obtain ⟨e1, hE, hq, hd⟩ := hz
  dsimp only at e1 hE hq hd
  subst e1
  have hL := hW.2.1
  have w2 := hW.2.2.1
  have hU2 : U.2 2 = s := (hE.2 2 (by decide)).trans hM
  have q1 : U.1 31 = q.1 := by rw [← hq]
  have q2 : U.1 32 = q.2.1 := by rw [← hq]
  have q3 : U.1 33 = q.2.2.1 := by rw [← hq]
  have q4 : U.1 34 = q.2.2.2 := by rw [← hq]
  have hr1 := hr.1
  have hr2 := hr.2
  have hF := zFb_r hW (m := mm) (b := b) (by omega) h2
  unfold zMst
  dsimp only
  (repeat (first | (with_reducible refine zok_g ?_ ?_; focus omega) | with_reducible refine zok_j ?_ | (with_reducible refine zok_t ?_ ?_; focus omega) | (with_reducible refine zok_f ?_ ?_; focus omega)))
  have hU3 : (zPu U 33 (U.1 33 + 1)).2 2 = s := hU2
  refine zok_e (m_bounds hU3 hW (by omega) h2 (u := zDb s mm b) (fun j j0 j1 => hd j j0 j1) (fun j j0 j1 => by have := zDb_r hW (m := mm) (b := b) (j := j); omega)) ?_
  have hFe : zBd s (zDb s mm b) mm = zFb s mm b := rfl
  rw [hFe, hU2, q1, q2, q3, q4]
  generalize zFb s mm b = v at hF
  have hUE : zEx [31, 32, 33, 34] [10] M (zPu U 33 (q.2.2.1 + 1)) := zEx_u hE (by decide)
  have hw := zWords_r hW
  have c00 : q.1 = -1 ∨ v < q.2.1 ∨ (q.1 ≠ -1 ∧ q.2.1 ≤ v) := by omega
  refine zok_jP (fun x => (x = 0 ∧ ¬ (q.1 ≠ -1 ∧ q.2.1 ≤ v)) ∨ (x = 1 ∧ (q.1 ≠ -1 ∧ q.2.1 ≤ v))) (fun x hx => ?_) (fun K hK => ?_)
  · rcases hx with ⟨ex, hc⟩ | ⟨ex, hc⟩
    · subst ex
      refine zok_e (m_truth (by decide)) ?_
      rw [if_pos rfl]
      refine zok_jP (fun (x86 : CV) => zEx [31, 32, 33, 34] [10] M x86 ∧ (x86.1 31, x86.1 32, x86.1 33, x86.1 34) = (if s 2 ≤ mm then (b, v, q.2.2.1 + 1, q.2.2.2) else (q.1, q.2.1, q.2.2.1 + 1, q.2.2.2)) ∧ ∀ j, 0 ≤ j → j < mm → x86.2 10 j = zDb s mm b j) (fun x86 hx86 => ?_) (fun K hK => ?_)
      · obtain ⟨hE8, hq8, hd8⟩ := hx86
        refine zok_jP (fun _ => s 2 ≤ mm) (fun x92 hx92 => ?_) (fun K hK => ?_)
        · rw [if_pos hx92] at hq8
          refine zok_w (m_adv hW hM h1 h2 h3 h4 hE8 hq8 hd8) (fun w hw => ?_)
          obtain ⟨z', e, hz'⟩ := hw
          refine ⟨z', e, ?_⟩
          rw [if_neg hc, if_pos hx92]
          exact hz'
        · have e82 : x86.2 2 = s := (hE8.2 2 (by decide)).trans hM
          rw [e82]
          (repeat (first | (with_reducible refine zok_g ?_ ?_; focus omega) | with_reducible refine zok_j ?_ | (with_reducible refine zok_t ?_ ?_; focus omega) | (with_reducible refine zok_f ?_ ?_; focus omega)))
          refine zok_i (fun c => hK () c) (fun c => ?_)
          rw [if_neg c] at hq8
          (repeat (first | (with_reducible refine zok_g ?_ ?_; focus omega) | with_reducible refine zok_j ?_ | (with_reducible refine zok_t ?_ ?_; focus omega) | (with_reducible refine zok_f ?_ ?_; focus omega)))
          refine zok_s ⟨_, rfl, ?_⟩
          rw [if_neg hc, if_neg c]
          refine ⟨rfl, zEx_a hE8 (by decide), hq8, fun j j0 j1 => ?_⟩
          show (zPa x86 10 mm 0).2 10 j = _
          have hon := zDb_on hW (m := mm) (b := b) (x := 0) (j := j) h3 ⟨by omega, by omega⟩ j0 (by have : j < mm + 1 := j1; omega)
          rw [Int.add_zero] at hon
          rw [zPa_s, hon]
          by_cases e : j = mm
          · rw [e, zup_s, if_pos rfl]
          · rw [zup_n e, if_neg e]
            exact hd8 j j0 (by have : j < mm + 1 := j1; omega)
      · (repeat (first | (with_reducible refine zok_g ?_ ?_; focus omega) | with_reducible refine zok_j ?_ | (with_reducible refine zok_t ?_ ?_; focus omega) | (with_reducible refine zok_f ?_ ?_; focus omega)))
        refine zok_i (fun c => ?_) (fun c => hK _ ⟨zEx_u hUE (by decide), ?_, hd⟩)
        · have hpw : zPw (s 1) (s 2) = zWords s := rfl
          rw [c] at h4 hd
          refine zok_e (m_numberOfSpelt hW (show (zPu (zPu U 33 (q.2.2.1 + 1)) 34 (q.2.2.2 + 0)).2 2 = s from hU2) h3 (by omega) hd) ?_
          refine hK _ ⟨zEx_u (zEx_u (zEx_u hUE (by decide)) (by decide)) (by decide), ?_, fun j j0 j1 => by rw [c]; exact hd j j0 (by omega)⟩
          rw [if_pos (by omega)]
          show (b, v, q.2.2.1 + 1, q.2.2.2 + 0) = _
          rw [Int.add_zero]
        · rw [if_neg (by omega)]
          show (U.1 31, U.1 32, q.2.2.1 + 1, q.2.2.2 + 0) = _
          rw [q1, q2, Int.add_zero]
    · subst ex
      refine zok_e (m_truth (by decide)) ?_
      rw [if_neg (by decide)]
      (repeat (first | (with_reducible refine zok_g ?_ ?_; focus omega) | with_reducible refine zok_j ?_ | (with_reducible refine zok_t ?_ ?_; focus omega) | (with_reducible refine zok_f ?_ ?_; focus omega)))
      have hE8 : zEx [31, 32, 33, 34] [10] M (zPu (zPu U 33 (q.2.2.1 + 1)) 34 (q.2.2.2 + 1)) := zEx_u hUE (by decide)
      refine zok_w (m_adv hW hM h1 h2 h3 h4 hE8 (q := (q.1, q.2.1, q.2.2.1 + 1, q.2.2.2 + 1)) ?_ hd) (fun w hw => ?_)
      · show (U.1 31, U.1 32, q.2.2.1 + 1, q.2.2.2 + 1) = _
        rw [q1, q2]
      · obtain ⟨z', e, hz'⟩ := hw
        refine ⟨z', e, ?_⟩
        rw [if_pos hc]
        exact hz'
  · (repeat (first | (with_reducible refine zok_g ?_ ?_; focus omega) | with_reducible refine zok_j ?_ | (with_reducible refine zok_t ?_ ?_; focus omega) | (with_reducible refine zok_f ?_ ?_; focus omega)))
    refine zok_i (fun c => hK 0 (Or.inl ⟨rfl, fun z => z.1 c⟩)) (fun c => ?_)
    (repeat (first | (with_reducible refine zok_g ?_ ?_; focus omega) | with_reducible refine zok_j ?_ | (with_reducible refine zok_t ?_ ?_; focus omega) | (with_reducible refine zok_f ?_ ?_; focus omega)))
    refine zok_i (fun c2 => hK 0 (Or.inl ⟨rfl, fun z => by have := z.2; omega⟩)) (fun c2 => hK 1 (Or.inr ⟨rfl, c, by omega⟩))
/-- a beginning and all that go on with it -/
theorem m_sub (hW : zWf s) {M : CV} (hM : M.2 2 = s) : ∀ (d : Nat) (m b : Int) (q : zQ) (z : Int × CV), 1 ≤ m → m ≤ s 2 → s 2 < m + d → 0 ≤ b → b < zPw (s 1) m → zQr q → zGo s M m b q z → ∃ (k : Nat) (z' : Int × CV), 3 * k + 1 ≤ 4 ^ ((s 2 - m).toNat + 1) ∧ zRu zMst z z' k ∧ zGo s M (zNx (s 1) m.toNat b).1 (zNx (s 1) m.toNat b).2 (zAk (zFb s) (s 2) (s 1) d m b q) z' := by
  have hL := hW.2.1
  intro d
  induction d with
  | zero => intro m b q z _ _ _ _ _ _ _; omega
  | succ d ih =>
    intro m b q z h1 h2 hd h3 h4 hr hz
    obtain ⟨w, ew, z', ez, hz'⟩ := m_step hW hM h1 h2 h3 h4 hr hz
    rw [ez] at ew
    have hrun := zRu_1 ew
    have h4p : 1 ≤ 4 ^ ((s 2 - m).toNat) := Nat.one_le_pow _ _ (by omega)
    rw [zAk_s]
    by_cases c : q.1 ≠ -1 ∧ q.2.1 ≤ zFb s m b
    · rw [if_pos c] at hz' ⊢
      exact ⟨1, z', by rw [Nat.pow_succ]; omega, hrun, hz'⟩
    · rw [if_neg c] at hz' ⊢
      by_cases c2 : s 2 ≤ m
      · rw [if_pos c2] at hz' ⊢
        exact ⟨1, z', by rw [Nat.pow_succ]; omega, hrun, hz'⟩
      · rw [if_neg c2] at hz' ⊢
        have hpl := zPw_s (b := s 1) (k := m) (by omega)
        have h6 := Int.mul_le_mul_of_nonneg_right (show b + 1 ≤ zPw (s 1) m by omega) (show 0 ≤ s 1 by omega)
        rw [Int.add_mul, Int.one_mul] at h6
        have h7 : 0 ≤ b * s 1 := Int.mul_nonneg h3 (by omega)
        have em : (m + 1).toNat = m.toNat + 1 := by omega
        have e2m : (s 2 - m).toNat = (s 2 - (m + 1)).toNat + 1 := by omega
        obtain ⟨P, hP⟩ : ∃ P : Nat, P = 4 ^ ((s 2 - (m + 1)).toNat + 1) := ⟨_, rfl⟩
        have key : ∀ x : Nat, (x : Int) < s 1 → ∃ (k : Nat) (z'' : Int × CV), 3 * k + x ≤ x * P ∧ zRu zMst z' z'' k ∧ zGo s M (m + 1) (b * s 1 + x) (zFd (fun x q => zAk (zFb s) (s 2) (s 1) d (m + 1) (b * s 1 + x) q) x (q.1, q.2.1, q.2.2.1 + 1, q.2.2.2)) z'' ∧ zQr (zFd (fun x q => zAk (zFb s) (s 2) (s 1) d (m + 1) (b * s 1 + x) q) x (q.1, q.2.1, q.2.2.1 + 1, q.2.2.2)) := by
          intro x
          induction x with
          | zero =>
            intro _
            refine ⟨0, z', by omega, zRu_0, ?_, hr⟩
            rw [show b * s 1 + ((0 : Nat) : Int) = b * s 1 by omega]
            exact hz'
          | succ x ihx =>
            intro hx
            obtain ⟨k, z2, hk, hrun2, hgo, hqr⟩ := ihx (by omega)
            obtain ⟨k2, z3, hk2, hrun3, hgo3⟩ := ih (m + 1) (b * s 1 + x) _ z2 (by omega) (by omega) (by omega) (by omega) (by omega) hqr hgo
            refine ⟨k + k2, z3, ?_, zRu_t hrun2 hrun3, ?_, ?_⟩
            · rw [← hP] at hk2
              rw [Nat.add_mul, Nat.one_mul]
              generalize x * P = y at hk
              clear hgo hgo3 hrun2 hrun3 hqr hP
              omega
            · rw [em, zNx_on (by omega) (by omega) (by omega)] at hgo3
              rw [show b * s 1 + ((x + 1 : Nat) : Int) = b * s 1 + x + 1 by omega]
              have e3 : ((m.toNat : Nat) : Int) + 1 = m + 1 := by rw [Int.toNat_of_nonneg (by omega)]
              rw [e3] at hgo3
              exact hgo3
            · exact zAk_r hW d _ _ _ (by omega) (by omega) (by omega) (by omega) hqr
        obtain ⟨x, hx⟩ : ∃ x : Nat, s 1 = (x : Int) + 1 := ⟨(s 1 - 1).toNat, by omega⟩
        obtain ⟨k, z2, hk, hrun2, hgo, hqr⟩ := key x (by omega)
        obtain ⟨k2, z3, hk2, hrun3, hgo3⟩ := ih (m + 1) (b * s 1 + x) _ z2 (by omega) (by omega) (by omega) (by omega) (by omega) hqr hgo
        refine ⟨1 + k + k2, z3, ?_, zRu_t (zRu_t hrun hrun2) hrun3, ?_⟩
        · rw [← hP] at hk2
          have hPe : 4 ^ ((s 2 - m).toNat + 1) = P * 4 := by rw [e2m, hP, ← Nat.pow_succ]
          rw [hPe]
          have hx3 : x ≤ 3 := by omega
          have hP1 : 1 ≤ P := by rw [hP]; exact Nat.one_le_pow _ _ (by omega)
          obtain ⟨p, rfl⟩ : ∃ p, P = p + 1 := ⟨P - 1, by omega⟩
          rw [Nat.mul_add, Nat.mul_one] at hk
          have hy := Nat.mul_le_mul_right p hx3
          generalize x * p = y at hk hy
          clear hgo hgo3 hrun2 hrun3 hqr hP hPe key hrun hz'
          omega
        · rw [em] at hgo3
          have e4 : b * s 1 + (x : Int) = b * s 1 + (s 1 - 1) := by omega
          rw [e4, zNx_up (by omega) h3] at hgo3
          have e5 : (s 1).toNat = x + 1 := by omega
          rw [e5]
          show zGo s M _ _ (zAk (zFb s) (s 2) (s 1) d (m + 1) (b * s 1 + x) _) z3
          rw [e4]
          exact hgo3
theorem m_searches (hW : zWf s) {m : CV} (hM : m.2 2 = s) : zOk (fX8_searches m) (fun t => zEx [31, 32, 33, 34] [10] m t ∧ (t.1 31, t.1 32, t.1 33, t.1 34) = zSr s) := by
  have hL := hW.2.1
  have w2 := hW.2.2.1
  rw [m_searches_e]
  have e1 : zPw (s 1) 1 = s 1 := by
    have := zPw_s (b := s 1) (k := 0) (by omega)
    rw [zPw_0, Int.one_mul] at this
    exact this
  have hstart : zGo s m 1 ((0 : Nat) : Int) (-1, 0, 0, 0) (1, (zPa (zPu (zPu (zPu (zPu m 31 (-1)) 32 0) 33 0) 34 0) 10 0 0)) := by
    refine ⟨rfl, zEx_a (zEx_u (zEx_u (zEx_u (zEx_u zEx_0 (by decide)) (by decide)) (by decide)) (by decide)) (by decide), rfl, fun j j0 j1 => ?_⟩
    have : j = 0 := by omega
    subst this
    show (zPa _ 10 0 0).2 10 0 = _
    rw [zPa_s, zup_s]
    unfold zDb
    rw [show (1 : Int) - 1 - 0 = 0 by omega, zPw_0, Int.ediv_one]
    rfl
  have key : ∀ x : Nat, (x : Int) < s 1 → ∃ (k : Nat) (z'' : Int × CV), k ≤ x * 4096 ∧ zRu zMst (1, (zPa (zPu (zPu (zPu (zPu m 31 (-1)) 32 0) 33 0) 34 0) 10 0 0)) z'' k ∧ zGo s m 1 x (zFd (fun x q => zAk (zFb s) (s 2) (s 1) 6 1 x q) x (-1, 0, 0, 0)) z'' ∧ zQr (zFd (fun x q => zAk (zFb s) (s 2) (s 1) 6 1 x q) x (-1, 0, 0, 0)) := by
    intro x
    induction x with
    | zero =>
      intro _
      refine ⟨0, _, by omega, zRu_0, hstart, ?_⟩
      show zQr (-1, 0, 0, 0)
      exact ⟨⟨by decide, by decide⟩, ⟨by decide, by decide⟩⟩
    | succ x ihx =>
      intro hx
      obtain ⟨k, z2, hk, hrun2, hgo, hqr⟩ := ihx (by omega)
      obtain ⟨k2, z3, hk2, hrun3, hgo3⟩ := m_sub hW hM 6 1 x _ z2 (by omega) (by omega) (by omega) (by omega) (by omega) hqr hgo
      have hp : 4 ^ ((s 2 - 1).toNat + 1) ≤ 4 ^ 6 := Nat.pow_le_pow_right (by omega) (by omega)
      refine ⟨k + k2, z3, by omega, zRu_t hrun2 hrun3, ?_, ?_⟩
      · have h := zNx_on (L := s 1) (b := 0) (x := x) (k := 0) (by omega) (by omega) (by omega)
        rw [Int.zero_mul, Int.zero_add] at h
        have e : zNx (s 1) (1 : Int).toNat x = (1, (x : Int) + 1) := h
        rw [e] at hgo3
        exact hgo3
      · exact zAk_r hW 6 _ _ _ (by omega) (by omega) (by omega) (by omega) hqr
  obtain ⟨x, hx⟩ : ∃ x : Nat, s 1 = (x : Int) + 1 := ⟨(s 1 - 1).toNat, by omega⟩
  obtain ⟨k, z2, hk, hrun2, hgo, hqr⟩ := key x (by omega)
  obtain ⟨k2, z3, hk2, hrun3, hgo3⟩ := m_sub hW hM 6 1 x _ z2 (by omega) (by omega) (by omega) (by omega) (by omega) hqr hgo
  have hp : 4 ^ ((s 2 - 1).toNat + 1) ≤ 4 ^ 6 := Nat.pow_le_pow_right (by omega) (by omega)
  have hrun := zRu_t hrun2 hrun3
  have hxx : x ≤ 3 := by omega
  have hN := hrun (zFu - (k + k2))
  have hle : k + k2 ≤ zFu := by unfold zFu; omega
  rw [Nat.sub_add_cancel hle] at hN
  rw [hN]
  have h := zNx_up (L := s 1) (b := 0) (k := 0) (by omega) (Int.le_refl 0)
  rw [Int.zero_mul, Int.zero_add] at h
  have e : zNx (s 1) (1 : Int).toNat x = (0, 0) := by
    rw [show (x : Int) = s 1 - 1 by omega]
    exact h
  rw [e] at hgo3
  obtain ⟨g1, g2, g3, _⟩ := hgo3
  obtain ⟨n, hn⟩ : ∃ n : Nat, zFu - (k + k2) = n + 1 := ⟨zFu - (k + k2) - 1, by unfold zFu at hle ⊢; omega⟩
  rw [hn]
  have hstep : zMst z3 = some (.inr z3) := by
    apply zok_q
    obtain ⟨zm, zU⟩ := z3
    have hz0 : zm = 0 := g1
    subst hz0
    unfold zMst
    (repeat (first | (with_reducible refine zok_g ?_ ?_; focus omega) | with_reducible refine zok_j ?_ | (with_reducible refine zok_t ?_ ?_; focus omega) | (with_reducible refine zok_f ?_ ?_; focus omega)))
    exact zok_s rfl
  have hend : zLp zMst (n + 1) z3 = some z3 := by
    unfold zLp
    rw [hstep]
  rw [hend]
  refine zok_s ⟨g2, ?_⟩
  have e5 : (s 1).toNat = x + 1 := by omega
  show _ = zFd _ (s 1).toNat _
  rw [e5]
  exact g3
end ZMS
