section ZSI
theorem zok_jP2 {α σ : Type} {Q : α → Prop} {k : σ → Option α} {b : (σ → Option α) → Option α} (P : σ → Prop) (p : σ → α → Prop) (hk : ∀ x, P x → zOk (k x) (fun r => p x r ∧ Q r)) (h : ∀ K, (∀ x, P x → zOk (K x) (fun r => p x r ∧ Q r)) → zOk (b K) Q) : zOk (zJn k b) Q := h k hk
noncomputable def zP3 : (Int × Int × CS) ⊕ ((Int × Int × CS) ⊕ (CS × Bool)) → Nat := Sum.elim (fun (s : Int × Int × CS) => zNd (s.2.2 7) (s.2.2 4)) (Sum.elim (fun (s : Int × Int × CS) => zNd (s.2.2 7) (s.2.2 4)) (fun (r : CS × Bool) => zNd (r.1 7) (r.1 4)))
theorem zOut_u {σ : CS} {m : CV} {inner l : Int} {r : CS × Bool} {t : Int × Int × Int × Int × CV} (h : zOut σ m inner l r t) : zrU σ m r.1 t.2.2.2.2 ∧ t.1 = (r.1 0).1 15 := by
  rcases h with ⟨_, h⟩ | h | ⟨_, h⟩
  · exact ⟨h.2.2.2.2.2.1, h.2.2.2.1⟩
  · exact ⟨h.2.2.1, h.1⟩
  · exact ⟨h.2.2.1, h.1⟩
set_option maxHeartbeats 4000000 in
theorem z_blk : ∀ (d D : Nat), D + 1 ≤ d → D ≤ 2 → ∀ (n : Nat) (i f k l done : Int) (σ : CS) (m : CV), zBlk ((σ 3).2 1) ((σ 3).2 2) ((σ 3).2 3) ((σ 3).2 4) (m.2 15) (m.2 16) (m.2 17) (m.2 2 0) (zWords (m.2 2)) n D i f k l → 0 ≤ i → f ≤ 30 → 0 ≤ k → l ≤ m.1 42 → m.1 42 ≤ 60 → zB1 (σ 4) (m.2 2) (m.2 7) → zRe (σ 7) (σ 8) (m.2 2) → done = (σ 0).1 15 → (0 ≤ done ∧ done < 40) →
    zOk (fX7_runCommands d σ i f (2 - (D : Int))) (fun r => ∃ (j : Nat) (t : Int × Int × Int × Int × CV), (j : Int) ≤ zEb D * (f - i) ∧ zIt zRst j (done, 2 - (D : Int), k, 1, m) t ∧ zOut σ m (2 - (D : Int)) l r t) := by
  intro d
  induction d with
  | zero => intro D hD; exact absurd hD (Nat.not_succ_le_zero _)
  | succ d ih =>
    intro D hD hD2 n i f k l done σ m hb hi hf hk hl h42 hB hE hdn hd40
    have hle := zBlk_le _ _ _ _ _ _ hb
    have hE1 := zEb_p D hD2
    obtain ⟨inner, hin⟩ : ∃ x, x = 2 - (D : Int) := ⟨_, rfl⟩
    have hin2 : 0 ≤ inner ∧ inner ≤ 2 := by omega
    rw [← hin]
    obtain ⟨S0, hS0⟩ : ∃ s, s = (done, inner, k, (1 : Int), m) := ⟨_, rfl⟩
    rw [← hS0, fRC_s]
    refine zok_g ⟨by omega, by omega⟩ (zok_t (by omega) ?_)
    have hmul : ∀ q b : Int, zEb D * (b - i) = zEb D * (q - i) + zEb D * (b - q) := fun q b => by rw [← Int.mul_add, show q - i + (b - q) = b - i by omega]
    have hpos : ∀ q b : Int, q ≤ b → zEb D * (q - i) ≤ zEb D * (b - i) := fun q b h => Int.mul_le_mul_of_nonneg_left (by omega) (by omega)
    refine zok_L (I := fun (s : Int × Int × CS) => (i ≤ s.1 ∧ s.1 ≤ f ∧ 0 ≤ s.2.1 ∧ s.2.1 ≤ s.1) ∧ ∃ (n' : Nat) (k' : Int) (j : Nat) (t : Int × Int × Int × Int × CV), zBlk ((σ 3).2 1) ((σ 3).2 2) ((σ 3).2 3) ((σ 3).2 4) (m.2 15) (m.2 16) (m.2 17) (m.2 2 0) (zWords (m.2 2)) n' D s.1 f k' l ∧ k ≤ k' ∧ (j : Int) ≤ zEb D * (s.1 - i) ∧ zIt zRst j S0 t ∧ (zLive σ m inner k' s.2.2 t ∨ zDead σ m s.2.2 t)) (μ := fun s => (f - s.1).toNat) ⟨⟨Int.le_refl i, hle.1, Int.le_refl 0, hi⟩, n, k, 0, S0, hb, Int.le_refl k, by show (0 : Int) ≤ zEb D * (i - i); rw [Int.sub_self, Int.mul_zero]; exact Int.le_refl 0, rfl, Or.inl (by rw [hS0]; exact ⟨rfl, rfl, rfl, hdn, hd40, zrU_0 hB hE, fun q _ _ => ⟨rfl, rfl⟩⟩)⟩ (by show (f - i).toNat < 100000; omega) (fun s hI => ?_)
    obtain ⟨q, st, σ'⟩ := s
    obtain ⟨⟨q0, q1, t0, t1⟩, n', k', j, t, hb', hkk, hj, hit, hLD⟩ := hI
    dsimp only at q0 q1 t0 t1 hb' hj hLD ⊢
    obtain ⟨td, ti, tk, tg, tm⟩ := t
    have hU : zrU σ m σ' tm := by
      rcases hLD with h | h
      · exact h.2.2.2.2.2.1
      · exact h.2.2.1
    have e3 : σ' 3 = σ 3 := hU.1 3 (by decide) (by decide) (by decide) (by decide) (by decide)
    have e15 : td = (σ' 0).1 15 := by
      rcases hLD with h | h
      · exact h.2.2.2.1
      · exact h.1
    have hpot := hU.2.2.2.2.2.2.2
    refine zok_ft ?_
    refine zok_g ⟨by omega, by omega⟩ ?_
    by_cases c : f ≤ q
    · have hqf : q = f := by omega
      have hend : ∃ (j : Nat) (t : Int × Int × Int × Int × CV), (j : Int) ≤ zEb D * (f - i) ∧ zIt zRst j S0 t ∧ zOut σ m inner l (σ', true) t := by
        rw [hqf] at hb' hj
        have hkl := zBlk_e hb'
        refine ⟨j, _, hj, hit, ?_⟩
        rcases hLD with h | h
        · rw [hkl] at h
          exact Or.inl ⟨rfl, h⟩
        · exact Or.inr (Or.inl h)
      exact zok_i (fun _ => zok_s ⟨Nat.le_refl _, zok_fr (zok_ft (zok_s ⟨Nat.le_refl _, hend⟩))⟩) (fun _ => zok_g ⟨⟨by omega, by omega⟩, ⟨by omega, by omega⟩⟩ (zok_t c (zok_s ⟨Nat.le_refl _, zok_fr (zok_ft (zok_s ⟨Nat.le_refl _, hend⟩))⟩)))
    refine zok_f (by omega) (zok_g ⟨⟨by omega, by omega⟩, ⟨by omega, by omega⟩⟩ (zok_f c (zok_g ⟨by omega, by omega⟩ ?_)))
    cases n' with
    | zero => exact absurd hb'.1 (by omega)
    | succ n' =>
      rcases hb' with ⟨g1, g2⟩ | ⟨g1, g2, g3, g4⟩ | ⟨D', g1, b, kb, g2, g3, g4, g5, g6, g7, g8⟩
      · omega
      · -- a command
        have hl4 := zBlk_le _ _ _ _ _ _ g4
        have hbeh : fX2_behind (σ 3) q = some (q + 1) := by
          rw [x_behind ⟨by omega, by omega⟩ ⟨g3.1, by omega⟩]
          unfold zMax
          rw [if_neg (by omega)]
        have hm1 := hmul q (q + 1)
        rw [show q + 1 - q = 1 by omega, Int.mul_one] at hm1
        have hk9 : 1 ≤ (σ' 3).2 1 q ∧ (σ' 3).2 1 q ≤ 9 := by
          rw [e3]
          rcases g2 with g | g | g | g | g | g | g | g | g <;> omega
        have hp8 : 0 ≤ m.2 15 k' ∧ m.2 15 k' ≤ 8 := by
          rcases g2 with g | g | g | g | g | g | g | g | g <;> omega
        refine zok_jP2 (fun (x : CS) => x 3 = σ 3 ∧ zNd (x 7) (x 4) ≤ zNd (σ' 7) (σ' 4) ∧ ∃ (j2 : Nat) (t2 : Int × Int × Int × Int × CV), (j2 : Int) ≤ zEb D * (q + 1 - i) ∧ zIt zRst j2 S0 t2 ∧ (zLive σ m inner (k' + 1) x t2 ∨ zDead σ m x t2)) (fun x r => zP3 r ≤ zNd (x 7) (x 4)) (fun x hx => ?_) (fun Kk hK => ?_)
        · obtain ⟨x3, xN, j2, t2, hj2, hit2, hLD2⟩ := hx
          rw [x3]
          exact zok_ft (zok_e hbeh (zok_s ⟨Nat.le_refl _, Nat.le_refl _, xN, zok_fl ⟨⟨⟨by show i ≤ q + 1; omega, by show q + 1 ≤ f; omega, by show 0 ≤ st + 1; omega, by show st + 1 ≤ q + 1; omega⟩, n', k' + 1, j2, t2, g4, by omega, hj2, hit2, hLD2⟩, by show (f - (q + 1)).toNat < (f - q).toNat; omega⟩⟩))
        · refine zok_g (by omega) (zok_f (by omega) ?_)
          rcases hLD with ⟨l1, l2, l3, l4, l5, l6, l7⟩ | hDd
          · dsimp only at l1 l2 l3 l5 l7
            refine zok_g (by omega) (zok_f (by omega) ?_)
            have hE4 := hU.2.2.2.1
            have hB' : zB1 (σ' 4) (tm.2 2) (tm.2 7) := by rw [hE4.2 7 (by decide)]; exact hU.2.2.2.2.1
            have hc' : zCms ((σ' 3).2 1) ((σ' 3).2 2) ((σ' 3).2 3) (tm.2 15) (tm.2 16) (tm.2 17) (tm.2 2 0) (zWords (tm.2 2)) q k' := by
              rw [e3, hE4.2 15 (by decide), hE4.2 16 (by decide), hE4.2 17 (by decide), hU.2.2.2.2.2.1.1, zrU_w hU]
              exact g2
            refine zok_b (z_cmd hB' hU.2.2.2.2.2.2.1 ⟨by omega, by omega⟩ hc') (fun x hx => ?_)
            obtain ⟨u, eu, N, hco, hN⟩ := hx
            have hcost := hco.2.2.2.2.2.2
            have hU2 : zrU σ' tm x.1 u.1 := zCo_u hco (by omega)
            have hUU := zrU_t hU hU2
            have e0 : x.1 0 = σ' 0 := hco.2.1 0 (by decide) (by decide) (by decide) (by decide)
            have x3 : x.1 3 = σ 3 := (hco.2.1 3 (by decide) (by decide) (by decide) (by decide)).trans e3
            have hst := y_cmd (m := tm) (done := td) (inner := ti) (k := k') (u := u) l5 ⟨by omega, by rw [hE4.1 42 (by decide)]; omega⟩ (by rw [hE4.1 42 (by decide)]; omega) (by rw [hE4.2 15 (by decide)]; exact hp8) eu
            rw [l2, l3] at hit
            have hit2 := zIt_s hit hst
            have hstk : ∀ p, 0 ≤ p → p < inner → u.1.2 18 p = m.2 18 p ∧ u.1.2 19 p = m.2 19 p := fun p p0 p1 => by
              rw [hco.2.2.1.2 18 (by decide), hco.2.2.1.2 19 (by decide)]
              exact l7 p p0 p1
            refine zok_ft (zok_g ⟨by omega, hpot⟩ ?_)
            refine zok_i (fun ok => ?_) (fun ok => ?_)
            · have hu1 : u.2 = true := hco.1.symm.trans ok
              rw [hu1] at hit2
              have hv15 : ((zSu x.1 0 (zPu (x.1 0) 15 (((x.1 0).1 15) + 1))) 0).1 15 = td + 1 := by rw [zSu_s, zPu_s, e0, e15]
              refine zok_w (hK _ ⟨by rw [zSu_n (by decide)]; exact x3, by rw [zSu_n (by decide), zSu_n (by decide)]; omega, j + 1, _, by omega, hit2, ?_⟩) (fun r hr => ⟨by have h1 := hr.1; rw [zSu_n (by decide), zSu_n (by decide)] at h1; exact h1, hr.2⟩)
              have hb1 : b2 true = 1 := rfl
              rw [hb1]
              by_cases c40 : td + 1 < 40
              · exact Or.inl ⟨l1, rfl, rfl, hv15.symm, ⟨by show 0 ≤ td + 1; omega, c40⟩, zrU_d hUU, hstk⟩
              · exact Or.inr ⟨hv15.symm, by show td + 1 = 40; omega, zrU_d hUU, rfl, ⟨by show 0 ≤ k' + 1; omega, by show k' + 1 ≤ 61; omega⟩⟩
            · have hx2 : x.2 = false := by cases hq : x.2 with
                | true => exact absurd hq ok
                | false => rfl
              have hu1 : u.2 = false := hco.1.symm.trans hx2
              rw [hu1] at hit2
              refine zok_s ⟨Nat.le_refl _, Nat.le_trans hcost (by omega), zok_fr (zok_s ⟨j + 1, _, ?_, hit2, Or.inr (Or.inr ⟨rfl, ?_, ⟨?_, ?_⟩, hUU, rfl⟩)⟩)⟩
              · have := hpos (q + 1) f (by omega)
                omega
              · show td + 0 = (x.1 0).1 15
                rw [e0, e15]; omega
              · show 0 ≤ td + 0
                omega
              · show td + 0 ≤ 40
                omega
          · have h40 : td = 40 := hDd.2.1
            have := hpos q f (by omega)
            exact zok_g (by omega) (zok_t (by omega) (zok_s ⟨Nat.le_refl _, zok_fr (zok_s ⟨j, _, by omega, hit, Or.inr (Or.inl hDd)⟩)⟩))
      · -- a repeat
        have hl6 := zBlk_le _ _ _ _ _ _ g6
        have hl8 := zBlk_le _ _ _ _ _ _ g8
        obtain ⟨gk, gp, gn, gc⟩ := g4
        have hbeh : fX2_behind (σ 3) q = some b := by rw [x_behind ⟨by omega, by omega⟩ g5.1, g5.2]
        have hes := zEb_s (D := D') (by omega) (L := b - (q + 1)) (by omega)
        rw [← g1, show b - (q + 1) + 1 = b - q by omega] at hes
        obtain ⟨X, hX⟩ : ∃ X, X = zEb D' * (b - (q + 1)) + 1 := ⟨_, rfl⟩
        rw [← hX] at hes
        have hX1 : 1 ≤ X := by omega
        have hmb := hmul q b
        obtain ⟨cnt, hcnt⟩ : ∃ c, c = m.2 16 k' := ⟨_, rfl⟩
        have hNq : (σ 3).2 3 q = cnt := by rw [hcnt]; exact gn
        rw [← hcnt] at gc
        have hpb := hpos b f g3
        have hlast : ∀ kk : Int, kk ≤ 20 → kk * X ≤ 20 * X := fun kk h => Int.mul_le_mul_of_nonneg_right h (by omega)
        refine zok_jP2 (fun (x : CS) => x 3 = σ 3 ∧ zNd (x 7) (x 4) ≤ zNd (σ' 7) (σ' 4) ∧ ∃ (j2 : Nat) (t2 : Int × Int × Int × Int × CV), (j2 : Int) ≤ zEb D * (b - i) ∧ zIt zRst j2 S0 t2 ∧ (zLive σ m inner (kb + 1) x t2 ∨ zDead σ m x t2)) (fun x r => zP3 r ≤ zNd (x 7) (x 4)) (fun x hx => ?_) (fun Kk hK => ?_)
        · obtain ⟨x3, xN, j2, t2, hj2, hit2, hLD2⟩ := hx
          rw [x3]
          exact zok_ft (zok_e hbeh (zok_s ⟨Nat.le_refl _, Nat.le_refl _, xN, zok_fl ⟨⟨⟨by show i ≤ b; omega, by show b ≤ f; omega, by show 0 ≤ st + 1; omega, by show st + 1 ≤ b; omega⟩, n', kb + 1, j2, t2, g8, by omega, hj2, hit2, hLD2⟩, by show (f - b).toNat < (f - q).toNat; omega⟩⟩))
        · have gk' : (σ' 3).2 1 q = 10 := by rw [e3]; exact gk
          refine zok_g (by omega) (zok_t gk' ?_)
          have hI0 : ∃ (j2 : Nat) (t2 : Int × Int × Int × Int × CV), zIt zRst j2 S0 t2 ∧ ((0 < cnt ∧ (j2 : Int) ≤ zEb D * (q - i) + 1 + 0 * X ∧ (t2.2.1 = inner + 1 ∧ t2.2.2.1 = k' + 1 ∧ t2.2.2.2.1 = 1) ∧ t2.1 = (σ' 0).1 15 ∧ (0 ≤ t2.1 ∧ t2.1 < 40) ∧ zrU σ m σ' t2.2.2.2.2 ∧ (∀ p, 0 ≤ p → p < inner → t2.2.2.2.2.2 18 p = m.2 18 p ∧ t2.2.2.2.2.2 19 p = m.2 19 p) ∧ t2.2.2.2.2.2 18 inner = k' ∧ t2.2.2.2.2.2 19 inner = cnt - 0) ∨ ((0 : Int) = cnt ∧ (j2 : Int) ≤ zEb D * (q - i) + 1 + 0 * X ∧ zLive σ m inner (kb + 1) σ' t2) ∨ ((j2 : Int) ≤ zEb D * (b - i) ∧ zDead σ m σ' t2)) := by
            rcases hLD with ⟨l1, l2, l3, l4, l5, l6, l7⟩ | hDd
            · dsimp only at l1 l2 l3 l5 l7
              have hE4 := hU.2.2.2.1
              have hst := y_rep (m := tm) (done := td) (inner := inner) (k := k') l5 ⟨by omega, by rw [hE4.1 42 (by decide)]; omega⟩ (by rw [hE4.1 42 (by decide)]; omega) ⟨by omega, by omega⟩ (by rw [hE4.2 15 (by decide)]; exact gp)
              rw [l1, l2, l3] at hit
              refine ⟨j + 1, _, zIt_s hit hst, Or.inl ⟨by omega, by omega, ⟨rfl, rfl, rfl⟩, e15, l5, zrU_m hU (zEx_a (zEx_a zEx_0 (by decide)) (by decide)), fun p p0 p1 => ?_, ?_, ?_⟩⟩
              · refine ⟨?_, ?_⟩
                · show (zPa (zPa tm 18 inner k') 19 inner (tm.2 16 k')).2 18 p = _
                  rw [zPa_n (by decide), zPa_s, zup_n (by omega)]
                  exact (l7 p p0 p1).1
                · show (zPa (zPa tm 18 inner k') 19 inner (tm.2 16 k')).2 19 p = _
                  rw [zPa_s, zup_n (by omega), zPa_n (by decide)]
                  exact (l7 p p0 p1).2
              · show (zPa (zPa tm 18 inner k') 19 inner (tm.2 16 k')).2 18 inner = _
                rw [zPa_n (by decide), zPa_s, zup_s]
              · show (zPa (zPa tm 18 inner k') 19 inner (tm.2 16 k')).2 19 inner = _
                rw [zPa_s, zup_s, hE4.2 16 (by decide), ← hcnt]
                omega
            · exact ⟨j, _, hit, Or.inr (Or.inr ⟨by omega, hDd⟩)⟩
          refine zok_L (I := fun (s : Int × CS) => (0 ≤ s.1 ∧ s.1 ≤ cnt) ∧ zNd (s.2 7) (s.2 4) ≤ zNd (σ' 7) (σ' 4) ∧ ∃ (j2 : Nat) (t2 : Int × Int × Int × Int × CV), zIt zRst j2 S0 t2 ∧ ((s.1 < cnt ∧ (j2 : Int) ≤ zEb D * (q - i) + 1 + s.1 * X ∧ (t2.2.1 = inner + 1 ∧ t2.2.2.1 = k' + 1 ∧ t2.2.2.2.1 = 1) ∧ t2.1 = (s.2 0).1 15 ∧ (0 ≤ t2.1 ∧ t2.1 < 40) ∧ zrU σ m s.2 t2.2.2.2.2 ∧ (∀ p, 0 ≤ p → p < inner → t2.2.2.2.2.2 18 p = m.2 18 p ∧ t2.2.2.2.2.2 19 p = m.2 19 p) ∧ t2.2.2.2.2.2 18 inner = k' ∧ t2.2.2.2.2.2 19 inner = cnt - s.1) ∨ (s.1 = cnt ∧ (j2 : Int) ≤ zEb D * (q - i) + 1 + s.1 * X ∧ zLive σ m inner (kb + 1) s.2 t2) ∨ ((j2 : Int) ≤ zEb D * (b - i) ∧ zDead σ m s.2 t2))) (μ := fun s => (cnt - s.1).toNat) ⟨⟨by show (0 : Int) ≤ 0; omega, by show (0 : Int) ≤ cnt; omega⟩, Nat.le_refl _, hI0⟩ (by show (cnt - (0 : Int)).toNat < 100000; omega) (fun s hI => ?_)
          obtain ⟨kk, σ''⟩ := s
          obtain ⟨⟨k0, k1⟩, hNd, j2, t2, hit2, hcase⟩ := hI
          dsimp only at k0 k1 hNd hcase ⊢
          obtain ⟨ud, ui, uk, ug, um⟩ := t2
          have hV : zrU σ m σ'' um := by
            rcases hcase with h | h | h
            · exact h.2.2.2.2.2.1
            · exact h.2.2.2.2.2.2.2.1
            · exact h.2.2.2.1
          have v3 : σ'' 3 = σ 3 := hV.1 3 (by decide) (by decide) (by decide) (by decide) (by decide)
          have hNq' : (σ'' 3).2 3 q = cnt := by rw [v3]; exact hNq
          refine zok_ft ?_
          refine zok_g (by omega) ?_
          by_cases c2 : (σ'' 3).2 3 q ≤ kk
          · have hP : σ'' 3 = σ 3 ∧ zNd (σ'' 7) (σ'' 4) ≤ zNd (σ' 7) (σ' 4) ∧ ∃ (j2 : Nat) (t2 : Int × Int × Int × Int × CV), (j2 : Int) ≤ zEb D * (b - i) ∧ zIt zRst j2 S0 t2 ∧ (zLive σ m inner (kb + 1) σ'' t2 ∨ zDead σ m σ'' t2) := by
              refine ⟨v3, hNd, j2, _, ?_, hit2, ?_⟩
              · rcases hcase with h | h | h
                · omega
                · have := hlast kk (by omega)
                  have := h.2.1
                  omega
                · exact h.1
              · rcases hcase with h | h | h
                · omega
                · exact Or.inl h.2.2
                · exact Or.inr h.2
            exact zok_t c2 (zok_s ⟨Nat.le_refl _, zok_fr (zok_ft (hK _ hP))⟩)
          · refine zok_f c2 ?_
            rw [v3]
            refine zok_e hbeh ?_
            have ein : inner + 1 = 2 - (D' : Int) := by omega
            rw [ein]
            have hVE := hV.2.2.2.1
            rcases hcase with ⟨a1, a2, ⟨a3, a4, a5⟩, a6, a7, a8, a9, a10, a11⟩ | ⟨a1, a2, a3⟩ | ⟨a1, a2⟩
            · dsimp only at a3 a4 a5 a6 a7 a9 a10 a11
              have hblk : zBlk ((σ'' 3).2 1) ((σ'' 3).2 2) ((σ'' 3).2 3) ((σ'' 3).2 4) (um.2 15) (um.2 16) (um.2 17) (um.2 2 0) (zWords (um.2 2)) n' D' (q + 1) b (k' + 1) kb := by
                rw [v3, hVE.2 15 (by decide), hVE.2 16 (by decide), hVE.2 17 (by decide), hV.2.2.2.2.2.1.1, zrU_w hV]
                exact g6
              have hB' : zB1 (σ'' 4) (um.2 2) (um.2 7) := by rw [hVE.2 7 (by decide)]; exact hV.2.2.2.2.1
              have u42 := hVE.1 42 (by decide)
              refine zok_b (ih D' (by omega) (by omega) n' (q + 1) b (k' + 1) kb ud σ'' um hblk (by omega) (by omega) (by omega) (by omega) (by omega) hB' hV.2.2.2.2.2.2.1 a6 a7) (fun r hr => ?_)
              obtain ⟨jb, tb, hjb, hitb, hob⟩ := hr
              have hou := zOut_u hob
              have hRV := zrU_t hV hou.1
              have hrN := hou.1.2.2.2.2.2.2.2
              rw [a3, a4, a5, ein] at hit2
              have hit3 := zIt_t _ _ _ _ _ hit2 hitb
              have hsX : (kk + 1) * X = kk * X + X := by rw [Int.add_mul, Int.one_mul]
              have hlk := hlast (kk + 1) (by omega)
              refine zok_ft (zok_g ⟨by omega, Nat.le_trans hNd hpot⟩ ?_)
              refine zok_i (fun ok => zok_s ⟨Nat.le_refl _, hrN, zok_fl ⟨⟨⟨by show 0 ≤ kk + 1; omega, by show kk + 1 ≤ cnt; omega⟩, Nat.le_trans hrN hNd, ?_⟩, by show (cnt - (kk + 1)).toNat < (cnt - kk).toNat; omega⟩⟩) (fun ok => zok_s ⟨Nat.le_refl _, hrN, zok_fr (zok_s ⟨Nat.le_trans hrN hNd, zok_fr (zok_s ?_)⟩)⟩)
              · dsimp only
                obtain ⟨wd, wi, wk, wg, wm⟩ := tb
                rcases hob with ⟨_, c1, c2', c3, c4, c5, c6, c7⟩ | hd | ⟨hf2, _⟩
                · dsimp only at c1 c2' c3 c4 c5 c7
                  have w42 : wm.1 42 = m.1 42 := (hRV.2.2.2.1).1 42 (by decide)
                  have hw := c7 inner (by omega) (by omega)
                  have hst := y_lap (m := wm) (done := wd) (inner := inner) (k := kb) (c := cnt - kk - 1) c5 ⟨by omega, by omega⟩ (by omega) ⟨by omega, by omega⟩ (by rw [(hRV.2.2.2.1).2 15 (by decide)]; exact g7) (by rw [hw.2, a11]; omega) ⟨by omega, by omega⟩
                  rw [c1, c2', c3, ← ein] at hit3
                  have hit4 := zIt_s hit3 hst
                  have hU4 := zrU_m hRV (m2 := zPa wm 19 inner (cnt - kk - 1)) (zEx_a zEx_0 (by decide))
                  have hs4 : ∀ p, 0 ≤ p → p < inner → (zPa wm 19 inner (cnt - kk - 1)).2 18 p = m.2 18 p ∧ (zPa wm 19 inner (cnt - kk - 1)).2 19 p = m.2 19 p := fun p p0 p1 => by
                    rw [zPa_n (by decide), zPa_s, zup_n (by omega), (c7 p p0 (by omega)).1, (c7 p p0 (by omega)).2]
                    exact a9 p p0 p1
                  by_cases cc : 0 < cnt - kk - 1
                  · rw [if_pos cc] at hit4
                    refine ⟨_, _, hit4, Or.inl ⟨by omega, by omega, ⟨ein, ?_, rfl⟩, c4, c5, hU4, hs4, ?_, ?_⟩⟩
                    · show wm.2 18 inner + 1 = k' + 1
                      rw [hw.1, a10]
                    · show (zPa wm 19 inner (cnt - kk - 1)).2 18 inner = k'
                      rw [zPa_n (by decide), hw.1, a10]
                    · show (zPa wm 19 inner (cnt - kk - 1)).2 19 inner = cnt - (kk + 1)
                      rw [zPa_s, zup_s]
                      omega
                  · rw [if_neg cc] at hit4
                    exact ⟨_, _, hit4, Or.inr (Or.inl ⟨by omega, by omega, rfl, rfl, rfl, c4, c5, hU4, hs4⟩)⟩
                · exact ⟨_, _, hit3, Or.inr (Or.inr ⟨by omega, hd.1, hd.2.1, hRV, hd.2.2.2⟩)⟩
                · rw [ok] at hf2
                  cases hf2
              · have hx2 : r.2 = false := by cases hq : r.2 with
                  | true => exact absurd hq ok
                  | false => rfl
                rcases hob with ⟨ht, _⟩ | hd | ⟨_, hf2⟩
                · exact absurd ht ok
                · exact ⟨_, _, by omega, hit3, Or.inr (Or.inl ⟨hd.1, hd.2.1, hRV, hd.2.2.2⟩)⟩
                · exact ⟨_, _, by omega, hit3, Or.inr (Or.inr ⟨rfl, hf2.1, hf2.2.1, hRV, hf2.2.2.2⟩)⟩
            · omega
            · have h40 : (σ'' 0).1 15 = 40 := by rw [← a2.1]; exact a2.2.1
              have hblk : zBlk ((σ'' 3).2 1) ((σ'' 3).2 2) ((σ'' 3).2 3) ((σ'' 3).2 4) (m.2 15) (m.2 16) (m.2 17) (m.2 2 0) (zWords (m.2 2)) n' D' (q + 1) b (k' + 1) kb := by rw [v3]; exact g6
              refine zok_b (z_blk40 d D' (by omega) (by omega) n' (q + 1) b (k' + 1) kb σ'' hblk (by omega) (by omega) h40) (fun r hr => ?_)
              rw [hr]
              refine zok_ft (zok_g ⟨by omega, Nat.le_trans hNd hpot⟩ ?_)
              refine zok_i (fun ok => zok_s ⟨Nat.le_refl _, Nat.le_refl _, zok_fl ⟨⟨⟨by show 0 ≤ kk + 1; omega, by show kk + 1 ≤ cnt; omega⟩, hNd, j2, _, hit2, Or.inr (Or.inr ⟨a1, a2⟩)⟩, by show (cnt - (kk + 1)).toNat < (cnt - kk).toNat; omega⟩⟩) (fun ok => zok_s ⟨Nat.le_refl _, Nat.le_refl _, zok_fr (zok_s ⟨hNd, zok_fr (zok_s ⟨j2, _, by omega, hit2, Or.inr (Or.inl a2)⟩)⟩)⟩)
end ZSI
