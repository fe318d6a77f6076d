section ZYL
variable {bf : Int → Int} {n : Int}
theorem x_atEnd {S T : CV} (h6 : iR (S.1 6)) (h2 : iR (T.1 2)) : fX2_isAtEnd S T = some (decide (S.1 6 = 0 ∧ T.1 2 = 0)) := by
  apply zok_q
  unfold fX2_isAtEnd
  refine zok_g h6 (zok_i (fun a => zok_g h2 (zok_i (fun b => zok_s ?_) (fun b => zok_s ?_))) (fun a => zok_s ?_))
  · exact (decide_eq_true ⟨a, b⟩).symm
  · exact (decide_eq_false (fun z => b z.2)).symm
  · exact (decide_eq_false (fun z => a z.1)).symm
def zYe (m u : CV) : Prop := zEx [4, 5, 6, 7, 8, 9, 10, 13, 42, 43, 44] [15, 16, 17] m u
def zYT (T t : CV) : Prop := zEx [2, 3, 4, 5, 6, 7] [] T t
theorem zYe_t {a b c : CV} (h : zYe a b) (h2 : zYe b c) : zYe a c := zEx_t h h2
theorem zYT_t {a b c : CV} (h : zYT a b) (h2 : zYT b c) : zYT a c := zEx_t h h2
/-- closes, one after another -/
theorem z_cls {V : CV} : ∀ (d : Nat) (c : Int) (S T m : CV), zTR bf n T m → zYs S m → m.1 44 = (d : Int) → c = m.1 42 → ∃ j i, j ≤ d ∧ i ≤ d ∧ ∃ c' S' T' u, zIt (zPaS V) j (c, S, T) (c', S', T') ∧ zIt zClS i m u ∧ zClS u = some (.inr u) ∧ zYe m u ∧ zYT T T' ∧ (c' = c + (j : Int)) ∧ ((zTR bf n T' u ∧ zYs S' u ∧ c' = u.1 42 ∧ (0 < S'.1 6 → ¬ (T'.1 2 = 3 ∧ bf (T'.1 4) = 41)) ∧ m.1 42 ≤ u.1 42) ∨ (zTE bf n T' u ∧ iR (u.1 44))) := by
  intro d
  induction d with
  | zero =>
    intro c S T m h hq h44 hc
    have hz := zYs_44 hq
    refine ⟨0, 0, Nat.le_refl _, Nat.le_refl _, c, S, T, m, rfl, rfl, ?_, zEx_0, zEx_0, by omega, Or.inl ⟨h, hq, hc, fun z => by omega, Int.le_refl _⟩⟩
    apply zok_q
    unfold zClS
    exact zok_g ⟨by omega, by omega⟩ (zok_t (by omega) (zok_s rfl))
  | succ d ih =>
    intro c S T m h hq h44 hc
    have hz := zYs_44 hq
    by_cases hs : T.1 2 = 3 ∧ bf (T.1 4) = 41
    · obtain ⟨t, et, u, eu, hu, hT, hor, hr⟩ := z_close h hq (by omega) hs
      have est : zPaS V (c, S, T) = some (.inl (c + 1, t.1, t.2)) := by
        apply zok_q
        unfold zPaS
        dsimp only
        refine zok_g ⟨by omega, by omega⟩ (zok_f (by omega) ?_)
        rw [h.2.2.2.1]
        refine zok_g (by decide) (zok_t rfl (zok_e (x_atEnd ⟨by omega, by omega⟩ ⟨by omega, by omega⟩) ?_))
        rw [decide_eq_false (by omega)]
        refine zok_f Bool.false_ne_true ?_
        refine zok_jP (fun _ => False) (fun _ z => z.elim) (fun K hK => zok_g ⟨by omega, by omega⟩ (zok_f (by omega) ?_))
        refine zok_e (x_isMark h.1 (c := 41) (by decide)) ?_
        rw [decide_eq_true hs]
        exact zok_t rfl (zok_e et (zok_s rfl))
      rcases hor with ⟨g1, g2, g3, g4⟩ | g1
      · obtain ⟨j, i, hj, hi, c', S', T', u', a1, a2, a3, a4, a5, a6, a7⟩ := ih (c + 1) t.1 t.2 u g1 g2 (by omega) (by omega)
        refine ⟨j + 1, i + 1, by omega, by omega, c', S', T', u', ⟨_, est, a1⟩, ⟨_, eu, a2⟩, a3, zYe_t hu a4, zYT_t hT a5, by omega, ?_⟩
        rcases a7 with ⟨b1, b2, b3, b4, b5⟩ | b1
        · exact Or.inl ⟨b1, b2, b3, b4, by omega⟩
        · exact Or.inr b1
      · refine ⟨1, 1, by omega, by omega, c + 1, t.1, t.2, u, zIt_1 est, zIt_1 eu, zClS_e g1.2.1 hr, hu, hT, by omega, Or.inr ⟨g1, hr⟩⟩
    · refine ⟨0, 0, Nat.zero_le _, Nat.zero_le _, c, S, T, m, rfl, rfl, ?_, zEx_0, zEx_0, by omega, Or.inl ⟨h, hq, hc, fun _ => hs, Int.le_refl _⟩⟩
      have hsg := y_isSign h.2.1 h.2.2.2.2.1 (c := 41) (by decide)
      rw [← h.2.2.1.1, ← h.2.2.1.2.1, decide_eq_false hs] at hsg
      apply zok_q
      unfold zClS
      exact zok_g ⟨by omega, by omega⟩ (zok_f (by omega) (zok_e hsg (zok_f Bool.false_ne_true (zok_s rfl))))
theorem zLp_x {σ ρ : Type} {step : σ → Option (σ ⊕ ρ)} {b : Nat} {s : σ} {y : ρ} (h : step s = some (.inr y)) : zLp step (b + 1) s = some y := by
  show (match step s with
    | some (.inl t) => zLp step b t
    | some (.inr y) => some y
    | none => none) = _
  rw [h]
theorem y_closes {m u : CV} {i : Nat} (hi : i ≤ 2) (h : zIt zClS i m u) (h2 : zClS u = some (.inr u)) : fX8_closes m = some u := by
  have e : zLp zClS zFu m = some u := by
    have h3 := zLp_it i (99999 - i + 1) m u h
    rw [show zFu = i + (99999 - i + 1) by unfold zFu; omega, h3]
    exact zLp_x h2
  rw [fX8_closes_e, e]
  rfl
/-- how the reading of a script ends -/
def zYf (bf : Int → Int) (n : Int) (S T u : CV) : Prop := (zTR bf n T u ∧ zYs S u ∧ S.1 6 = 0) ∨ zTE bf n T u ∨ (u.1 9 = 0 ∧ 0 < u.1 44 ∧ ∃ w, fX8_wrong u 1 = some w ∧ zTE bf n T w ∧ zYe u w)
theorem z_prs {V : CV} : ∀ (N : Nat) (c : Int) (S T m : CV), zTR bf n T m → zYs S m → zB1 V (m.2 2) (m.2 7) → c = m.1 42 → (0 < S.1 6 → ¬ (T.1 2 = 3 ∧ bf (T.1 4) = 41)) → (61 - m.1 42).toNat ≤ N → ∃ j i, j ≤ 3 * N ∧ i ≤ N ∧ ∃ c' S' T' u, zIt (zPaS V) j (c, S, T) (c', S', T') ∧ zPaS V (c', S', T') = some (.inr (c', S', T')) ∧ zIt zScS i m u ∧ zScS u = some (.inr u) ∧ zYe m u ∧ zYT T T' ∧ iR (u.1 44) ∧ zYf bf n S' T' u := by
  intro N
  induction N with
  | zero =>
    intro c S T m h hq hB hc hh hN
    have hz := zYs_44 hq
    omega
  | succ N ih =>
    intro c S T m h hq hB hc hh hN
    have hz := zYs_44 hq
    obtain ⟨r1, r2, r3, r4, r5, r6, r7, r8, r9, r10⟩ := h.1.r
    -- what the class's step comes to
    have cst : ∀ (Q : ((Int × CV × CV) ⊕ (Int × CV × CV)) → Prop), ¬ (S.1 6 = 0 ∧ T.1 2 = 0) → zOk ((fX2_readCommand S T V).bind fun t45 => some (.inl (c + 1, t45.1, t45.2))) Q → zOk (zPaS V (c, S, T)) Q := by
      intro Q he hQ
      unfold zPaS
      dsimp only
      refine zok_g ⟨by omega, by omega⟩ (zok_f (by omega) ?_)
      rw [h.2.2.2.1]
      refine zok_g (by decide) (zok_t rfl (zok_e (x_atEnd ⟨by omega, by omega⟩ ⟨by omega, by omega⟩) ?_))
      rw [decide_eq_false he]
      refine zok_f Bool.false_ne_true ?_
      refine zok_jP (fun _ => True) (fun _ _ => hQ) (fun K hK => zok_g ⟨by omega, by omega⟩ (zok_i (fun _ => hK () trivial) (fun c2 => ?_)))
      refine zok_e (x_isMark h.1 (c := 41) (by decide)) ?_
      rw [decide_eq_false (hh (by omega))]
      exact zok_f Bool.false_ne_true (hK () trivial)
    -- an error ends both
    have cer : ∀ (c1 : Int) (S1 T1 : CV), (0 ≤ c1 ∧ c1 < 600) → T1.1 6 ≠ 0 → iR (T1.1 6) → zPaS V (c1, S1, T1) = some (.inr (c1, S1, T1)) := by
      intro c1 S1 T1 q0 q1 q2
      apply zok_q
      unfold zPaS
      dsimp only
      exact zok_g ⟨by omega, by omega⟩ (zok_f (by omega) (zok_g q2 (zok_f q1 (zok_s rfl))))
    by_cases k0 : T.1 2 = 0
    · have mst : zScS m = some (.inr m) := by
        apply zok_q
        unfold zScS
        have e6 : m.1 6 = 0 := by rw [← h.2.2.1.1]; exact k0
        rw [e6]
        exact zok_e (y_good0 h.2.2.2.2.1) (zok_t rfl (zok_g (by decide) (zok_t rfl (zok_s rfl))))
      by_cases k6 : S.1 6 = 0
      · refine ⟨0, 0, Nat.zero_le _, Nat.zero_le _, c, S, T, m, rfl, ?_, rfl, mst, zEx_0, zEx_0, ⟨by omega, by omega⟩, Or.inl ⟨h, hq, k6⟩⟩
        apply zok_q
        unfold zPaS
        dsimp only
        refine zok_g ⟨by omega, by omega⟩ (zok_f (by omega) ?_)
        rw [h.2.2.2.1]
        refine zok_g (by decide) (zok_t rfl (zok_e (x_atEnd ⟨by omega, by omega⟩ ⟨by omega, by omega⟩) ?_))
        rw [decide_eq_true ⟨k6, k0⟩]
        exact zok_t rfl (zok_s rfl)
      · obtain ⟨t, et, w, ew, hw, hTE, hME⟩ := z_fail h (c := 1) (by decide) (fun _ => rfl)
        have est : zPaS V (c, S, T) = some (.inl (c + 1, S, t)) := by
          apply zok_q
          refine cst _ (fun z => k6 z.1) ?_
          refine zok_b (P := fun (t2 : CV × CV) => t2 = (S, t)) ?_ (fun t2 ht2 => by rw [ht2]; exact zok_s rfl)
          unfold fX2_readCommand
          exact zok_e (x_kind0 k0) (zok_g (by decide) (zok_t rfl (zok_e et (zok_s rfl))))
        refine ⟨1, 0, by omega, by omega, c + 1, S, t, m, zIt_1 est, cer _ _ _ (by omega) hw.ne.1 hw.ne.2, rfl, mst, zEx_0, zEx_w hTE (by decide) (by decide), ⟨by omega, by omega⟩, Or.inr (Or.inr ⟨h.2.2.2.2.1, by omega, w, ew, hw, zEx_w hME (by decide) (by decide)⟩)⟩
    · obtain ⟨t, et, q, eq, hq44, x, hx, x44, hxM, hxT, hor⟩ := z_com h hB hq
      have est : zPaS V (c, S, T) = some (.inl (c + 1, t.1, t.2)) := by
        apply zok_q
        exact cst _ (fun z => k0 z.2) (zok_e et (zok_s rfl))
      have mst : ∀ u, fX8_closes x = some u → zScS m = some (.inl u) := by
        intro u eu
        apply zok_q
        unfold zScS
        refine zok_e (y_good0 h.2.2.2.2.1) (zok_t rfl (zok_g ⟨by rw [← h.2.2.1.1]; omega, by rw [← h.2.2.1.1]; omega⟩ (zok_f (by rw [← h.2.2.1.1]; exact k0) (zok_e eq ?_))))
        refine zok_jP (fun (y : CV) => y = x) (fun y hy => ?_) (fun K hK => zok_g ⟨hq44, ⟨by omega, by omega⟩⟩ ?_)
        · rw [hy]; exact zok_e eu (zok_s rfl)
        · rcases hx with ⟨h1, h2⟩ | ⟨h1, h2⟩
          · exact zok_t h1 (zok_e h2 (hK _ rfl))
          · exact zok_f h1 (by rw [← h2]; exact hK _ rfl)
      have mer : ∀ u : CV, (1 ≤ u.1 9 ∧ u.1 9 ≤ 6) → zScS u = some (.inr u) := by
        intro u hu
        apply zok_q
        unfold zScS
        exact zok_e (y_goodE hu) (zok_f Bool.false_ne_true (zok_s rfl))
      rcases hor with ⟨g1, g2, g3⟩ | g1
      · have hzx := zYs_44 g2
        obtain ⟨j, i, hj, hi, c', S', T', u, a1, a2, a3, a4, a5, a6, a7⟩ := z_cls (V := V) (x.1 44).toNat (c + 1) t.1 t.2 x g1 g2 (by omega) (by omega)
        have ecl := y_closes (by omega) a2 a3
        have ms := mst u ecl
        rcases a7 with ⟨b1, b2, b3, b4, b5⟩ | ⟨b1, b1r⟩
        · have hB' : zB1 V (u.2 2) (u.2 7) := by
            have e := zYe_t hxM a4
            rw [e.2 2 (by decide), e.2 7 (by decide)]; exact hB
          obtain ⟨j2, i2, hj2, hi2, c2, S2, T2, u2, d1, d2, d3, d4, d5, d6, d7, d8⟩ := ih c' S' T' u b1 b2 hB' b3 b4 (by omega)
          refine ⟨1 + (j + j2), i2 + 1, by omega, by omega, c2, S2, T2, u2, zIt_t _ _ _ _ _ (zIt_1 est) (zIt_t _ _ _ _ _ a1 d1), d2, ⟨_, ms, d3⟩, d4, zYe_t (zYe_t hxM a4) d5, zYT_t (zYT_t hxT a5) d6, d7, d8⟩
        · refine ⟨1 + j, 1, by omega, by omega, c', S', T', u, zIt_t _ _ _ _ _ (zIt_1 est) a1, cer _ _ _ (by omega) b1.ne.1 b1.ne.2, zIt_1 ms, mer _ b1.2.1, zYe_t hxM a4, zYT_t hxT a5, b1r, Or.inr (Or.inl b1)⟩
      · have ms := mst x (y_closes (i := 0) (by decide) rfl (zClS_e g1.2.1 x44))
        refine ⟨1, 1, by omega, by omega, c + 1, t.1, t.2, x, zIt_1 est, cer _ _ _ (by omega) g1.ne.1 g1.ne.2, zIt_1 ms, mer _ g1.2.1, hxM, hxT, x44, Or.inr (Or.inl g1)⟩
end ZYL
