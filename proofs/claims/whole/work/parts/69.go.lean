/-! THE SEARCH, MADE READY -/
section ZGO
variable {s : Int → Int}
theorem zWd_e {L : Int} (n : Nat) : zWd L n = zPw L n := by
  induction n with
  | zero => exact zPw_0.symm
  | succ n ih =>
    show zWd L n * L = _
    rw [ih, show ((n + 1 : Nat) : Int) = (n : Int) + 1 by omega, zPw_s (by omega)]
theorem zBe_e (n : Nat) : zBe (s 1) n = zLv s (n + 1) := by
  induction n with
  | zero => rfl
  | succ n ih =>
    show zBe (s 1) n + zWd (s 1) (n + 1) = _
    rw [ih, zWd_e, show ((n + 1 : Nat) : Int) = (n : Int) + 1 by omega, ← zLv_s (by omega)]
theorem zLv_r (hW : zWf s) : 0 ≤ zLv s (s 2 + 1) ∧ zLv s (s 2 + 1) ≤ 5460 := by
  obtain ⟨_, ⟨a1, a2⟩, ⟨b1, b2⟩, _⟩ := hW
  have ha : s 1 = 2 ∨ s 1 = 3 ∨ s 1 = 4 := by omega
  have hb : s 2 = 2 ∨ s 2 = 3 ∨ s 2 = 4 ∨ s 2 = 5 ∨ s 2 = 6 := by omega
  unfold zLv zPw
  rcases ha with h | h | h <;> rcases hb with h2 | h2 | h2 | h2 | h2 <;> rw [h, h2] <;> decide
/-- the arrays that grow -/
def zCap (T : CV) : Prop := (0 ≤ T.1 100 ∧ T.1 100 ≤ 4096) ∧ T.1 102 = T.1 100 ∧ (0 ≤ T.1 101 ∧ T.1 101 ≤ 5460)
theorem zNd_e (hW : zWf s) {T V : CV} (hC : zCap T) (h1 : V.1 0 = s 1) (h2 : V.1 1 = s 2) : zNd T V = if zWords s ≤ T.1 100 ∧ zLv s (s 2 + 1) ≤ T.1 101 then 0 else 1 := by
  have w2 := hW.2.2.1
  unfold zNd
  rw [h1, h2, zWd_e, zBe_e, hC.2.1, show (((s 2).toNat : Nat) : Int) = s 2 by omega]
  have e : zPw (s 1) (s 2) = zWords s := rfl
  rw [e]
  by_cases c : zWords s ≤ T.1 100 ∧ zLv s (s 2 + 1) ≤ T.1 101
  · rw [if_pos c, if_pos ⟨c.1, c.1, c.2⟩]
  · rw [if_neg c, if_neg (fun z => c ⟨z.1, z.2.2⟩)]
theorem c_makeRoom {T V : CV} (hW : zWf s) (h1 : V.1 0 = s 1) (h2 : V.1 1 = s 2) (hC : zCap T) : zOk (fX3_makeRoom T V) (fun t => (t.1 5 = s 1 ∧ t.1 6 = s 2 ∧ t.1 7 = zWords s) ∧ (∀ m, 1 ≤ m → m ≤ s 2 → t.2 4 m = zLv s m) ∧ (∀ k, 0 ≤ k → k < zLv s (s 2 + 1) → t.2 2 k = 0) ∧ (∀ w, 0 ≤ w → w < zWords s → t.2 3 w = 0) ∧ zCap t ∧ t.1 100 = zMax (T.1 100) (zWords s) ∧ t.1 101 = zMax (T.1 101) (zLv s (s 2 + 1))) := by
  unfold fX3_makeRoom
  have w1 := hW.2.1
  have w2 := hW.2.2.1
  have hw := zWords_r hW
  have hl := zLv_r hW
  have hnd := zNd_e hW hC h1 h2
  obtain ⟨c1, c2, c3⟩ := hC
  rw [h1, h2]
  refine zok_Fc 1 (mk := fun (a : Int × CV) i => (a.1, i, a.2)) (a0 := (0, zPu (zPu (zPu T 5 (s 1)) 6 (s 2)) 7 1)) (s 2 + 1) (fun i a => a.1 = zLv s i ∧ a.2.1 7 = zPw (s 1) (i - 1) ∧ zEx [5, 6, 7] [4] T a.2 ∧ a.2.1 5 = s 1 ∧ a.2.1 6 = s 2 ∧ ∀ m, 1 ≤ m → m < i → a.2.2 4 m = zLv s m) rfl (by omega) (by omega) ⟨rfl, zPw_0.symm, zEx_u (zEx_u (zEx_u zEx_0 (by decide)) (by decide)) (by decide), rfl, rfl, fun m _ _ => by omega⟩ (fun i a hi hi2 hI => ?_) (fun i a hi hi2 hi3 hi4 hI => ?_)
  · obtain ⟨bg, U⟩ := a
    obtain ⟨e1, e2, e3, e4, e5, e6⟩ := hI
    dsimp only at e1 e2 e3 e4 e5 e6 ⊢
    rw [e5, e2, e4, e1]
    have hp : zPw (s 1) (i - 1) * s 1 = zPw (s 1) i := by rw [← zPw_s (by omega), show i - 1 + 1 = i by omega]
    rw [hp]
    (repeat (first | (with_reducible refine zok_g ?_ ?_; focus omega) | with_reducible refine zok_j ?_ | (with_reducible refine zok_t ?_ ?_; focus omega) | (with_reducible refine zok_f ?_ ?_; focus omega)))
    refine zok_sl ⟨(zLv s i + zPw (s 1) i, zPu (zPa U 4 i (zLv s i)) 7 (zPw (s 1) i)), rfl, (zLv_s (by omega)).symm, ?_, zEx_u (zEx_a e3 (by decide)) (by decide), e4, e5, fun m m0 m1 => ?_⟩
    · show zPw (s 1) i = zPw (s 1) (i + 1 - 1)
      rw [show i + 1 - 1 = i by omega]
    · show (zPa U 4 i (zLv s i)).2 4 m = _
      rw [zPa_s]
      by_cases e : m = i
      · rw [e, zup_s]
      · rw [zup_n e]; exact e6 m m0 (by omega)
  · obtain ⟨bg, U⟩ := a
    obtain ⟨e1, e2, e3, e4, e5, e6⟩ := hI
    have ei := hi3 (by omega)
    subst ei
    dsimp only at e1 e2 e3 e4 e5 e6 ⊢
    have e7 : U.1 7 = zWords s := by rw [e2, show s 2 + 1 - 1 = s 2 by omega]; rfl
    rw [e5]
    (repeat (first | (with_reducible refine zok_g ?_ ?_; focus omega) | with_reducible refine zok_j ?_ | (with_reducible refine zok_t ?_ ?_; focus omega) | (with_reducible refine zok_f ?_ ?_; focus omega)))
    refine zok_sr ?_
    dsimp only
    have q100 : U.1 100 = T.1 100 := e3.1 100 (by decide)
    have q101 : U.1 101 = T.1 101 := e3.1 101 (by decide)
    have q102 : U.1 102 = T.1 102 := e3.1 102 (by decide)
    rw [q100, e7, e1]
    refine zok_g (by omega) ?_
    refine zok_jP (fun (x14 : CV) => (x14.1 5 = s 1 ∧ x14.1 6 = s 2 ∧ x14.1 7 = zWords s) ∧ x14.1 100 = zMax (T.1 100) (zWords s) ∧ x14.1 102 = zMax (T.1 100) (zWords s) ∧ x14.1 101 = T.1 101 ∧ ∀ m, 1 ≤ m → m ≤ s 2 → x14.2 4 m = zLv s m) (fun x14 hx => ?_) (fun K hK => ?_)
    · obtain ⟨f1, f2, f3, f4, f5⟩ := hx
      rw [f4]
      refine zok_g (by omega) ?_
      refine zok_jP (fun (x21 : CV) => (x21.1 5 = s 1 ∧ x21.1 6 = s 2 ∧ x21.1 7 = zWords s) ∧ x21.1 100 = zMax (T.1 100) (zWords s) ∧ x21.1 102 = zMax (T.1 100) (zWords s) ∧ x21.1 101 = zMax (T.1 101) (zLv s (s 2 + 1)) ∧ ∀ m, 1 ≤ m → m ≤ s 2 → x21.2 4 m = zLv s m) (fun x21 hx => ?_) (fun K hK => ?_)
      · obtain ⟨g1, g2, g3, g4, g5⟩ := hx
        have m1 : zWords s ≤ zMax (T.1 100) (zWords s) ∧ zMax (T.1 100) (zWords s) ≤ 4096 := by unfold zMax; split <;> omega
        have m2 : zLv s (s 2 + 1) ≤ zMax (T.1 101) (zLv s (s 2 + 1)) ∧ zMax (T.1 101) (zLv s (s 2 + 1)) ≤ 5460 := by unfold zMax; split <;> omega
        refine zok_F (mk := fun a i => (i, a)) (zLv s (s 2 + 1)) (fun i Y => zEx [] [2] x21 Y ∧ ∀ k, 0 ≤ k → k < i → Y.2 2 k = 0) rfl (by omega) ⟨zEx_0, fun k _ _ => by omega⟩ (fun i Y hi hi2 hY => ?_) (fun i Y hi hi2 hi3 hi4 hY => ?_)
        · dsimp only
          rw [hY.1.1 101 (by decide), g4]
          (repeat (first | (with_reducible refine zok_g ?_ ?_; focus omega) | with_reducible refine zok_j ?_ | (with_reducible refine zok_t ?_ ?_; focus omega) | (with_reducible refine zok_f ?_ ?_; focus omega)))
          refine zok_sl ⟨_, rfl, zEx_a hY.1 (by decide), fun k k0 k1 => ?_⟩
          rw [zPa_s]
          by_cases e : k = i
          · rw [e, zup_s]
          · rw [zup_n e]; exact hY.2 k k0 (by omega)
        · have ei := hi3 (by omega)
          subst ei
          dsimp only
          (repeat (first | (with_reducible refine zok_g ?_ ?_; focus omega) | with_reducible refine zok_j ?_ | (with_reducible refine zok_t ?_ ?_; focus omega) | (with_reducible refine zok_f ?_ ?_; focus omega)))
          refine zok_sr ?_
          dsimp only
          refine zok_F (mk := fun a i => (i, a)) (zWords s) (fun i Z => zEx [] [2, 3] x21 Z ∧ (∀ k, 0 ≤ k → k < zLv s (s 2 + 1) → Z.2 2 k = 0) ∧ ∀ w, 0 ≤ w → w < i → Z.2 3 w = 0) rfl (by omega) ⟨zEx_w hY.1 (fun _ h => h) (by decide), hY.2, fun k _ _ => by omega⟩ (fun i Z hi hi2 hZ => ?_) (fun i Z hi hi2 hi3 hi4 hZ => ?_)
          · dsimp only
            rw [hZ.1.1 7 (by decide), hZ.1.1 102 (by decide), g1.2.2, g3]
            (repeat (first | (with_reducible refine zok_g ?_ ?_; focus omega) | with_reducible refine zok_j ?_ | (with_reducible refine zok_t ?_ ?_; focus omega) | (with_reducible refine zok_f ?_ ?_; focus omega)))
            refine zok_sl ⟨_, rfl, zEx_a hZ.1 (by decide), fun k k0 k1 => ?_, fun k k0 k1 => ?_⟩
            · rw [zPa_n (by decide)]; exact hZ.2.1 k k0 k1
            · rw [zPa_s]
              by_cases e : k = i
              · rw [e, zup_s]
              · rw [zup_n e]; exact hZ.2.2 k k0 (by omega)
          · have ei := hi3 (by omega)
            subst ei
            dsimp only
            rw [hZ.1.1 7 (by decide), g1.2.2]
            (repeat (first | (with_reducible refine zok_g ?_ ?_; focus omega) | with_reducible refine zok_j ?_ | (with_reducible refine zok_t ?_ ?_; focus omega) | (with_reducible refine zok_f ?_ ?_; focus omega)))
            refine zok_sr (zok_s ⟨⟨?_, ?_, ?_⟩, fun m m0 m1 => ?_, hZ.2.1, hZ.2.2, ⟨?_, ?_, ?_⟩, ?_, ?_⟩)
            · rw [hZ.1.1 5 (by decide)]; exact g1.1
            · rw [hZ.1.1 6 (by decide)]; exact g1.2.1
            · rw [hZ.1.1 7 (by decide)]; exact g1.2.2
            · rw [hZ.1.2 4 (by decide)]; exact g5 m m0 m1
            · show 0 ≤ Z.1 100 ∧ Z.1 100 ≤ 4096
              rw [hZ.1.1 100 (by decide), g2]
              omega
            · show Z.1 102 = Z.1 100
              rw [hZ.1.1 100 (by decide), hZ.1.1 102 (by decide), g2, g3]
            · show 0 ≤ Z.1 101 ∧ Z.1 101 ≤ 5460
              rw [hZ.1.1 101 (by decide), g4]
              omega
            · rw [hZ.1.1 100 (by decide), g2]
            · rw [hZ.1.1 101 (by decide), g4]
      · (repeat (first | (with_reducible refine zok_g ?_ ?_; focus omega) | with_reducible refine zok_j ?_ | (with_reducible refine zok_t ?_ ?_; focus omega) | (with_reducible refine zok_f ?_ ?_; focus omega)))
        refine zok_i (fun c => ?_) (fun c => ?_)
        · refine zok_g ?_ (hK x14 ⟨f1, f2, f3, by rw [f4]; unfold zMax; rw [if_neg (by omega)], f5⟩)
          constructor <;> (have : zNd T V ≤ 1 := by rw [hnd]; split <;> omega) <;> omega
        · have hn1 : zNd T V = 1 := by rw [hnd, if_neg (fun z => c z.2)]
          rw [hn1]
          refine zok_g ⟨by omega, by omega, by omega, by omega⟩ (hK (zNe x14 101 2 (zLv s (s 2 + 1))) ⟨f1, f2, f3, ?_, f5⟩)
          show zLv s (s 2 + 1) = _
          unfold zMax
          rw [if_pos (by omega)]
    · (repeat (first | (with_reducible refine zok_g ?_ ?_; focus omega) | with_reducible refine zok_j ?_ | (with_reducible refine zok_t ?_ ?_; focus omega) | (with_reducible refine zok_f ?_ ?_; focus omega)))
      refine zok_i (fun c => ?_) (fun c => ?_)
      · have em : zMax (T.1 100) (zWords s) = T.1 100 := by unfold zMax; rw [if_neg (by omega)]
        exact hK U ⟨⟨e4, e5, e7⟩, by rw [q100, em], by rw [q102, c2, em], q101, fun m m0 m1 => e6 m m0 (by omega)⟩
      · have hn1 : zNd T V = 1 := by rw [hnd, if_neg (fun z => c z.1)]
        have em : zMax (T.1 100) (zWords s) = zWords s := by unfold zMax; rw [if_pos (by omega)]
        rw [hn1]
        refine zok_g ⟨by omega, by omega, by omega, by omega⟩ (zok_g ⟨by omega, by omega⟩ (zok_g ⟨by omega, by omega⟩ ?_))
        exact hK (zNe (zNe U 100 1 (zWords s)) 102 3 (zWords s)) ⟨⟨e4, e5, e7⟩, em.symm, em.symm, q101, fun m m0 m1 => e6 m m0 (by omega)⟩
end ZGO
