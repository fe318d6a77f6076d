section ZRE
variable {bf : Int → Int} {n : Int}
/-- what the model's reader of texts writes down -/
def zFs (m v : CV) : Prop := zEx [4, 5, 6, 7, 8, 9, 10, 13, 24] [2, 7] m v ∧ (∀ j, j < 0 ∨ 351 ≤ j → v.2 2 j = m.2 2 j) ∧ ∀ j, j < 0 ∨ 10 ≤ j → v.2 7 j = m.2 7 j
theorem zFs_0 {m : CV} : zFs m m := ⟨zEx_0, fun _ _ => rfl, fun _ _ => rfl⟩
theorem zFs_t {m v t : CV} (h : zFs m v) (h2 : zFs v t) : zFs m t := ⟨zEx_t h.1 h2.1, fun j hj => (h2.2.1 j hj).trans (h.2.1 j hj), fun j hj => (h2.2.2 j hj).trans (h.2.2 j hj)⟩
theorem zFs_e {m v t : CV} {ns : List Nat} (h : zFs m v) (e : zEx ns [] v t) (hn : ∀ k ∈ ns, k ∈ [4, 5, 6, 7, 8, 9, 10, 13, 24]) : zFs m t := ⟨zEx_t h.1 (zEx_w e hn (fun k hk => absurd hk List.not_mem_nil)), fun j hj => by rw [e.2 2 List.not_mem_nil]; exact h.2.1 j hj, fun j hj => by rw [e.2 7 List.not_mem_nil]; exact h.2.2 j hj⟩
/-- how the text ends -/
def zFiT (bf : Int → Int) (n : Int) (T m : CV) (x : CV × CV × CV × Bool) (y : CV) : Prop := zEx [2, 3, 4, 5, 6, 7] [] T x.2.1 ∧ zFs m y ∧ ((x.2.2.2 = true ∧ zB1 x.2.2.1 (y.2 2) (y.2 7) ∧ (x.2.1.1 6 = 0 ∧ y.1 9 = 0 ∧ x.2.1.1 7 = -1 ∧ y.1 10 = -1)) ∨ (x.2.2.2 = false ∧ zTE bf n x.2.1 y))
theorem z_readL {R T V m : CV} (h : zTR bf n T m) (hR : zRd R m) (hBr : zBr V (m.2 2) (m.2 7)) : zOk ((zLp (σ := Int × CV × CV × CV) (ρ := (Int × CV × CV × CV)) (fun s5 => zG (iR s5.1) <| if 600 ≤ s5.1 then (some (.inr (s5.1, s5.2.1, s5.2.2.1, s5.2.2.2))) else (zG (iR (s5.2.2.1.1 6)) <| if (s5.2.2.1.1 6) = 0 then (zG (iR (s5.2.2.1.1 2)) <| if (s5.2.2.1.1 2) = 0 then (some (.inr (s5.1, s5.2.1, s5.2.2.1, s5.2.2.2))) else ((fX5_readStatement s5.2.1 s5.2.2.1 s5.2.2.2).bind fun t24 => (fX6_passMark t24.2.1 59).bind fun t26 => some (.inl (s5.1 + 1, t24.1, t26, t24.2.2)))) else (some (.inr (s5.1, s5.2.1, s5.2.2.1, s5.2.2.2))))) zFu (0, R, T, V)).bind (fun y5 => zG (iR (y5.2.2.1.1 6)) <| if (y5.2.2.1.1 6) = 0 then (some (y5.2.1, y5.2.2.1, y5.2.2.2, true)) else (some (y5.2.1, y5.2.2.1, y5.2.2.2, false)))) (fun x => zOk (zLp (σ := CV) (ρ := CV) (fun s11 => (fX8_isGood s11).bind fun t36 => if t36 = true then (zG (iR (s11.1 6)) <| if (s11.1 6) = 0 then (some (.inr s11)) else ((fX8_statement s11).bind fun t41 => some (.inl t41))) else (some (.inr s11))) zFu m) (fun y => zFiT bf n T m x y)) := by
  have h04 := h.1.r
  refine zok_LL (I := fun (s : Int × CV × CV × CV) (t : CV) => (0 ≤ s.1 ∧ s.1 ≤ 601) ∧ zEx [2, 3, 4, 5, 6, 7] [] T s.2.2.1 ∧ zFs m t ∧ ((zTR bf n s.2.2.1 t ∧ zRd s.2.1 t ∧ zBr s.2.2.2 (t.2 2) (t.2 7) ∧ s.1 ≤ s.2.2.1.1 4) ∨ zTE bf n s.2.2.1 t)) (μ := fun s => (700 - s.1).toNat) ⟨by show (0 : Int) ≤ 0 ∧ (0 : Int) ≤ 601; omega, zEx_0, zFs_0, Or.inl ⟨h, hR, hBr, h04.2.1⟩⟩ (by show (700 - (0 : Int)).toNat < 100000; omega) (fun s t hI => ?_)
  obtain ⟨k, R', T', V'⟩ := s
  obtain ⟨⟨k0, k1⟩, hTE, hFs, hI⟩ := hI
  dsimp only at k0 k1 hTE hI ⊢
  rcases hI with ⟨g1, g2, g3, g4⟩ | g
  · obtain ⟨hT0, hM0, ⟨e1, e2, e3⟩, c1, c2, c3, c4⟩ := id g1
    obtain ⟨r1, r2, r3, r4, r5, r6, r7, r8⟩ := hT0.r
    rw [c1]
    by_cases q : T'.1 2 = 0
    · rw [q]
      refine zok_v (x := .inr (k, R', T', V')) (zok_q ?_) ?_
      · refine zok_g (by omega) (zok_i (fun _ => zok_s rfl) (fun _ => zok_g (by decide) (zok_t rfl (zok_g (by decide) (zok_t rfl (zok_s rfl))))))
      · refine zok_e (y_good0 c2) (zok_t rfl (zok_g (by omega) (zok_t (by omega) (zok_s ?_))))
        show zOk (zG (iR (T'.1 6)) <| if (T'.1 6) = 0 then (some (R', T', V', true)) else (some (R', T', V', false))) _
        rw [c1]
        exact zok_g (by decide) (zok_t rfl (zok_s ⟨hTE, hFs, Or.inl ⟨rfl, zBr_1 g3, c1, c2, c3, c4⟩⟩))
    · have hlt := r6 q
      refine zok_g (by omega) (zok_f (by omega) (zok_g (by decide) (zok_t rfl (zok_g (by omega) (zok_f q ?_)))))
      refine zok_b (z_statement (R := R') (V := V') g1 g2 g3) (fun x hx => ?_)
      obtain ⟨v, ⟨f1, f2, f3⟩, ev⟩ := hx
      have f2' : zFs t v := f2
      rcases f3 with ⟨w1, w2, w3, w4⟩ | w
      · refine zok_b (z_mark w1 (c := 59) (by decide)) (fun T2 hT2 => zok_s ?_)
        obtain ⟨u, eu, ⟨a1, a2⟩, a3⟩ := hT2
        refine zok_e (y_good0 c2) (zok_t rfl (zok_g (by omega) (zok_f (by omega) ?_)))
        refine zok_e (ev.trans eu) (zok_s ⟨⟨?_, zEx_t (zEx_t hTE f1) a1, zFs_e (zFs_t hFs f2') a2 (by decide), ?_⟩, ?_⟩)
        · show 0 ≤ k + 1 ∧ k + 1 ≤ 601
          omega
        · rcases a3 with ⟨b1, b2'⟩ | b
          · have x5 := w1.1.r
            refine Or.inl ⟨b1, ?_, ?_, ?_⟩
            · show u.1 24 = 2 * x.1.1 0 ∧ _
              rw [a2.1 24 (by decide)]
              exact w2
            · show zBr x.2.2 (u.2 2) (u.2 7)
              rw [a2.2 2 (by decide), a2.2 7 (by decide)]
              exact w3
            · show k + 1 ≤ T2.1 4
              omega
          · exact Or.inr b
        · show (700 - (k + 1)).toNat < (700 - k).toNat
          omega
      · have w6 := w.ne
        refine zok_b (x_passMarkX w.1 w6.1 w6.2 (c := 59) (by decide)) (fun T2 hT2 => zok_s ?_)
        refine zok_e (y_good0 c2) (zok_t rfl (zok_g (by omega) (zok_f (by omega) ?_)))
        refine zok_e (ev.trans (y_mustSignE w.2.1)) (zok_s ⟨⟨?_, zEx_t (zEx_t hTE f1) (zEx_w hT2.2 (by decide) (by decide)), zFs_t hFs f2', Or.inr (zTE_X w hT2)⟩, ?_⟩)
        · show 0 ≤ k + 1 ∧ k + 1 ≤ 601
          omega
        · show (700 - (k + 1)).toNat < (700 - k).toNat
          omega
  · have w6 := g.ne
    refine zok_v (x := .inr (k, R', T', V')) (zok_q ?_) ?_
    · refine zok_g (by omega) (zok_i (fun _ => zok_s rfl) (fun _ => zok_g w6.2 (zok_f w6.1 (zok_s rfl))))
    · refine zok_e (y_goodE g.2.1) (zok_f Bool.false_ne_true (zok_s ?_))
      show zOk (zG (iR (T'.1 6)) <| if (T'.1 6) = 0 then (some (R', T', V', true)) else (some (R', T', V', false))) _
      exact zok_g w6.2 (zok_f w6.1 (zok_s ⟨hTE, hFs, Or.inr ⟨rfl, g⟩⟩))
/-- both begin -/
theorem z_begin {T m : CV} (h : zRt T m) : zOk (fX6_begin T) (fun t => zOk (fX8_beginsText m) (fun u => zTR (m.2 1) (m.1 2) t u ∧ zEx [2, 3, 4, 5, 6, 7] [] T t ∧ zEx [2, 3, 4, 5, 6, 7, 8, 9, 10, 13] [] m u ∧ u.1 2 = 0)) := by
  obtain ⟨⟨a1, a2, a3⟩, b, c, d⟩ := h
  have hT0 : zTc0 (m.2 1) (m.1 2) (zPu (zPu (zPu T 6 0) 7 (-1)) 5 0) := ⟨a1, ⟨a2, a3⟩, fun k k0 k1 => b k k0 k1⟩
  have hM0 : zMc0 (m.2 1) (m.1 2) (zPu (zPu (zPu (zPu (zPu m 3 (m.1 2)) 2 0) 4 0) 9 0) 10 (-1)) := ⟨rfl, ⟨a2, a3⟩, fun k k0 k1 => ⟨(b k k0 k1).1, rfl⟩⟩
  unfold fX6_begin fX8_beginsText
  refine zok_b (c_next hT0 ⟨by show (0 : Int) ≤ 0; omega, by show (0 : Int) ≤ m.1 2; exact a2⟩) (fun t ht => zok_s ?_)
  refine zok_b (m_goOn hM0 ⟨by show (0 : Int) ≤ 0; omega, by show (0 : Int) ≤ m.1 2; exact a2⟩) (fun u hu => zok_s ?_)
  have hE : zEx [2, 3, 4, 5, 6, 7, 8, 9, 10, 13] [] m (zPu (zPu (zPu (zPu (zPu m 3 (m.1 2)) 2 0) 4 0) 9 0) 10 (-1)) := zEx_u (zEx_u (zEx_u (zEx_u (zEx_u zEx_0 (by decide)) (by decide)) (by decide)) (by decide)) (by decide)
  have hET : zEx [2, 3, 4, 5, 6, 7] [] T (zPu (zPu (zPu T 6 0) 7 (-1)) 5 0) := zEx_u (zEx_u (zEx_u zEx_0 (by decide)) (by decide)) (by decide)
  have e := zTok_u ht.2.1 hu.2.1
  refine ⟨⟨⟨zTc0_e hT0 ht.1 (by decide) (by decide), ⟨0, ⟨by omega, a2⟩, ht.2.1⟩, ht.2.2⟩, ⟨zMc0_e hM0 hu.1 (by decide) (by decide), ⟨0, ⟨by omega, a2⟩, hu.2.1⟩, hu.2.2⟩, ⟨e.2.2, e.1, e.2.1⟩, ?_, ?_, ?_, ?_⟩, zEx_t hET (zEx_w ht.1 (by decide) (by decide)), zEx_t hE (zEx_w hu.1 (by decide) (by decide)), ?_⟩
  · rw [ht.1.1 6 (by decide)]; rfl
  · rw [hu.1.1 9 (by decide)]; rfl
  · rw [ht.1.1 7 (by decide)]; rfl
  · rw [hu.1.1 10 (by decide)]; rfl
  · rw [hu.1.1 2 (by decide)]; rfl
theorem zBnS {α : Type} (o : Option α) : o.bind some = o := by cases o <;> rfl
theorem y_nms {t3 : CV} : zOk (zLp (σ := Int × CV) (ρ := (Int × CV)) (fun s5 => zG (iR s5.1) <| if 10 ≤ s5.1 then (some (.inr (s5.1, s5.2))) else (zG (0 ≤ s5.1 ∧ s5.1 < 10) <| some (.inl (s5.1 + 1, (zPa s5.2 9 s5.1 (s5.2.2 7 s5.1)))))) zFu (0, t3)) (fun y => zEx [] [9] t3 y.2 ∧ ∀ j, 0 ≤ j → j < 10 → y.2.2 9 j = t3.2 7 j) := by
  rw [← zBnS (zLp _ _ _)]
  refine zok_F (β := CV) (mk := fun a i => (i, a)) 10 (fun i a => zEx [] [9] t3 a ∧ ∀ j, 0 ≤ j → j < i → a.2 9 j = t3.2 7 j) (a0 := t3) rfl (by omega) ⟨zEx_0, fun j _ _ => by omega⟩ (fun i a hi hi2 hI => ?_) (fun i a hi hi2 hi3 hi4 hI => ?_)
  · dsimp only
    rw [hI.1.2 7 (by decide)]
    refine zok_g (by omega) (zok_f (by omega) (zok_g (by omega) (zok_sl ⟨_, rfl, zEx_a hI.1 (by decide), fun j j0 j1 => ?_⟩)))
    rw [zPa_s]
    by_cases e : j = i
    · rw [e, zup_s]
    · rw [zup_n e]; exact hI.2 j j0 (by omega)
  · have ei := hi3 (by omega)
    subst ei
    dsimp only
    exact zok_g (by omega) (zok_t (by omega) (zok_sr (zok_s hI)))
theorem m_clears {m : CV} : zOk (fX8_clears m) (fun t => zEx [] [2] m t ∧ (t.2 2 1 = 4 ∧ t.2 2 2 = 3 ∧ t.2 2 3 = 1) ∧ (∀ j, 0 ≤ j → j < 351 → j ≠ 1 → j ≠ 2 → j ≠ 3 → t.2 2 j = 0) ∧ ∀ j, j < 0 ∨ 351 ≤ j → t.2 2 j = m.2 2 j) := by
  unfold fX8_clears
  refine zok_F (β := CV) (mk := fun a i => (i, a)) 351 (fun i a => zEx [] [2] m a ∧ (∀ j, 0 ≤ j → j < i → a.2 2 j = 0) ∧ ∀ j, j < 0 ∨ 351 ≤ j → a.2 2 j = m.2 2 j) (a0 := m) rfl (by omega) ⟨zEx_0, fun j _ _ => by omega, fun _ _ => rfl⟩ (fun i a hi hi2 hI => ?_) (fun i a hi hi2 hi3 hi4 hI => ?_)
  · dsimp only
    refine zok_g (by omega) (zok_f (by omega) (zok_g (by omega) (zok_sl ⟨_, rfl, zEx_a hI.1 (by decide), fun j j0 j1 => ?_, fun j hj => ?_⟩)))
    · rw [zPa_s]
      by_cases e : j = i
      · rw [e, zup_s]
      · rw [zup_n e]; exact hI.2.1 j j0 (by omega)
    · rw [zPa_s, zup_n (by omega)]
      exact hI.2.2 j hj
  · have ei := hi3 (by omega)
    subst ei
    dsimp only
    refine zok_g (by omega) (zok_t (by omega) (zok_sr (zok_s ⟨zEx_a (zEx_a (zEx_a hI.1 (by decide)) (by decide)) (by decide), ⟨?_, ?_, ?_⟩, fun j j0 j1 j2 j3 j4 => ?_, fun j hj => ?_⟩)))
    · rw [zPa_s, zPa_s, zPa_s, zup_n (by omega), zup_n (by omega), zup_s]
    · rw [zPa_s, zPa_s, zPa_s, zup_n (by omega), zup_s]
    · rw [zPa_s, zPa_s, zPa_s, zup_s]
    · rw [zPa_s, zPa_s, zPa_s, zup_n j4, zup_n j3, zup_n j2]
      exact hI.2.1 j j0 j1
    · rw [zPa_s, zPa_s, zPa_s, zup_n (by omega), zup_n (by omega), zup_n (by omega)]
      exact hI.2.2 j hj
theorem y_endsText {m : CV} (hr : iR (m.1 9)) : fX8_endsText m = some (zPu (zPu (zPu m 11 (m.1 9)) 12 (m.1 10)) 0 (if m.1 9 = 0 then 0 else 1), decide (m.1 9 = 0)) := by
  apply zok_q
  unfold fX8_endsText
  refine zok_jP (fun (k : Int) => k = b2 (decide (m.1 9 = 0))) (fun k hk => ?_) (fun K hK => zok_g hr (zok_i (fun c => hK _ ?_) (fun c => hK _ ?_)))
  · rw [hk]
    refine zok_e m_gob (zok_s ?_)
    by_cases c : m.1 9 = 0
    · rw [decide_eq_true c, if_pos c]; rfl
    · rw [decide_eq_false c, if_neg c]; rfl
  · rw [decide_eq_true c]; rfl
  · rw [decide_eq_false c]; rfl
theorem zRR_c2 {σ σ' : CS} {m : CV} (h : zRR σ m) (e : ∀ k, k ≠ 2 → k ≠ 3 → k ≠ 6 → k ≠ 9 → σ' k = σ k) : zRR σ' m := by
  unfold zRR zRp at h ⊢
  rw [e 0 (by decide) (by decide) (by decide) (by decide), e 1 (by decide) (by decide) (by decide) (by decide), e 4 (by decide) (by decide) (by decide) (by decide), e 5 (by decide) (by decide) (by decide) (by decide), e 7 (by decide) (by decide) (by decide) (by decide), e 8 (by decide) (by decide) (by decide) (by decide), e 10 (by decide) (by decide) (by decide) (by decide)]
  refine ⟨h.1, h.2.1, h.2.2.1, ⟨h.2.2.2.1.1, h.2.2.2.1.2.1, fun p p0 p1 => ?_⟩, h.2.2.2.2⟩
  rw [e (11 + p.toNat) (by omega) (by omega) (by omega) (by omega)]
  exact h.2.2.2.1.2.2 p p0 p1
theorem s_readText {σ : CS} {m : CV} (h : zRR σ m) : zCl [zIA] (fX7_readText σ) (fX8_readText m) := by
  obtain ⟨p1, p2, p3, p4, p5, p6, p7⟩ := id h
  obtain ⟨t, et, u, eu, hTR, hTE, hME, hu2⟩ := z_begin p1
  obtain ⟨u1, eu1, hu1, hA1⟩ := m_laysAside (m := u)
  obtain ⟨y5, ey5, hy5, hN5⟩ := y_nms (t3 := u1)
  obtain ⟨u2, eu2, hu2E, hc1, hc2, hc3⟩ := m_clears (m := y5.2)
  have hwE0 : zEx [24] [2, 5, 9] u (zPu u2 24 0) := zEx_u (zEx_t (zEx_t (zEx_w hu1 (by decide) (by decide)) (zEx_w hy5 (by decide) (by decide))) (zEx_w hu2E (by decide) (by decide))) (by decide)
  have hTRw : zTR (m.2 1) (m.1 2) t (zPu u2 24 0) := zTR_m hTR hwE0 (by decide) (by decide)
  have hBr : zBr (zPu (zPu (zPu (zPu (zPu (zPu (σ 6) 0 4) 1 3) 2 1) 3 0) 4 0) 5 0) ((zPu u2 24 0).2 2) ((zPu u2 24 0).2 7) := by
    have s0 : u2.2 2 0 = 0 := hc2 0 (by omega) (by omega) (by omega) (by omega) (by omega)
    have s4 : u2.2 2 4 = 0 := hc2 4 (by omega) (by omega) (by omega) (by omega) (by omega)
    show zBr _ (u2.2 2) (u2.2 7)
    unfold zBr
    rw [s0, hc1.1, hc1.2.1, hc1.2.2, s4]
    refine ⟨by decide, ⟨rfl, rfl, rfl, rfl, rfl, rfl⟩, fun r r0 r1 => by omega, fun r r0 r1 => ⟨hc2 _ (by omega) (by omega) (by omega) (by omega) (by omega), hc2 _ (by omega) (by omega) (by omega) (by omega) (by omega)⟩⟩
  have hRd : zRd (zPu (σ 2) 0 0) (zPu u2 24 0) := ⟨by rw [zPu_s, zPu_s]; rfl, by rw [zPu_s]; decide⟩
  obtain ⟨x, ex, y, ey, hfT, hfM, hf⟩ := z_readL (R := zPu (σ 2) 0 0) (V := zPu (zPu (zPu (zPu (zPu (zPu (σ 6) 0 4) 1 3) 2 1) 3 0) 4 0) 5 0) hTRw hRd hBr
  have hread : fX5_read (σ 2) (σ 1) (σ 6) = some x := by
    apply zok_q
    unfold fX5_read
    refine zok_e (show fX0_empty (σ 6) = some _ from rfl) ?_
    refine zok_e et ?_
    exact zok_v ex rfl
  have hxE : zEx [2, 3, 4, 5, 6, 7] [] (σ 1) x.2.1 := zEx_t hTE hfT
  -- what the model has kept
  have yE : zEx [2, 3, 4, 5, 6, 7, 8, 9, 10, 13, 24] [2, 5, 7, 9] m y := zEx_t (zEx_t (zEx_w hME (by decide) (by decide)) (zEx_w hwE0 (by decide) (by decide))) (zEx_w hfM.1 (by decide) (by decide))
  have y2 : y.1 2 = 0 := by rw [hfM.1.1 2 (by decide), hwE0.1 2 (by decide)]; exact hu2
  unfold zCl fX7_readText
  refine zok_e hread ?_
  rcases hf with ⟨f1, f2, f3, f4, f5, f6⟩ | ⟨f1, f2⟩
  · refine zok_t f1 ?_
    refine zok_b (x_replaceBoard f2) (fun τ hτ => zok_s ?_)
    obtain ⟨tk, t4, t7, t8⟩ := hτ
    unfold fX8_readText
    refine zok_e eu (zok_e eu1 (zok_e ey5 (zok_e eu2 (zok_e ey ?_))))
    have ee := y_endsText (m := y) (by rw [f4]; decide)
    rw [if_pos f4, decide_eq_true f4, f4, f6] at ee
    refine zok_e ee (zok_t rfl (zok_s ?_))
    have hE : zEx [0, 2, 3, 4, 5, 6, 7, 8, 9, 10, 11, 12, 13, 22, 24] [2, 5, 7, 9] m (zPu (zPu (zPu (zPu y 11 0) 12 (-1)) 0 0) 22 0) := zEx_u (zEx_u (zEx_u (zEx_u (zEx_w yE (by decide) (by decide)) (by decide)) (by decide)) (by decide)) (by decide)
    dsimp only
    refine ⟨⟨?_, ?_, ?_, ⟨?_, ?_, fun p q0 q1 => ?_⟩, ?_, ?_, ?_⟩, ?_⟩
    · rw [zSu_n (by decide), tk 1 (by decide) (by decide) (by decide), zSu_s]
      refine ⟨⟨?_, ?_⟩, fun k k0 k1 => ?_, ⟨?_, ?_⟩, ⟨?_, ?_⟩⟩
      · rw [zPu_s]; exact y2.symm
      · show 0 ≤ y.1 2 ∧ y.1 2 ≤ 600
        omega
      · have k2 : k < y.1 2 := k1
        omega
      · show x.2.1.1 6 = 0
        exact f3
      · show (0 : Int) ≤ 0 ∧ (0 : Int) ≤ 10
        decide
      · show x.2.1.1 7 = -1
        exact f5
      · show -1 ≤ (-1 : Int) ∧ (-1 : Int) ≤ 600
        decide
    · rw [zSu_n (by decide)]
      exact t4
    · unfold zRs at p3 ⊢
      rw [zSu_s, zPu_n (by decide), zSu_n (by decide), tk 0 (by decide) (by decide) (by decide), tk 5 (by decide) (by decide) (by decide), zSu_n (by decide), zSu_n (by decide), zSu_n (by decide), zSu_n (by decide), zSu_n (by decide), zSu_n (by decide), zSu_n (by decide), zSu_n (by decide), hE.1 23 (by decide), hE.2 3 (by decide), hE.2 8 (by decide)]
      exact p3
    · rw [zSu_s, zPu_s, zPu_s]
    · rw [zPu_s]; omega
    · rw [zPu_s] at q1; omega
    · rw [zSu_n (by decide), zSu_n (by decide), t7, t8, zSu_n (by decide), zSu_n (by decide), zSu_n (by decide), zSu_n (by decide), zSu_n (by decide), zSu_n (by decide), zSu_n (by decide), zSu_n (by decide)]
      exact zRe_f p5.1.1 p5.2.1
    · rw [zSu_n (by decide), tk 10 (by decide) (by decide) (by decide), zSu_n (by decide), zSu_n (by decide), zSu_n (by decide), zSu_n (by decide)]; exact p6
    · unfold zRr at p7 ⊢
      try dsimp only
      rw [zSu_s, tk 0 (by decide) (by decide) (by decide), zSu_n (by decide), zSu_n (by decide), zSu_n (by decide), zSu_n (by decide), hE.1 47 (by decide), hE.1 48 (by decide), hE.2 20 (by decide), zPu_n (m := σ 0) (k := 13) (by decide), zPu_2]
      exact p7
    · have e3 : (τ 4).1 3 = y.2 2 0 := t4.2.1.2.2.2.1
      refine zAn_v rfl e3 ?_
      rw [e3]
      have := t4.1.1
      exact ⟨by omega, by omega⟩
  · rw [f1]
    refine zok_f Bool.false_ne_true (zok_s ?_)
    unfold fX8_readText
    refine zok_e eu (zok_e eu1 (zok_e ey5 (zok_e eu2 (zok_e ey ?_))))
    have g9 := f2.2.1
    have ee := y_endsText (m := y) ⟨by omega, by omega⟩
    rw [if_neg (by omega), decide_eq_false (by omega)] at ee
    refine zok_e ee (zok_f Bool.false_ne_true ?_)
    obtain ⟨z0, hz0⟩ : ∃ z, z = zPu (zPu (zPu y 11 (y.1 9)) 12 (y.1 10)) 0 1 := ⟨_, rfl⟩
    rw [← hz0]
    have z0E : zEx [0, 11, 12] [] y z0 := by rw [hz0]; exact zEx_u (zEx_u (zEx_u zEx_0 (by decide)) (by decide)) (by decide)
    have z5a : z0.2 5 = u1.2 5 := by
      rw [z0E.2 5 (by decide), hfM.1.2 5 (by decide)]
      show u2.2 5 = _
      rw [hu2E.2 5 (by decide), hy5.2 5 (by decide)]
    have z9a : z0.2 9 = y5.2.2 9 := by
      rw [z0E.2 9 (by decide), hfM.1.2 9 (by decide)]
      show u2.2 9 = _
      rw [hu2E.2 9 (by decide)]
    have zo2 : ∀ j, j < 0 ∨ 351 ≤ j → z0.2 2 j = m.2 2 j := fun j hj => by
      rw [z0E.2 2 (by decide), hfM.2.1 j hj]
      show u2.2 2 j = _
      rw [hc3 j hj, hy5.2 2 (by decide), hu1.2 2 (by decide), hME.2 2 (by decide)]
    have zo7 : ∀ j, j < 0 ∨ 10 ≤ j → z0.2 7 j = m.2 7 j := fun j hj => by
      rw [z0E.2 7 (by decide), hfM.2.2 j hj]
      show u2.2 7 j = _
      rw [hu2E.2 7 (by decide), hy5.2 7 (by decide), hu1.2 7 (by decide), hME.2 7 (by decide)]
    have hA : ∀ j, 0 ≤ j → j < 351 → z0.2 5 j = m.2 2 j := fun j j0 j1 => by
      rw [z5a, ← hA1 j j0 j1, hME.2 2 (by decide)]
    have hN : ∀ j, 0 ≤ j → j < 10 → z0.2 9 j = m.2 7 j := fun j j0 j1 => by
      rw [z9a, hN5 j j0 j1, hu1.2 7 (by decide), hME.2 7 (by decide)]
    refine zok_F (β := CV) (mk := fun a i => (i, a)) 351 (fun i a => zEx [] [2] z0 a ∧ (∀ j, 0 ≤ j → j < i → a.2 2 j = m.2 2 j) ∧ ∀ j, j < 0 ∨ 351 ≤ j → a.2 2 j = m.2 2 j) (a0 := z0) rfl (by omega) ⟨zEx_0, fun j _ _ => by omega, zo2⟩ (fun i a hi hi2 hI => ?_) (fun i a hi hi2 hi3 hi4 hI => ?_)
    · dsimp only
      rw [hI.1.2 5 (by decide), hA i hi hi2]
      refine zok_g (by omega) (zok_f (by omega) (zok_g (by omega) (zok_sl ⟨_, rfl, zEx_a hI.1 (by decide), fun j j0 j1 => ?_, fun j hj => ?_⟩)))
      · rw [zPa_s]
        by_cases e : j = i
        · rw [e, zup_s]
        · rw [zup_n e]; exact hI.2.1 j j0 (by omega)
      · rw [zPa_s, zup_n (by omega)]
        exact hI.2.2 j hj
    · have ei := hi3 (by omega)
      subst ei
      obtain ⟨aE, aA, aO⟩ := hI
      dsimp only
      refine zok_g (by omega) (zok_t (by omega) (zok_sr ?_))
      refine zok_F (β := CV) (mk := fun a i => (i, a)) 10 (fun i b => zEx [] [7] a b ∧ (∀ j, 0 ≤ j → j < i → b.2 7 j = m.2 7 j) ∧ ∀ j, j < 0 ∨ 10 ≤ j → b.2 7 j = m.2 7 j) (a0 := a) rfl (by omega) ⟨zEx_0, fun j _ _ => by omega, fun j hj => by rw [aE.2 7 (by decide)]; exact zo7 j hj⟩ (fun i b hi hi2 hI => ?_) (fun i b hi hi2 hi3 hi4 hI => ?_)
      · dsimp only
        rw [hI.1.2 9 (by decide), aE.2 9 (by decide), hN i hi hi2]
        refine zok_g (by omega) (zok_f (by omega) (zok_g (by omega) (zok_sl ⟨_, rfl, zEx_a hI.1 (by decide), fun j j0 j1 => ?_, fun j hj => ?_⟩)))
        · rw [zPa_s]
          by_cases e : j = i
          · rw [e, zup_s]
          · rw [zup_n e]; exact hI.2.1 j j0 (by omega)
        · rw [zPa_s, zup_n (by omega)]
          exact hI.2.2 j hj
      · have ei := hi3 (by omega)
        subst ei
        obtain ⟨bE, bA, bO⟩ := hI
        dsimp only
        refine zok_g (by omega) (zok_t (by omega) (zok_sr (zok_s ⟨?_, ?_⟩)))
        · have b2f : b.2 2 = m.2 2 := by
            rw [bE.2 2 (by decide)]
            funext j
            by_cases c : 0 ≤ j ∧ j < 351
            · exact aA j c.1 c.2
            · exact aO j (by omega)
          have b7f : b.2 7 = m.2 7 := by
            funext j
            by_cases c : 0 ≤ j ∧ j < 10
            · exact bA j c.1 c.2
            · exact bO j (by omega)
          have bE0 : zEx [0, 11, 12] [2, 7] y b := zEx_t (zEx_t (zEx_w z0E (by decide) (by decide)) (zEx_w aE (by decide) (by decide))) (zEx_w bE (by decide) (by decide))
          have bM : zEx [0, 2, 3, 4, 5, 6, 7, 8, 9, 10, 11, 12, 13, 24] [2, 5, 7, 9] m b := zEx_t (zEx_w yE (by decide) (by decide)) (zEx_w bE0 (by decide) (by decide))
          have bM2 : zEx [0, 2, 3, 4, 5, 6, 7, 8, 9, 10, 11, 12, 13, 24] [5, 9] m b := ⟨bM.1, fun k hk => by
            by_cases k2 : k = 2
            · rw [k2]; exact b2f
            · by_cases k7 : k = 7
              · rw [k7]; exact b7f
              · exact bM.2 k (by simp only [List.mem_cons, List.not_mem_nil, or_false, not_or] at hk ⊢; exact ⟨k2, hk.1, k7, hk.2⟩)⟩
          have hnew : zRR (zSu σ 1 (zPu x.2.1 1 0)) b := by
            refine zRR_t h bM2 (by decide) (by decide) ?_
            have b2n : b.1 2 = 0 := by rw [bE0.1 2 (by decide)]; exact y2
            have b11 : b.1 11 = y.1 9 := by rw [bE.1 11 (by decide), aE.1 11 (by decide), hz0]; rfl
            have g10 := f2.2.2.2.2
            have b12 : b.1 12 = y.1 10 := by rw [bE.1 12 (by decide), aE.1 12 (by decide), hz0]; rfl
            unfold zRt
            rw [b2n, b11, b12]
            refine ⟨⟨rfl, by omega, by omega⟩, fun k k0 k1 => by omega, ⟨f2.2.2.1, by omega, by omega⟩, ⟨f2.2.2.2.1, by omega, by omega⟩⟩
          refine zRR_c2 hnew (fun k k2 k3 k6 k9 => ?_)
          by_cases k1 : k = 1
          · rw [k1, zSu_s, zSu_s]
          · rw [zSu_n k1, zSu_n k6, zSu_n k1, zSu_n k2, zSu_n k1]
        · have b0 : b.1 0 = 1 := by rw [bE.1 0 (by decide), aE.1 0 (by decide), hz0]; rfl
          exact zAn_e 0 rfl b0
end ZRE
