section ZYR
theorem z_readS {S T V m : CV} (h : zRt T m) (hB : zB1 V (m.2 2) (m.2 7)) : ∃ S' T' ok w, fX2_read S T V = some (S', T', ok) ∧ (∀ {Q : CV × Int → Prop}, zOk (zScE w) Q → zOk (fX8_runScript m) Q) ∧ zYT T T' ∧ zEx [2, 3, 4, 5, 6, 7, 8, 9, 10, 13, 42, 43, 44] [15, 16, 17] m w ∧ w.1 2 = 0 ∧ ((ok = true ∧ (T'.1 6 = 0 ∧ w.1 9 = 0 ∧ T'.1 7 = -1 ∧ w.1 10 = -1) ∧ (0 ≤ S'.1 3 ∧ S'.1 3 ≤ 30) ∧ (0 ≤ w.1 42 ∧ w.1 42 ≤ 60) ∧ zYb S' w (m.2 2 0) (zWords (m.2 2)) 2 0 (S'.1 3) 0 (w.1 42)) ∨ (ok = false ∧ zTE (m.2 1) (m.1 2) T' w)) := by
  obtain ⟨t, et, u, eu, hTR, hTE, hME, u2⟩ := z_begin h
  obtain ⟨m0, hm0⟩ : ∃ q, q = zPu (zPu (zPu u 42 0) 43 0) 44 0 := ⟨_, rfl⟩
  obtain ⟨S0, hS0⟩ : ∃ q, q = zPu (zPu S 3 0) 6 0 := ⟨_, rfl⟩
  have m0E : zEx [42, 43, 44] [] u m0 := by rw [hm0]; exact zEx_u (zEx_u (zEx_u zEx_0 (by decide)) (by decide)) (by decide)
  have q42 : m0.1 42 = 0 := by rw [hm0, zPu_n (by decide), zPu_n (by decide), zPu_s]
  have q43 : m0.1 43 = 0 := by rw [hm0, zPu_n (by decide), zPu_s]
  have q44 : m0.1 44 = 0 := by rw [hm0, zPu_s]
  have s3 : S0.1 3 = 0 := by rw [hS0, zPu_n (by decide), zPu_s]
  have s6 : S0.1 6 = 0 := by rw [hS0, zPu_s]
  have mm0 : zEx [2, 3, 4, 5, 6, 7, 8, 9, 10, 13, 42, 43, 44] [15, 16, 17] m m0 := zEx_t (zEx_w hME (by decide) (by decide)) (zEx_w m0E (by decide) (by decide))
  have hq : zYs S0 m0 := by
    refine ⟨0, by decide, s6, q44, by rw [s3, q43], by rw [s3]; decide, by rw [q42, q43]; decide, ?_⟩
    rw [s3, q42]
    exact zYb_0
  obtain ⟨j, i, hj, hi, c', S', T', y, a1, a2, a3, a4, a5, a6, a7, a8⟩ := z_prs (V := V) 61 0 S0 t m0 (zTR_m hTR m0E (by decide) (by decide)) hq (by rw [mm0.2 2 (by decide), mm0.2 7 (by decide)]; exact hB) q42.symm (fun z => absurd z (by omega)) (by omega)
  have e1 : zLp (zPaS V) zFu (0, S0, t) = some (c', S', T') := by
    rw [show zFu = j + (99999 - j + 1) by unfold zFu; omega, zLp_it _ _ _ _ a1]
    exact zLp_x a2
  have e2 : zLp zScS zFu m0 = some y := by
    rw [show zFu = i + (99999 - i + 1) by unfold zFu; omega, zLp_it _ _ _ _ a3]
    exact zLp_x a4
  have hyE : zEx [2, 3, 4, 5, 6, 7, 8, 9, 10, 13, 42, 43, 44] [15, 16, 17] m y := zEx_t mm0 (zEx_w a5 (by decide) (by decide))
  have y2 : y.1 2 = 0 := by rw [a5.1 2 (by decide), m0E.1 2 (by decide)]; exact u2
  have hT : zYT T T' := zYT_t (zEx_w hTE (by decide) (by decide)) a6
  have cls : ∀ b : Bool, (T'.1 6 = 0 ∧ b = true) ∨ (T'.1 6 ≠ 0 ∧ b = false) → iR (T'.1 6) → fX2_read S T V = some (S', T', b) := by
    intro b hb hr
    apply zok_q
    rw [fX2_read_e]
    refine zok_e et ?_
    rw [← hS0]
    refine zok_e e1 (zok_g hr ?_)
    rcases hb with ⟨b1, b2⟩ | ⟨b1, b2⟩
    · rw [b2]; exact zok_t b1 (zok_s rfl)
    · rw [b2]; exact zok_f b1 (zok_s rfl)
  rcases a8 with ⟨g1, g2, g3⟩ | g1 | ⟨g1, g2, w, ew, g3, g4⟩
  · have g4 := g1.2.2.2
    have hz := zYs_44 g2
    refine ⟨S', T', true, y, cls true (Or.inl ⟨g4.1, rfl⟩) (by rw [g4.1]; decide), fun {Q} hQ => ?_, hT, hyE, y2, Or.inl ⟨rfl, g4, hz.2.2.2.2, hz.2.2.1, ?_⟩⟩
    · rw [fX8_runScript_e]
      refine zok_e eu ?_
      rw [← hm0]
      refine zok_e e2 (zok_e (y_good0 g4.2.1) ?_)
      exact zok_jP (fun (x : CV) => x = y) (fun x hx => by rw [hx]; exact hQ) (fun K hK => zok_t rfl (zok_g a7 (zok_t (by omega) (hK _ rfl))))
    · obtain ⟨d, d1, d2, d3, d4, d5, d6, d7⟩ := g2
      have d0 : d = 0 := by omega
      subst d0
      rw [hyE.2 2 (by decide)] at d7
      exact d7
  · refine ⟨S', T', false, y, cls false (Or.inr ⟨g1.ne.1, rfl⟩) g1.ne.2, fun {Q} hQ => ?_, hT, hyE, y2, Or.inr ⟨rfl, g1⟩⟩
    rw [fX8_runScript_e]
    refine zok_e eu ?_
    rw [← hm0]
    refine zok_e e2 (zok_e (y_goodE g1.2.1) ?_)
    exact zok_jP (fun (x : CV) => x = y) (fun x hx => by rw [hx]; exact hQ) (fun K hK => zok_f Bool.false_ne_true (hK _ rfl))
  · refine ⟨S', T', false, w, cls false (Or.inr ⟨g3.ne.1, rfl⟩) g3.ne.2, fun {Q} hQ => ?_, hT, zEx_t hyE (zEx_w g4 (by decide) (by decide)), by rw [g4.1 2 (by decide)]; exact y2, Or.inr ⟨rfl, g3⟩⟩
    rw [fX8_runScript_e]
    refine zok_e eu ?_
    rw [← hm0]
    refine zok_e e2 (zok_e (y_good0 g1) ?_)
    exact zok_jP (fun (x : CV) => x = w) (fun x hx => by rw [hx]; exact hQ) (fun K hK => zok_t rfl (zok_g a7 (zok_f (by omega) (zok_e ew (hK _ rfl)))))
end ZYR
