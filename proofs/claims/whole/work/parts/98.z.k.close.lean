section ZYC
variable {bf : Int → Int} {n : Int}
noncomputable def zPaS (VB : CV) : Int × CV × CV → Option ((Int × CV × CV) ⊕ (Int × CV × CV)) := (fun s3 => zG (iR s3.1) <| if 600 ≤ s3.1 then (some (.inr (s3.1, s3.2.1, s3.2.2))) else (zG (iR (s3.2.2.1 6)) <| if (s3.2.2.1 6) = 0 then ((fX2_isAtEnd s3.2.1 s3.2.2).bind fun t34 => if t34 = true then (some (.inr (s3.1, s3.2.1, s3.2.2))) else (zJn (σ := Unit) (ρ := (Int × CV × CV) ⊕ (Int × CV × CV)) (fun x44 => (fX2_readCommand s3.2.1 s3.2.2 VB).bind fun t45 => some (.inl (s3.1 + 1, t45.1, t45.2))) (fun j44 => zG (iR (s3.2.1.1 6)) <| if (s3.2.1.1 6) ≤ 0 then (j44 ()) else ((fX6_isMark s3.2.2 41).bind fun t49 => if t49 = true then ((fX2_closeRepeat s3.2.1 s3.2.2).bind fun t52 => some (.inl (s3.1 + 1, t52.1, t52.2))) else (j44 ()))))) else (some (.inr (s3.1, s3.2.1, s3.2.2)))))
noncomputable def zClS : CV → Option (CV ⊕ CV) := (fun s1 => zG (iR (s1.1 44)) <| if (s1.1 44) ≤ 0 then (some (.inr s1)) else ((fX8_isSign s1 41).bind fun t14 => if t14 = true then (zG (0 ≤ (s1.1 42) ∧ (s1.1 42) < 60) <| (fX8_goOn (zPu (zPa (zPu s1 44 ((s1.1 44) - 1)) 15 (s1.1 42) 10) 42 ((s1.1 42) + 1))).bind fun t18 => (fX8_mustSign t18 59).bind fun t20 => some (.inl t20)) else (some (.inr s1))))
noncomputable def zScS : CV → Option (CV ⊕ CV) := (fun s3 => (fX8_isGood s3).bind fun t44 => if t44 = true then (zG (iR (s3.1 6)) <| if (s3.1 6) = 0 then (some (.inr s3)) else ((fX8_command s3).bind fun t49 => zJn (σ := CV) (ρ := (CV) ⊕ (CV)) (fun x55 => (fX8_closes x55).bind fun t56 => some (.inl t56)) (fun j55 => zG (iR (t49.1 44) ∧ iR (s3.1 44)) <| if (t49.1 44) = (s3.1 44) then ((fX8_mustSign t49 59).bind fun t60 => j55 t60) else (j55 t49)))) else (some (.inr s3)))
noncomputable def zScE : CV → Option (CV × Int) := (fun x29 => (fX8_endsText x29).bind fun t30 => if t30.2 = true then ((fX8_laysAside t30.1).bind fun t33 => (fX8_runs t33).bind fun t35 => (fX8_keeps t35.1).bind fun t37 => some (t37, t35.2)) else (some (t30.1, 0)))
theorem fX8_closes_e {m : CV} : fX8_closes m = (zLp zClS zFu m).bind some := rfl
theorem fX2_read_e {S T V : CV} : fX2_read S T V = (fX6_begin T).bind fun t1 => (zLp (zPaS V) zFu (0, (zPu (zPu S 3 0) 6 0), t1)).bind (fun y3 => zG (iR (y3.2.2.1 6)) <| if (y3.2.2.1 6) = 0 then (some (y3.2.1, y3.2.2, true)) else (some (y3.2.1, y3.2.2, false))) := rfl
theorem fX8_runScript_e {m : CV} : fX8_runScript m = (fX8_beginsText m).bind fun t1 => (zLp zScS zFu (zPu (zPu (zPu t1 42 0) 43 0) 44 0)).bind (fun y3 => (fX8_isGood y3).bind fun t22 => zJn (σ := CV) (ρ := CV × Int) zScE (fun j29 => if t22 = true then (zG (iR (y3.1 44)) <| if (y3.1 44) ≤ 0 then (j29 y3) else ((fX8_wrong y3 1).bind fun t42 => j29 t42)) else (j29 y3))) := rfl
theorem y_cE {m v : CV} {b : Int} (hb : fX8_commandHere m = some b) (hbr : iR b) (hv : 1 ≤ v.1 9 ∧ v.1 9 ≤ 6) (v43 : iR (v.1 43)) (m43 : iR (m.1 43)) (m44 : iR (m.1 44)) (v44 : iR (v.1 44)) (hw : (b = -1 ∧ fX8_wrong m 1 = some v) ∨ (b = 9 ∧ m.1 44 = 2 ∧ fX8_wrong m 4 = some v) ∨ (0 ≤ b ∧ (b = 9 → m.1 44 ≠ 2) ∧ m.1 43 = 30 ∧ fX8_wrong m 6 = some v)) : fX8_command m = some v := by
  apply zok_q
  unfold fX8_command
  refine zok_e hb ?_
  refine zok_jP (fun (x : CV) => (x = v ∧ b = -1) ∨ (x = m ∧ b ≠ -1)) (fun x hx => ?_) (fun K hK => zok_g hbr ?_)
  rotate_left
  · rcases hw with ⟨w1, w2⟩ | ⟨w1, _, _⟩ | ⟨w1, _, _⟩
    · exact zok_t w1 (zok_e w2 (hK _ (Or.inl ⟨rfl, w1⟩)))
    · exact zok_f (by omega) (hK _ (Or.inr ⟨rfl, by omega⟩))
    · exact zok_f (by omega) (hK _ (Or.inr ⟨rfl, by omega⟩))
  refine zok_jP (fun (y : CV) => y = v ∨ (y = m ∧ m.1 43 = 30 ∧ fX8_wrong m 6 = some v)) (fun y hy => ?_) (fun K hK => zok_g hbr ?_)
  rotate_left
  · rcases hx with ⟨x1, x2⟩ | ⟨x1, x2⟩
    · rw [x1]
      exact zok_f (by omega) (hK _ (Or.inl rfl))
    · rw [x1]
      rcases hw with ⟨w1, w2⟩ | ⟨w1, w2, w3⟩ | ⟨w1, w2, w3⟩
      · exact absurd w1 x2
      · exact zok_t w1 (zok_g m44 (zok_t w2 (zok_e w3 (hK _ (Or.inl rfl)))))
      · exact zok_i (fun c => zok_g m44 (zok_f (w2 c) (hK _ (Or.inr ⟨rfl, w3⟩)))) (fun c => hK _ (Or.inr ⟨rfl, w3⟩))
  refine zok_jP (fun (z : CV) => z = v) (fun z hz => ?_) (fun K hK => ?_)
  · rw [hz]
    exact zok_e (y_goodE hv) (zok_f Bool.false_ne_true (zok_s rfl))
  · rcases hy with y1 | ⟨y1, y2, y3⟩
    · rw [y1]
      exact zok_g v43 (zok_i (fun c => zok_e (y_wrongE hv) (hK _ rfl)) (fun c => hK _ rfl))
    · rw [y1]
      exact zok_g m43 (zok_t y2 (zok_e y3 (hK _ rfl)))
theorem y_cG {m t : CV} {b : Int} (hb : fX8_commandHere m = some b) (h0 : 0 ≤ b ∧ b ≤ 9) (h9 : m.1 9 = 0) (m44 : iR (m.1 44)) (m43 : iR (m.1 43)) (h2 : b = 9 → m.1 44 ≠ 2) (h30 : m.1 43 ≠ 30) (ht : fX8_goOn (zPu m 43 ((m.1 43) + 1)) = some t) (t42 : 0 ≤ t.1 42 ∧ t.1 42 < 60) {Q : CV → Prop} (hQ : zOk (zMI b t) Q) : zOk (fX8_command m) Q := by
  unfold fX8_command
  have hbr : iR b := ⟨by omega, by omega⟩
  refine zok_e hb ?_
  refine zok_jP (fun (x : CV) => x = m) (fun x hx => ?_) (fun K hK => zok_g hbr (zok_f (by omega) (hK _ rfl)))
  rw [hx]
  refine zok_jP (fun (x : CV) => x = m) (fun x hx => ?_) (fun K hK => zok_g hbr (zok_i (fun c => zok_g m44 (zok_f (h2 c) (hK _ rfl))) (fun c => hK _ rfl)))
  rw [hx]
  refine zok_jP (fun (x : CV) => x = m) (fun x hx => ?_) (fun K hK => zok_g m43 (zok_f h30 (hK _ rfl)))
  rw [hx]
  exact zok_e (y_good0 h9) (zok_t rfl (zok_e ht (zok_g t42 hQ)))
/-- a command is read alike -/
theorem z_com {S V T m : CV} (h : zTR bf n T m) (hB : zB1 V (m.2 2) (m.2 7)) (hq : zYs S m) : zOk (fX2_readCommand S T V) (zYo bf n T m) := by
  have hq' := hq
  obtain ⟨d, a1, a2, a3, a4, a5, a6, a7⟩ := hq
  obtain ⟨ka, kb, eka, ekb, hk⟩ := z_kind h
  have hkb : iR kb := by rcases hk with k | k <;> exact ⟨by omega, by omega⟩
  have m44 : iR (m.1 44) := ⟨by omega, by omega⟩
  have m43 : iR (m.1 43) := ⟨by omega, by omega⟩
  have err : ∀ (c : Int), (1 ≤ c ∧ c ≤ 6) → (m.1 6 = 4 → c = 1) → ((kb = -1 ∧ c = 1) ∨ (kb = 9 ∧ m.1 44 = 2 ∧ c = 4) ∨ (0 ≤ kb ∧ (kb = 9 → m.1 44 ≠ 2) ∧ m.1 43 = 30 ∧ c = 6)) → zOk ((fX6_fail T c).bind fun t => some (S, t)) (zYo bf n T m) := by
    intro c c0 c1 c2
    refine zok_b (z_fail h c0 c1) (fun t ht => zok_s ?_)
    obtain ⟨v, ev, hv, hTE, hME⟩ := ht
    have v43 : v.1 43 = m.1 43 := hME.1 43 (by decide)
    have v44 : v.1 44 = m.1 44 := hME.1 44 (by decide)
    refine zYo_e (y_cE ekb hkb hv.2.1 (by rw [v43]; exact m43) m43 m44 (by rw [v44]; exact m44) ?_) hv v44 m44 (zEx_w hTE (by decide) (by decide)) (zEx_w hME (by decide) (by decide))
    rcases c2 with ⟨w1, w2⟩ | ⟨w1, w2, w3⟩ | ⟨w1, w2, w3, w4⟩
    · exact Or.inl ⟨w1, by rw [← w2]; exact ev⟩
    · exact Or.inr (Or.inl ⟨w1, w2, by rw [← w3]; exact ev⟩)
    · exact Or.inr (Or.inr ⟨w1, w2, w3, by rw [← w4]; exact ev⟩)
  unfold fX2_readCommand
  refine zok_e eka ?_
  rcases hk with ⟨k1, k2⟩ | ⟨k1, k2, k3⟩
  · exact zok_g ⟨by omega, by omega⟩ (zok_t k1 (err 1 (by decide) (fun _ => rfl) (Or.inl ⟨k2, rfl⟩)))
  · have k4 : m.1 6 = 1 := by rw [← h.2.2.1.1]; exact k3
    refine zok_g ⟨by omega, by omega⟩ (zok_f (by omega) ?_)
    refine zok_jP (fun _ => kb = 9 → m.1 44 ≠ 2) (fun _ hj => ?_) (fun K hK => ?_)
    rotate_left
    · refine zok_i (fun c => zok_g ⟨by omega, by omega⟩ (zok_i (fun c2 => ?_) (fun c2 => hK () (fun _ => by omega)))) (fun c => hK () (fun z => absurd z (by omega)))
      exact err 4 (by decide) (fun z => absurd z (by omega)) (Or.inr (Or.inl ⟨by omega, by omega, rfl⟩))
    · refine zok_g ⟨by omega, by omega⟩ (zok_i (fun c => ?_) (fun c => ?_))
      · exact err 6 (by decide) (fun z => absurd z (by omega)) (Or.inr (Or.inr ⟨by omega, hj, by omega, rfl⟩))
      · have mE : zEx [43] [] m (zPu m 43 ((m.1 43) + 1)) := zEx_u zEx_0 (by decide)
        refine zok_b (z_next (zTR_m h mE (by decide) (by decide))) (fun t1 ht => zok_g ⟨by omega, by omega⟩ ?_)
        obtain ⟨t, et, hR, hTE, hME, _⟩ := ht
        have tE : zEx [4, 5, 6, 7, 8, 9, 10, 13, 43] [] m t := zEx_t (zEx_w mE (by decide) (by decide)) (zEx_w hME (by decide) (by decide))
        have t42 : t.1 42 = m.1 42 := tE.1 42 (by decide)
        have t43 : t.1 43 = m.1 43 + 1 := by rw [hME.1 43 (by decide), zPu_s]
        have hcmd : ∀ {Q : CV → Prop}, zOk (zMI kb t) Q → zOk (fX8_command m) Q := fun {Q} hQ => y_cG ekb k2 h.2.2.2.2.1 m44 m43 hj (by omega) et (by omega) hQ
        have TE2 : zEx [2, 3, 4, 5, 6, 7] [] T t1 := zEx_w hTE (by decide) (by decide)
        have h2 : S.1 6 < 2 ∨ kb ≠ 9 := by
          by_cases c9 : kb = 9
          · have := hj c9
            omega
          · exact Or.inr c9
        have hk10 : kb = 0 ∨ kb = 1 ∨ kb = 2 ∨ kb = 3 ∨ kb = 4 ∨ kb = 5 ∨ kb = 6 ∨ kb = 7 ∨ kb = 8 ∨ kb = 9 := by omega
        show zOk (zRCi ka S V t1) (zYo bf n T m)
        rw [k1]
        rcases hk10 with e | e | e | e | e | e | e | e | e | e
        · subst e; exact z_kn0 hR hcmd TE2 tE t43 hB hq' (by omega) (by omega)
        · subst e; exact z_kn1 hR hcmd TE2 tE t43 hB hq' (by omega) (by omega)
        · subst e; exact z_kn2 hR hcmd TE2 tE t43 hB hq' (by omega) (by omega)
        · subst e; exact z_kn3 hR hcmd TE2 tE t43 hB hq' (by omega) (by omega)
        · subst e; exact z_kn4 hR hcmd TE2 tE t43 hB hq' (by omega) (by omega)
        · subst e; exact z_kn5 hR hcmd TE2 tE t43 hB hq' (by omega) (by omega)
        · subst e; exact z_kn6 hR hcmd TE2 tE t43 hB hq' (by omega) (by omega)
        · subst e; exact z_kn7 hR hcmd TE2 tE t43 hB hq' (by omega) (by omega)
        · subst e; exact z_kn8 hR hcmd TE2 tE t43 hB hq' (by omega) (by omega)
        · subst e; exact z_kn9 hR hcmd TE2 tE t43 hB hq' (by omega) (by omega)
theorem y_isSignE {m : CV} {c : Int} (h : 1 ≤ m.1 9 ∧ m.1 9 ≤ 6) : fX8_isSign m c = some false := by
  apply zok_q
  unfold fX8_isSign
  exact zok_g ⟨by omega, by omega⟩ (zok_f (by omega) (zok_s rfl))
theorem zClS_e {u : CV} (h : 1 ≤ u.1 9 ∧ u.1 9 ≤ 6) (hr : iR (u.1 44)) : zClS u = some (.inr u) := by
  apply zok_q
  unfold zClS
  exact zok_g hr (zok_i (fun _ => zok_s rfl) (fun _ => zok_e (y_isSignE h) (zok_f Bool.false_ne_true (zok_s rfl))))
theorem zYs_44 {S m : CV} (h : zYs S m) : S.1 6 = m.1 44 ∧ (0 ≤ m.1 44 ∧ m.1 44 ≤ 2) ∧ (0 ≤ m.1 42 ∧ m.1 42 ≤ 60) ∧ (0 < m.1 44 → m.1 42 < 60) ∧ (0 ≤ S.1 3 ∧ S.1 3 ≤ 30) := by
  obtain ⟨d, a1, a2, a3, a4, a5, a6, a7⟩ := h
  omega
/-- a repeat is closed alike -/
theorem z_close {S T m : CV} (h : zTR bf n T m) (hq : zYs S m) (h44 : 0 < m.1 44) (hs : T.1 2 = 3 ∧ bf (T.1 4) = 41) : zOk (fX2_closeRepeat S T) (fun t => ∃ u, zClS m = some (.inl u) ∧ zEx [4, 5, 6, 7, 8, 9, 10, 13, 42, 43, 44] [15, 16, 17] m u ∧ zEx [2, 3, 4, 5, 6, 7] [] T t.2 ∧ ((zTR bf n t.2 u ∧ zYs t.1 u ∧ u.1 42 = m.1 42 + 1 ∧ u.1 44 = m.1 44 - 1) ∨ zTE bf n t.2 u) ∧ iR (u.1 44)) := by
  have hz := zYs_44 hq
  obtain ⟨d, a1, a2, a3, a4, a5, a6, a7⟩ := hq
  cases d with
  | zero => exact absurd h44 (by omega)
  | succ d =>
    have hr := zYp_r _ _ _ _ a7
    rw [show 2 - ((2 : Nat) : Int) + (d : Int) = S.1 6 - 1 by omega] at hr
    unfold fX2_closeRepeat
    refine zok_g ⟨by omega, by omega⟩ (zok_g ⟨by omega, by omega⟩ ?_)
    obtain ⟨m1, hm1⟩ : ∃ q, q = zPu (zPa (zPu m 44 ((m.1 44) - 1)) 15 (m.1 42) 10) 42 ((m.1 42) + 1) := ⟨_, rfl⟩
    have m1E : zEx [42, 44] [15] m m1 := by rw [hm1]; exact zEx_u (zEx_a (zEx_u zEx_0 (by decide)) (by decide)) (by decide)
    refine zok_b (z_next (zTR_m h m1E (by decide) (by decide))) (fun t1 ht => ?_)
    obtain ⟨t, et, hR, hTE, hME, _⟩ := ht
    refine zok_b (z_mark hR (c := 59) (by decide)) (fun t2 ht2 => zok_s ?_)
    obtain ⟨u, eu, hu, hor⟩ := ht2
    have m1u : zEx [4, 5, 6, 7, 8, 9, 10, 13] [] m1 u := zEx_t (zEx_w hME (by decide) (by decide)) (zEx_w hu.2 (by decide) (by decide))
    have m144 : m1.1 44 = m.1 44 - 1 := by rw [hm1, zPu_n (by decide), zPa_1, zPu_s]
    have m142 : m1.1 42 = m.1 42 + 1 := by rw [hm1, zPu_s]
    have u44 : u.1 44 = m.1 44 - 1 := by rw [m1u.1 44 (by decide), m144]
    have u42 : u.1 42 = m.1 42 + 1 := by rw [m1u.1 42 (by decide), m142]
    have u43 : u.1 43 = m.1 43 := by rw [m1u.1 43 (by decide), m1E.1 43 (by decide)]
    have uE : zEx [4, 5, 6, 7, 8, 9, 10, 13, 42, 43, 44] [15, 16, 17] m u := zEx_t (zEx_w m1E (by decide) (by decide)) (zEx_w m1u (by decide) (by decide))
    have hsg := y_isSign h.2.1 h.2.2.2.2.1 (c := 41) (by decide)
    rw [← h.2.2.1.1, ← h.2.2.1.2.1, decide_eq_true hs] at hsg
    refine ⟨u, ?_, uE, zEx_t (zEx_w hTE (by decide) (by decide)) hu.1, ?_, by rw [u44]; exact ⟨by omega, by omega⟩⟩
    · apply zok_q
      unfold zClS
      refine zok_g ⟨by omega, by omega⟩ (zok_f (by omega) (zok_e hsg (zok_t rfl (zok_g (by omega) ?_))))
      rw [← hm1]
      exact zok_e et (zok_e eu (zok_s rfl))
    · rcases hor with ⟨g1, _⟩ | g1
      · refine Or.inl ⟨g1, ⟨d, by omega, ?_, by rw [u44]; omega, ?_, ?_, by rw [u42, u43]; omega, ?_⟩, u42, u44⟩
        · show (zPu S 6 ((S.1 6) - 1)).1 6 = _
          rw [zPu_s]; omega
        · show (zPu S 6 ((S.1 6) - 1)).1 3 = _
          rw [zPu_n (by decide), u43]; exact a4
        · show 0 ≤ (zPu S 6 ((S.1 6) - 1)).1 3 ∧ (zPu S 6 ((S.1 6) - 1)).1 3 ≤ 30
          rw [zPu_n (by decide)]; exact a5
        · show zYp _ u _ _ ((zPu S 6 ((S.1 6) - 1)).1 3) _ _ _ _ _
          rw [zPu_n (by decide), u42, uE.2 2 (by decide)]
          have e15 : u.2 15 = zup (m.2 15) (m.1 42) 10 := by rw [m1u.2 15 (by decide), hm1, zPu_2, zPa_s, zPu_2]
          refine zYp_x (S := S) (m := m) a5.2 d 2 0 0 a7 (by decide) ⟨by rw [zPa_n (by decide), zPu_2], by rw [zPa_n (by decide), zPu_2], by rw [zPa_n (by decide), zPu_2], by rw [zPa_n (by decide), zPu_2]⟩ ?_ (fun j hj => ?_) ?_
          · rw [zPa_s, zPu_2, show 2 - ((2 : Nat) : Int) + (d : Int) = S.1 6 - 1 by omega]
          · rw [e15, zup_n (by omega), m1u.2 16 (by decide), m1u.2 17 (by decide), m1E.2 16 (by decide), m1E.2 17 (by decide)]
            exact ⟨rfl, rfl, rfl⟩
          · rw [e15, zup_s]
      · exact Or.inr g1
end ZYC
