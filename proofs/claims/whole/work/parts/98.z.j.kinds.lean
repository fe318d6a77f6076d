section ZYN
variable {bf : Int → Int} {n : Int}
noncomputable def zRCi (t1 : Int) (VSc VB t13 : CV) : Option (CV × CV) := (fX2_hasName t1).bind fun t16 => zJn (σ := Int × CV) (ρ := CV × CV) (fun x21 => (fX2_passNumberOf x21.2 VB t1).bind fun t22 => (fX2_finishCommand (zPu (zPa (zPa (zPa (zPa VSc 1 (VSc.1 3) t1) 2 (VSc.1 3) x21.1) 3 (VSc.1 3) t22.2) 4 (VSc.1 3) ((VSc.1 3) + 1)) 3 ((VSc.1 3) + 1)) t22.1 t1).bind fun t24 => some (t24.1, t24.2)) (fun j21 => if t16 = true then ((fX2_passRow t13 VB).bind fun t27 => j21 (t27.2, t27.1)) else (j21 ((-1), t13)))
theorem x_hn1 : fX2_hasName 1 = some true := by
  apply zok_q
  unfold fX2_hasName
  exact zok_g (by decide) (zok_t rfl (zok_s rfl))
theorem x_hn2 : fX2_hasName 2 = some true := by
  apply zok_q
  unfold fX2_hasName
  exact zok_g (by decide) (zok_f (by decide) (zok_t rfl (zok_s rfl)))
theorem x_hn3 : fX2_hasName 3 = some true := by
  apply zok_q
  unfold fX2_hasName
  exact zok_g (by decide) (zok_f (by decide) (zok_f (by decide) (zok_t rfl (zok_s rfl))))
theorem x_hn4 : fX2_hasName 4 = some false := by
  apply zok_q
  unfold fX2_hasName
  exact zok_g (by decide) (zok_f (by decide) (zok_f (by decide) (zok_f (by decide) (zok_f (by decide) (zok_f (by decide) (zok_s rfl))))))
theorem x_hn5 : fX2_hasName 5 = some false := by
  apply zok_q
  unfold fX2_hasName
  exact zok_g (by decide) (zok_f (by decide) (zok_f (by decide) (zok_f (by decide) (zok_f (by decide) (zok_f (by decide) (zok_s rfl))))))
theorem x_hn6 : fX2_hasName 6 = some false := by
  apply zok_q
  unfold fX2_hasName
  exact zok_g (by decide) (zok_f (by decide) (zok_f (by decide) (zok_f (by decide) (zok_f (by decide) (zok_f (by decide) (zok_s rfl))))))
theorem x_hn7 : fX2_hasName 7 = some true := by
  apply zok_q
  unfold fX2_hasName
  exact zok_g (by decide) (zok_f (by decide) (zok_f (by decide) (zok_f (by decide) (zok_t rfl (zok_s rfl)))))
theorem x_hn8 : fX2_hasName 8 = some true := by
  apply zok_q
  unfold fX2_hasName
  exact zok_g (by decide) (zok_f (by decide) (zok_f (by decide) (zok_f (by decide) (zok_f (by decide) (zok_t rfl (zok_s rfl))))))
theorem x_hn9 : fX2_hasName 9 = some false := by
  apply zok_q
  unfold fX2_hasName
  exact zok_g (by decide) (zok_f (by decide) (zok_f (by decide) (zok_f (by decide) (zok_f (by decide) (zok_f (by decide) (zok_s rfl))))))
theorem x_hn10 : fX2_hasName 10 = some false := by
  apply zok_q
  unfold fX2_hasName
  exact zok_g (by decide) (zok_f (by decide) (zok_f (by decide) (zok_f (by decide) (zok_f (by decide) (zok_f (by decide) (zok_s rfl))))))
/-- a command in error, as far as its sign -/
theorem z_ce {S' T m T' x : CV} {a : Int} (hx : fX8_command m = some x) (h : zTE bf n T' x) (ha : 1 ≤ a ∧ a ≤ 10) (hT : zEx [2, 3, 4, 5, 6, 7] [] T T') (hm : zEx [4, 5, 6, 7, 8, 9, 10, 13, 43] [15, 16, 17] m x) (h44 : 0 ≤ m.1 44 ∧ m.1 44 ≤ 2) (h10 : a = 10 → 0 ≤ S'.1 6 ∧ S'.1 6 < 2) : zOk ((fX2_finishCommand S' T' a).bind fun t24 => some (t24.1, t24.2)) (zYo bf n T m) := by
  have x44 : x.1 44 = m.1 44 := hm.1 44 (by decide)
  have fin : ∀ (S2 t : CV), zTX bf n T' t → zYo bf n T m (S2, t) := fun S2 t ht => zYo_e hx (zTE_X h ht) x44 ⟨by omega, by omega⟩ (zEx_t hT (zEx_w ht.2 (by decide) (by decide))) (zEx_w hm (by decide) (by decide))
  unfold fX2_finishCommand
  refine zok_b (P := fun (t : CV × CV) => zYo bf n T m t) (zok_g ⟨by omega, by omega⟩ (zok_i (fun c => ?_) (fun c => ?_))) (fun t ht => zok_s ht)
  · exact zok_b (x_passMarkX h.1 h.ne.1 h.ne.2 (by decide)) (fun t ht => zok_g (h10 c) (zok_s (fin _ _ ht)))
  · exact zok_b (x_passMarkX h.1 h.ne.1 h.ne.2 (by decide)) (fun t ht => zok_s (fin _ _ ht))
/-- a repeat is opened -/
theorem z_c9 {S T m T' x : CV} {N : Int} (hx : ∀ w, fX8_mustSign x 40 = some w → 0 ≤ w.1 9 ∧ w.1 9 ≤ 6 → fX8_command m = zFn 9 w) (h : zTR bf n T' x) (hT : zEx [2, 3, 4, 5, 6, 7] [] T T') (hm : zEx [4, 5, 6, 7, 8, 9, 10, 13, 43] [15, 16, 17] m x) (x43 : x.1 43 = m.1 43 + 1) (fr : zFp m x (m.1 42)) (hq : zYs S m) (h30 : S.1 3 < 30) (h2 : S.1 6 < 2) (hc : x.2 15 (m.1 42) = 9 ∧ N = x.2 16 (m.1 42) ∧ (1 ≤ x.2 16 (m.1 42) ∧ x.2 16 (m.1 42) ≤ 20)) : zOk ((fX2_finishCommand (zS1 S 10 (-1) N) T' 10).bind fun t24 => some (t24.1, t24.2)) (zYo bf n T m) := by
  obtain ⟨d, a1, a2, a3, a4, a5, a6, a7⟩ := hq
  obtain ⟨s1, s2, s3, s4, s5, s6, s7⟩ := zS1_a (S := S) (a := 10) (R := -1) (N := N)
  unfold fX2_finishCommand
  refine zok_b (P := fun (t : CV × CV) => zYo bf n T m t) (zok_g (by decide) (zok_t rfl ?_)) (fun t ht => zok_s ht)
  refine zok_b (z_mark h (c := 40) (by decide)) (fun t ht => zok_g (by rw [s7]; omega) (zok_s ?_))
  obtain ⟨w, ew, hw, hor⟩ := ht
  have TE : zEx [2, 3, 4, 5, 6, 7] [] T t := zEx_t hT hw.1
  have wE : zEx [4, 5, 6, 7, 8, 9, 10, 13, 43] [15, 16, 17] m w := zEx_t hm (zEx_w hw.2 (by decide) (by decide))
  have w44 : w.1 44 = m.1 44 := wE.1 44 (by decide)
  have w42 : w.1 42 = m.1 42 := wE.1 42 (by decide)
  rcases hor with ⟨g1, _⟩ | g1
  · have hx2 := hx w ew (by rw [g1.2.2.2.2.1]; decide)
    obtain ⟨q, hqd⟩ : ∃ q, q = zPu (zPu w 42 ((w.1 42) + 1)) 44 ((w.1 44) + 1) := ⟨_, rfl⟩
    have hq : fX8_command m = some q := by rw [hx2, zFn_g g1.2.2.2.2.1 (by decide), hqd]; rfl
    have qE : zEx [42, 44] [] w q := by rw [hqd]; exact zEx_u (zEx_u zEx_0 (by decide)) (by decide)
    have q44 : q.1 44 = m.1 44 + 1 := by rw [hqd, zPu_s, w44]
    have q42 : q.1 42 = m.1 42 + 1 := by rw [hqd, zPu_n (by decide), zPu_s, w42]
    have q43 : q.1 43 = m.1 43 + 1 := by rw [qE.1 43 (by decide), hw.2.1 43 (by decide), x43]
    have q15 : q.2 15 = x.2 15 := by rw [qE.2 15 (by decide), hw.2.2 15 (by decide)]
    have q16 : q.2 16 = x.2 16 := by rw [qE.2 16 (by decide), hw.2.2 16 (by decide)]
    have mE : zEx [4, 5, 6, 7, 8, 9, 10, 13, 42, 43, 44] [15, 16, 17] m q := zEx_t (zEx_w wE (by decide) (by decide)) (zEx_w qE (by decide) (by decide))
    refine ⟨q, hq, by rw [q44]; exact ⟨by omega, by omega⟩, q, Or.inr ⟨by omega, rfl⟩, by rw [q44]; exact ⟨by omega, by omega⟩, mE, TE, Or.inl ⟨zTR_m g1 qE (by decide) (by decide), ?_, q42⟩⟩
    have hS3 : (zPu (zPa (zS1 S 10 (-1) N) 5 ((zS1 S 10 (-1) N).1 6) ((zS1 S 10 (-1) N).1 3 - 1)) 6 ((zS1 S 10 (-1) N).1 6 + 1)).1 3 = S.1 3 + 1 := by rw [zPu_n (by decide), zPa_1, s6]
    refine ⟨d + 1, by omega, by rw [zPu_s, s7]; omega, by rw [q44]; omega, by rw [hS3, q43]; omega, by rw [hS3]; omega, by rw [q42, q43]; omega, ?_⟩
    rw [hS3, q42, mE.2 2 (by decide)]
    refine zYp_o (S := S) (m := m) d 2 0 0 a7 (by omega) (by omega) (fun j hj => ?_) (zFp_e (zFp_e fr hw.2 (by decide)) qE (by decide)) ?_ ?_
    · rw [zPu_2, zPa_n (by decide), zPa_n (by decide), zPa_n (by decide), zPa_n (by decide), s1, s2, s3, s4, zup_n (by omega), zup_n (by omega), zup_n (by omega), zup_n (by omega)]
      exact ⟨rfl, rfl, rfl, rfl⟩
    · rw [zPu_2, zPa_s, s5, s6, s7, show S.1 6 = 2 - ((2 : Nat) : Int) + (d : Int) by omega, show S.1 3 + 1 - 1 = S.1 3 by omega]
    · unfold zYr
      rw [zPu_2, zPa_n (by decide), zPa_n (by decide), s1, s3, zup_s, zup_s, q15, q16]
      exact ⟨rfl, hc.1, hc.2.1, hc.2.2⟩
  · have g9 := g1.2.1
    have hx2 := hx w ew (by omega)
    rw [zFn_e g9] at hx2
    exact zYo_e hx2 g1 w44 (by rw [a3]; exact ⟨by omega, by omega⟩) TE (zEx_w wE (by decide) (by decide))
/-- the model's command by way of its kind -/
theorem y_cq {m t x : CV} {b : Int} (hc : ∀ {Q : CV → Prop}, zOk (zMI b t) Q → zOk (fX8_command m) Q) (h : ∀ {Q : CV → Prop}, zOk (zFn b x) Q → zOk (zMI b t) Q) (h9 : 0 ≤ x.1 9 ∧ x.1 9 ≤ 6) (hb : iR b) : fX8_command m = zFn b x := by
  by_cases g : x.1 9 = 0
  · have e := zFn_g g hb
    rw [e]
    exact zok_q (hc (h (Q := fun y => y = _) (zok_v e rfl)))
  · have e := zFn_e (b := b) (x := x) ⟨by omega, by omega⟩
    rw [e]
    exact zok_q (hc (h (Q := fun y => y = _) (zok_v e rfl)))
theorem z_kn0 {S V T m T1 t : CV} (h : zTR bf n T1 t) (hcmd : ∀ {Q : CV → Prop}, zOk (zMI 0 t) Q → zOk (fX8_command m) Q) (hT : zEx [2, 3, 4, 5, 6, 7] [] T T1) (hm : zEx [4, 5, 6, 7, 8, 9, 10, 13, 43] [] m t) (t43 : t.1 43 = m.1 43 + 1) (hB : zB1 V (m.2 2) (m.2 7)) (hq : zYs S m) (h30 : S.1 3 < 30) (h2 : S.1 6 < 2 ∨ 0 ≠ 9) : zOk (zRCi 1 S V T1) (zYo bf n T m) := by
  have t42 : t.1 42 = m.1 42 := hm.1 42 (by decide)
  have h44 : 0 ≤ m.1 44 ∧ m.1 44 ≤ 2 := by
    obtain ⟨d, a1, _, a3, _⟩ := hq
    omega
  have pE : zEx [] [15] t (zPa t 15 (t.1 42) 0) := zEx_a zEx_0 (by decide)
  obtain ⟨p, hp⟩ : ∃ p, p = zPa t 15 (t.1 42) 0 := ⟨_, rfl⟩
  rw [← hp] at pE
  have hP : zTR bf n T1 p := zTR_m h pE (by decide) (by decide)
  have pM : zEx [4, 5, 6, 7, 8, 9, 10, 13, 43] [15] m p := zEx_t (zEx_w hm (by decide) (by decide)) (zEx_w pE (by decide) (by decide))
  have p15 : p.2 15 (m.1 42) = 0 := by rw [hp, zPa_s, t42, zup_s]
  have pF : zFp m p (m.1 42) := by rw [hp, t42]; exact zFp_a (zFp_e (fun _ _ => ⟨rfl, rfl, rfl⟩) hm (by decide))
  have p43 : p.1 43 = m.1 43 + 1 := by rw [hp, zPa_1, t43]
  unfold zRCi
  refine zok_e x_hn1 ?_
  refine zok_jP (fun (q : Int × CV) => ∃ u v, fX8_toldRow p = some (u, v) ∧ zwF T1 q.2 p u ∧ ((zTR bf n q.2 u ∧ q.1 = v ∧ (0 ≤ v ∧ v < m.2 2 0)) ∨ zTE bf n q.2 u)) (fun q hq2 => ?_) (fun K hK => zok_t rfl (zok_b (z_rowT hP (by rw [pM.2 2 (by decide), pM.2 7 (by decide)]; exact hB)) (fun r hr => hK _ ?_)))
  rotate_left
  · obtain ⟨u, eu, hu, hor⟩ := hr
    rw [pM.2 2 (by decide)] at hor
    refine ⟨u.1, u.2, eu, hu, ?_⟩
    rcases hor with ⟨g1, _, g2, g3⟩ | g1
    · exact Or.inl ⟨g1, g2, g3⟩
    · exact Or.inr g1
  obtain ⟨u, v, eu, hu, hor⟩ := hq2
  obtain ⟨r, T2⟩ := q
  dsimp only at hu hor ⊢
  have xE : zEx [] [16] u (zPa u 16 (t.1 42) v) := zEx_a zEx_0 (by decide)
  obtain ⟨x, hx⟩ : ∃ x, x = zPa u 16 (t.1 42) v := ⟨_, rfl⟩
  rw [← hx] at xE
  have xM : zEx [4, 5, 6, 7, 8, 9, 10, 13, 43] [15, 16] m x := zEx_t (zEx_t (zEx_w pM (by decide) (by decide)) (zEx_w hu.2 (by decide) (by decide))) (zEx_w xE (by decide) (by decide))
  have x43 : x.1 43 = m.1 43 + 1 := by rw [xE.1 43 (by decide), hu.2.1 43 (by decide), p43]
  have x15 : x.2 15 (m.1 42) = 0 := by rw [xE.2 15 (by decide), hu.2.2 15 (by decide), p15]
  have x16 : x.2 16 (m.1 42) = v := by rw [hx, zPa_s, t42, zup_s]
  have xF : zFp m x (m.1 42) := by rw [hx, t42]; exact zFp_a (zFp_e pF hu.2 (by decide))
  have TE2 : zEx [2, 3, 4, 5, 6, 7] [] T T2 := zEx_t hT hu.1
  rcases hor with ⟨g1, g2, g3⟩ | g1
  · have gx : zTR bf n T2 x := zTR_m g1 xE (by decide) (by decide)
    have hn : zOk (fX2_passNumberOf T2 V 1) (fun t => zOk (fX8_number x 0 999) (fun u => zwF T2 t.1 x u.1 ∧ ((zTR bf n t.1 u.1 ∧ t.2 = u.2 ∧ 0 ≤ u.2 ∧ u.2 ≤ 999) ∨ zTE bf n t.1 u.1))) := by
      unfold fX2_passNumberOf
      refine zok_g (by decide) (zok_t rfl (zok_b (z_number gx (a := 0) (b := 999) (by decide) (by decide)) (fun r hr => zok_s ?_)))
      obtain ⟨w, ew, hw, hor⟩ := hr
      refine ⟨w, ew, hw, ?_⟩
      rcases hor with ⟨k1, _, k2⟩ | k1
      · exact Or.inl ⟨k1, k2⟩
      · exact Or.inr k1
    refine zok_b hn (fun y hy => ?_)
    obtain ⟨w, ew, hw, hor⟩ := hy
    obtain ⟨T3, N⟩ := y
    obtain ⟨w, c⟩ := w
    dsimp only at hw hor ⊢
    have yE : zEx [] [17] w (zPa w 17 (t.1 42) c) := zEx_a zEx_0 (by decide)
    obtain ⟨z, hz⟩ : ∃ z, z = zPa w 17 (t.1 42) c := ⟨_, rfl⟩
    rw [← hz] at yE
    have zM : zEx [4, 5, 6, 7, 8, 9, 10, 13, 43] [15, 16, 17] m z := zEx_t (zEx_t (zEx_w xM (by decide) (by decide)) (zEx_w hw.2 (by decide) (by decide))) (zEx_w yE (by decide) (by decide))
    have z43 : z.1 43 = m.1 43 + 1 := by rw [yE.1 43 (by decide), hw.2.1 43 (by decide), x43]
    have z15 : z.2 15 (m.1 42) = 0 := by rw [yE.2 15 (by decide), hw.2.2 15 (by decide), x15]
    have z16 : z.2 16 (m.1 42) = v := by rw [yE.2 16 (by decide), hw.2.2 16 (by decide), x16]
    have z17 : z.2 17 (m.1 42) = c := by rw [hz, zPa_s, t42, zup_s]
    have zF : zFp m z (m.1 42) := by rw [hz, t42]; exact zFp_a (zFp_e xF hw.2 (by decide))
    have TE3 : zEx [2, 3, 4, 5, 6, 7] [] T T3 := zEx_t TE2 hw.1
    rcases hor with ⟨k1, k2, k3⟩ | k1
    · have gz : zTR bf n T3 z := zTR_m k1 yE (by decide) (by decide)
      have hcx := y_cq (x := z) hcmd (fun {Q} hQ => y_ci0 (by rw [← hp]; exact eu) (by rw [← hx]; exact ew) (by rw [← hz]; exact hQ)) (by rw [gz.2.2.2.2.1]; decide) (by decide)
      refine z_cg (S := S) (a := 1) (b := 0) (R := r) (N := N) (by decide) hcx gz (by decide) TE3 zM z43 zF hq h30 ?_
      unfold zCms
      dsimp only
      rw [z15, z16, z17, g2, k2]
      exact Or.inl ⟨rfl, rfl, by omega⟩
    · have gz : zTE bf n T3 z := zTE_m k1 yE (by decide) (by decide)
      have hcx := y_cq (x := z) hcmd (fun {Q} hQ => y_ci0 (by rw [← hp]; exact eu) (by rw [← hx]; exact ew) (by rw [← hz]; exact hQ)) (by have := gz.2.1; omega) (by decide)
      rw [zFn_e gz.2.1] at hcx
      exact z_ce hcx gz (by decide) TE3 zM h44 (fun z => absurd z (by decide))
  · have gx : zTE bf n T2 x := zTE_m g1 xE (by decide) (by decide)
    have ew := y_numberE (m := x) (a := 0) (b := 999) gx.2.1
    have hn : zOk (fX2_passNumberOf T2 V 1) (fun t => zTX bf n T2 t.1) := by
      unfold fX2_passNumberOf
      exact zok_g (by decide) (zok_t rfl (zok_b (x_passNumberX gx.1 gx.ne.1 gx.ne.2 (by decide) (by decide)) (fun r hr => zok_s hr)))
    refine zok_b hn (fun y hy => ?_)
    have yE : zEx [] [17] x (zPa x 17 (t.1 42) (x.1 7)) := zEx_a zEx_0 (by decide)
    obtain ⟨z, hz⟩ : ∃ z, z = zPa x 17 (t.1 42) (x.1 7) := ⟨_, rfl⟩
    rw [← hz] at yE
    have gz : zTE bf n y.1 z := zTE_m (zTE_X gx hy) yE (by decide) (by decide)
    have hcx := y_cq (x := z) hcmd (fun {Q} hQ => y_ci0 (by rw [← hp]; exact eu) (by rw [← hx]; exact ew) (by rw [← hz]; exact hQ)) (by have := gz.2.1; omega) (by decide)
    rw [zFn_e gz.2.1] at hcx
    exact z_ce hcx gz (by decide) (zEx_t TE2 (zEx_w hy.2 (by decide) (by decide))) (zEx_t (zEx_w xM (by decide) (by decide)) (zEx_w yE (by decide) (by decide))) h44 (fun z => absurd z (by decide))
theorem z_kn1 {S V T m T1 t : CV} (h : zTR bf n T1 t) (hcmd : ∀ {Q : CV → Prop}, zOk (zMI 1 t) Q → zOk (fX8_command m) Q) (hT : zEx [2, 3, 4, 5, 6, 7] [] T T1) (hm : zEx [4, 5, 6, 7, 8, 9, 10, 13, 43] [] m t) (t43 : t.1 43 = m.1 43 + 1) (hB : zB1 V (m.2 2) (m.2 7)) (hq : zYs S m) (h30 : S.1 3 < 30) (h2 : S.1 6 < 2 ∨ 1 ≠ 9) : zOk (zRCi 2 S V T1) (zYo bf n T m) := by
  have t42 : t.1 42 = m.1 42 := hm.1 42 (by decide)
  have h44 : 0 ≤ m.1 44 ∧ m.1 44 ≤ 2 := by
    obtain ⟨d, a1, _, a3, _⟩ := hq
    omega
  have pE : zEx [] [15] t (zPa t 15 (t.1 42) 1) := zEx_a zEx_0 (by decide)
  obtain ⟨p, hp⟩ : ∃ p, p = zPa t 15 (t.1 42) 1 := ⟨_, rfl⟩
  rw [← hp] at pE
  have hP : zTR bf n T1 p := zTR_m h pE (by decide) (by decide)
  have pM : zEx [4, 5, 6, 7, 8, 9, 10, 13, 43] [15] m p := zEx_t (zEx_w hm (by decide) (by decide)) (zEx_w pE (by decide) (by decide))
  have p15 : p.2 15 (m.1 42) = 1 := by rw [hp, zPa_s, t42, zup_s]
  have pF : zFp m p (m.1 42) := by rw [hp, t42]; exact zFp_a (zFp_e (fun _ _ => ⟨rfl, rfl, rfl⟩) hm (by decide))
  have p43 : p.1 43 = m.1 43 + 1 := by rw [hp, zPa_1, t43]
  unfold zRCi
  refine zok_e x_hn2 ?_
  refine zok_jP (fun (q : Int × CV) => ∃ u v, fX8_toldRow p = some (u, v) ∧ zwF T1 q.2 p u ∧ ((zTR bf n q.2 u ∧ q.1 = v ∧ (0 ≤ v ∧ v < m.2 2 0)) ∨ zTE bf n q.2 u)) (fun q hq2 => ?_) (fun K hK => zok_t rfl (zok_b (z_rowT hP (by rw [pM.2 2 (by decide), pM.2 7 (by decide)]; exact hB)) (fun r hr => hK _ ?_)))
  rotate_left
  · obtain ⟨u, eu, hu, hor⟩ := hr
    rw [pM.2 2 (by decide)] at hor
    refine ⟨u.1, u.2, eu, hu, ?_⟩
    rcases hor with ⟨g1, _, g2, g3⟩ | g1
    · exact Or.inl ⟨g1, g2, g3⟩
    · exact Or.inr g1
  obtain ⟨u, v, eu, hu, hor⟩ := hq2
  obtain ⟨r, T2⟩ := q
  dsimp only at hu hor ⊢
  have xE : zEx [] [16] u (zPa u 16 (t.1 42) v) := zEx_a zEx_0 (by decide)
  obtain ⟨x, hx⟩ : ∃ x, x = zPa u 16 (t.1 42) v := ⟨_, rfl⟩
  rw [← hx] at xE
  have xM : zEx [4, 5, 6, 7, 8, 9, 10, 13, 43] [15, 16] m x := zEx_t (zEx_t (zEx_w pM (by decide) (by decide)) (zEx_w hu.2 (by decide) (by decide))) (zEx_w xE (by decide) (by decide))
  have x43 : x.1 43 = m.1 43 + 1 := by rw [xE.1 43 (by decide), hu.2.1 43 (by decide), p43]
  have x15 : x.2 15 (m.1 42) = 1 := by rw [xE.2 15 (by decide), hu.2.2 15 (by decide), p15]
  have x16 : x.2 16 (m.1 42) = v := by rw [hx, zPa_s, t42, zup_s]
  have xF : zFp m x (m.1 42) := by rw [hx, t42]; exact zFp_a (zFp_e pF hu.2 (by decide))
  have TE2 : zEx [2, 3, 4, 5, 6, 7] [] T T2 := zEx_t hT hu.1
  have hn : fX2_passNumberOf T2 V 2 = some (T2, -1) := by
    apply zok_q
    unfold fX2_passNumberOf
    exact zok_g (by decide) (zok_f (by decide) (zok_t rfl (zok_s rfl)))
  refine zok_e hn ?_
  dsimp only
  rcases hor with ⟨g1, g2, g3⟩ | g1
  · have gx : zTR bf n T2 x := zTR_m g1 xE (by decide) (by decide)
    have hcx := y_cq (x := x) hcmd (fun {Q} hQ => y_ci1 (by rw [← hp]; exact eu) (by rw [← hx]; exact hQ)) (by rw [gx.2.2.2.2.1]; decide) (by decide)
    refine z_cg (S := S) (a := 2) (b := 1) (R := r) (N := -1) (by decide) hcx gx (by decide) TE2 (zEx_w xM (by decide) (by decide)) x43 xF hq h30 ?_
    unfold zCms
    dsimp only
    rw [x15, x16, g2]
    exact Or.inr (Or.inl ⟨rfl, rfl, by omega⟩)
  · have gx : zTE bf n T2 x := zTE_m g1 xE (by decide) (by decide)
    have hcx := y_cq (x := x) hcmd (fun {Q} hQ => y_ci1 (by rw [← hp]; exact eu) (by rw [← hx]; exact hQ)) (by have := gx.2.1; omega) (by decide)
    rw [zFn_e gx.2.1] at hcx
    exact z_ce hcx gx (by decide) TE2 (zEx_w xM (by decide) (by decide)) h44 (fun z => absurd z (by decide))
theorem z_kn2 {S V T m T1 t : CV} (h : zTR bf n T1 t) (hcmd : ∀ {Q : CV → Prop}, zOk (zMI 2 t) Q → zOk (fX8_command m) Q) (hT : zEx [2, 3, 4, 5, 6, 7] [] T T1) (hm : zEx [4, 5, 6, 7, 8, 9, 10, 13, 43] [] m t) (t43 : t.1 43 = m.1 43 + 1) (hB : zB1 V (m.2 2) (m.2 7)) (hq : zYs S m) (h30 : S.1 3 < 30) (h2 : S.1 6 < 2 ∨ 2 ≠ 9) : zOk (zRCi 3 S V T1) (zYo bf n T m) := by
  have t42 : t.1 42 = m.1 42 := hm.1 42 (by decide)
  have h44 : 0 ≤ m.1 44 ∧ m.1 44 ≤ 2 := by
    obtain ⟨d, a1, _, a3, _⟩ := hq
    omega
  have pE : zEx [] [15] t (zPa t 15 (t.1 42) 2) := zEx_a zEx_0 (by decide)
  obtain ⟨p, hp⟩ : ∃ p, p = zPa t 15 (t.1 42) 2 := ⟨_, rfl⟩
  rw [← hp] at pE
  have hP : zTR bf n T1 p := zTR_m h pE (by decide) (by decide)
  have pM : zEx [4, 5, 6, 7, 8, 9, 10, 13, 43] [15] m p := zEx_t (zEx_w hm (by decide) (by decide)) (zEx_w pE (by decide) (by decide))
  have p15 : p.2 15 (m.1 42) = 2 := by rw [hp, zPa_s, t42, zup_s]
  have pF : zFp m p (m.1 42) := by rw [hp, t42]; exact zFp_a (zFp_e (fun _ _ => ⟨rfl, rfl, rfl⟩) hm (by decide))
  have p43 : p.1 43 = m.1 43 + 1 := by rw [hp, zPa_1, t43]
  unfold zRCi
  refine zok_e x_hn3 ?_
  refine zok_jP (fun (q : Int × CV) => ∃ u v, fX8_toldRow p = some (u, v) ∧ zwF T1 q.2 p u ∧ ((zTR bf n q.2 u ∧ q.1 = v ∧ (0 ≤ v ∧ v < m.2 2 0)) ∨ zTE bf n q.2 u)) (fun q hq2 => ?_) (fun K hK => zok_t rfl (zok_b (z_rowT hP (by rw [pM.2 2 (by decide), pM.2 7 (by decide)]; exact hB)) (fun r hr => hK _ ?_)))
  rotate_left
  · obtain ⟨u, eu, hu, hor⟩ := hr
    rw [pM.2 2 (by decide)] at hor
    refine ⟨u.1, u.2, eu, hu, ?_⟩
    rcases hor with ⟨g1, _, g2, g3⟩ | g1
    · exact Or.inl ⟨g1, g2, g3⟩
    · exact Or.inr g1
  obtain ⟨u, v, eu, hu, hor⟩ := hq2
  obtain ⟨r, T2⟩ := q
  dsimp only at hu hor ⊢
  have xE : zEx [] [16] u (zPa u 16 (t.1 42) v) := zEx_a zEx_0 (by decide)
  obtain ⟨x, hx⟩ : ∃ x, x = zPa u 16 (t.1 42) v := ⟨_, rfl⟩
  rw [← hx] at xE
  have xM : zEx [4, 5, 6, 7, 8, 9, 10, 13, 43] [15, 16] m x := zEx_t (zEx_t (zEx_w pM (by decide) (by decide)) (zEx_w hu.2 (by decide) (by decide))) (zEx_w xE (by decide) (by decide))
  have x43 : x.1 43 = m.1 43 + 1 := by rw [xE.1 43 (by decide), hu.2.1 43 (by decide), p43]
  have x15 : x.2 15 (m.1 42) = 2 := by rw [xE.2 15 (by decide), hu.2.2 15 (by decide), p15]
  have x16 : x.2 16 (m.1 42) = v := by rw [hx, zPa_s, t42, zup_s]
  have xF : zFp m x (m.1 42) := by rw [hx, t42]; exact zFp_a (zFp_e pF hu.2 (by decide))
  have TE2 : zEx [2, 3, 4, 5, 6, 7] [] T T2 := zEx_t hT hu.1
  have hn : fX2_passNumberOf T2 V 3 = some (T2, -1) := by
    apply zok_q
    unfold fX2_passNumberOf
    exact zok_g (by decide) (zok_f (by decide) (zok_f (by decide) (zok_t rfl (zok_s rfl))))
  refine zok_e hn ?_
  dsimp only
  rcases hor with ⟨g1, g2, g3⟩ | g1
  · have gx : zTR bf n T2 x := zTR_m g1 xE (by decide) (by decide)
    have hcx := y_cq (x := x) hcmd (fun {Q} hQ => y_ci2 (by rw [← hp]; exact eu) (by rw [← hx]; exact hQ)) (by rw [gx.2.2.2.2.1]; decide) (by decide)
    refine z_cg (S := S) (a := 3) (b := 2) (R := r) (N := -1) (by decide) hcx gx (by decide) TE2 (zEx_w xM (by decide) (by decide)) x43 xF hq h30 ?_
    unfold zCms
    dsimp only
    rw [x15, x16, g2]
    exact Or.inr (Or.inr (Or.inl ⟨rfl, rfl, by omega⟩))
  · have gx : zTE bf n T2 x := zTE_m g1 xE (by decide) (by decide)
    have hcx := y_cq (x := x) hcmd (fun {Q} hQ => y_ci2 (by rw [← hp]; exact eu) (by rw [← hx]; exact hQ)) (by have := gx.2.1; omega) (by decide)
    rw [zFn_e gx.2.1] at hcx
    exact z_ce hcx gx (by decide) TE2 (zEx_w xM (by decide) (by decide)) h44 (fun z => absurd z (by decide))
theorem z_kn3 {S V T m T1 t : CV} (h : zTR bf n T1 t) (hcmd : ∀ {Q : CV → Prop}, zOk (zMI 3 t) Q → zOk (fX8_command m) Q) (hT : zEx [2, 3, 4, 5, 6, 7] [] T T1) (hm : zEx [4, 5, 6, 7, 8, 9, 10, 13, 43] [] m t) (t43 : t.1 43 = m.1 43 + 1) (hB : zB1 V (m.2 2) (m.2 7)) (hq : zYs S m) (h30 : S.1 3 < 30) (h2 : S.1 6 < 2 ∨ 3 ≠ 9) : zOk (zRCi 4 S V T1) (zYo bf n T m) := by
  have t42 : t.1 42 = m.1 42 := hm.1 42 (by decide)
  have h44 : 0 ≤ m.1 44 ∧ m.1 44 ≤ 2 := by
    obtain ⟨d, a1, _, a3, _⟩ := hq
    omega
  have pE : zEx [] [15] t (zPa t 15 (t.1 42) 3) := zEx_a zEx_0 (by decide)
  obtain ⟨p, hp⟩ : ∃ p, p = zPa t 15 (t.1 42) 3 := ⟨_, rfl⟩
  rw [← hp] at pE
  have hP : zTR bf n T1 p := zTR_m h pE (by decide) (by decide)
  have pM : zEx [4, 5, 6, 7, 8, 9, 10, 13, 43] [15] m p := zEx_t (zEx_w hm (by decide) (by decide)) (zEx_w pE (by decide) (by decide))
  have p15 : p.2 15 (m.1 42) = 3 := by rw [hp, zPa_s, t42, zup_s]
  have pF : zFp m p (m.1 42) := by rw [hp, t42]; exact zFp_a (zFp_e (fun _ _ => ⟨rfl, rfl, rfl⟩) hm (by decide))
  have p43 : p.1 43 = m.1 43 + 1 := by rw [hp, zPa_1, t43]
  unfold zRCi
  refine zok_e x_hn4 ?_
  refine zok_jP (fun (q : Int × CV) => q = (-1, T1)) (fun q hq2 => ?_) (fun K hK => zok_f Bool.false_ne_true (hK _ rfl))
  rw [hq2]
  have hn : zOk (fX2_passNumberOf T1 V 4) (fun t => zOk (fX8_number p 0 999) (fun u => zwF T1 t.1 p u.1 ∧ ((zTR bf n t.1 u.1 ∧ t.2 = u.2 ∧ (0 ≤ u.2 ∧ u.2 ≤ 999)) ∨ zTE bf n t.1 u.1))) := by
      unfold fX2_passNumberOf
      refine zok_g (by decide) (zok_f (by decide) (zok_f (by decide) (zok_f (by decide) (zok_t rfl (zok_b (z_number hP (a := 0) (b := 999) (by decide) (by decide)) (fun r hr => zok_s ?_))))))
      obtain ⟨w, ew, hw, hor⟩ := hr
      refine ⟨w, ew, hw, ?_⟩
      rcases hor with ⟨k1, _, k2⟩ | k1
      · exact Or.inl ⟨k1, k2⟩
      · exact Or.inr k1
  refine zok_b hn (fun y hy => ?_)
  obtain ⟨w, ew, hw, hor⟩ := hy
  obtain ⟨T3, N⟩ := y
  obtain ⟨w, c⟩ := w
  dsimp only at hw hor ⊢
  have yE : zEx [] [16] w (zPa w 16 (t.1 42) c) := zEx_a zEx_0 (by decide)
  obtain ⟨z, hz⟩ : ∃ z, z = zPa w 16 (t.1 42) c := ⟨_, rfl⟩
  rw [← hz] at yE
  have zM : zEx [4, 5, 6, 7, 8, 9, 10, 13, 43] [15, 16, 17] m z := zEx_t (zEx_t (zEx_w pM (by decide) (by decide)) (zEx_w hw.2 (by decide) (by decide))) (zEx_w yE (by decide) (by decide))
  have z43 : z.1 43 = m.1 43 + 1 := by rw [yE.1 43 (by decide), hw.2.1 43 (by decide), p43]
  have z15 : z.2 15 (m.1 42) = 3 := by rw [yE.2 15 (by decide), hw.2.2 15 (by decide), p15]
  have z16 : z.2 16 (m.1 42) = c := by rw [hz, zPa_s, t42, zup_s]
  have zF : zFp m z (m.1 42) := by rw [hz, t42]; exact zFp_a (zFp_e pF hw.2 (by decide))
  have TE3 : zEx [2, 3, 4, 5, 6, 7] [] T T3 := zEx_t hT hw.1
  rcases hor with ⟨k1, k2, k3⟩ | k1
  · have gz : zTR bf n T3 z := zTR_m k1 yE (by decide) (by decide)
    have hcx := y_cq (x := z) hcmd (fun {Q} hQ => y_ci3 (by rw [← hp]; exact ew) (by rw [← hz]; exact hQ)) (by rw [gz.2.2.2.2.1]; decide) (by decide)
    refine z_cg (S := S) (a := 4) (b := 3) (R := -1) (N := N) (by decide) hcx gz (by decide) TE3 zM z43 zF hq h30 ?_
    unfold zCms
    dsimp only
    rw [z15, z16, k2]
    exact Or.inr (Or.inr (Or.inr (Or.inl ⟨rfl, rfl, by omega⟩)))
  · have gz : zTE bf n T3 z := zTE_m k1 yE (by decide) (by decide)
    have hcx := y_cq (x := z) hcmd (fun {Q} hQ => y_ci3 (by rw [← hp]; exact ew) (by rw [← hz]; exact hQ)) (by have := gz.2.1; omega) (by decide)
    rw [zFn_e gz.2.1] at hcx
    exact z_ce hcx gz (by decide) TE3 zM h44 (fun z => absurd z (by decide))
theorem z_kn4 {S V T m T1 t : CV} (h : zTR bf n T1 t) (hcmd : ∀ {Q : CV → Prop}, zOk (zMI 4 t) Q → zOk (fX8_command m) Q) (hT : zEx [2, 3, 4, 5, 6, 7] [] T T1) (hm : zEx [4, 5, 6, 7, 8, 9, 10, 13, 43] [] m t) (t43 : t.1 43 = m.1 43 + 1) (hB : zB1 V (m.2 2) (m.2 7)) (hq : zYs S m) (h30 : S.1 3 < 30) (h2 : S.1 6 < 2 ∨ 4 ≠ 9) : zOk (zRCi 5 S V T1) (zYo bf n T m) := by
  have t42 : t.1 42 = m.1 42 := hm.1 42 (by decide)
  have h44 : 0 ≤ m.1 44 ∧ m.1 44 ≤ 2 := by
    obtain ⟨d, a1, _, a3, _⟩ := hq
    omega
  have pE : zEx [] [15] t (zPa t 15 (t.1 42) 4) := zEx_a zEx_0 (by decide)
  obtain ⟨p, hp⟩ : ∃ p, p = zPa t 15 (t.1 42) 4 := ⟨_, rfl⟩
  rw [← hp] at pE
  have hP : zTR bf n T1 p := zTR_m h pE (by decide) (by decide)
  have pM : zEx [4, 5, 6, 7, 8, 9, 10, 13, 43] [15] m p := zEx_t (zEx_w hm (by decide) (by decide)) (zEx_w pE (by decide) (by decide))
  have p15 : p.2 15 (m.1 42) = 4 := by rw [hp, zPa_s, t42, zup_s]
  have pF : zFp m p (m.1 42) := by rw [hp, t42]; exact zFp_a (zFp_e (fun _ _ => ⟨rfl, rfl, rfl⟩) hm (by decide))
  have p43 : p.1 43 = m.1 43 + 1 := by rw [hp, zPa_1, t43]
  unfold zRCi
  refine zok_e x_hn5 ?_
  refine zok_jP (fun (q : Int × CV) => q = (-1, T1)) (fun q hq2 => ?_) (fun K hK => zok_f Bool.false_ne_true (hK _ rfl))
  rw [hq2]
  have hn : zOk (fX2_passNumberOf T1 V 5) (fun t => zOk (fX8_toldWord p) (fun u => zwF T1 t.1 p u.1 ∧ ((zTR bf n t.1 u.1 ∧ t.2 = u.2 ∧ (0 ≤ u.2 ∧ u.2 < zWords (m.2 2))) ∨ zTE bf n t.1 u.1))) := by
      unfold fX2_passNumberOf
      refine zok_g (by decide) (zok_f (by decide) (zok_f (by decide) (zok_f (by decide) (zok_f (by decide) (zok_t rfl (zok_b (z_wordT hP (V := V) (by rw [pM.2 2 (by decide), pM.2 7 (by decide)]; exact hB)) (fun r hr => zok_s ?_)))))))
      obtain ⟨w, ew, hw, hor⟩ := hr
      rw [pM.2 2 (by decide)] at hor
      refine ⟨w, ew, hw, ?_⟩
      rcases hor with ⟨k1, _, k2⟩ | k1
      · exact Or.inl ⟨k1, k2⟩
      · exact Or.inr k1
  refine zok_b hn (fun y hy => ?_)
  obtain ⟨w, ew, hw, hor⟩ := hy
  obtain ⟨T3, N⟩ := y
  obtain ⟨w, c⟩ := w
  dsimp only at hw hor ⊢
  have yE : zEx [] [16] w (zPa w 16 (t.1 42) c) := zEx_a zEx_0 (by decide)
  obtain ⟨z, hz⟩ : ∃ z, z = zPa w 16 (t.1 42) c := ⟨_, rfl⟩
  rw [← hz] at yE
  have zM : zEx [4, 5, 6, 7, 8, 9, 10, 13, 43] [15, 16, 17] m z := zEx_t (zEx_t (zEx_w pM (by decide) (by decide)) (zEx_w hw.2 (by decide) (by decide))) (zEx_w yE (by decide) (by decide))
  have z43 : z.1 43 = m.1 43 + 1 := by rw [yE.1 43 (by decide), hw.2.1 43 (by decide), p43]
  have z15 : z.2 15 (m.1 42) = 4 := by rw [yE.2 15 (by decide), hw.2.2 15 (by decide), p15]
  have z16 : z.2 16 (m.1 42) = c := by rw [hz, zPa_s, t42, zup_s]
  have zF : zFp m z (m.1 42) := by rw [hz, t42]; exact zFp_a (zFp_e pF hw.2 (by decide))
  have TE3 : zEx [2, 3, 4, 5, 6, 7] [] T T3 := zEx_t hT hw.1
  rcases hor with ⟨k1, k2, k3⟩ | k1
  · have gz : zTR bf n T3 z := zTR_m k1 yE (by decide) (by decide)
    have hcx := y_cq (x := z) hcmd (fun {Q} hQ => y_ci4 (by rw [← hp]; exact ew) (by rw [← hz]; exact hQ)) (by rw [gz.2.2.2.2.1]; decide) (by decide)
    refine z_cg (S := S) (a := 5) (b := 4) (R := -1) (N := N) (by decide) hcx gz (by decide) TE3 zM z43 zF hq h30 ?_
    unfold zCms
    dsimp only
    rw [z15, z16, k2]
    exact Or.inr (Or.inr (Or.inr (Or.inr (Or.inl ⟨rfl, rfl, by omega⟩))))
  · have gz : zTE bf n T3 z := zTE_m k1 yE (by decide) (by decide)
    have hcx := y_cq (x := z) hcmd (fun {Q} hQ => y_ci4 (by rw [← hp]; exact ew) (by rw [← hz]; exact hQ)) (by have := gz.2.1; omega) (by decide)
    rw [zFn_e gz.2.1] at hcx
    exact z_ce hcx gz (by decide) TE3 zM h44 (fun z => absurd z (by decide))
theorem z_kn5 {S V T m T1 t : CV} (h : zTR bf n T1 t) (hcmd : ∀ {Q : CV → Prop}, zOk (zMI 5 t) Q → zOk (fX8_command m) Q) (hT : zEx [2, 3, 4, 5, 6, 7] [] T T1) (hm : zEx [4, 5, 6, 7, 8, 9, 10, 13, 43] [] m t) (t43 : t.1 43 = m.1 43 + 1) (hB : zB1 V (m.2 2) (m.2 7)) (hq : zYs S m) (h30 : S.1 3 < 30) (h2 : S.1 6 < 2 ∨ 5 ≠ 9) : zOk (zRCi 6 S V T1) (zYo bf n T m) := by
  have t42 : t.1 42 = m.1 42 := hm.1 42 (by decide)
  have h44 : 0 ≤ m.1 44 ∧ m.1 44 ≤ 2 := by
    obtain ⟨d, a1, _, a3, _⟩ := hq
    omega
  have pE : zEx [] [15] t (zPa t 15 (t.1 42) 5) := zEx_a zEx_0 (by decide)
  obtain ⟨p, hp⟩ : ∃ p, p = zPa t 15 (t.1 42) 5 := ⟨_, rfl⟩
  rw [← hp] at pE
  have hP : zTR bf n T1 p := zTR_m h pE (by decide) (by decide)
  have pM : zEx [4, 5, 6, 7, 8, 9, 10, 13, 43] [15] m p := zEx_t (zEx_w hm (by decide) (by decide)) (zEx_w pE (by decide) (by decide))
  have p15 : p.2 15 (m.1 42) = 5 := by rw [hp, zPa_s, t42, zup_s]
  have pF : zFp m p (m.1 42) := by rw [hp, t42]; exact zFp_a (zFp_e (fun _ _ => ⟨rfl, rfl, rfl⟩) hm (by decide))
  have p43 : p.1 43 = m.1 43 + 1 := by rw [hp, zPa_1, t43]
  unfold zRCi
  refine zok_e x_hn6 ?_
  refine zok_jP (fun (q : Int × CV) => q = (-1, T1)) (fun q hq2 => ?_) (fun K hK => zok_f Bool.false_ne_true (hK _ rfl))
  rw [hq2]
  have hn : fX2_passNumberOf T1 V 6 = some (T1, -1) := by
    apply zok_q
    unfold fX2_passNumberOf
    exact zok_g (by decide) (zok_f (by decide) (zok_f (by decide) (zok_f (by decide) (zok_f (by decide) (zok_f (by decide) (zok_t rfl (zok_s rfl)))))))
  refine zok_e hn ?_
  dsimp only
  have hcx := y_cq (x := p) hcmd (fun {Q} hQ => y_ci5 (by rw [← hp]; exact hQ)) (by rw [hP.2.2.2.2.1]; decide) (by decide)
  refine z_cg (S := S) (a := 6) (b := 5) (R := -1) (N := -1) (by decide) hcx hP (by decide) hT (zEx_w pM (by decide) (by decide)) p43 pF hq h30 ?_
  unfold zCms
  dsimp only
  rw [p15]
  exact Or.inr (Or.inr (Or.inr (Or.inr (Or.inr (Or.inl ⟨rfl, rfl⟩)))))
theorem z_kn6 {S V T m T1 t : CV} (h : zTR bf n T1 t) (hcmd : ∀ {Q : CV → Prop}, zOk (zMI 6 t) Q → zOk (fX8_command m) Q) (hT : zEx [2, 3, 4, 5, 6, 7] [] T T1) (hm : zEx [4, 5, 6, 7, 8, 9, 10, 13, 43] [] m t) (t43 : t.1 43 = m.1 43 + 1) (hB : zB1 V (m.2 2) (m.2 7)) (hq : zYs S m) (h30 : S.1 3 < 30) (h2 : S.1 6 < 2 ∨ 6 ≠ 9) : zOk (zRCi 7 S V T1) (zYo bf n T m) := by
  have t42 : t.1 42 = m.1 42 := hm.1 42 (by decide)
  have h44 : 0 ≤ m.1 44 ∧ m.1 44 ≤ 2 := by
    obtain ⟨d, a1, _, a3, _⟩ := hq
    omega
  have pE : zEx [] [15] t (zPa t 15 (t.1 42) 6) := zEx_a zEx_0 (by decide)
  obtain ⟨p, hp⟩ : ∃ p, p = zPa t 15 (t.1 42) 6 := ⟨_, rfl⟩
  rw [← hp] at pE
  have hP : zTR bf n T1 p := zTR_m h pE (by decide) (by decide)
  have pM : zEx [4, 5, 6, 7, 8, 9, 10, 13, 43] [15] m p := zEx_t (zEx_w hm (by decide) (by decide)) (zEx_w pE (by decide) (by decide))
  have p15 : p.2 15 (m.1 42) = 6 := by rw [hp, zPa_s, t42, zup_s]
  have pF : zFp m p (m.1 42) := by rw [hp, t42]; exact zFp_a (zFp_e (fun _ _ => ⟨rfl, rfl, rfl⟩) hm (by decide))
  have p43 : p.1 43 = m.1 43 + 1 := by rw [hp, zPa_1, t43]
  unfold zRCi
  refine zok_e x_hn7 ?_
  refine zok_jP (fun (q : Int × CV) => ∃ u v, fX8_toldRow p = some (u, v) ∧ zwF T1 q.2 p u ∧ ((zTR bf n q.2 u ∧ q.1 = v ∧ (0 ≤ v ∧ v < m.2 2 0)) ∨ zTE bf n q.2 u)) (fun q hq2 => ?_) (fun K hK => zok_t rfl (zok_b (z_rowT hP (by rw [pM.2 2 (by decide), pM.2 7 (by decide)]; exact hB)) (fun r hr => hK _ ?_)))
  rotate_left
  · obtain ⟨u, eu, hu, hor⟩ := hr
    rw [pM.2 2 (by decide)] at hor
    refine ⟨u.1, u.2, eu, hu, ?_⟩
    rcases hor with ⟨g1, _, g2, g3⟩ | g1
    · exact Or.inl ⟨g1, g2, g3⟩
    · exact Or.inr g1
  obtain ⟨u, v, eu, hu, hor⟩ := hq2
  obtain ⟨r, T2⟩ := q
  dsimp only at hu hor ⊢
  have xE : zEx [] [16] u (zPa u 16 (t.1 42) v) := zEx_a zEx_0 (by decide)
  obtain ⟨x, hx⟩ : ∃ x, x = zPa u 16 (t.1 42) v := ⟨_, rfl⟩
  rw [← hx] at xE
  have xM : zEx [4, 5, 6, 7, 8, 9, 10, 13, 43] [15, 16] m x := zEx_t (zEx_t (zEx_w pM (by decide) (by decide)) (zEx_w hu.2 (by decide) (by decide))) (zEx_w xE (by decide) (by decide))
  have x43 : x.1 43 = m.1 43 + 1 := by rw [xE.1 43 (by decide), hu.2.1 43 (by decide), p43]
  have x15 : x.2 15 (m.1 42) = 6 := by rw [xE.2 15 (by decide), hu.2.2 15 (by decide), p15]
  have x16 : x.2 16 (m.1 42) = v := by rw [hx, zPa_s, t42, zup_s]
  have xF : zFp m x (m.1 42) := by rw [hx, t42]; exact zFp_a (zFp_e pF hu.2 (by decide))
  have TE2 : zEx [2, 3, 4, 5, 6, 7] [] T T2 := zEx_t hT hu.1
  have hn : fX2_passNumberOf T2 V 7 = some (T2, -1) := by
    apply zok_q
    unfold fX2_passNumberOf
    exact zok_g (by decide) (zok_f (by decide) (zok_f (by decide) (zok_f (by decide) (zok_f (by decide) (zok_f (by decide) (zok_f (by decide) (zok_t rfl (zok_s rfl))))))))
  refine zok_e hn ?_
  dsimp only
  rcases hor with ⟨g1, g2, g3⟩ | g1
  · have gx : zTR bf n T2 x := zTR_m g1 xE (by decide) (by decide)
    have hcx := y_cq (x := x) hcmd (fun {Q} hQ => y_ci6 (by rw [← hp]; exact eu) (by rw [← hx]; exact hQ)) (by rw [gx.2.2.2.2.1]; decide) (by decide)
    refine z_cg (S := S) (a := 7) (b := 6) (R := r) (N := -1) (by decide) hcx gx (by decide) TE2 (zEx_w xM (by decide) (by decide)) x43 xF hq h30 ?_
    unfold zCms
    dsimp only
    rw [x15, x16, g2]
    exact Or.inr (Or.inr (Or.inr (Or.inr (Or.inr (Or.inr (Or.inl ⟨rfl, rfl, by omega⟩))))))
  · have gx : zTE bf n T2 x := zTE_m g1 xE (by decide) (by decide)
    have hcx := y_cq (x := x) hcmd (fun {Q} hQ => y_ci6 (by rw [← hp]; exact eu) (by rw [← hx]; exact hQ)) (by have := gx.2.1; omega) (by decide)
    rw [zFn_e gx.2.1] at hcx
    exact z_ce hcx gx (by decide) TE2 (zEx_w xM (by decide) (by decide)) h44 (fun z => absurd z (by decide))
theorem z_kn7 {S V T m T1 t : CV} (h : zTR bf n T1 t) (hcmd : ∀ {Q : CV → Prop}, zOk (zMI 7 t) Q → zOk (fX8_command m) Q) (hT : zEx [2, 3, 4, 5, 6, 7] [] T T1) (hm : zEx [4, 5, 6, 7, 8, 9, 10, 13, 43] [] m t) (t43 : t.1 43 = m.1 43 + 1) (hB : zB1 V (m.2 2) (m.2 7)) (hq : zYs S m) (h30 : S.1 3 < 30) (h2 : S.1 6 < 2 ∨ 7 ≠ 9) : zOk (zRCi 8 S V T1) (zYo bf n T m) := by
  have t42 : t.1 42 = m.1 42 := hm.1 42 (by decide)
  have h44 : 0 ≤ m.1 44 ∧ m.1 44 ≤ 2 := by
    obtain ⟨d, a1, _, a3, _⟩ := hq
    omega
  have pE : zEx [] [15] t (zPa t 15 (t.1 42) 7) := zEx_a zEx_0 (by decide)
  obtain ⟨p, hp⟩ : ∃ p, p = zPa t 15 (t.1 42) 7 := ⟨_, rfl⟩
  rw [← hp] at pE
  have hP : zTR bf n T1 p := zTR_m h pE (by decide) (by decide)
  have pM : zEx [4, 5, 6, 7, 8, 9, 10, 13, 43] [15] m p := zEx_t (zEx_w hm (by decide) (by decide)) (zEx_w pE (by decide) (by decide))
  have p15 : p.2 15 (m.1 42) = 7 := by rw [hp, zPa_s, t42, zup_s]
  have pF : zFp m p (m.1 42) := by rw [hp, t42]; exact zFp_a (zFp_e (fun _ _ => ⟨rfl, rfl, rfl⟩) hm (by decide))
  have p43 : p.1 43 = m.1 43 + 1 := by rw [hp, zPa_1, t43]
  unfold zRCi
  refine zok_e x_hn8 ?_
  refine zok_jP (fun (q : Int × CV) => ∃ u v, fX8_toldRow p = some (u, v) ∧ zwF T1 q.2 p u ∧ ((zTR bf n q.2 u ∧ q.1 = v ∧ (0 ≤ v ∧ v < m.2 2 0)) ∨ zTE bf n q.2 u)) (fun q hq2 => ?_) (fun K hK => zok_t rfl (zok_b (z_rowT hP (by rw [pM.2 2 (by decide), pM.2 7 (by decide)]; exact hB)) (fun r hr => hK _ ?_)))
  rotate_left
  · obtain ⟨u, eu, hu, hor⟩ := hr
    rw [pM.2 2 (by decide)] at hor
    refine ⟨u.1, u.2, eu, hu, ?_⟩
    rcases hor with ⟨g1, _, g2, g3⟩ | g1
    · exact Or.inl ⟨g1, g2, g3⟩
    · exact Or.inr g1
  obtain ⟨u, v, eu, hu, hor⟩ := hq2
  obtain ⟨r, T2⟩ := q
  dsimp only at hu hor ⊢
  have xE : zEx [] [16] u (zPa u 16 (t.1 42) v) := zEx_a zEx_0 (by decide)
  obtain ⟨x, hx⟩ : ∃ x, x = zPa u 16 (t.1 42) v := ⟨_, rfl⟩
  rw [← hx] at xE
  have xM : zEx [4, 5, 6, 7, 8, 9, 10, 13, 43] [15, 16] m x := zEx_t (zEx_t (zEx_w pM (by decide) (by decide)) (zEx_w hu.2 (by decide) (by decide))) (zEx_w xE (by decide) (by decide))
  have x43 : x.1 43 = m.1 43 + 1 := by rw [xE.1 43 (by decide), hu.2.1 43 (by decide), p43]
  have x15 : x.2 15 (m.1 42) = 7 := by rw [xE.2 15 (by decide), hu.2.2 15 (by decide), p15]
  have x16 : x.2 16 (m.1 42) = v := by rw [hx, zPa_s, t42, zup_s]
  have xF : zFp m x (m.1 42) := by rw [hx, t42]; exact zFp_a (zFp_e pF hu.2 (by decide))
  have TE2 : zEx [2, 3, 4, 5, 6, 7] [] T T2 := zEx_t hT hu.1
  have hn : fX2_passNumberOf T2 V 8 = some (T2, -1) := by
    apply zok_q
    unfold fX2_passNumberOf
    exact zok_g (by decide) (zok_f (by decide) (zok_f (by decide) (zok_f (by decide) (zok_f (by decide) (zok_f (by decide) (zok_f (by decide) (zok_f (by decide) (zok_t rfl (zok_s rfl)))))))))
  refine zok_e hn ?_
  dsimp only
  rcases hor with ⟨g1, g2, g3⟩ | g1
  · have gx : zTR bf n T2 x := zTR_m g1 xE (by decide) (by decide)
    have hcx := y_cq (x := x) hcmd (fun {Q} hQ => y_ci7 (by rw [← hp]; exact eu) (by rw [← hx]; exact hQ)) (by rw [gx.2.2.2.2.1]; decide) (by decide)
    refine z_cg (S := S) (a := 8) (b := 7) (R := r) (N := -1) (by decide) hcx gx (by decide) TE2 (zEx_w xM (by decide) (by decide)) x43 xF hq h30 ?_
    unfold zCms
    dsimp only
    rw [x15, x16, g2]
    exact Or.inr (Or.inr (Or.inr (Or.inr (Or.inr (Or.inr (Or.inr (Or.inl ⟨rfl, rfl, by omega⟩)))))))
  · have gx : zTE bf n T2 x := zTE_m g1 xE (by decide) (by decide)
    have hcx := y_cq (x := x) hcmd (fun {Q} hQ => y_ci7 (by rw [← hp]; exact eu) (by rw [← hx]; exact hQ)) (by have := gx.2.1; omega) (by decide)
    rw [zFn_e gx.2.1] at hcx
    exact z_ce hcx gx (by decide) TE2 (zEx_w xM (by decide) (by decide)) h44 (fun z => absurd z (by decide))
theorem z_kn8 {S V T m T1 t : CV} (h : zTR bf n T1 t) (hcmd : ∀ {Q : CV → Prop}, zOk (zMI 8 t) Q → zOk (fX8_command m) Q) (hT : zEx [2, 3, 4, 5, 6, 7] [] T T1) (hm : zEx [4, 5, 6, 7, 8, 9, 10, 13, 43] [] m t) (t43 : t.1 43 = m.1 43 + 1) (hB : zB1 V (m.2 2) (m.2 7)) (hq : zYs S m) (h30 : S.1 3 < 30) (h2 : S.1 6 < 2 ∨ 8 ≠ 9) : zOk (zRCi 9 S V T1) (zYo bf n T m) := by
  have t42 : t.1 42 = m.1 42 := hm.1 42 (by decide)
  have h44 : 0 ≤ m.1 44 ∧ m.1 44 ≤ 2 := by
    obtain ⟨d, a1, _, a3, _⟩ := hq
    omega
  have pE : zEx [] [15] t (zPa t 15 (t.1 42) 8) := zEx_a zEx_0 (by decide)
  obtain ⟨p, hp⟩ : ∃ p, p = zPa t 15 (t.1 42) 8 := ⟨_, rfl⟩
  rw [← hp] at pE
  have hP : zTR bf n T1 p := zTR_m h pE (by decide) (by decide)
  have pM : zEx [4, 5, 6, 7, 8, 9, 10, 13, 43] [15] m p := zEx_t (zEx_w hm (by decide) (by decide)) (zEx_w pE (by decide) (by decide))
  have p15 : p.2 15 (m.1 42) = 8 := by rw [hp, zPa_s, t42, zup_s]
  have pF : zFp m p (m.1 42) := by rw [hp, t42]; exact zFp_a (zFp_e (fun _ _ => ⟨rfl, rfl, rfl⟩) hm (by decide))
  have p43 : p.1 43 = m.1 43 + 1 := by rw [hp, zPa_1, t43]
  unfold zRCi
  refine zok_e x_hn9 ?_
  refine zok_jP (fun (q : Int × CV) => q = (-1, T1)) (fun q hq2 => ?_) (fun K hK => zok_f Bool.false_ne_true (hK _ rfl))
  rw [hq2]
  have hn : zOk (fX2_passNumberOf T1 V 9) (fun t => zOk (fX8_number p 0 999) (fun u => zwF T1 t.1 p u.1 ∧ ((zTR bf n t.1 u.1 ∧ t.2 = u.2 ∧ (0 ≤ u.2 ∧ u.2 ≤ 999)) ∨ zTE bf n t.1 u.1))) := by
      unfold fX2_passNumberOf
      refine zok_g (by decide) (zok_f (by decide) (zok_f (by decide) (zok_f (by decide) (zok_f (by decide) (zok_f (by decide) (zok_f (by decide) (zok_f (by decide) (zok_f (by decide) (zok_t rfl (zok_b (z_number hP (a := 0) (b := 999) (by decide) (by decide)) (fun r hr => zok_s ?_)))))))))))
      obtain ⟨w, ew, hw, hor⟩ := hr
      refine ⟨w, ew, hw, ?_⟩
      rcases hor with ⟨k1, _, k2⟩ | k1
      · exact Or.inl ⟨k1, k2⟩
      · exact Or.inr k1
  refine zok_b hn (fun y hy => ?_)
  obtain ⟨w, ew, hw, hor⟩ := hy
  obtain ⟨T3, N⟩ := y
  obtain ⟨w, c⟩ := w
  dsimp only at hw hor ⊢
  have yE : zEx [] [16] w (zPa w 16 (t.1 42) c) := zEx_a zEx_0 (by decide)
  obtain ⟨z, hz⟩ : ∃ z, z = zPa w 16 (t.1 42) c := ⟨_, rfl⟩
  rw [← hz] at yE
  have zM : zEx [4, 5, 6, 7, 8, 9, 10, 13, 43] [15, 16, 17] m z := zEx_t (zEx_t (zEx_w pM (by decide) (by decide)) (zEx_w hw.2 (by decide) (by decide))) (zEx_w yE (by decide) (by decide))
  have z43 : z.1 43 = m.1 43 + 1 := by rw [yE.1 43 (by decide), hw.2.1 43 (by decide), p43]
  have z15 : z.2 15 (m.1 42) = 8 := by rw [yE.2 15 (by decide), hw.2.2 15 (by decide), p15]
  have z16 : z.2 16 (m.1 42) = c := by rw [hz, zPa_s, t42, zup_s]
  have zF : zFp m z (m.1 42) := by rw [hz, t42]; exact zFp_a (zFp_e pF hw.2 (by decide))
  have TE3 : zEx [2, 3, 4, 5, 6, 7] [] T T3 := zEx_t hT hw.1
  rcases hor with ⟨k1, k2, k3⟩ | k1
  · have gz : zTR bf n T3 z := zTR_m k1 yE (by decide) (by decide)
    have hcx := y_cq (x := z) hcmd (fun {Q} hQ => y_ci8 (by rw [← hp]; exact ew) (by rw [← hz]; exact hQ)) (by rw [gz.2.2.2.2.1]; decide) (by decide)
    refine z_cg (S := S) (a := 9) (b := 8) (R := -1) (N := N) (by decide) hcx gz (by decide) TE3 zM z43 zF hq h30 ?_
    unfold zCms
    dsimp only
    rw [z15, z16, k2]
    exact Or.inr (Or.inr (Or.inr (Or.inr (Or.inr (Or.inr (Or.inr (Or.inr (⟨rfl, rfl, by omega⟩))))))))
  · have gz : zTE bf n T3 z := zTE_m k1 yE (by decide) (by decide)
    have hcx := y_cq (x := z) hcmd (fun {Q} hQ => y_ci8 (by rw [← hp]; exact ew) (by rw [← hz]; exact hQ)) (by have := gz.2.1; omega) (by decide)
    rw [zFn_e gz.2.1] at hcx
    exact z_ce hcx gz (by decide) TE3 zM h44 (fun z => absurd z (by decide))
theorem z_kn9 {S V T m T1 t : CV} (h : zTR bf n T1 t) (hcmd : ∀ {Q : CV → Prop}, zOk (zMI 9 t) Q → zOk (fX8_command m) Q) (hT : zEx [2, 3, 4, 5, 6, 7] [] T T1) (hm : zEx [4, 5, 6, 7, 8, 9, 10, 13, 43] [] m t) (t43 : t.1 43 = m.1 43 + 1) (hB : zB1 V (m.2 2) (m.2 7)) (hq : zYs S m) (h30 : S.1 3 < 30) (h2 : S.1 6 < 2 ∨ 9 ≠ 9) : zOk (zRCi 10 S V T1) (zYo bf n T m) := by
  have t42 : t.1 42 = m.1 42 := hm.1 42 (by decide)
  have h44 : 0 ≤ m.1 44 ∧ m.1 44 ≤ 2 := by
    obtain ⟨d, a1, _, a3, _⟩ := hq
    omega
  have pE : zEx [] [15] t (zPa t 15 (t.1 42) 9) := zEx_a zEx_0 (by decide)
  obtain ⟨p, hp⟩ : ∃ p, p = zPa t 15 (t.1 42) 9 := ⟨_, rfl⟩
  rw [← hp] at pE
  have hP : zTR bf n T1 p := zTR_m h pE (by decide) (by decide)
  have pM : zEx [4, 5, 6, 7, 8, 9, 10, 13, 43] [15] m p := zEx_t (zEx_w hm (by decide) (by decide)) (zEx_w pE (by decide) (by decide))
  have p15 : p.2 15 (m.1 42) = 9 := by rw [hp, zPa_s, t42, zup_s]
  have pF : zFp m p (m.1 42) := by rw [hp, t42]; exact zFp_a (zFp_e (fun _ _ => ⟨rfl, rfl, rfl⟩) hm (by decide))
  have p43 : p.1 43 = m.1 43 + 1 := by rw [hp, zPa_1, t43]
  unfold zRCi
  refine zok_e x_hn10 ?_
  refine zok_jP (fun (q : Int × CV) => q = (-1, T1)) (fun q hq2 => ?_) (fun K hK => zok_f Bool.false_ne_true (hK _ rfl))
  rw [hq2]
  have hn : zOk (fX2_passNumberOf T1 V 10) (fun t => zOk (fX8_number p 1 20) (fun u => zwF T1 t.1 p u.1 ∧ ((zTR bf n t.1 u.1 ∧ t.2 = u.2 ∧ (1 ≤ u.2 ∧ u.2 ≤ 20)) ∨ zTE bf n t.1 u.1))) := by
      unfold fX2_passNumberOf
      refine zok_g (by decide) (zok_f (by decide) (zok_f (by decide) (zok_f (by decide) (zok_f (by decide) (zok_f (by decide) (zok_f (by decide) (zok_f (by decide) (zok_f (by decide) (zok_f (by decide) (zok_t rfl (zok_b (z_number hP (a := 1) (b := 20) (by decide) (by decide)) (fun r hr => zok_s ?_))))))))))))
      obtain ⟨w, ew, hw, hor⟩ := hr
      refine ⟨w, ew, hw, ?_⟩
      rcases hor with ⟨k1, _, k2⟩ | k1
      · exact Or.inl ⟨k1, k2⟩
      · exact Or.inr k1
  refine zok_b hn (fun y hy => ?_)
  obtain ⟨w, ew, hw, hor⟩ := hy
  obtain ⟨T3, N⟩ := y
  obtain ⟨w, c⟩ := w
  dsimp only at hw hor ⊢
  have yE : zEx [] [16] w (zPa w 16 (t.1 42) c) := zEx_a zEx_0 (by decide)
  obtain ⟨z, hz⟩ : ∃ z, z = zPa w 16 (t.1 42) c := ⟨_, rfl⟩
  rw [← hz] at yE
  have zM : zEx [4, 5, 6, 7, 8, 9, 10, 13, 43] [15, 16, 17] m z := zEx_t (zEx_t (zEx_w pM (by decide) (by decide)) (zEx_w hw.2 (by decide) (by decide))) (zEx_w yE (by decide) (by decide))
  have z43 : z.1 43 = m.1 43 + 1 := by rw [yE.1 43 (by decide), hw.2.1 43 (by decide), p43]
  have z15 : z.2 15 (m.1 42) = 9 := by rw [yE.2 15 (by decide), hw.2.2 15 (by decide), p15]
  have z16 : z.2 16 (m.1 42) = c := by rw [hz, zPa_s, t42, zup_s]
  have zF : zFp m z (m.1 42) := by rw [hz, t42]; exact zFp_a (zFp_e pF hw.2 (by decide))
  have TE3 : zEx [2, 3, 4, 5, 6, 7] [] T T3 := zEx_t hT hw.1
  rcases hor with ⟨k1, k2, k3⟩ | k1
  · have gz : zTR bf n T3 z := zTR_m k1 yE (by decide) (by decide)
    refine z_c9 (S := S) (N := N) (fun w2 ew2 hw2 => y_cq (x := w2) hcmd (fun {Q} hQ => y_ci9 (by rw [← hp]; exact ew) (by rw [← hz]; exact ew2) hQ) hw2 (by decide)) gz TE3 zM z43 zF hq h30 (by omega) ⟨z15, by rw [z16]; exact k2, by rw [z16]; exact k3⟩
  · have gz : zTE bf n T3 z := zTE_m k1 yE (by decide) (by decide)
    have hcx := y_cq (x := z) hcmd (fun {Q} hQ => y_ci9 (by rw [← hp]; exact ew) (by rw [← hz]; exact y_mustSignE gz.2.1) hQ) (by have := gz.2.1; omega) (by decide)
    rw [zFn_e gz.2.1] at hcx
    refine z_ce hcx gz (by decide) TE3 zM h44 (fun _ => ?_)
    obtain ⟨d, a1, a2, _⟩ := hq
    show 0 ≤ S.1 6 ∧ S.1 6 < 2
    omega
end ZYN
