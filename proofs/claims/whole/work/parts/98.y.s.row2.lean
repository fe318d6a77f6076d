section ZRV
variable {bf : Int → Int} {n : Int}
theorem z_row {VRd VB T m : CV} (h : zTR bf n T m) (hBr : zBr VB (m.2 2) (m.2 7)) (k0 : T.1 2 = 1) : zOk (fX5_readRow VRd T VB) (fun r => zOk (fX8_readsRow m) (fun v => zRo bf n T m r v)) := by
  have hB := zBr_1 hBr
  have w0 := hB.1.1
  have hV3 : VB.1 3 = m.2 2 0 := hB.2.1.2.2.2.1
  have hV0 : VB.1 0 = m.2 2 1 := hB.2.1.1
  have w1 := hB.1.2.1
  have hn := zBr_n hB
  have hh := h
  obtain ⟨hT0, hM0, ⟨e1, e2, e3⟩, c1, c2, c3, c4⟩ := hh
  unfold fX5_readRow
  by_cases k10 : m.2 2 0 = 10
  · obtain ⟨z, ez, v', ev, hv⟩ := z_fail h (c := 6) (by decide) (fun q => by omega)
    refine zok_jP (fun (q : CV) => q = z) (fun q hq => ?_) (fun K hK => ?_)
    · rw [hq]
      have hzc := hv.1.1
      have z6 := hv.1.ne
      refine zok_w (x_rowA hB hzc z6.1 z6.2) (fun r hr => ?_)
      unfold fX8_readsRow
      refine zok_jP (fun (q : CV) => q = v') (fun q hq => ?_) (fun K hK => zok_g (by omega) (zok_t k10 (zok_e ev (hK _ rfl))))
      rw [hq]
      exact zok_v (y_row5 hv.1.2.1) (zRo_e (zEx_w hv.2.1 (by decide) (by decide)) (zFq_e zFq_0 hv.2.2 (by decide)) hr hv.1)
    · rw [hV3]
      exact zok_g (by omega) (zok_t k10 (zok_e ez (hK _ rfl)))
  refine zok_jP (fun (q : CV) => q = T) (fun q hq => ?_) (fun K hK => zok_g (by omega) (zok_f (by omega) (hK _ rfl)))
  rw [hq]
  refine zok_b (x_next hT0) (fun t ht => ?_)
  obtain ⟨y, ey, hy, hyE⟩ := z_nx2 h ht
  have htE : zEx [2, 3, 4, 5, 6, 7] [] T t := zEx_w ht.1.2 (by decide) (by decide)
  have hyF : zFq m y := zFq_e zFq_0 hyE (by decide)
  have hmono : T.1 5 ≤ t.1 4 := ht.2.1.1
  have hyh := hy
  obtain ⟨hTt, hMy, ⟨f1, f2, f3⟩, d1, d2, d3, d4⟩ := hyh
  obtain ⟨r1, r2, r3, r4, r5, r6, r7, r8, r9, r10⟩ := hTt.r
  have hy2 : y.2 2 = m.2 2 := hyE.2 2 (by decide)
  have hy7 : y.2 7 = m.2 7 := hyE.2 7 (by decide)
  have hnr := x_name_r hTt
  refine zok_e (x_nameCode hTt) ?_
  by_cases k1 : t.1 2 = 1 ∧ t.1 5 - t.1 4 ≤ 8
  · have hw8 := r8 k1.1
    have hu := zwd_w hw8.2.2
    have hul := zwd_l (bf := bf) (p := t.1 4) (q := t.1 5) r3
    obtain ⟨u, hue⟩ : ∃ u, u = zwd bf (t.1 4) (t.1 5) := ⟨_, rfl⟩
    rw [if_pos k1]
    rw [if_pos k1] at hnr
    rw [← hue] at hu hul hnr ⊢
    have hu8 := z8_63 hu (by omega)
    have hup := z8_0 hu (by omega)
    have hy6 : y.1 6 = 1 := by rw [← f1]; exact k1.1
    have hy8 := hMy.2.2.2.2.1 hy6
    have hy8' : y.1 8 = t.1 5 - t.1 4 := by rw [hy8.1, ← f2, ← f3]
    have hy13 : y.1 13 = z5 u := by
      rw [hy8.2 (by omega), hue, ← f2, hy8']
      rfl
    have hmn : fX8_mustName y = some y := by
      apply zok_q
      unfold fX8_mustName
      refine zok_e (y_good0 d2) (zok_t rfl ?_)
      refine zok_jP (fun _ => False) (fun _ z => z.elim) (fun K hK => zok_g (by omega) (zok_t hy6 (zok_g (by omega) (zok_t (by omega) (zok_s rfl)))))
    obtain ⟨kn, ekn, hkn⟩ := y_named (m := y) hy2 w0 hMy.2.2.2.2.2 (by rw [hy7]; intro q q0 q1; exact hn.2.2 q q0 (by omega))
    have hcz : ¬ zCmp (z8 u) 0 = 0 := by rw [zCmp_0]; omega
    obtain ⟨kc, ekc, hkc⟩ := x_rowNamed hn.1 (a := z8 u) ⟨by omega, by omega⟩ hn.2.1
    rw [hV3] at hkc
    rw [hy7, hy13] at hkn
    refine zok_g ⟨⟨by omega, by omega⟩, by decide⟩ ?_
    by_cases kk : kc = -1
    · have hq : ∀ q, 0 ≤ q → q < m.2 2 0 → m.2 7 q ≠ z5 u := fun q q0 q1 z => by
        have e := (zNm_iff (hB.2.2 q q0 q1).1 hu).mpr z
        rcases hkc with ⟨_, a⟩ | ⟨a, _⟩
        · exact a q q0 q1 e
        · omega
      have hkn1 : kn = -1 := by
        rcases hkn with ⟨a, _⟩ | ⟨a, b, c⟩
        · exact a
        · exact absurd c (hq kn a b)
      refine zok_jP (fun (q : CV) => q = t) (fun q hq2 => ?_) (fun K hK => zok_f hcz (zok_e ekc (zok_g (by omega) (zok_t kk (hK _ rfl)))))
      rw [hq2]
      refine zok_w (z_rowL (VMo := m) (T := T) (m := m) hBr (by omega) hu (by omega) hq hy hy2 hy7 hy13 rfl htE hyF hmono) (fun r hr => ?_)
      unfold fX8_readsRow
      refine zok_jP (fun (q : CV) => q = m) (fun q hq => ?_) (fun K hK => zok_g (by omega) (zok_f k10 (hK _ rfl)))
      rw [hq]
      refine zok_e (y_good0 c2) ?_
      refine zok_jP (fun (q : CV) => q = y) (fun q hq => ?_) (fun K hK => zok_t rfl (zok_e ey (hK _ rfl)))
      rw [hq]
      refine zok_e hmn ?_
      refine zok_e (y_good0 d2) ?_
      refine zok_jP (fun (q : CV) => q = y) (fun q hq => ?_) (fun K hK => zok_t rfl (zok_e ekn (zok_g (by omega) (zok_t hkn1 (hK _ rfl)))))
      rw [hq]
      exact hr
    · have hkn1 : kn ≠ -1 ∧ iR kn := by
        rcases hkc with ⟨a, _⟩ | ⟨a, b, c⟩
        · exact absurd a kk
        · have e := (zNm_iff (hB.2.2 kc a b).1 hu).mp c
          rcases hkn with ⟨_, a2⟩ | ⟨a2, b2, c2⟩
          · exact absurd e (a2 kc a b)
          · exact ⟨by omega, by omega, by omega⟩
      have hkr : iR kc := by
        rcases hkc with ⟨a, _⟩ | ⟨a, b, c⟩
        · exact absurd a kk
        · exact ⟨by omega, by omega⟩
      obtain ⟨z, ez, v', ev, hv⟩ := z_fail hy (c := 3) (by decide) (fun q => by omega)
      refine zok_jP (fun (q : CV) => q = z) (fun q hq2 => ?_) (fun K hK => zok_f hcz (zok_e ekc (zok_g hkr (zok_f kk (zok_e ez (hK _ rfl))))))
      rw [hq2]
      have z6 := hv.1.ne
      refine zok_w (x_rowB hv.1.1 z6.1 z6.2 (by omega)) (fun r hr => ?_)
      unfold fX8_readsRow
      refine zok_jP (fun (q : CV) => q = m) (fun q hq => ?_) (fun K hK => zok_g (by omega) (zok_f k10 (hK _ rfl)))
      rw [hq]
      refine zok_e (y_good0 c2) ?_
      refine zok_jP (fun (q : CV) => q = y) (fun q hq => ?_) (fun K hK => zok_t rfl (zok_e ey (hK _ rfl)))
      rw [hq]
      refine zok_e hmn ?_
      refine zok_e (y_good0 d2) ?_
      refine zok_jP (fun (q : CV) => q = v') (fun q hq => ?_) (fun K hK => zok_t rfl (zok_e ekn (zok_g hkn1.2 (zok_f hkn1.1 (zok_e ev (hK _ rfl))))))
      rw [hq]
      exact zok_v (y_row23 hv.1.2.1) (zRo_e (zEx_t htE (zEx_w hv.2.1 (by decide) (by decide))) (zFq_e hyF hv.2.2 (by decide)) hr hv.1)
  · rw [if_neg k1]
    obtain ⟨z, ez, v', ev, hv⟩ := z_fail hy (c := 1) (by decide) (fun q => rfl)
    refine zok_g (by decide) ?_
    refine zok_jP (fun (q : CV) => q = z) (fun q hq2 => ?_) (fun K hK => zok_t (by decide) (zok_e ez (hK _ rfl)))
    rw [hq2]
    have z6 := hv.1.ne
    refine zok_w (x_rowB hv.1.1 z6.1 z6.2 (by omega)) (fun r hr => ?_)
    have hmn : fX8_mustName y = some v' := by
      have hyr := hMy.r
      apply zok_q
      unfold fX8_mustName
      refine zok_e (y_good0 d2) (zok_t rfl ?_)
      refine zok_jP (fun _ => True) (fun _ _ => zok_e ev (zok_s rfl)) (fun K hK => zok_g (by omega) ?_)
      by_cases k2 : y.1 6 = 1
      · have hy8 := (hMy.2.2.2.2.1 k2).1
        have hsz := r8 (by rw [f1]; exact k2)
        refine zok_t k2 (zok_g (by omega) (zok_f (fun z => k1 ⟨by omega, by omega⟩) (hK () trivial)))
      · exact zok_f k2 (hK () trivial)
    unfold fX8_readsRow
    refine zok_jP (fun (q : CV) => q = m) (fun q hq => ?_) (fun K hK => zok_g (by omega) (zok_f k10 (hK _ rfl)))
    rw [hq]
    refine zok_e (y_good0 c2) ?_
    refine zok_jP (fun (q : CV) => q = y) (fun q hq => ?_) (fun K hK => zok_t rfl (zok_e ey (hK _ rfl)))
    rw [hq]
    refine zok_e hmn ?_
    refine zok_e (y_goodE hv.1.2.1) ?_
    refine zok_jP (fun (q : CV) => q = v') (fun q hq => ?_) (fun K hK => zok_f Bool.false_ne_true (hK _ rfl))
    rw [hq]
    exact zok_v (y_row23 hv.1.2.1) (zRo_e (zEx_t htE (zEx_w hv.2.1 (by decide) (by decide))) (zFq_e hyF hv.2.2 (by decide)) hr hv.1)
end ZRV
