section ZSC
theorem zRR_d {σ σ' : CS} {m : CV} (h : zRR σ m) (e : ∀ k, k ≠ 0 → σ' k = σ k) (e0 : ∀ k, k ≠ 15 → (σ' 0).1 k = (σ 0).1 k) (e2 : (σ' 0).2 = (σ 0).2) : zRR σ' m := by
  unfold zRR zRp zRs zRr at h ⊢
  rw [e 1 (by decide), e 4 (by decide), e 5 (by decide), e 7 (by decide), e 8 (by decide), e 10 (by decide), e0 12 (by decide), e0 13 (by decide), e0 14 (by decide), e2]
  refine ⟨h.1, h.2.1, h.2.2.1, ⟨h.2.2.2.1.1, h.2.2.2.1.2.1, fun p p0 p1 => ?_⟩, h.2.2.2.2⟩
  rw [e (11 + p.toNat) (by omega)]
  exact h.2.2.2.1.2.2 p p0 p1
theorem zRst_x {t : Int × Int × Int × Int × CV} {b : Int} (hb : b = t.2.2.2.2.1 42) (h42 : 0 ≤ b ∧ b ≤ 60) (h : (t.2.2.1 = b ∧ t.2.2.2.1 = 1) ∨ (t.1 = 40 ∧ t.2.2.2.1 = 1 ∧ (0 ≤ t.2.2.1 ∧ t.2.2.1 ≤ 61)) ∨ t.2.2.2.1 = 0) : zRst t = some (.inr t) := by
  apply zok_q
  unfold zRst
  rcases h with ⟨h1, h2⟩ | ⟨h1, h2, h3⟩ | h1
  · refine zok_g ⟨by omega, by omega⟩ (zok_f (by omega) (zok_g ⟨⟨by omega, by omega⟩, ⟨by omega, by omega⟩⟩ (zok_t (by omega) (zok_s rfl))))
  · refine zok_g ⟨by omega, by omega⟩ (zok_f (by omega) (zok_g ⟨⟨by omega, by omega⟩, ⟨by omega, by omega⟩⟩ (zok_i (fun _ => zok_s rfl) (fun _ => zok_g ⟨by omega, by omega⟩ (zok_t (by omega) (zok_s rfl))))))
  · exact zok_g ⟨by omega, by omega⟩ (zok_t h1 (zok_s rfl))
theorem s_runScript {σ : CS} {m : CV} (h : zRR σ m) : zCl [zIA] (fX7_runScript σ) (fX8_runScript m) := by
  obtain ⟨p1, p2, p3, p4, p5, p6, p7⟩ := id h
  obtain ⟨S', T', ok, w, er, hmod, hT, hwE, w2, hor⟩ := z_readS (S := σ 3) p1 p2
  have e9 : iR (w.1 9) := by
    rcases hor with ⟨_, g, _⟩ | ⟨_, g⟩
    · rw [g.2.1]; decide
    · exact ⟨by have := g.2.1; omega, by have := g.2.1; omega⟩
  have ee := y_endsText (m := w) e9
  obtain ⟨w1, hw1⟩ : ∃ q, q = zPu (zPu (zPu w 11 (w.1 9)) 12 (w.1 10)) 0 (if w.1 9 = 0 then 0 else 1) := ⟨_, rfl⟩
  rw [← hw1] at ee
  have w1w : zEx [0, 11, 12] [] w w1 := by rw [hw1]; exact zEx_u (zEx_u (zEx_u zEx_0 (by decide)) (by decide)) (by decide)
  have w1E : zEx [0, 2, 3, 4, 5, 6, 7, 8, 9, 10, 11, 12, 13, 42, 43, 44] [15, 16, 17] m w1 := zEx_t (zEx_w hwE (by decide) (by decide)) (zEx_w w1w (by decide) (by decide))
  have w12 : w1.1 2 = 0 := by rw [w1w.1 2 (by decide)]; exact w2
  have w111 : w1.1 11 = w.1 9 := by rw [hw1, zPu_n (by decide), zPu_n (by decide), zPu_s]
  have w112 : w1.1 12 = w.1 10 := by rw [hw1, zPu_n (by decide), zPu_s]
  have w10 : w1.1 0 = (if w.1 9 = 0 then 0 else 1) := by rw [hw1, zPu_s]
  obtain ⟨σa, hσa⟩ : ∃ q, q = zSu (zSu (zSu σ 3 S') 1 T') 1 (zPu T' 1 0) := ⟨_, rfl⟩
  have hRa : zRR σa w1 := by
    have hnew : zRR (zSu σ 1 (zPu T' 1 0)) w1 := by
      refine zRR_t h w1E (by decide) (by decide) ?_
      unfold zRt
      rw [w12, w111, w112]
      rcases hor with ⟨_, g, _⟩ | ⟨_, g⟩
      · refine ⟨⟨rfl, by omega, by omega⟩, fun k k0 k1 => by omega, ⟨?_, by omega, by omega⟩, ⟨?_, by omega, by omega⟩⟩
        · show T'.1 6 = w.1 9
          rw [g.1, g.2.1]
        · show T'.1 7 = w.1 10
          rw [g.2.2.1, g.2.2.2]
      · have g10 := g.2.2.2.2
        have g9 := g.2.1
        exact ⟨⟨rfl, by omega, by omega⟩, fun k k0 k1 => by omega, ⟨g.2.2.1, by omega, by omega⟩, ⟨g.2.2.2.1, by omega, by omega⟩⟩
    refine zRR_c2 hnew (fun k k2 k3 k6 k9 => ?_)
    rw [hσa]
    by_cases k1 : k = 1
    · rw [k1, zSu_s, zSu_s]
    · rw [zSu_n k1, zSu_n k1, zSu_n k3, zSu_n k1]
  have ha3 : σa 3 = S' := by rw [hσa, zSu_n (by decide), zSu_n (by decide), zSu_s]
  have hak : ∀ k, k ≠ 1 → k ≠ 3 → σa k = σ k := fun k k1 k3 => by rw [hσa, zSu_n k1, zSu_n k1, zSu_n k3]
  unfold zCl fX7_runScript
  refine zok_e er ?_
  rcases hor with ⟨o1, o2, o3, o4, o5⟩ | ⟨o1, o2⟩
  · refine zok_t o1 ?_
    dsimp only
    rw [← hσa]
    refine zok_b (x_keepPast hRa) (fun τ hτ => ?_)
    have hK := hτ
    obtain ⟨k1, k2, k3, k4, k5⟩ := hτ
    obtain ⟨a, ea, haE, haA⟩ := m_laysAside (m := w1)
    have t3 : τ 3 = S' := by rw [k1 3 (by decide) (by omega), ha3]
    have t4 : τ 4 = σ 4 := by rw [k1 4 (by decide) (by omega), hak 4 (by decide) (by decide)]
    have t7 : τ 7 = σ 7 := by rw [k1 7 (by decide) (by omega), hak 7 (by decide) (by decide)]
    have t8 : τ 8 = σ 8 := by rw [k1 8 (by decide) (by omega), hak 8 (by decide) (by decide)]
    obtain ⟨σb, hσb⟩ : ∃ q, q = zSu τ 0 (zPu (τ 0) 15 0) := ⟨_, rfl⟩
    have hbk : ∀ k, k ≠ 0 → σb k = τ k := fun k hk => by rw [hσb, zSu_n hk]
    have hb15 : (σb 0).1 15 = 0 := by rw [hσb, zSu_s, zPu_s]
    have aE : zEx [0, 11, 12] [5] w a := zEx_t (zEx_w w1w (by decide) (by decide)) (zEx_w haE (by decide) (by decide))
    have a2 : a.2 2 = m.2 2 := by rw [aE.2 2 (by decide), hwE.2 2 (by decide)]
    have a7 : a.2 7 = m.2 7 := by rw [aE.2 7 (by decide), hwE.2 7 (by decide)]
    have a42 : a.1 42 = w.1 42 := aE.1 42 (by decide)
    obtain ⟨n, hn⟩ := o5
    rw [← hσb, t3]
    have hblk := z_blk 4 2 (by decide) (by decide) n 0 (S'.1 3) 0 (w.1 42) 0 σb a (by
      rw [hbk 3 (by decide), t3, a2, aE.2 15 (by decide), aE.2 16 (by decide), aE.2 17 (by decide)]
      exact hn) (by decide) o3.2 (by decide) (by rw [a42]; exact Int.le_refl _) (by rw [a42]; exact o4.2) (by rw [hbk 4 (by decide), t4, a2, a7]; exact p2) (by rw [hbk 7 (by decide), hbk 8 (by decide), t7, t8, a2]; exact p5) hb15.symm (by decide)
    rw [show 2 - ((2 : Nat) : Int) = 0 by decide] at hblk
    refine zok_b hblk (fun r hr => ?_)
    obtain ⟨j, t, hj, hit, hout⟩ := hr
    obtain ⟨hu, hu1⟩ := zOut_u hout
    have hu0 := hu
    obtain ⟨u1, u2, u3, u4, u5, u6, u7, u8⟩ := hu
    rw [hbk 7 (by decide), hbk 4 (by decide), t7, t4] at u8
    rw [t7, t4]
    refine zok_g ⟨by omega, by omega⟩ (zok_s ?_)
    have m42 : w.1 42 = t.2.2.2.2.1 42 := by rw [u4.1 42 (by decide), a42]
    have hb40 : 0 ≤ t.1 ∧ t.1 ≤ 40 := by
      rcases hout with ⟨_, z⟩ | z | ⟨_, z⟩
      · obtain ⟨_, _, _, _, z, _⟩ := z; omega
      · obtain ⟨_, z, _⟩ := z; omega
      · exact z.2.1
    have hx : zRst t = some (.inr t) := by
      refine zRst_x m42 o4 ?_
      rcases hout with ⟨_, z⟩ | z | ⟨_, z⟩
      · exact Or.inl ⟨z.2.1, z.2.2.1⟩
      · exact Or.inr (Or.inl ⟨z.2.1, z.2.2.2.1, z.2.2.2.2⟩)
      · exact Or.inr (Or.inr z.2.2.2)
    have erun : fX8_runs a = some (t.2.2.2.2, t.1) := by
      have hjb : j ≤ 12600 := by
        have : zEb 2 = 420 := rfl
        rw [this] at hj
        omega
      rw [fRuns_e, show zFu = j + (99999 - j + 1) by unfold zFu; omega, zLp_it _ _ _ _ hit, zLp_x hx]
      rfl
    obtain ⟨v, ev, hvE, hv22, hvP⟩ := m_keeps (m := t.2.2.2.2) (by
      rw [u4.1 22 (by decide), aE.1 22 (by decide), hwE.1 22 (by decide)]
      exact p4.2.1)
    apply hmod
    unfold zScE
    refine zok_e ee ?_
    rw [decide_eq_true o2.2.1]
    refine zok_t rfl (zok_e ea (zok_e erun (zok_e ev (zok_s ?_))))
    have tE : zEx [31, 32, 33, 34, 45] [2, 5, 10, 14, 18, 19] w1 t.2.2.2.2 := zEx_t (zEx_w haE (by decide) (by decide)) (zEx_w u4 (by decide) (by decide))
    refine ⟨?_, zAn_v ?_ hu1.symm ?_⟩
    · have hk0 : zRR (zSu r.1 0 (τ 0)) v := by
        refine zRR_k hRa hK (fun k q3 q4 q6 q7 q8 q9 => ?_) tE (by decide) (by decide) rfl ?_ ?_ ?_ ?_ hvE hv22 hvP
        · by_cases k0 : k = 0
          · rw [k0, zSu_s]
          · rw [zSu_n k0, u1 k k0 q4 q7 q8 q9, hbk k k0]
        · intro i i0 i1
          rw [u4.2 5 (by decide)]
          exact haA i i0 i1
        · rw [zSu_n (by decide)]
          rw [haE.2 7 (by decide)] at u5
          exact u5
        · rw [u6.1, haE.2 2 (by decide)]
        · rw [zSu_n (by decide), zSu_n (by decide)]
          exact u7
      refine zRR_d hk0 (fun k k0 => by rw [zSu_n k0]) (fun k k15 => ?_) ?_
      · rw [zSu_s, u2 k k15, hσb, zSu_s, zPu_n k15]
      · rw [zSu_s, u3, hσb, zSu_s]
        rfl
    · show v.1 0 = 0
      rw [hvE.1 0 (by decide), tE.1 0 (by decide), w10, if_pos o2.2.1]
    · show iR ((r.1 0).1 15)
      rw [← hu1]
      exact ⟨by omega, by omega⟩
  · rw [o1]
    refine zok_f Bool.false_ne_true (zok_s ?_)
    dsimp only
    rw [← hσa]
    apply hmod
    unfold zScE
    refine zok_e ee ?_
    have g9 := o2.2.1
    rw [decide_eq_false (by omega)]
    refine zok_f Bool.false_ne_true (zok_s ⟨hRa, zAn_e 0 rfl ?_⟩)
    show w1.1 0 = _
    rw [w10, if_neg (by omega)]
    rfl
end ZSC
