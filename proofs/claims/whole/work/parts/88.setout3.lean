section ZSR
variable {σ : CS} {m : CV}
theorem b2_inj {p q : Bool} : b2 p = b2 q ↔ p = q := by cases p <;> cases q <;> decide
theorem s_setOut (h : zRR σ m) {r : Int} (hr : iR r) (p : Bool) : zCl [zIO, zIS] (fX7_setOut σ r (b2 p)) (fX8_setOut m r (b2 p)) := by
  have w0 := h.W.1
  refine zRow_c h hr (fun r0 r1 a b => ?_) (fun a b => ?_)
  · unfold zCl fX7_setOut fX8_setOut
    have s3 := (h.W.row r0 r1).2.2.1
    have hpb := b2_r p
    refine zok_el a ?_
    refine zok_e (b_isOut h.W h.B r0 r1) ?_
    refine zok_g hpb ?_
    refine zok_i (fun c => zok_s ?_) (fun c => ?_)
    · refine zok_e b ?_
      (repeat (first | (with_reducible refine zok_g ?_ ?_; focus omega) | with_reducible refine zok_j ?_ | (with_reducible refine zok_t ?_ ?_; focus omega) | (with_reducible refine zok_f ?_ ?_; focus omega)))
      refine zok_t rfl ?_
      refine zok_e (m_isOut (m := m) rfl h.W r0 r1) ?_
      refine zok_g hpb ?_
      refine zok_t c ?_
      refine zok_e (m_goesBoth true false) ?_
      refine zok_f Bool.false_ne_true ?_
      exact zok_s ⟨zRR_0 h, zAn_e 1 rfl rfl⟩
    · have hne : decide (zf (m.2 2) r 2 = 1) ≠ p := fun z => c (by rw [z])
      refine zok_b (x_keepPast h) (fun τ hτ => ?_)
      have e4 : τ 4 = σ 4 := hτ.1 4 (by decide) (by omega)
      have ho := h.B.out h.W.k
      have hob := h.B.2.2.2.2.2.2.1
      have hz10 := zP2_le (a := r) (b := 9) (by omega)
      have hpr := zP2_pos r
      have hrr := zP2_le (a := r + 1) (b := m.2 2 0) (by omega)
      rw [zP2_s r0] at hrr
      have hbit : ∀ q, 0 ≤ q → q < m.2 2 0 → q < 10 := fun q _ _ => by omega
      -- the class
      refine zok_b (P := fun (x : CS) => (∀ k, k ≠ 4 → k ≠ 7 → k ≠ 8 → x k = τ k) ∧ x 7 = zPu (τ 7) 8 0 ∧ x 8 = zPu (τ 8) 8 0 ∧ zB1 (x 4) (zSoS (m.2 2) r (b2 p)) (m.2 7)) ?_ (fun x hx => zok_s ?_)
      · unfold fX7_putOut
        refine zok_e x_forget ?_
        have z4 : zSu (zSu τ 7 (zPu (τ 7) 8 0)) 8 (zPu (τ 8) 8 0) 4 = σ 4 := by rw [zSu_n (by decide), zSu_n (by decide), e4]
        rw [z4]
        have fin : ∀ (V1 : CV) (o : Int), V1 = zPu (σ 4) 4 o → (0 ≤ o ∧ o < zP2 (m.2 2 0)) → (∀ q, 0 ≤ q → q < m.2 2 0 → o / zP2 q % 2 = if q = r then b2 p else (σ 4).1 4 / zP2 q % 2) → ((∀ k, k ≠ 4 → k ≠ 7 → k ≠ 8 → zSu (zSu (zSu (zSu τ 7 (zPu (τ 7) 8 0)) 8 (zPu (τ 8) 8 0)) 4 V1) 4 (zPa V1 5 r (-1)) k = τ k) ∧ zSu (zSu (zSu (zSu τ 7 (zPu (τ 7) 8 0)) 8 (zPu (τ 8) 8 0)) 4 V1) 4 (zPa V1 5 r (-1)) 7 = zPu (τ 7) 8 0 ∧ zSu (zSu (zSu (zSu τ 7 (zPu (τ 7) 8 0)) 8 (zPu (τ 8) 8 0)) 4 V1) 4 (zPa V1 5 r (-1)) 8 = zPu (τ 8) 8 0 ∧ zB1 (zSu (zSu (zSu (zSu τ 7 (zPu (τ 7) 8 0)) 8 (zPu (τ 8) 8 0)) 4 V1) 4 (zPa V1 5 r (-1)) 4) (zSoS (m.2 2) r (b2 p)) (m.2 7)) := by
          intro V1 o e1 e2 e3
          refine ⟨fun k k4 k7 k8 => by rw [zSu_n k4, zSu_n k4, zSu_n k8, zSu_n k7], by rw [zSu_n (by decide), zSu_n (by decide), zSu_n (by decide), zSu_s], by rw [zSu_n (by decide), zSu_n (by decide), zSu_s], ?_⟩
          rw [zSu_s, e1]
          exact zSoS_B h.2.1 r0 r1 (by cases p; left; rfl; right; rfl) e2 e3
        cases p
        · have eb : b2 false = 0 := rfl
          rw [eb] at fin ⊢
          (repeat (first | (with_reducible refine zok_g ?_ ?_; focus omega) | with_reducible refine zok_j ?_ | (with_reducible refine zok_t ?_ ?_; focus omega) | (with_reducible refine zok_f ?_ ?_; focus omega)))
          have hr2 := zAnd_r ho.1 ho.2 r0 (show r < 10 by omega)
          exact zok_s (fin _ _ rfl ⟨by omega, by omega⟩ (fun q q0 q1 => zAnd_k ho.1 ho.2 r0 (by omega) q0 (by omega)))
        · have eb : b2 true = 1 := rfl
          rw [eb] at fin ⊢
          (repeat (first | (with_reducible refine zok_g ?_ ?_; focus omega) | with_reducible refine zok_j ?_ | (with_reducible refine zok_t ?_ ?_; focus omega) | (with_reducible refine zok_f ?_ ?_; focus omega)))
          exact zok_s (fin _ _ rfl (zOr_lt (by omega) ⟨by omega, hob.2⟩ ⟨by omega, by omega⟩) (fun q q0 q1 => zOr_k ho.1 ho.2 r0 (by omega) q0 (by omega)))
      obtain ⟨xk, x7, x8, xB⟩ := hx
      have hb01 : b2 p = 0 ∨ b2 p = 1 := by cases p; left; rfl; right; rfl
      refine zok_e b ?_
      (repeat (first | (with_reducible refine zok_g ?_ ?_; focus omega) | with_reducible refine zok_j ?_ | (with_reducible refine zok_t ?_ ?_; focus omega) | (with_reducible refine zok_f ?_ ?_; focus omega)))
      refine zok_t rfl ?_
      refine zok_e (m_isOut (m := m) rfl h.W r0 r1) ?_
      refine zok_g hpb ?_
      refine zok_f c ?_
      refine zok_e (m_goesBoth true true) ?_
      refine zok_t rfl ?_
      refine m_aside (p := True) (fun t tE t0 tA => ?_)
      have ts : t.2 2 = m.2 2 := tE.2 2 (by decide)
      refine zok_b (m_setsOut ts h.W r0 r1 (b := b2 p) hb01 (fun hb => ?_) hpb (by cases p <;> rfl)) (fun y hy => ?_)
      · -- a row that was out has no chosen place
        apply Decidable.byContradiction
        intro hn
        have hP := h.W.ch r0 r1 hn
        have hp0 : p = false := b2_0.mp hb
        rw [hp0] at hne
        have : zf (m.2 2) r 2 = 1 := by
          cases hd : decide (zf (m.2 2) r 2 = 1) with
          | true => exact of_decide_eq_true hd
          | false => exact absurd hd hne
        exact hP.1 this
      obtain ⟨yE, y2, yv⟩ := hy
      have yE2 : zEx [0] [2, 5] m y.1 := zEx_t (zEx_w tE (fun _ h => h) (by decide)) (zEx_w yE (by decide) (by decide))
      refine m_kept (by rw [yE2.1 22 (by decide)]; exact h.2.2.2.1.2.1) (fun u uE u22 uP => ⟨?_, ?_⟩)
      · exact zRR_k2 h hτ (fun k k4 k7 k8 _ => xk k k4 k7 k8) x7 x8 yE2 (by decide) y2 (by rw [yE.2 5 (by decide)]; exact tA) xB (zSoS_c (by omega) r0) uE u22 uP
      · have hv := zPop_out xB.1 xB.2.1
        rw [zSoS_c (by omega) r0] at hv
        refine zAn_v ((uE.1 0 (by decide)).trans ((yE.1 0 (by decide)).trans t0)) (hv.trans yv.symm) ?_
        have hb2 : 0 ≤ zPop ((x 4).1 4) ∧ zPop ((x 4).1 4) ≤ 30 := by
          have hxo := xB.2.1.out xB.1.k
          rw [zPop_10 hxo.1 hxo.2]
          exact zFd_I (f := fun i a => a + (x 4).1 4 / zP2 i % 2) (a := (0 : Int)) (fun i a => 0 ≤ a ∧ a ≤ i) ⟨Int.le_refl 0, Int.le_refl 0⟩ 30 (fun i a _ _ ha => by
            show 0 ≤ a + _ % 2 ∧ a + _ % 2 ≤ i + 1
            omega)
        exact ⟨by omega, by omega⟩
  · unfold zCl fX7_setOut fX8_setOut
    refine zok_er a (zok_s ?_)
    refine zok_e b ?_
    (repeat (first | (with_reducible refine zok_g ?_ ?_; focus omega) | with_reducible refine zok_j ?_ | (with_reducible refine zok_t ?_ ?_; focus omega) | (with_reducible refine zok_f ?_ ?_; focus omega)))
    refine zok_f Bool.false_ne_true ?_
    refine zok_e (m_goesBoth false false) ?_
    refine zok_f Bool.false_ne_true ?_
    exact zok_s ⟨zRR_0 h, zAn_e 0 rfl rfl⟩
end ZSR
