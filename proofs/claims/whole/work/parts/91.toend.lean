section ZTE
variable {σ : CS} {m : CV} {s : Int → Int}
noncomputable def zIte : Nat → Int → (Int → Int) → Int
  | 0, _, _ => -1
  | n + 1, k, s => if (zIm s).2 = true then zIte n (k + 1) (zIm s).1 else k
theorem zIte_s {n : Nat} {k : Int} : zIte (n + 1) k s = if (zIm s).2 = true then zIte n (k + 1) (zIm s).1 else k := rfl
theorem zIte_r : ∀ (n : Nat) (k : Int) (s : Int → Int), 0 ≤ k → -1 ≤ zIte n k s ∧ zIte n k s ≤ k + n := by
  intro n
  induction n with
  | zero => intro k s hk; exact ⟨Int.le_refl _, by show -1 ≤ k + 0; omega⟩
  | succ n ih =>
    intro k s hk
    rw [zIte_s]
    split
    · have := ih (k + 1) (zIm s).1 (by omega)
      omega
    · omega
theorem s_improvesToEnd (h : zRR σ m) {n : Int} (hn : iR n) : zCl [zIA] (fX7_improvesToEnd σ n) (fX8_improvesToEnd m n) := by
  unfold zCl fX7_improvesToEnd fX8_improvesToEnd
  have hin := m_isIn (a := n) (lo := 0) (hi := 50) ⟨by omega, by omega⟩ (by decide) (by decide)
  by_cases c : 0 ≤ n ∧ n ≤ 50
  · rw [decide_eq_true c] at hin
    (repeat (first | (with_reducible refine zok_g ?_ ?_; focus omega) | with_reducible refine zok_j ?_ | (with_reducible refine zok_t ?_ ?_; focus omega) | (with_reducible refine zok_f ?_ ?_; focus omega)))
    refine zok_b (b_copyB h.2.1) (fun V hV => ?_)
    refine zok_L (I := fun (a : Int × CS) => (0 ≤ a.1 ∧ a.1 ≤ n + 1) ∧ (∀ k, k ≠ 6 → k ≠ 9 → a.2 k = σ k) ∧ ∃ s', zWf s' ∧ zRB (a.2 6) s' ∧ zIte (n + 1).toNat 0 (m.2 2) = zIte (n + 1 - a.1).toNat a.1 s') (μ := fun a => (n + 1 - a.1).toNat) ⟨⟨Int.le_refl 0, by show 0 ≤ n + 1; omega⟩, fun k k6 _ => zSu_n k6, m.2 2, h.W, by dsimp only; rw [zSu_s]; exact hV.2.1, by show _ = zIte (n + 1 - 0).toNat 0 _; rw [Int.sub_zero]⟩ (by show (n + 1 - 0).toNat < 100000; omega) ?_
    rintro ⟨k, τ⟩ ⟨hk, hτ, s', hW', hR', e⟩
    dsimp only at hk hτ hR' e ⊢
    -- the model
    have mod : ∀ t : CS × (Int ⊕ String), (∀ k, k ≠ 6 → k ≠ 9 → t.1 k = σ k) → t.2 = .inl (zIte (n + 1).toNat 0 (m.2 2)) → zOk (zG (iR n) <| (fX8_isIn n 0 50).bind fun t2 => (fX8_goes m (b2 t2)).bind fun t4 => if t4.2 = true then ((fX8_thinks t4.1).bind fun t7 => (fX8_improvesOnce t7).bind fun t9 => (zLp (σ := Int × Int × CV) (ρ := (Int × Int × CV)) (fun s11 => zG (iR s11.1) <| if n ≤ s11.1 then (some (.inr (s11.1, s11.2.1, s11.2.2))) else (zG (iR s11.2.1) <| if s11.2.1 = 0 then (some (.inr (s11.1, s11.2.1, s11.2.2))) else ((fX8_improvesOnce s11.2.2).bind fun t26 => some (.inl (s11.1 + 1, b2 t26.2, t26.1))))) zFu (0, b2 t9.2, t9.1)).bind (fun y11 => (fX8_thinksNoMore y11.2.2).bind fun t18 => zG (iR y11.2.1) <| if y11.2.1 = 0 then (some (t18, y11.1)) else (some (t18, (-1))))) else (some (t4.1, 0))) (fun u => zRR t.1 u.1 ∧ zAn [zIA] t.2 (u.1.1 0) u.2) := by
      intro t ht et
      (repeat (first | (with_reducible refine zok_g ?_ ?_; focus omega) | with_reducible refine zok_j ?_ | (with_reducible refine zok_t ?_ ?_; focus omega) | (with_reducible refine zok_f ?_ ?_; focus omega)))
      refine zok_e hin ?_
      refine zok_e m_go1 ?_
      refine zok_t rfl ?_
      refine zok_b m_thinks (fun g hg => ?_)
      obtain ⟨gE, gA⟩ := hg
      have g2 : g.2 2 = m.2 2 := gE.2 2 (by decide)
      refine zok_b (m_improvesOnce g2 h.W) (fun q hq => ?_)
      obtain ⟨qE, q2, qv⟩ := hq
      rw [qv]
      refine zok_L (I := fun (a : Int × Int × CV) => (0 ≤ a.1 ∧ a.1 ≤ n) ∧ (a.2.1 = 0 ∨ a.2.1 = 1) ∧ zEx [] [2, 14] g a.2.2 ∧ ∃ s', zWf s' ∧ zSim (m.2 2) s' ∧ a.2.2.2 2 = s' ∧ zIte (n + 1).toNat 0 (m.2 2) = if a.2.1 = 1 then zIte (n - a.1).toNat (a.1 + 1) s' else a.1) (μ := fun a => (n - a.1).toNat) ?_ (by show (n - 0).toNat < 100000; omega) ?_
      · refine ⟨⟨Int.le_refl 0, c.1⟩, by show b2 _ = 0 ∨ b2 _ = 1; cases (zIm (m.2 2)).2 <;> decide, qE, (zIm (m.2 2)).1, zIm_W h.W, zSim_ims h.W, q2, ?_⟩
        show _ = if b2 (zIm (m.2 2)).2 = 1 then zIte (n - 0).toNat (0 + 1) _ else 0
        rw [show (n + 1).toNat = n.toNat + 1 by omega, zIte_s, Int.sub_zero]
        cases (zIm (m.2 2)).2 <;> rfl
      · rintro ⟨k, f, y⟩ ⟨hk, hf, yE, s', hW', hS, y2, e⟩
        dsimp only at hk hf yE y2 e ⊢
        have out : zOk ((fX8_thinksNoMore y).bind fun t18 => zG (iR f) <| if f = 0 then (some (t18, k)) else (some (t18, (-1)))) (fun u => (∀ v, (f = 0 ∧ v = k ∨ f = 1 ∧ v = -1) → v = zIte (n + 1).toNat 0 (m.2 2)) → zRR t.1 u.1 ∧ zAn [zIA] t.2 (u.1.1 0) u.2) := by
          have y6 : y.2 6 = g.2 6 := yE.2 6 (by decide)
          refine zok_b (m_thinksNoMore (s := m.2 2) (by rw [y6]; exact gA) (fun j hj => by rw [y2]; exact (hS.o hj).symm)) (fun x hx => ?_)
          have xE : zEx [0] [2, 6, 14] m x := zEx_t (zEx_t (zEx_t (zEx_u zEx_0 (by decide)) (zEx_w gE (by decide) (by decide))) (zEx_w yE (by decide) (by decide))) (zEx_w hx.1 (by decide) (by decide))
          have xE2 : zEx [0] [6, 14] m x := ⟨xE.1, fun k hk => by
            by_cases c : k = 2
            · rw [c]; exact hx.2
            · exact xE.2 k (by simp only [List.mem_cons, List.mem_nil_iff, or_false] at hk ⊢; omega)⟩
          have hR := zRR_m (zRR_69 h ht) xE2 (by decide) (by decide)
          have x0 : x.1 0 = 0 := by rw [hx.1.1 0 (by decide), yE.1 0 (by decide), gE.1 0 (by decide)]; rfl
          have hr := zIte_r (n + 1).toNat 0 (m.2 2) (Int.le_refl 0)
          (repeat (first | (with_reducible refine zok_g ?_ ?_; focus omega) | with_reducible refine zok_j ?_ | (with_reducible refine zok_t ?_ ?_; focus omega) | (with_reducible refine zok_f ?_ ?_; focus omega)))
          refine zok_i (fun cf => zok_s (fun hv => ⟨hR, ?_⟩)) (fun cf => zok_s (fun hv => ⟨hR, ?_⟩))
          · rw [et]; exact zAn_v x0 (hv k (Or.inl ⟨cf, rfl⟩)).symm ⟨by omega, by omega⟩
          · rw [et]; exact zAn_v x0 (hv (-1) (Or.inr ⟨by omega, rfl⟩)).symm ⟨by omega, by omega⟩
        (repeat (first | (with_reducible refine zok_g ?_ ?_; focus omega) | with_reducible refine zok_j ?_ | (with_reducible refine zok_t ?_ ?_; focus omega) | (with_reducible refine zok_f ?_ ?_; focus omega)))
        refine zok_i (fun ck => zok_sr (zok_w out (fun u hu => hu (fun v hv => ?_)))) (fun ck => ?_)
        · rw [e]
          rcases hv with ⟨a, b⟩ | ⟨a, b⟩
          · rw [if_neg (by omega), b]
          · rw [if_pos a, b, show (n - k).toNat = 0 by omega]
            rfl
        · (repeat (first | (with_reducible refine zok_g ?_ ?_; focus omega) | with_reducible refine zok_j ?_ | (with_reducible refine zok_t ?_ ?_; focus omega) | (with_reducible refine zok_f ?_ ?_; focus omega)))
          refine zok_i (fun cf => zok_sr (zok_w out (fun u hu => hu (fun v hv => ?_)))) (fun cf => ?_)
          · rw [e]
            rcases hv with ⟨a, b⟩ | ⟨a, b⟩
            · rw [if_neg (by omega), b]
            · omega
          · have hf1 : f = 1 := by omega
            rw [if_pos hf1, show (n - k).toNat = (n - (k + 1)).toNat + 1 by omega, zIte_s] at e
            refine zok_b (m_improvesOnce y2 hW') (fun w hw => zok_sl ⟨⟨⟨by show 0 ≤ k + 1; omega, by show k + 1 ≤ n; omega⟩, by show b2 _ = 0 ∨ b2 _ = 1; cases w.2 <;> decide, zEx_t yE hw.1, (zIm s').1, zIm_W hW', hS.tr (zSim_ims hW'), hw.2.1, ?_⟩, by show (n - (k + 1)).toNat < (n - k).toNat; omega⟩)
            show _ = if b2 w.2 = 1 then zIte (n - (k + 1)).toNat (k + 1 + 1) _ else k + 1
            rw [e, hw.2.2]
            cases (zIm s').2 <;> rfl
    by_cases ck : n < k
    · (repeat (first | (with_reducible refine zok_g ?_ ?_; focus omega) | with_reducible refine zok_j ?_ | (with_reducible refine zok_t ?_ ?_; focus omega) | (with_reducible refine zok_f ?_ ?_; focus omega)))
      refine zok_sr (zok_s (mod _ hτ ?_))
      rw [e, show (n + 1 - k).toNat = 0 by omega]
      rfl
    · rw [show (n + 1 - k).toNat = (n + 1 - (k + 1)).toNat + 1 by omega, zIte_s] at e
      (repeat (first | (with_reducible refine zok_g ?_ ?_; focus omega) | with_reducible refine zok_j ?_ | (with_reducible refine zok_t ?_ ?_; focus omega) | (with_reducible refine zok_f ?_ ?_; focus omega)))
      refine zok_b (c_improveOnce hW' hR') (fun w hw => ?_)
      have hk9 : ∀ j, j ≠ 6 → j ≠ 9 → zSu (zSu τ 9 w.1) 6 w.2.1 j = σ j := fun j j6 j9 => by rw [zSu_n j6, zSu_n j9]; exact hτ j j6 j9
      refine zok_i (fun cw => zok_sl ⟨⟨⟨by show 0 ≤ k + 1; omega, by show k + 1 ≤ n + 1; omega⟩, hk9, (zIm s').1, zIm_W hW', by dsimp only; rw [zSu_s]; exact hw.1, ?_⟩, by show (n + 1 - (k + 1)).toNat < (n + 1 - k).toNat; omega⟩) (fun cw => zok_sr (zok_s (mod _ hk9 ?_)))
      · rw [hw.2.1] at cw
        rw [e, if_pos cw]
      · rw [hw.2.1] at cw
        rw [e, if_neg cw]
  · rw [decide_eq_false c] at hin
    have e : zOk (some (σ, (Sum.inr zIA : Int ⊕ String))) (fun t => zOk (fX8_improvesToEnd m n) (fun u => zRR t.1 u.1 ∧ zAn [zIA] t.2 (u.1.1 0) u.2)) := by
      refine zok_s ?_
      unfold fX8_improvesToEnd
      (repeat (first | (with_reducible refine zok_g ?_ ?_; focus omega) | with_reducible refine zok_j ?_ | (with_reducible refine zok_t ?_ ?_; focus omega) | (with_reducible refine zok_f ?_ ?_; focus omega)))
      refine zok_e hin ?_
      refine zok_e m_go0 ?_
      refine zok_f Bool.false_ne_true ?_
      exact zok_s ⟨zRR_0 h, zAn_e 0 rfl rfl⟩
    by_cases c1 : n < 0
    · (repeat (first | (with_reducible refine zok_g ?_ ?_; focus omega) | with_reducible refine zok_j ?_ | (with_reducible refine zok_t ?_ ?_; focus omega) | (with_reducible refine zok_f ?_ ?_; focus omega)))
      exact e
    · (repeat (first | (with_reducible refine zok_g ?_ ?_; focus omega) | with_reducible refine zok_j ?_ | (with_reducible refine zok_t ?_ ?_; focus omega) | (with_reducible refine zok_f ?_ ?_; focus omega)))
      exact e
end ZTE
