section ZFE
variable {σ : CS} {m : CV}
def zBy (a i : Int) : Int := (a / zP2 (24 - 8 * i)) % 256
theorem zBy_c {a i : Int} (h0 : 0 ≤ i) (h1 : i < 4) : ((a % 4294967296 / zP2 (24 - 8 * i)) + 128) % 256 - 128 = (zBy a i + 128) % 256 - 128 := by
  unfold zBy
  have e : i = 0 ∨ i = 1 ∨ i = 2 ∨ i = 3 := by omega
  rcases e with e | e | e | e <;> subst e
  · show ((a % 4294967296 / 16777216) + 128) % 256 - 128 = ((a / 16777216) % 256 + 128) % 256 - 128
    omega
  · show ((a % 4294967296 / 65536) + 128) % 256 - 128 = ((a / 65536) % 256 + 128) % 256 - 128
    omega
  · show ((a % 4294967296 / 256) + 128) % 256 - 128 = ((a / 256) % 256 + 128) % 256 - 128
    omega
  · show ((a % 4294967296 / 1) + 128) % 256 - 128 = ((a / 1) % 256 + 128) % 256 - 128
    omega
theorem x_append {T : CV} {a : Int} (h0 : 0 ≤ T.1 1) (h1 : T.1 1 ≤ 596) : zOk (fX6_append T a) (fun t => zEx [1] [1] T t ∧ t.1 1 = T.1 1 + 4 ∧ (∀ j, j < T.1 1 → t.2 1 j = T.2 1 j) ∧ ∀ i, 0 ≤ i → i < 4 → t.2 1 (T.1 1 + i) = (zBy a i + 128) % 256 - 128) := by
  unfold fX6_append
  refine zok_L (I := fun z => ∃ k, (0 ≤ k ∧ k ≤ 4) ∧ z.1 = 24 - 8 * k ∧ zEx [1] [1] T z.2 ∧ z.2.1 1 = T.1 1 + k ∧ (∀ j, j < T.1 1 → z.2.2 1 j = T.2 1 j) ∧ ∀ i, 0 ≤ i → i < k → z.2.2 1 (T.1 1 + i) = (zBy a i + 128) % 256 - 128) (μ := fun z => (z.1 + 8).toNat) ⟨0, ⟨by omega, by omega⟩, by show (24 : Int) = _; omega, zEx_0, by show T.1 1 = _; omega, fun j _ => rfl, fun i _ _ => by omega⟩ (by show (24 + 8 : Int).toNat < 100000; omega) ?_
  rintro ⟨sh, t⟩ ⟨k, hk, hs, hE, h5, hlo, hhi⟩
  dsimp only at hs hE h5 hlo hhi ⊢
  by_cases c : k = 4
  · subst c
    (repeat (first | (with_reducible refine zok_g ?_ ?_; focus omega) | with_reducible refine zok_j ?_ | (with_reducible refine zok_t ?_ ?_; focus omega) | (with_reducible refine zok_f ?_ ?_; focus omega)))
    exact zok_sr (zok_s ⟨hE, h5, hlo, hhi⟩)
  · rw [h5]
    (repeat (first | (with_reducible refine zok_g ?_ ?_; focus omega) | with_reducible refine zok_j ?_ | (with_reducible refine zok_t ?_ ?_; focus omega) | (with_reducible refine zok_f ?_ ?_; focus omega)))
    refine zok_sl ⟨⟨k + 1, ⟨by omega, by omega⟩, by show sh + -8 = _; omega, zEx_u (zEx_a hE (by decide)) (by decide), ?_, fun j j0 => ?_, fun i i0 i1 => ?_⟩, by show (sh + -8 + 8).toNat < (sh + 8).toNat; omega⟩
    · show T.1 1 + k + 1 = _
      omega
    · show (zPa t 1 (T.1 1 + k) _).2 1 j = _
      rw [zPa_s, zup_n (by omega)]
      exact hlo j j0
    · show (zPa t 1 (T.1 1 + k) _).2 1 (T.1 1 + i) = _
      rw [zPa_s]
      by_cases e : i = k
      · subst e
        rw [zup_s, hs]
        exact zBy_c i0 (by omega)
      · rw [zup_n (by omega)]
        exact hhi i i0 (by omega)
theorem m_four {t0 : CV} {a : Int} (ha : iR a) (h0 : 0 ≤ t0.1 2) (h1 : t0.1 2 ≤ 596) : zOk (fX8_four t0 a) (fun t => zEx [2] [1] t0 t ∧ t.1 2 = t0.1 2 + 4 ∧ (∀ j, j < t0.1 2 → t.2 1 j = t0.2 1 j) ∧ ∀ i, 0 ≤ i → i < 4 → t.2 1 (t0.1 2 + i) = zBy a i) := by
  unfold fX8_four
  refine zok_L (I := fun z => ∃ k, (0 ≤ k ∧ k ≤ 4) ∧ z.1 = 24 - 8 * k ∧ zEx [2] [1] t0 z.2 ∧ z.2.1 2 = t0.1 2 + k ∧ (∀ j, j < t0.1 2 → z.2.2 1 j = t0.2 1 j) ∧ ∀ i, 0 ≤ i → i < k → z.2.2 1 (t0.1 2 + i) = zBy a i) (μ := fun z => (z.1 + 8).toNat) ⟨0, ⟨by omega, by omega⟩, by show (24 : Int) = _; omega, zEx_0, by show t0.1 2 = _; omega, fun j _ => rfl, fun i _ _ => by omega⟩ (by show (24 + 8 : Int).toNat < 100000; omega) ?_
  rintro ⟨sh, t⟩ ⟨k, hk, hs, hE, h5, hlo, hhi⟩
  dsimp only at hs hE h5 hlo hhi ⊢
  by_cases c : k = 4
  · subst c
    (repeat (first | (with_reducible refine zok_g ?_ ?_; focus omega) | with_reducible refine zok_j ?_ | (with_reducible refine zok_t ?_ ?_; focus omega) | (with_reducible refine zok_f ?_ ?_; focus omega)))
    exact zok_sr (zok_s ⟨hE, h5, hlo, hhi⟩)
  · rw [h5]
    (repeat (first | (with_reducible refine zok_g ?_ ?_; focus omega) | with_reducible refine zok_j ?_ | (with_reducible refine zok_t ?_ ?_; focus omega) | (with_reducible refine zok_f ?_ ?_; focus omega)))
    refine zok_sl ⟨⟨k + 1, ⟨by omega, by omega⟩, by show sh + -8 = _; omega, zEx_u (zEx_a hE (by decide)) (by decide), ?_, fun j j0 => ?_, fun i i0 i1 => ?_⟩, by show (sh + -8 + 8).toNat < (sh + 8).toNat; omega⟩
    · show t0.1 2 + k + 1 = _
      omega
    · show (zPa t 1 (t0.1 2 + k) _).2 1 j = _
      rw [zPa_s, zup_n (by omega)]
      exact hlo j j0
    · show (zPa t 1 (t0.1 2 + k) _).2 1 (t0.1 2 + i) = _
      rw [zPa_s]
      by_cases e : i = k
      · subst e
        rw [zup_s, hs]
        rfl
      · rw [zup_n (by omega)]
        exact hhi i i0 (by omega)
theorem zRt_4 {T T' t t' : CV} {a : Int} (h : zRt T t) (h1 : t.1 2 ≤ 596) (hT : zEx [1] [1] T T' ∧ T'.1 1 = T.1 1 + 4 ∧ (∀ j, j < T.1 1 → T'.2 1 j = T.2 1 j) ∧ ∀ i, 0 ≤ i → i < 4 → T'.2 1 (T.1 1 + i) = (zBy a i + 128) % 256 - 128) (ht : zEx [2] [1] t t' ∧ t'.1 2 = t.1 2 + 4 ∧ (∀ j, j < t.1 2 → t'.2 1 j = t.2 1 j) ∧ ∀ i, 0 ≤ i → i < 4 → t'.2 1 (t.1 2 + i) = zBy a i) : zRt T' t' ∧ t'.1 2 = t.1 2 + 4 := by
  obtain ⟨⟨a1, a2, a3⟩, b, c, d⟩ := h
  obtain ⟨e1, e2, e3, e4⟩ := hT
  obtain ⟨f1, f2, f3, f4⟩ := ht
  refine ⟨⟨⟨by omega, by omega, by omega⟩, fun k k0 k1 => ?_, ?_, ?_⟩, f2⟩
  · by_cases l : k < t.1 2
    · rw [e3 k (by omega), f3 k l]
      exact b k k0 l
    · have g1 := e4 (k - t.1 2) (by omega) (by omega)
      have g2 := f4 (k - t.1 2) (by omega) (by omega)
      rw [a1, show t.1 2 + (k - t.1 2) = k by omega] at g1
      rw [show t.1 2 + (k - t.1 2) = k by omega] at g2
      rw [g1, g2]
      unfold zBy
      exact ⟨⟨by omega, by omega⟩, rfl⟩
  · rw [e1.1 6 (by decide), f1.1 11 (by decide)]; exact c
  · rw [e1.1 7 (by decide), f1.1 12 (by decide)]; exact d
theorem s_feed (h : zRR σ m) {a b c d e : Int} (ha : iR a) (hb : iR b) (hc : iR c) (hd : iR d) (he : iR e) : zCl [zIS] (fX7_feed σ a b c d e) (fX8_feed m a b c d e) := by
  unfold zCl fX7_feed fX8_feed
  have hT := h.1
  have hf := hT.1
  rw [hf.1]
  (repeat (first | (with_reducible refine zok_g ?_ ?_; focus omega) | with_reducible refine zok_j ?_ | (with_reducible refine zok_t ?_ ?_; focus omega) | (with_reducible refine zok_f ?_ ?_; focus omega)))
  refine zok_i (fun c0 => ?_) (fun c0 => zok_s ?_)
  · refine zok_b (x_append (by omega) (by omega)) (fun T1 hT1 => ?_)
    refine zok_b (x_append (by omega) (by omega)) (fun T2 hT2 => ?_)
    refine zok_b (x_append (by omega) (by omega)) (fun T3 hT3 => ?_)
    refine zok_b (x_append (by omega) (by omega)) (fun T4 hT4 => ?_)
    refine zok_b (x_append (by omega) (by omega)) (fun T5 hT5 => zok_s ?_)
    (repeat (first | (with_reducible refine zok_g ?_ ?_; focus omega) | with_reducible refine zok_j ?_ | (with_reducible refine zok_t ?_ ?_; focus omega) | (with_reducible refine zok_f ?_ ?_; focus omega)))
    refine zok_e m_go1 ?_
    refine zok_t rfl ?_
    have z2 : (zPu m 0 0).1 2 = m.1 2 := rfl
    refine zok_b (m_four ha (by dsimp only; omega) (by dsimp only; omega)) (fun t1 ht1 => ?_)
    obtain ⟨q1, p1⟩ := zRt_4 (t := zPu m 0 0) hT (by omega) hT1 ht1
    refine zok_b (m_four hb (by omega) (by omega)) (fun t2 ht2 => ?_)
    obtain ⟨q2, p2⟩ := zRt_4 q1 (by omega) hT2 ht2
    refine zok_b (m_four hc (by omega) (by omega)) (fun t3 ht3 => ?_)
    obtain ⟨q3, p3⟩ := zRt_4 q2 (by omega) hT3 ht3
    refine zok_b (m_four hd (by omega) (by omega)) (fun t4 ht4 => ?_)
    obtain ⟨q4, p4⟩ := zRt_4 q3 (by omega) hT4 ht4
    refine zok_b (m_four he (by omega) (by omega)) (fun t5 ht5 => zok_s ⟨?_, ?_⟩)
    · obtain ⟨q5, p5⟩ := zRt_4 q4 (by omega) hT5 ht5
      have hE : zEx [0, 2] [1] m t5 := zEx_t (zEx_t (zEx_t (zEx_t (zEx_t (zEx_u zEx_0 (by decide)) (zEx_w ht1.1 (by decide) (fun _ h => h))) (zEx_w ht2.1 (by decide) (fun _ h => h))) (zEx_w ht3.1 (by decide) (fun _ h => h))) (zEx_w ht4.1 (by decide) (fun _ h => h))) (zEx_w ht5.1 (by decide) (fun _ h => h))
      have e1 : zSu (zSu (zSu (zSu (zSu σ 1 T1) 1 T2) 1 T3) 1 T4) 1 T5 = zSu σ 1 T5 := by
        funext k
        unfold zSu
        split <;> rfl
      show zRR (zSu (zSu (zSu (zSu (zSu σ 1 T1) 1 T2) 1 T3) 1 T4) 1 T5) t5
      rw [e1]
      exact zRR_t h hE (by decide) (by decide) q5
    · have z0 : t5.1 0 = 0 := by
        rw [ht5.1.1 0 (by decide), ht4.1.1 0 (by decide), ht3.1.1 0 (by decide), ht2.1.1 0 (by decide), ht1.1.1 0 (by decide)]
        rfl
      obtain ⟨q5, p5⟩ := zRt_4 q4 (by omega) hT5 ht5
      have := q5.1
      exact zAn_v z0 this.1 ⟨by omega, by omega⟩
  · (repeat (first | (with_reducible refine zok_g ?_ ?_; focus omega) | with_reducible refine zok_j ?_ | (with_reducible refine zok_t ?_ ?_; focus omega) | (with_reducible refine zok_f ?_ ?_; focus omega)))
    refine zok_e m_go0 ?_
    refine zok_f Bool.false_ne_true ?_
    exact zok_s ⟨zRR_0 h, zAn_e 0 rfl rfl⟩
end ZFE
