section ZCN
variable {σ : CS} {m : CV} {s : Int → Int}
theorem x_putOut {τ : CS} {nm : Int → Int} (hB : zB1 (τ 4) s nm) {r : Int} (r0 : 0 ≤ r) (r1 : r < s 0) (p : Bool) : zOk (fX7_putOut τ r (b2 p)) (fun x => (∀ k, k ≠ 4 → k ≠ 7 → k ≠ 8 → x k = τ k) ∧ x 7 = zPu (τ 7) 8 0 ∧ x 8 = zPu (τ 8) 8 0 ∧ zB1 (x 4) (zSoS s r (b2 p)) nm) := by
  have w0 := hB.1.1
  have ho := hB.2.1.out hB.1.k
  have hob := hB.2.1.2.2.2.2.2.2.1
  have hz10 := zP2_le (a := r) (b := 9) (by omega)
  have hpr := zP2_pos r
  have hrr := zP2_le (a := r + 1) (b := s 0) (by omega)
  rw [zP2_s r0] at hrr
  have hbit : ∀ q, 0 ≤ q → q < s 0 → q < 10 := fun q _ _ => by omega
  unfold fX7_putOut
  refine zok_e x_forget ?_
  have z4 : zSu (zSu τ 7 (zPu (τ 7) 8 0)) 8 (zPu (τ 8) 8 0) 4 = τ 4 := by rw [zSu_n (by decide), zSu_n (by decide)]
  rw [z4]
  have fin : ∀ (V1 : CV) (o : Int), V1 = zPu (τ 4) 4 o → (0 ≤ o ∧ o < zP2 (s 0)) → (∀ q, 0 ≤ q → q < s 0 → o / zP2 q % 2 = if q = r then b2 p else (τ 4).1 4 / zP2 q % 2) → ((∀ k, k ≠ 4 → k ≠ 7 → k ≠ 8 → zSu (zSu (zSu (zSu τ 7 (zPu (τ 7) 8 0)) 8 (zPu (τ 8) 8 0)) 4 V1) 4 (zPa V1 5 r (-1)) k = τ k) ∧ zSu (zSu (zSu (zSu τ 7 (zPu (τ 7) 8 0)) 8 (zPu (τ 8) 8 0)) 4 V1) 4 (zPa V1 5 r (-1)) 7 = zPu (τ 7) 8 0 ∧ zSu (zSu (zSu (zSu τ 7 (zPu (τ 7) 8 0)) 8 (zPu (τ 8) 8 0)) 4 V1) 4 (zPa V1 5 r (-1)) 8 = zPu (τ 8) 8 0 ∧ zB1 (zSu (zSu (zSu (zSu τ 7 (zPu (τ 7) 8 0)) 8 (zPu (τ 8) 8 0)) 4 V1) 4 (zPa V1 5 r (-1)) 4) (zSoS s r (b2 p)) nm) := by
    intro V1 o e1 e2 e3
    refine ⟨fun k k4 k7 k8 => by rw [zSu_n k4, zSu_n k4, zSu_n k8, zSu_n k7], by rw [zSu_n (by decide), zSu_n (by decide), zSu_n (by decide), zSu_s], by rw [zSu_n (by decide), zSu_n (by decide), zSu_s], ?_⟩
    rw [zSu_s, e1]
    exact zSoS_B hB r0 r1 (by cases p; left; rfl; right; rfl) e2 e3
  cases p
  · have eb : b2 false = 0 := rfl
    rw [eb] at fin ⊢
    (repeat (first | (with_reducible refine zok_g ?_ ?_; focus omega) | with_reducible refine zok_j ?_ | (with_reducible refine zok_t ?_ ?_; focus omega) | (with_reducible refine zok_f ?_ ?_; focus omega)))
    have hr2 := zAnd_r ho.1 ho.2 r0 (show r < 10 by omega)
    exact zok_s (fin _ _ rfl ⟨by omega, by omega⟩ (fun q q0 q1 => zAnd_k ho.1 ho.2 r0 (by omega) q0 (by omega)))
  · have eb : b2 true = 1 := rfl
    rw [eb] at fin ⊢
    (repeat (first | (with_reducible refine zok_g ?_ ?_; focus omega) | with_reducible refine zok_j ?_ | (with_reducible refine zok_t ?_ ?_; focus omega) | (with_reducible refine zok_f ?_ ?_; focus omega)))
    exact zok_s (fin _ _ rfl (zOr_lt (by omega) ⟨by omega, hob.2⟩ ⟨by omega, by omega⟩) (fun q q0 q1 => zOr_k ho.1 ho.2 r0 (by omega) q0 (by omega)))
theorem zB1_ch {V : CV} {nm : Int → Int} (hB : zB1 V s nm) {n : Int} (c1 : 0 ≤ n ∧ n ≤ 3) : zB1 (zPu V 2 n) (zup s 3 n) nm := by
  have e : ∀ k, k ≠ 3 → zup s 3 n k = s k := fun k hk => zup_n hk
  have ef : ∀ r k, 0 ≤ r → 0 ≤ k → zf (zup s 3 n) r k = zf s r k := fun r k a b => e _ (by omega)
  have el : ∀ r k, 0 ≤ r → 0 ≤ k → zl (zup s 3 n) r k = zl s r k := fun r k a b => e _ (by omega)
  obtain ⟨⟨w0, w1, w2, _, w4, w5, w6⟩, ⟨g0, g1, g2, g3, g4, g5, g6, g7⟩, hnm⟩ := hB
  refine ⟨⟨by rw [e 0 (by omega)]; exact w0, by rw [e 1 (by omega)]; exact w1, by rw [e 2 (by omega)]; exact w2, by rw [zup_s]; exact c1, by rw [e 4 (by omega)]; exact w4, fun k k0 k1 => ?_, fun r r0 r1 => ?_⟩, ⟨by rw [e 1 (by omega)]; exact g0, by rw [e 2 (by omega)]; exact g1, by rw [zup_s, zPu_s], by rw [e 0 (by omega)]; exact g3, by rw [e 4 (by omega)]; exact g4, fun k k0 k1 => ?_, by rw [e 0 (by omega)]; exact g6, fun r r0 r1 => ?_⟩, fun r r0 r1 => ?_⟩
  · unfold zWords
    rw [e 4 (by omega)] at k1
    rw [e (5 + k) (by omega), e 1 (by omega), e 2 (by omega)]
    exact w5 k k0 k1
  · rw [e 0 (by omega)] at r1
    obtain ⟨a0, a1, a2, a3, a4, a5⟩ := w6 r r0 r1
    unfold zRw zPlP
    rw [ef r 0 r0 (by omega), ef r 1 r0 (by omega), ef r 2 r0 (by omega), ef r 3 r0 (by omega), e 1 (by omega), e 2 (by omega)]
    exact ⟨a0, a1, a2, a3, fun i i0 i1 => by rw [el r i r0 i0]; exact a4 i i0 i1, a5⟩
  · rw [e 4 (by omega)] at k1
    rw [e (5 + k) (by omega)]
    exact g5 k k0 k1
  · rw [e 0 (by omega)] at r1
    obtain ⟨a0, a1, a2, a3, a4⟩ := g7 r r0 r1
    rw [ef r 0 r0 (by omega), ef r 1 r0 (by omega), ef r 2 r0 (by omega), ef r 3 r0 (by omega)]
    exact ⟨a0, a1, a2, a3, a4.ext (fun j j0 _ => (el r j r0 j0).symm)⟩
  · rw [e 0 (by omega)] at r1
    exact hnm r r0 r1
theorem z_cOut (hB : zB1 (σ 4) (m.2 2) (m.2 7)) (hE : zRe (σ 7) (σ 8) (m.2 2)) {r b c : Int} (r0 : 0 ≤ r) (r1 : r < m.2 2 0) (p : Bool) (hc : c = if p = true then 6 else 7) : zOk (fX7_runOut σ r (b2 p)) (fun x => zOk (fX8_does m c r b) (fun u => zCo (zNd (σ 7) (σ 4)) σ m x u)) := by
  have hW := hB.1
  have w0 := hW.1
  have s3 := (hW.row r0 r1).2.2.1
  have hpb := b2_r p
  have ho := m_isOut (m := m) rfl hW r0 r1
  have hmay : fX8_may m c r b = some (m, decide (¬ decide (zf (m.2 2) r 2 = 1) = p)) := by
    apply zok_q
    unfold fX8_may
    cases p
    · rw [hc, if_neg Bool.false_ne_true]
      refine zok_g (by decide) (zok_f (by decide) (zok_f (by decide) (zok_f (by decide) (zok_f (by decide) (zok_f (by decide) (zok_f (by decide) (zok_f (by decide) (zok_t rfl (zok_e ho (zok_s ?_))))))))))
      cases decide (zf (m.2 2) r 2 = 1) <;> rfl
    · rw [hc, if_pos rfl]
      refine zok_g (by decide) (zok_f (by decide) (zok_f (by decide) (zok_f (by decide) (zok_f (by decide) (zok_f (by decide) (zok_f (by decide) (zok_t rfl (zok_e ho ?_))))))))
      exact zok_i (fun q => zok_s (by rw [q]; rfl)) (fun q => zok_s (by rw [Bool.not_eq_true] at q; rw [q]; rfl))
  unfold fX7_runOut
  refine zok_e (b_isOut hW hB.2.1 r0 r1) ?_
  by_cases c1 : decide (zf (m.2 2) r 2 = 1) = p
  · rw [decide_eq_false (fun z => z c1)] at hmay
    refine zok_jP (fun (x : Int) => x = 0) (fun x hx => ?_) (fun K hK => zok_g hpb (zok_t (by rw [c1]) (hK _ rfl)))
    rw [hx]
    refine zok_g (by decide) (zok_t rfl (zok_g (by decide) (zok_s ?_)))
    exact zok_v (y_doesF hmay) (zCo_f hB hE (zEx_0 (ns := []) (js := [])) (by decide) (by decide))
  · rw [decide_eq_true c1] at hmay
    refine zok_jP (fun (x : Int) => x = 1) (fun x hx => ?_) (fun K hK => zok_g hpb (zok_f (fun z => c1 (b2_inj.mp z)) (hK _ rfl)))
    rw [hx]
    refine zok_g (by decide) (zok_f (by decide) ?_)
    refine zok_b (x_putOut hB r0 r1 p) (fun x hx => zok_g (by decide) (zok_s ?_))
    obtain ⟨xk, x7, x8, xB⟩ := hx
    have hb01 : b2 p = 0 ∨ b2 p = 1 := by cases p; left; rfl; right; rfl
    obtain ⟨y, ey, yE, y2, yv⟩ := m_setsOut (m := m) rfl hW r0 r1 (b := b2 p) hb01 (fun hb => by
      apply Decidable.byContradiction
      intro hn
      have hP := hW.ch r0 r1 hn
      have hp0 : p = false := b2_0.mp hb
      rw [hp0] at c1
      have : zf (m.2 2) r 2 = 1 := by
        cases hd : decide (zf (m.2 2) r 2 = 1) with
        | true => exact of_decide_eq_true hd
        | false => exact absurd hd c1
      exact hP.1 this) hpb (by cases p <;> rfl)
    have hdo : fX8_does m c r b = some (zPu y.1 45 y.2, true) := by
      cases p
      · rw [if_neg Bool.false_ne_true] at hc
        subst hc
        exact y_does7 hmay ey
      · rw [if_pos rfl] at hc
        subst hc
        exact y_does6 hmay ey
    refine zok_v hdo ?_
    have y2' : (zPu y.1 45 y.2).2 2 = zSoS (m.2 2) r (b2 p) := y2
    have hcc : ∀ k : Int, k = 0 ∨ k = 1 ∨ k = 2 → zSoS (m.2 2) r (b2 p) k = m.2 2 k := fun k hk => zSoS_c (by omega) r0
    refine ⟨rfl, fun k k4 k7 k8 _ => xk k k4 k7 k8, zEx_u (zEx_w yE (by decide) (by decide)) (by decide), ?_, ?_, ?_, ?_⟩
    · dsimp only
      rw [y2']; exact xB
    · dsimp only
      rw [y2', hcc 0 (by omega), hcc 1 (by omega), hcc 2 (by omega)]
      exact ⟨rfl, rfl, rfl⟩
    · dsimp only
      rw [x7, x8]
      exact zRe_f hE.1.1 hE.2.1
    · dsimp only
      rw [x7]
      exact Nat.le_of_eq (zNd_k hB.2.1 xB.2.1 rfl rfl rfl (hcc 1 (by omega)) (hcc 2 (by omega)))
theorem z_cChanges (hB : zB1 (σ 4) (m.2 2) (m.2 7)) (hE : zRe (σ 7) (σ 8) (m.2 2)) {n b : Int} (hn : 0 ≤ n ∧ n ≤ 999) : zOk (fX7_runChanges σ n) (fun x => zOk (fX8_does m 8 n b) (fun u => zCo (zNd (σ 7) (σ 4)) σ m x u)) := by
  have hW := hB.1
  have hc : fX7_isCountOfChanges n = some (decide (0 ≤ n ∧ n ≤ 3)) := by
    apply zok_q
    unfold fX7_isCountOfChanges
    refine zok_g (by omega) ?_
    refine zok_i (fun c => zok_s (decide_eq_false (by omega)).symm) (fun c => ?_)
    exact zok_i (fun c2 => zok_s (decide_eq_false (by omega)).symm) (fun c2 => zok_s (decide_eq_true (by omega)).symm)
  have hin := m_isIn (a := n) (lo := 0) (hi := 3) ⟨by omega, by omega⟩ (by decide) (by decide)
  have hmay : fX8_may m 8 n b = some (m, decide (0 ≤ n ∧ n ≤ 3)) := by
    apply zok_q
    unfold fX8_may
    exact zok_g (by decide) (zok_f (by decide) (zok_f (by decide) (zok_f (by decide) (zok_f (by decide) (zok_f (by decide) (zok_f (by decide) (zok_f (by decide) (zok_f (by decide) (zok_g (by omega) (zok_e hin (zok_s rfl)))))))))))
  unfold fX7_runChanges
  refine zok_e hc ?_
  by_cases c : 0 ≤ n ∧ n ≤ 3
  · rw [decide_eq_true c] at hmay ⊢
    refine zok_t rfl ?_
    have hput : fX7_putChanges σ n = some (zSu (zSu (zSu σ 7 (zPu (σ 7) 8 0)) 8 (zPu (σ 8) 8 0)) 4 (zPu (σ 4) 2 n)) := by
      apply zok_q
      unfold fX7_putChanges
      refine zok_e x_forget (zok_s ?_)
      rw [zSu_n (by decide), zSu_n (by decide)]
    refine zok_e hput (zok_s ?_)
    have hB1 := zB1_ch hB c
    have ho : fX8_setsChanges m n = some (zPa m 2 3 n, m.2 2 3) := rfl
    refine zok_v (y_does8 hmay ho) ?_
    have y2' : (zPu (zPa m 2 3 n) 45 (m.2 2 3)).2 2 = zup (m.2 2) 3 n := by
      show (zPa m 2 3 n).2 2 = _
      rw [zPa_s]
    refine ⟨rfl, fun k k4 k7 k8 _ => by dsimp only; rw [zSu_n k4, zSu_n k8, zSu_n k7], zEx_u (zEx_a zEx_0 (by decide)) (by decide), ?_, ?_, ?_, ?_⟩
    · dsimp only
      rw [zSu_s, y2']; exact hB1
    · dsimp only
      rw [y2', zup_n (by omega), zup_n (by omega), zup_n (by omega)]
      exact ⟨rfl, rfl, rfl⟩
    · dsimp only
      have e7 : zSu (zSu (zSu σ 7 (zPu (σ 7) 8 0)) 8 (zPu (σ 8) 8 0)) 4 (zPu (σ 4) 2 n) 7 = zPu (σ 7) 8 0 := by rw [zSu_n (by decide), zSu_n (by decide), zSu_s]
      have e8 : zSu (zSu (zSu σ 7 (zPu (σ 7) 8 0)) 8 (zPu (σ 8) 8 0)) 4 (zPu (σ 4) 2 n) 8 = zPu (σ 8) 8 0 := by rw [zSu_n (by decide), zSu_s]
      rw [e7, e8]
      exact zRe_f hE.1.1 hE.2.1
    · dsimp only
      rw [zSu_n (by decide), zSu_n (by decide), zSu_s, zSu_s]
      exact Nat.le_of_eq (zNd_k hB.2.1 hB1.2.1 rfl rfl rfl (zup_n (by omega)) (zup_n (by omega)))
  · rw [decide_eq_false c] at hmay ⊢
    refine zok_f Bool.false_ne_true (zok_s ?_)
    exact zok_v (y_doesF hmay) (zCo_f hB hE (zEx_0 (ns := []) (js := [])) (by decide) (by decide))
/-- a command of the class and its like of the model -/
noncomputable def zCms (K R N P O W : Int → Int) (s0 ws i k : Int) : Prop := (K i = 1 ∧ P k = 0 ∧ R i = O k ∧ N i = W k ∧ (0 ≤ O k ∧ O k < s0) ∧ (0 ≤ W k ∧ W k ≤ 999)) ∨ (K i = 2 ∧ P k = 1 ∧ R i = O k ∧ (0 ≤ O k ∧ O k < s0)) ∨ (K i = 3 ∧ P k = 2 ∧ R i = O k ∧ (0 ≤ O k ∧ O k < s0)) ∨ (K i = 4 ∧ P k = 3 ∧ N i = O k ∧ (0 ≤ O k ∧ O k ≤ 999)) ∨ (K i = 5 ∧ P k = 4 ∧ N i = O k ∧ (0 ≤ O k ∧ O k < ws)) ∨ (K i = 6 ∧ P k = 5) ∨ (K i = 7 ∧ P k = 6 ∧ R i = O k ∧ (0 ≤ O k ∧ O k < s0)) ∨ (K i = 8 ∧ P k = 7 ∧ R i = O k ∧ (0 ≤ O k ∧ O k < s0)) ∨ (K i = 9 ∧ P k = 8 ∧ N i = O k ∧ (0 ≤ O k ∧ O k ≤ 999))
theorem z_cmd (hB : zB1 (σ 4) (m.2 2) (m.2 7)) (hE : zRe (σ 7) (σ 8) (m.2 2)) {P O W : Int → Int} {i k : Int} (hi : 0 ≤ i ∧ i < 30) (h : zCms ((σ 3).2 1) ((σ 3).2 2) ((σ 3).2 3) P O W (m.2 2 0) (zWords (m.2 2)) i k) : zOk (fX7_runCommand σ i) (fun x => zOk (fX8_does m (P k) (O k) (W k)) (fun u => ∃ N, zCo N σ m x u ∧ zNk (σ 3) i (σ 7) (σ 4) + N ≤ zNd (σ 7) (σ 4))) := by
  have up : ∀ {o : Option (CS × Bool)} {c a b : Int}, (σ 3).2 1 i ≠ 6 → zOk o (fun x => zOk (fX8_does m c a b) (fun u => zCo (zNd (σ 7) (σ 4)) σ m x u)) → zOk (o.bind fun t => some (t.1, t.2)) (fun x => zOk (fX8_does m c a b) (fun u => ∃ N, zCo N σ m x u ∧ zNk (σ 3) i (σ 7) (σ 4) + N ≤ zNd (σ 7) (σ 4))) := by
    intro o c a b h6 ho
    refine zok_b ho (fun t ht => zok_s (zok_w ht (fun u hu => ⟨_, hu, ?_⟩)))
    unfold zNk
    rw [if_neg h6]
    omega
  have up2 : ∀ {o : Option (CS × Bool)} {c a b : Int}, (σ 3).2 1 i ≠ 6 → zOk o (fun x => zOk (fX8_does m c a b) (fun u => zCo (zNd (σ 7) (σ 4)) σ m x u)) → zOk o (fun x => zOk (fX8_does m c a b) (fun u => ∃ N, zCo N σ m x u ∧ zNk (σ 3) i (σ 7) (σ 4) + N ≤ zNd (σ 7) (σ 4))) := by
    intro o c a b h6 ho
    refine zok_w ho (fun t ht => zok_w ht (fun u hu => ⟨_, hu, ?_⟩))
    unfold zNk
    rw [if_neg h6]
    omega
  unfold fX7_runCommand
  rcases h with ⟨e1, e2, e3, e4, e5, e6⟩ | ⟨e1, e2, e3, e5⟩ | ⟨e1, e2, e3, e5⟩ | ⟨e1, e2, e3, e5⟩ | ⟨e1, e2, e3, e5⟩ | ⟨e1, e2⟩ | ⟨e1, e2, e3, e5⟩ | ⟨e1, e2, e3, e5⟩ | ⟨e1, e2, e3, e5⟩
  · have h6 : (σ 3).2 1 i ≠ 6 := by omega
    rw [e2, e3, e4]
    exact zok_g hi (zok_g ⟨by omega, by omega⟩ (zok_t e1 (up h6 (z_cChoose hB hE e5.1 e5.2 ⟨by omega, by omega⟩))))
  · have h6 : (σ 3).2 1 i ≠ 6 := by omega
    rw [e2, e3]
    exact zok_g hi (zok_g ⟨by omega, by omega⟩ (zok_f (by omega) (zok_t e1 (up h6 (z_cClear hB hE e5.1 e5.2)))))
  · have h6 : (σ 3).2 1 i ≠ 6 := by omega
    rw [e2, e3]
    exact zok_g hi (zok_g ⟨by omega, by omega⟩ (zok_f (by omega) (zok_f (by omega) (zok_t e1 (up h6 (z_cBetter hB hE e5.1 e5.2))))))
  · have h6 : (σ 3).2 1 i ≠ 6 := by omega
    rw [e2, e3]
    exact zok_g hi (zok_g ⟨by omega, by omega⟩ (zok_f (by omega) (zok_f (by omega) (zok_f (by omega) (zok_t e1 (up2 h6 (z_cImprove hB hE e5)))))))
  · have h6 : (σ 3).2 1 i ≠ 6 := by omega
    rw [e2, e3]
    exact zok_g hi (zok_g ⟨by omega, by omega⟩ (zok_f (by omega) (zok_f (by omega) (zok_f (by omega) (zok_f (by omega) (zok_t e1 (up2 h6 (z_cTake hB hE e5.1 e5.2))))))))
  · have hk : zNk (σ 3) i (σ 7) (σ 4) = zNd (σ 7) (σ 4) := by unfold zNk; rw [if_pos e1]
    rw [e2]
    refine zok_g hi (zok_g ⟨by omega, by omega⟩ (zok_f (by omega) (zok_f (by omega) (zok_f (by omega) (zok_f (by omega) (zok_f (by omega) (zok_t e1 (zok_g (by rw [hk]; omega) ?_)))))))) 
    refine zok_w (z_cBest hB hE) (fun x hx => zok_w hx (fun u hu => ⟨0, hu, by omega⟩))
  · have h6 : (σ 3).2 1 i ≠ 6 := by omega
    rw [e2, e3]
    exact zok_g hi (zok_g ⟨by omega, by omega⟩ (zok_f (by omega) (zok_f (by omega) (zok_f (by omega) (zok_f (by omega) (zok_f (by omega) (zok_f (by omega) (zok_t e1 (up h6 (z_cOut hB hE e5.1 e5.2 true rfl))))))))))
  · have h6 : (σ 3).2 1 i ≠ 6 := by omega
    rw [e2, e3]
    exact zok_g hi (zok_g ⟨by omega, by omega⟩ (zok_f (by omega) (zok_f (by omega) (zok_f (by omega) (zok_f (by omega) (zok_f (by omega) (zok_f (by omega) (zok_f (by omega) (zok_t e1 (up h6 (z_cOut hB hE e5.1 e5.2 false rfl)))))))))))
  · have h6 : (σ 3).2 1 i ≠ 6 := by omega
    rw [e2, e3]
    exact zok_g hi (zok_g ⟨by omega, by omega⟩ (zok_f (by omega) (zok_f (by omega) (zok_f (by omega) (zok_f (by omega) (zok_f (by omega) (zok_f (by omega) (zok_f (by omega) (zok_f (by omega) (zok_t e1 (up h6 (z_cChanges hB hE e5))))))))))))
end ZCN
