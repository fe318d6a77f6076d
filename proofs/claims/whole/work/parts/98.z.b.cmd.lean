section ZCM
variable {σ : CS} {m : CV}
/-- a command: what the class and the model make of it -/
noncomputable def zCo (N : Nat) (σ : CS) (m : CV) (r : CS × Bool) (u : CV × Bool) : Prop := r.2 = u.2 ∧ (∀ k, k ≠ 4 → k ≠ 7 → k ≠ 8 → k ≠ 9 → r.1 k = σ k) ∧ zEx [31, 32, 33, 34, 45] [2, 10, 14] m u.1 ∧ zB1 (r.1 4) (u.1.2 2) (m.2 7) ∧ (u.1.2 2 0 = m.2 2 0 ∧ u.1.2 2 1 = m.2 2 1 ∧ u.1.2 2 2 = m.2 2 2) ∧ zRe (r.1 7) (r.1 8) (u.1.2 2) ∧ zNd (r.1 7) (r.1 4) ≤ N
theorem zNd_k {T T' V V' : CV} {s s' : Int → Int} (hR : zRB V s) (hR' : zRB V' s') (e0 : T'.1 100 = T.1 100) (e1 : T'.1 101 = T.1 101) (e2 : T'.1 102 = T.1 102) (s1 : s' 1 = s 1) (s2 : s' 2 = s 2) : zNd T' V' = zNd T V := by
  unfold zNd
  rw [e0, e1, e2, hR.1, hR.2.1, hR'.1, hR'.2.1, s1, s2]
theorem zCo_f (hB : zB1 (σ 4) (m.2 2) (m.2 7)) (hE : zRe (σ 7) (σ 8) (m.2 2)) {u : CV} {ns js : List Nat} (e : zEx ns js m u) (h1 : ∀ k ∈ ns, k ∈ [31, 32, 33, 34, 45]) (h2 : ∀ k ∈ js, k ∈ [10, 14]) : zCo (zNd (σ 7) (σ 4)) σ m (σ, false) (u, false) := by
  have e2 : u.2 2 = m.2 2 := e.2 2 (fun z => absurd (h2 2 z) (by decide))
  refine ⟨rfl, fun k _ _ _ _ => rfl, zEx_w e h1 (fun k hk => List.mem_cons_of_mem _ (h2 k hk)), ?_, ?_, ?_, Nat.le_refl _⟩
  · show zB1 (σ 4) (u.2 2) (m.2 7)
    rw [e2]; exact hB
  · show u.2 2 0 = m.2 2 0 ∧ u.2 2 1 = m.2 2 1 ∧ u.2 2 2 = m.2 2 2
    rw [e2]; exact ⟨rfl, rfl, rfl⟩
  · show zRe (σ 7) (σ 8) (u.2 2)
    rw [e2]; exact hE
theorem z_cChoose (hB : zB1 (σ 4) (m.2 2) (m.2 7)) (hE : zRe (σ 7) (σ 8) (m.2 2)) {r n : Int} (r0 : 0 ≤ r) (r1 : r < m.2 2 0) (hn : iR n) : zOk (fX7_runChoose σ r n) (fun x => zOk (fX8_does m 0 r n) (fun u => zCo (zNd (σ 7) (σ 4)) σ m x u)) := by
  have hW := hB.1
  have w0 := hW.1
  have w2 := hW.2.2.1
  have hrow := hW.row r0 r1
  have hsz := hrow.1
  have hmay : fX8_may m 0 r n = some (m, zPl (m.2 2) r n) := by
    apply zok_q
    unfold fX8_may
    exact zok_g (by decide) (zok_t rfl (zok_e (m_isPlace (m := m) rfl hW r0 r1 hn) (zok_s rfl)))
  unfold fX7_runChoose
  refine zok_e (b_isPlace hW hB.2.1 r0 r1 hn) ?_
  rcases zPl_c (s := m.2 2) (r := r) (i := n) with ⟨hp, hP⟩ | ⟨hp, hP⟩
  · rw [hp] at hmay ⊢
    have hB1 := zB1_1 hB r0 r1 (Or.inr hP)
    refine zok_t rfl (zok_g (by omega) (zok_s ?_))
    have hz : (zPa m 2 (11 + 4 * r + 1) n).2 2 = zSet (m.2 2) r 1 n := by rw [zPa_s]; rfl
    obtain ⟨y, ey, hyE, hyv⟩ := m_agrees hz hB1.1
    have ho : fX8_chooses m r n = some (y.1, y.2) := by
      apply zok_q
      unfold fX8_chooses
      exact zok_e (m_lays (by omega) (by omega)) (zok_e ey (zok_s rfl))
    refine zok_v (y_does0 hmay ho) ?_
    have y2 : (zPu y.1 45 y.2).2 2 = zSet (m.2 2) r 1 n := (hyE.2 2 (by decide)).trans hz
    refine ⟨rfl, fun k k4 _ _ _ => by dsimp only; rw [zSu_n k4], zEx_u (zEx_t (zEx_a zEx_0 (by decide)) (zEx_w hyE (by decide) (by decide))) (by decide), ?_, ?_, ?_, ?_⟩
    · dsimp only
      rw [zSu_s, y2]; exact hB1
    · dsimp only
      rw [y2, zSet_c (by omega) r0 (by omega), zSet_c (by omega) r0 (by omega), zSet_c (by omega) r0 (by omega)]
      exact ⟨rfl, rfl, rfl⟩
    · dsimp only
      rw [zSu_n (by decide), zSu_n (by decide), y2]
      exact (zSim.set1 r0 (by omega)).re hW hE
    · dsimp only
      rw [zSu_n (by decide), zSu_s]
      exact Nat.le_of_eq (zNd_k hB.2.1 hB1.2.1 rfl rfl rfl (zSet_c (by omega) r0 (by omega)) (zSet_c (by omega) r0 (by omega)))
  · rw [hp] at hmay ⊢
    refine zok_f Bool.false_ne_true (zok_s ?_)
    exact zok_v (y_doesF hmay) (zCo_f hB hE (zEx_0 (ns := []) (js := [])) (by decide) (by decide))
theorem z_cClear (hB : zB1 (σ 4) (m.2 2) (m.2 7)) (hE : zRe (σ 7) (σ 8) (m.2 2)) {r b : Int} (r0 : 0 ≤ r) (r1 : r < m.2 2 0) : zOk (fX7_runClear σ r) (fun x => zOk (fX8_does m 1 r b) (fun u => zCo (zNd (σ 7) (σ 4)) σ m x u)) := by
  have hW := hB.1
  have w0 := hW.1
  have hrow := hW.row r0 r1
  have hch := hrow.2.1
  have hrb := hB.2.1.row r0 r1
  have hB1 := zB1_1 hB r0 r1 (Or.inl rfl)
  have hof := m_of (m := m) (s := m.2 2) (r := r) (w := 1) rfl (by omega) (by omega)
  have hN := zNd_k (T := σ 7) (T' := σ 7) hB.2.1 hB1.2.1 rfl rfl rfl (zSet_c (by omega) r0 (by omega)) (zSet_c (by omega) r0 (by omega))
  unfold fX7_runClear
  rw [hrb.2.1]
  refine zok_g (by omega) (zok_g (by omega) ?_)
  refine zok_i (fun c => zok_s ?_) (fun c => zok_s ?_)
  · have hmay : fX8_may m 1 r b = some (m, false) := by
      apply zok_q
      unfold fX8_may
      exact zok_g (by decide) (zok_f (by decide) (zok_t rfl (zok_e hof (zok_g (by omega) (zok_t c (zok_s rfl))))))
    have hid : zSet (m.2 2) r 1 (-1) = m.2 2 := by rw [← c]; exact zSet_id
    rw [hid] at hB1
    refine zok_v (y_doesF hmay) ⟨rfl, fun k k4 _ _ _ => by dsimp only; rw [zSu_n k4], zEx_0, ?_, ⟨rfl, rfl, rfl⟩, ?_, ?_⟩
    · dsimp only
      rw [zSu_s]; exact hB1
    · dsimp only
      rw [zSu_n (by decide), zSu_n (by decide)]; exact hE
    · dsimp only
      rw [zSu_n (by decide), zSu_s]
      exact Nat.le_of_eq hN
  · have hmay : fX8_may m 1 r b = some (m, true) := by
      apply zok_q
      unfold fX8_may
      exact zok_g (by decide) (zok_f (by decide) (zok_t rfl (zok_e hof (zok_g (by omega) (zok_f c (zok_s rfl))))))
    have ho : fX8_clearsRow m r = some (zPa m 2 (11 + 4 * r + 1) (-1), zf (m.2 2) r 1) := by
      apply zok_q
      unfold fX8_clearsRow
      exact zok_e hof (zok_e (m_lays (by omega) (by omega)) (zok_s rfl))
    refine zok_v (y_does1 hmay ho) ?_
    have y2 : (zPu (zPa m 2 (11 + 4 * r + 1) (-1)) 45 (zf (m.2 2) r 1)).2 2 = zSet (m.2 2) r 1 (-1) := by
      show (zPa m 2 (11 + 4 * r + 1) (-1)).2 2 = _
      rw [zPa_s]; rfl
    refine ⟨rfl, fun k k4 _ _ _ => by dsimp only; rw [zSu_n k4], zEx_u (zEx_a zEx_0 (by decide)) (by decide), ?_, ?_, ?_, ?_⟩
    · dsimp only
      rw [zSu_s, y2]; exact hB1
    · dsimp only
      rw [y2, zSet_c (by omega) r0 (by omega), zSet_c (by omega) r0 (by omega), zSet_c (by omega) r0 (by omega)]
      exact ⟨rfl, rfl, rfl⟩
    · dsimp only
      rw [zSu_n (by decide), zSu_n (by decide), y2]
      exact (zSim.set1 r0 (by omega)).re hW hE
    · dsimp only
      rw [zSu_n (by decide), zSu_s]
      exact Nat.le_of_eq hN
theorem z_cBetter (hB : zB1 (σ 4) (m.2 2) (m.2 7)) (hE : zRe (σ 7) (σ 8) (m.2 2)) {r b : Int} (r0 : 0 ≤ r) (r1 : r < m.2 2 0) : zOk (fX7_runBetter σ r) (fun x => zOk (fX8_does m 2 r b) (fun u => zCo (zNd (σ 7) (σ 4)) σ m x u)) := by
  have hW := hB.1
  have w0 := hW.1
  have hB1 := zB1_1 hB r0 r1 (zBs_p hW (r := r))
  unfold fX7_runBetter
  refine zok_e (b_isOut hW hB.2.1 r0 r1) ?_
  have ho := m_isOut (m := m) rfl hW r0 r1
  by_cases co : zf (m.2 2) r 2 = 1
  · rw [decide_eq_true co] at ho ⊢
    have hmay : fX8_may m 2 r b = some (m, false) := by
      apply zok_q
      unfold fX8_may
      exact zok_g (by decide) (zok_f (by decide) (zok_f (by decide) (zok_t rfl (zok_e ho (zok_t rfl (zok_s rfl))))))
    refine zok_jP (fun (x : Int) => x = 0) (fun x hx => ?_) (fun K hK => zok_t rfl (hK _ rfl))
    rw [hx]
    refine zok_g (by decide) (zok_t rfl (zok_g (by decide) (zok_s ?_)))
    exact zok_v (y_doesF hmay) (zCo_f hB hE (zEx_0 (ns := []) (js := [])) (by decide) (by decide))
  · rw [decide_eq_false co] at ho ⊢
    have hmay : fX8_may m 2 r b = some (m, true) := by
      apply zok_q
      unfold fX8_may
      exact zok_g (by decide) (zok_f (by decide) (zok_f (by decide) (zok_t rfl (zok_e ho (zok_f Bool.false_ne_true (zok_s rfl))))))
    refine zok_jP (fun (x : Int) => x = 1) (fun x hx => ?_) (fun K hK => zok_f Bool.false_ne_true (hK _ rfl))
    rw [hx]
    refine zok_g (by decide) (zok_f (by decide) ?_)
    refine zok_b (c_betterRow (P := σ 9) hW hB.2.1 r0 r1) (fun x hx => zok_g (by decide) (zok_s ?_))
    obtain ⟨y, ey, yE, y2, yv⟩ := m_betters (m := m) rfl hW r0 r1
    refine zok_v (y_does2 (u := y.1) (v := y.2) hmay ey) ?_
    have y2' : (zPu y.1 45 y.2).2 2 = zSet (m.2 2) r 1 (zBs (m.2 2) r) := y2
    refine ⟨rfl, fun k k4 _ _ k9 => by dsimp only; rw [zSu_n k4, zSu_n k9], zEx_u (zEx_w yE (by decide) (by decide)) (by decide), ?_, ?_, ?_, ?_⟩
    · dsimp only
      rw [zSu_s, y2', hx.1]; exact hB1
    · dsimp only
      rw [y2', zSet_c (by omega) r0 (by omega), zSet_c (by omega) r0 (by omega), zSet_c (by omega) r0 (by omega)]
      exact ⟨rfl, rfl, rfl⟩
    · dsimp only
      rw [zSu_n (by decide), zSu_n (by decide), zSu_n (by decide), zSu_n (by decide), y2']
      exact (zSim.set1 r0 (by omega)).re hW hE
    · dsimp only
      rw [zSu_n (by decide), zSu_n (by decide), zSu_s, hx.1]
      exact Nat.le_of_eq (zNd_k hB.2.1 hB1.2.1 rfl rfl rfl (zSet_c (by omega) r0 (by omega)) (zSet_c (by omega) r0 (by omega)))
theorem zIms_c (hW : zWf (m.2 2)) {n k : Nat} (hk : k = 0 ∨ k = 1 ∨ k = 2) : (zIms n (m.2 2)).1 k = m.2 2 k := by
  have h := zSim_imsN (n := n) hW
  exact (h.c (by omega)).symm
theorem zIms_1 {s : Int → Int} (hW : zWf s) (n : Nat) : 1 ≤ (zIms (n + 1) s).2 := by
  rw [zIms_s]
  have h := (zIms_W n (zIm_W hW)).2.2.1
  split
  · show 1 ≤ (zIms n (zIm s).1).2 + 1
    omega
  · exact Int.le_refl 1
theorem z_cImprove (hB : zB1 (σ 4) (m.2 2) (m.2 7)) (hE : zRe (σ 7) (σ 8) (m.2 2)) {n b : Int} (hn : 0 ≤ n ∧ n ≤ 999) : zOk ((fX7_isCountOfImproves n).bind fun t19 => if t19 = true then ((fX1_improveAtMost (σ 9) (σ 4) n).bind fun t22 => zG (iR t22.2.2) <| if t22.2.2 ≤ 0 then (some ((zSu (zSu σ 9 t22.1) 4 t22.2.1), false)) else (some ((zSu (zSu σ 9 t22.1) 4 t22.2.1), true))) else (some (σ, false))) (fun x => zOk (fX8_does m 3 n b) (fun u => zCo (zNd (σ 7) (σ 4)) σ m x u)) := by
  have hW := hB.1
  have w0 := hW.1
  have hc : fX7_isCountOfImproves n = some (decide (1 ≤ n ∧ n ≤ 50)) := by
    apply zok_q
    unfold fX7_isCountOfImproves
    refine zok_g (by omega) ?_
    refine zok_i (fun c => zok_s (decide_eq_false (by omega)).symm) (fun c => ?_)
    exact zok_i (fun c2 => zok_s (decide_eq_false (by omega)).symm) (fun c2 => zok_s (decide_eq_true (by omega)).symm)
  have hin := m_isIn (a := n) (lo := 1) (hi := 50) ⟨by omega, by omega⟩ (by decide) (by decide)
  have hmay : fX8_may m 3 n b = some (m, decide (1 ≤ n ∧ n ≤ 50)) := by
    apply zok_q
    unfold fX8_may
    exact zok_g (by decide) (zok_f (by decide) (zok_f (by decide) (zok_f (by decide) (zok_t rfl (zok_g (by omega) (zok_e hin (zok_s rfl)))))))
  refine zok_e hc ?_
  by_cases c : 1 ≤ n ∧ n ≤ 50
  · rw [decide_eq_true c] at hmay ⊢
    refine zok_t rfl ?_
    obtain ⟨k, hk⟩ : ∃ k : Nat, n.toNat = k + 1 := ⟨n.toNat - 1, by omega⟩
    have h1 := zIms_1 hW k
    have hI := zIms_W n.toNat hW
    rw [← hk] at h1
    refine zok_b (c_improveAtMost (P := σ 9) hW hB.2.1 c.1 (by omega)) (fun x hx => ?_)
    refine zok_g ⟨by omega, by omega⟩ (zok_f (by omega) (zok_s ?_))
    obtain ⟨y, ey, yE, y2, yv⟩ := m_improves (m := m) rfl hW (n := n) (by omega) (by omega)
    refine zok_v (y_does3 (u := y.1) (v := y.2) hmay ey) ?_
    have y2' : (zPu y.1 45 y.2).2 2 = (zIms n.toNat (m.2 2)).1 := y2
    have hS := zSim_imsN (n := n.toNat) hW
    refine ⟨rfl, fun k k4 _ _ k9 => by dsimp only; rw [zSu_n k4, zSu_n k9], zEx_u (zEx_w yE (by decide) (by decide)) (by decide), ?_, ?_, ?_, ?_⟩
    · dsimp only
      rw [zSu_s, y2']
      refine ⟨hI.1, hx.1, fun r r0 r1 => ?_⟩
      rw [hI.2.1] at r1
      rw [hx.2.2]
      exact hB.2.2 r r0 r1
    · dsimp only
      rw [y2']
      exact ⟨hI.2.1, (hS.c (by omega)).symm, (hS.c (by omega)).symm⟩
    · dsimp only
      rw [zSu_n (by decide), zSu_n (by decide), zSu_n (by decide), zSu_n (by decide), y2']
      exact hS.re hW hE
    · dsimp only
      rw [zSu_n (by decide), zSu_n (by decide), zSu_s]
      exact Nat.le_of_eq (zNd_k hB.2.1 hx.1 rfl rfl rfl (hS.c (by omega)).symm (hS.c (by omega)).symm)
  · rw [decide_eq_false c] at hmay ⊢
    refine zok_f Bool.false_ne_true (zok_s ?_)
    exact zok_v (y_doesF hmay) (zCo_f hB hE (zEx_0 (ns := []) (js := [])) (by decide) (by decide))
theorem zPop_p0 : ∀ a : Fin 32, ∀ b : Fin 32, 32 * a.val + b.val = 0 ∨ 0 < zPop ((32 * a.val + b.val : Nat) : Int) := by decide +kernel
theorem zPop_p {x : Int} (h0 : 0 < x) (h1 : x < 1024) : 0 < zPop x ∧ zPop x ≤ 30 := by
  obtain ⟨n, rfl⟩ : ∃ n : Nat, x = n := ⟨x.toNat, by omega⟩
  have h := zPop_p0 ⟨n / 32, by omega⟩ ⟨n % 32, by omega⟩
  have e : 32 * (n / 32) + n % 32 = n := by omega
  simp only [e] at h
  have h2 := zPop_r (x := (n : Int)) (by omega) (by omega)
  refine ⟨?_, h2.2⟩
  rcases h with h | h
  · omega
  · exact h
theorem zTk_c {s : Int → Int} (hW : zWf s) {w : Int} : zTk s w 0 = s 0 ∧ zTk s w 1 = s 1 ∧ zTk s w 2 = s 2 := by
  have w0 := hW.1
  have w4 := hW.2.2.2.2.1
  have h := (zTn_W hW (u := zDg s w) (set := zHv s (zDg s w)) (s 0).toNat (by omega)).2
  refine ⟨zTk_0 hW, ?_, ?_⟩
  · unfold zTk
    rw [zup_n (by omega), zup_n (by omega)]
    exact h 1 (by omega)
  · unfold zTk
    rw [zup_n (by omega), zup_n (by omega)]
    exact h 2 (by omega)
/-- what a covered word leaves -/
theorem z_cCover {τ : CS} {N : Nat} (hB : zB1 (σ 4) (m.2 2) (m.2 7)) (hE : zRe (σ 7) (σ 8) (m.2 2)) {w : Int} (w0 : 0 ≤ w) (w1 : w < zWords (m.2 2)) (h4 : τ 4 = σ 4) (hk : ∀ k, k ≠ 7 → k ≠ 8 → τ k = σ k) (hC7 : zCap (τ 7)) (hC8 : zCap (τ 8)) (h78 : (τ 7).1 8 = 0 ∧ (τ 8).1 8 = 0) {c a b : Int} {m1 : CV} (hm1 : zEx [31, 32, 33, 34] [10] m m1) (hN : zNd (τ 7) (σ 4) ≤ N)
    (hT : zWy (m.2 2) w = 0 → ∃ q : CV, zEx [] [10] m1 q ∧ fX8_may m c a b = some (q, true) ∧ ∀ u v, fX8_takes q w = some (u, v) → fX8_does m c a b = some (zPu u 45 v, true)) (hF : zWy (m.2 2) w ≠ 0 → ∃ q : CV, zEx [] [10] m1 q ∧ fX8_may m c a b = some (q, false)) :
    zOk ((fX0_cover (τ 4) w).bind fun t31 => zG (iR t31.2) <| if t31.2 ≤ 0 then (some ((zSu τ 4 t31.1), false)) else (some ((zSu τ 4 t31.1), true))) (fun x => zOk (fX8_does m c a b) (fun u => zCo N σ m x u)) := by
  have hW := hB.1
  rw [h4]
  have hRe : ∀ s, zRe (τ 7) (τ 8) s := fun s => ⟨⟨hC7, Or.inl h78.1⟩, hC8, Or.inl h78.2⟩
  refine zok_b (c_cover hW hB.2.1 w0 w1) (fun x hx => ?_)
  by_cases cy : zWy (m.2 2) w = 0
  · rw [if_pos cy] at hx
    have h46 := zHas hW cy
    have hh := zHv_1024 hW (u := zDg (m.2 2) w)
    have hp := zPop_p (x := zHv (m.2 2) (zDg (m.2 2) w)) (by have := h46.2; omega) hh.2
    have hxv := hx.2.1
    refine zok_g ⟨by omega, by omega⟩ (zok_f (by omega) (zok_s ?_))
    obtain ⟨q, qE, hmay, hdo⟩ := hT cy
    have q2 : q.2 2 = m.2 2 := (qE.2 2 (by decide)).trans (hm1.2 2 (by decide))
    obtain ⟨y, ey, yE, y2, yv⟩ := m_takes q2 hW w0 w1 h46.1
    refine zok_v (hdo y.1 y.2 ey) ?_
    have hT2 := zB1_tk hB w0 w1 cy hx.1 hx.2.2
    have y2' : (zPu y.1 45 y.2).2 2 = zTk (m.2 2) w := y2
    have hc := zTk_c hW (w := w)
    refine ⟨rfl, fun k k4 k7 k8 _ => by dsimp only; rw [zSu_n k4]; exact hk k k7 k8, zEx_u (zEx_t (zEx_t (zEx_w hm1 (by decide) (by decide)) (zEx_w qE (by decide) (by decide))) (zEx_w yE (by decide) (by decide))) (by decide), ?_, ?_, ?_, ?_⟩
    · dsimp only
      rw [zSu_s, y2']; exact hT2
    · dsimp only
      rw [y2']; exact hc
    · dsimp only
      rw [zSu_n (by decide), zSu_n (by decide)]; exact hRe _
    · dsimp only
      rw [zSu_n (by decide), zSu_s]
      exact Nat.le_trans (Nat.le_of_eq (zNd_k hB.2.1 hx.1 rfl rfl rfl hc.2.1 hc.2.2)) hN
  · rw [if_neg cy] at hx
    rw [hx]
    refine zok_g (show iR (0 : Int) from by decide) (zok_t (show (0 : Int) ≤ 0 from Int.le_refl 0) (zok_s ?_))
    obtain ⟨q, qE, hmay⟩ := hF cy
    have q2 : q.2 2 = m.2 2 := (qE.2 2 (by decide)).trans (hm1.2 2 (by decide))
    refine zok_v (y_doesF hmay) ⟨rfl, fun k k4 k7 k8 _ => by dsimp only; rw [zSu_n k4]; exact hk k k7 k8, zEx_t (zEx_w hm1 (by decide) (by decide)) (zEx_w qE (by decide) (by decide)), ?_, ?_, ?_, ?_⟩
    · dsimp only
      rw [zSu_s, q2]; exact hB
    · dsimp only
      rw [q2]; exact ⟨rfl, rfl, rfl⟩
    · dsimp only
      rw [zSu_n (by decide), zSu_n (by decide)]; exact hRe _
    · dsimp only
      rw [zSu_n (by decide), zSu_s]; exact hN
theorem z_cTake (hB : zB1 (σ 4) (m.2 2) (m.2 7)) (hE : zRe (σ 7) (σ 8) (m.2 2)) {w b : Int} (w0 : 0 ≤ w) (w1 : w < zWords (m.2 2)) : zOk ((fX7_forgetSearches σ).bind fun t27 => (fX0_cover (t27 4) w).bind fun t31 => zG (iR t31.2) <| if t31.2 ≤ 0 then (some ((zSu t27 4 t31.1), false)) else (some ((zSu t27 4 t31.1), true))) (fun x => zOk (fX8_does m 4 w b) (fun u => zCo (zNd (σ 7) (σ 4)) σ m x u)) := by
  have hW := hB.1
  refine zok_e x_forget ?_
  obtain ⟨q, eq, qE, qv⟩ := m_whyTake (m := m) rfl hW w0 w1
  have hy := zWy_c (s := m.2 2) (w := w)
  have hmay : fX8_may m 4 w b = some (q.1, decide (zWy (m.2 2) w = 0)) := by
    apply zok_q
    unfold fX8_may
    refine zok_g (by decide) (zok_f (by decide) (zok_f (by decide) (zok_f (by decide) (zok_f (by decide) (zok_t rfl (zok_e eq ?_))))))
    rw [qv]
    exact zok_g (by omega) (zok_i (fun c => zok_s (by rw [decide_eq_true c])) (fun c => zok_s (by rw [decide_eq_false c])))
  have e7 : zSu (zSu σ 7 (zPu (σ 7) 8 0)) 8 (zPu (σ 8) 8 0) 7 = zPu (σ 7) 8 0 := by rw [zSu_n (by decide), zSu_s]
  have e8 : zSu (zSu σ 7 (zPu (σ 7) 8 0)) 8 (zPu (σ 8) 8 0) 8 = zPu (σ 8) 8 0 := zSu_s
  refine z_cCover (m1 := m) hB hE w0 w1 (by rw [zSu_n (by decide), zSu_n (by decide)]) (fun k k7 k8 => by rw [zSu_n k8, zSu_n k7]) (by rw [e7]; exact hE.1.1) (by rw [e8]; exact hE.2.1) (by rw [e7, e8]; exact ⟨rfl, rfl⟩) zEx_0 (by rw [e7]; exact Nat.le_refl _) (fun c => ⟨q.1, qE, by rw [hmay, decide_eq_true c], fun u v h => y_does4 (by rw [hmay, decide_eq_true c]) h⟩) (fun c => ⟨q.1, qE, by rw [hmay, decide_eq_false c]⟩)
theorem z_cBest (hB : zB1 (σ 4) (m.2 2) (m.2 7)) (hE : zRe (σ 7) (σ 8) (m.2 2)) {a b : Int} : zOk ((fX3_go (σ 7) (σ 4)).bind fun t37 => (fX7_forgetSearches (zSu σ 7 t37)).bind fun t41 => (fX0_cover (t41 4) ((t41 7).1 9)).bind fun t45 => zG (iR t45.2) <| if t45.2 ≤ 0 then (some ((zSu t41 4 t45.1), false)) else (some ((zSu t41 4 t45.1), true))) (fun x => zOk (fX8_does m 5 a b) (fun u => zCo 0 σ m x u)) := by
  have hW := hB.1
  have ⟨w0, w1⟩ := zSr_w hW
  have w2 := hW.2.2.1
  refine zok_b (c_go hW hB.2.1 hE.1.1 hE.1.2) (fun T hT => ?_)
  obtain ⟨T8, TS, TC, T100, T101⟩ := hT
  have hfg : fX7_forgetSearches (zSu σ 7 T) = some (zSu (zSu (zSu σ 7 T) 7 (zPu T 8 0)) 8 (zPu (σ 8) 8 0)) := by
    rw [x_forget, zSu_s, zSu_n (by decide)]
  refine zok_e hfg ?_
  have e7 : zSu (zSu (zSu σ 7 T) 7 (zPu T 8 0)) 8 (zPu (σ 8) 8 0) 7 = zPu T 8 0 := by rw [zSu_n (by decide), zSu_s]
  have e8 : zSu (zSu (zSu σ 7 T) 7 (zPu T 8 0)) 8 (zPu (σ 8) 8 0) 8 = zPu (σ 8) 8 0 := zSu_s
  have e4 : zSu (zSu (zSu σ 7 T) 7 (zPu T 8 0)) 8 (zPu (σ 8) 8 0) 4 = σ 4 := by rw [zSu_n (by decide), zSu_n (by decide), zSu_n (by decide)]
  have e9 : (zSu (zSu (zSu σ 7 T) 7 (zPu T 8 0)) 8 (zPu (σ 8) 8 0) 7).1 9 = (zSr (m.2 2)).1 := by
    rw [e7, zPu_n (by decide)]
    exact (zSq_p TS.2.2.2).1
  rw [e9]
  obtain ⟨g, eg, gE, g31⟩ := m_searches hW (m := m) rfl
  have e31 := (zM_p g31).1
  have g2 : g.2 2 = m.2 2 := gE.2 2 (by decide)
  obtain ⟨q, eq, qE, qv⟩ := m_whyTake g2 hW w0 w1
  have q31 : q.1.1 31 = (zSr (m.2 2)).1 := (qE.1 31 (by decide)).trans e31
  have hy := zWy_c (s := m.2 2) (w := (zSr (m.2 2)).1)
  have hmay : fX8_may m 5 a b = some (q.1, decide (zWy (m.2 2) (zSr (m.2 2)).1 = 0)) := by
    apply zok_q
    unfold fX8_may
    refine zok_g (by decide) (zok_f (by decide) (zok_f (by decide) (zok_f (by decide) (zok_f (by decide) (zok_f (by decide) (zok_t rfl (zok_e eg ?_)))))))
    rw [e31]
    refine zok_e eq ?_
    rw [qv]
    exact zok_g (by omega) (zok_i (fun c => zok_s (by rw [decide_eq_true c])) (fun c => zok_s (by rw [decide_eq_false c])))
  have hz : zNd (zPu T 8 0) (σ 4) = 0 := by
    rw [zNd_e (T := zPu T 8 0) hW TC hB.2.1.1 hB.2.1.2.1]
    have a1 : zWords (m.2 2) ≤ (zPu T 8 0).1 100 := by
      show zWords (m.2 2) ≤ T.1 100
      rw [T100]; unfold zMax; split <;> omega
    have a2 : zLv (m.2 2) (m.2 2 2 + 1) ≤ (zPu T 8 0).1 101 := by
      show zLv (m.2 2) (m.2 2 2 + 1) ≤ T.1 101
      rw [T101]; unfold zMax; split <;> omega
    rw [if_pos ⟨a1, a2⟩]
  exact z_cCover (m1 := g) hB hE w0 w1 e4 (fun k k7 k8 => by rw [zSu_n k8, zSu_n k7, zSu_n k7]) (by rw [e7]; exact TC) (by rw [e8]; exact hE.2.1) (by rw [e7, e8]; exact ⟨rfl, rfl⟩) gE (by rw [e7, hz]; exact Nat.le_refl _) (fun c => ⟨q.1, qE, by rw [hmay, decide_eq_true c], fun u v h => y_does5 (by rw [hmay, decide_eq_true c]) (by rw [q31]; exact h)⟩) (fun c => ⟨q.1, qE, by rw [hmay, decide_eq_false c]⟩)
end ZCM
