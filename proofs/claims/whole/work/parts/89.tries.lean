section ZTR
variable {σ : CS} {m : CV} {s : Int → Int}
theorem m_thinks : zOk (fX8_thinks m) (fun t => zEx [] [6] m t ∧ zAgr (m.2 2) (t.2 6)) := by
  unfold fX8_thinks
  refine zok_F (mk := fun a i => (i, a)) 351 (fun i t => zEx [] [6] m t ∧ ∀ j, 0 ≤ j → j < i → m.2 2 j = t.2 6 j) rfl (by omega) ⟨zEx_0, fun j _ _ => by omega⟩ (fun i t hi hi2 hI => ?_) (fun i t hi hi2 hi3 hi4 hI => ?_)
  · dsimp only
    (repeat (first | (with_reducible refine zok_g ?_ ?_; focus omega) | with_reducible refine zok_j ?_ | (with_reducible refine zok_t ?_ ?_; focus omega) | (with_reducible refine zok_f ?_ ?_; focus omega)))
    refine zok_sl ⟨_, rfl, zEx_a hI.1 (by decide), fun j j0 j1 => ?_⟩
    rw [zPa_s]
    by_cases e : j = i
    · rw [e, zup_s, hI.1.2 2 (by decide)]
    · rw [zup_n e]; exact hI.2 j j0 (by omega)
  · have ei := hi3 (by omega)
    subst ei
    dsimp only
    (repeat (first | (with_reducible refine zok_g ?_ ?_; focus omega) | with_reducible refine zok_j ?_ | (with_reducible refine zok_t ?_ ?_; focus omega) | (with_reducible refine zok_f ?_ ?_; focus omega)))
    exact zok_sr (zok_s hI)
/-- back to what was thought of -/
theorem m_thinksNoMore (h : zAgr s (m.2 6)) (ho : ∀ j, j < 0 ∨ 351 ≤ j → m.2 2 j = s j) : zOk (fX8_thinksNoMore m) (fun t => zEx [] [2] m t ∧ t.2 2 = s) := by
  unfold fX8_thinksNoMore
  refine zok_F (mk := fun a i => (i, a)) 351 (fun i t => zEx [] [2] m t ∧ (∀ j, 0 ≤ j → j < i → t.2 2 j = s j) ∧ ∀ j, j < 0 ∨ 351 ≤ j → t.2 2 j = s j) rfl (by omega) ⟨zEx_0, fun j _ _ => by omega, ho⟩ (fun i t hi hi2 hI => ?_) (fun i t hi hi2 hi3 hi4 hI => ?_)
  · dsimp only
    (repeat (first | (with_reducible refine zok_g ?_ ?_; focus omega) | with_reducible refine zok_j ?_ | (with_reducible refine zok_t ?_ ?_; focus omega) | (with_reducible refine zok_f ?_ ?_; focus omega)))
    refine zok_sl ⟨_, rfl, zEx_a hI.1 (by decide), fun j j0 j1 => ?_, fun j hj => ?_⟩
    · rw [zPa_s]
      by_cases e : j = i
      · rw [e, zup_s, hI.1.2 6 (by decide)]; exact (h i hi (by omega)).symm
      · rw [zup_n e]; exact hI.2.1 j j0 (by omega)
    · rw [zPa_s, zup_n (by omega)]; exact hI.2.2 j hj
  · have ei := hi3 (by omega)
    subst ei
    dsimp only
    (repeat (first | (with_reducible refine zok_g ?_ ?_; focus omega) | with_reducible refine zok_j ?_ | (with_reducible refine zok_t ?_ ?_; focus omega) | (with_reducible refine zok_f ?_ ?_; focus omega)))
    refine zok_sr (zok_s ⟨hI.1, ?_⟩)
    funext j
    by_cases c : 0 ≤ j ∧ j < 351
    · exact hI.2.1 j c.1 c.2
    · exact hI.2.2 j (by omega)
theorem zSim.o {t : Int → Int} (h : zSim s t) {j : Int} (hj : j < 0 ∨ 351 ≤ j) : s j = t j := h.c (by omega)
/-- no place is chosen; then one of a row -/
def zNo (s : Int → Int) (n : Nat) : Int → Int := zFd (fun k t => zSet t k 1 (-1)) n s
def zTo (s : Int → Int) (r i : Int) : Int → Int := zSet (zNo s (s 0).toNat) r 1 i
theorem zNo_W (hW : zWf s) (n : Nat) (hn : (n : Int) ≤ s 0) : zWf (zNo s n) ∧ (zNo s n) 0 = s 0 ∧ zSim s (zNo s n) := by
  have w0 := hW.1
  exact zFd_I (f := fun k t => zSet t k 1 (-1)) (fun _ t => zWf t ∧ t 0 = s 0 ∧ zSim s t) ⟨hW, rfl, fun _ _ => rfl⟩ n (fun k t hk hk2 ht => ⟨zSet1_W ht.1 hk (by rw [ht.2.1]; omega) (Or.inl rfl), by rw [← ht.2.1]; exact zSet_c (by omega) hk (by omega), ht.2.2.tr (zSim.set1 hk (by omega))⟩)
theorem zTo_W (hW : zWf s) {r i : Int} (h0 : 0 ≤ r) (h1 : r < s 0) (hp : zPlP s r i) : zWf (zTo s r i) ∧ (zTo s r i) 0 = s 0 ∧ zSim s (zTo s r i) := by
  have w0 := hW.1
  obtain ⟨a, b, c⟩ := zNo_W hW (s 0).toNat (by omega)
  exact ⟨zSet1_W a h0 (by rw [b]; exact h1) (Or.inr (c.p.mp hp)), by rw [← b]; exact zSet_c (by omega) h0 (by omega), c.tr (zSim.set1 h0 (by omega))⟩
theorem zSet_cm {r r' w w' v v' : Int} (hw : 0 ≤ w ∧ w ≤ 3) (hw' : 0 ≤ w' ∧ w' ≤ 3) (h : r ≠ r') : zSet (zSet s r w v) r' w' v' = zSet (zSet s r' w' v') r w v := by
  funext k
  unfold zSet zup
  split
  · split
    · omega
    · rfl
  · rfl
theorem zTo_m (n : Nat) {r i : Int} (h0 : 0 ≤ r) : zFd (fun k t => zSet t k 1 (if k = r then i else -1)) n s = if r < n then zSet (zNo s n) r 1 i else zNo s n := by
  induction n with
  | zero => rw [if_neg (by omega)]; rfl
  | succ n ih =>
    show zSet (zFd _ n s) n 1 (if (n : Int) = r then i else -1) = _
    rw [ih]
    have eN : zNo s (n + 1) = zSet (zNo s n) n 1 (-1) := rfl
    rw [eN]
    by_cases e : (n : Int) = r
    · rw [if_pos e, if_neg (by omega), if_pos (by omega), e, zSet_same]
    · rw [if_neg e]
      by_cases l : r < (n : Int)
      · rw [if_pos l, if_pos (by omega), zSet_cm (by omega) (by omega) (by omega)]
      · rw [if_neg l, if_neg (by omega)]
theorem x_agreementFrom (h : zRR σ m) {r i : Int} (r0 : 0 ≤ r) (r1 : r < m.2 2 0) (hp : zPlP (m.2 2) r i) : zOk (fX7_agreementFrom σ r i) (fun t => (∀ k, k ≠ 6 → k ≠ 9 → t.1 k = σ k) ∧ t.2 = zAg (zIms 50 (zTo (m.2 2) r i)).1) := by
  unfold fX7_agreementFrom
  have w0 := h.W.1
  refine zok_b (b_copyB h.2.1) (fun V hV => ?_)
  refine zok_F (mk := fun a i => (i, a)) (m.2 2 0) (fun k τ => (∀ k, k ≠ 6 → k ≠ 9 → τ k = σ k) ∧ zRB (τ 6) (zNo (m.2 2) k.toNat)) rfl (by omega) ⟨fun k k6 _ => zSu_n k6, by rw [zSu_s]; exact hV.2.1⟩ (fun k τ hk hk2 hI => ?_) (fun k τ hk hk2 hk3 hk4 hI => ?_)
  · obtain ⟨a, b, c⟩ := zNo_W h.W k.toNat (by omega)
    dsimp only
    rw [hI.2.2.2.2.1, b]
    (repeat (first | (with_reducible refine zok_g ?_ ?_; focus omega) | with_reducible refine zok_j ?_ | (with_reducible refine zok_t ?_ ?_; focus omega) | (with_reducible refine zok_f ?_ ?_; focus omega)))
    refine zok_sl ⟨_, rfl, fun j j6 j9 => by rw [zSu_n j6]; exact hI.1 j j6 j9, ?_⟩
    rw [zSu_s]
    have e : zNo (m.2 2) (k + 1).toNat = zSet (zNo (m.2 2) k.toNat) k 1 (-1) := zFd_s hk
    rw [e]
    exact zSet1_R a hI.2 hk (by rw [b]; exact hk2)
  · obtain ⟨a, b, c⟩ := zNo_W h.W k.toNat (by omega)
    have ek := hk3 (by omega)
    dsimp only
    rw [hI.2.2.2.2.1, b]
    (repeat (first | (with_reducible refine zok_g ?_ ?_; focus omega) | with_reducible refine zok_j ?_ | (with_reducible refine zok_t ?_ ?_; focus omega) | (with_reducible refine zok_f ?_ ?_; focus omega)))
    refine zok_sr ?_
    dsimp only
    (repeat (first | (with_reducible refine zok_g ?_ ?_; focus omega) | with_reducible refine zok_j ?_ | (with_reducible refine zok_t ?_ ?_; focus omega) | (with_reducible refine zok_f ?_ ?_; focus omega)))
    obtain ⟨ta, tb, tc⟩ := zTo_W h.W r0 r1 hp
    have hR : zRB (zPa (τ 6) 5 r i) (zTo (m.2 2) r i) := by
      have := zSet1_R a hI.2 (b := i) r0 (by rw [b]; exact r1)
      rw [ek] at this
      exact this
    refine zok_b (c_improveAtMost ta hR (n := 50) (by omega) (by omega)) (fun x hx => ?_)
    have hI2 := zIms_W 50 ta
    refine zok_b (c_agreementOf hI2.1 hx.1) (fun y hy => zok_s ⟨fun j j6 j9 => ?_, hy⟩)
    dsimp only
    rw [zSu_n j9, zSu_n j6, zSu_n j9, zSu_n j6]
    exact hI.1 j j6 j9
theorem m_tries (hs : m.2 2 = s) (hW : zWf s) {r i : Int} (r0 : 0 ≤ r) (r1 : r < s 0) (hp : zPlP s r i) (hr : iR r) : zOk (fX8_tries m r i) (fun t => zEx [] [6, 14] m t.1 ∧ t.2 = zAg (zIms 50 (zTo s r i)).1) := by
  unfold fX8_tries
  have w0 := hW.1
  refine zok_b m_thinks (fun t ht => ?_)
  obtain ⟨tE, tA⟩ := ht
  have ts : t.2 2 = s := (tE.2 2 (by decide)).trans hs
  refine zok_F (mk := fun a i => (i, a)) (s 0) (fun k y => zEx [] [2] t y ∧ y.2 2 = zFd (fun k t => zSet t k 1 (if k = r then i else -1)) k.toNat s) rfl (by omega) ⟨zEx_0, ts⟩ (fun k y hk hk2 hI => ?_) (fun k y hk hk2 hk3 hk4 hI => ?_)
  · have e0 : y.2 2 0 = s 0 := by
      rw [hI.2]
      exact zFd_I (f := fun k t => zSet t k 1 (if k = r then i else -1)) (fun _ t => t 0 = s 0) rfl k.toNat (fun k t hk _ ht => by rw [← ht]; exact zSet_c (by omega) hk (by omega))
    dsimp only
    rw [e0]
    (repeat (first | (with_reducible refine zok_g ?_ ?_; focus omega) | with_reducible refine zok_j ?_ | (with_reducible refine zok_t ?_ ?_; focus omega) | (with_reducible refine zok_f ?_ ?_; focus omega)))
    refine zok_i (fun c => ?_) (fun c => ?_)
    · refine zok_e (m_lays (by omega) (by omega)) (zok_sl ⟨_, rfl, zEx_a hI.1 (by decide), ?_⟩)
      rw [zPa_s, zFd_s hk, if_pos c, hI.2]
      rfl
    · refine zok_e (m_lays (by omega) (by omega)) (zok_sl ⟨_, rfl, zEx_a hI.1 (by decide), ?_⟩)
      rw [zPa_s, zFd_s hk, if_neg c, hI.2]
      rfl
  · have ek := hk3 (by omega)
    have e0 : y.2 2 0 = s 0 := by
      rw [hI.2]
      exact zFd_I (f := fun k t => zSet t k 1 (if k = r then i else -1)) (fun _ t => t 0 = s 0) rfl k.toNat (fun k t hk _ ht => by rw [← ht]; exact zSet_c (by omega) hk (by omega))
    dsimp only
    rw [e0]
    (repeat (first | (with_reducible refine zok_g ?_ ?_; focus omega) | with_reducible refine zok_j ?_ | (with_reducible refine zok_t ?_ ?_; focus omega) | (with_reducible refine zok_f ?_ ?_; focus omega)))
    refine zok_sr ?_
    dsimp only
    obtain ⟨ta, tb, tc⟩ := zTo_W hW r0 r1 hp
    have hy2 : y.2 2 = zTo s r i := by
      rw [hI.2, ek, zTo_m _ r0, if_pos (by omega)]
      rfl
    refine zok_b (m_improves hy2 ta (n := 50) (by omega) (by omega)) (fun z hz => ?_)
    obtain ⟨zE, z2, _⟩ := hz
    have hI2 := zIms_W 50 ta
    refine zok_b (m_agrees z2 hI2.1) (fun q hq => ?_)
    obtain ⟨qE, qv⟩ := hq
    have q2 : q.1.2 2 = (zIms 50 (zTo s r i)).1 := (qE.2 2 (by decide)).trans z2
    have q6 : q.1.2 6 = t.2 6 := by rw [qE.2 6 (by decide), zE.2 6 (by decide), hI.1.2 6 (by decide)]
    refine zok_b (m_thinksNoMore (s := s) (by rw [q6, ← hs]; exact tA) (fun j hj => ?_)) (fun x hx => zok_s ⟨?_, qv⟩)
    · rw [q2]
      exact ((tc.tr (zSim_imsN ta)).o hj).symm
    · have e2 : zEx [] [2, 6, 14] m x := zEx_t (zEx_t (zEx_t (zEx_t (zEx_w tE (fun _ h => h) (by decide)) (zEx_w hI.1 (fun _ h => h) (by decide))) (zEx_w zE (fun _ h => h) (by decide))) (zEx_w qE (fun _ h => h) (by decide))) (zEx_w hx.1 (fun _ h => h) (by decide))
      refine ⟨e2.1, fun k hk => ?_⟩
      by_cases c : k = 2
      · rw [c, hx.2, hs]
      · exact e2.2 k (by simp only [List.mem_cons, List.mem_nil_iff, or_false] at hk ⊢; omega)
end ZTR
