section ZAGR
variable {s : Int → Int}
def zCmf (s : Int → Int) (but i k b : Int) : Int := if zCt s but i b < zCt s but i k then k else b
def zCm (s : Int → Int) (but i : Int) : Int := zFd (zCmf s but i) (s 1).toNat 0
theorem zCm_i (hW : zWf s) {but i : Int} (n : Nat) (h1 : 1 ≤ n) : 0 ≤ zFd (zCmf s but i) n 0 ∧ zFd (zCmf s but i) n 0 < n := by
  have h := zFd_I (f := zCmf s but i) (a := (0 : Int)) (fun k b => 0 ≤ b ∧ b < k ∨ (k = 0 ∧ b = 0)) (Or.inr ⟨rfl, rfl⟩) n (fun k b hk _ hb => by
    unfold zCmf
    split
    · left; omega
    · left; omega)
  omega
theorem zCm_r (hW : zWf s) {but i : Int} : 0 ≤ zCm s but i ∧ zCm s but i < s 1 := by
  have := hW.2.1
  have h := zCm_i hW (but := but) (i := i) (s 1).toNat (by omega)
  unfold zCm
  omega
def zAg (s : Int → Int) : Int := zFd (fun i a => a + zCt s (-1) i (zCm s (-1) i)) (s 2).toNat 0
theorem zAg_r (hW : zWf s) : 0 ≤ zAg s ∧ zAg s ≤ 60 := by
  have w2 := hW.2.2.1
  have h := zFd_I (f := fun i a => a + zCt s (-1) i (zCm s (-1) i)) (a := (0 : Int)) (fun i a => 0 ≤ a ∧ a ≤ 10 * i) ⟨Int.le_refl 0, by decide⟩ (s 2).toNat (fun i a _ _ ha => by
    have := zCt_r hW (but := -1) (i := i) (x := zCm s (-1) i)
    show 0 ≤ a + _ ∧ a + _ ≤ 10 * (i + 1)
    omega)
  unfold zAg
  omega
theorem c_countOf {P : CV} {but : Int} (hP : zPr s but (P.2 1)) {i x : Int} (i0 : 0 ≤ i) (i1 : i < s 2) (i6 : s 2 ≤ 6) (x0 : 0 ≤ x) (x1 : x < 4) : fX1_countOf P i x = some (zCt s but i x) := by
  apply zok_q
  unfold fX1_countOf
  (repeat (first | (with_reducible refine zok_g ?_ ?_; focus omega) | with_reducible refine zok_j ?_ | (with_reducible refine zok_t ?_ ?_; focus omega) | (with_reducible refine zok_f ?_ ?_; focus omega)))
  exact zok_s (hP i x i0 i1 x0 x1)
theorem c_commonLetter {P : CV} (hW : zWf s) {but i : Int} (hP1 : P.1 1 = s 1) (hP : zPr s but (P.2 1)) (i0 : 0 ≤ i) (i1 : i < s 2) : fX1_commonLetter P i = some (zCm s but i) := by
  apply zok_q
  unfold fX1_commonLetter
  have w1 := hW.2.1
  have w2 := hW.2.2.1
  rw [hP1]
  refine zok_Fc 1 (mk := fun a i => (a, i)) (s 1) (fun k b => (0 ≤ b ∧ b < k) ∧ b = zFd (zCmf s but i) k.toNat 0) rfl (by omega) (by omega) ⟨⟨by omega, by omega⟩, ?_⟩ (fun k b hk hk2 hI => ?_) (fun k b hk hk2 hk3 hk4 hI => ?_)
  · show (0 : Int) = zCmf s but i ((0 : Nat) : Int) 0
    unfold zCmf
    split <;> rfl
  · dsimp only
    (repeat (first | (with_reducible refine zok_g ?_ ?_; focus omega) | with_reducible refine zok_j ?_ | (with_reducible refine zok_t ?_ ?_; focus omega) | (with_reducible refine zok_f ?_ ?_; focus omega)))
    refine zok_e (c_countOf hP i0 i1 (by omega) (by omega) (by omega)) ?_
    refine zok_e (c_countOf hP i0 i1 (by omega) (by omega) (by omega)) ?_
    have r1 := zCt_r hW (but := but) (i := i) (x := k)
    have r2 := zCt_r hW (but := but) (i := i) (x := b)
    (repeat (first | (with_reducible refine zok_g ?_ ?_; focus omega) | with_reducible refine zok_j ?_ | (with_reducible refine zok_t ?_ ?_; focus omega) | (with_reducible refine zok_f ?_ ?_; focus omega)))
    refine zok_i (fun c => zok_sl ⟨_, rfl, ⟨by omega, by omega⟩, ?_⟩) (fun c => zok_sl ⟨_, rfl, ⟨by omega, by omega⟩, ?_⟩)
    · rw [zFd_s (by omega), ← hI.2]
      unfold zCmf
      rw [if_neg (by omega)]
    · rw [zFd_s (by omega), ← hI.2]
      unfold zCmf
      rw [if_pos (by omega)]
  · dsimp only
    (repeat (first | (with_reducible refine zok_g ?_ ?_; focus omega) | with_reducible refine zok_j ?_ | (with_reducible refine zok_t ?_ ?_; focus omega) | (with_reducible refine zok_f ?_ ?_; focus omega)))
    refine zok_sr (zok_s ?_)
    rw [hI.2, hk3 (by omega)]
    rfl
theorem c_agreementOf {P V : CV} (hW : zWf s) (hR : zRB V s) : zOk (fX1_agreementOf P V) (fun t => t.2 = zAg s) := by
  unfold fX1_agreementOf
  have w2 := hW.2.2.1
  refine zok_b (c_fill hW hR (by decide)) (fun t ht => ?_)
  obtain ⟨t1, t2, tP⟩ := ht
  rw [t2]
  refine zok_F (mk := fun a i => (a, i)) (s 2) (fun i a => a = zFd (fun i a => a + zCt s (-1) i (zCm s (-1) i)) i.toNat 0) rfl (by omega) rfl (fun i a hi hi2 hI => ?_) (fun i a hi hi2 hi3 hi4 hI => ?_)
  · dsimp only
    (repeat (first | (with_reducible refine zok_g ?_ ?_; focus omega) | with_reducible refine zok_j ?_ | (with_reducible refine zok_t ?_ ?_; focus omega) | (with_reducible refine zok_f ?_ ?_; focus omega)))
    have hc := zCm_r hW (but := -1) (i := i)
    have w1 := hW.2.1
    refine zok_e (c_commonLetter hW t1 tP hi hi2) ?_
    refine zok_e (c_countOf tP hi hi2 (by omega) hc.1 (by omega)) (zok_sl ⟨_, rfl, ?_⟩)
    rw [zFd_s hi, ← hI]
  · dsimp only
    (repeat (first | (with_reducible refine zok_g ?_ ?_; focus omega) | with_reducible refine zok_j ?_ | (with_reducible refine zok_t ?_ ?_; focus omega) | (with_reducible refine zok_f ?_ ?_; focus omega)))
    refine zok_sr (zok_s ?_)
    show a = _
    rw [hI, hi3 (by omega)]
    rfl
theorem m_mostAt {m : CV} (hs : m.2 2 = s) (hW : zWf s) {but i : Int} (hP : zPr s but (m.2 14)) (i0 : 0 ≤ i) (i1 : i < s 2) : fX8_mostAt m i = some (zCm s but i) := by
  apply zok_q
  unfold fX8_mostAt
  have w1 := hW.2.1
  have w2 := hW.2.2.1
  rw [hs]
  refine zok_Fc 1 (mk := fun a i => (a, i)) (s 1) (fun k b => (0 ≤ b ∧ b < k) ∧ b = zFd (zCmf s but i) k.toNat 0) rfl (by omega) (by omega) ⟨⟨by omega, by omega⟩, ?_⟩ (fun k b hk hk2 hI => ?_) (fun k b hk hk2 hk3 hk4 hI => ?_)
  · show (0 : Int) = zCmf s but i ((0 : Nat) : Int) 0
    unfold zCmf
    split <;> rfl
  · have r1 := zCt_r hW (but := but) (i := i) (x := k)
    have r2 := zCt_r hW (but := but) (i := i) (x := b)
    dsimp only
    rw [hP i k i0 i1 (by omega) (by omega), hP i b i0 i1 (by omega) (by omega)]
    (repeat (first | (with_reducible refine zok_g ?_ ?_; focus omega) | with_reducible refine zok_j ?_ | (with_reducible refine zok_t ?_ ?_; focus omega) | (with_reducible refine zok_f ?_ ?_; focus omega)))
    refine zok_i (fun c => zok_sl ⟨_, rfl, ⟨by omega, by omega⟩, ?_⟩) (fun c => zok_sl ⟨_, rfl, ⟨by omega, by omega⟩, ?_⟩)
    · rw [zFd_s (by omega), ← hI.2]
      unfold zCmf
      rw [if_neg (by omega)]
    · rw [zFd_s (by omega), ← hI.2]
      unfold zCmf
      rw [if_pos (by omega)]
  · dsimp only
    (repeat (first | (with_reducible refine zok_g ?_ ?_; focus omega) | with_reducible refine zok_j ?_ | (with_reducible refine zok_t ?_ ?_; focus omega) | (with_reducible refine zok_f ?_ ?_; focus omega)))
    refine zok_sr (zok_s ?_)
    rw [hI.2, hk3 (by omega)]
    rfl
theorem m_agrees {m : CV} (hs : m.2 2 = s) (hW : zWf s) : zOk (fX8_agrees m) (fun t => zEx [] [14] m t.1 ∧ t.2 = zAg s) := by
  unfold fX8_agrees
  have w1 := hW.2.1
  have w2 := hW.2.2.1
  refine zok_b (m_laysProfile hs hW (by decide)) (fun t ht => ?_)
  have hs2 : t.2 2 = s := (ht.1.2 2 (by decide)).trans hs
  rw [hs2]
  refine zok_F (mk := fun a i => (a, i)) (s 2) (fun i a => a = zFd (fun i a => a + zCt s (-1) i (zCm s (-1) i)) i.toNat 0) rfl (by omega) rfl (fun i a hi hi2 hI => ?_) (fun i a hi hi2 hi3 hi4 hI => ?_)
  · dsimp only
    (repeat (first | (with_reducible refine zok_g ?_ ?_; focus omega) | with_reducible refine zok_j ?_ | (with_reducible refine zok_t ?_ ?_; focus omega) | (with_reducible refine zok_f ?_ ?_; focus omega)))
    have hc := zCm_r hW (but := -1) (i := i)
    refine zok_e (m_mostAt hs2 hW ht.2 hi hi2) ?_
    (repeat (first | (with_reducible refine zok_g ?_ ?_; focus omega) | with_reducible refine zok_j ?_ | (with_reducible refine zok_t ?_ ?_; focus omega) | (with_reducible refine zok_f ?_ ?_; focus omega)))
    refine zok_sl ⟨_, rfl, ?_⟩
    rw [zFd_s hi, ← hI, ht.2 i _ hi hi2 hc.1 (by omega)]
  · dsimp only
    (repeat (first | (with_reducible refine zok_g ?_ ?_; focus omega) | with_reducible refine zok_j ?_ | (with_reducible refine zok_t ?_ ?_; focus omega) | (with_reducible refine zok_f ?_ ?_; focus omega)))
    refine zok_sr (zok_s ⟨ht.1, ?_⟩)
    show a = _
    rw [hI, hi3 (by omega)]
    rfl
end ZAGR
/-! CALLS THAT CHANGE -/
section ZCB
variable {σ : CS} {m : CV}
theorem zRe_f {T U : CV} {s : Int → Int} (hC : zCap T) (hD : zCap U) : zRe (zPu T 8 0) (zPu U 8 0) s := ⟨⟨hC, Or.inl rfl⟩, hD, Or.inl rfl⟩
/-- laysAside ahead of a change -/
theorem m_aside {p : Prop} {g : CV → Option (CV × Int)} {Q : CV × Int → Prop} (hk : ∀ t, zEx [0] [5] m t → t.1 0 = 0 → zAgr (m.2 2) (t.2 5) → zOk (g t) Q) : zOk ((fX8_laysAside (zPu m 0 0)).bind g) Q := by
  refine zok_b m_laysAside (fun t ht => hk t ?_ ?_ ht.2)
  · exact zEx_t (zEx_u zEx_0 (by decide)) (zEx_w ht.1 (by decide) (fun _ h => h))
  · exact ht.1.1 0 (by decide)
theorem m_kept {t : CV} {v : Int} {Q : CV × Int → Prop} (h : 0 ≤ t.1 22 ∧ t.1 22 ≤ 6) (hk : ∀ u, zEx [22] [4] t u → u.1 22 = (if t.1 22 = 6 then 6 else t.1 22 + 1) → (∀ p, 0 ≤ p → p < u.1 22 → zAgr (if p = u.1 22 - 1 then t.2 5 else if t.1 22 = 6 then zPt t (p + 1) else zPt t p) (zPt u p)) → Q (u, v)) : zOk ((fX8_kept t v).bind fun t => some (t.1, t.2)) Q := by
  have : zOk (fX8_kept t v) Q := by
    unfold fX8_kept
    exact zok_b (m_keeps h) (fun u hu => zok_s (hk u hu.1 hu.2.1 hu.2.2))
  exact zok_b this (fun u hu => zok_s hu)
/-- the same board but for what is chosen at a row -/
theorem zB1_1 {V : CV} {s nm : Int → Int} (hB : zB1 V s nm) {r b : Int} (h0 : 0 ≤ r) (h1 : r < s 0) (hb : b = -1 ∨ zPlP s r b) : zB1 (zPa V 5 r b) (zSet s r 1 b) nm := by
  refine ⟨zSet1_W hB.1 h0 h1 hb, zSet1_R hB.1 hB.2.1 h0 h1, fun r' r0 r1 => ?_⟩
  rw [zSet_c (by omega) h0 (by omega)] at r1
  rw [zPa_n (by decide)]
  exact hB.2.2 r' r0 r1
theorem s_clear (h : zRR σ m) {r : Int} (hr : iR r) : zCl [zIO, zIS] (fX7_clear σ r) (fX8_clear m r) := by
  have w0 := h.W.1
  refine zRow_c h hr (fun r0 r1 a b => ?_) (fun a b => ?_)
  · unfold zCl fX7_clear fX8_clear
    have hrow := h.W.row r0 r1
    have hch := hrow.2.1
    have hV : (σ 4).2 5 r = zf (m.2 2) r 1 := (h.B.row r0 r1).2.1
    refine zok_el a ?_
    rw [hV]
    (repeat (first | (with_reducible refine zok_g ?_ ?_; focus omega) | with_reducible refine zok_j ?_ | (with_reducible refine zok_t ?_ ?_; focus omega) | (with_reducible refine zok_f ?_ ?_; focus omega)))
    by_cases c : zf (m.2 2) r 1 = -1
    · (repeat (first | (with_reducible refine zok_g ?_ ?_; focus omega) | with_reducible refine zok_j ?_ | (with_reducible refine zok_t ?_ ?_; focus omega) | (with_reducible refine zok_f ?_ ?_; focus omega)))
      refine zok_s ?_
      refine zok_e b ?_
      (repeat (first | (with_reducible refine zok_g ?_ ?_; focus omega) | with_reducible refine zok_j ?_ | (with_reducible refine zok_t ?_ ?_; focus omega) | (with_reducible refine zok_f ?_ ?_; focus omega)))
      refine zok_t rfl ?_
      refine zok_e (m_of rfl (by omega) (by omega)) ?_
      (repeat (first | (with_reducible refine zok_g ?_ ?_; focus omega) | with_reducible refine zok_j ?_ | (with_reducible refine zok_t ?_ ?_; focus omega) | (with_reducible refine zok_f ?_ ?_; focus omega)))
      refine zok_e (m_goesBoth true false) ?_
      refine zok_f Bool.false_ne_true ?_
      exact zok_s ⟨zRR_0 h, zAn_e 1 rfl rfl⟩
    · (repeat (first | (with_reducible refine zok_g ?_ ?_; focus omega) | with_reducible refine zok_j ?_ | (with_reducible refine zok_t ?_ ?_; focus omega) | (with_reducible refine zok_f ?_ ?_; focus omega)))
      refine zok_b (x_keepPast h) (fun τ hτ => zok_s ?_)
      refine zok_e b ?_
      (repeat (first | (with_reducible refine zok_g ?_ ?_; focus omega) | with_reducible refine zok_j ?_ | (with_reducible refine zok_t ?_ ?_; focus omega) | (with_reducible refine zok_f ?_ ?_; focus omega)))
      refine zok_t rfl ?_
      refine zok_e (m_of rfl (by omega) (by omega)) ?_
      (repeat (first | (with_reducible refine zok_g ?_ ?_; focus omega) | with_reducible refine zok_j ?_ | (with_reducible refine zok_t ?_ ?_; focus omega) | (with_reducible refine zok_f ?_ ?_; focus omega)))
      refine zok_e (m_goesBoth true true) ?_
      refine zok_t rfl ?_
      refine m_aside (p := True) (fun t tE t0 tA => ?_)
      have ts : t.2 2 = m.2 2 := tE.2 2 (by decide)
      unfold fX8_clearsRow
      refine zok_e (t := (zPa t 2 (11 + 4 * r + 1) (-1), zf (m.2 2) r 1)) ?_ ?_
      · apply zok_q
        refine zok_e (m_of ts (by omega) (by omega)) ?_
        exact zok_e (m_lays (by omega) (by omega)) (zok_s rfl)
      have hE : zEx [0] [2, 5] m (zPa t 2 (11 + 4 * r + 1) (-1)) := zEx_a (zEx_w tE (fun _ h => h) (by decide)) (by decide)
      have h22 := h.2.2.2.1.2.1
      refine m_kept (by rw [hE.1 22 (by decide)]; exact h22) (fun u uE u22 uP => ⟨?_, ?_⟩)
      · have e4 : τ 4 = σ 4 := hτ.1 4 (by decide) (by omega)
        have hz : (zPa t 2 (11 + 4 * r + 1) (-1)).2 2 = zSet (m.2 2) r 1 (-1) := by rw [zPa_s, ts]; rfl
        refine zRR_k h hτ (fun k k3 k4 _ _ _ _ => zSu_n k4) hE (by decide) (by decide) hz (by rw [zPa_n (by decide)]; exact tA) ?_ (zSet_c (by omega) r0 (by omega)) ?_ uE u22 uP
        · dsimp only
          rw [zSu_s, e4]
          exact zB1_1 h.2.1 r0 r1 (Or.inl rfl)
        · dsimp only
          rw [zSu_n (by decide), zSu_n (by decide), hτ.1 7 (by decide) (by omega), hτ.1 8 (by decide) (by omega)]
          exact (zSim.set1 r0 (by omega)).re h.W h.2.2.2.2.1
      · refine zAn_v ?_ rfl ⟨by omega, by omega⟩
        rw [uE.1 0 (by decide)]
        exact t0
  · unfold zCl fX7_clear fX8_clear
    refine zok_er a (zok_s ?_)
    refine zok_e b ?_
    (repeat (first | (with_reducible refine zok_g ?_ ?_; focus omega) | with_reducible refine zok_j ?_ | (with_reducible refine zok_t ?_ ?_; focus omega) | (with_reducible refine zok_f ?_ ?_; focus omega)))
    refine zok_f Bool.false_ne_true ?_
    refine zok_e (m_goesBoth false false) ?_
    refine zok_f Bool.false_ne_true ?_
    exact zok_s ⟨zRR_0 h, zAn_e 0 rfl rfl⟩
end ZCB
