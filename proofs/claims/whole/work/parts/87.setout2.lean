section ZSQ
variable {σ : CS} {m : CV} {s : Int → Int}
theorem zOr_k {a r q : Int} (a0 : 0 ≤ a) (a1 : a < 1024) (r0 : 0 ≤ r) (r1 : r < 10) (q0 : 0 ≤ q) (q1 : q < 10) : zOr a (zP2 r) / zP2 q % 2 = if q = r then 1 else a / zP2 q % 2 := by
  obtain ⟨a, rfl⟩ : ∃ n : Nat, a = n := ⟨a.toNat, by omega⟩
  obtain ⟨r, rfl⟩ : ∃ n : Nat, r = n := ⟨r.toNat, by omega⟩
  obtain ⟨q, rfl⟩ : ∃ n : Nat, q = n := ⟨q.toNat, by omega⟩
  have h := zOut_orB ⟨a, by omega⟩ ⟨r, by omega⟩ ⟨q, by omega⟩
  rw [h]
  by_cases e : q = r
  · subst e; rw [if_pos rfl, if_pos rfl]
  · rw [if_neg (fun z => e (Fin.mk.inj z)), if_neg (by omega)]
theorem zAnd_k {a r q : Int} (a0 : 0 ≤ a) (a1 : a < 1024) (r0 : 0 ≤ r) (r1 : r < 10) (q0 : 0 ≤ q) (q1 : q < 10) : zAndG a (-1 - zP2 r) / zP2 q % 2 = if q = r then 0 else a / zP2 q % 2 := by
  obtain ⟨a, rfl⟩ : ∃ n : Nat, a = n := ⟨a.toNat, by omega⟩
  obtain ⟨r, rfl⟩ : ∃ n : Nat, r = n := ⟨r.toNat, by omega⟩
  obtain ⟨q, rfl⟩ : ∃ n : Nat, q = n := ⟨q.toNat, by omega⟩
  have h := zOut_andB ⟨a, by omega⟩ ⟨r, by omega⟩ ⟨q, by omega⟩
  rw [h]
  by_cases e : q = r
  · subst e; rw [if_pos rfl, if_pos rfl]
  · rw [if_neg (fun z => e (Fin.mk.inj z)), if_neg (by omega)]
theorem zAnd_r {a r : Int} (a0 : 0 ≤ a) (a1 : a < 1024) (r0 : 0 ≤ r) (r1 : r < 10) : 0 ≤ zAndG a (-1 - zP2 r) ∧ zAndG a (-1 - zP2 r) ≤ a := by
  obtain ⟨a, rfl⟩ : ∃ n : Nat, a = n := ⟨a.toNat, by omega⟩
  obtain ⟨r, rfl⟩ : ∃ n : Nat, r = n := ⟨r.toNat, by omega⟩
  have h := zOut_and ⟨a, by omega⟩ ⟨r, by omega⟩
  dsimp only at h
  rw [h]
  have p := zP2_pos (r : Int)
  split
  · rename_i c
    have h2 : 2 ^ r ≤ a := by
      apply Decidable.byContradiction
      intro z
      rw [Nat.div_eq_of_lt (by omega)] at c
      omega
    have e := zP2_n r
    omega
  · omega
/-- the state with a row left out, or not -/
def zSoS (s : Int → Int) (r b : Int) : Int → Int := zSet (zSet s r 2 b) r 1 (-1)
theorem zSoS_c {r b k : Int} (hk : k ≤ 10) (h0 : 0 ≤ r) : zSoS s r b k = s k := by
  unfold zSoS
  rw [zSet_c hk h0 (by omega), zSet_c hk h0 (by omega)]
theorem zSoS_f {r b r' w : Int} (hw : 0 ≤ w ∧ w ≤ 3) : zf (zSoS s r b) r' w = if r' = r then (if w = 1 then -1 else if w = 2 then b else zf s r w) else zf s r' w := by
  unfold zSoS
  by_cases e : r' = r
  · subst e
    rw [if_pos rfl]
    by_cases e1 : w = 1
    · rw [e1, zSet_s, if_pos rfl]
    · rw [zSet_n (by omega) hw (Or.inr e1), if_neg e1]
      by_cases e2 : w = 2
      · rw [e2, zSet_s, if_pos rfl]
      · rw [zSet_n (by omega) hw (Or.inr e2), if_neg e2]
  · rw [zSet_n (by omega) hw (Or.inl e), zSet_n (by omega) hw (Or.inl e), if_neg e]
theorem zSoS_l {r b r' i : Int} (hr : r < 10) (hr' : 0 ≤ r') (hi : 0 ≤ i) : zl (zSoS s r b) r' i = zl s r' i := by
  unfold zSoS
  rw [zSet_l hr (by omega) hr' hi, zSet_l hr (by omega) hr' hi]
theorem zSoS_W (hW : zWf s) {r b : Int} (h0 : 0 ≤ r) (h1 : r < s 0) (hb : b = 0 ∨ b = 1) : zWf (zSoS s r b) := by
  obtain ⟨w0, w1, w2, w3, w4, w5, w6⟩ := id hW
  have c := fun k (hk : k ≤ 10) => zSoS_c (s := s) (b := b) (k := k) hk h0
  unfold zWf zWords
  rw [c 0 (by omega), c 1 (by omega), c 2 (by omega), c 3 (by omega), c 4 (by omega)]
  refine ⟨w0, w1, w2, w3, w4, fun k k0 k1 => by rw [c (5 + k) (by omega)]; exact w5 k k0 k1, fun r' r0 r1 => ?_⟩
  obtain ⟨g0, g1, g2, g3, g4, g5⟩ := w6 r' r0 r1
  unfold zRw zPlP
  rw [zSoS_f (w := 0) (by omega), zSoS_f (w := 1) (by omega), zSoS_f (w := 2) (by omega), zSoS_f (w := 3) (by omega), c 1 (by omega), c 2 (by omega)]
  by_cases e : r' = r
  · subst e
    simp only [if_true]
    exact ⟨g0, ⟨by omega, by omega⟩, by simpa using hb, g3, fun i i0 i1 => by rw [zSoS_l (by omega) r0 i0]; exact g4 i i0 i1, fun z => absurd rfl z⟩
  · simp only [if_neg e]
    exact ⟨g0, g1, g2, g3, fun i i0 i1 => by rw [zSoS_l (by omega) r0 i0]; exact g4 i i0 i1, g5⟩
theorem zSoS_B {V : CV} {nm : Int → Int} (hB : zB1 V s nm) {r b o : Int} (h0 : 0 ≤ r) (h1 : r < s 0) (hb : b = 0 ∨ b = 1) (ho : 0 ≤ o ∧ o < zP2 (s 0)) (hq : ∀ q, 0 ≤ q → q < s 0 → o / zP2 q % 2 = if q = r then b else V.1 4 / zP2 q % 2) : zB1 (zPa (zPu V 4 o) 5 r (-1)) (zSoS s r b) nm := by
  obtain ⟨hW, ⟨g0, g1, g2, g3, g4, g5, g6, g7⟩, hn⟩ := hB
  have w0 := hW.1
  have w4 := hW.2.2.2.2.1
  have c := fun k (hk : k ≤ 10) => zSoS_c (s := s) (b := b) (k := k) hk h0
  refine ⟨zSoS_W hW h0 h1 hb, ⟨by rw [c 1 (by omega)]; exact g0, by rw [c 2 (by omega)]; exact g1, by rw [c 3 (by omega)]; exact g2, by rw [c 0 (by omega)]; exact g3, by rw [c 4 (by omega)]; exact g4, fun k k0 k1 => ?_, by rw [c 0 (by omega)]; exact ho, fun r' r0 r1 => ?_⟩, fun r' r0 r1 => ?_⟩
  · rw [c 4 (by omega)] at k1
    rw [c (5 + k) (by omega)]
    exact g5 k k0 k1
  · rw [c 0 (by omega)] at r1
    obtain ⟨a0, a1, a2, a3, a4⟩ := g7 r' r0 r1
    have hl : zCd (V.2 2 r') (zf s r' 0) (zl (zSoS s r b) r') := a4.ext (fun j j0 _ => (zSoS_l (by omega) r0 j0).symm)
    rw [zSoS_f (w := 0) (by omega), zSoS_f (w := 1) (by omega), zSoS_f (w := 2) (by omega), zSoS_f (w := 3) (by omega)]
    have hqq := hq r' r0 r1
    show V.2 3 r' = _ ∧ zup (V.2 5) r (-1) r' = _ ∧ o / zP2 r' % 2 = _ ∧ V.2 4 r' = _ ∧ zCd (V.2 2 r') _ _
    by_cases e : r' = r
    · subst e
      rw [if_pos rfl] at hqq
      simp only [if_true]
      exact ⟨by simpa using a0, by rw [zup_s], by simpa using hqq, by simpa using a3, by simpa using hl⟩
    · rw [if_neg e] at hqq
      simp only [if_neg e]
      exact ⟨a0, by rw [zup_n e]; exact a1, by rw [hqq]; exact a2, a3, hl⟩
  · rw [c 0 (by omega)] at r1
    show zNm (V.2 1 r') _ ∧ _
    exact hn r' r0 r1
theorem zPop_out {V : CV} (hW : zWf s) (hR : zRB V s) : zPop (V.1 4) = zFd (fun r a => a + zf s r 2) (s 0).toNat 0 := by
  have w0 := hW.1
  have ho := hR.out hW.k
  rw [zPop_10 ho.1 ho.2]
  have hb := hR.2.2.2.2.2.2.1
  rw [zFd_more (s 0).toNat 30 (fun i x hi => ?_) (by omega)]
  · refine zFd_eq _ (fun r x r0 r1 => ?_)
    show x + V.1 4 / zP2 r % 2 = x + zf s r 2
    rw [(hR.row r0 (by omega)).2.2.1]
  · have := zP2_le (a := s 0) (b := i) (by omega)
    show x + V.1 4 / zP2 i % 2 = x
    rw [Int.ediv_eq_zero_of_lt ho.1 (by omega)]
    omega
theorem m_setsOut (hs : m.2 2 = s) (hW : zWf s) {r b : Int} (h0 : 0 ≤ r) (h1 : r < s 0) (hb : b = 0 ∨ b = 1) (hch : b = 0 → zf s r 1 = -1) {a : Int} (ha : iR a) (hab : b = if a = 0 then 0 else 1) : zOk (fX8_setsOut m r a) (fun t => zEx [] [2] m t.1 ∧ t.1.2 2 = zSoS s r b ∧ t.2 = zFd (fun q a => a + zf (zSoS s r b) q 2) (s 0).toNat 0) := by
  unfold fX8_setsOut
  have w0 := hW.1
  refine zok_e (m_truth ha) ?_
  rw [← hab]
  refine zok_e (m_lays (by omega) (by omega)) ?_
  have z1 : (zPa m 2 (11 + 4 * r + 2) b).2 2 = zSet s r 2 b := by rw [zPa_s, hs]; rfl
  refine zok_jP (fun (x : CV) => zEx [] [2] m x ∧ x.2 2 = zSoS s r b) (fun x hx => ?_) (fun K hK => ?_)
  · rw [hx.2, zSoS_c (by omega) h0]
    have hWo := zSoS_W hW h0 h1 hb
    refine zok_F (mk := fun a i => (a, i)) (s 0) (fun i a => a = zFd (fun q a => a + zf (zSoS s r b) q 2) i.toNat 0) rfl (by omega) rfl (fun i a hi hi2 hI => ?_) (fun i a hi hi2 hi3 hi4 hI => ?_)
    · dsimp only
      (repeat (first | (with_reducible refine zok_g ?_ ?_; focus omega) | with_reducible refine zok_j ?_ | (with_reducible refine zok_t ?_ ?_; focus omega) | (with_reducible refine zok_f ?_ ?_; focus omega)))
      refine zok_e (m_of hx.2 (by omega) (by omega)) (zok_sl ⟨_, rfl, ?_⟩)
      rw [zFd_s hi, hI]
    · dsimp only
      (repeat (first | (with_reducible refine zok_g ?_ ?_; focus omega) | with_reducible refine zok_j ?_ | (with_reducible refine zok_t ?_ ?_; focus omega) | (with_reducible refine zok_f ?_ ?_; focus omega)))
      refine zok_sr (zok_s ⟨hx.1, hx.2, ?_⟩)
      show a = _
      rw [hI, hi3 (by omega)]
  · (repeat (first | (with_reducible refine zok_g ?_ ?_; focus omega) | with_reducible refine zok_j ?_ | (with_reducible refine zok_t ?_ ?_; focus omega) | (with_reducible refine zok_f ?_ ?_; focus omega)))
    refine zok_i (fun c => hK _ ⟨zEx_a zEx_0 (by decide), ?_⟩) (fun c => ?_)
    · rw [if_pos c] at hab
      rw [z1]
      unfold zSoS
      have e : zf (zSet s r 2 b) r 1 = -1 := by rw [zSet_n (by omega) (by omega) (Or.inr (by omega))]; exact hch hab
      rw [← e, zSet_id]
    · refine zok_e (m_lays (by omega) (by omega)) (hK _ ⟨zEx_a (zEx_a zEx_0 (by decide)) (by decide), ?_⟩)
      rw [zPa_s, z1]
      rfl
end ZSQ
