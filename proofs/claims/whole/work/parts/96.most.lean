section ZMS
variable {σ : CS} {m : CV} {s : Int → Int}
/-- how many of the first n bits are set -/
noncomputable def zPc (x : Int) (n : Nat) : Int := zFd (fun i a => a + x / zP2 i % 2) n 0
noncomputable def zHn (s : Int → Int) (u : Int → Int) (n : Nat) : Int := zFd (fun r a => if zf s r 2 ≠ 1 ∧ zNr s r u (s 2) ≤ s 3 then a + zP2 r else a) n 0
noncomputable def zHk (s : Int → Int) (u : Int → Int) (n : Nat) : Int := zFd (fun r a => if zf s r 2 = 1 then a else a + (if zNr s r u (s 2) ≤ s 3 then 1 else 0)) n 0
theorem zPc_x {a : Int} (a0 : 0 ≤ a) (a1 : a < 1024) (n : Nat) (hn : (n : Int) < 10) : zPc (a + zP2 n) n = zPc a n ∨ ¬ a < zP2 n := by
  by_cases h : a < zP2 n
  · left
    rw [← zOr_p (by omega) ⟨a0, h⟩]
    refine zFd_eq _ (fun q x q0 q1 => ?_)
    rw [zOr_k a0 a1 (by omega) (by omega) q0 (by omega), if_neg (by omega)]
  · exact Or.inr h
theorem zHn_k {u : Int → Int} (n : Nat) (hn : (n : Int) ≤ 10) : zPc (zHn s u n) n = zHk s u n := by
  induction n with
  | zero => rfl
  | succ n ih =>
    have hi : 0 ≤ zHn s u n ∧ zHn s u n < zP2 n := zHv_i (s := s) (u := u) n
    have le := zP2_le (a := (n : Int)) (b := 10) (by omega)
    have e10 : zP2 10 = 1024 := rfl
    have hih := ih (by omega)
    have e1 : zHn s u (n + 1) = if zf s n 2 ≠ 1 ∧ zNr s n u (s 2) ≤ s 3 then zHn s u n + zP2 n else zHn s u n := rfl
    have e2 : zHk s u (n + 1) = if zf s n 2 = 1 then zHk s u n else zHk s u n + (if zNr s n u (s 2) ≤ s 3 then 1 else 0) := rfl
    have e3 : ∀ x, zPc x (n + 1) = zPc x n + x / zP2 n % 2 := fun _ => rfl
    have no : zPc (zHn s u n) (n + 1) = zHk s u n := by
      rw [e3, hih, Int.ediv_eq_zero_of_lt hi.1 hi.2]
      omega
    rw [e1, e2]
    by_cases c1 : zf s n 2 = 1
    · rw [if_neg (fun z => z.1 c1), if_pos c1]
      exact no
    · rw [if_neg c1]
      by_cases c2 : zNr s n u (s 2) ≤ s 3
      · rw [if_pos ⟨c1, c2⟩, if_pos c2, e3]
        rcases zPc_x hi.1 (by omega) n (by omega) with h | h
        · rw [h, hih, ← zOr_p (by omega) hi, zOr_k hi.1 (by omega) (by omega) (by omega) (by omega) (by omega), if_pos rfl]
        · exact absurd hi.2 h
      · rw [if_neg (fun z => c2 z.2), if_neg c2]
        rw [no]
        omega
theorem zHv_c (hW : zWf s) {w : Int} : zPop (zHv s (zDg s w)) = zHc s w := by
  have w0 := hW.1
  have hh := zHv_1024 hW (u := zDg s w)
  have hr := zHv_r hW (u := zDg s w)
  rw [zPop_10 hh.1 hh.2, zFd_more (s 0).toNat 30 (fun i x hi => ?_) (by omega)]
  · exact zHn_k (s := s) (u := zDg s w) (s 0).toNat (by omega)
  · have := zP2_le (a := s 0) (b := i) (by omega)
    show x + zHv s (zDg s w) / zP2 i % 2 = x
    rw [Int.ediv_eq_zero_of_lt hr.1 (by omega)]
    omega
theorem zHc_r (hW : zWf s) {w : Int} : 0 ≤ zHc s w ∧ zHc s w ≤ 10 := by
  have w0 := hW.1
  have h := zFd_I (f := fun r a => if zf s r 2 = 1 then a else a + (if zNr s r (zDg s w) (s 2) ≤ s 3 then 1 else 0)) (a := (0 : Int)) (fun i a => 0 ≤ a ∧ a ≤ i) ⟨Int.le_refl 0, Int.le_refl 0⟩ (s 0).toNat (fun i a _ _ ha => by
    show 0 ≤ (if zf s i 2 = 1 then a else a + (if zNr s i (zDg s w) (s 2) ≤ s 3 then 1 else 0)) ∧ (if zf s i 2 = 1 then a else a + (if zNr s i (zDg s w) (s 2) ≤ s 3 then 1 else 0)) ≤ i + 1
    split
    · omega
    · split <;> omega)
  have h2 : 0 ≤ zHc s w ∧ zHc s w ≤ ((s 0).toNat : Int) := h
  omega
noncomputable def zMhf (s : Int → Int) (w b : Int) : Int := if w = 0 then 0 else if zHc s b < zHc s w ∨ (zHc s w = zHc s b ∧ zFb s (s 2) w < zFb s (s 2) b) then w else b
/-- the word that most rows have, of the first n -/
noncomputable def zMh (s : Int → Int) (n : Nat) : Int := zFd (zMhf s) n (-1)
theorem zMh_s {w : Int} (h : 0 ≤ w) : zMh s (w + 1).toNat = zMhf s w (zMh s w.toNat) := zFd_s h
theorem zMh_r (n : Nat) : (n = 0 → zMh s n = -1) ∧ (n ≠ 0 → 0 ≤ zMh s n ∧ zMh s n < n) := by
  induction n with
  | zero => exact ⟨fun _ => rfl, fun h => absurd rfl h⟩
  | succ n ih =>
    refine ⟨fun h => by omega, fun _ => ?_⟩
    show 0 ≤ zMhf s n (zMh s n) ∧ zMhf s n (zMh s n) < ((n + 1 : Nat) : Int)
    unfold zMhf
    by_cases c : (n : Int) = 0
    · rw [if_pos c]; omega
    · rw [if_neg c]
      have := ih.2 (by omega)
      split <;> omega
theorem c_mostHadWord (hW : zWf s) {T : CV} (hT : zSoT T s) : fX3_mostHadWord T = some (zMh s (zWords s).toNat) := by
  apply zok_q
  unfold fX3_mostHadWord
  have w2 := hW.2.2.1
  have hw := zWords_r hW
  have e1 : zMh s (1 : Int).toNat = 0 := by
    show zMhf s 0 (-1) = 0
    unfold zMhf
    rw [if_pos rfl]
  have h102 := hT.1.2.2.2.2
  rw [hT.1.2.2.1]
  refine zok_Fc 1 (mk := fun a i => (a, i)) (zWords s) (fun w a => (0 ≤ a ∧ a < w) ∧ a = zMh s w.toNat) rfl (by omega) (by omega) ⟨⟨by omega, by omega⟩, e1.symm⟩ (fun w a hw0 hw1 hI => ?_) (fun w a hw0 hw1 hw2 hw3 hI => ?_)
  · dsimp only
    have ha := zHc_r hW (w := a)
    have hb := zHc_r hW (w := w)
    have hFa := zFb_r hW (m := s 2) (b := a) (by omega) (Int.le_refl _)
    have hFw := zFb_r hW (m := s 2) (b := w) (by omega) (Int.le_refl _)
    have eS := zMh_s (s := s) (w := w) (by omega)
    rw [← hI.2] at eS
    unfold zMhf at eS
    rw [if_neg (show ¬ w = 0 by omega)] at eS
    have h3a := hT.2.1 a hI.1.1 (by omega)
    have h3w := hT.2.1 w (by omega) hw1
    rw [h3a, h3w]
    have yes : (zHc s a < zHc s w ∨ (zHc s w = zHc s a ∧ zFb s (s 2) w < zFb s (s 2) a)) → ((0 ≤ w ∧ w < w + 1) ∧ w = zMh s (w + 1).toNat) := fun z => ⟨⟨by omega, by omega⟩, by rw [eS, if_pos z]⟩
    have not : ¬ (zHc s a < zHc s w ∨ (zHc s w = zHc s a ∧ zFb s (s 2) w < zFb s (s 2) a)) → ((0 ≤ a ∧ a < w + 1) ∧ a = zMh s (w + 1).toNat) := fun z => ⟨⟨by omega, by omega⟩, by rw [eS, if_neg z]⟩
    (repeat (first | (with_reducible refine zok_g ?_ ?_; focus omega) | with_reducible refine zok_j ?_ | (with_reducible refine zok_t ?_ ?_; focus omega) | (with_reducible refine zok_f ?_ ?_; focus omega)))
    refine zok_i (fun c => ?_) (fun c => ?_)
    · (repeat (first | (with_reducible refine zok_g ?_ ?_; focus omega) | with_reducible refine zok_j ?_ | (with_reducible refine zok_t ?_ ?_; focus omega) | (with_reducible refine zok_f ?_ ?_; focus omega)))
      refine zok_i (fun d => ?_) (fun d => ?_)
      · refine zok_e (c_scoreOf hW hT.1 (by omega) hw1) ?_
        refine zok_e (c_scoreOf hW hT.1 hI.1.1 (by omega)) ?_
        (repeat (first | (with_reducible refine zok_g ?_ ?_; focus omega) | with_reducible refine zok_j ?_ | (with_reducible refine zok_t ?_ ?_; focus omega) | (with_reducible refine zok_f ?_ ?_; focus omega)))
        refine zok_i (fun e => ?_) (fun e => ?_)
        · (repeat (first | (with_reducible refine zok_g ?_ ?_; focus omega) | with_reducible refine zok_j ?_ | (with_reducible refine zok_t ?_ ?_; focus omega) | (with_reducible refine zok_f ?_ ?_; focus omega)))
          exact zok_sl ⟨_, rfl, not (by omega)⟩
        · (repeat (first | (with_reducible refine zok_g ?_ ?_; focus omega) | with_reducible refine zok_j ?_ | (with_reducible refine zok_t ?_ ?_; focus omega) | (with_reducible refine zok_f ?_ ?_; focus omega)))
          exact zok_sl ⟨_, rfl, yes (by omega)⟩
      · (repeat (first | (with_reducible refine zok_g ?_ ?_; focus omega) | with_reducible refine zok_j ?_ | (with_reducible refine zok_t ?_ ?_; focus omega) | (with_reducible refine zok_f ?_ ?_; focus omega)))
        exact zok_sl ⟨_, rfl, not (by omega)⟩
    · (repeat (first | (with_reducible refine zok_g ?_ ?_; focus omega) | with_reducible refine zok_j ?_ | (with_reducible refine zok_t ?_ ?_; focus omega) | (with_reducible refine zok_f ?_ ?_; focus omega)))
      exact zok_sl ⟨_, rfl, yes (by omega)⟩
  · dsimp only
    (repeat (first | (with_reducible refine zok_g ?_ ?_; focus omega) | with_reducible refine zok_j ?_ | (with_reducible refine zok_t ?_ ?_; focus omega) | (with_reducible refine zok_f ?_ ?_; focus omega)))
    refine zok_sr (zok_s ?_)
    rw [hI.2, hw2 (by omega)]
theorem s_mostHad (h : zRR σ m) {w : Int} (hw : iR w) : zCl [zIA] (fX7_mostHad σ w) (fX8_mostHad m w) := by
  unfold zCl fX7_mostHad fX8_mostHad
  have hW := h.W
  have w2 := hW.2.2.1
  have hwn := zWords_r hW
  have hin := m_isIn (a := w) (lo := 0) (hi := 1) ⟨by omega, by omega⟩ (by decide) (by decide)
  have hmr := (zMh_r (s := m.2 2) (zWords (m.2 2)).toNat).2 (by omega)
  have mod : 0 ≤ w ∧ w ≤ 1 → ∀ t : CS × (Int ⊕ String), zRR t.1 m → (∃ v, t.2 = .inl v ∧ iR v ∧ ((w = 0 ∧ v = zMh (m.2 2) (zWords (m.2 2)).toNat) ∨ (w = 1 ∧ v = zHc (m.2 2) (zMh (m.2 2) (zWords (m.2 2)).toNat)))) → zOk (fX8_mostHad m w) (fun u => zRR t.1 u.1 ∧ zAn [zIA] t.2 (u.1.1 0) u.2) := by
    intro hw1 t ht ⟨v, ev, hv, hcase⟩
    unfold fX8_mostHad
    rw [decide_eq_true hw1] at hin
    (repeat (first | (with_reducible refine zok_g ?_ ?_; focus omega) | with_reducible refine zok_j ?_ | (with_reducible refine zok_t ?_ ?_; focus omega) | (with_reducible refine zok_f ?_ ?_; focus omega)))
    refine zok_e hin ?_
    refine zok_e m_go1 ?_
    refine zok_t rfl ?_
    refine zok_F (mk := fun (a : Int × Int × Int × CV) i => (a.1, a.2.1, a.2.2.1, i, a.2.2.2)) (zWords (m.2 2)) (fun i a => zEx [] [10] (zPu m 0 0) a.2.2.2 ∧ a.1 = zMh (m.2 2) i.toNat ∧ (i ≠ 0 → a.2.1 = zHc (m.2 2) a.1 ∧ a.2.2.1 = zFb (m.2 2) (m.2 2 2) a.1)) (a0 := (-1, 0, 0, zPu m 0 0)) rfl (by omega) ⟨zEx_0, rfl, fun z => absurd rfl z⟩ (fun i a hi hi2 hI => ?_) (fun i a hi hi2 hi3 hi4 hI => ?_)
    · obtain ⟨b, n, x, t⟩ := a
      obtain ⟨hE, hb, hn⟩ := hI
      dsimp only at hE hb hn ⊢
      have ts : t.2 2 = m.2 2 := hE.2 2 (by decide)
      refine zok_e (m_words ts hW) ?_
      (repeat (first | (with_reducible refine zok_g ?_ ?_; focus omega) | with_reducible refine zok_j ?_ | (with_reducible refine zok_t ?_ ?_; focus omega) | (with_reducible refine zok_f ?_ ?_; focus omega)))
      refine zok_b (m_scoreOf ts hW hi hi2) (fun y hy => ?_)
      obtain ⟨t2, sc⟩ := y
      obtain ⟨⟨hE2, hd⟩, hsc⟩ := hy
      dsimp only at hE2 hd hsc ⊢
      have t2s : t2.2 2 = m.2 2 := (hE2.2 2 (by decide)).trans ts
      refine zok_e (m_haves t2s hW hd (fun j _ _ => by have := zDg_r hW (w := i) (i := j); have := hW.2.1; omega)) ?_
      have hh := zHv_1024 hW (u := zDg (m.2 2) i)
      refine zok_e (m_ones ⟨by omega, by omega⟩) ?_
      rw [← zPop_10 hh.1 hh.2, zHv_c hW]
      have hsc' : sc = zFb (m.2 2) (m.2 2 2) i := hsc
      subst hsc'
      have hFw := zFb_r hW (m := m.2 2 2) (b := i) (by omega) (Int.le_refl _)
      have hc := zHc_r hW (w := i)
      have hE3 : zEx [] [10] (zPu m 0 0) t2 := zEx_t hE hE2
      have hbr := zMh_r (s := m.2 2) i.toNat
      rw [← hb] at hbr
      have eS := zMh_s (s := m.2 2) hi
      rw [← hb] at eS
      unfold zMhf at eS
      by_cases c0 : i = 0
      · have b1 : b = -1 := hbr.1 (by omega)
        subst b1
        rw [if_pos c0] at eS
        (repeat (first | (with_reducible refine zok_g ?_ ?_; focus omega) | with_reducible refine zok_j ?_ | (with_reducible refine zok_t ?_ ?_; focus omega) | (with_reducible refine zok_f ?_ ?_; focus omega)))
        exact zok_sl ⟨(i, _, _, t2), rfl, hE3, by show i = _; rw [eS]; exact c0, fun _ => ⟨rfl, rfl⟩⟩
      · have b2 := hbr.2 (by omega)
        rw [if_neg c0] at eS
        obtain ⟨n1, n2⟩ := hn c0
        have hFb := zFb_r hW (m := m.2 2 2) (b := b) (by omega) (Int.le_refl _)
        have hcb := zHc_r hW (w := b)
        have yes : (zHc (m.2 2) b < zHc (m.2 2) i ∨ (zHc (m.2 2) i = zHc (m.2 2) b ∧ zFb (m.2 2) (m.2 2 2) i < zFb (m.2 2) (m.2 2 2) b)) → i = zMh (m.2 2) (i + 1).toNat := fun z => by rw [eS, if_pos z]
        have not : ¬ (zHc (m.2 2) b < zHc (m.2 2) i ∨ (zHc (m.2 2) i = zHc (m.2 2) b ∧ zFb (m.2 2) (m.2 2 2) i < zFb (m.2 2) (m.2 2 2) b)) → b = zMh (m.2 2) (i + 1).toNat := fun z => by rw [eS, if_neg z]
        (repeat (first | (with_reducible refine zok_g ?_ ?_; focus omega) | with_reducible refine zok_j ?_ | (with_reducible refine zok_t ?_ ?_; focus omega) | (with_reducible refine zok_f ?_ ?_; focus omega)))
        refine zok_i (fun c1 => zok_sl ⟨(b, n, x, t2), rfl, hE3, not (by omega), fun _ => ⟨n1, n2⟩⟩) (fun c1 => ?_)
        refine zok_i (fun c2 => ?_) (fun c2 => zok_sl ⟨(i, _, _, t2), rfl, hE3, yes (by omega), fun _ => ⟨rfl, rfl⟩⟩)
        (repeat (first | (with_reducible refine zok_g ?_ ?_; focus omega) | with_reducible refine zok_j ?_ | (with_reducible refine zok_t ?_ ?_; focus omega) | (with_reducible refine zok_f ?_ ?_; focus omega)))
        exact zok_i (fun c3 => zok_sl ⟨(i, _, _, t2), rfl, hE3, yes (by omega), fun _ => ⟨rfl, rfl⟩⟩) (fun c3 => zok_sl ⟨(b, n, x, t2), rfl, hE3, not (by omega), fun _ => ⟨n1, n2⟩⟩)
    · obtain ⟨b, n, x, u⟩ := a
      obtain ⟨hE, hb, hn⟩ := hI
      dsimp only at hE hb hn ⊢
      have us : u.2 2 = m.2 2 := hE.2 2 (by decide)
      refine zok_e (m_words us hW) ?_
      (repeat (first | (with_reducible refine zok_g ?_ ?_; focus omega) | with_reducible refine zok_j ?_ | (with_reducible refine zok_t ?_ ?_; focus omega) | (with_reducible refine zok_f ?_ ?_; focus omega)))
      refine zok_sr ?_
      have ei := hi3 (by omega)
      subst ei
      obtain ⟨n1, n2⟩ := hn (by omega)
      have hR := zRR_x ht hE (by decide) (by decide)
      have h0 := zCode0 hE (by decide)
      dsimp only
      rcases hcase with ⟨a1, a2⟩ | ⟨a1, a2⟩
      · (repeat (first | (with_reducible refine zok_g ?_ ?_; focus omega) | with_reducible refine zok_j ?_ | (with_reducible refine zok_t ?_ ?_; focus omega) | (with_reducible refine zok_f ?_ ?_; focus omega)))
        exact zok_s ⟨hR, by rw [ev]; exact zAn_v h0 (a2.trans hb.symm) hv⟩
      · (repeat (first | (with_reducible refine zok_g ?_ ?_; focus omega) | with_reducible refine zok_j ?_ | (with_reducible refine zok_t ?_ ?_; focus omega) | (with_reducible refine zok_f ?_ ?_; focus omega)))
        exact zok_s ⟨hR, by rw [ev]; exact zAn_v h0 (by show v = n; rw [n1, hb]; exact a2) hv⟩
  unfold fX8_mostHad at mod
  by_cases c : 0 ≤ w ∧ w ≤ 1
  · (repeat (first | (with_reducible refine zok_g ?_ ?_; focus omega) | with_reducible refine zok_j ?_ | (with_reducible refine zok_t ?_ ?_; focus omega) | (with_reducible refine zok_f ?_ ?_; focus omega)))
    refine zok_b (x_searched h) (fun ρ hρ => ?_)
    refine zok_e (c_mostHadWord hW hρ.2.2.1) ?_
    have hH := zHc_r hW (w := zMh (m.2 2) (zWords (m.2 2)).toNat)
    by_cases c1 : w = 0
    · refine zok_t c1 (zok_s ?_)
      exact mod c _ hρ.2.2.2.2.2.2 ⟨_, rfl, ⟨by omega, by omega⟩, Or.inl ⟨c1, rfl⟩⟩
    · refine zok_f c1 ?_
      have e4 : ρ 4 = σ 4 := hρ.1 4 (by decide)
      rw [e4]
      refine zok_b (b_codeOf hW h.B hmr.1 (by omega)) (fun cd hcd => ?_)
      refine zok_e (b_rowsHaving hW h.B hcd) (zok_s ?_)
      rw [zHv_c hW]
      exact mod c _ hρ.2.2.2.2.2.2 ⟨_, rfl, ⟨by omega, by omega⟩, Or.inr ⟨by omega, rfl⟩⟩
  · have bad : zOk (some (σ, (.inr zIA : Int ⊕ String))) (fun t => zOk (fX8_mostHad m w) (fun u => zRR t.1 u.1 ∧ zAn [zIA] t.2 (u.1.1 0) u.2)) := by
      refine zok_s ?_
      unfold fX8_mostHad
      rw [decide_eq_false c] at hin
      (repeat (first | (with_reducible refine zok_g ?_ ?_; focus omega) | with_reducible refine zok_j ?_ | (with_reducible refine zok_t ?_ ?_; focus omega) | (with_reducible refine zok_f ?_ ?_; focus omega)))
      refine zok_e hin ?_
      refine zok_e m_go0 ?_
      refine zok_f Bool.false_ne_true ?_
      exact zok_s ⟨zRR_0 h, zAn_e 0 rfl rfl⟩
    unfold fX8_mostHad at bad
    by_cases c1 : w < 0
    · (repeat (first | (with_reducible refine zok_g ?_ ?_; focus omega) | with_reducible refine zok_j ?_ | (with_reducible refine zok_t ?_ ?_; focus omega) | (with_reducible refine zok_f ?_ ?_; focus omega)))
      exact bad
    · (repeat (first | (with_reducible refine zok_g ?_ ?_; focus omega) | with_reducible refine zok_j ?_ | (with_reducible refine zok_t ?_ ?_; focus omega) | (with_reducible refine zok_f ?_ ?_; focus omega)))
      exact bad
end ZMS
