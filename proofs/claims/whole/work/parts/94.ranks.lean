section ZRK
variable {σ : CS} {m : CV} {s : Int → Int}
/-- how many of the first n words have a lesser score -/
noncomputable def zLs (s : Int → Int) (x : Int) (n : Nat) : Int := zFd (fun w a => if zFb s (s 2) w < x then a + 1 else a) n 0
theorem zLs_s {x : Int} (n : Nat) : zLs s (x + 1) n = zLs s x n + zScc s x n := by
  induction n with
  | zero => rfl
  | succ n ih =>
    show (if zFb s (s 2) n < x + 1 then zLs s (x + 1) n + 1 else zLs s (x + 1) n) = (if zFb s (s 2) n < x then zLs s x n + 1 else zLs s x n) + (if zFb s (s 2) n = x then zScc s x n + 1 else zScc s x n)
    rw [ih]
    by_cases a : zFb s (s 2) n < x
    · rw [if_pos (by omega), if_pos a, if_neg (by omega)]; omega
    · by_cases b : zFb s (s 2) n = x
      · rw [if_pos (by omega), if_neg a, if_pos b]; omega
      · rw [if_neg (by omega), if_neg a, if_neg b]
theorem zScc_r {x : Int} (n : Nat) : 0 ≤ zScc s x n ∧ zScc s x n ≤ n :=
  zFd_I (f := fun w a => if zFb s (s 2) w = x then a + 1 else a) (fun i a => 0 ≤ a ∧ a ≤ i) ⟨Int.le_refl 0, Int.le_refl 0⟩ n (fun i a _ _ ha => by
    show 0 ≤ (if zFb s (s 2) i = x then a + 1 else a) ∧ (if zFb s (s 2) i = x then a + 1 else a) ≤ i + 1
    split <;> omega)
theorem zLs_0 (hW : zWf s) (n : Nat) (x : Int) (hx : x ≤ 0) : zLs s x n = 0 := by
  have w2 := hW.2.2.1
  induction n with
  | zero => rfl
  | succ n ih =>
    show (if zFb s (s 2) n < x then zLs s x n + 1 else zLs s x n) = 0
    have := (zFb_r hW (m := s 2) (b := n) (by omega) (Int.le_refl _)).1
    rw [if_neg (by omega)]
    exact ih
noncomputable def zRnk (s : Int → Int) (w : Int) : Int := zLs s (zFb s (s 2) w) (zWords s).toNat + zScc s (zFb s (s 2) w) w.toNat
theorem zLs_r {x : Int} (n : Nat) : 0 ≤ zLs s x n ∧ zLs s x n ≤ n :=
  zFd_I (f := fun w a => if zFb s (s 2) w < x then a + 1 else a) (fun i a => 0 ≤ a ∧ a ≤ i) ⟨Int.le_refl 0, Int.le_refl 0⟩ n (fun i a _ _ ha => by
    show 0 ≤ (if zFb s (s 2) i < x then a + 1 else a) ∧ (if zFb s (s 2) i < x then a + 1 else a) ≤ i + 1
    split <;> omega)
theorem c_rankOfWord (hW : zWf s) {T : CV} (hT : zSoT T s) {w : Int} (w0 : 0 ≤ w) (w1 : w < zWords s) : fX3_rankOfWord T w = some (zRnk s w) := by
  apply zok_q
  unfold fX3_rankOfWord
  have w2 := hW.2.2.1
  have hw := zWords_r hW
  have hF := zFb_r hW (m := s 2) (b := w) (by omega) (Int.le_refl _)
  refine zok_e (c_scoreOf hW hT.1 w0 w1) ?_
  generalize hown : zFb s (s 2) w = own at hF
  refine zok_F (mk := fun a i => (a, i)) own (fun x a => a = zLs s x (zWords s).toNat) rfl (by omega) (zLs_0 hW _ _ (Int.le_refl 0)).symm (fun x a hx hx2 hI => ?_) (fun x a hx hx2 hx3 hx4 hI => ?_)
  · dsimp only
    (repeat (first | (with_reducible refine zok_g ?_ ?_; focus omega) | with_reducible refine zok_j ?_ | (with_reducible refine zok_t ?_ ?_; focus omega) | (with_reducible refine zok_f ?_ ?_; focus omega)))
    refine zok_sl ⟨_, rfl, ?_⟩
    rw [hT.2.2.1 x hx (by omega), zLs_s, hI]
  · dsimp only
    (repeat (first | (with_reducible refine zok_g ?_ ?_; focus omega) | with_reducible refine zok_j ?_ | (with_reducible refine zok_t ?_ ?_; focus omega) | (with_reducible refine zok_f ?_ ?_; focus omega)))
    refine zok_sr ?_
    dsimp only
    have ex := hx3 (by omega)
    subst ex
    refine zok_F (mk := fun a i => (a, i)) w (fun v b => b = a + zScc s x v.toNat) rfl (by omega) (by show a = a + 0; omega) (fun v b hv hv2 hJ => ?_) (fun v b hv hv2 hv3 hv4 hJ => ?_)
    · dsimp only
      (repeat (first | (with_reducible refine zok_g ?_ ?_; focus omega) | with_reducible refine zok_j ?_ | (with_reducible refine zok_t ?_ ?_; focus omega) | (with_reducible refine zok_f ?_ ?_; focus omega)))
      refine zok_e (c_scoreOf hW hT.1 hv (by omega)) ?_
      have hFv := zFb_r hW (m := s 2) (b := v) (by omega) (Int.le_refl _)
      (repeat (first | (with_reducible refine zok_g ?_ ?_; focus omega) | with_reducible refine zok_j ?_ | (with_reducible refine zok_t ?_ ?_; focus omega) | (with_reducible refine zok_f ?_ ?_; focus omega)))
      refine zok_i (fun c => zok_sl ⟨_, rfl, ?_⟩) (fun c => zok_sl ⟨_, rfl, ?_⟩)
      · rw [zScc_s hv, if_pos c, hJ]; omega
      · rw [zScc_s hv, if_neg c, hJ]
    · dsimp only
      (repeat (first | (with_reducible refine zok_g ?_ ?_; focus omega) | with_reducible refine zok_j ?_ | (with_reducible refine zok_t ?_ ?_; focus omega) | (with_reducible refine zok_f ?_ ?_; focus omega)))
      refine zok_sr (zok_s ?_)
      rw [hJ, hI, hv3 (by omega)]
      unfold zRnk
      rw [hown]
theorem m_laysScores (hs : m.2 2 = s) (hW : zWf s) : zOk (fX8_laysScores m) (fun t => zEx [] [10, 13] m t ∧ ∀ w, 0 ≤ w → w < zWords s → t.2 13 w = zFb s (s 2) w) := by
  unfold fX8_laysScores
  have hw := zWords_r hW
  refine zok_F (mk := fun a i => (i, a)) (zWords s) (fun i t => zEx [] [10, 13] m t ∧ ∀ w, 0 ≤ w → w < i → t.2 13 w = zFb s (s 2) w) rfl (by omega) ⟨zEx_0, fun w _ _ => by omega⟩ (fun i t hi hi2 hI => ?_) (fun i t hi hi2 hi3 hi4 hI => ?_)
  · have ts : t.2 2 = s := (hI.1.2 2 (by decide)).trans hs
    refine zok_e (m_words ts hW) ?_
    dsimp only
    (repeat (first | (with_reducible refine zok_g ?_ ?_; focus omega) | with_reducible refine zok_j ?_ | (with_reducible refine zok_t ?_ ?_; focus omega) | (with_reducible refine zok_f ?_ ?_; focus omega)))
    refine zok_b (m_scoreOf ts hW hi hi2) (fun x hx => ?_)
    (repeat (first | (with_reducible refine zok_g ?_ ?_; focus omega) | with_reducible refine zok_j ?_ | (with_reducible refine zok_t ?_ ?_; focus omega) | (with_reducible refine zok_f ?_ ?_; focus omega)))
    refine zok_sl ⟨_, rfl, zEx_a (zEx_t hI.1 (zEx_w hx.1.1 (fun _ h => h) (by decide))) (by decide), fun w q0 q1 => ?_⟩
    rw [zPa_s]
    by_cases e : w = i
    · rw [e, zup_s, hx.2]; rfl
    · rw [zup_n e, hx.1.1.2 13 (by decide)]; exact hI.2 w q0 (by omega)
  · have ts : t.2 2 = s := (hI.1.2 2 (by decide)).trans hs
    have ei := hi3 (by omega)
    subst ei
    refine zok_e (m_words ts hW) ?_
    dsimp only
    (repeat (first | (with_reducible refine zok_g ?_ ?_; focus omega) | with_reducible refine zok_j ?_ | (with_reducible refine zok_t ?_ ?_; focus omega) | (with_reducible refine zok_f ?_ ?_; focus omega)))
    exact zok_sr (zok_s hI)
theorem m_rank (hs : m.2 2 = s) (hW : zWf s) (hS : ∀ w, 0 ≤ w → w < zWords s → m.2 13 w = zFb s (s 2) w) {w : Int} (w0 : 0 ≤ w) (w1 : w < zWords s) : fX8_rank m w = some (zRnk s w) := by
  apply zok_q
  unfold fX8_rank
  have w2 := hW.2.2.1
  have hw := zWords_r hW
  have hF := zFb_r hW (m := s 2) (b := w) (by omega) (Int.le_refl _)
  have eW := hS w w0 w1
  refine zok_F (mk := fun a i => (a, i)) (zWords s) (fun v a => a = zLs s (zFb s (s 2) w) v.toNat + zScc s (zFb s (s 2) w) (zMin v w).toNat) rfl (by omega) ?_ (fun v a hv hv2 hI => ?_) (fun v a hv hv2 hv3 hv4 hI => ?_)
  · have : zMin 0 w = 0 := by unfold zMin; rw [if_neg (by omega)]
    rw [this]
    rfl
  · refine zok_e (m_words hs hW) ?_
    dsimp only
    have eV := hS v hv hv2
    have hFv := zFb_r hW (m := s 2) (b := v) (by omega) (Int.le_refl _)
    have eL : zLs s (zFb s (s 2) w) (v + 1).toNat = if zFb s (s 2) v < zFb s (s 2) w then zLs s (zFb s (s 2) w) v.toNat + 1 else zLs s (zFb s (s 2) w) v.toNat := zFd_s hv
    have eS : zScc s (zFb s (s 2) w) (zMin (v + 1) w).toNat = if v < w ∧ zFb s (s 2) v = zFb s (s 2) w then zScc s (zFb s (s 2) w) (zMin v w).toNat + 1 else zScc s (zFb s (s 2) w) (zMin v w).toNat := by
      by_cases c : v < w
      · have e1 : zMin (v + 1) w = v + 1 := by unfold zMin; rw [if_neg (by omega)]
        have e2 : zMin v w = v := by unfold zMin; rw [if_neg (by omega)]
        rw [e1, e2, zScc_s hv]
        by_cases d : zFb s (s 2) v = zFb s (s 2) w
        · rw [if_pos d, if_pos ⟨c, d⟩]
        · rw [if_neg d, if_neg (fun z => d z.2)]
      · have e1 : zMin (v + 1) w = w := by unfold zMin; rw [if_pos (by omega)]
        have e2 : zMin v w = w := by unfold zMin; split <;> omega
        rw [e1, e2, if_neg (fun z => c z.1)]
    rw [eV, eW]
    refine zok_g (by omega) ?_
    refine zok_f (by omega) ?_
    refine zok_g (by omega) ?_
    refine zok_g (by omega) ?_
    refine zok_jP (fun x => (x = 1 ∧ (zFb s (s 2) v < zFb s (s 2) w ∨ (v < w ∧ zFb s (s 2) v = zFb s (s 2) w))) ∨ (x = 0 ∧ ¬ (zFb s (s 2) v < zFb s (s 2) w ∨ (v < w ∧ zFb s (s 2) v = zFb s (s 2) w)))) (fun x hx => ?_) (fun K hK => ?_)
    · rcases hx with ⟨ex, hc⟩ | ⟨ex, hc⟩
      · subst ex
        refine zok_e (m_truth (by decide)) (zok_sl ⟨_, rfl, ?_⟩)
        rw [if_neg (by decide), eL, eS, hI]
        by_cases c1 : zFb s (s 2) v < zFb s (s 2) w
        · rw [if_pos c1, if_neg (by omega)]; omega
        · rw [if_neg c1, if_pos (by omega)]; omega
      · subst ex
        refine zok_e (m_truth (by decide)) (zok_sl ⟨_, rfl, ?_⟩)
        rw [if_pos rfl, eL, eS, hI, if_neg (by omega), if_neg (by omega)]
        omega
    · refine zok_jP (fun _ => zFb s (s 2) v < zFb s (s 2) w ∨ (v < w ∧ zFb s (s 2) v = zFb s (s 2) w)) (fun _ hx => hK 1 (Or.inl ⟨rfl, hx⟩)) (fun K1 hK1 => ?_)
      (repeat (first | (with_reducible refine zok_g ?_ ?_; focus omega) | with_reducible refine zok_j ?_ | (with_reducible refine zok_t ?_ ?_; focus omega) | (with_reducible refine zok_f ?_ ?_; focus omega)))
      refine zok_i (fun c => hK1 () (Or.inl c)) (fun c => ?_)
      refine zok_jP (fun _ => ¬ (zFb s (s 2) v < zFb s (s 2) w ∨ (v < w ∧ zFb s (s 2) v = zFb s (s 2) w))) (fun _ hx => hK 0 (Or.inr ⟨rfl, hx⟩)) (fun K2 hK2 => ?_)
      refine zok_i (fun c2 => ?_) (fun c2 => hK2 () (by omega))
      (repeat (first | (with_reducible refine zok_g ?_ ?_; focus omega) | with_reducible refine zok_j ?_ | (with_reducible refine zok_t ?_ ?_; focus omega) | (with_reducible refine zok_f ?_ ?_; focus omega)))
      exact zok_i (fun c3 => hK2 () (by omega)) (fun c3 => hK1 () (Or.inr ⟨by omega, c2⟩))
  · refine zok_e (m_words hs hW) ?_
    dsimp only
    (repeat (first | (with_reducible refine zok_g ?_ ?_; focus omega) | with_reducible refine zok_j ?_ | (with_reducible refine zok_t ?_ ?_; focus omega) | (with_reducible refine zok_f ?_ ?_; focus omega)))
    refine zok_sr (zok_s ?_)
    have ev := hv3 (by omega)
    subst ev
    have : zMin (zWords s) w = w := by unfold zMin; rw [if_pos w1]
    rw [hI, this]
    rfl
theorem zRnk_r (hW : zWf s) {w : Int} (w0 : 0 ≤ w) (w1 : w < zWords s) : iR (zRnk s w) := by
  have hw := zWords_r hW
  have a := zLs_r (s := s) (x := zFb s (s 2) w) (zWords s).toNat
  have b := zScc_r (s := s) (x := zFb s (s 2) w) w.toNat
  unfold zRnk
  exact ⟨by omega, by omega⟩
theorem s_rankOf (h : zRR σ m) {w : Int} (hw : iR w) : zCl [zIO] (fX7_rankOf σ w) (fX8_rankOf m w) := by
  refine zWord_c h hw (fun w0 w1 a b => ?_) (fun a b => ?_)
  · unfold zCl fX7_rankOf fX8_rankOf
    refine zok_el a ?_
    (repeat (first | (with_reducible refine zok_g ?_ ?_; focus omega) | with_reducible refine zok_j ?_ | (with_reducible refine zok_t ?_ ?_; focus omega) | (with_reducible refine zok_f ?_ ?_; focus omega)))
    refine zok_b (x_searched h) (fun ρ hρ => ?_)
    refine zok_e (c_rankOfWord h.W hρ.2.2.1 w0 w1) (zok_s ?_)
    refine zok_e b ?_
    refine zok_e m_go1 ?_
    refine zok_t rfl ?_
    refine zok_b (m_laysScores (m := zPu m 0 0) (s := m.2 2) rfl h.W) (fun t ht => ?_)
    have ts : t.2 2 = m.2 2 := ht.1.2 2 (by decide)
    refine zok_e (m_rank ts h.W ht.2 w0 w1) (zok_s ⟨zRR_x hρ.2.2.2.2.2.2 ht.1 (by decide) (by decide), zAn_v (zCode0 ht.1 (by decide)) rfl (zRnk_r h.W w0 w1)⟩)
  · unfold zCl fX7_rankOf fX8_rankOf
    refine zok_er a ?_
    (repeat (first | (with_reducible refine zok_g ?_ ?_; focus omega) | with_reducible refine zok_j ?_ | (with_reducible refine zok_t ?_ ?_; focus omega) | (with_reducible refine zok_f ?_ ?_; focus omega)))
    refine zok_s ?_
    refine zok_e b ?_
    refine zok_e m_go0 ?_
    refine zok_f Bool.false_ne_true ?_
    exact zok_s ⟨zRR_0 h, zAn_e 0 rfl rfl⟩
end ZRK
