section ZHT
variable {σ : CS} {m : CV} {s : Int → Int}
noncomputable def zHo (s : Int → Int) (u : Int → Int) (k r j : Int) (p : Int × Int) : Int × Int := if zPl s r j = true ∧ zDf s r j u (s 2) ≤ s 3 then (p.1 + 1, if p.1 = k then 30 * r + j else p.2) else p
theorem zHo_y {u : Int → Int} {k r j : Int} {p : Int × Int} (h : zPl s r j = true ∧ zDf s r j u (s 2) ≤ s 3) : zHo s u k r j p = (p.1 + 1, if p.1 = k then 30 * r + j else p.2) := if_pos h
theorem zHo_n {u : Int → Int} {k r j : Int} {p : Int × Int} (h : ¬ (zPl s r j = true ∧ zDf s r j u (s 2) ≤ s 3)) : zHo s u k r j p = p := if_neg h
noncomputable def zHs (s : Int → Int) (u : Int → Int) (k r : Int) (p : Int × Int) : Int × Int := zFd (zHo s u k r) (zf s r 0).toNat p
/-- the hits of a word in the first n rows, and the one that has number k -/
noncomputable def zHz (s : Int → Int) (u : Int → Int) (k : Int) (n : Nat) : Int × Int := zFd (zHs s u k) n (0, -1)
theorem zHz_s {u : Int → Int} {k r : Int} (h : 0 ≤ r) : zHz s u k (r + 1).toNat = zHs s u k r (zHz s u k r.toNat) := zFd_s h
theorem zHs_p (hW : zWf s) {u : Int → Int} {k r : Int} (h0 : 0 ≤ r) (h1 : r < s 0) {p : Int × Int} : zHs s u k r p = zFd (zHo s u k r) (zf s r 0 - s 2 + 1).toNat p :=
  zFd_pl hW h0 h1 (fun i x hi => zHo_n (fun z => by rw [hi] at z; exact Bool.false_ne_true z.1))
/-- what stands in the model where hit number k is p.2 -/
def zHm (s : Int → Int) (u : Int → Int) (k : Int) (p : Int × Int) (t : CV) : Prop := (p.2 = -1 ∧ ¬ (0 ≤ k ∧ k < p.1)) ∨ ((0 ≤ k ∧ k < p.1) ∧ ∃ r j, p.2 = 30 * r + j ∧ (0 ≤ r ∧ r < s 0) ∧ (0 ≤ j ∧ j < 30) ∧ zPl s r j = true ∧ t.1 27 = r ∧ t.1 28 = j ∧ t.1 29 = zDf s r j u (s 2))
theorem m_hitsOf {k : Int} {u : Int → Int} (hs : m.2 2 = s) (hW : zWf s) (hk : iR k) (hu : ∀ j, 0 ≤ j → j < s 2 → m.2 10 j = u j) (hur : ∀ j, 0 ≤ j → j < s 2 → 0 ≤ u j ∧ u j < 4) : zOk (fX8_hitsOf m k) (fun t => zEx [27, 28, 29] [] m t.1 ∧ t.2 = (zHz s u k (s 0).toNat).1 ∧ (0 ≤ t.2 ∧ t.2 ≤ 300) ∧ zHm s u k (zHz s u k (s 0).toNat) t.1) := by
  unfold fX8_hitsOf
  have w0 := hW.1
  have w1 := hW.2.1
  have w2 := hW.2.2.1
  have w3 := hW.2.2.2.1
  refine zok_F (mk := fun (a : Int × CV) i => (a.1, i, a.2)) (s 0) (fun r a => zEx [27, 28, 29] [] m a.2 ∧ a.1 = (zHz s u k r.toNat).1 ∧ (0 ≤ a.1 ∧ a.1 ≤ 30 * r) ∧ zHm s u k (zHz s u k r.toNat) a.2) (a0 := (0, m)) rfl (by omega) ⟨zEx_0, rfl, ⟨Int.le_refl 0, (show (0 : Int) ≤ 30 * 0 by decide)⟩, Or.inl ⟨rfl, fun z => by have : k < 0 := z.2; omega⟩⟩ (fun r a hr hr2 hI => ?_) (fun r a hr hr2 hr3 hr4 hI => ?_)
  · obtain ⟨c, t⟩ := a
    obtain ⟨hE, hc, hb, hm⟩ := hI
    dsimp only at hE hc hb hm ⊢
    have ts : t.2 2 = s := (hE.2 2 (by decide)).trans hs
    have hrow := hW.row hr hr2
    have hsz := hrow.1
    have hl := hrow.2.2.2.2.1
    rw [ts]
    (repeat (first | (with_reducible refine zok_g ?_ ?_; focus omega) | with_reducible refine zok_j ?_ | (with_reducible refine zok_t ?_ ?_; focus omega) | (with_reducible refine zok_f ?_ ?_; focus omega)))
    have eZ := zHz_s (s := s) (u := u) (k := k) hr
    generalize zHz s u k r.toNat = p0 at hc hm eZ
    refine zok_F (mk := fun (a : Int × CV) i => (a.1, i, a.2)) (zf s r 0) (fun j a => zEx [27, 28, 29] [] m a.2 ∧ a.1 = (zFd (zHo s u k r) j.toNat p0).1 ∧ (0 ≤ a.1 ∧ a.1 ≤ 30 * r + j) ∧ zHm s u k (zFd (zHo s u k r) j.toNat p0) a.2) (a0 := (c, t)) rfl (by omega) ⟨hE, hc, ⟨hb.1, by omega⟩, hm⟩ (fun j a hj hj2 hJ => ?_) (fun j a hj hj2 hj3 hj4 hJ => ?_)
    · obtain ⟨c, t⟩ := a
      obtain ⟨hE, hc, hb, hm⟩ := hJ
      dsimp only at hE hc hb hm ⊢
      have ts : t.2 2 = s := (hE.2 2 (by decide)).trans hs
      refine zok_e (m_of ts (by omega) (by omega)) ?_
      (repeat (first | (with_reducible refine zok_g ?_ ?_; focus omega) | with_reducible refine zok_j ?_ | (with_reducible refine zok_t ?_ ?_; focus omega) | (with_reducible refine zok_f ?_ ?_; focus omega)))
      refine zok_e (m_isPlace ts hW hr hr2 ⟨by omega, by omega⟩) ?_
      have eJ : zFd (zHo s u k r) (j + 1).toNat p0 = zHo s u k r j (zFd (zHo s u k r) j.toNat p0) := zFd_s hj
      generalize zFd (zHo s u k r) j.toNat p0 = p at hc hm eJ
      rw [ts]
      have no : ¬ (zPl s r j = true ∧ zDf s r j u (s 2) ≤ s 3) → ∃ a' : Int × CV, (c, j + 1, t) = (a'.1, j + 1, a'.2) ∧ zEx [27, 28, 29] [] m a'.2 ∧ a'.1 = (zFd (zHo s u k r) (j + 1).toNat p0).1 ∧ (0 ≤ a'.1 ∧ a'.1 ≤ 30 * r + (j + 1)) ∧ zHm s u k (zFd (zHo s u k r) (j + 1).toNat p0) a'.2 := fun z => ⟨(c, t), rfl, hE, by rw [eJ, zHo_n z]; exact hc, ⟨hb.1, by show c ≤ _; omega⟩, by rw [eJ, zHo_n z]; exact hm⟩
      refine zok_j ?_
      rcases zPl_c (s := s) (r := r) (i := j) with ⟨hp, hP⟩ | ⟨hp, hP⟩
      · refine zok_t hp ?_
        refine zok_e (m_differsAt ts (fun i i0 i1 => by rw [hE.2 10 (by decide)]; exact hu i i0 i1) hur (fun i i0 i1 => by have := hl (j + i) (by omega) (by have := hP.2.2.1; omega); omega) hr (by omega) hj (by omega) (by omega) (by have := hP.2.2.1; omega)) ?_
        have hd := zDf_r (s := s) (r := r) (i := j) (u := u) (m := s 2) (by omega)
        (repeat (first | (with_reducible refine zok_g ?_ ?_; focus omega) | with_reducible refine zok_j ?_ | (with_reducible refine zok_t ?_ ?_; focus omega) | (with_reducible refine zok_f ?_ ?_; focus omega)))
        refine zok_i (fun c1 => ?_) (fun c1 => zok_sl (no (fun z => c1 z.2)))
        (repeat (first | (with_reducible refine zok_g ?_ ?_; focus omega) | with_reducible refine zok_j ?_ | (with_reducible refine zok_t ?_ ?_; focus omega) | (with_reducible refine zok_f ?_ ?_; focus omega)))
        have eY := zHo_y (s := s) (u := u) (k := k) (r := r) (j := j) (p := p) ⟨hp, c1⟩
        refine zok_i (fun c2 => zok_sl ⟨(c + 1, _), rfl, zEx_u (zEx_u (zEx_u hE (by decide)) (by decide)) (by decide), by rw [eJ, eY, hc], ⟨by omega, by show c + 1 ≤ _; omega⟩, ?_⟩) (fun c2 => zok_sl ⟨(c + 1, t), rfl, hE, by rw [eJ, eY, hc], ⟨by omega, by show c + 1 ≤ _; omega⟩, ?_⟩)
        · rw [eJ, eY, ← hc, if_pos c2]
          exact Or.inr ⟨⟨by omega, by show k < c + 1; omega⟩, r, j, rfl, ⟨hr, hr2⟩, ⟨hj, by omega⟩, hp, rfl, rfl, rfl⟩
        · rw [eJ, eY, ← hc, if_neg c2]
          rcases hm with ⟨a1, a2⟩ | ⟨a1, a2⟩
          · exact Or.inl ⟨a1, fun z => a2 ⟨z.1, by have : k < c + 1 := z.2; omega⟩⟩
          · exact Or.inr ⟨⟨a1.1, by show k < c + 1; omega⟩, a2⟩
      · refine zok_f (by rw [hp]; decide) ?_
        (repeat (first | (with_reducible refine zok_g ?_ ?_; focus omega) | with_reducible refine zok_j ?_ | (with_reducible refine zok_t ?_ ?_; focus omega) | (with_reducible refine zok_f ?_ ?_; focus omega)))
        exact zok_sl (no (fun z => by rw [hp] at z; exact Bool.false_ne_true z.1))
    · obtain ⟨c, t⟩ := a
      obtain ⟨hE, hc, hb, hm⟩ := hJ
      dsimp only at hE hc hb hm ⊢
      have ts : t.2 2 = s := (hE.2 2 (by decide)).trans hs
      refine zok_e (m_of ts (by omega) (by omega)) ?_
      (repeat (first | (with_reducible refine zok_g ?_ ?_; focus omega) | with_reducible refine zok_j ?_ | (with_reducible refine zok_t ?_ ?_; focus omega) | (with_reducible refine zok_f ?_ ?_; focus omega)))
      have ej := hj3 (by omega)
      subst ej
      have eZ' : zHz s u k (r + 1).toNat = zFd (zHo s u k r) (zf s r 0).toNat p0 := eZ
      exact zok_sr (zok_sl ⟨(c, t), rfl, hE, by rw [eZ']; exact hc, ⟨hb.1, by show c ≤ _; omega⟩, by rw [eZ']; exact hm⟩)
  · obtain ⟨c, t⟩ := a
    obtain ⟨hE, hc, hb, hm⟩ := hI
    dsimp only at hE hc hb hm ⊢
    have ts : t.2 2 = s := (hE.2 2 (by decide)).trans hs
    rw [ts]
    (repeat (first | (with_reducible refine zok_g ?_ ?_; focus omega) | with_reducible refine zok_j ?_ | (with_reducible refine zok_t ?_ ?_; focus omega) | (with_reducible refine zok_f ?_ ?_; focus omega)))
    have er := hr3 (by omega)
    subst er
    exact zok_sr (zok_s ⟨hE, hc, ⟨hb.1, by show c ≤ _; omega⟩, hm⟩)
theorem s_hits (h : zRR σ m) {w : Int} (hw : iR w) : zCp σ [zIO] (fX7_hits σ w) (fX8_hits m w) := by
  have w0 := h.W.1
  have w2 := h.W.2.2.1
  refine zWord_c h hw (fun q0 q1 a b => ?_) (fun a b => ?_)
  · unfold zCp fX7_hits fX8_hits
    refine zok_el a ?_
    refine zok_b (b_codeOf h.W h.B q0 q1) (fun cd hcd => ?_)
    refine zok_w (P := fun t => t = (.inl (zHz (m.2 2) (zDg (m.2 2) w) (-1) (m.2 2 0).toNat).1 : Int ⊕ String)) ?_ (fun t ht => ?_)
    · rw [h.B.2.2.2.1]
      refine zok_F (mk := fun a i => (a, i)) (m.2 2 0) (fun r a => a = (zHz (m.2 2) (zDg (m.2 2) w) (-1) r.toNat).1) rfl (by omega) rfl (fun r a hr hr2 hI => ?_) (fun r a hr hr2 hr3 hr4 hI => ?_)
      · dsimp only
        (repeat (first | (with_reducible refine zok_g ?_ ?_; focus omega) | with_reducible refine zok_j ?_ | (with_reducible refine zok_t ?_ ?_; focus omega) | (with_reducible refine zok_f ?_ ?_; focus omega)))
        have hsz := (h.W.row hr hr2).1
        have eZ := zHz_s (s := m.2 2) (u := zDg (m.2 2) w) (k := -1) hr
        rw [zHs_p h.W hr hr2] at eZ
        generalize zHz (m.2 2) (zDg (m.2 2) w) (-1) r.toNat = p0 at hI eZ
        refine zok_F (mk := fun a i => (a, i)) (zf (m.2 2) r 0 - m.2 2 2 + 1) (fun j a => a = (zFd (zHo (m.2 2) (zDg (m.2 2) w) (-1) r) j.toNat p0).1) rfl (by omega) hI (fun j a hj hj2 hJ => ?_) (fun j a hj hj2 hj3 hj4 hJ => ?_)
        · refine zok_e (b_lastStart h.W h.B hr hr2) ?_
          dsimp only
          (repeat (first | (with_reducible refine zok_g ?_ ?_; focus omega) | with_reducible refine zok_j ?_ | (with_reducible refine zok_t ?_ ?_; focus omega) | (with_reducible refine zok_f ?_ ?_; focus omega)))
          refine zok_e (b_isHit h.W h.B hr hr2 ⟨by omega, by omega⟩ hcd) ?_
          have eJ : zFd (zHo (m.2 2) (zDg (m.2 2) w) (-1) r) (j + 1).toNat p0 = zHo (m.2 2) (zDg (m.2 2) w) (-1) r j (zFd (zHo (m.2 2) (zDg (m.2 2) w) (-1) r) j.toNat p0) := zFd_s hj
          refine zok_i (fun c => zok_sl ⟨_, rfl, ?_⟩) (fun c => zok_sl ⟨_, rfl, ?_⟩)
          · have c' : zPl (m.2 2) r j = true ∧ zDf (m.2 2) r j (zDg (m.2 2) w) (m.2 2 2) ≤ m.2 2 3 := by
              rw [Bool.and_eq_true] at c
              exact ⟨c.1, of_decide_eq_true c.2⟩
            rw [eJ, zHo_y c', hJ]
          · have c' : ¬ (zPl (m.2 2) r j = true ∧ zDf (m.2 2) r j (zDg (m.2 2) w) (m.2 2 2) ≤ m.2 2 3) := fun z => c (by rw [Bool.and_eq_true]; exact ⟨z.1, decide_eq_true z.2⟩)
            rw [eJ, zHo_n c', hJ]
        · refine zok_e (b_lastStart h.W h.B hr hr2) ?_
          dsimp only
          (repeat (first | (with_reducible refine zok_g ?_ ?_; focus omega) | with_reducible refine zok_j ?_ | (with_reducible refine zok_t ?_ ?_; focus omega) | (with_reducible refine zok_f ?_ ?_; focus omega)))
          have ej : (zf (m.2 2) r 0 - m.2 2 2 + 1).toNat = j.toNat := by omega
          exact zok_sr (zok_sl ⟨_, rfl, by rw [eZ, ej]; exact hJ⟩)
      · dsimp only
        (repeat (first | (with_reducible refine zok_g ?_ ?_; focus omega) | with_reducible refine zok_j ?_ | (with_reducible refine zok_t ?_ ?_; focus omega) | (with_reducible refine zok_f ?_ ?_; focus omega)))
        refine zok_sr (zok_s ?_)
        rw [hI, hr3 (by omega)]
    · refine zok_e b ?_
      refine zok_e m_go1 ?_
      refine zok_t rfl ?_
      refine zok_b (m_spells (m := zPu m 0 0) (s := m.2 2) rfl h.W q0 q1) (fun g hg => ?_)
      refine zok_b (m_hitsOf (s := m.2 2) (hg.1.2 2 (by decide)) h.W (by decide) hg.2 (zDgs h)) (fun v hv => ?_)
      have hE : zEx [27, 28, 29] [10] (zPu m 0 0) v.1 := zEx_t (zEx_w hg.1 (by decide) (by decide)) (zEx_w hv.1 (by decide) (by decide))
      have hr := hv.2.2.1
      rw [ht, ← hv.2.1]
      exact zok_s ⟨zRR_x h hE (by decide) (by decide), zAn_v (zCode0 hE (by decide)) rfl ⟨by omega, by omega⟩⟩
  · unfold zCp fX7_hits fX8_hits
    refine zok_er a (zok_s ?_)
    refine zok_e b ?_
    refine zok_e m_go0 ?_
    refine zok_f Bool.false_ne_true ?_
    exact zok_s ⟨zRR_0 h, zAn_e 0 rfl rfl⟩
end ZHT
section ZHU
variable {σ : CS} {m : CV} {s : Int → Int}
theorem zFd_keep {α : Type} {f : Int → α → α} {a : α} (I : α → Prop) {k : Nat} (h : I (zFd f k a)) (hs : ∀ i x, I x → I (f i x)) : ∀ n, k ≤ n → I (zFd f n a) := by
  intro n
  induction n with
  | zero => intro hk; rw [show 0 = k by omega]; exact h
  | succ n ih =>
    intro hk
    by_cases e : k = n + 1
    · rw [← e]; exact h
    · exact hs n _ (ih (by omega))
theorem zHo_keep {u : Int → Int} {k r j f : Int} {p : Int × Int} (h : k < p.1 ∧ p.2 = f) : k < (zHo s u k r j p).1 ∧ (zHo s u k r j p).2 = f := by
  unfold zHo
  split
  · refine ⟨by show k < p.1 + 1; omega, ?_⟩
    show (if p.1 = k then 30 * r + j else p.2) = f
    rw [if_neg (by omega)]
    exact h.2
  · exact h
theorem zHs_keep {u : Int → Int} {k r f : Int} {p : Int × Int} (h : k < p.1 ∧ p.2 = f) : k < (zHs s u k r p).1 ∧ (zHs s u k r p).2 = f :=
  zFd_keep (f := zHo s u k r) (a := p) (fun q => k < q.1 ∧ q.2 = f) (k := 0) h (fun _ _ hx => zHo_keep hx) _ (by omega)
theorem c_hitNumber {V : CV} (hW : zWf s) (hR : zRB V s) {k cd : Int} {u : Int → Int} (hk : iR k) (hcd : zCd cd (s 2) u) : fX0_hitNumber V cd k = some (zHz s u k (s 0).toNat).2 := by
  apply zok_q
  unfold fX0_hitNumber
  have w0 := hW.1
  have w2 := hW.2.2.1
  rw [hR.2.2.2.1]
  refine zok_F (mk := fun a i => (a, i)) (s 0) (fun r a => (zHz s u k r.toNat = (a, -1)) ∧ (0 ≤ a ∧ a ≤ 30 * r)) rfl (by omega) ⟨rfl, ⟨Int.le_refl 0, (show (0 : Int) ≤ 30 * 0 by decide)⟩⟩ (fun r a hr hr2 hI => ?_) (fun r a hr hr2 hr3 hr4 hI => ?_)
  · dsimp only
    (repeat (first | (with_reducible refine zok_g ?_ ?_; focus omega) | with_reducible refine zok_j ?_ | (with_reducible refine zok_t ?_ ?_; focus omega) | (with_reducible refine zok_f ?_ ?_; focus omega)))
    have hsz := (hW.row hr hr2).1
    have eZ := zHz_s (s := s) (u := u) (k := k) hr
    rw [zHs_p hW hr hr2, hI.1] at eZ
    refine zok_F (mk := fun a i => (a, i)) (zf s r 0 - s 2 + 1) (fun j b => zFd (zHo s u k r) j.toNat (a, -1) = (b, -1) ∧ (0 ≤ b ∧ b ≤ 30 * r + j)) rfl (by omega) ⟨rfl, ⟨hI.2.1, by omega⟩⟩ (fun j b hj hj2 hJ => ?_) (fun j b hj hj2 hj3 hj4 hJ => ?_)
    · refine zok_e (b_lastStart hW hR hr hr2) ?_
      dsimp only
      (repeat (first | (with_reducible refine zok_g ?_ ?_; focus omega) | with_reducible refine zok_j ?_ | (with_reducible refine zok_t ?_ ?_; focus omega) | (with_reducible refine zok_f ?_ ?_; focus omega)))
      refine zok_e (b_isHit hW hR hr hr2 ⟨by omega, by omega⟩ hcd) ?_
      have eJ : zFd (zHo s u k r) (j + 1).toNat (a, -1) = zHo s u k r j (zFd (zHo s u k r) j.toNat (a, -1)) := zFd_s hj
      rw [hJ.1] at eJ
      refine zok_i (fun c => ?_) (fun c => zok_sl ⟨_, rfl, ?_, ⟨hJ.2.1, by omega⟩⟩)
      · have c' : zPl s r j = true ∧ zDf s r j u (s 2) ≤ s 3 := by
          rw [Bool.and_eq_true] at c
          exact ⟨c.1, of_decide_eq_true c.2⟩
        rw [zHo_y c'] at eJ
        (repeat (first | (with_reducible refine zok_g ?_ ?_; focus omega) | with_reducible refine zok_j ?_ | (with_reducible refine zok_t ?_ ?_; focus omega) | (with_reducible refine zok_f ?_ ?_; focus omega)))
        refine zok_i (fun e => ?_) (fun e => zok_sl ⟨_, rfl, ?_, ⟨by omega, by omega⟩⟩)
        · rw [if_pos (show (b, (-1 : Int)).1 = k from e)] at eJ
          have k1 := zFd_keep (f := zHo s u k r) (a := (a, -1)) (fun q => k < q.1 ∧ q.2 = 30 * r + j) (k := (j + 1).toNat) (by rw [eJ]; exact ⟨by show k < b + 1; omega, rfl⟩) (fun _ _ hx => zHo_keep hx) (zf s r 0 - s 2 + 1).toNat (by omega)
          rw [← eZ] at k1
          have k2 := zFd_keep (f := zHs s u k) (a := (0, -1)) (fun q => k < q.1 ∧ q.2 = 30 * r + j) (k := (r + 1).toNat) k1 (fun _ _ hx => zHs_keep hx) (s 0).toNat (by omega)
          exact zok_sr (zok_sr (zok_s k2.2.symm))
        · rw [if_neg (show ¬ (b, (-1 : Int)).1 = k from e)] at eJ
          exact eJ
      · have c' : ¬ (zPl s r j = true ∧ zDf s r j u (s 2) ≤ s 3) := fun z => c (by rw [Bool.and_eq_true]; exact ⟨z.1, decide_eq_true z.2⟩)
        rw [zHo_n c'] at eJ
        exact eJ
    · refine zok_e (b_lastStart hW hR hr hr2) ?_
      dsimp only
      (repeat (first | (with_reducible refine zok_g ?_ ?_; focus omega) | with_reducible refine zok_j ?_ | (with_reducible refine zok_t ?_ ?_; focus omega) | (with_reducible refine zok_f ?_ ?_; focus omega)))
      have ej : (zf s r 0 - s 2 + 1).toNat = j.toNat := by omega
      exact zok_sr (zok_sl ⟨_, rfl, by rw [eZ, ej]; exact hJ.1, ⟨hJ.2.1, by omega⟩⟩)
  · dsimp only
    (repeat (first | (with_reducible refine zok_g ?_ ?_; focus omega) | with_reducible refine zok_j ?_ | (with_reducible refine zok_t ?_ ?_; focus omega) | (with_reducible refine zok_f ?_ ?_; focus omega)))
    refine zok_sr (zok_s ?_)
    rw [← hr3 (by omega), hI.1]
theorem s_hit (h : zRR σ m) {w k x : Int} (hw : iR w) (hk : iR k) (hx : iR x) : zCp σ [zIO, zIA] (fX7_hit σ w k x) (fX8_hit m w k x) := by
  have w0 := h.W.1
  have w2 := h.W.2.2.1
  have hin := m_isIn (a := x) (lo := 0) (hi := 2) ⟨by omega, by omega⟩ (by decide) (by decide)
  refine zWord_c h hw (fun q0 q1 a b => ?_) (fun a b => ?_)
  · unfold zCp fX7_hit fX8_hit
    refine zok_el a ?_
    refine zok_b (b_codeOf h.W h.B q0 q1) (fun cd hcd => ?_)
    refine zok_e (c_hitNumber h.W h.B hk hcd) ?_
    obtain ⟨g, eg, hg⟩ := m_spells (m := m) (s := m.2 2) rfl h.W q0 q1
    obtain ⟨v, ev, hE2, hc, hr, hm⟩ := m_hitsOf (s := m.2 2) (hg.1.2 2 (by decide)) h.W hk hg.2 (zDgs h)
    have hE : zEx [27, 28, 29] [10] m v.1 := zEx_t (zEx_w hg.1 (by decide) (by decide)) (zEx_w hE2 (by decide) (by decide))
    have hR := zRR_m h hE (by decide) (by decide)
    have hkn := m_isIn (a := k) (lo := 0) (hi := v.2 - 1) ⟨by omega, by omega⟩ (by decide) ⟨by omega, by omega⟩
    generalize zHz (m.2 2) (zDg (m.2 2) w) k (m.2 2 0).toNat = p at hc hm
    rcases hm with ⟨e, n⟩ | ⟨n, r, j, e, r0, j0, hp, t1, t2, t3⟩
    · rw [e]
      refine zok_g (by decide) ?_
      refine zok_t rfl (zok_s ?_)
      refine zok_e b ?_
      refine zok_j ?_
      refine zok_t rfl ?_
      refine zok_e eg ?_
      refine zok_e ev ?_
      rw [decide_eq_false (by omega)] at hkn
      dsimp only
      (repeat (first | (with_reducible refine zok_g ?_ ?_; focus omega) | with_reducible refine zok_j ?_ | (with_reducible refine zok_t ?_ ?_; focus omega) | (with_reducible refine zok_f ?_ ?_; focus omega)))
      refine zok_e hkn ?_
      (repeat (first | (with_reducible refine zok_g ?_ ?_; focus omega) | with_reducible refine zok_j ?_ | (with_reducible refine zok_t ?_ ?_; focus omega) | (with_reducible refine zok_f ?_ ?_; focus omega)))
      refine zok_e hin ?_
      refine zok_e (m_goesBoth false _) ?_
      refine zok_f Bool.false_ne_true ?_
      exact zok_s ⟨zRR_0 hR, zAn_e 0 rfl rfl⟩
    · have mod : ∀ t : Int ⊕ String, (∀ M : CV, zRR σ M → M.1 0 = (if decide (0 ≤ x ∧ x ≤ 2) = false then 2 else 0) → (0 ≤ x ∧ x ≤ 2 → zAn [zIO, zIA] t 0 (if x = 0 then r else if x = 1 then j else zDf (m.2 2) r j (zDg (m.2 2) w) (m.2 2 2))) ∧ (¬ (0 ≤ x ∧ x ≤ 2) → t = .inr zIA)) → zOk (fX8_hit m w k x) (fun u => zRR σ u.1 ∧ zAn [zIO, zIA] t (u.1.1 0) u.2) := by
        intro t ht
        unfold fX8_hit
        refine zok_e b ?_
        refine zok_j ?_
        refine zok_t rfl ?_
        refine zok_e eg ?_
        refine zok_e ev ?_
        rw [decide_eq_true (by omega)] at hkn
        dsimp only
        (repeat (first | (with_reducible refine zok_g ?_ ?_; focus omega) | with_reducible refine zok_j ?_ | (with_reducible refine zok_t ?_ ?_; focus omega) | (with_reducible refine zok_f ?_ ?_; focus omega)))
        refine zok_e hkn ?_
        (repeat (first | (with_reducible refine zok_g ?_ ?_; focus omega) | with_reducible refine zok_j ?_ | (with_reducible refine zok_t ?_ ?_; focus omega) | (with_reducible refine zok_f ?_ ?_; focus omega)))
        refine zok_e hin ?_
        by_cases cx : 0 ≤ x ∧ x ≤ 2
        · rw [decide_eq_true cx]
          have ha := (ht (zPu m 0 0) (zRR_0 h) (by rw [decide_eq_true cx]; rfl)).1 cx
          refine zok_e (m_goesBoth true true) ?_
          refine zok_t rfl ?_
          have f0 : (zPu v.1 0 0).1 27 = r := t1
          have f1 : (zPu v.1 0 0).1 28 = j := t2
          have f2 : (zPu v.1 0 0).1 29 = zDf (m.2 2) r j (zDg (m.2 2) w) (m.2 2 2) := t3
          by_cases x0 : x = 0
          · refine zok_t x0 (zok_s ⟨zRR_0 hR, ?_⟩)
            rw [if_pos x0] at ha
            show zAn _ t 0 (v.1.1 27)
            rw [t1]
            exact ha
          · refine zok_f x0 ?_
            rw [if_neg x0] at ha
            by_cases x1 : x = 1
            · refine zok_t x1 (zok_s ⟨zRR_0 hR, ?_⟩)
              rw [if_pos x1] at ha
              show zAn _ t 0 (v.1.1 28)
              rw [t2]
              exact ha
            · refine zok_f x1 (zok_s ⟨zRR_0 hR, ?_⟩)
              rw [if_neg x1] at ha
              show zAn _ t 0 (v.1.1 29)
              rw [t3]
              exact ha
        · rw [decide_eq_false cx]
          have ha := (ht (zPu m 0 2) (zRR_0 h) (by rw [decide_eq_false cx]; rfl)).2 cx
          refine zok_e (m_goesBoth true false) ?_
          refine zok_f Bool.false_ne_true ?_
          rw [ha]
          exact zok_s ⟨zRR_0 hR, zAn_e 1 rfl rfl⟩
      unfold fX8_hit at mod
      have d30 : p.2 / 30 = r := by omega
      have m30 : p.2 % 30 = j := by omega
      refine zok_g ⟨by omega, by omega⟩ ?_
      refine zok_f (by omega) ?_
      refine zok_g ⟨by omega, by omega⟩ ?_
      refine zok_g hx ?_
      rw [d30, m30]
      have hP := zPl_t.mp hp
      have hdf := zDf_r (s := m.2 2) (r := r) (i := j) (u := zDg (m.2 2) w) (m := m.2 2 2) (by omega)
      have hsz := (h.W.row r0.1 r0.2)
      by_cases x0 : x = 0
      · refine zok_t x0 (zok_s (mod _ (fun M _ _ => ⟨fun _ => ?_, fun z => by omega⟩)))
        rw [if_pos x0]
        exact zAn_v rfl rfl ⟨by omega, by omega⟩
      · refine zok_f x0 ?_
        by_cases x1 : x = 1
        · refine zok_t x1 (zok_s (mod _ (fun M _ _ => ⟨fun _ => ?_, fun z => by omega⟩)))
          rw [if_neg x0, if_pos x1]
          exact zAn_v rfl rfl ⟨by omega, by omega⟩
        · refine zok_f x1 ?_
          by_cases x2 : x = 2
          · refine zok_t x2 ?_
            refine zok_b (b_codeAt h.W h.B r0.1 r0.2 hP.2.1 hP.2.2.1) (fun ce hce => ?_)
            have dn : fX0_differing ce cd ((σ 4).1 1) = some (zDf (m.2 2) r j (zDg (m.2 2) w) (m.2 2 2)) := by
              rw [h.B.2.1]
              exact b_differing hce.1 hcd.1 (by omega) (by omega) hce.2.2 hcd.2.2
            refine zok_e dn (zok_s (mod _ (fun M _ _ => ⟨fun _ => ?_, fun z => by omega⟩)))
            rw [if_neg x0, if_neg x1]
            exact zAn_v rfl rfl ⟨by omega, by omega⟩
          · refine zok_f x2 (zok_s (mod _ (fun M _ _ => ⟨fun z => by omega, fun _ => rfl⟩)))
  · unfold zCp fX7_hit fX8_hit
    refine zok_er a (zok_s ?_)
    refine zok_e b ?_
    refine zok_j ?_
    refine zok_f Bool.false_ne_true ?_
    have hkn := m_isIn (a := k) (lo := 0) (hi := -1) ⟨by omega, by omega⟩ (by decide) (by decide)
    rw [decide_eq_false (by omega)] at hkn
    dsimp only
    (repeat (first | (with_reducible refine zok_g ?_ ?_; focus omega) | with_reducible refine zok_j ?_ | (with_reducible refine zok_t ?_ ?_; focus omega) | (with_reducible refine zok_f ?_ ?_; focus omega)))
    refine zok_e hkn ?_
    (repeat (first | (with_reducible refine zok_g ?_ ?_; focus omega) | with_reducible refine zok_j ?_ | (with_reducible refine zok_t ?_ ?_; focus omega) | (with_reducible refine zok_f ?_ ?_; focus omega)))
    refine zok_e hin ?_
    refine zok_e (m_goesBoth false _) ?_
    refine zok_f Bool.false_ne_true ?_
    exact zok_s ⟨zRR_0 h, zAn_e 0 rfl rfl⟩
end ZHU
