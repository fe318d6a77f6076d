section ZCA
variable {σ : CS} {m : CV}
theorem zok_el {α β γ : Type} {Q : γ → Prop} {o : Option (α ⊕ β)} {k1 : α → Option γ} {k2 : β → Option γ} {v : α} (h : o = some (.inl v)) (h2 : zOk (k1 v) Q) : zOk (o.bind fun t => Sum.elim k1 k2 t) Q := by rw [h]; exact h2
theorem zok_er {α β γ : Type} {Q : γ → Prop} {o : Option (α ⊕ β)} {k1 : α → Option γ} {k2 : β → Option γ} {v : β} (h : o = some (.inr v)) (h2 : zOk (k2 v) Q) : zOk (o.bind fun t => Sum.elim k1 k2 t) Q := by rw [h]; exact h2
theorem m_go1 : fX8_goes m 1 = some (zPu m 0 0, true) := m_goes true
theorem m_go0 : fX8_goes m 0 = some (zPu m 0 1, false) := m_goes false
theorem m_gob {p : Bool} : fX8_goes m (b2 p) = some (zPu m 0 (if p = true then 0 else 1), p) := m_goes p
theorem zDgs (h : zRR σ m) {w : Int} : ∀ j, 0 ≤ j → j < m.2 2 2 → 0 ≤ zDg (m.2 2) w j ∧ zDg (m.2 2) w j < 4 := fun j _ _ => zDg_4 h.W j
theorem zRR_x {t : CV} {ns js : List Nat} (h : zRR σ m) (e : zEx ns js (zPu m 0 0) t) (h1 : ∀ k ∈ zKn, k ∉ ns) (h2 : ∀ k ∈ zKa, k ∉ js) : zRR σ t := zRR_m (zRR_0 (x := 0) h) e h1 h2
theorem zCode0 {t : CV} {ns js : List Nat} (e : zEx ns js (zPu m 0 0) t) (h : 0 ∉ ns) : t.1 0 = 0 := e.1 0 h
theorem s_score (h : zRR σ m) {w : Int} (hr : iR w) : zCp σ [zIO] (fX7_score σ w) (fX8_score m w) := by
  have w2 := h.W.2.2.1
  have w4 := h.W.2.2.2.2.1
  refine zWord_c h hr (fun w0 w1 a b => ?_) (fun a b => ?_)
  · unfold zCp fX7_score fX8_score
    refine zok_el a ?_
    refine zok_b (b_codeOf h.W h.B w0 w1) (fun cd hcd => ?_)
    refine zok_e (by rw [h.B.2.1]; exact b_boundOf h.W h.B (m := m.2 2 2) (by omega) (Int.le_refl _) hcd.1 hcd.2.2) (zok_s ?_)
    refine zok_e b ?_
    refine zok_e m_go1 ?_
    refine zok_t rfl ?_
    refine zok_b (m_scoreOf (m := zPu m 0 0) (s := m.2 2) rfl h.W w0 w1) (fun t ht => zok_s ⟨zRR_x h ht.1.1 (by decide) (by decide), zAn_v (zCode0 ht.1.1 (by decide)) ht.2.symm ?_⟩)
    have := zBd_r h.W (u := zDg (m.2 2) w) (m := m.2 2 2) (by omega) (Int.le_refl _)
    exact ⟨by omega, by omega⟩
  · unfold zCp fX7_score fX8_score
    refine zok_er a (zok_s ?_)
    refine zok_e b ?_
    refine zok_e m_go0 ?_
    refine zok_f Bool.false_ne_true ?_
    exact zok_s ⟨zRR_0 h, zAn_e 0 rfl rfl⟩
theorem s_having (h : zRR σ m) {w : Int} (hr : iR w) : zCp σ [zIO] (fX7_having σ w) (fX8_having m w) := by
  have w2 := h.W.2.2.1
  have w4 := h.W.2.2.2.2.1
  refine zWord_c h hr (fun w0 w1 a b => ?_) (fun a b => ?_)
  · unfold zCp fX7_having fX8_having
    refine zok_el a ?_
    refine zok_b (b_codeOf h.W h.B w0 w1) (fun cd hcd => ?_)
    refine zok_e (b_rowsHaving h.W h.B hcd) (zok_s ?_)
    refine zok_e b ?_
    refine zok_e m_go1 ?_
    refine zok_t rfl ?_
    refine zok_b (m_spells (m := zPu m 0 0) (s := m.2 2) rfl h.W w0 w1) (fun t ht => ?_)
    have ht2 : t.2 2 = m.2 2 := ht.1.2 2 (by decide)
    refine zok_e (m_haves ht2 h.W ht.2 (zDgs h)) (zok_s ⟨zRR_x h ht.1 (by decide) (by decide), zAn_v (zCode0 ht.1 (by decide)) rfl ?_⟩)
    have := zHv_1024 h.W (u := zDg (m.2 2) w)
    exact ⟨by omega, by omega⟩
  · unfold zCp fX7_having fX8_having
    refine zok_er a (zok_s ?_)
    refine zok_e b ?_
    refine zok_e m_go0 ?_
    refine zok_f Bool.false_ne_true ?_
    exact zok_s ⟨zRR_0 h, zAn_e 0 rfl rfl⟩
theorem s_whyNotTake (h : zRR σ m) {w : Int} (hr : iR w) : zCp σ [zIO] (fX7_whyNotTake σ w) (fX8_whyNotTake m w) := by
  have w2 := h.W.2.2.1
  have w4 := h.W.2.2.2.2.1
  refine zWord_c h hr (fun w0 w1 a b => ?_) (fun a b => ?_)
  · unfold zCp fX7_whyNotTake fX8_whyNotTake
    refine zok_el a ?_
    refine zok_e (b_reasonAgainst h.W h.B w0 w1) (zok_s ?_)
    refine zok_e b ?_
    refine zok_e m_go1 ?_
    refine zok_t rfl ?_
    refine zok_b (m_whyTake (m := zPu m 0 0) (s := m.2 2) rfl h.W w0 w1) (fun t ht => zok_s ⟨zRR_x h ht.1 (by decide) (by decide), zAn_v (zCode0 ht.1 (by decide)) ht.2.symm ?_⟩)
    unfold zWy
    split
    · decide
    · split <;> decide
  · unfold zCp fX7_whyNotTake fX8_whyNotTake
    refine zok_er a (zok_s ?_)
    refine zok_e b ?_
    refine zok_e m_go0 ?_
    refine zok_f Bool.false_ne_true ?_
    exact zok_s ⟨zRR_0 h, zAn_e 0 rfl rfl⟩
theorem s_wordAt (h : zRR σ m) {r i : Int} (hr : iR r) (hi : iR i) : zCp σ [zIO] (fX7_wordAt σ r i) (fX8_wordAt m r i) := by
  have w0 := h.W.1
  have w1 := h.W.2.1
  have w2 := h.W.2.2.1
  refine zRow_c h hr (fun r0 r1 a b => ?_) (fun a b => ?_)
  · unfold zCp fX7_wordAt fX8_wordAt
    have hrow := h.W.row r0 r1
    have hsz0 := hrow.1
    refine zok_el a ?_
    refine zok_e (b_isPlace h.W h.B r0 r1 hi) ?_
    rcases zPl_c (s := m.2 2) (r := r) (i := i) with ⟨hp, hP⟩ | ⟨hp, hP⟩
    · refine zok_t hp ?_
      refine zok_b (b_codeAt h.W h.B r0 r1 hP.2.1 hP.2.2.1) (fun cd hcd => ?_)
      refine zok_e (b_wordOf h.W h.B hcd) (zok_s ?_)
      refine zok_e b ?_
      refine zok_e m_go1 ?_
      refine zok_t rfl ?_
      refine zok_e (m_isPlace (m := zPu m 0 0) (s := m.2 2) rfl h.W r0 r1 hi) ?_
      refine zok_t hp ?_
      refine zok_e (m_wordThere (m := zPu m 0 0) (s := m.2 2) rfl h.W r0 r1 hP.2.1 hP.2.2.1) (zok_s ⟨zRR_0 h, zAn_v rfl rfl ?_⟩)
      have hl := hrow.2.2.2.2.1
      have hb := zNb_r h.W (u := fun j => zl (m.2 2) r (i + j)) (m.2 2 2).toNat (fun j _ j1 => hl (i + (j : Int)) (by have := hP.2.1; omega) (by have := hP.2.2.1; omega))
      rw [show (((m.2 2 2).toNat : Nat) : Int) = m.2 2 2 by omega] at hb
      have hw := zWords_r h.W
      have hpw : zPw (m.2 2 1) (m.2 2 2) = zWords (m.2 2) := rfl
      exact ⟨by omega, by omega⟩
    · refine zok_f (by rw [hp]; decide) (zok_s ?_)
      refine zok_e b ?_
      refine zok_e m_go1 ?_
      refine zok_t rfl ?_
      refine zok_e (m_isPlace (m := zPu m 0 0) (s := m.2 2) rfl h.W r0 r1 hi) ?_
      refine zok_f (by rw [hp]; decide) (zok_s ⟨zRR_0 h, zAn_v rfl rfl (by decide)⟩)

  · unfold zCp fX7_wordAt fX8_wordAt
    refine zok_er a (zok_s ?_)
    refine zok_e b ?_

    refine zok_e m_go0 ?_
    refine zok_f Bool.false_ne_true ?_
    exact zok_s ⟨zRR_0 h, zAn_e 0 rfl rfl⟩
theorem s_letter (h : zRR σ m) {r i : Int} (hr : iR r) (hi : iR i) : zCp σ [zIO] (fX7_letter σ r i) (fX8_letter m r i) := by
  have w0 := h.W.1
  have w1 := h.W.2.1
  have w2 := h.W.2.2.1
  refine zRow_c h hr (fun r0 r1 a b => ?_) (fun a b => ?_)
  · unfold zCp fX7_letter fX8_letter
    have hrow := h.W.row r0 r1
    have hsz0 := hrow.1
    refine zok_el a ?_
    have hsz : (σ 4).2 3 r = zf (m.2 2) r 0 := (h.B.row r0 r1).1
    rw [hsz]
    by_cases c : 0 ≤ i ∧ i < zf (m.2 2) r 0
    · (repeat (first | (with_reducible refine zok_g ?_ ?_; focus omega) | with_reducible refine zok_j ?_ | (with_reducible refine zok_t ?_ ?_; focus omega) | (with_reducible refine zok_f ?_ ?_; focus omega)))
      refine zok_e (b_letterAt h.W h.B r0 r1 c.1 c.2) (zok_s ?_)
      refine zok_e b ?_
      (repeat (first | (with_reducible refine zok_g ?_ ?_; focus omega) | with_reducible refine zok_j ?_ | (with_reducible refine zok_t ?_ ?_; focus omega) | (with_reducible refine zok_f ?_ ?_; focus omega)))
      refine zok_t rfl ?_
      (repeat (first | (with_reducible refine zok_g ?_ ?_; focus omega) | with_reducible refine zok_j ?_ | (with_reducible refine zok_t ?_ ?_; focus omega) | (with_reducible refine zok_f ?_ ?_; focus omega)))
      refine zok_e (m_of rfl (by omega) (by omega)) ?_
      (repeat (first | (with_reducible refine zok_g ?_ ?_; focus omega) | with_reducible refine zok_j ?_ | (with_reducible refine zok_t ?_ ?_; focus omega) | (with_reducible refine zok_f ?_ ?_; focus omega)))
      refine zok_e (m_isIn ⟨by omega, by omega⟩ (by decide) ⟨by omega, by omega⟩) ?_
      refine zok_t (decide_eq_true (by omega)) ?_
      refine zok_e m_go1 ?_
      refine zok_t rfl ?_
      have hl := hrow.2.2.2.2.1 i c.1 c.2
      refine zok_e (m_letterAt (m := zPu m 0 0) (s := m.2 2) rfl (by omega) (by omega)) (zok_s ⟨zRR_0 h, zAn_v rfl rfl ⟨by omega, by omega⟩⟩)
    · have e : zOk (some (Sum.inr zIO : Int ⊕ String)) (fun t => zOk (fX8_letter m r i) (fun u => zRR σ u.1 ∧ zAn [zIO] t (u.1.1 0) u.2)) := by
        refine zok_s ?_
        unfold fX8_letter
        refine zok_e b ?_
        (repeat (first | (with_reducible refine zok_g ?_ ?_; focus omega) | with_reducible refine zok_j ?_ | (with_reducible refine zok_t ?_ ?_; focus omega) | (with_reducible refine zok_f ?_ ?_; focus omega)))
        refine zok_t rfl ?_
        (repeat (first | (with_reducible refine zok_g ?_ ?_; focus omega) | with_reducible refine zok_j ?_ | (with_reducible refine zok_t ?_ ?_; focus omega) | (with_reducible refine zok_f ?_ ?_; focus omega)))
        refine zok_e (m_of rfl (by omega) (by omega)) ?_
        (repeat (first | (with_reducible refine zok_g ?_ ?_; focus omega) | with_reducible refine zok_j ?_ | (with_reducible refine zok_t ?_ ?_; focus omega) | (with_reducible refine zok_f ?_ ?_; focus omega)))
        refine zok_e (m_isIn ⟨by omega, by omega⟩ (by decide) ⟨by omega, by omega⟩) ?_
        refine zok_f (fun z => c (by have := of_decide_eq_true z; omega)) ?_
        refine zok_e m_go0 ?_
        refine zok_f Bool.false_ne_true ?_
        exact zok_s ⟨zRR_0 h, zAn_e 0 rfl rfl⟩
      by_cases c1 : i < 0
      · (repeat (first | (with_reducible refine zok_g ?_ ?_; focus omega) | with_reducible refine zok_j ?_ | (with_reducible refine zok_t ?_ ?_; focus omega) | (with_reducible refine zok_f ?_ ?_; focus omega)))
        exact e
      · (repeat (first | (with_reducible refine zok_g ?_ ?_; focus omega) | with_reducible refine zok_j ?_ | (with_reducible refine zok_t ?_ ?_; focus omega) | (with_reducible refine zok_f ?_ ?_; focus omega)))
        exact e

  · unfold zCp fX7_letter fX8_letter
    refine zok_er a (zok_s ?_)
    refine zok_e b ?_
    (repeat (first | (with_reducible refine zok_g ?_ ?_; focus omega) | with_reducible refine zok_j ?_ | (with_reducible refine zok_t ?_ ?_; focus omega) | (with_reducible refine zok_f ?_ ?_; focus omega)))
    refine zok_f Bool.false_ne_true ?_
    refine zok_e m_go0 ?_
    refine zok_f Bool.false_ne_true ?_
    exact zok_s ⟨zRR_0 h, zAn_e 0 rfl rfl⟩
theorem s_closest (h : zRR σ m) {r w : Int} (hr : iR r) (hw : iR w) : zCp σ [zIO] (fX7_closest σ r w) (fX8_closest m r w) := by
  have w0 := h.W.1
  have w1 := h.W.2.1
  have w2 := h.W.2.2.1
  refine zRow_c h hr (fun r0 r1 a b => ?_) (fun a b => ?_)
  · unfold zCp fX7_closest fX8_closest
    have hrow := h.W.row r0 r1
    have hsz0 := hrow.1
    refine zok_el a ?_
    refine zWord_c h hw (fun q0 q1 a2 c2 => ?_) (fun a2 c2 => ?_)
    · refine zok_el a2 ?_
      refine zok_b (b_codeOf h.W h.B q0 q1) (fun cd hcd => ?_)
      refine zok_e (b_nearestStart h.W h.B r0 r1 hcd) (zok_s ?_)
      refine zok_e b ?_
      (repeat (first | (with_reducible refine zok_g ?_ ?_; focus omega) | with_reducible refine zok_j ?_ | (with_reducible refine zok_t ?_ ?_; focus omega) | (with_reducible refine zok_f ?_ ?_; focus omega)))
      refine zok_t rfl ?_
      refine zok_e c2 ?_
      refine zok_t rfl ?_
      refine zok_e m_go1 ?_
      refine zok_t rfl ?_
      refine zok_b (m_spells (m := zPu m 0 0) (s := m.2 2) rfl h.W q0 q1) (fun t ht => ?_)
      have ht2 : t.2 2 = m.2 2 := ht.1.2 2 (by decide)
      refine zok_e (m_nearest ht2 h.W r0 r1 ht.2 (zDgs h)) (zok_s ⟨zRR_x h ht.1 (by decide) (by decide), zAn_v (zCode0 ht.1 (by decide)) rfl ?_⟩)
      have hi := zNs_i h.W (r := r) (u := zDg (m.2 2) w) (zf (m.2 2) r 0).toNat
      have e : zNs (m.2 2) r (zDg (m.2 2) w) = (zFd (zNsf (m.2 2) r (zDg (m.2 2) w)) (zf (m.2 2) r 0).toNat (-1, 0)).1 := rfl
      rw [← e] at hi
      exact ⟨by omega, by omega⟩
    · refine zok_er a2 (zok_s ?_)
      refine zok_e b ?_
      (repeat (first | (with_reducible refine zok_g ?_ ?_; focus omega) | with_reducible refine zok_j ?_ | (with_reducible refine zok_t ?_ ?_; focus omega) | (with_reducible refine zok_f ?_ ?_; focus omega)))
      refine zok_t rfl ?_
      refine zok_e c2 ?_
      refine zok_f Bool.false_ne_true ?_
      refine zok_e m_go0 ?_
      refine zok_f Bool.false_ne_true ?_
      exact zok_s ⟨zRR_0 h, zAn_e 0 rfl rfl⟩
  · unfold zCp fX7_closest fX8_closest
    refine zok_er a (zok_s ?_)
    refine zok_e b ?_
    (repeat (first | (with_reducible refine zok_g ?_ ?_; focus omega) | with_reducible refine zok_j ?_ | (with_reducible refine zok_t ?_ ?_; focus omega) | (with_reducible refine zok_f ?_ ?_; focus omega)))
    refine zok_f Bool.false_ne_true ?_
    refine zok_e m_go0 ?_
    refine zok_f Bool.false_ne_true ?_
    exact zok_s ⟨zRR_0 h, zAn_e 0 rfl rfl⟩
theorem s_distance (h : zRR σ m) {r w : Int} (hr : iR r) (hw : iR w) : zCp σ [zIO] (fX7_distance σ r w) (fX8_distance m r w) := by
  have w0 := h.W.1
  have w1 := h.W.2.1
  have w2 := h.W.2.2.1
  refine zRow_c h hr (fun r0 r1 a b => ?_) (fun a b => ?_)
  · unfold zCp fX7_distance fX8_distance
    have hrow := h.W.row r0 r1
    have hsz0 := hrow.1
    refine zok_el a ?_
    refine zWord_c h hw (fun q0 q1 a2 c2 => ?_) (fun a2 c2 => ?_)
    · refine zok_el a2 ?_
      refine zok_e (b_isOut h.W h.B r0 r1) ?_
      refine zok_i (fun co => zok_s ?_) (fun co => ?_)
      · refine zok_e b ?_
        (repeat (first | (with_reducible refine zok_g ?_ ?_; focus omega) | with_reducible refine zok_j ?_ | (with_reducible refine zok_t ?_ ?_; focus omega) | (with_reducible refine zok_f ?_ ?_; focus omega)))
        refine zok_t rfl ?_
        refine zok_e c2 ?_
        refine zok_t rfl ?_
        refine zok_e m_go1 ?_
        refine zok_t rfl ?_
        refine zok_b (m_spells (m := zPu m 0 0) (s := m.2 2) rfl h.W q0 q1) (fun t ht => ?_)
        have ht2 : t.2 2 = m.2 2 := ht.1.2 2 (by decide)
        refine zok_e (m_isOut ht2 h.W r0 r1) ?_
        exact zok_t co (zok_s ⟨zRR_x h ht.1 (by decide) (by decide), zAn_v (zCode0 ht.1 (by decide)) rfl (by decide)⟩)
      · refine zok_b (b_codeOf h.W h.B q0 q1) (fun cd hcd => ?_)
        refine zok_e (by rw [h.B.2.1]; exact b_nearest h.W h.B r0 r1 (m := m.2 2 2) (by omega) (Int.le_refl _) hcd.1 hcd.2.2) (zok_s ?_)
        refine zok_e b ?_
        (repeat (first | (with_reducible refine zok_g ?_ ?_; focus omega) | with_reducible refine zok_j ?_ | (with_reducible refine zok_t ?_ ?_; focus omega) | (with_reducible refine zok_f ?_ ?_; focus omega)))
        refine zok_t rfl ?_
        refine zok_e c2 ?_
        refine zok_t rfl ?_
        refine zok_e m_go1 ?_
        refine zok_t rfl ?_
        refine zok_b (m_spells (m := zPu m 0 0) (s := m.2 2) rfl h.W q0 q1) (fun t ht => ?_)
        have ht2 : t.2 2 = m.2 2 := ht.1.2 2 (by decide)
        refine zok_e (m_isOut ht2 h.W r0 r1) ?_
        refine zok_f co ?_
        rw [ht2]
        refine zok_e (m_least ht2 h.W r0 r1 (by omega) (Int.le_refl _) ht.2 (zDgs h)) (zok_s ⟨zRR_x h ht.1 (by decide) (by decide), zAn_v (zCode0 ht.1 (by decide)) rfl ?_⟩)
        have := zNr_r (s := m.2 2) (r := r) (u := zDg (m.2 2) w) (m := m.2 2 2) (by omega)
        exact ⟨by omega, by omega⟩
    · refine zok_er a2 (zok_s ?_)
      refine zok_e b ?_
      (repeat (first | (with_reducible refine zok_g ?_ ?_; focus omega) | with_reducible refine zok_j ?_ | (with_reducible refine zok_t ?_ ?_; focus omega) | (with_reducible refine zok_f ?_ ?_; focus omega)))
      refine zok_t rfl ?_
      refine zok_e c2 ?_
      refine zok_f Bool.false_ne_true ?_
      refine zok_e m_go0 ?_
      refine zok_f Bool.false_ne_true ?_
      exact zok_s ⟨zRR_0 h, zAn_e 0 rfl rfl⟩
  · unfold zCp fX7_distance fX8_distance
    refine zok_er a (zok_s ?_)
    refine zok_e b ?_
    (repeat (first | (with_reducible refine zok_g ?_ ?_; focus omega) | with_reducible refine zok_j ?_ | (with_reducible refine zok_t ?_ ?_; focus omega) | (with_reducible refine zok_f ?_ ?_; focus omega)))
    refine zok_f Bool.false_ne_true ?_
    refine zok_e m_go0 ?_
    refine zok_f Bool.false_ne_true ?_
    exact zok_s ⟨zRR_0 h, zAn_e 0 rfl rfl⟩
theorem s_errorCode (h : zRR σ m) : zOk (fX7_errorCode σ) (fun v => zOk (fX8_errorCode m) (fun u => zRR σ u.1 ∧ v = u.2 ∧ iR v)) := by
  unfold fX7_errorCode fX8_errorCode
  have e := h.1.2.2.1
  exact zok_s (zok_s ⟨zRR_0 h, e.1, ⟨by omega, by omega⟩⟩)
theorem s_errorPosition (h : zRR σ m) : zOk (fX7_errorPosition σ) (fun v => zOk (fX8_errorPosition m) (fun u => zRR σ u.1 ∧ v = u.2 ∧ iR v)) := by
  unfold fX7_errorPosition fX8_errorPosition
  have e := h.1.2.2.2
  exact zok_s (zok_s ⟨zRR_0 h, e.1, ⟨by omega, by omega⟩⟩)
theorem s_taken (h : zRR σ m) {i : Int} (hi : iR i) : zOk (fX7_taken σ i) (fun v => zOk (fX8_taken m i) (fun u => zRR σ u.1 ∧ v = u.2 ∧ iR v)) := by
  unfold fX7_taken fX8_taken
  have w4 := h.W.2.2.2.2.1
  have hw := zWords_r h.W
  rw [h.B.2.2.2.2.1]
  have no : ¬ (0 ≤ i ∧ i < m.2 2 4) → zOk (some (-1 : Int)) (fun v => zOk (zG (iR i) <| zG (iR ((m.2 2 4) - 1)) <| (fX8_isIn i 0 ((m.2 2 4) - 1)).bind fun t3 => if t3 = true then (zG (0 ≤ (5 + i) ∧ (5 + i) < 351) <| some ((zPu m 0 0), m.2 2 (5 + i))) else (some ((zPu m 0 0), (-1)))) (fun u => zRR σ u.1 ∧ v = u.2 ∧ iR v)) := by
    intro hn
    refine zok_s ?_
    (repeat (first | (with_reducible refine zok_g ?_ ?_; focus omega) | with_reducible refine zok_j ?_ | (with_reducible refine zok_t ?_ ?_; focus omega) | (with_reducible refine zok_f ?_ ?_; focus omega)))
    refine zok_e (m_isIn ⟨by omega, by omega⟩ (by decide) ⟨by omega, by omega⟩) ?_
    refine zok_f (fun z => hn (by have := of_decide_eq_true z; omega)) ?_
    exact zok_s ⟨zRR_0 h, rfl, by decide⟩
  (repeat (first | (with_reducible refine zok_g ?_ ?_; focus omega) | with_reducible refine zok_j ?_ | (with_reducible refine zok_t ?_ ?_; focus omega) | (with_reducible refine zok_f ?_ ?_; focus omega)))
  refine zok_i (fun c => no (by omega)) (fun c => ?_)
  (repeat (first | (with_reducible refine zok_g ?_ ?_; focus omega) | with_reducible refine zok_j ?_ | (with_reducible refine zok_t ?_ ?_; focus omega) | (with_reducible refine zok_f ?_ ?_; focus omega)))
  refine zok_i (fun c2 => no (by omega)) (fun c2 => ?_)
  (repeat (first | (with_reducible refine zok_g ?_ ?_; focus omega) | with_reducible refine zok_j ?_ | (with_reducible refine zok_t ?_ ?_; focus omega) | (with_reducible refine zok_f ?_ ?_; focus omega)))
  refine zok_s ?_
  (repeat (first | (with_reducible refine zok_g ?_ ?_; focus omega) | with_reducible refine zok_j ?_ | (with_reducible refine zok_t ?_ ?_; focus omega) | (with_reducible refine zok_f ?_ ?_; focus omega)))
  refine zok_e (m_isIn ⟨by omega, by omega⟩ (by decide) ⟨by omega, by omega⟩) ?_
  refine zok_t (decide_eq_true (by omega)) ?_
  (repeat (first | (with_reducible refine zok_g ?_ ?_; focus omega) | with_reducible refine zok_j ?_ | (with_reducible refine zok_t ?_ ?_; focus omega) | (with_reducible refine zok_f ?_ ?_; focus omega)))
  have e := h.B.2.2.2.2.2.1 i (by omega) (by omega)
  have hv := h.W.2.2.2.2.2.1 i (by omega) (by omega)
  exact zok_s ⟨zRR_0 h, e, ⟨by omega, by omega⟩⟩
theorem s_bound (h : zRR σ m) {w k : Int} (hr : iR w) (hk : iR k) : zCp σ [zIO, zIA] (fX7_bound σ w k) (fX8_bound m w k) := by
  have w2 := h.W.2.2.1
  refine zWord_c h hr (fun w0 w1 a b => ?_) (fun a b => ?_)
  · unfold zCp fX7_bound fX8_bound
    refine zok_el a ?_
    have hin := m_isIn (a := k) (lo := 1) (hi := m.2 2 2) ⟨by omega, by omega⟩ (by decide) ⟨by omega, by omega⟩
    by_cases c : 1 ≤ k ∧ k ≤ m.2 2 2
    · rw [decide_eq_true c] at hin
      rw [h.B.2.1]
      (repeat (first | (with_reducible refine zok_g ?_ ?_; focus omega) | with_reducible refine zok_j ?_ | (with_reducible refine zok_t ?_ ?_; focus omega) | (with_reducible refine zok_f ?_ ?_; focus omega)))
      refine zok_b (b_codeOf h.W h.B w0 w1) (fun cd hcd => ?_)
      refine zok_e (b_boundOf h.W h.B (by omega) c.2 hcd.1 (fun j j0 j1 => hcd.2.2 j j0 (by omega))) (zok_s ?_)
      refine zok_e b ?_
      (repeat (first | (with_reducible refine zok_g ?_ ?_; focus omega) | with_reducible refine zok_j ?_ | (with_reducible refine zok_t ?_ ?_; focus omega) | (with_reducible refine zok_f ?_ ?_; focus omega)))
      refine zok_e hin ?_
      refine zok_e (m_goesBoth true true) ?_
      refine zok_t rfl ?_
      refine zok_b (m_spells (m := zPu m 0 0) (s := m.2 2) rfl h.W w0 w1) (fun t ht => ?_)
      have ht2 : t.2 2 = m.2 2 := ht.1.2 2 (by decide)
      refine zok_e (m_bounds ht2 h.W (by omega) c.2 (fun j j0 j1 => ht.2 j j0 (by omega)) (fun j _ _ => zDg_4 h.W j)) (zok_s ⟨zRR_x h ht.1 (by decide) (by decide), zAn_v (zCode0 ht.1 (by decide)) rfl ?_⟩)
      have := zBd_r h.W (u := zDg (m.2 2) w) (m := k) (by omega) c.2
      exact ⟨by omega, by omega⟩
    · rw [decide_eq_false c] at hin
      have e : zOk (some (Sum.inr zIA : Int ⊕ String)) (fun t => zOk (fX8_bound m w k) (fun u => zRR σ u.1 ∧ zAn [zIO, zIA] t (u.1.1 0) u.2)) := by
        refine zok_s ?_
        unfold fX8_bound
        refine zok_e b ?_
        (repeat (first | (with_reducible refine zok_g ?_ ?_; focus omega) | with_reducible refine zok_j ?_ | (with_reducible refine zok_t ?_ ?_; focus omega) | (with_reducible refine zok_f ?_ ?_; focus omega)))
        refine zok_e hin ?_
        refine zok_e (m_goesBoth true false) ?_
        refine zok_f Bool.false_ne_true ?_
        exact zok_s ⟨zRR_0 h, zAn_e 1 rfl rfl⟩
      rw [h.B.2.1]
      by_cases c1 : k < 1
      · (repeat (first | (with_reducible refine zok_g ?_ ?_; focus omega) | with_reducible refine zok_j ?_ | (with_reducible refine zok_t ?_ ?_; focus omega) | (with_reducible refine zok_f ?_ ?_; focus omega)))
        exact e
      · (repeat (first | (with_reducible refine zok_g ?_ ?_; focus omega) | with_reducible refine zok_j ?_ | (with_reducible refine zok_t ?_ ?_; focus omega) | (with_reducible refine zok_f ?_ ?_; focus omega)))
        exact e
  · unfold zCp fX7_bound fX8_bound
    refine zok_er a (zok_s ?_)
    refine zok_e b ?_
    (repeat (first | (with_reducible refine zok_g ?_ ?_; focus omega) | with_reducible refine zok_j ?_ | (with_reducible refine zok_t ?_ ?_; focus omega) | (with_reducible refine zok_f ?_ ?_; focus omega)))
    refine zok_e (m_isIn ⟨by omega, by omega⟩ (by decide) ⟨by omega, by omega⟩) ?_
    refine zok_e (m_goesBoth false _) ?_
    refine zok_f Bool.false_ne_true ?_
    exact zok_s ⟨zRR_0 h, zAn_e 0 rfl rfl⟩
end ZCA
