section ZTS
variable {σ : CS} {m : CV} {s : Int → Int}
theorem zRR_69 {σ' : CS} (h : zRR σ m) (e : ∀ k, k ≠ 6 → k ≠ 9 → σ' k = σ k) : zRR σ' m := zRR_c h (fun k _ k6 k9 => e k k6 k9)
/-- the agreement to which a place leads -/
noncomputable def zTg (s : Int → Int) (r i : Int) : Int := zAg (zIms 50 (zTo s r i)).1
theorem zTg_r (hW : zWf s) {r i : Int} (r0 : 0 ≤ r) (r1 : r < s 0) (hp : zPlP s r i) : 0 ≤ zTg s r i ∧ zTg s r i ≤ 60 := zAg_r (zIms_W 50 (zTo_W hW r0 r1 hp).1).1
theorem s_tryFrom (h : zRR σ m) {r i : Int} (hr : iR r) (hi : iR i) : zCl [zIO] (fX7_tryFrom σ r i) (fX8_tryFrom m r i) := by
  refine zRow_c h hr (fun r0 r1 a b => ?_) (fun a b => ?_)
  · unfold zCl fX7_tryFrom fX8_tryFrom
    refine zok_el a ?_
    refine zok_e (b_isPlace h.W h.B r0 r1 hi) ?_
    rcases zPl_c (s := m.2 2) (r := r) (i := i) with ⟨hp, hP⟩ | ⟨hp, hP⟩
    · refine zok_t hp ?_
      refine zok_b (x_agreementFrom h r0 r1 hP) (fun x hx => zok_s ?_)
      refine zok_e b ?_
      refine zok_e m_go1 ?_
      refine zok_t rfl ?_
      refine zok_e (m_isPlace (m := zPu m 0 0) (s := m.2 2) rfl h.W r0 r1 hi) ?_
      refine zok_t hp ?_
      refine zok_b (m_tries (m := zPu m 0 0) (s := m.2 2) rfl h.W r0 r1 hP hr) (fun y hy => zok_s ⟨zRR_69 (zRR_x h hy.1 (by decide) (by decide)) hx.1, zAn_v (zCode0 hy.1 (by decide)) (hx.2.trans hy.2.symm) ?_⟩)
      have := zTg_r h.W r0 r1 hP
      unfold zTg at this
      rw [hx.2]
      exact ⟨by omega, by omega⟩
    · refine zok_f (by rw [hp]; decide) (zok_s ?_)
      refine zok_e b ?_
      refine zok_e m_go1 ?_
      refine zok_t rfl ?_
      refine zok_e (m_isPlace (m := zPu m 0 0) (s := m.2 2) rfl h.W r0 r1 hi) ?_
      refine zok_f (by rw [hp]; decide) (zok_s ⟨zRR_0 h, zAn_v rfl rfl (by decide)⟩)
  · unfold zCl fX7_tryFrom fX8_tryFrom
    refine zok_er a (zok_s ?_)
    refine zok_e b ?_
    refine zok_e m_go0 ?_
    refine zok_f Bool.false_ne_true ?_
    exact zok_s ⟨zRR_0 h, zAn_e 0 rfl rfl⟩
noncomputable def zBtf (s : Int → Int) (r i : Int) (p : Int × Int) : Int × Int := if zPl s r i = true ∧ p.2 < zTg s r i then (i, zTg s r i) else p
theorem zBtf_e {r i : Int} {p : Int × Int} : zBtf s r i p = if zPl s r i = true ∧ p.2 < zTg s r i then (i, zTg s r i) else p := rfl
theorem s_bestStart (h : zRR σ m) {r : Int} (hr : iR r) : zCl [zIO] (fX7_bestStart σ r) (fX8_bestStart m r) := by
  have w0 := h.W.1
  have w2 := h.W.2.2.1
  refine zRow_c h hr (fun r0 r1 a b => ?_) (fun a b => ?_)
  · unfold zCl fX7_bestStart fX8_bestStart
    have hsz := (h.W.row r0 r1).1
    refine zok_el a ?_
    have e : zFd (zBtf (m.2 2) r) (zf (m.2 2) r 0).toNat (-1, -1) = zFd (zBtf (m.2 2) r) (zf (m.2 2) r 0 - m.2 2 2 + 1).toNat (-1, -1) := zFd_pl h.W r0 r1 (fun i x hh => by
      unfold zBtf
      rw [if_neg (fun z => by rw [hh] at z; exact absurd z.1 (by decide))])
    have hinv : ∀ n : Nat, (-1 ≤ (zFd (zBtf (m.2 2) r) n (-1, -1)).1 ∧ (zFd (zBtf (m.2 2) r) n (-1, -1)).1 < n) ∧ (-1 ≤ (zFd (zBtf (m.2 2) r) n (-1, -1)).2 ∧ (zFd (zBtf (m.2 2) r) n (-1, -1)).2 ≤ 60) ∧ ((zFd (zBtf (m.2 2) r) n (-1, -1)).1 = -1 ↔ (zFd (zBtf (m.2 2) r) n (-1, -1)).2 = -1) := fun n =>
      zFd_I (f := zBtf (m.2 2) r) (fun i p => (-1 ≤ p.1 ∧ p.1 < i) ∧ (-1 ≤ p.2 ∧ p.2 ≤ 60) ∧ (p.1 = -1 ↔ p.2 = -1)) ⟨⟨by decide, by decide⟩, ⟨by decide, by decide⟩, Iff.rfl⟩ n (fun i p hi _ hp => by
        unfold zBtf
        split
        · rename_i c
          have := zTg_r h.W r0 r1 (zPl_t.mp c.1)
          exact ⟨⟨by show -1 ≤ i; omega, by show i < i + 1; omega⟩, ⟨by show -1 ≤ zTg _ _ _; omega, this.2⟩, ⟨fun z => by have : i = -1 := z; omega, fun z => by have : zTg (m.2 2) r i = -1 := z; omega⟩⟩
        · exact ⟨⟨hp.1.1, by have := hp.1.2; omega⟩, hp.2⟩)
    refine zok_F (mk := fun (q : (Int × Int) × CS) i => (q.1.1, q.1.2, i, q.2)) (a0 := ((-1, -1), σ)) (zf (m.2 2) r 0 - m.2 2 2 + 1) (fun i q => q.1 = zFd (zBtf (m.2 2) r) i.toNat (-1, -1) ∧ ∀ k, k ≠ 6 → k ≠ 9 → q.2 k = σ k) rfl (by omega) ⟨rfl, fun _ _ _ => rfl⟩ (fun i q hi hi2 hI => ?_) (fun i q hi hi2 hi3 hi4 hI => ?_)
    · obtain ⟨p, τ⟩ := q
      obtain ⟨hp, hτ⟩ := hI
      dsimp only at hp hτ ⊢
      have e4 : τ 4 = σ 4 := hτ 4 (by decide) (by decide)
      have hv := hinv i.toNat
      rw [← hp] at hv
      rw [e4]
      refine zok_e (b_lastStart h.W h.B r0 r1) ?_
      (repeat (first | (with_reducible refine zok_g ?_ ?_; focus omega) | with_reducible refine zok_j ?_ | (with_reducible refine zok_t ?_ ?_; focus omega) | (with_reducible refine zok_f ?_ ?_; focus omega)))
      refine zok_e (b_isPlace h.W h.B r0 r1 ⟨by omega, by omega⟩) ?_
      refine zok_i (fun c => ?_) (fun c => zok_sl ⟨(p, τ), rfl, ?_, hτ⟩)
      · have hP := zPl_t.mp c
        have hg := zTg_r h.W r0 r1 hP
        refine zok_b (x_agreementFrom (zRR_69 h hτ) r0 r1 hP) (fun x hx => ?_)
        have ex : x.2 = zTg (m.2 2) r i := hx.2
        have hk : ∀ k, k ≠ 6 → k ≠ 9 → x.1 k = σ k := fun k k6 k9 => (hx.1 k k6 k9).trans (hτ k k6 k9)
        rw [ex]
        (repeat (first | (with_reducible refine zok_g ?_ ?_; focus omega) | with_reducible refine zok_j ?_ | (with_reducible refine zok_t ?_ ?_; focus omega) | (with_reducible refine zok_f ?_ ?_; focus omega)))
        refine zok_i (fun c2 => zok_sl ⟨(p, x.1), rfl, ?_, hk⟩) (fun c2 => zok_sl ⟨((i, zTg (m.2 2) r i), x.1), rfl, ?_, hk⟩)
        · dsimp only
          rw [zFd_s hi, ← hp]
          unfold zBtf
          rw [if_neg (fun z => by have := z.2; omega)]
        · dsimp only
          rw [zFd_s hi, ← hp]
          unfold zBtf
          rw [if_pos ⟨c, by omega⟩]
      · dsimp only
        rw [zFd_s hi, ← hp]
        unfold zBtf
        rw [if_neg (fun z => c z.1)]
    · obtain ⟨p, τ⟩ := q
      obtain ⟨hp, hτ⟩ := hI
      dsimp only at hp hτ ⊢
      have e4 : τ 4 = σ 4 := hτ 4 (by decide) (by decide)
      rw [e4]
      refine zok_e (b_lastStart h.W h.B r0 r1) ?_
      (repeat (first | (with_reducible refine zok_g ?_ ?_; focus omega) | with_reducible refine zok_j ?_ | (with_reducible refine zok_t ?_ ?_; focus omega) | (with_reducible refine zok_f ?_ ?_; focus omega)))
      refine zok_sr (zok_s ?_)
      dsimp only
      have hpe : p = zFd (zBtf (m.2 2) r) (zf (m.2 2) r 0).toNat (-1, -1) := by
        rw [hp, e]
        have : i.toNat = (zf (m.2 2) r 0 - m.2 2 2 + 1).toNat := by omega
        rw [this]
      refine zok_e b ?_
      refine zok_e m_go1 ?_
      refine zok_t rfl ?_
      refine zok_F (mk := fun (q : (Int × Int) × CV) i => (q.1.1, q.1.2, i, q.2)) (a0 := ((-1, 0), zPu m 0 0)) (zf (m.2 2) r 0) (fun i q => zEx [] [6, 14] (zPu m 0 0) q.2 ∧ q.1.1 = (zFd (zBtf (m.2 2) r) i.toNat (-1, -1)).1 ∧ (q.1.1 ≠ -1 → q.1.2 = (zFd (zBtf (m.2 2) r) i.toNat (-1, -1)).2)) rfl (by omega) ⟨zEx_0, rfl, fun z => absurd rfl z⟩ (fun i q hi hi2 hI => ?_) (fun i q hi hi2 hi3 hi4 hI => ?_)
      · obtain ⟨p', y⟩ := q
        obtain ⟨yE, y1, y2⟩ := hI
        dsimp only at yE y1 y2 ⊢
        have ys : y.2 2 = m.2 2 := yE.2 2 (by decide)
        have hv := hinv i.toNat
        refine zok_e (m_of ys (by omega) (by omega)) ?_
        (repeat (first | (with_reducible refine zok_g ?_ ?_; focus omega) | with_reducible refine zok_j ?_ | (with_reducible refine zok_t ?_ ?_; focus omega) | (with_reducible refine zok_f ?_ ?_; focus omega)))
        refine zok_e (m_isPlace ys h.W r0 r1 ⟨by omega, by omega⟩) ?_
        refine zok_i (fun c => ?_) (fun c => zok_sl ⟨(p', y), rfl, yE, ?_, ?_⟩)
        · have hP := zPl_t.mp c
          have hg := zTg_r h.W r0 r1 hP
          refine zok_b (m_tries ys h.W r0 r1 hP hr) (fun x hx => ?_)
          have ex : x.2 = zTg (m.2 2) r i := hx.2
          have xE := zEx_t yE hx.1
          rw [ex]
          (repeat (first | (with_reducible refine zok_g ?_ ?_; focus omega) | with_reducible refine zok_j ?_ | (with_reducible refine zok_t ?_ ?_; focus omega) | (with_reducible refine zok_f ?_ ?_; focus omega)))
          refine zok_i (fun c1 => zok_sl ⟨((i, zTg (m.2 2) r i), x.1), rfl, xE, ?_, fun _ => ?_⟩) (fun c1 => ?_)
          · dsimp only
            rw [zFd_s hi]
            rw [zBtf_e]
            rw [if_pos ⟨c, by have := hv.2.2.mp (y1.symm.trans c1); omega⟩]
          · dsimp only
            rw [zFd_s hi]
            rw [zBtf_e]
            rw [if_pos ⟨c, by have := hv.2.2.mp (y1.symm.trans c1); omega⟩]
          · have y2' := y2 c1
            (repeat (first | (with_reducible refine zok_g ?_ ?_; focus omega) | with_reducible refine zok_j ?_ | (with_reducible refine zok_t ?_ ?_; focus omega) | (with_reducible refine zok_f ?_ ?_; focus omega)))
            refine zok_i (fun c2 => zok_sl ⟨((i, zTg (m.2 2) r i), x.1), rfl, xE, ?_, fun _ => ?_⟩) (fun c2 => zok_sl ⟨(p', x.1), rfl, xE, ?_, fun _ => ?_⟩)
            · dsimp only
              rw [zFd_s hi]
              rw [zBtf_e]
              rw [if_pos ⟨c, by omega⟩]
            · dsimp only
              rw [zFd_s hi]
              rw [zBtf_e]
              rw [if_pos ⟨c, by omega⟩]
            · dsimp only
              rw [zFd_s hi]
              rw [zBtf_e]
              rw [if_neg (fun z => by have := z.2; omega)]
              exact y1
            · dsimp only
              rw [zFd_s hi]
              rw [zBtf_e]
              rw [if_neg (fun z => by have := z.2; omega)]
              exact y2'
        · dsimp only
          rw [zFd_s hi]
          rw [zBtf_e]
          rw [if_neg (fun z => c z.1)]
          exact y1
        · dsimp only
          rw [zFd_s hi]
          rw [zBtf_e]
          rw [if_neg (fun z => c z.1)]
          exact y2
      · obtain ⟨p', y⟩ := q
        obtain ⟨yE, y1, y2⟩ := hI
        have ei := hi3 (by omega)
        subst ei
        dsimp only at yE y1 y2 ⊢
        have ys : y.2 2 = m.2 2 := yE.2 2 (by decide)
        refine zok_e (m_of ys (by omega) (by omega)) ?_
        (repeat (first | (with_reducible refine zok_g ?_ ?_; focus omega) | with_reducible refine zok_j ?_ | (with_reducible refine zok_t ?_ ?_; focus omega) | (with_reducible refine zok_f ?_ ?_; focus omega)))
        refine zok_sr (zok_s ⟨zRR_69 (zRR_x h yE (by decide) (by decide)) hτ, zAn_v (zCode0 yE (by decide)) ?_ ?_⟩)
        · show p.1 = p'.1
          rw [hpe, y1]
        · have hv := (hinv (zf (m.2 2) r 0).toNat).1
          rw [← hpe] at hv
          show iR p.1
          exact ⟨by omega, by omega⟩
  · unfold zCl fX7_bestStart fX8_bestStart
    refine zok_er a (zok_s ?_)
    refine zok_e b ?_
    refine zok_e m_go0 ?_
    refine zok_f Bool.false_ne_true ?_
    exact zok_s ⟨zRR_0 h, zAn_e 0 rfl rfl⟩
end ZTS
