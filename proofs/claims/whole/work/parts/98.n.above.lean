section ZSV
variable {σ : CS} {m : CV} {s : Int → Int}
theorem m_isAt {r w : Int} (hs : m.2 2 = s) (hW : zWf s) (h0 : 0 ≤ r) (h1 : r < s 0) (hw : iR w) : fX8_isAt m r w = some (decide (zIa s r w = 1)) := by
  apply zok_q
  unfold fX8_isAt
  have w0 := hW.1
  have hww := zWords_r hW
  have hsz := (hW.row h0 h1).1
  refine zok_F (mk := fun a i => (a, i)) (zf s r 0) (fun j a => a = zFd (zIaf s r w) j.toNat 0) rfl (by omega) rfl (fun j a hj hj2 hJ => ?_) (fun j a hj hj2 hj3 hj4 hJ => ?_)
  · have hr := zIa_r (s := s) (r := r) (w := w) j.toNat
    have eJ : zFd (zIaf s r w) (j + 1).toNat 0 = zIaf s r w j (zFd (zIaf s r w) j.toNat 0) := zFd_s hj
    rw [← hJ] at eJ hr
    refine zok_e (m_of hs (by omega) (by omega)) ?_
    dsimp only
    (repeat (first | (with_reducible refine zok_g ?_ ?_; focus omega) | with_reducible refine zok_j ?_ | (with_reducible refine zok_t ?_ ?_; focus omega) | (with_reducible refine zok_f ?_ ?_; focus omega)))
    refine zok_i (fun c => ?_) (fun c => ?_)
    · refine zok_e (m_isPlace hs hW h0 h1 ⟨by omega, by omega⟩) ?_
      rcases zPl_c (s := s) (r := r) (i := j) with ⟨hp, hP⟩ | ⟨hp, hP⟩
      · have hwr := zWt_r hW h0 h1 hP
        refine zok_t hp ?_
        refine zok_e (show fX8_wordThere m r j = some (zWt s r j) from m_wordThere hs hW h0 h1 hP.2.1 hP.2.2.1) ?_
        refine zok_g ⟨⟨by omega, by omega⟩, hw⟩ ?_
        refine zok_i (fun d => zok_sl ⟨_, rfl, ?_⟩) (fun d => zok_sl ⟨_, rfl, ?_⟩)
        · rw [eJ]
          exact (if_pos ⟨hp, d⟩).symm
        · rw [eJ]
          exact ((if_neg (fun z => d z.2)).trans c).symm
      · refine zok_f (by rw [hp]; decide) (zok_sl ⟨_, rfl, ?_⟩)
        rw [eJ]
        exact ((if_neg (fun z => by rw [hp] at z; exact Bool.false_ne_true z.1)).trans c).symm
    · refine zok_sl ⟨_, rfl, ?_⟩
      rw [eJ]
      unfold zIaf
      split <;> omega
  · have hr := zIa_r (s := s) (r := r) (w := w) j.toNat
    rw [← hJ] at hr
    refine zok_e (m_of hs (by omega) (by omega)) ?_
    dsimp only
    (repeat (first | (with_reducible refine zok_g ?_ ?_; focus omega) | with_reducible refine zok_j ?_ | (with_reducible refine zok_t ?_ ?_; focus omega) | (with_reducible refine zok_f ?_ ?_; focus omega)))
    refine zok_sr ?_
    refine zok_g hr (zok_s ?_)
    have ej := hj3 (by omega)
    subst ej
    show decide (a = 1) = _
    rw [hJ]
    rfl
/-- y is the least word above x that stands at one of the first n places of a, and in b, or -1 -/
def zLst (s : Int → Int) (a b x : Int) (n : Nat) (y : Int) : Prop := (y = -1 ∧ ∀ w, x < w → ¬ (zFd (zIaf s a w) n 0 = 1 ∧ zIa s b w = 1)) ∨ ((x < y ∧ y < zWords s) ∧ (zFd (zIaf s a y) n 0 = 1 ∧ zIa s b y = 1) ∧ ∀ w, x < w → w < y → ¬ (zFd (zIaf s a w) n 0 = 1 ∧ zIa s b w = 1))
theorem m_sharedAbove {a b x : Int} (hs : m.2 2 = s) (hW : zWf s) (a0 : 0 ≤ a) (a1 : a < s 0) (b0 : 0 ≤ b) (b1 : b < s 0) (hx : -1 ≤ x ∧ x < 4096) : zOk (fX8_sharedAbove m a b x) (fun y => zLst s a b x (zf s a 0).toNat y) := by
  unfold fX8_sharedAbove
  have w0 := hW.1
  have hww := zWords_r hW
  have hsz := (hW.row a0 a1).1
  refine zok_F (mk := fun a i => (a, i)) (zf s a 0) (fun j y => zLst s a b x j.toNat y) rfl (by omega) (Or.inl ⟨rfl, fun w _ z => by have : (0 : Int) = 1 := z.1; omega⟩) (fun j y hj hj2 hJ => ?_) (fun j y hj hj2 hj3 hj4 hJ => ?_)
  · have hy : -1 ≤ y ∧ y < 4096 := by
      rcases hJ with ⟨e, _⟩ | ⟨e, _⟩ <;> omega
    have eJ : ∀ w, zFd (zIaf s a w) (j + 1).toNat 0 = zIaf s a w j (zFd (zIaf s a w) j.toNat 0) := fun w => zFd_s hj
    refine zok_e (m_of hs (by omega) (by omega)) ?_
    dsimp only
    (repeat (first | (with_reducible refine zok_g ?_ ?_; focus omega) | with_reducible refine zok_j ?_ | (with_reducible refine zok_t ?_ ?_; focus omega) | (with_reducible refine zok_f ?_ ?_; focus omega)))
    refine zok_e (m_isPlace hs hW a0 a1 ⟨by omega, by omega⟩) ?_
    rcases zPl_c (s := s) (r := a) (i := j) with ⟨hp, hP⟩ | ⟨hp, hP⟩
    · have hwr := zWt_r hW a0 a1 hP
      have oth : ∀ w, w ≠ zWt s a j → zFd (zIaf s a w) (j + 1).toNat 0 = zFd (zIaf s a w) j.toNat 0 := fun w hw => by
        rw [eJ w]
        exact if_neg (fun z => hw z.2.symm)
      have own : zFd (zIaf s a (zWt s a j)) (j + 1).toNat 0 = 1 := by
        rw [eJ]
        exact if_pos ⟨hp, rfl⟩
      refine zok_t hp ?_
      refine zok_e (show fX8_wordThere m a j = some (zWt s a j) from m_wordThere hs hW a0 a1 hP.2.1 hP.2.2.1) ?_
      generalize zWt s a j = v at hwr oth own
      -- v adds nothing
      have keep : (v ≤ x ∨ zIa s b v ≠ 1 ∨ (y ≠ -1 ∧ y ≤ v)) → zLst s a b x (j + 1).toNat y := fun hv => by
        rcases hJ with ⟨e, f⟩ | ⟨e, g, f⟩
        · refine Or.inl ⟨e, fun w hw z => ?_⟩
          by_cases ew : w = v
          · subst ew
            rcases hv with h | h | h
            · omega
            · exact h z.2
            · exact h.1 e
          · rw [oth w ew] at z
            exact f w hw z
        · refine Or.inr ⟨e, ⟨?_, g.2⟩, fun w hw hw2 z => ?_⟩
          · by_cases ey : y = v
            · rw [ey]; exact own
            · rw [oth y ey]; exact g.1
          · by_cases ew : w = v
            · subst ew
              rcases hv with h | h | h
              · omega
              · exact h z.2
              · omega
            · rw [oth w ew] at z
              exact f w hw hw2 z
      have take : x < v → zIa s b v = 1 → (y = -1 ∨ v < y) → zLst s a b x (j + 1).toNat v := fun h1 h2 h3 => by
        refine Or.inr ⟨⟨h1, hwr.2⟩, ⟨own, h2⟩, fun w hw hw2 z => ?_⟩
        rw [oth w (by omega)] at z
        rcases hJ with ⟨e, f⟩ | ⟨e, g, f⟩
        · exact f w hw z
        · exact f w hw (by omega) z
      refine zok_g ⟨⟨by omega, by omega⟩, ⟨by omega, by omega⟩⟩ ?_
      refine zok_i (fun c => zok_sl ⟨_, rfl, keep (Or.inl c)⟩) (fun c => ?_)
      refine zok_jP (fun _ => y = -1 ∨ v < y) (fun _ hv => ?_) (fun K hK => ?_)
      · refine zok_e (m_isAt hs hW b0 b1 ⟨by omega, by omega⟩) ?_
        exact zok_i (fun d => zok_sl ⟨_, rfl, take (by omega) (of_decide_eq_true d) hv⟩) (fun d => zok_sl ⟨_, rfl, keep (Or.inr (Or.inl (fun z => d (decide_eq_true z))))⟩)
      · refine zok_g ⟨by omega, by omega⟩ ?_
        refine zok_i (fun d => hK () (Or.inl d)) (fun d => ?_)
        exact zok_i (fun e => zok_sl ⟨_, rfl, keep (Or.inr (Or.inr ⟨d, e⟩))⟩) (fun e => hK () (Or.inr (by omega)))
    · refine zok_f (by rw [hp]; decide) (zok_sl ⟨_, rfl, ?_⟩)
      have same : ∀ w, zFd (zIaf s a w) (j + 1).toNat 0 = zFd (zIaf s a w) j.toNat 0 := fun w => by
        rw [eJ w]
        exact if_neg (fun z => by rw [hp] at z; exact Bool.false_ne_true z.1)
      unfold zLst
      rw [same y]
      rcases hJ with ⟨e, f⟩ | ⟨e, g, f⟩
      · exact Or.inl ⟨e, fun w hw => by rw [same w]; exact f w hw⟩
      · exact Or.inr ⟨e, g, fun w hw hw2 => by rw [same w]; exact f w hw hw2⟩
  · refine zok_e (m_of hs (by omega) (by omega)) ?_
    dsimp only
    have hy : -1 ≤ y ∧ y < 4096 := by
      rcases hJ with ⟨e, _⟩ | ⟨e, _⟩ <;> omega
    (repeat (first | (with_reducible refine zok_g ?_ ?_; focus omega) | with_reducible refine zok_j ?_ | (with_reducible refine zok_t ?_ ?_; focus omega) | (with_reducible refine zok_f ?_ ?_; focus omega)))
    have ej := hj3 (by omega)
    subst ej
    exact zok_sr (zok_s hJ)
end ZSV
