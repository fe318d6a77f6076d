section ZSD
variable {σ : CS} {m : CV} {s : Int → Int}
/-- 1 if word w stands at one of the first n places of row r, else 0 -/
noncomputable def zIaf (s : Int → Int) (r w j a : Int) : Int := if zPl s r j = true ∧ zWt s r j = w then 1 else a
noncomputable def zIa (s : Int → Int) (r w : Int) : Int := zFd (zIaf s r w) (zf s r 0).toNat 0
theorem zIa_p (hW : zWf s) {r w : Int} (h0 : 0 ≤ r) (h1 : r < s 0) : zIa s r w = zFd (zIaf s r w) (zf s r 0 - s 2 + 1).toNat 0 :=
  zFd_pl hW h0 h1 (fun i x hi => if_neg (fun z => by rw [hi] at z; exact Bool.false_ne_true z.1))
theorem zIa_r {r w : Int} (n : Nat) : zFd (zIaf s r w) n 0 = 0 ∨ zFd (zIaf s r w) n 0 = 1 :=
  zFd_I (f := zIaf s r w) (fun _ b => b = 0 ∨ b = 1) (Or.inl rfl) n (fun i b _ _ hb => by
    unfold zIaf
    split
    · exact Or.inr rfl
    · exact hb)
theorem c_raiseMarks {T V : CV} (hW : zWf s) (hR : zRB V s) {r v : Int} (hr : 0 ≤ r) (hr2 : r < s 0) (hv : iR v) (hv1 : iR (v - 1)) (h1 : T.1 1 = zWords s) (h100 : zWords s ≤ T.1 100 ∧ T.1 100 ≤ 4096) (hin : ∀ w, 0 ≤ w → w < zWords s → iR (T.2 1 w)) :
    zOk (fX4_raiseMarks T V r v) (fun t => t.1 = T.1 ∧ ∀ w, 0 ≤ w → w < zWords s → t.2 1 w = if zIa s r w = 1 ∧ T.2 1 w = v - 1 then v else T.2 1 w) := by
  unfold fX4_raiseMarks
  have w2 := hW.2.2.1
  have hsz := (hW.row hr hr2).1
  refine zok_F (mk := fun a i => (i, a)) (zf s r 0 - s 2 + 1) (fun j t => t.1 = T.1 ∧ ∀ w, 0 ≤ w → w < zWords s → t.2 1 w = if zFd (zIaf s r w) j.toNat 0 = 1 ∧ T.2 1 w = v - 1 then v else T.2 1 w) rfl (by omega) ⟨rfl, fun w q0 q1 => ?_⟩ (fun j t hj hj2 hJ => ?_) (fun j t hj hj2 hj3 hj4 hJ => ?_)
  · rw [if_neg (fun z => by have : (0 : Int) = 1 := z.1; omega)]
  · refine zok_e (b_lastStart hW hR hr hr2) ?_
    dsimp only
    (repeat (first | (with_reducible refine zok_g ?_ ?_; focus omega) | with_reducible refine zok_j ?_ | (with_reducible refine zok_t ?_ ?_; focus omega) | (with_reducible refine zok_f ?_ ?_; focus omega)))
    refine zok_e (b_isPlace hW hR hr hr2 ⟨by omega, by omega⟩) ?_
    have eJ : ∀ w, zFd (zIaf s r w) (j + 1).toNat 0 = zIaf s r w j (zFd (zIaf s r w) j.toNat 0) := fun w => zFd_s hj
    rcases zPl_c (s := s) (r := r) (i := j) with ⟨hp, hP⟩ | ⟨hp, hP⟩
    · refine zok_t hp ?_
      refine zok_b (b_codeAt hW hR hr hr2 hP.2.1 hP.2.2.1) (fun cd hcd => ?_)
      refine zok_e (show fX0_wordOf V cd = some (zWt s r j) from b_wordOf hW hR hcd) ?_
      have hwr := zWt_r hW hr hr2 hP
      have et := hJ.2 (zWt s r j) hwr.1 hwr.2
      have hi := hin (zWt s r j) hwr.1 hwr.2
      have er : iR (t.2 1 (zWt s r j)) := by
        rw [et]
        split
        · exact hv
        · exact hi
      have e100 : t.1 100 = T.1 100 := by rw [hJ.1]
      rw [e100]
      refine zok_g ⟨by omega, by omega, by omega⟩ ?_
      refine zok_g ⟨er, hv1⟩ ?_
      have oth : ∀ w, w ≠ zWt s r j → zFd (zIaf s r w) (j + 1).toNat 0 = zFd (zIaf s r w) j.toNat 0 := fun w hw => by
        rw [eJ w]
        exact if_neg (fun z => hw z.2.symm)
      have own : zFd (zIaf s r (zWt s r j)) (j + 1).toNat 0 = 1 := by
        rw [eJ]
        exact if_pos ⟨hp, rfl⟩
      refine zok_i (fun c => zok_sl ⟨_, rfl, hJ.1, fun w q0 q1 => ?_⟩) (fun c => zok_sl ⟨_, rfl, hJ.1, fun w q0 q1 => ?_⟩)
      · rw [zPa_s]
        by_cases e : w = zWt s r j
        · subst e
          rw [zup_s, own]
          by_cases d : T.2 1 (zWt s r j) = v - 1
          · rw [if_pos ⟨rfl, d⟩]
          · rw [if_neg (fun z => d z.2)] at et
            exact absurd (et.symm.trans c) d
        · rw [zup_n e, oth w e]
          exact hJ.2 w q0 q1
      · by_cases e : w = zWt s r j
        · subst e
          rw [own]
          by_cases d : T.2 1 (zWt s r j) = v - 1
          · rw [if_pos ⟨rfl, d⟩]
            by_cases f : zFd (zIaf s r (zWt s r j)) j.toNat 0 = 1
            · rw [if_pos ⟨f, d⟩] at et
              exact et
            · rw [if_neg (fun z => f z.1)] at et
              exact absurd (et.trans d) c
          · rw [if_neg (fun z => d z.2)]
            rw [if_neg (fun z => d z.2)] at et
            exact et
        · rw [oth w e]
          exact hJ.2 w q0 q1
    · refine zok_f (by rw [hp]; decide) (zok_sl ⟨_, rfl, hJ.1, fun w q0 q1 => ?_⟩)
      rw [eJ w]
      have ef : ∀ a, zIaf s r w j a = a := fun a => if_neg (fun z => by rw [hp] at z; exact Bool.false_ne_true z.1)
      rw [ef]
      exact hJ.2 w q0 q1
  · refine zok_e (b_lastStart hW hR hr hr2) ?_
    dsimp only
    (repeat (first | (with_reducible refine zok_g ?_ ?_; focus omega) | with_reducible refine zok_j ?_ | (with_reducible refine zok_t ?_ ?_; focus omega) | (with_reducible refine zok_f ?_ ?_; focus omega)))
    have ej : (zf s r 0 - s 2 + 1).toNat = j.toNat := by omega
    refine zok_sr (zok_s ⟨hJ.1, fun w q0 q1 => ?_⟩)
    rw [zIa_p hW hr hr2, ej]
    exact hJ.2 w q0 q1
/-- 1 if both rows have word w -/
noncomputable def zBo (s : Int → Int) (a b w : Int) : Int := if zIa s a w = 1 ∧ zIa s b w = 1 then 1 else 0
theorem c_markShared {T V : CV} (hW : zWf s) (hR : zRB V s) (hT : 0 ≤ T.1 100 ∧ T.1 100 ≤ 4096) {a b : Int} (a0 : 0 ≤ a) (a1 : a < s 0) (b0 : 0 ≤ b) (b1 : b < s 0) : zOk (fX4_markShared T V a b) (fun t => zTy T t s ∧ ∀ w, 0 ≤ w → w < zWords s → t.2 1 w = zBo s a b w) := by
  unfold fX4_markShared
  have hw := zWords_r hW
  refine zok_b (c_start hW hR hT) (fun t0 ht0 => ?_)
  have h100 := zTy_100 hW hT ht0.1
  refine zok_b (c_raiseMarks hW hR (v := 1) a0 a1 (by decide) (by decide) ht0.1.1 h100 (fun w q0 q1 => by rw [ht0.2 w q0 q1]; decide)) (fun t1 ht1 => ?_)
  have e1 : ∀ w, 0 ≤ w → w < zWords s → t1.2 1 w = if zIa s a w = 1 then 1 else 0 := fun w q0 q1 => by
    rw [ht1.2 w q0 q1, ht0.2 w q0 q1]
    by_cases c : zIa s a w = 1
    · rw [if_pos ⟨c, by decide⟩, if_pos c]
    · rw [if_neg (fun z => c z.1), if_neg c]
  have y1 : zTy T t1 s := ⟨by rw [ht1.1]; exact ht0.1.1, by rw [ht1.1]; exact ht0.1.2⟩
  refine zok_b (c_raiseMarks hW hR (v := 2) b0 b1 (by decide) (by decide) y1.1 (zTy_100 hW hT y1) (fun w q0 q1 => by rw [e1 w q0 q1]; split <;> decide)) (fun t2 ht2 => ?_)
  have y2 : zTy T t2 s := ⟨by rw [ht2.1]; exact y1.1, by rw [ht2.1]; exact y1.2⟩
  have e2 : ∀ w, 0 ≤ w → w < zWords s → t2.2 1 w = if zIa s a w = 1 ∧ zIa s b w = 1 then 2 else if zIa s a w = 1 then 1 else 0 := fun w q0 q1 => by
    rw [ht2.2 w q0 q1, e1 w q0 q1]
    by_cases c : zIa s a w = 1
    · rw [if_pos c]
      by_cases d : zIa s b w = 1
      · rw [if_pos ⟨d, by decide⟩, if_pos ⟨c, d⟩]
      · rw [if_neg (fun z => d z.1), if_neg (fun z => d z.2)]
    · rw [if_neg c, if_neg (fun z => by have : (0 : Int) = 2 - 1 := z.2; omega), if_neg (fun z => c z.1)]
  refine zok_F (mk := fun a i => (i, a)) (zWords s) (fun i t => zTy T t s ∧ ∀ w, 0 ≤ w → w < zWords s → t.2 1 w = if w < i then zBo s a b w else t2.2 1 w) rfl (by omega) ⟨y2, fun w q0 q1 => by rw [if_neg (by omega)]⟩ (fun i t hi hi2 hI => ?_) (fun i t hi hi2 hi3 hi4 hI => ?_)
  · have h1t := zTy_100 hW hT hI.1
    have e := hI.2 i hi hi2
    rw [if_neg (by omega), e2 i hi hi2] at e
    have e11 := hI.1.1
    have hir : iR (t.2 1 i) := by
      rw [e]
      split
      · decide
      · split <;> decide
    dsimp only
    rw [e11]
    refine zok_g ⟨⟨by omega, by omega⟩, ⟨by omega, by omega⟩⟩ ?_
    refine zok_f (by omega) ?_
    refine zok_g ⟨by omega, by omega, by omega⟩ ?_
    refine zok_g hir ?_
    have upd : ∀ x, x = zBo s a b i → ∀ w, 0 ≤ w → w < zWords s → (zPa t 1 i x).2 1 w = if w < i + 1 then zBo s a b w else t2.2 1 w := fun x hx w q0 q1 => by
      rw [zPa_s]
      by_cases e : w = i
      · subst e
        rw [zup_s, if_pos (by omega), hx]
      · rw [zup_n e, hI.2 w q0 q1]
        by_cases l : w < i
        · rw [if_pos l, if_pos (by omega)]
        · rw [if_neg l, if_neg (by omega)]
    refine zok_i (fun c => zok_sl ⟨_, rfl, hI.1, upd 1 ?_⟩) (fun c => zok_sl ⟨_, rfl, hI.1, upd 0 ?_⟩)
    · unfold zBo
      by_cases d : zIa s a i = 1 ∧ zIa s b i = 1
      · rw [if_pos d]
      · rw [if_neg d] at e
        rw [e] at c
        split at c <;> omega
    · unfold zBo
      by_cases d : zIa s a i = 1 ∧ zIa s b i = 1
      · rw [if_pos d] at e
        exact absurd e c
      · rw [if_neg d]
  · have e11 := hI.1.1
    dsimp only
    rw [e11]
    (repeat (first | (with_reducible refine zok_g ?_ ?_; focus omega) | with_reducible refine zok_j ?_ | (with_reducible refine zok_t ?_ ?_; focus omega) | (with_reducible refine zok_f ?_ ?_; focus omega)))
    have ei := hi3 (by omega)
    subst ei
    refine zok_sr ?_
    (repeat (first | (with_reducible refine zok_g ?_ ?_; focus omega) | with_reducible refine zok_j ?_ | (with_reducible refine zok_t ?_ ?_; focus omega) | (with_reducible refine zok_f ?_ ?_; focus omega)))
    exact zok_s ⟨hI.1, fun w q0 q1 => by rw [hI.2 w q0 q1, if_pos q1]⟩
end ZSD
