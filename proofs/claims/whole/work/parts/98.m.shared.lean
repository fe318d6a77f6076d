section ZSD
variable {σ : CS} {m : CV} {s : Int → Int}
/-- 1 if word w stands at one of the first n places of row r, else 0 -/
noncomputable def zIaf (s : Int → Int) (r w j a : Int) : Int := if zPl s r j = true ∧ zWt s r j = w then 1 else a
noncomputable def zIa (s : Int → Int) (r w : Int) : Int := zFd (zIaf s r w) (zf s r 0).toNat 0
theorem zIa_p (hW : zWf s) {r w : Int} (h0 : 0 ≤ r) (h1 : r < s 0) : zIa s r w = zFd (zIaf s r w) (zf s r 0 - s 2 + 1).toNat 0 :=
  zFd_pl hW h0 h1 (fun i x hi => if_neg (fun z => by rw [hi] at z; exact Bool.false_ne_true z.1))
theorem zIa_r {r w : Int} (n : Nat) : zFd (zIaf s r w) n 0 = 0 ∨ zFd (zIaf s r w) n 0 = 1 :=
  zFd_I (f := zIaf s r w) (fun _ b => b = 0 ∨ b = 1) (Or.inl rfl) n (fun i b _ _ hb => by
    unfold zIaf
    split
    · exact Or.inr rfl
    · exact hb)
theorem c_raiseMarks {T V : CV} (hW : zWf s) (hR : zRB V s) {r v : Int} (hr : 0 ≤ r) (hr2 : r < s 0) (hv : iR v) (hv1 : iR (v - 1)) (h1 : T.1 1 = zWords s) (h100 : zWords s ≤ T.1 100 ∧ T.1 100 ≤ 4096) (hin : ∀ w, 0 ≤ w → w < zWords s → iR (T.2 1 w)) :
    zOk (fX4_raiseMarks T V r v) (fun t => t.1 = T.1 ∧ ∀ w, 0 ≤ w → w < zWords s → t.2 1 w = if zIa s r w = 1 ∧ T.2 1 w = v - 1 then v else T.2 1 w) := by
  unfold fX4_raiseMarks
  have w2 := hW.2.2.1
  have hsz := (hW.row hr hr2).1
  refine zok_F (mk := fun a i => (i, a)) (zf s r 0 - s 2 + 1) (fun j t => t.1 = T.1 ∧ ∀ w, 0 ≤ w → w < zWords s → t.2 1 w = if zFd (zIaf s r w) j.toNat 0 = 1 ∧ T.2 1 w = v - 1 then v else T.2 1 w) rfl (by omega) ⟨rfl, fun w q0 q1 => ?_⟩ (fun j t hj hj2 hJ => ?_) (fun j t hj hj2 hj3 hj4 hJ => ?_)
  · rw [if_neg (fun z => by have : (0 : Int) = 1 := z.1; omega)]
  · refine zok_e (b_lastStart hW hR hr hr2) ?_
    dsimp only
    (repeat (first | (with_reducible refine zok_g ?_ ?_; focus omega) | with_reducible refine zok_j ?_ | (with_reducible refine zok_t ?_ ?_; focus omega) | (with_reducible refine zok_f ?_ ?_; focus omega)))
    refine zok_e (b_isPlace hW hR hr hr2 ⟨by omega, by omega⟩) ?_
    have eJ : ∀ w, zFd (zIaf s r w) (j + 1).toNat 0 = zIaf s r w j (zFd (zIaf s r w) j.toNat 0) := fun w => zFd_s hj
    rcases zPl_c (s := s) (r := r) (i := j) with ⟨hp, hP⟩ | ⟨hp, hP⟩
    · refine zok_t hp ?_
      refine zok_b (b_codeAt hW hR hr hr2 hP.2.1 hP.2.2.1) (fun cd hcd => ?_)
      refine zok_e (show fX0_wordOf V cd = some (zWt s r j) from b_wordOf hW hR hcd) ?_
      have hwr := zWt_r hW hr hr2 hP
      have et := hJ.2 (zWt s r j) hwr.1 hwr.2
      have hi := hin (zWt s r j) hwr.1 hwr.2
      have er : iR (t.2 1 (zWt s r j)) := by
        rw [et]
        split
        · exact hv
        · exact hi
      have e100 : t.1 100 = T.1 100 := by rw [hJ.1]
      rw [e100]
      refine zok_g ⟨by omega, by omega, by omega⟩ ?_
      refine zok_g ⟨er, hv1⟩ ?_
      have oth : ∀ w, w ≠ zWt s r j → zFd (zIaf s r w) (j + 1).toNat 0 = zFd (zIaf s r w) j.toNat 0 := fun w hw => by
        rw [eJ w]
        exact if_neg (fun z => hw z.2.symm)
      have own : zFd (zIaf s r (zWt s r j)) (j + 1).toNat 0 = 1 := by
        rw [eJ]
        exact if_pos ⟨hp, rfl⟩
      refine zok_i (fun c => zok_sl ⟨_, rfl, hJ.1, fun w q0 q1 => ?_⟩) (fun c => zok_sl ⟨_, rfl, hJ.1, fun w q0 q1 => ?_⟩)
      · rw [zPa_s]
        by_cases e : w = zWt s r j
        · subst e
          rw [zup_s, own]
          by_cases d : T.2 1 (zWt s r j) = v - 1
          · rw [if_pos ⟨rfl, d⟩]
          · rw [if_neg (fun z => d z.2)] at et
            exact absurd (et.symm.trans c) d
        · rw [zup_n e, oth w e]
          exact hJ.2 w q0 q1
      · by_cases e : w = zWt s r j
        · subst e
          rw [own]
          by_cases d : T.2 1 (zWt s r j) = v - 1
          · rw [if_pos ⟨rfl, d⟩]
            by_cases f : zFd (zIaf s r (zWt s r j)) j.toNat 0 = 1
            · rw [if_pos ⟨f, d⟩] at et
              exact et
            · rw [if_neg (fun z => f z.1)] at et
              exact absurd (et.trans d) c
          · rw [if_neg (fun z => d z.2)]
            rw [if_neg (fun z => d z.2)] at et
            exact et
        · rw [oth w e]
          exact hJ.2 w q0 q1
    · refine zok_f (by rw [hp]; decide) (zok_sl ⟨_, rfl, hJ.1, fun w q0 q1 => ?_⟩)
      rw [eJ w]
      have ef : ∀ a, zIaf s r w j a = a := fun a => if_neg (fun z => by rw [hp] at z; exact Bool.false_ne_true z.1)
      rw [ef]
      exact hJ.2 w q0 q1
  · refine zok_e (b_lastStart hW hR hr hr2) ?_
    dsimp only
    (repeat (first | (with_reducible refine zok_g ?_ ?_; focus omega) | with_reducible refine zok_j ?_ | (with_reducible refine zok_t ?_ ?_; focus omega) | (with_reducible refine zok_f ?_ ?_; focus omega)))
    have ej : (zf s r 0 - s 2 + 1).toNat = j.toNat := by omega
    refine zok_sr (zok_s ⟨hJ.1, fun w q0 q1 => ?_⟩)
    rw [zIa_p hW hr hr2, ej]
    exact hJ.2 w q0 q1
/-- 1 if both rows have word w -/
noncomputable def zBo (s : Int → Int) (a b w : Int) : Int := if zIa s a w = 1 ∧ zIa s b w = 1 then 1 else 0
end ZSD
