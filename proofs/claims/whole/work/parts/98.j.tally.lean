section ZTM
variable {σ : CS} {m : CV} {s : Int → Int}
/-- the word at a place -/
noncomputable def zWt (s : Int → Int) (r j : Int) : Int := zNb s (fun i => zl s r (j + i)) (s 2)
theorem zWt_r (hW : zWf s) {r j : Int} (h0 : 0 ≤ r) (h1 : r < s 0) (hP : zPlP s r j) : 0 ≤ zWt s r j ∧ zWt s r j < zWords s := by
  have w2 := hW.2.2.1
  have hl := (hW.row h0 h1).2.2.2.2.1
  have hb := zNb_r hW (u := fun i => zl s r (j + i)) (s 2).toNat (fun i _ i1 => hl (j + (i : Int)) (by have := hP.2.1; omega) (by have := hP.2.2.1; omega))
  rw [show (((s 2).toNat : Nat) : Int) = s 2 by omega] at hb
  exact hb
noncomputable def zTmf (s : Int → Int) (w r j a : Int) : Int := if zPl s r j = true ∧ zWt s r j = w then a + 1 else a
noncomputable def zTmr (s : Int → Int) (w r a : Int) : Int := zFd (zTmf s w r) (zf s r 0).toNat a
/-- how often word w stands at a place of the first n rows -/
noncomputable def zTm (s : Int → Int) (w : Int) (n : Nat) : Int := zFd (zTmr s w) n 0
theorem zTm_s {w r : Int} (h : 0 ≤ r) : zTm s w (r + 1).toNat = zTmr s w r (zTm s w r.toNat) := zFd_s h
theorem zTmr_p (hW : zWf s) {w r a : Int} (h0 : 0 ≤ r) (h1 : r < s 0) : zTmr s w r a = zFd (zTmf s w r) (zf s r 0 - s 2 + 1).toNat a :=
  zFd_pl hW h0 h1 (fun i x hi => if_neg (fun z => by rw [hi] at z; exact Bool.false_ne_true z.1))
theorem zTmf_r {w r a : Int} (n : Nat) : a ≤ zFd (zTmf s w r) n a ∧ zFd (zTmf s w r) n a ≤ a + n :=
  zFd_I (f := zTmf s w r) (fun i b => a ≤ b ∧ b ≤ a + i) ⟨Int.le_refl _, by omega⟩ n (fun i b _ _ hb => by
    unfold zTmf
    split <;> omega)
theorem zTm_r (hW : zWf s) {w : Int} (n : Nat) (hn : (n : Int) ≤ s 0) : 0 ≤ zTm s w n ∧ zTm s w n ≤ 30 * n :=
  zFd_I (f := zTmr s w) (fun i b => 0 ≤ b ∧ b ≤ 30 * i) ⟨Int.le_refl 0, (show (0 : Int) ≤ 30 * 0 by decide)⟩ n (fun i b hi hi2 hb => by
    have hr := (hW.row (r := i) (by omega) (by omega)).1
    have h := zTmf_r (s := s) (w := w) (r := i) (a := b) (zf s i 0).toNat
    have e : zTmr s w i b = zFd (zTmf s w i) (zf s i 0).toNat b := rfl
    rw [e]
    omega)
/-- a tally as long as there are words -/
def zTy (T t : CV) (s : Int → Int) : Prop := t.1 1 = zWords s ∧ t.1 100 = zMax (T.1 100) (zWords s)
theorem zTy_100 (hW : zWf s) {T t : CV} (hT : 0 ≤ T.1 100 ∧ T.1 100 ≤ 4096) (h : zTy T t s) : zWords s ≤ t.1 100 ∧ t.1 100 ≤ 4096 := by
  have hw := zWords_r hW
  rw [h.2]
  unfold zMax
  split <;> omega
theorem c_start {T V : CV} (hW : zWf s) (hR : zRB V s) (hT : 0 ≤ T.1 100 ∧ T.1 100 ≤ 4096) : zOk (fX4_start T V) (fun t => zTy T t s ∧ ∀ w, 0 ≤ w → w < zWords s → t.2 1 w = 0) := by
  unfold fX4_start
  have hw := zWords_r hW
  have w2 := hW.2.2.1
  have eN : zNt T V = if zWords s ≤ T.1 100 then 0 else 1 := by
    unfold zNt
    rw [hR.1, hR.2.1, zWd_e, show (((s 2).toNat : Nat) : Int) = s 2 by omega]
    rfl
  refine zok_e (b_wordCount hW hR) ?_
  refine zok_g hT.1 ?_
  refine zok_jP (fun x => zTy T x s) (fun x hx => ?_) (fun K hK => ?_)
  · have h100 := zTy_100 hW hT hx
    refine zok_F (mk := fun a i => (i, a)) (zWords s) (fun i t => zTy T t s ∧ ∀ w, 0 ≤ w → w < i → t.2 1 w = 0) rfl (by omega) ⟨hx, fun w _ _ => by omega⟩ (fun i t hi hi2 hI => ?_) (fun i t hi hi2 hi3 hi4 hI => ?_)
    · have h1t := zTy_100 hW hT hI.1
      have e1 := hI.1.1
      dsimp only
      rw [e1]
      (repeat (first | (with_reducible refine zok_g ?_ ?_; focus omega) | with_reducible refine zok_j ?_ | (with_reducible refine zok_t ?_ ?_; focus omega) | (with_reducible refine zok_f ?_ ?_; focus omega)))
      refine zok_sl ⟨_, rfl, hI.1, fun w q0 q1 => ?_⟩
      rw [zPa_s]
      by_cases e : w = i
      · rw [e, zup_s]
      · rw [zup_n e]; exact hI.2 w q0 (by omega)
    · have e1 := hI.1.1
      dsimp only
      rw [e1]
      (repeat (first | (with_reducible refine zok_g ?_ ?_; focus omega) | with_reducible refine zok_j ?_ | (with_reducible refine zok_t ?_ ?_; focus omega) | (with_reducible refine zok_f ?_ ?_; focus omega)))
      have ei := hi3 (by omega)
      subst ei
      exact zok_sr (zok_s hI)
  · rw [eN]
    (repeat (first | (with_reducible refine zok_g ?_ ?_; focus omega) | with_reducible refine zok_j ?_ | (with_reducible refine zok_t ?_ ?_; focus omega) | (with_reducible refine zok_f ?_ ?_; focus omega)))
    refine zok_i (fun c => hK _ ⟨rfl, ?_⟩) (fun c => ?_)
    · show T.1 100 = zMax (T.1 100) (zWords s)
      unfold zMax
      split <;> omega
    · rw [if_neg c]
      refine zok_g ⟨by omega, by omega, by omega, by omega⟩ (hK _ ⟨rfl, ?_⟩)
      show zWords s = zMax (T.1 100) (zWords s)
      unfold zMax
      split <;> omega
theorem c_addAllPlaces {T V : CV} (hW : zWf s) (hR : zRB V s) (hT : 0 ≤ T.1 100 ∧ T.1 100 ≤ 4096) : zOk (fX4_addAllPlaces T V) (fun t => zTy T t s ∧ ∀ w, 0 ≤ w → w < zWords s → t.2 1 w = zTm s w (s 0).toNat) := by
  unfold fX4_addAllPlaces
  have w0 := hW.1
  have w2 := hW.2.2.1
  refine zok_b (c_start hW hR hT) (fun t0 ht0 => ?_)
  rw [hR.2.2.2.1]
  refine zok_F (mk := fun a i => (i, a)) (s 0) (fun r t => zTy T t s ∧ ∀ w, 0 ≤ w → w < zWords s → t.2 1 w = zTm s w r.toNat) rfl (by omega) ⟨ht0.1, fun w q0 q1 => ht0.2 w q0 q1⟩ (fun r t hr hr2 hI => ?_) (fun r t hr hr2 hr3 hr4 hI => ?_)
  · dsimp only
    (repeat (first | (with_reducible refine zok_g ?_ ?_; focus omega) | with_reducible refine zok_j ?_ | (with_reducible refine zok_t ?_ ?_; focus omega) | (with_reducible refine zok_f ?_ ?_; focus omega)))
    have hsz := (hW.row hr hr2).1
    refine zok_F (mk := fun a i => (i, a)) (zf s r 0 - s 2 + 1) (fun j t => zTy T t s ∧ ∀ w, 0 ≤ w → w < zWords s → t.2 1 w = zFd (zTmf s w r) j.toNat (zTm s w r.toNat)) rfl (by omega) ⟨hI.1, fun w q0 q1 => hI.2 w q0 q1⟩ (fun j t hj hj2 hJ => ?_) (fun j t hj hj2 hj3 hj4 hJ => ?_)
    · have h1t := zTy_100 hW hT hJ.1
      refine zok_e (b_lastStart hW hR hr hr2) ?_
      dsimp only
      (repeat (first | (with_reducible refine zok_g ?_ ?_; focus omega) | with_reducible refine zok_j ?_ | (with_reducible refine zok_t ?_ ?_; focus omega) | (with_reducible refine zok_f ?_ ?_; focus omega)))
      refine zok_e (b_isPlace hW hR hr hr2 ⟨by omega, by omega⟩) ?_
      have eJ : ∀ w, zFd (zTmf s w r) (j + 1).toNat (zTm s w r.toNat) = zTmf s w r j (zFd (zTmf s w r) j.toNat (zTm s w r.toNat)) := fun w => zFd_s hj
      rcases zPl_c (s := s) (r := r) (i := j) with ⟨hp, hP⟩ | ⟨hp, hP⟩
      · refine zok_t hp ?_
        refine zok_b (b_codeAt hW hR hr hr2 hP.2.1 hP.2.2.1) (fun cd hcd => ?_)
        refine zok_e (show fX0_wordOf V cd = some (zWt s r j) from b_wordOf hW hR hcd) ?_
        have hwr := zWt_r hW hr hr2 hP
        refine zok_g ⟨by omega, by omega, by omega⟩ (zok_sl ⟨_, rfl, hJ.1, fun w q0 q1 => ?_⟩)
        rw [zPa_s, eJ w]
        unfold zTmf
        by_cases e : w = zWt s r j
        · subst e
          rw [zup_s, if_pos ⟨hp, rfl⟩, hJ.2 _ q0 q1]
          rfl
        · rw [zup_n e, if_neg (fun z => e z.2.symm), hJ.2 w q0 q1]
          rfl
      · refine zok_f (by rw [hp]; decide) (zok_sl ⟨_, rfl, hJ.1, fun w q0 q1 => ?_⟩)
        rw [eJ w]
        have ef : ∀ a, zTmf s w r j a = a := fun a => if_neg (fun z => by rw [hp] at z; exact Bool.false_ne_true z.1)
        rw [ef]
        exact hJ.2 w q0 q1
    · refine zok_e (b_lastStart hW hR hr hr2) ?_
      dsimp only
      (repeat (first | (with_reducible refine zok_g ?_ ?_; focus omega) | with_reducible refine zok_j ?_ | (with_reducible refine zok_t ?_ ?_; focus omega) | (with_reducible refine zok_f ?_ ?_; focus omega)))
      have ej : (zf s r 0 - s 2 + 1).toNat = j.toNat := by omega
      exact zok_sr (zok_sl ⟨_, rfl, hJ.1, fun w q0 q1 => by rw [zTm_s hr, zTmr_p hW hr hr2, ej]; exact hJ.2 w q0 q1⟩)
  · dsimp only
    (repeat (first | (with_reducible refine zok_g ?_ ?_; focus omega) | with_reducible refine zok_j ?_ | (with_reducible refine zok_t ?_ ?_; focus omega) | (with_reducible refine zok_f ?_ ?_; focus omega)))
    refine zok_sr ?_
    have er := hr3 (by omega)
    subst er
    (repeat (first | (with_reducible refine zok_g ?_ ?_; focus omega) | with_reducible refine zok_j ?_ | (with_reducible refine zok_t ?_ ?_; focus omega) | (with_reducible refine zok_f ?_ ?_; focus omega)))
    exact zok_s hI
end ZTM
