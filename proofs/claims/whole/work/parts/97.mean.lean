section ZFL
variable {σ : CS} {m : CV} {s : Int → Int}
theorem zFl_32 : ∀ a : Fin 61, ∀ b : Fin 61, FP.fdiv (FP.i2f (iI ((a.val : Nat) : Int))) (FP.i2f (iI (((b.val : Nat) : Int) + 1))) &&& 0x7fffffff ≤ 0x7f800000 := by decide +kernel
theorem zFl_64 : ∀ a : Fin 61, ∀ b : Fin 11, FP.ddiv (FP.i2d (iI ((a.val : Nat) : Int))) (FP.i2d (iI (((b.val : Nat) : Int) + 1))) &&& 0x7fffffffffffffff ≤ 0x7ff0000000000000 := by decide +kernel
theorem zFl_s {a b : Int} (a0 : 0 ≤ a) (a1 : a ≤ 60) (b0 : 1 ≤ b) (b1 : b ≤ 60) : vf_n32 (FP.fdiv (FP.i2f (iI a)) (FP.i2f (iI b))) := by
  have h := zFl_32 ⟨a.toNat, by omega⟩ ⟨(b - 1).toNat, by omega⟩
  have ea : ((a.toNat : Nat) : Int) = a := by omega
  have eb : (((b - 1).toNat : Nat) : Int) + 1 = b := by omega
  rw [ea, eb] at h
  exact h
theorem zFl_d {a b : Int} (a0 : 0 ≤ a) (a1 : a ≤ 60) (b0 : 1 ≤ b) (b1 : b ≤ 10) : vf_n64 (FP.ddiv (FP.i2d (iI a)) (FP.i2d (iI b))) := by
  have h := zFl_64 ⟨a.toNat, by omega⟩ ⟨(b - 1).toNat, by omega⟩
  have ea : ((a.toNat : Nat) : Int) = a := by omega
  have eb : (((b - 1).toNat : Nat) : Int) + 1 = b := by omega
  rw [ea, eb] at h
  exact h
theorem zok_gc {α : Type} {p : Prop} {k : Option α} {Q : α → Prop} (c : p) (h : zOk k Q) : zOk (zGc p k) Q := by
  unfold zGc
  rw [if_pos c]
  exact h
theorem s_agreementShare (h : zRR σ m) : zOk (fX7_agreementShare σ) (fun t => zOk (fX8_agreementShare m) (fun u => zRR t.1 u.1 ∧ t.2 = u.2 ∧ vf_n32 t.2)) := by
  unfold fX7_agreementShare fX8_agreementShare
  have w2 := h.W.2.2.1
  have hc := zCh_r h.W
  have ha := zAg_r h.W
  refine zok_e (b_chosenRows h.W h.B) ?_
  have e2 : (σ 4).1 1 = m.2 2 2 := h.B.2.1
  rw [e2]
  have mc : fX8_chosen (zPu m 0 0) = some (zCh (m.2 2)) := m_chosen (m := zPu m 0 0) (s := m.2 2) rfl h.W
  have pr : 0 ≤ m.2 2 2 * zCh (m.2 2) ∧ m.2 2 2 * zCh (m.2 2) ≤ 60 := by
    constructor
    · exact Int.mul_nonneg (by omega) hc.1
    · exact Int.le_trans (Int.mul_le_mul w2.2 hc.2 hc.1 (by omega)) (by decide)
  by_cases c : zCh (m.2 2) = 0
  · have z : m.2 2 2 * zCh (m.2 2) = 0 := by rw [c, Int.mul_zero]
    rw [z]
    (repeat (first | (with_reducible refine zok_g ?_ ?_; focus omega) | with_reducible refine zok_j ?_ | (with_reducible refine zok_t ?_ ?_; focus omega) | (with_reducible refine zok_f ?_ ?_; focus omega)))
    refine zok_s ?_
    refine zok_e mc ?_
    rw [c]
    (repeat (first | (with_reducible refine zok_g ?_ ?_; focus omega) | with_reducible refine zok_j ?_ | (with_reducible refine zok_t ?_ ?_; focus omega) | (with_reducible refine zok_f ?_ ?_; focus omega)))
    exact zok_s ⟨zRR_0 h, rfl, (show FP.fconst0 &&& 0x7fffffff ≤ 0x7f800000 by decide +kernel)⟩
  · have p1 : 1 ≤ m.2 2 2 * zCh (m.2 2) := Int.le_trans (by decide : (1 : Int) ≤ 2 * 1) (Int.mul_le_mul w2.1 (by omega) (by decide) (by omega))
    refine zok_g ⟨by omega, by omega⟩ ?_
    refine zok_f (by omega) ?_
    unfold fX7_agreement
    refine zok_b (P := fun t => zRR t.1 m ∧ t.2 = zAg (m.2 2)) (zok_b (c_agreementOf h.W h.B) (fun x hx => zok_s ⟨zRR_9 h, hx⟩)) (fun t ht => ?_)
    rw [ht.2]
    refine zok_gc (zFl_s ha.1 ha.2 p1 pr.2) (zok_s ?_)
    refine zok_e mc ?_
    refine zok_g ⟨by omega, by omega⟩ ?_
    refine zok_f c ?_
    refine zok_b (m_agrees (m := zPu m 0 0) (s := m.2 2) rfl h.W) (fun y hy => ?_)
    have y2 : y.1.2 2 = m.2 2 := hy.1.2 2 (by decide)
    rw [hy.2, y2]
    exact zok_gc (zFl_s ha.1 ha.2 p1 pr.2) (zok_s ⟨zRR_x ht.1 hy.1 (by decide) (by decide), rfl, zFl_s ha.1 ha.2 p1 pr.2⟩)
noncomputable def zInn (s : Int → Int) (n : Nat) : Int := zFd (fun r a => if zf s r 2 = 1 then a else a + 1) n 0
theorem zInn_s {r : Int} (h : 0 ≤ r) : zInn s (r + 1).toNat = if zf s r 2 = 1 then zInn s r.toNat else zInn s r.toNat + 1 := zFd_s h
theorem zInn_o (hW : zWf s) (n : Nat) (hn : (n : Int) ≤ s 0) : zInn s n + zFd (fun r a => a + zf s r 2) n 0 = n ∧ 0 ≤ zInn s n ∧ zInn s n ≤ n := by
  induction n with
  | zero => exact ⟨rfl, Int.le_refl 0, Int.le_refl 0⟩
  | succ n ih =>
    have hi := ih (by omega)
    have e1 : zInn s (n + 1) = if zf s n 2 = 1 then zInn s n else zInn s n + 1 := rfl
    have e2 : zFd (fun r a => a + zf s r 2) (n + 1) (0 : Int) = zFd (fun r a => a + zf s r 2) n 0 + zf s n 2 := rfl
    have h2 := (hW.row (r := n) (by omega) (by omega)).2.2.1
    rw [e1, e2]
    split <;> omega
theorem s_meanDistance (h : zRR σ m) : zOk (fX7_meanDistance σ) (fun t => zOk (fX8_meanDistance m) (fun u => zRR t.1 u.1 ∧ t.2 = u.2 ∧ vf_n64 t.2)) := by
  have hW := h.W
  have w0 := hW.1
  have w2 := hW.2.2.1
  have hp := zPop_out hW h.B
  have hi := zInn_o hW (m.2 2 0).toNat (by omega)
  have hsr := zSr_r hW
  have hin : (σ 4).1 3 - zPop ((σ 4).1 4) = zInn (m.2 2) (m.2 2 0).toNat := by
    rw [hp, h.B.2.2.2.1]
    omega
  -- the model
  have mod : ∀ t : CS × UInt64, zRR t.1 m → vf_n64 t.2 → (zInn (m.2 2) (m.2 2 0).toNat = 0 ∧ t.2 = FP.dconst0 ∨ zInn (m.2 2) (m.2 2 0).toNat ≠ 0 ∧ t.2 = FP.ddiv (FP.i2d (iI (zSr (m.2 2)).2.1)) (FP.i2d (iI (zInn (m.2 2) (m.2 2 0).toNat)))) → zOk (fX8_meanDistance m) (fun u => zRR t.1 u.1 ∧ t.2 = u.2 ∧ vf_n64 t.2) := by
    intro t ht hv hcase
    unfold fX8_meanDistance
    refine zok_F (mk := fun a i => (a, i)) (m.2 2 0) (fun i a => (0 ≤ a ∧ a ≤ i) ∧ a = zInn (m.2 2) i.toNat) rfl (by omega) ⟨⟨Int.le_refl 0, Int.le_refl 0⟩, rfl⟩ (fun i a hi hi2 hI => ?_) (fun i a hi hi2 hi3 hi4 hI => ?_)
    · dsimp only
      (repeat (first | (with_reducible refine zok_g ?_ ?_; focus omega) | with_reducible refine zok_j ?_ | (with_reducible refine zok_t ?_ ?_; focus omega) | (with_reducible refine zok_f ?_ ?_; focus omega)))
      refine zok_e (m_isOut (m := zPu m 0 0) (s := m.2 2) rfl hW hi hi2) ?_
      have eS := zInn_s (s := m.2 2) hi
      rw [← hI.2] at eS
      (repeat (first | (with_reducible refine zok_g ?_ ?_; focus omega) | with_reducible refine zok_j ?_ | (with_reducible refine zok_t ?_ ?_; focus omega) | (with_reducible refine zok_f ?_ ?_; focus omega)))
      refine zok_i (fun c => ?_) (fun c => ?_)
      · rw [if_pos (of_decide_eq_true c)] at eS
        refine zok_e (m_truth (by decide)) (zok_sl ⟨_, rfl, ?_, ?_⟩)
        · rw [if_pos rfl]; omega
        · rw [if_pos rfl, eS]; omega
      · rw [if_neg (fun z => c (decide_eq_true z))] at eS
        refine zok_e (m_truth (by decide)) (zok_sl ⟨_, rfl, ?_, ?_⟩)
        · rw [if_neg (by decide)]; omega
        · rw [if_neg (by decide), eS]
    · dsimp only
      (repeat (first | (with_reducible refine zok_g ?_ ?_; focus omega) | with_reducible refine zok_j ?_ | (with_reducible refine zok_t ?_ ?_; focus omega) | (with_reducible refine zok_f ?_ ?_; focus omega)))
      refine zok_sr ?_
      have ei := hi3 (by omega)
      subst ei
      dsimp only
      rw [hI.2]
      have hr := hI.1
      rcases hcase with ⟨c, e⟩ | ⟨c, e⟩
      · rw [c]
        (repeat (first | (with_reducible refine zok_g ?_ ?_; focus omega) | with_reducible refine zok_j ?_ | (with_reducible refine zok_t ?_ ?_; focus omega) | (with_reducible refine zok_f ?_ ?_; focus omega)))
        exact zok_s ⟨zRR_0 ht, e, hv⟩
      · refine zok_g ⟨by omega, by omega⟩ ?_
        refine zok_f c ?_
        refine zok_b (m_searches (m := zPu m 0 0) (s := m.2 2) hW rfl) (fun g hg => ?_)
        obtain ⟨g1, g2, g3, g4⟩ := zM_p hg.2
        rw [g2]
        exact zok_gc (by rw [← e]; exact hv) (zok_s ⟨zRR_x ht hg.1 (by decide) (by decide), e, hv⟩)
  unfold fX7_meanDistance
  rw [hin]
  by_cases c : zInn (m.2 2) (m.2 2 0).toNat = 0
  · rw [c]
    (repeat (first | (with_reducible refine zok_g ?_ ?_; focus omega) | with_reducible refine zok_j ?_ | (with_reducible refine zok_t ?_ ?_; focus omega) | (with_reducible refine zok_f ?_ ?_; focus omega)))
    exact zok_s (mod (σ, FP.dconst0) h (show FP.dconst0 &&& 0x7fffffffffffffff ≤ 0x7ff0000000000000 by decide +kernel) (Or.inl ⟨c, rfl⟩))
  · refine zok_g ⟨by omega, by omega⟩ ?_
    refine zok_f (by omega) ?_
    (repeat (first | (with_reducible refine zok_g ?_ ?_; focus omega) | with_reducible refine zok_j ?_ | (with_reducible refine zok_t ?_ ?_; focus omega) | (with_reducible refine zok_f ?_ ?_; focus omega)))
    refine zok_b (x_searched h) (fun ρ hρ => ?_)
    obtain ⟨p1, p2, p3, p4⟩ := zSq_p hρ.2.2.1.2.2.2
    rw [p2]
    have hv : vf_n64 (FP.ddiv (FP.i2d (iI (zSr (m.2 2)).2.1)) (FP.i2d (iI (zInn (m.2 2) (m.2 2 0).toNat)))) := zFl_d (by have := hsr.2; omega) (by have := hsr.2; omega) (by omega) (by omega)
    exact zok_gc hv (zok_s (mod (ρ, _) hρ.2.2.2.2.2.2 hv (Or.inr ⟨c, rfl⟩)))
end ZFL
