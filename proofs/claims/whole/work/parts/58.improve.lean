/-! IMPROVING -/
section ZIM
variable {s : Int → Int}
noncomputable def zImf (r : Int) (p : (Int → Int) × Bool) : (Int → Int) × Bool := if zf p.1 r 2 = 1 then p else (zSet p.1 r 1 (zBs p.1 r), p.2 || decide (zf p.1 r 1 ≠ zBs p.1 r))
noncomputable def zImN (s : Int → Int) (n : Nat) : (Int → Int) × Bool := zFd zImf n (s, false)
noncomputable def zIm (s : Int → Int) : (Int → Int) × Bool := zImN s (s 0).toNat
theorem zImN_s {i : Int} (h : 0 ≤ i) : zImN s (i + 1).toNat = zImf i (zImN s i.toNat) := zFd_s h
theorem zImN_W (hW : zWf s) (n : Nat) (hn : (n : Int) ≤ s 0) : zWf (zImN s n).1 ∧ (zImN s n).1 0 = s 0 :=
  zFd_I (f := zImf) (fun _ p => zWf p.1 ∧ p.1 0 = s 0) ⟨hW, rfl⟩ n (fun i p hi hi2 hp => by
    unfold zImf
    split
    · exact hp
    · refine ⟨zSet1_W hp.1 hi (by rw [hp.2]; omega) (zBs_p hp.1), ?_⟩
      show zSet p.1 i 1 _ 0 = s 0
      rw [zSet_c (by omega) hi (by omega)]
      exact hp.2)
theorem zIm_W (hW : zWf s) : zWf (zIm s).1 := (zImN_W hW _ (by have := hW.1; omega)).1
theorem zIm_0 (hW : zWf s) : (zIm s).1 0 = s 0 := (zImN_W hW _ (by have := hW.1; omega)).2
theorem zEqB {a b : Bool} (h : a = true ↔ b = true) : a = b := by
  cases a <;> cases b <;> first | rfl | (exact absurd (h.mp rfl) (by decide)) | (exact absurd (h.mpr rfl) (by decide))
theorem c_improveOnce {P V : CV} (hW : zWf s) (hR : zRB V s) : zOk (fX1_improveOnce P V) (fun t => zRB t.2.1 (zIm s).1 ∧ t.2.2 = (zIm s).2 ∧ t.2.1.2 1 = V.2 1) := by
  unfold fX1_improveOnce
  have w0 := hW.1
  refine zok_F (mk := fun (a : Int × CV × CV) i => (a.1, i, a.2.1, a.2.2)) (a0 := (0, P, V)) (s 0) (fun i a => zRB a.2.2 (zImN s i.toNat).1 ∧ a.1 = b2 (zImN s i.toNat).2 ∧ a.2.2.2 1 = V.2 1) rfl (by omega) ⟨hR, rfl, rfl⟩ (fun i a hi hi2 hI => ?_) (fun i a hi hi2 hi3 hi4 hI => ?_)
  · obtain ⟨hW1, h01⟩ := zImN_W hW i.toNat (by omega)
    obtain ⟨f, Q, U⟩ := a
    obtain ⟨hU, hf, hnm⟩ := hI
    dsimp only at hU hf hnm ⊢
    rw [hU.2.2.2.1, h01]
    (repeat (first | (with_reducible refine zok_g ?_ ?_; focus omega) | with_reducible refine zok_j ?_ | (with_reducible refine zok_t ?_ ?_; focus omega) | (with_reducible refine zok_f ?_ ?_; focus omega)))
    refine zok_e (b_isOut hW1 hU hi (by omega)) ?_
    refine zok_i (fun c => zok_sl ⟨(f, Q, U), rfl, ?_⟩) (fun c => ?_)
    · rw [zImN_s hi]
      unfold zImf
      rw [if_pos (of_decide_eq_true c)]
      exact ⟨hU, hf, hnm⟩
    · refine zok_b (c_betterRow hW1 hU hi (by omega)) (fun t ht => ?_)
      have hU2 := zSet1_R hW1 hU hi (b := zBs (zImN s i.toNat).1 i) (by omega)
      rw [← ht.1] at hU2
      have hn2 : t.2.1.2 1 = V.2 1 := by rw [ht.1, zPa_n (by decide)]; exact hnm
      refine zok_i (fun c2 => zok_sl ⟨(1, t.1, t.2.1), rfl, ?_⟩) (fun c2 => zok_sl ⟨(f, t.1, t.2.1), rfl, ?_⟩)
      · rw [zImN_s hi]
        unfold zImf
        rw [if_neg (fun z => c (decide_eq_true z)), ← ht.2, c2, Bool.or_true]
        exact ⟨hU2, rfl, hn2⟩
      · rw [zImN_s hi]
        unfold zImf
        have c3 : t.2.2 = false := by cases h : t.2.2 with
          | false => rfl
          | true => exact absurd h c2
        rw [if_neg (fun z => c (decide_eq_true z)), ← ht.2, c3, Bool.or_false]
        exact ⟨hU2, hf, hn2⟩
  · obtain ⟨hW1, h01⟩ := zImN_W hW i.toNat (by omega)
    obtain ⟨f, Q, U⟩ := a
    obtain ⟨hU, hf, hnm⟩ := hI
    dsimp only at hU hf hnm ⊢
    rw [hU.2.2.2.1, h01]
    (repeat (first | (with_reducible refine zok_g ?_ ?_; focus omega) | with_reducible refine zok_j ?_ | (with_reducible refine zok_t ?_ ?_; focus omega) | (with_reducible refine zok_f ?_ ?_; focus omega)))
    refine zok_sr ?_
    dsimp only
    have hf2 : f = 0 ∨ f = 1 := by rw [hf]; cases (zImN s i.toNat).2 <;> decide
    (repeat (first | (with_reducible refine zok_g ?_ ?_; focus omega) | with_reducible refine zok_j ?_ | (with_reducible refine zok_t ?_ ?_; focus omega) | (with_reducible refine zok_f ?_ ?_; focus omega)))
    have e := hi3 (by omega)
    subst e
    refine zok_s ⟨hU, ?_, hnm⟩
    show decide (f = 1) = (zImN s (s 0).toNat).2
    rw [hf]
    cases (zImN s (s 0).toNat).2 <;> rfl
theorem m_improvesOnce {m : CV} (hs : m.2 2 = s) (hW : zWf s) : zOk (fX8_improvesOnce m) (fun t => zEx [] [2, 14] m t.1 ∧ t.1.2 2 = (zIm s).1 ∧ t.2 = (zIm s).2) := by
  unfold fX8_improvesOnce
  have w0 := hW.1
  refine zok_F (mk := fun (a : Int × CV) i => (a.1, i, a.2)) (a0 := (0, m)) (s 0) (fun i a => zEx [] [2, 14] m a.2 ∧ a.2.2 2 = (zImN s i.toNat).1 ∧ a.1 = b2 (zImN s i.toNat).2) rfl (by omega) ⟨zEx_0, hs, rfl⟩ (fun i a hi hi2 hI => ?_) (fun i a hi hi2 hi3 hi4 hI => ?_)
  · obtain ⟨hW1, h01⟩ := zImN_W hW i.toNat (by omega)
    obtain ⟨f, U⟩ := a
    obtain ⟨hE, hU, hf⟩ := hI
    dsimp only at hE hU hf ⊢
    rw [hU, h01]
    have hf2 : f = 0 ∨ f = 1 := by rw [hf]; cases (zImN s i.toNat).2 <;> decide
    (repeat (first | (with_reducible refine zok_g ?_ ?_; focus omega) | with_reducible refine zok_j ?_ | (with_reducible refine zok_t ?_ ?_; focus omega) | (with_reducible refine zok_f ?_ ?_; focus omega)))
    refine zok_e (m_isOut hU hW1 hi (by omega)) ?_
    refine zok_i (fun c => zok_sl ⟨(f, U), rfl, ?_⟩) (fun c => ?_)
    · rw [zImN_s hi]
      unfold zImf
      rw [if_pos (of_decide_eq_true c)]
      exact ⟨hE, hU, hf⟩
    · have hch := (hW1.row hi (by omega)).2.1
      refine zok_e (m_of hU (by omega) (by omega)) ?_
      refine zok_b (m_betters hU hW1 hi (by omega)) (fun t ht => ?_)
      rw [ht.2.2]
      have hbr := zBs_i hW1 (r := i) (zf (zImN s i.toNat).1 i 0).toNat
      have hb1 : zBs (zImN s i.toNat).1 i = (zFd (zBsf (zImN s i.toNat).1 i) (zf (zImN s i.toNat).1 i 0).toNat (-1, 0)).1 := rfl
      rw [← hb1] at hbr
      have hsz := (hW1.row hi (by omega)).1
      have hE2 := zEx_t hE ht.1
      (repeat (first | (with_reducible refine zok_g ?_ ?_; focus omega) | with_reducible refine zok_j ?_ | (with_reducible refine zok_t ?_ ?_; focus omega) | (with_reducible refine zok_f ?_ ?_; focus omega)))
      refine zok_i (fun c2 => ?_) (fun c2 => zok_sl ⟨(1, t.1), rfl, ?_⟩)
      · have hres : ∀ g : Int, g = f → (zEx [] [2, 14] m t.1 ∧ t.1.2 2 = (zImN s (i + 1).toNat).1 ∧ g = b2 (zImN s (i + 1).toNat).2) := by
          intro g hg
          rw [zImN_s hi]
          unfold zImf
          rw [if_neg (fun z => c (decide_eq_true z)), decide_eq_false (p := zf (zImN s i.toNat).1 i 1 ≠ zBs (zImN s i.toNat).1 i) (fun z => z c2.symm), Bool.or_false, hg]
          exact ⟨hE2, ht.2.1, hf⟩
        (repeat (first | (with_reducible refine zok_g ?_ ?_; focus omega) | with_reducible refine zok_j ?_ | (with_reducible refine zok_t ?_ ?_; focus omega) | (with_reducible refine zok_f ?_ ?_; focus omega)))
        exact zok_i (fun c3 => zok_sl ⟨(0, t.1), rfl, hres 0 c3.symm⟩) (fun c3 => zok_sl ⟨(1, t.1), rfl, hres 1 (by omega)⟩)
      · rw [zImN_s hi]
        unfold zImf
        rw [if_neg (fun z => c (decide_eq_true z)), decide_eq_true (p := zf (zImN s i.toNat).1 i 1 ≠ zBs (zImN s i.toNat).1 i) (fun z => c2 z.symm), Bool.or_true]
        exact ⟨hE2, ht.2.1, rfl⟩
  · obtain ⟨hW1, h01⟩ := zImN_W hW i.toNat (by omega)
    obtain ⟨f, U⟩ := a
    obtain ⟨hE, hU, hf⟩ := hI
    dsimp only at hE hU hf ⊢
    rw [hU, h01]
    (repeat (first | (with_reducible refine zok_g ?_ ?_; focus omega) | with_reducible refine zok_j ?_ | (with_reducible refine zok_t ?_ ?_; focus omega) | (with_reducible refine zok_f ?_ ?_; focus omega)))
    refine zok_sr ?_
    dsimp only
    have hf2 : f = 0 ∨ f = 1 := by rw [hf]; cases (zImN s i.toNat).2 <;> decide
    (repeat (first | (with_reducible refine zok_g ?_ ?_; focus omega) | with_reducible refine zok_j ?_ | (with_reducible refine zok_t ?_ ?_; focus omega) | (with_reducible refine zok_f ?_ ?_; focus omega)))
    have e := hi3 (by omega)
    subst e
    refine zok_s ⟨hE, hU, ?_⟩
    show decide (f = 1) = (zImN s (s 0).toNat).2
    rw [hf]
    cases (zImN s (s 0).toNat).2 <;> rfl
/-- improving at most n times: the state, and how often -/
noncomputable def zIms : Nat → (Int → Int) → (Int → Int) × Int
  | 0, s => (s, 0)
  | n + 1, s => if (zIm s).2 = true then ((zIms n (zIm s).1).1, (zIms n (zIm s).1).2 + 1) else ((zIm s).1, 1)
theorem zIms_s {n : Nat} : zIms (n + 1) s = if (zIm s).2 = true then ((zIms n (zIm s).1).1, (zIms n (zIm s).1).2 + 1) else ((zIm s).1, 1) := rfl
theorem zIms_W (n : Nat) : ∀ {s : Int → Int}, zWf s → zWf (zIms n s).1 ∧ (zIms n s).1 0 = s 0 ∧ (0 ≤ (zIms n s).2 ∧ (zIms n s).2 ≤ n) := by
  induction n with
  | zero => intro s hW; exact ⟨hW, rfl, Int.le_refl 0, Int.le_refl 0⟩
  | succ n ih =>
    intro s hW
    unfold zIms
    have h := ih (zIm_W hW)
    have h0 := zIm_0 hW
    split
    · exact ⟨h.1, h.2.1.trans h0, by show 0 ≤ _ + (1 : Int); omega, by show _ + (1 : Int) ≤ ((n + 1 : Nat) : Int); omega⟩
    · exact ⟨zIm_W hW, h0, by show (0 : Int) ≤ 1; omega, by show (1 : Int) ≤ ((n + 1 : Nat) : Int); omega⟩
theorem c_improveAtMost {P V : CV} (hW : zWf s) (hR : zRB V s) {n : Int} (h1 : 1 ≤ n) (h2 : n ≤ 1000) : zOk (fX1_improveAtMost P V n) (fun t => zRB t.2.1 (zIms n.toNat s).1 ∧ t.2.2 = (zIms n.toNat s).2 ∧ t.2.1.2 1 = V.2 1) := by
  unfold fX1_improveAtMost
  refine zok_L (I := fun (a : Int × CV × CV) => 1 ≤ a.1 ∧ a.1 ≤ n ∧ a.2.2.2 1 = V.2 1 ∧ ∃ s', zWf s' ∧ zRB a.2.2 s' ∧ (zIms n.toNat s).1 = (zIms (n - a.1 + 1).toNat s').1 ∧ (zIms n.toNat s).2 = (zIms (n - a.1 + 1).toNat s').2 + (a.1 - 1)) (μ := fun a => (n - a.1).toNat) ?_ ?_ ?_
  · refine ⟨Int.le_refl 1, h1, rfl, s, hW, hR, ?_, ?_⟩
    · show _ = (zIms (n - 1 + 1).toNat s).1
      rw [show n - 1 + 1 = n by omega]
    · show _ = (zIms (n - 1 + 1).toNat s).2 + (1 - 1)
      rw [show n - 1 + 1 = n by omega]
      omega
  · show (n - 1).toNat < 100000
    omega
  · rintro ⟨k, Q, U⟩ ⟨hk1, hk2, hnm, s', hW', hU, e1, e2⟩
    dsimp only at hk1 hk2 hnm hU e1 e2 ⊢
    have en : (n - k + 1).toNat = (n - k).toNat + 1 := by omega
    rw [en, zIms_s] at e1 e2
    (repeat (first | (with_reducible refine zok_g ?_ ?_; focus omega) | with_reducible refine zok_j ?_ | (with_reducible refine zok_t ?_ ?_; focus omega) | (with_reducible refine zok_f ?_ ?_; focus omega)))
    refine zok_i (fun c => zok_sr ?_) (fun c => ?_)
    · have ek : k = n := by omega
      subst ek
      refine zok_b (c_improveOnce hW' hU) (fun t ht => zok_s ?_)
      rw [show (k - k).toNat = 0 by omega] at e1 e2
      show zRB t.2.1 _ ∧ k = _ ∧ t.2.1.2 1 = _
      rw [e1, e2]
      split
      · exact ⟨ht.1, by show k = 0 + 1 + (k - 1); omega, ht.2.2.trans hnm⟩
      · exact ⟨ht.1, by show k = 1 + (k - 1); omega, ht.2.2.trans hnm⟩
    · refine zok_b (c_improveOnce hW' hU) (fun t ht => ?_)
      refine zok_i (fun c2 => zok_sl ⟨⟨by show 1 ≤ k + 1; omega, by show k + 1 ≤ n; omega, ht.2.2.trans hnm, (zIm s').1, zIm_W hW', ht.1, ?_, ?_⟩, by show (n - (k + 1)).toNat < (n - k).toNat; omega⟩) (fun c2 => zok_sr (zok_s ?_))
      · rw [ht.2.1] at c2
        rw [if_pos c2] at e1
        show _ = (zIms (n - (k + 1) + 1).toNat _).1
        rw [show n - (k + 1) + 1 = n - k by omega]
        exact e1
      · rw [ht.2.1] at c2
        rw [if_pos c2] at e2
        show _ = (zIms (n - (k + 1) + 1).toNat _).2 + (k + 1 - 1)
        rw [show n - (k + 1) + 1 = n - k by omega, e2]
        show _ + 1 + (k - 1) = _
        omega
      · rw [ht.2.1] at c2
        rw [if_neg c2] at e1 e2
        show zRB t.2.1 _ ∧ k = _ ∧ t.2.1.2 1 = _
        rw [e1, e2]
        exact ⟨ht.1, by show k = 1 + (k - 1); omega, ht.2.2.trans hnm⟩
theorem m_improves {m : CV} (hs : m.2 2 = s) (hW : zWf s) {n : Int} (h1 : 0 ≤ n) (h2 : n ≤ 1000) : zOk (fX8_improves m n) (fun t => zEx [] [2, 14] m t.1 ∧ t.1.2 2 = (zIms n.toNat s).1 ∧ t.2 = (zIms n.toNat s).2) := by
  unfold fX8_improves
  refine zok_L (I := fun (a : Int × Int × CV) => 0 ≤ a.1 ∧ a.1 ≤ n ∧ (a.2.1 = 0 ∨ a.2.1 = 1) ∧ zEx [] [2, 14] m a.2.2 ∧ ∃ s', zWf s' ∧ a.2.2.2 2 = s' ∧ ((a.2.1 = 1 ∧ (zIms n.toNat s).1 = (zIms (n - a.1).toNat s').1 ∧ (zIms n.toNat s).2 = (zIms (n - a.1).toNat s').2 + a.1) ∨ (a.2.1 = 0 ∧ (zIms n.toNat s).1 = s' ∧ (zIms n.toNat s).2 = a.1))) (μ := fun a => (n - a.1).toNat) ?_ ?_ ?_
  · refine ⟨Int.le_refl 0, h1, Or.inr rfl, zEx_0, s, hW, hs, Or.inl ⟨rfl, ?_, ?_⟩⟩
    · show _ = (zIms (n - 0).toNat s).1
      rw [Int.sub_zero]
    · show _ = (zIms (n - 0).toNat s).2 + 0
      rw [Int.sub_zero, Int.add_zero]
  · show (n - 0).toNat < 100000
    omega
  · rintro ⟨k, f, U⟩ ⟨hk1, hk2, hf, hE, s', hW', hU, hC⟩
    dsimp only at hk1 hk2 hf hE hU hC ⊢
    (repeat (first | (with_reducible refine zok_g ?_ ?_; focus omega) | with_reducible refine zok_j ?_ | (with_reducible refine zok_t ?_ ?_; focus omega) | (with_reducible refine zok_f ?_ ?_; focus omega)))
    refine zok_i (fun c => zok_sr (zok_s ?_)) (fun c => ?_)
    · have ek : k = n := by omega
      subst ek
      rcases hC with ⟨_, e1, e2⟩ | ⟨_, e1, e2⟩
      · rw [show (k - k).toNat = 0 by omega] at e1 e2
        exact ⟨hE, hU.trans e1.symm, by rw [e2]; show k = 0 + k; omega⟩
      · exact ⟨hE, hU.trans e1.symm, e2.symm⟩
    · (repeat (first | (with_reducible refine zok_g ?_ ?_; focus omega) | with_reducible refine zok_j ?_ | (with_reducible refine zok_t ?_ ?_; focus omega) | (with_reducible refine zok_f ?_ ?_; focus omega)))
      refine zok_i (fun c2 => zok_sr (zok_s ?_)) (fun c2 => ?_)
      · rcases hC with ⟨z, _⟩ | ⟨_, e1, e2⟩
        · omega
        · exact ⟨hE, hU.trans e1.symm, e2.symm⟩
      · rcases hC with ⟨_, e1, e2⟩ | ⟨z, _⟩
        · have en : (n - k).toNat = (n - (k + 1)).toNat + 1 := by omega
          rw [en, zIms_s] at e1 e2
          refine zok_b (m_improvesOnce hU hW') (fun t ht => zok_sl ⟨⟨by show 0 ≤ k + 1; omega, by show k + 1 ≤ n; omega, ?_, zEx_t hE ht.1, (zIm s').1, zIm_W hW', ht.2.1, ?_⟩, by show (n - (k + 1)).toNat < (n - k).toNat; omega⟩)
          · show b2 t.2 = 0 ∨ b2 t.2 = 1
            cases t.2 <;> decide
          · show (b2 t.2 = 1 ∧ _ = (zIms (n - (k + 1)).toNat _).1 ∧ _ = (zIms (n - (k + 1)).toNat _).2 + (k + 1)) ∨ (b2 t.2 = 0 ∧ _ = _ ∧ _ = k + 1)
            rw [ht.2.2]
            by_cases c3 : (zIm s').2 = true
            · rw [if_pos c3] at e1 e2
              left
              rw [c3]
              refine ⟨rfl, e1, ?_⟩
              rw [e2]
              show _ + 1 + k = _
              omega
            · rw [if_neg c3] at e1 e2
              right
              have c4 : (zIm s').2 = false := by cases h : (zIm s').2 with
                | false => rfl
                | true => exact absurd h c3
              rw [c4]
              refine ⟨rfl, e1, ?_⟩
              rw [e2]
              show 1 + k = k + 1
              omega
        · omega
end ZIM
