section ZNU
/-- the rooms that the second search may ask for: letters, length -/
def zrPs : List (Int × Nat) := [(2, 2), (2, 3), (2, 4), (2, 5), (2, 6), (3, 2), (3, 3), (3, 4), (3, 5), (3, 6), (4, 2), (4, 3), (4, 4), (4, 5), (4, 6)]
def zrB (V : CV) (p : Int × Nat) : Bool := decide (zWd p.1 p.2 ≤ V.1 100 ∧ zWd p.1 p.2 ≤ V.1 102 ∧ zBe p.1 p.2 ≤ V.1 101)
/-- how many of them it hasn't got -/
def zrNu (σ : CS) : Nat := zrPs.countP (fun p => !zrB (σ 8) p)
theorem zrP_lt {α : Type} {p q : α → Bool} {a : α} : ∀ (l : List α), (∀ x ∈ l, p x = true → q x = true) → a ∈ l → p a = false → q a = true → l.countP p + 1 ≤ l.countP q := by
  intro l
  induction l with
  | nil => intro _ h; cases h
  | cons b l ih =>
    intro h ha hp hq
    have h2 : ∀ x ∈ l, p x = true → q x = true := fun x hx => h x (List.mem_cons_of_mem _ hx)
    have hm : l.countP p ≤ l.countP q := List.countP_mono_left h2
    by_cases c : a = b
    · subst c
      rw [List.countP_cons_of_neg (by rw [hp]; decide), List.countP_cons_of_pos hq]
      omega
    · have hl : a ∈ l := by
        rcases List.mem_cons.mp ha with e | e
        · exact absurd e c
        · exact e
      have hi := ih h2 hl hp hq
      rw [List.countP_cons, List.countP_cons]
      have hb := h b List.mem_cons_self
      have e1 : ((if p b = true then 1 else 0 : Nat) ≤ (if q b = true then 1 else 0 : Nat)) := by
        by_cases c2 : p b = true
        · rw [if_pos c2, if_pos (hb c2)]
          exact Nat.le_refl _
        · rw [if_neg c2]
          exact Nat.zero_le _
      revert e1
      generalize (if p b = true then 1 else 0 : Nat) = x
      generalize (if q b = true then 1 else 0 : Nat) = y
      intro e1
      omega
theorem zrNu_k {V W : CV} (h : ∀ p, zrB V p = true → zrB W p = true) (p : Int × Nat) (hq : (!zrB W p) = true) : (!zrB V p) = true := by
  rw [Bool.not_eq_true'] at hq ⊢
  exact Bool.eq_false_iff.mpr (fun z => by rw [h p z] at hq; cases hq)
theorem zrNu_le {σ τ : CS} (h : ∀ p, zrB (σ 8) p = true → zrB (τ 8) p = true) : zrNu τ ≤ zrNu σ := by
  unfold zrNu
  exact List.countP_mono_left (fun p _ hq => zrNu_k h p hq)
theorem zrNu_lt {σ τ : CS} {p : Int × Nat} (h : ∀ p, zrB (σ 8) p = true → zrB (τ 8) p = true) (hp : p ∈ zrPs) (h1 : zrB (σ 8) p = false) (h2 : zrB (τ 8) p = true) : zrNu τ + 1 ≤ zrNu σ := by
  unfold zrNu
  exact zrP_lt (p := fun p => !zrB (τ 8) p) (q := fun p => !zrB (σ 8) p) (a := p) zrPs (fun x _ hq => zrNu_k h x hq) hp (by show (!zrB (τ 8) p) = false; rw [h2]; rfl) (by show (!zrB (σ 8) p) = true; rw [h1]; rfl)
theorem zrNu_15 {σ : CS} : zrNu σ ≤ 15 := by
  unfold zrNu
  exact List.countP_le_length
theorem zrNu_E {σ τ : CS} (h : zvE τ σ) : zrNu τ ≤ zrNu σ := zrNu_le (fun p hp => by
  unfold zrB at hp ⊢
  rw [h.1, h.2.1, h.2.2]
  exact hp)
theorem zrP_m {a n : Int} (h : 2 ≤ a ∧ a ≤ 4) (h2 : 2 ≤ n ∧ n ≤ 6) : (a, n.toNat) ∈ zrPs := by
  have h3 : a = 2 ∨ a = 3 ∨ a = 4 := by omega
  have h4 : n = 2 ∨ n = 3 ∨ n = 4 ∨ n = 5 ∨ n = 6 := by omega
  rcases h3 with e | e | e <;> rcases h4 with e2 | e2 | e2 | e2 | e2 <;> subst e <;> subst e2 <;> decide
theorem zrB_Nd {V B : CV} : zNd V B = if zrB V (B.1 0, (B.1 1).toNat) = true then 0 else 1 := by
  unfold zNd zrB
  dsimp only
  by_cases c : zWd (B.1 0) (B.1 1).toNat ≤ V.1 100 ∧ zWd (B.1 0) (B.1 1).toNat ≤ V.1 102 ∧ zBe (B.1 0) (B.1 1).toNat ≤ V.1 101
  · rw [if_pos c, if_pos (decide_eq_true c)]
  · rw [if_neg c, if_neg (fun z => c (of_decide_eq_true z))]
variable {σ : CS} {m : CV}
theorem zrPm (h : zRR σ m) : ((σ 4).1 0, ((σ 4).1 1).toNat) ∈ zrPs := by
  have w := h.W
  unfold zWf at w
  rw [h.B.1, h.B.2.1]
  exact zrP_m w.2.1 w.2.2.1
theorem zrNd_le (h : zRR σ m) : zNd (σ 8) (σ 4) ≤ zrNu σ := by
  rw [zrB_Nd]
  split
  · exact Nat.zero_le _
  · rename_i c
    have e : 0 < zrPs.countP (fun p => !zrB (σ 8) p) := List.countP_pos_iff.mpr ⟨_, zrPm h, by show (!zrB (σ 8) _) = true; rw [Bool.eq_false_iff.mpr c]; rfl⟩
    exact e
theorem zSb_le {a : Int} : zSb σ a ≤ zNd (σ 8) (σ 4) := by
  unfold zSb
  split
  · exact Nat.le_refl _
  · exact Nat.zero_le _
theorem zr_Sb (h : zRR σ m) {a : Int} : zSb σ a ≤ zrNu σ ∧ zSb σ a ≤ 1 := ⟨Nat.le_trans zSb_le (zrNd_le h), Nat.le_trans zSb_le zNd_1⟩
theorem zr_second (h : zRR σ m) {w : Int} (hw : iR w) : zOk (fX7_second σ w) (fun t => zrNu t.1 + zSb σ w ≤ zrNu σ) := by
  unfold fX7_second
  have hy := zWy_c (s := m.2 2) (w := (zSr (m.2 2)).1)
  have ⟨v0, v1⟩ := zSr_w h.W
  by_cases c : 0 ≤ w ∧ w ≤ 1
  · obtain ⟨ρ, eρ, ρk, ρ8, ρS, ρC, _, _, hρ⟩ := x_searched h
    have e9 := (zSq_p ρS.2.2.2).1
    have hra := b_reasonAgainst hρ.W hρ.B v0 v1
    have e8 : ρ 8 = σ 8 := ρk 8 (by decide)
    (repeat (first | (with_reducible refine zok_g ?_ ?_; focus omega) | with_reducible refine zok_j ?_ | (with_reducible refine zok_t ?_ ?_; focus omega) | (with_reducible refine zok_f ?_ ?_; focus omega)))
    refine zok_e eρ ?_
    rw [e9]
    refine zok_e hra ?_
    (repeat (first | (with_reducible refine zok_g ?_ ?_; focus omega) | with_reducible refine zok_j ?_ | (with_reducible refine zok_t ?_ ?_; focus omega) | (with_reducible refine zok_f ?_ ?_; focus omega)))
    refine zok_i (fun cy => ?_) (fun cy => zok_s ?_)
    · have h46 := (zHas h.W cy).1
      have hzb : zSb σ w = zNd (σ 8) (σ 4) := by
        unfold zSb
        rw [eρ]
        show (if (0 ≤ w ∧ w ≤ 1) ∧ fX0_reasonAgainst (ρ 4) ((ρ 7).1 9) = some 0 then _ else _) = _
        rw [e9, hra, cy, if_pos ⟨c, rfl⟩]
      refine zok_b (b_copyB hρ.2.1) (fun V hV => ?_)
      refine zok_b (c_cover h.W hV.2.1 v0 v1) (fun x hx => ?_)
      rw [if_pos cy] at hx
      have hT : zB1 x.1 (zTk (m.2 2) (zSr (m.2 2)).1) (m.2 7) := zB1_tk hV v0 v1 cy hx.1 hx.2.2
      have e12 := zTk_12 h.W (w := (zSr (m.2 2)).1)
      have hcap8 := h.2.2.2.2.1.2
      have hnd : zNd (ρ 8) x.1 = zNd (σ 8) (σ 4) := by
        rw [e8, zNd_e h.W hcap8.1 (hT.2.1.1.trans e12.1) (hT.2.1.2.1.trans e12.2), zNd_e h.W hcap8.1 h.B.1 h.B.2.1]
      rw [hnd, hzb]
      (repeat (first | (with_reducible refine zok_g ?_ ?_; focus omega) | with_reducible refine zok_j ?_ | (with_reducible refine zok_t ?_ ?_; focus omega) | (with_reducible refine zok_f ?_ ?_; focus omega)))
      refine zok_b (c_go hT.1 hT.2.1 (by rw [e8]; exact hcap8.1) (by rw [e8]; exact hcap8.2)) (fun T hTT => ?_)
      obtain ⟨T8, TS, TC, T100, T101⟩ := hTT
      have key : zrNu (zSu (zSu (zSu ρ 6 V) 6 x.1) 8 T) + zNd (σ 8) (σ 4) ≤ zrNu σ := by
        have c1 := hcap8.1
        have t1 := TC
        unfold zCap at c1 t1
        rw [e8] at T100 T101
        have m0 : ∀ a b : Int, a ≤ zMax a b := fun a b => by unfold zMax; split <;> omega
        have hmono : ∀ p, zrB (σ 8) p = true → zrB (zSu (zSu (zSu ρ 6 V) 6 x.1) 8 T 8) p = true := fun p hp => by
          rw [zSu_s]
          unfold zrB at hp ⊢
          have hp := of_decide_eq_true hp
          have q1 := m0 ((σ 8).1 100) (zWords (zTk (m.2 2) (zSr (m.2 2)).1))
          have q2 := m0 ((σ 8).1 101) (zLv (zTk (m.2 2) (zSr (m.2 2)).1) (zTk (m.2 2) (zSr (m.2 2)).1 2 + 1))
          exact decide_eq_true ⟨by omega, by omega, by omega⟩
        have hnd2 : zNd T (σ 4) = 0 := by
          have z := zSoT_nd hT.1 TS TC hT.2.1.1 hT.2.1.2.1
          have z1 : zNd T x.1 = zNd T (σ 4) := by
            rw [zNd_e h.W TC (hT.2.1.1.trans e12.1) (hT.2.1.2.1.trans e12.2), zNd_e h.W TC h.B.1 h.B.2.1]
          rw [← z1]
          exact z
        rw [zrB_Nd] at hnd2 ⊢
        split
        · exact zrNu_le hmono
        · rename_i c3
          refine zrNu_lt hmono (zrPm h) (Bool.eq_false_iff.mpr c3) ?_
          rw [zSu_s]
          cases e : zrB T ((σ 4).1 0, ((σ 4).1 1).toNat) with
          | true => rfl
          | false => rw [e] at hnd2; exact absurd hnd2 (by decide)
      exact zok_i (fun _ => zok_s key) (fun _ => zok_s key)
    · have hzb : zSb σ w = 0 := by
        unfold zSb
        rw [eρ]
        show (if (0 ≤ w ∧ w ≤ 1) ∧ fX0_reasonAgainst (ρ 4) ((ρ 7).1 9) = some 0 then _ else _) = _
        rw [e9, hra, if_neg (fun z => cy (Option.some.inj z.2))]
      rw [hzb]
      show zrNu ρ + 0 ≤ zrNu σ
      rw [Nat.add_zero]
      exact zrNu_le (fun p hp => by rw [e8]; exact hp)
  · have hzb : zSb σ w = 0 := by
      unfold zSb
      rw [if_neg (fun z => c z.1)]
    rw [hzb]
    have e : zOk (some (σ, (Sum.inr zIA : Int ⊕ String))) (fun t => zrNu t.1 + 0 ≤ zrNu σ) := zok_s (Nat.le_refl _)
    by_cases c1 : w < 0
    · (repeat (first | (with_reducible refine zok_g ?_ ?_; focus omega) | with_reducible refine zok_j ?_ | (with_reducible refine zok_t ?_ ?_; focus omega) | (with_reducible refine zok_f ?_ ?_; focus omega)))
      exact e
    · (repeat (first | (with_reducible refine zok_g ?_ ?_; focus omega) | with_reducible refine zok_j ?_ | (with_reducible refine zok_t ?_ ?_; focus omega) | (with_reducible refine zok_f ?_ ?_; focus omega)))
      exact e
theorem zr_second2 (h : zRR σ m) {w : Int} {t : CS} {r : Int ⊕ String} (e : fX7_second σ w = some (t, r)) : zrNu t + zSb σ w ≤ zrNu σ := by
  have hw : iR w := by
    have e2 := e
    unfold fX7_second zJn at e2
    exact (zgi e2).1
  obtain ⟨x, e1, e2⟩ := zr_second h hw
  rw [e] at e1
  cases e1
  exact e2
end ZNU
theorem zr_F : zvF zrNu := ⟨fun σ a0 a1 a2 a3 a4 t r e => zrNu_E ((kq_feed (t, r) e).1), fun σ a0 t r e => zrNu_E ((kq_truncate (t, r) e).1), fun σ t r e => zrNu_E ((kq_readText (t, r) e).1), fun σ t r e => zrNu_E ((kq_runScript (t, r) e).1), fun σ a0 a1 t r e => zrNu_E ((kq_shared (t, r) e).1), fun σ a0 a1 a2 t r e => zrNu_E ((kq_sharedAt (t, r) e).1), fun σ a0 t r e => zrNu_E ((kq_timesOf (t, r) e).1), fun σ a0 t r e => zrNu_E ((kq_best (t, r) e).1), fun σ a0 t r e => zrNu_E ((kq_mostHad (t, r) e).1), fun σ a0 t r e => zrNu_E ((kq_scoreWithout (t, r) e).1), fun σ a0 t r e => zrNu_E ((kq_rankOf (t, r) e).1), fun σ m a0 t r h e => zr_second2 h e, fun σ a0 a1 t r e => zrNu_E ((kq_count (t, r) e).1), fun σ a0 a1 t r e => zrNu_E ((kq_weight (t, r) e).1), fun σ a0 a1 t r e => zrNu_E ((kq_tryFrom (t, r) e).1), fun σ a0 t r e => zrNu_E ((kq_bestStart (t, r) e).1), fun σ a0 t r e => zrNu_E ((kq_improvesToEnd (t, r) e).1), fun σ a0 a1 t r e => zrNu_E ((kq_choose (t, r) e).1), fun σ a0 t r e => zrNu_E ((kq_clear (t, r) e).1), fun σ a0 t r e => zrNu_E ((kq_better (t, r) e).1), fun σ a0 t r e => zrNu_E ((kq_improve (t, r) e).1), fun σ a0 t r e => zrNu_E ((kq_take (t, r) e).1), fun σ t r e => zrNu_E ((kq_takeBest (t, r) e).1), fun σ a0 a1 t r e => zrNu_E ((kq_setOut (t, r) e).1), fun σ a0 t r e => zrNu_E ((kq_setChanges (t, r) e).1), fun σ t r e => zrNu_E ((kq_restore (t, r) e).1), fun σ t r e => zrNu_E ((kq_kinds (t, r) e).1), fun σ t r e => zrNu_E ((kq_commonest (t, r) e).1), fun σ t r e => zrNu_E ((kq_outlier (t, r) e).1), fun σ a0 t r e => zrNu_E ((kq_ranked (t, r) e).1), fun σ t r e => zrNu_E ((kq_common (t, r) e).1), fun σ t r e => zrNu_E ((q_agreement (t, r) e).1), fun σ t r e => zrNu_E ((kq_report (t, r) e).1), fun σ t r e => zrNu_E ((kq_undo (t, r) e).1), fun σ t r e => zrNu_E ((kq_save (t, r) e).1), fun σ t r e => zrNu_E ((kq_agreementShare (t, r) e).1), fun σ t r e => zrNu_E ((kq_meanDistance (t, r) e).1), fun σ m a0 h => zr_Sb h⟩
