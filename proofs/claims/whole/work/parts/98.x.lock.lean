section ZLO
variable {bf : Int → Int} {n : Int}
theorem zTE_X {T t m : CV} (h : zTE bf n T m) (hx : zTX bf n T t) : zTE bf n t m := by
  obtain ⟨a, b, c, d, e⟩ := h
  refine ⟨hx.1, b, ?_, ?_, e⟩
  · rw [hx.2.1 6 (by decide)]; exact c
  · rw [hx.2.1 7 (by decide)]; exact d
theorem zTE.ne {T m : CV} (h : zTE bf n T m) : T.1 6 ≠ 0 ∧ iR (T.1 6) := by
  obtain ⟨a, b, c, d, e⟩ := h
  exact ⟨by omega, by omega, by omega⟩
theorem zTE_m {T m u : CV} {ns js : List Nat} (h : zTE bf n T m) (e : zEx ns js m u) (h1 : 9 ∉ ns) (h2 : 10 ∉ ns) : zTE bf n T u := by
  unfold zTE at h ⊢
  rw [e.1 9 h1, e.1 10 h2]
  exact h
theorem zTR_m {T m u : CV} {ns js : List Nat} (h : zTR bf n T m) (e : zEx ns js m u) (h1 : ∀ k ∈ [3, 4, 5, 6, 7, 8, 9, 10, 13], k ∉ ns) (h2 : 1 ∉ js) : zTR bf n T u := by
  obtain ⟨hT, hM, ⟨e1, e2, e3⟩, c1, c2, c3, c4⟩ := h
  refine ⟨hT, zMv_E hM e (fun k hk => h1 k ?_) h2, ?_, ?_⟩
  · revert k; decide
  · rw [e.1 6 (h1 6 (by decide)), e.1 5 (h1 5 (by decide)), e.1 4 (h1 4 (by decide))]
    exact ⟨e1, e2, e3⟩
  · rw [e.1 9 (h1 9 (by decide)), e.1 10 (h1 10 (by decide))]
    exact ⟨c1, c2, c3, c4⟩
theorem z_nx2 {T t m : CV} (h : zTR bf n T m) (ht : zTX bf n T t ∧ zTok bf n (T.1 5) (t.1 4) (t.1 5) (t.1 2)) : zOk (fX8_goOn m) (fun u => zTR bf n t u ∧ zEx [4, 5, 6, 7, 8, 13] [] m u) := by
  obtain ⟨hT, hM, ⟨e1, e2, e3⟩, c1, c2, c3, c4⟩ := h
  refine zok_w (y_goOn hM) (fun u hu => ?_)
  have e := zTok_u ht.2 (by rw [e3]; exact hu.2)
  refine ⟨⟨ht.1.1, hu.1.1, ⟨e.2.2, e.1, e.2.1⟩, ?_, ?_, ?_, ?_⟩, hu.1.2⟩
  · rw [ht.1.2.1 6 (by decide)]; exact c1
  · rw [hu.1.2.1 9 (by decide)]; exact c2
  · rw [ht.1.2.1 7 (by decide)]; exact c3
  · rw [hu.1.2.1 10 (by decide)]; exact c4
/-- the class goes on behind an error -/
theorem x_passMarkX {T : CV} {c : Int} (h : zTcv bf n T) (h6 : T.1 6 ≠ 0) (hr : iR (T.1 6)) (hc : 0 ≤ c ∧ c < 128) : zOk (fX6_passMark T c) (fun t => zTX bf n T t) := by
  unfold fX6_passMark
  refine zok_e (x_isMark h hc) ?_
  refine zok_i (fun c1 => zok_b (x_next h) (fun t ht => zok_s ht.1)) (fun c1 => zok_e (x_failX h6 hr) (zok_s (zTX_0 h)))
theorem x_passNumberX {T : CV} {a b : Int} (h : zTcv bf n T) (h6 : T.1 6 ≠ 0) (hr : iR (T.1 6)) (ha : iR a) (hb : iR b) : zOk (fX6_passNumber T a b) (fun t => zTX bf n T t.1) := by
  obtain ⟨r1, r2, r3, r4, r5, r6, r7, r8, r9, r10⟩ := h.r
  unfold fX6_passNumber
  refine zok_g (by omega) ?_
  refine zok_i (fun c1 => ?_) (fun c1 => zok_e (x_failX h6 hr) (zok_s (zTX_0 h)))
  have e := h.2.2 c1
  have h9 := r9 c1
  have hv := zNum_r (bf := bf) (p := T.1 4) (k := T.1 5 - T.1 4) (by omega) h9.2.1 (fun j j0 j1 => h9.2.2 j j0 (by omega))
  refine zok_jP (fun _ => True) (fun _ _ => zok_e (x_failX h6 hr) (zok_s (zTX_0 h))) (fun K hK => ?_)
  refine zok_g ⟨by omega, ha⟩ ?_
  refine zok_i (fun c2 => hK () trivial) (fun c2 => zok_g hb ?_)
  exact zok_i (fun c3 => zok_b (x_next h) (fun t ht => zok_s ht.1)) (fun c3 => hK () trivial)
/-- what the two readers write down -/
def zwF (T t m u : CV) : Prop := zEx [2, 3, 4, 5, 6, 7] [] T t ∧ zEx [4, 5, 6, 7, 8, 9, 10, 13] [] m u
theorem z_mark {T m : CV} (h : zTR bf n T m) {c : Int} (hc : 0 ≤ c ∧ c < 128) : zOk (fX6_passMark T c) (fun t => zOk (fX8_mustSign m c) (fun u => zwF T t m u ∧ ((zTR bf n t u ∧ T.1 5 ≤ t.1 4) ∨ zTE bf n t u))) := by
  have hh := h
  obtain ⟨hT, hM, ⟨e1, e2, e3⟩, c1, c2, c3, c4⟩ := hh
  unfold fX6_passMark
  refine zok_e (x_isMark hT hc) ?_
  have hs := y_isSign hM c2 hc
  rw [← e1, ← e2] at hs
  refine zok_i (fun q => ?_) (fun q => ?_)
  · rw [decide_eq_true (of_decide_eq_true q)] at hs
    refine zok_b (z_next h) (fun t ht => zok_s ?_)
    unfold fX8_mustSign
    refine zok_e (y_good0 c2) ?_
    refine zok_jP (fun (x : CV) => x = m) (fun x hx => ?_) (fun K hK => zok_t rfl (zok_e hs (zok_t rfl (hK _ rfl))))
    rw [hx]
    refine zok_e (y_good0 c2) (zok_t rfl (zok_b ht (fun u hu => zok_s ⟨⟨zEx_w hu.2.1 (by decide) (by decide), zEx_w hu.2.2.1 (by decide) (by decide)⟩, Or.inl ⟨hu.1, hu.2.2.2⟩⟩)))
  · rw [decide_eq_false (fun z => q (decide_eq_true z))] at hs
    refine zok_b (z_fail h (c := 1) (by decide) (fun _ => rfl)) (fun t ht => zok_s ?_)
    unfold fX8_mustSign
    refine zok_e (y_good0 c2) ?_
    refine zok_jP (fun (x : CV) => zTE bf n t x ∧ zEx [6, 7] [] T t ∧ zEx [9, 10] [] m x) (fun x hx => ?_) (fun K hK => zok_t rfl (zok_e hs (zok_f Bool.false_ne_true (zok_b ht (fun u hu => hK _ hu)))))
    refine zok_e (y_goodE hx.1.2.1) (zok_f Bool.false_ne_true (zok_s ⟨⟨zEx_w hx.2.1 (by decide) (by decide), zEx_w hx.2.2 (by decide) (by decide)⟩, Or.inr hx.1⟩))
theorem y_mustSignE {m : CV} {c : Int} (h : 1 ≤ m.1 9 ∧ m.1 9 ≤ 6) : fX8_mustSign m c = some m := by
  apply zok_q
  unfold fX8_mustSign
  refine zok_e (y_goodE h) ?_
  refine zok_jP (fun (x : CV) => x = m) (fun x hx => ?_) (fun K hK => zok_f Bool.false_ne_true (hK _ rfl))
  rw [hx]
  exact zok_e (y_goodE h) (zok_f Bool.false_ne_true (zok_s rfl))
theorem y_numberE {m : CV} {a b : Int} (h : 1 ≤ m.1 9 ∧ m.1 9 ≤ 6) : fX8_number m a b = some (m, m.1 7) := by
  apply zok_q
  unfold fX8_number
  refine zok_e (y_goodE h) ?_
  refine zok_jP (fun (x : CV) => x = m) (fun x hx => ?_) (fun K hK => zok_f Bool.false_ne_true (hK _ rfl))
  rw [hx]
  refine zok_e (y_goodE h) ?_
  refine zok_jP (fun (x : CV) => x = m) (fun x hx => ?_) (fun K hK => zok_f Bool.false_ne_true (hK _ rfl))
  rw [hx]
  exact zok_e (y_goodE h) (zok_f Bool.false_ne_true (zok_s rfl))
theorem z_number {T m : CV} (h : zTR bf n T m) {a b : Int} (ha : 0 ≤ a ∧ a ≤ 999) (hb : 0 ≤ b ∧ b ≤ 999) : zOk (fX6_passNumber T a b) (fun t => zOk (fX8_number m a b) (fun u => zwF T t.1 m u.1 ∧ ((zTR bf n t.1 u.1 ∧ T.1 5 ≤ t.1.1 4 ∧ t.2 = u.2 ∧ a ≤ u.2 ∧ u.2 ≤ b) ∨ zTE bf n t.1 u.1))) := by
  have hh := h
  obtain ⟨hT, hM, ⟨e1, e2, e3⟩, c1, c2, c3, c4⟩ := hh
  obtain ⟨r1, r2, r3, r4, r5, r6, r7, r8, r9, r10⟩ := hT.r
  unfold fX6_passNumber
  refine zok_g (by omega) ?_
  by_cases q : T.1 2 = 2
  · have h9 := r9 q
    have hv := zNum_r (bf := bf) (p := T.1 4) (k := T.1 5 - T.1 4) (by omega) h9.2.1 (fun j j0 j1 => h9.2.2 j j0 (by omega))
    have eT := hT.2.2 q
    have eM := hM.2.2.1 (by rw [← e1]; exact q)
    rw [← e2, ← e3, ← eT] at eM
    have hin := m_isIn (a := m.1 7) (lo := a) (hi := b) ⟨by omega, by omega⟩ ⟨by omega, by omega⟩ ⟨by omega, by omega⟩
    refine zok_t q ?_
    by_cases g : a ≤ T.1 3 ∧ T.1 3 ≤ b
    · rw [decide_eq_true (by omega)] at hin
      refine zok_jP (fun _ => False) (fun _ z => z.elim) (fun K hK => ?_)
      refine zok_g (by omega) (zok_f (by omega) (zok_g (by omega) (zok_t (by omega) ?_)))
      refine zok_b (z_next h) (fun t ht => zok_s ?_)
      unfold fX8_number
      refine zok_e (y_good0 c2) ?_
      refine zok_jP (fun (x : CV) => x = m) (fun x hx => ?_) (fun K hK => zok_t rfl (zok_g (by omega) (zok_t (by omega) (hK _ rfl))))
      rw [hx]
      refine zok_e (y_good0 c2) ?_
      refine zok_jP (fun (x : CV) => x = m) (fun x hx => ?_) (fun K hK => zok_t rfl (zok_g (by omega) (zok_g (by omega) (zok_g (by omega) (zok_e hin (zok_t rfl (hK _ rfl)))))))
      rw [hx]
      refine zok_e (y_good0 c2) (zok_t rfl (zok_b ht (fun u hu => zok_s ⟨⟨zEx_w hu.2.1 (by decide) (by decide), zEx_w hu.2.2.1 (by decide) (by decide)⟩, Or.inl ⟨hu.1, hu.2.2.2, eM.symm, ?_, ?_⟩⟩)))
      · show a ≤ m.1 7
        omega
      · show m.1 7 ≤ b
        omega
    · rw [decide_eq_false (by omega)] at hin
      refine zok_jP (fun _ => True) (fun _ _ => ?_) (fun K hK => ?_)
      · refine zok_b (z_fail h (c := 2) (by decide) (fun z => by omega)) (fun t ht => zok_s ?_)
        unfold fX8_number
        refine zok_e (y_good0 c2) ?_
        refine zok_jP (fun (x : CV) => x = m) (fun x hx => ?_) (fun K hK => zok_t rfl (zok_g (by omega) (zok_t (by omega) (hK _ rfl))))
        rw [hx]
        refine zok_e (y_good0 c2) ?_
        refine zok_jP (fun (x : CV) => zTE bf n t x ∧ zEx [6, 7] [] T t ∧ zEx [9, 10] [] m x) (fun x hx => ?_) (fun K hK => zok_t rfl (zok_g (by omega) (zok_g (by omega) (zok_g (by omega) (zok_e hin (zok_f Bool.false_ne_true (zok_b ht (fun u hu => hK _ hu))))))))
        refine zok_e (y_goodE hx.1.2.1) (zok_f Bool.false_ne_true (zok_s ⟨⟨zEx_w hx.2.1 (by decide) (by decide), zEx_w hx.2.2 (by decide) (by decide)⟩, Or.inr hx.1⟩))
      · refine zok_g (by omega) ?_
        refine zok_i (fun c2 => hK () trivial) (fun c2 => zok_g (by omega) ?_)
        exact zok_f (by omega) (hK () trivial)
  · refine zok_f q ?_
    refine zok_b (z_fail h (c := 1) (by decide) (fun _ => rfl)) (fun t ht => zok_s ?_)
    unfold fX8_number
    refine zok_e (y_good0 c2) ?_
    refine zok_jP (fun (x : CV) => zTE bf n t x ∧ zEx [6, 7] [] T t ∧ zEx [9, 10] [] m x) (fun x hx => ?_) (fun K hK => zok_t rfl (zok_g (by omega) (zok_f (by omega) (zok_b ht (fun u hu => hK _ hu)))))
    refine zok_e (y_goodE hx.1.2.1) ?_
    refine zok_jP (fun (y : CV) => y = x) (fun y hy => ?_) (fun K hK => zok_f Bool.false_ne_true (hK _ rfl))
    rw [hy]
    exact zok_e (y_goodE hx.1.2.1) (zok_f Bool.false_ne_true (zok_s ⟨⟨zEx_w hx.2.1 (by decide) (by decide), zEx_w hx.2.2 (by decide) (by decide)⟩, Or.inr hx.1⟩))
theorem z_isWord {T m : CV} (h : zTR bf n T m) {w : List Int} (hw : zLet w) (hl : w.length ≤ 8) : ∃ b, fX6_isWord T (zUpc w) = some b ∧ fX8_isWord m (z5 w) = some b ∧ (b = true → T.1 2 = 1) := by
  obtain ⟨hT, hM, ⟨e1, e2, e3⟩, c1, c2, c3, c4⟩ := h
  have a := x_isWord hT hw (by omega)
  have b := y_isWord hM c2 hw hl
  rw [← e1, ← e2, ← e3] at b
  exact ⟨_, a, b, fun z => (of_decide_eq_true z).1⟩
/-- two loops, side by side -/
theorem zok_LL {σ ρ τ π α : Type} {A : σ → Option (σ ⊕ ρ)} {B : τ → Option (τ ⊕ π)} {k : ρ → Option α} {Q : α → π → Prop} (I : σ → τ → Prop) (μ : σ → Nat) {s0 : σ} {t0 : τ} (h0 : I s0 t0) (hm : μ s0 < 100000)
    (hs : ∀ s t, I s t → zOk (A s) (fun a => zOk (B t) (fun b => Sum.elim (fun s' => Sum.elim (fun t' => I s' t' ∧ μ s' < μ s) (fun _ => False) b) (fun y => Sum.elim (fun _ => False) (fun z => zOk (k y) (fun u => Q u z)) b) a))) :
    zOk ((zLp A zFu s0).bind k) (fun u => zOk (zLp B zFu t0) (fun z => Q u z)) := by
  have key : ∀ (N : Nat) (s : σ) (t : τ), I s t → μ s ≤ N → ∀ fa fb, N < fa → N < fb → zOk (zLp A fa s) (fun y => zOk (zLp B fb t) (fun z => zOk (k y) (fun u => Q u z))) := by
    intro N
    induction N with
    | zero =>
      intro s t hI hN fa fb ha hb
      obtain ⟨a, ea, b, eb, h⟩ := hs s t hI
      cases fa with
      | zero => omega
      | succ fa =>
        cases fb with
        | zero => omega
        | succ fb =>
          unfold zLp
          rw [ea, eb]
          cases a with
          | inl s' =>
            cases b with
            | inl t' => exact absurd (show I s' t' ∧ μ s' < μ s from h).2 (by omega)
            | inr z => exact absurd h id
          | inr y =>
            cases b with
            | inl t' => exact absurd h id
            | inr z => exact ⟨y, rfl, z, rfl, h⟩
    | succ N ih =>
      intro s t hI hN fa fb ha hb
      obtain ⟨a, ea, b, eb, h⟩ := hs s t hI
      cases fa with
      | zero => omega
      | succ fa =>
        cases fb with
        | zero => omega
        | succ fb =>
          unfold zLp
          rw [ea, eb]
          cases a with
          | inl s' =>
            cases b with
            | inl t' =>
              have h' : I s' t' ∧ μ s' < μ s := h
              exact ih s' t' h'.1 (by omega) fa fb (by omega) (by omega)
            | inr z => exact absurd h id
          | inr y =>
            cases b with
            | inl t' => exact absurd h id
            | inr z => exact ⟨y, rfl, z, rfl, h⟩
  obtain ⟨y, ey, z, ez, u, eu, hq⟩ := key (μ s0) s0 t0 h0 (Nat.le_refl _) zFu zFu (by unfold zFu; omega) (by unfold zFu; omega)
  exact zok_e ey ⟨u, eu, z, ez, hq⟩
end ZLO
