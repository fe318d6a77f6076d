section ZLX
variable {bf : Int → Int} {n : Int}
/-! numbers of words -/
theorem z5_inj : ∀ (u w : List Int), zLet u → zLet w → z5 u = z5 w → u = w := by
  have lens : ∀ (u w : List Int), zLet u → zLet w → z5 u = z5 w → u.length < w.length → False := by
    intro u w hu hw e hl
    cases w with
    | nil => exact absurd hl (Nat.not_lt_zero _)
    | cons d w =>
      have h1 := (z5_r u hu).2.1
      have h2 := z5_r w (fun x hx => hw x (List.mem_cons_of_mem _ hx))
      have h3 := hw d List.mem_cons_self
      rw [List.length_cons] at hl
      have h4 : zP2 (5 * (u.length : Int)) ≤ zP2 (5 * (w.length : Int)) := zP2_le (by omega)
      have p := zP2_pos (5 * (w.length : Int))
      have h5 : 1 * zP2 (5 * (w.length : Int)) ≤ d * zP2 (5 * (w.length : Int)) := Int.mul_le_mul_of_nonneg_right h3.1 (by omega)
      rw [z5_c] at e
      omega
  intro u
  induction u with
  | nil =>
    intro w hu hw e
    cases w with
    | nil => rfl
    | cons d w => exact (lens [] (d :: w) hu hw e (Nat.succ_pos _)).elim
  | cons c u ih =>
    intro w hu hw e
    cases w with
    | nil => exact (lens [] (c :: u) hw hu e.symm (Nat.succ_pos _)).elim
    | cons d w =>
      have hl : u.length = w.length := by
        by_cases q : u.length < w.length
        · exact (lens (c :: u) (d :: w) hu hw e (by rw [List.length_cons, List.length_cons]; omega)).elim
        · by_cases q2 : w.length < u.length
          · exact (lens (d :: w) (c :: u) hw hu e.symm (by rw [List.length_cons, List.length_cons]; omega)).elim
          · omega
      have hu' : zLet u := fun x hx => hu x (List.mem_cons_of_mem _ hx)
      have hw' : zLet w := fun x hx => hw x (List.mem_cons_of_mem _ hx)
      have r1 := z5_r u hu'
      have r2 := z5_r w hw'
      rw [hl] at r1
      rw [z5_c, z5_c, hl] at e
      have p := zP2_pos (5 * (w.length : Int))
      have hcd : c = d := by
        by_cases q : c < d
        · have h5 : (c + 1) * zP2 (5 * (w.length : Int)) ≤ d * zP2 (5 * (w.length : Int)) := Int.mul_le_mul_of_nonneg_right (by omega) (by omega)
          rw [Int.add_mul] at h5
          omega
        · by_cases q2 : d < c
          · have h5 : (d + 1) * zP2 (5 * (w.length : Int)) ≤ c * zP2 (5 * (w.length : Int)) := Int.mul_le_mul_of_nonneg_right (by omega) (by omega)
            rw [Int.add_mul] at h5
            omega
          · omega
      subst hcd
      rw [ih w hu' hw' (by omega)]
theorem z8_inj : ∀ (u w : List Int), zLet u → zLet w → z8 u = z8 w → u = w := by
  intro u
  induction u with
  | nil =>
    intro w _ hw e
    cases w with
    | nil => rfl
    | cons d w =>
      have h1 := z8_r w (fun x hx => hw x (List.mem_cons_of_mem _ hx))
      have h2 := hw d List.mem_cons_self
      rw [z8_c] at e
      have e0 : z8 [] = 0 := rfl
      omega
  | cons c u ih =>
    intro w hu hw e
    cases w with
    | nil =>
      have h1 := z8_r u (fun x hx => hu x (List.mem_cons_of_mem _ hx))
      have h2 := hu c List.mem_cons_self
      rw [z8_c] at e
      have e0 : z8 [] = 0 := rfl
      omega
    | cons d w =>
      have h2 := hw d List.mem_cons_self
      have h3 := hu c List.mem_cons_self
      rw [z8_c, z8_c] at e
      have hcd : c = d := by omega
      subst hcd
      rw [ih w (fun x hx => hu x (List.mem_cons_of_mem _ hx)) (fun x hx => hw x (List.mem_cons_of_mem _ hx)) (by omega)]
theorem z8_0 {u : List Int} (h : zLet u) (hl : 1 ≤ u.length) : 0 < z8 u := by
  cases u with
  | nil => exact absurd hl (Nat.not_succ_le_zero _)
  | cons c u =>
    have h1 := z8_r u (fun x hx => h x (List.mem_cons_of_mem _ hx))
    have h2 := h c List.mem_cons_self
    rw [z8_c]
    omega
/-! what is known of a reader -/
def zTcv (bf : Int → Int) (n : Int) (T : CV) : Prop := zTc0 bf n T ∧ (∃ e, (0 ≤ e ∧ e ≤ n) ∧ zTok bf n e (T.1 4) (T.1 5) (T.1 2)) ∧ (T.1 2 = 2 → T.1 3 = zNum bf (T.1 4) (T.1 5 - T.1 4))
def zMv (bf : Int → Int) (n : Int) (m : CV) : Prop := zMc0 bf n m ∧ (∃ e, (0 ≤ e ∧ e ≤ n) ∧ zTok bf n e (m.1 5) (m.1 4) (m.1 6)) ∧ zTv bf m
/-- no error yet -/
def zTR (bf : Int → Int) (n : Int) (T m : CV) : Prop := zTcv bf n T ∧ zMv bf n m ∧ (T.1 2 = m.1 6 ∧ T.1 4 = m.1 5 ∧ T.1 5 = m.1 4) ∧ (T.1 6 = 0 ∧ m.1 9 = 0 ∧ T.1 7 = -1 ∧ m.1 10 = -1)
/-- one and the same error -/
def zTE (bf : Int → Int) (n : Int) (T m : CV) : Prop := zTcv bf n T ∧ (1 ≤ m.1 9 ∧ m.1 9 ≤ 6) ∧ T.1 6 = m.1 9 ∧ T.1 7 = m.1 10 ∧ (0 ≤ m.1 10 ∧ m.1 10 ≤ 600)
/-- the class went on: the error is the same -/
def zTX (bf : Int → Int) (n : Int) (T t : CV) : Prop := zTcv bf n t ∧ zEx [2, 3, 4, 5] [] T t
theorem zTX.t {T t t2 : CV} (h : zTX bf n T t) (h2 : zTX bf n t t2) : zTX bf n T t2 := ⟨h2.1, zEx_t h.2 h2.2⟩
theorem zTX_0 {T : CV} (h : zTcv bf n T) : zTX bf n T T := ⟨h, zEx_0⟩
theorem zTcv.r {T : CV} (h : zTcv bf n T) : (0 ≤ n ∧ n ≤ 600) ∧ 0 ≤ T.1 4 ∧ T.1 4 ≤ T.1 5 ∧ T.1 5 ≤ n ∧ (0 ≤ T.1 2 ∧ T.1 2 ≤ 4) ∧ (T.1 2 ≠ 0 → T.1 4 < T.1 5) ∧ (T.1 2 = 0 → T.1 4 = n) ∧ (T.1 2 = 1 → 1 ≤ T.1 5 - T.1 4 ∧ T.1 5 - T.1 4 ≤ 30 ∧ ∀ j, T.1 4 ≤ j → j < T.1 5 → zcL (bf j)) ∧ (T.1 2 = 2 → 1 ≤ T.1 5 - T.1 4 ∧ T.1 5 - T.1 4 ≤ 3 ∧ ∀ j, T.1 4 ≤ j → j < T.1 5 → zcD (bf j)) ∧ (T.1 2 = 3 → zcS (bf (T.1 4)) ∧ T.1 4 < n) := by
  obtain ⟨h1, ⟨e, he, ht⟩, h3⟩ := h
  obtain ⟨a1, a2, a3, a4, a5, a6, a7, a8, a9, a10⟩ := zTok_r he ht
  exact ⟨h1.2.1, by omega, a2, a3, a4, a5, a6, a7, a8, a9⟩
theorem zTcv_E {T t : CV} {ns js : List Nat} (h : zTcv bf n T) (e : zEx ns js T t) (h1 : ∀ k ∈ [1, 2, 3, 4, 5], k ∉ ns) (h2 : 1 ∉ js) : zTcv bf n t := by
  unfold zTcv zTc0 at h ⊢
  rw [e.1 1 (h1 1 (by decide)), e.1 2 (h1 2 (by decide)), e.1 3 (h1 3 (by decide)), e.1 4 (h1 4 (by decide)), e.1 5 (h1 5 (by decide)), e.2 1 h2]
  exact h
theorem zMv_E {T t : CV} {ns js : List Nat} (h : zMv bf n T) (e : zEx ns js T t) (h1 : ∀ k ∈ [3, 4, 5, 6, 7, 8, 13], k ∉ ns) (h2 : 1 ∉ js) : zMv bf n t := by
  unfold zMv zMc0 zTv at h ⊢
  rw [e.1 3 (h1 3 (by decide)), e.1 4 (h1 4 (by decide)), e.1 5 (h1 5 (by decide)), e.1 6 (h1 6 (by decide)), e.1 7 (h1 7 (by decide)), e.1 8 (h1 8 (by decide)), e.1 13 (h1 13 (by decide)), e.2 1 h2]
  exact h
theorem x_next {T : CV} (h : zTcv bf n T) : zOk (fX6_next T) (fun t => zTX bf n T t ∧ zTok bf n (T.1 5) (t.1 4) (t.1 5) (t.1 2)) := by
  obtain ⟨h1, h2, h3, h4, h5⟩ := h.r
  refine zok_w (c_next h.1 ⟨by omega, h4⟩) (fun t ht => ⟨⟨⟨zTc0_e h.1 ht.1 (by decide) (by decide), ⟨T.1 5, ⟨by omega, h4⟩, ht.2.1⟩, ht.2.2⟩, ht.1⟩, ht.2.1⟩)
theorem y_goOn {m : CV} (h : zMv bf n m) : zOk (fX8_goOn m) (fun t => (zMv bf n t ∧ zEx [4, 5, 6, 7, 8, 13] [] m t) ∧ zTok bf n (m.1 4) (t.1 5) (t.1 4) (t.1 6)) := by
  obtain ⟨h1, ⟨e, he, ht⟩, h3⟩ := h
  obtain ⟨a1, a2, a3, a4, a5, a6, a7, a8, a9, a10⟩ := zTok_r he ht
  refine zok_w (m_goOn h1 ⟨by omega, a3⟩) (fun t ht => ⟨⟨⟨zMc0_e h1 ht.1 (by decide) (by decide), ⟨m.1 4, ⟨by omega, a3⟩, ht.2.1⟩, ht.2.2⟩, ht.1⟩, ht.2.1⟩)
/-- both go on -/
theorem z_next {T m : CV} (h : zTR bf n T m) : zOk (fX6_next T) (fun t => zOk (fX8_goOn m) (fun u => zTR bf n t u ∧ zEx [2, 3, 4, 5] [] T t ∧ zEx [4, 5, 6, 7, 8, 13] [] m u ∧ T.1 5 ≤ t.1 4)) := by
  obtain ⟨hT, hM, ⟨e1, e2, e3⟩, c1, c2, c3, c4⟩ := h
  refine zok_w (x_next hT) (fun t ht => zok_w (y_goOn hM) (fun u hu => ?_))
  have e := zTok_u ht.2 (by rw [e3]; exact hu.2)
  refine ⟨⟨ht.1.1, hu.1.1, ⟨e.2.2, e.1, e.2.1⟩, ?_, ?_, ?_, ?_⟩, ht.1.2, hu.1.2, ht.2.1.1⟩
  · rw [ht.1.2.1 6 (by decide)]; exact c1
  · rw [hu.1.2.1 9 (by decide)]; exact c2
  · rw [ht.1.2.1 7 (by decide)]; exact c3
  · rw [hu.1.2.1 10 (by decide)]; exact c4
theorem x_failX {T : CV} {c : Int} (h : T.1 6 ≠ 0) (hr : iR (T.1 6)) : fX6_fail T c = some T := by
  apply zok_q
  unfold fX6_fail
  exact zok_g hr (zok_f h (zok_s rfl))
theorem x_fail0 {T : CV} {c : Int} (h : T.1 6 = 0) : fX6_fail T c = some (zPu (zPu T 6 c) 7 (T.1 4)) := by
  apply zok_q
  unfold fX6_fail
  exact zok_g (by rw [h]; decide) (zok_t h (zok_s rfl))
theorem y_wrong0 {m : CV} {c : Int} (h : m.1 9 = 0) (hr : iR (m.1 6)) : fX8_wrong m c = some (zPu (zPu m 9 (if m.1 6 = 4 then 1 else c)) 10 (m.1 5)) := by
  apply zok_q
  unfold fX8_wrong
  refine zok_g (by rw [h]; decide) (zok_t (by omega) (zok_g hr ?_))
  refine zok_i (fun c => zok_s ?_) (fun c => zok_s ?_)
  · rw [if_pos c]
  · rw [if_neg c]
/-- both fail here -/
theorem z_fail {T m : CV} (h : zTR bf n T m) {c : Int} (h0 : 1 ≤ c ∧ c ≤ 6) (h4 : m.1 6 = 4 → c = 1) : zOk (fX6_fail T c) (fun t => zOk (fX8_wrong m c) (fun u => zTE bf n t u ∧ zEx [6, 7] [] T t ∧ zEx [9, 10] [] m u)) := by
  obtain ⟨hT, hM, ⟨e1, e2, e3⟩, c1, c2, c3, c4⟩ := h
  obtain ⟨r1, r2, r3, r4, r5, r6⟩ := hT.r
  have e : (if m.1 6 = 4 then 1 else c) = c := by
    by_cases q : m.1 6 = 4
    · rw [if_pos q, h4 q]
    · rw [if_neg q]
  refine zok_v (x_fail0 c1) (zok_v (y_wrong0 c2 ⟨by omega, by omega⟩) ?_)
  rw [e]
  refine ⟨⟨zTcv_E hT (zEx_u (zEx_u (ns := [6, 7]) (js := []) zEx_0 (by decide)) (by decide)) (by decide) (by decide), h0, rfl, e2, ?_⟩, zEx_u (zEx_u zEx_0 (by decide)) (by decide), zEx_u (zEx_u zEx_0 (by decide)) (by decide)⟩
  show 0 ≤ m.1 5 ∧ m.1 5 ≤ 600
  omega
/-! the class's questions -/
theorem x_isMark {T : CV} (h : zTcv bf n T) {c : Int} (hc : 0 ≤ c ∧ c < 128) : fX6_isMark T c = some (decide (T.1 2 = 3 ∧ bf (T.1 4) = c)) := by
  obtain ⟨r1, r2, r3, r4, r5, r6, r7, r8, r9, r10⟩ := h.r
  apply zok_q
  unfold fX6_isMark
  refine zok_g (by omega) ?_
  refine zok_i (fun c1 => ?_) (fun c1 => zok_s (decide_eq_false (fun z => c1 z.1)).symm)
  have hb := h.1.2.2 (T.1 4) r2 (r10 c1).2
  have hn := h.1.1
  rw [hn]
  refine zok_g (by omega) (zok_f (by omega) (zok_g (by omega) ?_))
  rw [hb.2]
  refine zok_g (by omega) ?_
  exact zok_i (fun c2 => zok_s (decide_eq_true ⟨c1, by omega⟩).symm) (fun c2 => zok_s (decide_eq_false (fun z => c2 (by omega))).symm)
theorem x_signAt {T : CV} (h : zTcv bf n T) {i : Int} (h0 : 0 ≤ i) (h1 : T.1 4 + i < T.1 5) (h2 : zcL (bf (T.1 4 + i))) : fX6_signAt T i = some (bf (T.1 4 + i)) := by
  obtain ⟨r1, r2, r3, r4, r5⟩ := h.r
  apply zok_q
  unfold fX6_signAt
  have hb := h.1.2.2 (T.1 4 + i) (by omega) (by omega)
  rw [h.1.1]
  refine zok_g (by omega) (zok_f (by omega) (zok_g (by omega) (zok_s ?_)))
  rw [hb.2]
  omega
theorem x_wordSize {T : CV} (h : zTcv bf n T) : fX6_wordSize T = some (if T.1 2 = 1 then T.1 5 - T.1 4 else 0) := by
  obtain ⟨r1, r2, r3, r4, r5⟩ := h.r
  apply zok_q
  unfold fX6_wordSize
  refine zok_g (by omega) ?_
  refine zok_i (fun c => zok_s ?_) (fun c => zok_s ?_)
  · rw [if_pos c]
  · rw [if_neg c]
/-- the letters of the word -/
def zwd (bf : Int → Int) (p q : Int) : List Int := zUl bf p (q - p).toNat
theorem zwd_l {p q : Int} (h : p ≤ q) : ((zwd bf p q).length : Int) = q - p := by
  unfold zwd
  rw [zUl_l]
  omega
theorem zwd_w {p q : Int} (h : ∀ j, p ≤ j → j < q → zcL (bf j)) : zLet (zwd bf p q) := zUl_w (fun j j0 j1 => h j j0 (by omega))
theorem zUl_g {p : Int} (k j : Nat) (h : j < k) : (zUl bf p k).getD j 0 = bf (p + (j : Int)) - 96 := by
  unfold zUl
  rw [List.getD_eq_getElem?_getD, List.getElem?_map, List.getElem?_range h]
  rfl
theorem zLs_ext {u w : List Int} (hl : u.length = w.length) (h : ∀ j, j < u.length → u.getD j 0 = w.getD j 0) : u = w := by
  apply List.ext_getElem hl
  intro i h1 h2
  have e := h i h1
  rw [List.getD_eq_getElem?_getD, List.getD_eq_getElem?_getD, List.getElem?_eq_getElem h1, List.getElem?_eq_getElem h2] at e
  exact e
theorem zUpc_g : ∀ (w : List Int) (j : Nat), j < w.length → (zUpc w).getD j 0 = 96 + w.getD j 0
  | [], j, h => absurd h (Nat.not_lt_zero _)
  | _ :: _, 0, _ => rfl
  | _ :: w, j + 1, h => zUpc_g w j (Nat.lt_of_succ_lt_succ h)
theorem x_isWord {T : CV} (h : zTcv bf n T) {w : List Int} (hw : zLet w) (hl : w.length ≤ 30) : fX6_isWord T (zUpc w) = some (decide (T.1 2 = 1 ∧ zwd bf (T.1 4) (T.1 5) = w)) := by
  obtain ⟨r1, r2, r3, r4, r5, r6, r7, r8, r9, r10⟩ := h.r
  apply zok_q
  unfold fX6_isWord
  rw [zUpc_l]
  refine zok_g (by omega) ?_
  refine zok_i (fun c1 => ?_) (fun c1 => zok_s (decide_eq_false (fun z => c1 z.1)).symm)
  refine zok_g (by omega) ?_
  have hwl := zwd_l (bf := bf) (p := T.1 4) (q := T.1 5) r3
  refine zok_i (fun c2 => ?_) (fun c2 => zok_s (decide_eq_false (fun z => c2 (by rw [z.2] at hwl; exact hwl))).symm)
  have hlet := (r8 c1).2.2
  refine zok_F (β := Unit) (mk := fun _ i => i) (w.length : Int) (fun i _ => ∀ j : Nat, (j : Int) < i → bf (T.1 4 + (j : Int)) - 96 = w.getD j 0) (a0 := ()) rfl (by omega) (fun j hj => by omega) (fun i _ hi hi2 hI => ?_) (fun i _ hi hi2 hi3 hi4 hI => ?_)
  · try dsimp only
    refine zok_g (by omega) (zok_f (by omega) ?_)
    refine zok_e (x_signAt h hi (by omega) (hlet _ (by omega) (by omega))) ?_
    refine zok_g (by omega) ?_
    have hm := hw _ (zGetD_m w i.toNat (by omega))
    rw [zUpc_g w i.toNat (by omega)]
    have hLi := hlet (T.1 4 + i) (by omega) (by omega)
    refine zok_g (by omega) ?_
    refine zok_i (fun c3 => zok_sl ⟨(), rfl, fun j hj => ?_⟩) (fun c3 => zok_sr ?_)
    · by_cases e : (j : Int) = i
      · have e2 : j = i.toNat := by omega
        subst e2
        rw [e]
        omega
      · exact hI j (by omega)
    · show zOk (some false) _
      refine zok_s (decide_eq_false (fun z => c3 ?_)).symm
      have e := z.2
      rw [← e]
      unfold zwd
      rw [zUl_g _ _ (by omega), show ((i.toNat : Nat) : Int) = i by omega]
      omega
  · try dsimp only
    refine zok_g (by omega) (zok_t (by omega) (zok_sr ?_))
    show zOk (some true) _
    refine zok_s (decide_eq_true ⟨c1, ?_⟩).symm
    refine zLs_ext (by omega) (fun j hj => ?_)
    unfold zwd
    have hj2 : (j : Int) < T.1 5 - T.1 4 := by omega
    rw [zUl_g _ _ (by omega)]
    exact hI j (by omega)
theorem x_nameCode {T : CV} (h : zTcv bf n T) : fX6_nameCode T = some (if T.1 2 = 1 ∧ T.1 5 - T.1 4 ≤ 8 then z8 (zwd bf (T.1 4) (T.1 5)) else 0) := by
  obtain ⟨r1, r2, r3, r4, r5, r6, r7, r8, r9, r10⟩ := h.r
  apply zok_q
  unfold fX6_nameCode
  refine zok_e (x_wordSize h) ?_
  by_cases c1 : T.1 2 = 1
  · rw [if_pos c1]
    refine zok_g (by omega) ?_
    refine zok_i (fun c2 => ?_) (fun c2 => zok_s (by rw [if_neg (fun z => c2 z.2)]))
    rw [if_pos ⟨c1, c2⟩]
    have hlet := (r8 c1).2.2
    have hws := x_wordSize h
    rw [if_pos c1] at hws
    refine zok_F (β := Int) (mk := fun a i => (a, i)) (T.1 5 - T.1 4) (fun i a => a = z8 (zUl bf (T.1 4) i.toNat)) (a0 := 0) rfl (by omega) rfl (fun i a hi hi2 hI => ?_) (fun i a hi hi2 hi3 hi4 hI => ?_)
    · try dsimp only
      refine zok_e hws ?_
      refine zok_g (by omega) (zok_f (by omega) ?_)
      have hL := hlet (T.1 4 + i) (by omega) (by omega)
      refine zok_e (x_signAt h hi (by omega) hL) ?_
      have hlw : zLet (zUl bf (T.1 4) i.toNat) := zUl_w (fun j j0 j1 => hlet j j0 (by omega))
      have hr := z8_r _ hlw
      rw [zUl_l, show ((i.toNat : Nat) : Int) = i by omega] at hr
      have hr63 := z8_63 hlw (by rw [zUl_l]; omega)
      have p1 := zP2_pos (8 * i)
      have p2 : zP2 (8 * i) ≤ zP2 56 := zP2_le (by omega)
      have p3 : zP2 56 = 72057594037927936 := by decide +kernel
      have hm1 : 0 ≤ bf (T.1 4 + i) * zP2 (8 * i) := Int.mul_nonneg (by omega) (by omega)
      have hm2 : bf (T.1 4 + i) * zP2 (8 * i) ≤ 122 * zP2 (8 * i) := Int.mul_le_mul_of_nonneg_right hL.2 (by omega)
      have hs : fX0_withSign a i (bf (T.1 4 + i)) = some (z8 (zUl bf (T.1 4) (i + 1).toNat)) := by
        apply zok_q
        unfold fX0_withSign
        rw [hI]
        refine zok_g (by omega) (zok_g (by omega) (zok_g (by omega) (zok_s ?_)))
        rw [show (i + 1).toNat = i.toNat + 1 by omega, zUl_s, zOr_add (by omega) hr.1 (by omega) (by omega), show ((i.toNat : Nat) : Int) = i by omega]
        have key : ∀ (l : List Int) (c : Int), z8 (l ++ [c]) = z8 l + (96 + c) * zP2 (8 * (l.length : Int)) := by
          intro l c
          induction l with
          | nil => show (96 + c) + 256 * 0 = 0 + (96 + c) * zP2 0; rw [zP2_0]; omega
          | cons d l ih =>
            show (96 + d) + 256 * z8 (l ++ [c]) = ((96 + d) + 256 * z8 l) + (96 + c) * zP2 (8 * ((l.length + 1 : Nat) : Int))
            rw [ih, zP2_88, Int.mul_add, Int.mul_left_comm 256]
            omega
        rw [key, zUl_l, show ((i.toNat : Nat) : Int) = i by omega, show 96 + (bf (T.1 4 + i) - 96) = bf (T.1 4 + i) by omega]
      refine zok_e hs (zok_sl ⟨_, rfl, rfl⟩)
    · try dsimp only
      refine zok_e hws ?_
      refine zok_g (by omega) (zok_t (by omega) (zok_sr (zok_s ?_)))
      rw [hI, hi3 (by omega)]
      rfl
  · rw [if_neg c1, if_neg (show ¬ (T.1 2 = 1 ∧ T.1 5 - T.1 4 ≤ 8) from fun z => c1 z.1)]
    refine zok_g (by decide) (zok_t (by decide) ?_)
    have hws := x_wordSize h
    rw [if_neg c1] at hws
    refine zok_F (β := Int) (mk := fun a i => (a, i)) 0 (fun i a => a = 0) (a0 := 0) rfl (by decide) rfl (fun i a hi hi2 hI => by omega) (fun i a hi hi2 hi3 hi4 hI => ?_)
    try dsimp only
    refine zok_e hws ?_
    exact zok_g (by have := hi3 (by omega); omega) (zok_t (by omega) (zok_sr (zok_s hI)))
/-- the word's letters are such as there are -/
def zAll (bf : Int → Int) (p q L : Int) : Prop := ∀ j, p ≤ j → j < q → bf j - 97 < L
theorem x_wordCode {T : CV} (h : zTcv bf n T) {L : Int} (hL : 0 ≤ L ∧ L ≤ 4) : zOk (fX6_wordCode T L) (fun c => iRL c ∧ (T.1 2 ≠ 1 → c = 0) ∧ (T.1 2 = 1 → (zAll bf (T.1 4) (T.1 5) L ∧ zCd c (T.1 5 - T.1 4) (fun j => bf (T.1 4 + j) - 97)) ∨ (¬ zAll bf (T.1 4) (T.1 5) L ∧ c = -1))) := by
  obtain ⟨r1, r2, r3, r4, r5, r6, r7, r8, r9, r10⟩ := h.r
  unfold fX6_wordCode
  have hws := x_wordSize h
  by_cases c1 : T.1 2 = 1
  · rw [if_pos c1] at hws
    have hlet := (r8 c1).2.2
    have hsz := r8 c1
    refine zok_F (β := Int) (mk := fun a i => (a, i)) (T.1 5 - T.1 4) (fun i a => zCd a i (fun j => bf (T.1 4 + j) - 97) ∧ ∀ j, T.1 4 ≤ j → j < T.1 4 + i → bf j - 97 < L) (a0 := 0) rfl (by omega) ⟨zCd_0, fun j j0 j1 => by omega⟩ (fun i a hi hi2 hI => ?_) (fun i a hi hi2 hi3 hi4 hI => ?_)
    · try dsimp only
      refine zok_e hws ?_
      refine zok_g (by omega) (zok_f (by omega) ?_)
      have hLe := hlet (T.1 4 + i) (by omega) (by omega)
      refine zok_e (x_signAt h hi (by omega) hLe) ?_
      refine zok_g (by omega) ?_
      refine zok_i (fun c2 => ?_) (fun c2 => zok_sr ?_)
      · have hcd := hI.1
        have hc1 := hcd.1
        have hc2 := hcd.2.1
        have p1 := zP2_pos (2 * i)
        have p2 : zP2 (2 * i) ≤ zP2 58 := zP2_le (by omega)
        have p3 : zP2 58 = 288230376151711744 := by decide +kernel
        have hm1 : 0 ≤ (bf (T.1 4 + i) - 97) * zP2 (2 * i) := Int.mul_nonneg (by omega) (by omega)
        have hm2 : (bf (T.1 4 + i) - 97) * zP2 (2 * i) ≤ 3 * zP2 (2 * i) := Int.mul_le_mul_of_nonneg_right (by omega) (by omega)
        have hs : fX0_withLetter a i (bf (T.1 4 + i) - 97) = some (zOr a ((bf (T.1 4 + i) - 97) * zP2 (2 * i))) := by
          apply zok_q
          unfold fX0_withLetter
          exact zok_g (by omega) (zok_g (by omega) (zok_g (by omega) (zok_s rfl)))
        refine zok_e hs (zok_sl ⟨_, rfl, zCd_snoc hcd hi ⟨by omega, by omega⟩ rfl, fun j j0 j1 => ?_⟩)
        by_cases e : j = T.1 4 + i
        · rw [e]; exact c2
        · exact hI.2 j j0 (by omega)
      · show zOk (some (-1)) _
        refine zok_s ⟨by decide, fun z => absurd c1 z, fun _ => Or.inr ⟨fun z => c2 (z (T.1 4 + i) (by omega) (by omega)), rfl⟩⟩
    · try dsimp only
      refine zok_e hws ?_
      refine zok_g (by omega) (zok_t (by omega) (zok_sr ?_))
      show zOk (some a) _
      have e := hi3 (by omega)
      subst e
      have hc2 := hI.1.2.1
      have hc1 := hI.1.1
      have p2 : zP2 (2 * (T.1 5 - T.1 4)) ≤ zP2 60 := zP2_le (by omega)
      have p3 : zP2 60 = 1152921504606846976 := by decide +kernel
      exact zok_s ⟨⟨by omega, by omega⟩, fun z => absurd c1 z, fun _ => Or.inl ⟨fun j j0 j1 => hI.2 j j0 (by omega), hI.1⟩⟩
  · rw [if_neg c1] at hws
    refine zok_F (β := Int) (mk := fun a i => (a, i)) 0 (fun i a => a = 0) (a0 := 0) rfl (by decide) rfl (fun i a hi hi2 hI => by omega) (fun i a hi hi2 hi3 hi4 hI => ?_)
    try dsimp only
    refine zok_e hws ?_
    refine zok_g (by have := hi3 (by omega); omega) (zok_t (by omega) (zok_sr ?_))
    show zOk (some a) _
    rw [hI]
    exact zok_s ⟨by decide, fun _ => rfl, fun z => absurd z c1⟩
theorem x_rowNamed {V : CV} {a : Int} (h0 : 0 ≤ V.1 3 ∧ V.1 3 ≤ 10) (ha : iRL a) (hn : ∀ q, 0 ≤ q → q < V.1 3 → iRL (V.2 1 q)) : zOk (fX0_rowNamed V a) (fun r => (r = -1 ∧ ∀ q, 0 ≤ q → q < V.1 3 → V.2 1 q ≠ a) ∨ (0 ≤ r ∧ r < V.1 3 ∧ V.2 1 r = a)) := by
  unfold fX0_rowNamed
  refine zok_F (β := Unit) (mk := fun _ i => i) (V.1 3) (fun i _ => ∀ q, 0 ≤ q → q < i → V.2 1 q ≠ a) (a0 := ()) rfl (by omega) (fun q _ _ => by omega) (fun i _ hi hi2 hI => ?_) (fun i _ hi hi2 hi3 hi4 hI => ?_)
  · try dsimp only
    have hr := hn i hi hi2
    refine zok_g (by omega) (zok_f (by omega) (zok_g (by omega) (zok_g ⟨hr, ha⟩ ?_)))
    refine zok_i (fun c => zok_sr ?_) (fun c => zok_sl ⟨(), rfl, fun q q0 q1 => ?_⟩)
    · show zOk (some i) _
      exact zok_s (Or.inr ⟨hi, hi2, zCmp_0.mp c⟩)
    · by_cases e : q = i
      · rw [e]; exact fun z => c (zCmp_0.mpr z)
      · exact hI q q0 (by omega)
  · try dsimp only
    refine zok_g (by omega) (zok_t (by omega) (zok_sr ?_))
    show zOk (some (-1)) _
    have e := hi3 (by omega)
    subst e
    exact zok_s (Or.inl ⟨rfl, hI⟩)
/-! the model's questions -/
theorem y_isGood {m : CV} (hr : iR (m.1 9)) : fX8_isGood m = some (decide (m.1 9 = 0)) := by
  apply zok_q
  unfold fX8_isGood
  refine zok_g hr ?_
  exact zok_i (fun c => zok_s (decide_eq_true c).symm) (fun c => zok_s (decide_eq_false c).symm)
theorem y_good0 {m : CV} (h : m.1 9 = 0) : fX8_isGood m = some true := by
  rw [y_isGood (by rw [h]; decide), decide_eq_true h]
theorem y_goodE {m : CV} (h : 1 ≤ m.1 9 ∧ m.1 9 ≤ 6) : fX8_isGood m = some false := by
  rw [y_isGood ⟨by omega, by omega⟩, decide_eq_false (by omega)]
theorem zMv.r {m : CV} (h : zMv bf n m) : (0 ≤ n ∧ n ≤ 600) ∧ 0 ≤ m.1 5 ∧ m.1 5 ≤ m.1 4 ∧ m.1 4 ≤ n ∧ (0 ≤ m.1 6 ∧ m.1 6 ≤ 4) ∧ (m.1 6 ≠ 0 → m.1 5 < m.1 4) ∧ (m.1 6 = 1 → 1 ≤ m.1 4 - m.1 5 ∧ m.1 4 - m.1 5 ≤ 30 ∧ ∀ j, m.1 5 ≤ j → j < m.1 4 → zcL (bf j)) ∧ (m.1 6 = 2 → 1 ≤ m.1 4 - m.1 5 ∧ m.1 4 - m.1 5 ≤ 3 ∧ ∀ j, m.1 5 ≤ j → j < m.1 4 → zcD (bf j)) ∧ (m.1 6 = 3 → zcS (bf (m.1 5)) ∧ m.1 5 < n) := by
  obtain ⟨h1, ⟨e, he, ht⟩, h3⟩ := h
  obtain ⟨a1, a2, a3, a4, a5, a6, a7, a8, a9, a10⟩ := zTok_r he ht
  exact ⟨h1.2.1, by omega, a2, a3, a4, a5, a7, a8, a9⟩
theorem y_isSign {m : CV} (h : zMv bf n m) (h9 : m.1 9 = 0) {c : Int} (hc : 0 ≤ c ∧ c < 128) : fX8_isSign m c = some (decide (m.1 6 = 3 ∧ bf (m.1 5) = c)) := by
  obtain ⟨r1, r2, r3, r4, r5, r6, r7, r8, r9⟩ := h.r
  apply zok_q
  unfold fX8_isSign
  refine zok_g (by rw [h9]; decide) (zok_t h9 (zok_g (by omega) ?_))
  refine zok_i (fun c1 => ?_) (fun c1 => zok_s (decide_eq_false (fun z => c1 z.1)).symm)
  have e := h.2.2.2.1 c1
  have hb := (h.1.2.2 (m.1 5) r2 (r9 c1).2).1
  rw [e]
  refine zok_g (by omega) ?_
  exact zok_i (fun c2 => zok_s (decide_eq_true ⟨c1, c2⟩).symm) (fun c2 => zok_s (decide_eq_false (fun z => c2 z.2)).symm)
theorem y_isWord {m : CV} (h : zMv bf n m) (h9 : m.1 9 = 0) {w : List Int} (hw : zLet w) (hl : w.length ≤ 8) : fX8_isWord m (z5 w) = some (decide (m.1 6 = 1 ∧ zwd bf (m.1 5) (m.1 4) = w)) := by
  obtain ⟨r1, r2, r3, r4, r5, r6, r7, r8, r9⟩ := h.r
  have h40 := z5_40 hw hl
  have h13 := h.2.2.2.2.2
  apply zok_q
  unfold fX8_isWord
  refine zok_g (by rw [h9]; decide) (zok_t h9 (zok_g (by omega) ?_))
  refine zok_i (fun c1 => ?_) (fun c1 => zok_s (decide_eq_false (fun z => c1 z.1)).symm)
  obtain ⟨e8, e13⟩ := h.2.2.2.2.1 c1
  have hwl := zwd_l (bf := bf) (p := m.1 5) (q := m.1 4) r3
  rw [e8]
  refine zok_g (by omega) ?_
  refine zok_i (fun c2 => zok_s (decide_eq_false (fun z => ?_)).symm) (fun c2 => ?_)
  · rw [z.2] at hwl; omega
  refine zok_g ⟨⟨by omega, by omega⟩, ⟨by omega, by omega⟩⟩ ?_
  have e13' := e13 (by omega)
  rw [e8] at e13'
  have hlw := zwd_w (r7 c1).2.2
  refine zok_i (fun c3 => zok_s (decide_eq_true ⟨c1, ?_⟩).symm) (fun c3 => zok_s (decide_eq_false (fun z => c3 ?_)).symm)
  · rw [zCmp_0, e13', ← z.2]
    rfl
  · refine z5_inj _ _ hlw hw ?_
    rw [← zCmp_0.mp c3, e13']
    rfl
theorem y_named {m : CV} {s : Int → Int} (hs : m.2 2 = s) (h0 : 0 ≤ s 0 ∧ s 0 ≤ 10) (h13 : 0 ≤ m.1 13 ∧ m.1 13 < 1099511627776) (hn : ∀ q, 0 ≤ q → q < s 0 → iRL (m.2 7 q)) : zOk (fX8_named m) (fun r => (r = -1 ∧ ∀ q, 0 ≤ q → q < s 0 → m.2 7 q ≠ m.1 13) ∨ (0 ≤ r ∧ r < s 0 ∧ m.2 7 r = m.1 13)) := by
  unfold fX8_named
  rw [hs]
  refine zok_F (β := Int) (mk := fun a i => (a, i)) (s 0) (fun i a => (a = -1 ∧ ∀ q, 0 ≤ q → q < i → m.2 7 q ≠ m.1 13) ∨ (0 ≤ a ∧ a < i ∧ m.2 7 a = m.1 13)) (a0 := -1) rfl (by omega) (Or.inl ⟨rfl, fun q _ _ => by omega⟩) (fun i a hi hi2 hI => ?_) (fun i a hi hi2 hi3 hi4 hI => ?_)
  · try dsimp only
    have hr := hn i hi hi2
    refine zok_g (by omega) (zok_f (by omega) (zok_g (by omega) (zok_g ⟨hr, by omega, by omega⟩ ?_)))
    refine zok_i (fun c => zok_sl ⟨_, rfl, Or.inr ⟨hi, by omega, zCmp_0.mp c⟩⟩) (fun c => zok_sl ⟨_, rfl, ?_⟩)
    rcases hI with ⟨a1, a2⟩ | ⟨a1, a2, a3⟩
    · refine Or.inl ⟨a1, fun q q0 q1 => ?_⟩
      by_cases e : q = i
      · rw [e]; exact fun z => c (zCmp_0.mpr z)
      · exact a2 q q0 (by omega)
    · exact Or.inr ⟨a1, by omega, a3⟩
  · try dsimp only
    refine zok_g (by omega) (zok_t (by omega) (zok_sr (zok_s ?_)))
    have e := hi3 (by omega)
    subst e
    exact hI
theorem y_hasLetters {m : CV} {s : Int → Int} (hs : m.2 2 = s) (h : zMv bf n m) (h1 : m.1 6 = 1) (hL : 0 ≤ s 1 ∧ s 1 ≤ 4) : zOk (fX8_hasLetters m) (fun b => (b = true ∧ zAll bf (m.1 5) (m.1 4) (s 1)) ∨ (b = false ∧ ¬ zAll bf (m.1 5) (m.1 4) (s 1))) := by
  obtain ⟨r1, r2, r3, r4, r5, r6, r7, r8, r9⟩ := h.r
  obtain ⟨e8, e13⟩ := h.2.2.2.2.1 h1
  have h7 := r7 h1
  unfold fX8_hasLetters
  rw [hs, e8]
  refine zok_F (β := Int) (mk := fun a i => (a, i)) (m.1 4 - m.1 5) (fun i a => (a = 1 ∧ ∀ j, m.1 5 ≤ j → j < m.1 5 + i → bf j - 97 < s 1) ∨ (a = 0 ∧ ¬ zAll bf (m.1 5) (m.1 4) (s 1))) (a0 := 1) rfl (by omega) (Or.inl ⟨rfl, fun q _ _ => by omega⟩) (fun i a hi hi2 hI => ?_) (fun i a hi hi2 hi3 hi4 hI => ?_)
  · try dsimp only
    refine zok_g (by omega) (zok_f (by omega) ?_)
    rcases hI with ⟨a1, a2⟩ | ⟨a1, a2⟩
    · rw [a1]
      have hb := h.1.2.2 (m.1 5 + i) (by omega) (by omega)
      refine zok_g (by decide) (zok_f (by decide) (zok_g (by omega) ?_))
      rw [hb.2]
      refine zok_g (by omega) ?_
      refine zok_i (fun c => zok_sl ⟨_, rfl, Or.inr ⟨rfl, fun z => ?_⟩⟩) (fun c => zok_sl ⟨_, rfl, Or.inl ⟨rfl, fun j j0 j1 => ?_⟩⟩)
      · have := z (m.1 5 + i) (by omega) (by omega)
        omega
      · by_cases e : j = m.1 5 + i
        · rw [e]; omega
        · exact a2 j j0 (by omega)
    · rw [a1]
      exact zok_g (by decide) (zok_t rfl (zok_sl ⟨_, rfl, Or.inr ⟨rfl, a2⟩⟩))
  · try dsimp only
    refine zok_g (by omega) (zok_t (by omega) (zok_sr ?_))
    have e := hi3 (by omega)
    subst e
    rcases hI with ⟨a1, a2⟩ | ⟨a1, a2⟩
    · rw [a1]
      exact zok_g (Or.inr rfl) (zok_s (Or.inl ⟨rfl, fun j j0 j1 => a2 j j0 (by omega)⟩))
    · rw [a1]
      exact zok_g (Or.inl rfl) (zok_s (Or.inr ⟨rfl, a2⟩))
end ZLX
