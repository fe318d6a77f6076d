section ZST
variable {bf : Int → Int} {n : Int}
theorem zBt : ∀ R : Fin 8, (zAnd (R.val : Int) 1 = 0 ↔ ¬ (2 * (R.val : Int)) / zP2 1 % 2 = 1) ∧ (zAnd (R.val : Int) 2 = 0 ↔ ¬ (2 * (R.val : Int)) / zP2 2 % 2 = 1) ∧ (zAnd (R.val : Int) 4 = 0 ↔ ¬ (2 * (R.val : Int)) / zP2 3 % 2 = 1) ∧ (zOr (2 * (R.val : Int)) (zP2 1) = 2 * zOr (R.val : Int) 1 ∧ zOr (R.val : Int) 1 < 8) ∧ (zOr (2 * (R.val : Int)) (zP2 2) = 2 * zOr (R.val : Int) 2 ∧ zOr (R.val : Int) 2 < 8) ∧ (zOr (2 * (R.val : Int)) (zP2 3) = 2 * zOr (R.val : Int) 4 ∧ zOr (R.val : Int) 4 < 8) ∧ (0 ≤ zOr (R.val : Int) 1 ∧ 0 ≤ zOr (R.val : Int) 2 ∧ 0 ≤ zOr (R.val : Int) 4) ∧ (iR (zAnd (R.val : Int) 1) ∧ iR (zAnd (R.val : Int) 2) ∧ iR (zAnd (R.val : Int) 4)) := by decide +kernel
/-- the kinds that stood already -/
def zRd (R m : CV) : Prop := m.1 24 = 2 * R.1 0 ∧ (0 ≤ R.1 0 ∧ R.1 0 < 8)
/-- a pair of the class's and the model's number of a kind -/
def zKnd (a w : Int) : Prop := (a = 1 ∧ w = 1) ∨ (a = 2 ∧ w = 2) ∨ (a = 4 ∧ w = 3)
theorem zKnd_b {a w R0 : Int} (h : zKnd a w) (h0 : 0 ≤ R0) (h1 : R0 < 8) : (zAnd R0 a = 0 ↔ ¬ (2 * R0) / zP2 w % 2 = 1) ∧ zOr (2 * R0) (zP2 w) = 2 * zOr R0 a ∧ (0 ≤ zOr R0 a ∧ zOr R0 a < 8) ∧ iR (zAnd R0 a) := by
  obtain ⟨k, rfl⟩ : ∃ k : Nat, R0 = k := ⟨R0.toNat, by omega⟩
  obtain ⟨b1, b2', b3, b4, b5, b6, b7, b8⟩ := zBt ⟨k, by omega⟩
  rcases h with ⟨e1, e2⟩ | ⟨e1, e2⟩ | ⟨e1, e2⟩ <;> subst e1 <;> subst e2
  · exact ⟨b1, b4.1, ⟨b7.1, b4.2⟩, b8.1⟩
  · exact ⟨b2', b5.1, ⟨b7.2.1, b5.2⟩, b8.2.1⟩
  · exact ⟨b3, b6.1, ⟨b7.2.2, b6.2⟩, b8.2.2⟩
/-- behind an error the class goes on -/
theorem x_readSettingX {R T : CV} {a lo hi : Int} (h : zTcv bf n T) (h6 : T.1 6 ≠ 0) (hr : iR (T.1 6)) (hR : 0 ≤ R.1 0) (ha : 0 ≤ a) (hi0 : iR (zAnd (R.1 0) a)) (hl : iR lo) (hh : iR hi) : zOk (fX5_readSetting R T a lo hi) (fun x => zTX bf n T x.2.1) := by
  unfold fX5_readSetting
  refine zok_g ⟨hR, ha⟩ ?_
  refine zok_jP (fun (q : CV) => q = T) (fun q hq => ?_) (fun K hK => zok_g hi0 (zok_i (fun _ => hK _ rfl) (fun _ => zok_e (x_failX h6 hr) (hK _ rfl))))
  rw [hq]
  refine zok_b (x_next h) (fun t ht => ?_)
  have e6 := ht.1.2.1 6 (by decide)
  refine zok_b (x_passNumberX ht.1.1 (by rw [e6]; exact h6) (by rw [e6]; exact hr) hl hh) (fun u hu => zok_s (ht.1.t hu))
/-- how a setting ends -/
def zSo1 (bf : Int → Int) (n : Int) (R T m : CV) (a w lo hi : Int) (x : CV × CV × Int) (v : CV) : Prop := zEx [2, 3, 4, 5, 6, 7] [] T x.2.1 ∧ zEx [4, 5, 6, 7, 8, 9, 10, 13, 24] [2, 7] m v ∧ ((∀ j, j < 0 ∨ 351 ≤ j → v.2 2 j = m.2 2 j) ∧ v.2 7 = m.2 7) ∧ ((zTR bf n x.2.1 v ∧ T.1 5 ≤ x.2.1.1 4 ∧ x.1 = zPu R 0 (zOr (R.1 0) a) ∧ v.2 2 = zup (m.2 2) w x.2.2 ∧ (lo ≤ x.2.2 ∧ x.2.2 ≤ hi) ∧ v.1 24 = zOr (m.1 24) (zP2 w)) ∨ zTE bf n x.2.1 v)
theorem z_setG {R T m : CV} {a w lo hi : Int} (h : zTR bf n T m) (hR : zRd R m) (hk : zKnd a w) (hw : w = 1 → m.2 2 0 ≤ 0) (hs0 : iR (m.2 2 0)) (hz : zAnd (R.1 0) a = 0) (hlo : 0 ≤ lo ∧ lo ≤ 999) (hhi : 0 ≤ hi ∧ hi ≤ 999) : zOk (fX5_readSetting R T a lo hi) (fun x => zOk (fX8_readsOnce m w lo hi) (fun v => zSo1 bf n R T m a w lo hi x v)) := by
  obtain ⟨hR1, hR2, hR3⟩ := hR
  obtain ⟨b1, b2', b3, b4⟩ := zKnd_b hk hR2 hR3
  have hw3 : 1 ≤ w ∧ w ≤ 3 ∧ 0 ≤ a := by rcases hk with ⟨e1, e2⟩ | ⟨e1, e2⟩ | ⟨e1, e2⟩ <;> omega
  have hh := h
  obtain ⟨hT0, hM0, ⟨e1, e2, e3⟩, c1, c2, c3, c4⟩ := hh
  unfold fX5_readSetting
  refine zok_g ⟨hR2, hw3.2.2⟩ ?_
  refine zok_jP (fun (q : CV) => q = T) (fun q hq => ?_) (fun K hK => zok_g b4 (zok_t hz (hK _ rfl)))
  rw [hq]
  refine zok_b (x_next hT0) (fun t ht => ?_)
  have hm24 : zTR bf n T (zPu m 24 (zOr (m.1 24) (zP2 w))) := zTR_m (ns := [24]) (js := []) h (zEx_u zEx_0 (by decide)) (by decide) (by decide)
  obtain ⟨y, ey, hy, hyE⟩ := z_nx2 hm24 ht
  have hTt : zEx [2, 3, 4, 5, 6, 7] [] T t := zEx_w ht.1.2 (by decide) (by decide)
  have hmy : zEx [4, 5, 6, 7, 8, 9, 10, 13, 24] [2, 7] m y := zEx_t (zEx_u zEx_0 (by decide)) (zEx_w hyE (by decide) (by decide))
  refine zok_b (z_number hy hlo hhi) (fun u hu => zok_s ?_)
  obtain ⟨v, ev, hvF, hv⟩ := hu
  have hbit := m_hasBit (c := m.1 24) (i := w) ⟨by omega, by omega⟩ (by omega) (by omega)
  rw [hR1, decide_eq_false (b1.mp hz)] at hbit
  have p2 := zP2_pos w
  have hTu : zEx [2, 3, 4, 5, 6, 7] [] T u.1 := zEx_t hTt hvF.1
  have hmv : zEx [4, 5, 6, 7, 8, 9, 10, 13, 24] [2, 7] m v.1 := zEx_t hmy (zEx_w hvF.2 (by decide) (by decide))
  unfold fX8_readsOnce
  rw [hR1]
  refine zok_e hbit ?_
  refine zok_jP (fun (q : CV) => q = m) (fun q hq => ?_) (fun K hK => ?_)
  · rw [hq]
    refine zok_g (by omega) (zok_g (by omega) ?_)
    refine zok_e (y_good0 hm24.2.2.2.2.1) ?_
    refine zok_jP (fun (q : CV) => q = y) (fun q hq => ?_) (fun K hK => zok_t rfl (zok_e ey (hK _ rfl)))
    rw [hq]
    refine zok_e ev ?_
    have v24 : v.1.1 24 = zOr (m.1 24) (zP2 w) := by rw [hvF.2.1 24 (by decide), hyE.1 24 (by decide), zPu_s]
    have v2 : v.1.2 2 = m.2 2 := by rw [hvF.2.2 2 (by decide), hyE.2 2 (by decide)]; rfl
    have v7 : v.1.2 7 = m.2 7 := by rw [hvF.2.2 7 (by decide), hyE.2 7 (by decide)]; rfl
    rcases hv with ⟨g1, g2, g3, g4, g5⟩ | g
    · refine zok_e (y_good0 g1.2.2.2.2.1) (zok_t rfl (zok_g (by omega) (zok_s ⟨hTu, zEx_a hmv (by decide), ⟨fun j hj => ?_, ?_⟩, Or.inl ⟨zTR_m (ns := []) (js := [2]) g1 (zEx_a zEx_0 (by decide)) (by decide) (by decide), ?_, rfl, ?_, ?_, ?_⟩⟩)))
      · rw [zPa_s, zup_n (by omega), v2]
      · rw [zPa_n (by decide)]; exact v7
      · have := ht.2.1.1
        have hyt := (hy.1.r).2.2.1
        show T.1 5 ≤ u.1.1 4
        omega
      · show (zPa v.1 2 w v.2).2 2 = zup (m.2 2) w u.2
        rw [zPa_s, v2, g3]
      · show lo ≤ u.2 ∧ u.2 ≤ hi
        omega
      · exact v24
    · refine zok_e (y_goodE g.2.1) (zok_f Bool.false_ne_true (zok_s ⟨hTu, hmv, ⟨fun j hj => by rw [v2], v7⟩, Or.inr g⟩))
  · refine zok_jP (fun _ => False) (fun _ q => q.elim) (fun J hJ => ?_)
    refine zok_f Bool.false_ne_true (zok_g (by omega) ?_)
    exact zok_i (fun q => zok_g hs0 (zok_t (hw q) (hK _ rfl))) (fun q => hK _ rfl)
/-- a kind that stood already, or letters behind a row -/
theorem y_readsOnceB {R m v' : CV} {a w lo hi : Int} (hR : zRd R m) (hk : zKnd a w) (hs0 : iR (m.2 2 0)) (hb : ¬ zAnd (R.1 0) a = 0 ∨ (w = 1 ∧ ¬ m.2 2 0 ≤ 0)) (ev : fX8_wrong m 4 = some v') (hv : 1 ≤ v'.1 9 ∧ v'.1 9 ≤ 6) (h24 : v'.1 24 = m.1 24) : fX8_readsOnce m w lo hi = some (zPu v' 24 (zOr (m.1 24) (zP2 w))) := by
  obtain ⟨hR1, hR2, hR3⟩ := hR
  obtain ⟨b1, b2', b3, b4⟩ := zKnd_b hk hR2 hR3
  have hw3 : 1 ≤ w ∧ w ≤ 3 ∧ 0 ≤ a := by rcases hk with ⟨e1, e2⟩ | ⟨e1, e2⟩ | ⟨e1, e2⟩ <;> omega
  have p2 := zP2_pos w
  apply zok_q
  unfold fX8_readsOnce
  have hbit := m_hasBit (c := m.1 24) (i := w) ⟨by omega, by omega⟩ (by omega) (by omega)
  rw [hR1] at hbit h24 ⊢
  refine zok_e hbit ?_
  refine zok_jP (fun (q : CV) => q = v') (fun q hq => ?_) (fun K hK => ?_)
  · rw [hq, h24]
    refine zok_g (by omega) (zok_g (by omega) ?_)
    have hg : 1 ≤ (zPu v' 24 (zOr (2 * R.1 0) (zP2 w))).1 9 ∧ (zPu v' 24 (zOr (2 * R.1 0) (zP2 w))).1 9 ≤ 6 := by rw [zPu_n (by decide)]; exact hv
    refine zok_e (y_goodE hg) ?_
    refine zok_jP (fun (q : CV) => q = zPu v' 24 (zOr (2 * R.1 0) (zP2 w))) (fun q hq => ?_) (fun K hK => zok_f Bool.false_ne_true (hK _ rfl))
    rw [hq]
    refine zok_e (y_numberE hg) ?_
    exact zok_e (y_goodE hg) (zok_f Bool.false_ne_true (zok_s rfl))
  · refine zok_jP (fun _ => True) (fun _ _ => zok_e ev (hK _ rfl)) (fun J hJ => ?_)
    refine zok_i (fun _ => hJ () trivial) (fun q => zok_g (by omega) ?_)
    rcases hb with hb | ⟨hb1, hb2⟩
    · exact absurd (decide_eq_true (Classical.byContradiction (fun z => hb (b1.mpr z)))) q
    · exact zok_t hb1 (zok_g hs0 (zok_f hb2 (hJ () trivial)))
/-- how a statement ends, its mark not yet read -/
def zSs (bf : Int → Int) (n : Int) (T m : CV) (x : CV × CV × CV) (v : CV) : Prop := zEx [2, 3, 4, 5, 6, 7] [] T x.2.1 ∧ (zEx [4, 5, 6, 7, 8, 9, 10, 13, 24] [2, 7] m v ∧ (∀ j, j < 0 ∨ 351 ≤ j → v.2 2 j = m.2 2 j) ∧ ∀ j, j < 0 ∨ 10 ≤ j → v.2 7 j = m.2 7 j) ∧ ((zTR bf n x.2.1 v ∧ zRd x.1 v ∧ zBr x.2.2 (v.2 2) (v.2 7) ∧ T.1 5 ≤ x.2.1.1 4) ∨ zTE bf n x.2.1 v)
theorem zRd_s {R m v : CV} {a w : Int} (hR : zRd R m) (hk : zKnd a w) (h : v.1 24 = zOr (m.1 24) (zP2 w)) : zRd (zPu R 0 (zOr (R.1 0) a)) v := by
  obtain ⟨hR1, hR2, hR3⟩ := hR
  obtain ⟨b1, b2', b3, b4⟩ := zKnd_b hk hR2 hR3
  refine ⟨?_, ?_⟩
  · rw [h, hR1, b2', zPu_s]
  · rw [zPu_s]; exact b3
theorem zTx_letters : zTx "letters" = zUpc [12, 5, 20, 20, 5, 18, 19] := by decide +kernel
theorem zTx_length : zTx "length" = zUpc [12, 5, 14, 7, 20, 8] := by decide +kernel
theorem zTx_changes : zTx "changes" = zUpc [3, 8, 1, 14, 7, 5, 19] := by decide +kernel
theorem zTx_row : zTx "row" = zUpc [18, 15, 23] := by decide +kernel
theorem z5_letters : (13074306643 : Int) = z5 [12, 5, 20, 20, 5, 18, 19] := by decide +kernel
theorem z5_length : (408362632 : Int) = z5 [12, 5, 14, 7, 20, 8] := by decide +kernel
theorem z5_changes : (3491175603 : Int) = z5 [3, 8, 1, 14, 7, 5, 19] := by decide +kernel
theorem z5_row : (18935 : Int) = z5 [18, 15, 23] := by decide +kernel
/-- a setting that stands well or badly -/
theorem z_setS {R T V m : CV} {a w lo hi : Int} {W : CV → Int → CV} (h : zTR bf n T m) (hR : zRd R m) (hBr : zBr V (m.2 2) (m.2 7)) (k1 : T.1 2 = 1) (hk : zKnd a w) (hlo : 0 ≤ lo ∧ lo ≤ 999) (hhi : 0 ≤ hi ∧ hi ≤ 999)
    (hW : (w = 1 → m.2 2 0 ≤ 0) → ∀ x, lo ≤ x → x ≤ hi → zBr (W V x) (zup (m.2 2) w x) (m.2 7)) {b : Option (CV × CV × Int)}
    (hb : (¬ (w = 1 ∧ ¬ m.2 2 0 ≤ 0) → b = fX5_readSetting R T a lo hi) ∧ ((w = 1 ∧ ¬ m.2 2 0 ≤ 0) → b = (fX6_fail T 4).bind fun t => fX5_readSetting R t a lo hi)) :
    zOk (b.bind fun t => some (t.1, t.2.1, W V t.2.2)) (fun x => ∃ v, zSs bf n T m x v ∧ fX8_readsOnce m w lo hi = some v) := by
  have hB := zBr_1 hBr
  have w0 := hB.1.1
  have hh := h
  obtain ⟨hT0, hM0, ⟨e1, e2, e3⟩, c1, c2, c3, c4⟩ := hh
  obtain ⟨z, ez, v', ev, hv⟩ := z_fail h (c := 4) (by decide) (fun q => by omega)
  have hw3 : 0 ≤ a := by rcases hk with ⟨e1, e2⟩ | ⟨e1, e2⟩ | ⟨e1, e2⟩ <;> omega
  have hand := (zKnd_b hk hR.2.1 hR.2.2).2.2.2
  have z6 := hv.1.ne
  have bad : (¬ zAnd (R.1 0) a = 0 ∨ (w = 1 ∧ ¬ m.2 2 0 ≤ 0)) → ∀ x : CV × CV × Int, zTX bf n z x.2.1 → ∃ v, zSs bf n T m (x.1, x.2.1, W V x.2.2) v ∧ fX8_readsOnce m w lo hi = some v := by
    intro hq x hx
    refine ⟨_, ?_, y_readsOnceB hR hk ⟨by omega, by omega⟩ hq ev hv.1.2.1 (hv.2.2.1 24 (by decide))⟩
    have hE : zEx [9, 10, 24] [] m (zPu v' 24 (zOr (m.1 24) (zP2 w))) := zEx_u (zEx_w hv.2.2 (by decide) (by decide)) (by decide)
    refine ⟨zEx_t (zEx_w hv.2.1 (by decide) (by decide)) (zEx_w hx.2 (by decide) (by decide)), ⟨zEx_w hE (by decide) (by decide), fun j _ => by rw [hE.2 2 (by decide)], fun j _ => by rw [hE.2 7 (by decide)]⟩, Or.inr ?_⟩
    exact zTE_m (zTE_X hv.1 hx) (zEx_u (ns := [24]) (js := []) zEx_0 (by decide)) (by decide) (by decide)
  by_cases q : w = 1 ∧ ¬ m.2 2 0 ≤ 0
  · rw [hb.2 q, ez]
    show zOk ((fX5_readSetting R z a lo hi).bind fun t => some (t.1, t.2.1, W V t.2.2)) _
    refine zok_b (x_readSettingX hv.1.1 z6.1 z6.2 hR.2.1 hw3 hand ⟨by omega, by omega⟩ ⟨by omega, by omega⟩) (fun x hx => zok_s (bad (Or.inr q) x hx))
  · rw [hb.1 q]
    by_cases q2 : zAnd (R.1 0) a = 0
    · refine zok_b (z_setG h hR hk (fun e => Classical.byContradiction (fun z => q ⟨e, z⟩)) ⟨by omega, by omega⟩ q2 hlo hhi) (fun x hx => zok_s ?_)
      obtain ⟨v, ev2, f1, f2, f3, f4⟩ := hx
      refine ⟨v, ⟨f1, ⟨f2, f3.1, fun j _ => by rw [f3.2]⟩, ?_⟩, ev2⟩
      rcases f4 with ⟨g1, g2, g3, g4, g5, g6⟩ | g
      · refine Or.inl ⟨g1, ?_, ?_, g2⟩
        · show zRd x.1 v
          rw [g3]
          exact zRd_s hR hk g6
        · show zBr (W V x.2.2) (v.2 2) (v.2 7)
          rw [g4, f3.2]
          exact hW (fun e => Classical.byContradiction (fun z => q ⟨e, z⟩)) x.2.2 g5.1 g5.2
      · exact Or.inr g
    · have key : zOk (fX5_readSetting R T a lo hi) (fun x => zTX bf n z x.2.1) := by
        unfold fX5_readSetting
        refine zok_g ⟨hR.2.1, hw3⟩ ?_
        refine zok_jP (fun (y : CV) => y = z) (fun y hy => ?_) (fun K hK => zok_g hand (zok_f q2 (zok_e ez (hK _ rfl))))
        rw [hy]
        refine zok_b (x_next hv.1.1) (fun t ht => ?_)
        have e6 := ht.1.2.1 6 (by decide)
        exact zok_b (x_passNumberX ht.1.1 (by rw [e6]; exact z6.1) (by rw [e6]; exact z6.2) ⟨by omega, by omega⟩ ⟨by omega, by omega⟩) (fun u hu => zok_s (ht.1.t hu))
      exact zok_b key (fun x hx => zok_s (bad (Or.inl q2) x hx))
theorem zBsm {α β : Type} {a : α} {f : α → Option β} : (some a).bind f = f a := rfl
theorem z_statement {R T V m : CV} (h : zTR bf n T m) (hR : zRd R m) (hBr : zBr V (m.2 2) (m.2 7)) : zOk (fX5_readStatement R T V) (fun x => ∃ v, zSs bf n T m x v ∧ fX8_statement m = fX8_mustSign v 59) := by
  have hB := zBr_1 hBr
  have w0 := hB.1.1
  have hV3 : V.1 3 = m.2 2 0 := hB.2.1.2.2.2.1
  obtain ⟨b1, x1, y1, k1⟩ := z_isWord h (w := [12, 5, 20, 20, 5, 18, 19]) (by unfold zLet; decide) (by decide)
  obtain ⟨b2', x2, y2, k2⟩ := z_isWord h (w := [12, 5, 14, 7, 20, 8]) (by unfold zLet; decide) (by decide)
  obtain ⟨b3, x3, y3, k3⟩ := z_isWord h (w := [3, 8, 1, 14, 7, 5, 19]) (by unfold zLet; decide) (by decide)
  obtain ⟨b4, x4, y4, k4⟩ := z_isWord h (w := [18, 15, 23]) (by unfold zLet; decide) (by decide)
  rw [← zTx_letters] at x1
  rw [← zTx_length] at x2
  rw [← zTx_changes] at x3
  rw [← zTx_row] at x4
  rw [← z5_letters] at y1
  rw [← z5_length] at y2
  rw [← z5_changes] at y3
  rw [← z5_row] at y4
  have some_id : ∀ (o : Option CV), (o.bind fun t => some t) = o := fun o => by cases o <;> rfl
  unfold fX5_readStatement
  refine zok_e x1 ?_
  cases b1 with
  | true =>
    refine zok_t rfl ?_
    obtain ⟨x, ex, v, hv, ev⟩ := z_setS (W := fun V x => zPu V 0 x) (lo := 2) (hi := 4) (a := 1) (w := 1) h hR hBr (k1 rfl) (Or.inl ⟨rfl, rfl⟩) (by decide) (by decide) (fun e x x0 x1 => zBr_s1 hBr (by have := e rfl; omega) ⟨x0, x1⟩) (b := if m.2 2 0 ≤ 0 then fX5_readSetting R T 1 2 4 else (fX6_fail T 4).bind fun t => fX5_readSetting R t 1 2 4) ⟨fun q => if_pos (Classical.byContradiction (fun z => q ⟨rfl, z⟩)), fun q => if_neg q.2⟩
    have e : zJn (σ := CV) (ρ := CV × CV × CV) (fun x25 => (fX5_readSetting R x25 1 2 4).bind fun t26 => some (t26.1, t26.2.1, (zPu V 0 t26.2.2))) (fun j25 => zG (iR (V.1 3)) <| if (V.1 3) ≤ 0 then (j25 T) else ((fX6_fail T 4).bind fun t30 => j25 t30)) = some x := by
      rw [← ex]
      dsimp only [zJn]
      rw [hV3, zgp (show iR (m.2 2 0) from ⟨by omega, by omega⟩)]
      by_cases q : m.2 2 0 ≤ 0
      · rw [if_pos q, if_pos q]
      · rw [if_neg q, if_neg q]
        cases fX6_fail T 4 <;> rfl
    refine zok_v e ⟨v, hv, ?_⟩
    unfold fX8_statement
    rw [y1, zBsm]
    dsimp only [zJn]
    rw [if_pos (rfl : true = true), ev, zBsm]
    exact some_id _
  | false =>
    refine zok_f Bool.false_ne_true ?_
    refine zok_e x2 ?_
    cases b2' with
    | true =>
      refine zok_t rfl ?_
      obtain ⟨x, ex, v, hv, ev⟩ := z_setS (W := fun V x => zPu V 1 x) (lo := 2) (hi := 6) (a := 2) (w := 2) h hR hBr (k2 rfl) (Or.inr (Or.inl ⟨rfl, rfl⟩)) (by decide) (by decide) (fun e x x0 x1 => zBr_s2 hBr ⟨x0, x1⟩) (b := fX5_readSetting R T 2 2 6) ⟨fun q => rfl, fun q => absurd q.1 (by decide)⟩
      refine zok_v ex ⟨v, hv, ?_⟩
      unfold fX8_statement
      rw [y1, zBsm]
      dsimp only [zJn]
      rw [if_neg Bool.false_ne_true, y2, zBsm, if_pos (rfl : true = true), ev, zBsm]
      exact some_id _
    | false =>
      refine zok_f Bool.false_ne_true ?_
      refine zok_e x3 ?_
      cases b3 with
      | true =>
        refine zok_t rfl ?_
        obtain ⟨x, ex, v, hv, ev⟩ := z_setS (W := fun V x => zPu V 2 x) (lo := 0) (hi := 3) (a := 4) (w := 3) h hR hBr (k3 rfl) (Or.inr (Or.inr ⟨rfl, rfl⟩)) (by decide) (by decide) (fun e x x0 x1 => zBr_s3 hBr ⟨x0, x1⟩) (b := fX5_readSetting R T 4 0 3) ⟨fun q => rfl, fun q => absurd q.1 (by decide)⟩
        refine zok_v ex ⟨v, hv, ?_⟩
        unfold fX8_statement
        rw [y1, zBsm]
        dsimp only [zJn]
        rw [if_neg Bool.false_ne_true, y2, zBsm, if_neg Bool.false_ne_true, y3, zBsm, if_pos (rfl : true = true), ev, zBsm]
        exact some_id _
      | false =>
        refine zok_f Bool.false_ne_true ?_
        refine zok_e x4 ?_
        cases b4 with
        | true =>
          refine zok_t rfl ?_
          refine zok_b (z_row (VRd := R) h hBr (k4 rfl)) (fun r hr => zok_s ?_)
          obtain ⟨v, ev, f1, f2, f3⟩ := hr
          refine ⟨v, ⟨f1, ⟨zEx_w f2.1 (by decide) (by decide), f2.2⟩, ?_⟩, ?_⟩
          · rcases f3 with ⟨g1, g2, g3⟩ | g
            · refine Or.inl ⟨g1, ?_, g2, g3⟩
              show v.1 24 = 2 * R.1 0 ∧ _
              rw [f2.1.1 24 (by decide)]
              exact hR
            · exact Or.inr g
          · unfold fX8_statement
            rw [y1, zBsm]
            dsimp only [zJn]
            rw [if_neg Bool.false_ne_true, y2, zBsm, if_neg Bool.false_ne_true, y3, zBsm, if_neg Bool.false_ne_true, y4, zBsm, if_pos (rfl : true = true), ev, zBsm]
            exact some_id _
        | false =>
          refine zok_f Bool.false_ne_true ?_
          refine zok_b (z_fail h (c := 1) (by decide) (fun q => rfl)) (fun t ht => zok_s ?_)
          obtain ⟨v, ev, g, f1, f2⟩ := ht
          refine ⟨v, ⟨zEx_w f1 (by decide) (by decide), ⟨zEx_w f2 (by decide) (by decide), fun j _ => by rw [f2.2 2 (by decide)], fun j _ => by rw [f2.2 7 (by decide)]⟩, Or.inr g⟩, ?_⟩
          unfold fX8_statement
          rw [y1, zBsm]
          dsimp only [zJn]
          rw [if_neg Bool.false_ne_true, y2, zBsm, if_neg Bool.false_ne_true, y3, zBsm, if_neg Bool.false_ne_true, y4, zBsm, if_neg Bool.false_ne_true, ev, zBsm]
          exact some_id _
end ZST
