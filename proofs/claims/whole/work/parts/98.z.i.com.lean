section ZYM
variable {bf : Int → Int} {n : Int}
noncomputable def zMI (t1 : Int) (t23 : CV) : Option CV := zJn (σ := CV) (ρ := CV) (fun x37 => zJn (σ := CV) (ρ := CV) (fun x42 => zJn (σ := CV) (ρ := CV) (fun x52 => zJn (σ := CV) (ρ := CV) (fun x57 => zJn (σ := CV) (ρ := CV) (fun x62 => zJn (σ := CV) (ρ := CV) (fun x67 => (fX8_isGood x67).bind fun t68 => if t68 = true then (zJn (σ := Int) (ρ := CV) (fun x73 => (fX8_truth x73).bind fun t74 => some (zPu (zPu x67 42 ((x67.1 42) + 1)) 44 ((x67.1 44) + t74))) (fun j73 => zG (iR t1) <| if t1 = 9 then (j73 1) else (j73 0))) else (some x67)) (fun j67 => zG (iR t1) <| if t1 = 9 then ((fX8_mustSign x62 40).bind fun t80 => j67 t80) else (j67 x62))) (fun j62 => zG (iR t1) <| if t1 = 9 then ((fX8_number x57 1 20).bind fun t84 => j62 (zPa t84.1 16 (t23.1 42) t84.2)) else (j62 x57))) (fun j57 => zG (iR t1) <| if t1 = 4 then ((fX8_toldWord x52).bind fun t88 => j57 (zPa t88.1 16 (t23.1 42) t88.2)) else (j57 x52))) (fun j52 => zJn (σ := Unit) (ρ := CV) (fun x93 => (fX8_number x42 0 999).bind fun t94 => j52 (zPa t94.1 16 (t23.1 42) t94.2)) (fun j93 => zG (iR t1) <| if t1 = 3 then (j93 ()) else (if t1 = 8 then (j93 ()) else (j52 x42))))) (fun j42 => zG (iR t1) <| if t1 = 0 then ((fX8_number x37 0 999).bind fun t101 => j42 (zPa t101.1 17 (t23.1 42) t101.2)) else (j42 x37))) (fun j37 => zJn (σ := Unit) (ρ := CV) (fun x107 => (fX8_toldRow (zPa t23 15 (t23.1 42) t1)).bind fun t108 => j37 (zPa t108.1 16 (t23.1 42) t108.2)) (fun j107 => zG (iR t1) <| if t1 ≤ 2 then (j107 ()) else (if t1 = 6 then (j107 ()) else (if t1 = 7 then (j107 ()) else (j37 (zPa t23 15 (t23.1 42) t1))))))
noncomputable def zFn (t1 : Int) (x67 : CV) : Option CV := (fX8_isGood x67).bind fun t68 => if t68 = true then (zJn (σ := Int) (ρ := CV) (fun x73 => (fX8_truth x73).bind fun t74 => some (zPu (zPu x67 42 ((x67.1 42) + 1)) 44 ((x67.1 44) + t74))) (fun j73 => zG (iR t1) <| if t1 = 9 then (j73 1) else (j73 0))) else (some x67)
theorem zFn_g {b : Int} {x : CV} (h : x.1 9 = 0) (hb : iR b) : zFn b x = some (zPu (zPu x 42 ((x.1 42) + 1)) 44 ((x.1 44) + (if b = 9 then 1 else 0))) := by
  apply zok_q
  unfold zFn
  refine zok_e (y_good0 h) (zok_t rfl ?_)
  refine zok_jP (fun (q : Int) => q = if b = 9 then 1 else 0) (fun q hq => ?_) (fun K hK => ?_)
  · rw [hq]
    have e : fX8_truth (if b = 9 then 1 else 0) = some (if b = 9 then 1 else 0) := by
      split
      · exact m_truth (by decide)
      · exact m_truth (by decide)
    exact zok_e e (zok_s rfl)
  · refine zok_g hb (zok_i (fun c => hK _ ?_) (fun c => hK _ ?_))
    · rw [if_pos c]
    · rw [if_neg c]
theorem zFn_e {b : Int} {x : CV} (h : 1 ≤ x.1 9 ∧ x.1 9 ≤ 6) : zFn b x = some x := by
  apply zok_q
  unfold zFn
  exact zok_e (y_goodE h) (zok_f Bool.false_ne_true (zok_s rfl))
theorem y_wrongE {m : CV} {c : Int} (h : 1 ≤ m.1 9 ∧ m.1 9 ≤ 6) : fX8_wrong m c = some m := by
  apply zok_q
  unfold fX8_wrong
  exact zok_g ⟨by omega, by omega⟩ (zok_f (by omega) (zok_s rfl))
theorem y_ci0 {t : CV} {u : CV} {v : Int} (hr : fX8_toldRow (zPa t 15 (t.1 42) 0) = some (u, v)) {u2 : CV} {v2 : Int} (hn : fX8_number (zPa u 16 (t.1 42) v) 0 999 = some (u2, v2)) {Q : CV → Prop} (hQ : zOk (zFn 0 (zPa u2 17 (t.1 42) v2)) Q) : zOk (zMI 0 t) Q := by
  unfold zMI
  refine zok_jP (fun (x : CV) => x = (zPa u 16 (t.1 42) v)) (fun x hx => ?_) (fun K hK => ?_)
  rotate_left
  · refine zok_jP (fun _ => True) (fun _ _ => zok_e hr (hK _ rfl)) (fun J hJ => ?_)
    exact zok_g (by decide) (zok_t (by decide) (hJ () trivial))
  rw [hx]
  refine zok_jP (fun (x : CV) => x = (zPa u2 17 (t.1 42) v2)) (fun x hx => ?_) (fun K hK => ?_)
  rotate_left
  · exact zok_g (by decide) (zok_t rfl (zok_e hn (hK _ rfl)))
  rw [hx]
  refine zok_jP (fun (x : CV) => x = (zPa u2 17 (t.1 42) v2)) (fun x hx => ?_) (fun K hK => ?_)
  rotate_left
  · refine zok_jP (fun _ => False) (fun _ z => z.elim) (fun J hJ => ?_)
    exact zok_g (by decide) (zok_f (by decide) (zok_f (by decide) (hK _ rfl)))
  rw [hx]
  refine zok_jP (fun (x : CV) => x = (zPa u2 17 (t.1 42) v2)) (fun x hx => ?_) (fun K hK => ?_)
  rotate_left
  · exact zok_g (by decide) (zok_f (by decide) (hK _ rfl))
  rw [hx]
  refine zok_jP (fun (x : CV) => x = (zPa u2 17 (t.1 42) v2)) (fun x hx => ?_) (fun K hK => ?_)
  rotate_left
  · exact zok_g (by decide) (zok_f (by decide) (hK _ rfl))
  rw [hx]
  refine zok_jP (fun (x : CV) => x = (zPa u2 17 (t.1 42) v2)) (fun x hx => ?_) (fun K hK => ?_)
  rotate_left
  · exact zok_g (by decide) (zok_f (by decide) (hK _ rfl))
  rw [hx]
  exact hQ
theorem y_ci1 {t : CV} {u : CV} {v : Int} (hr : fX8_toldRow (zPa t 15 (t.1 42) 1) = some (u, v)) {Q : CV → Prop} (hQ : zOk (zFn 1 (zPa u 16 (t.1 42) v)) Q) : zOk (zMI 1 t) Q := by
  unfold zMI
  refine zok_jP (fun (x : CV) => x = (zPa u 16 (t.1 42) v)) (fun x hx => ?_) (fun K hK => ?_)
  rotate_left
  · refine zok_jP (fun _ => True) (fun _ _ => zok_e hr (hK _ rfl)) (fun J hJ => ?_)
    exact zok_g (by decide) (zok_t (by decide) (hJ () trivial))
  rw [hx]
  refine zok_jP (fun (x : CV) => x = (zPa u 16 (t.1 42) v)) (fun x hx => ?_) (fun K hK => ?_)
  rotate_left
  · exact zok_g (by decide) (zok_f (by decide) (hK _ rfl))
  rw [hx]
  refine zok_jP (fun (x : CV) => x = (zPa u 16 (t.1 42) v)) (fun x hx => ?_) (fun K hK => ?_)
  rotate_left
  · refine zok_jP (fun _ => False) (fun _ z => z.elim) (fun J hJ => ?_)
    exact zok_g (by decide) (zok_f (by decide) (zok_f (by decide) (hK _ rfl)))
  rw [hx]
  refine zok_jP (fun (x : CV) => x = (zPa u 16 (t.1 42) v)) (fun x hx => ?_) (fun K hK => ?_)
  rotate_left
  · exact zok_g (by decide) (zok_f (by decide) (hK _ rfl))
  rw [hx]
  refine zok_jP (fun (x : CV) => x = (zPa u 16 (t.1 42) v)) (fun x hx => ?_) (fun K hK => ?_)
  rotate_left
  · exact zok_g (by decide) (zok_f (by decide) (hK _ rfl))
  rw [hx]
  refine zok_jP (fun (x : CV) => x = (zPa u 16 (t.1 42) v)) (fun x hx => ?_) (fun K hK => ?_)
  rotate_left
  · exact zok_g (by decide) (zok_f (by decide) (hK _ rfl))
  rw [hx]
  exact hQ
theorem y_ci2 {t : CV} {u : CV} {v : Int} (hr : fX8_toldRow (zPa t 15 (t.1 42) 2) = some (u, v)) {Q : CV → Prop} (hQ : zOk (zFn 2 (zPa u 16 (t.1 42) v)) Q) : zOk (zMI 2 t) Q := by
  unfold zMI
  refine zok_jP (fun (x : CV) => x = (zPa u 16 (t.1 42) v)) (fun x hx => ?_) (fun K hK => ?_)
  rotate_left
  · refine zok_jP (fun _ => True) (fun _ _ => zok_e hr (hK _ rfl)) (fun J hJ => ?_)
    exact zok_g (by decide) (zok_t (by decide) (hJ () trivial))
  rw [hx]
  refine zok_jP (fun (x : CV) => x = (zPa u 16 (t.1 42) v)) (fun x hx => ?_) (fun K hK => ?_)
  rotate_left
  · exact zok_g (by decide) (zok_f (by decide) (hK _ rfl))
  rw [hx]
  refine zok_jP (fun (x : CV) => x = (zPa u 16 (t.1 42) v)) (fun x hx => ?_) (fun K hK => ?_)
  rotate_left
  · refine zok_jP (fun _ => False) (fun _ z => z.elim) (fun J hJ => ?_)
    exact zok_g (by decide) (zok_f (by decide) (zok_f (by decide) (hK _ rfl)))
  rw [hx]
  refine zok_jP (fun (x : CV) => x = (zPa u 16 (t.1 42) v)) (fun x hx => ?_) (fun K hK => ?_)
  rotate_left
  · exact zok_g (by decide) (zok_f (by decide) (hK _ rfl))
  rw [hx]
  refine zok_jP (fun (x : CV) => x = (zPa u 16 (t.1 42) v)) (fun x hx => ?_) (fun K hK => ?_)
  rotate_left
  · exact zok_g (by decide) (zok_f (by decide) (hK _ rfl))
  rw [hx]
  refine zok_jP (fun (x : CV) => x = (zPa u 16 (t.1 42) v)) (fun x hx => ?_) (fun K hK => ?_)
  rotate_left
  · exact zok_g (by decide) (zok_f (by decide) (hK _ rfl))
  rw [hx]
  exact hQ
theorem y_ci3 {t : CV} {u : CV} {v : Int} (hn : fX8_number (zPa t 15 (t.1 42) 3) 0 999 = some (u, v)) {Q : CV → Prop} (hQ : zOk (zFn 3 (zPa u 16 (t.1 42) v)) Q) : zOk (zMI 3 t) Q := by
  unfold zMI
  refine zok_jP (fun (x : CV) => x = (zPa t 15 (t.1 42) 3)) (fun x hx => ?_) (fun K hK => ?_)
  rotate_left
  · refine zok_jP (fun _ => False) (fun _ z => z.elim) (fun J hJ => ?_)
    exact zok_g (by decide) (zok_f (by decide) (zok_f (by decide) (zok_f (by decide) (hK _ rfl))))
  rw [hx]
  refine zok_jP (fun (x : CV) => x = (zPa t 15 (t.1 42) 3)) (fun x hx => ?_) (fun K hK => ?_)
  rotate_left
  · exact zok_g (by decide) (zok_f (by decide) (hK _ rfl))
  rw [hx]
  refine zok_jP (fun (x : CV) => x = (zPa u 16 (t.1 42) v)) (fun x hx => ?_) (fun K hK => ?_)
  rotate_left
  · refine zok_jP (fun _ => True) (fun _ _ => zok_e hn (hK _ rfl)) (fun J hJ => ?_)
    exact zok_g (by decide) (zok_t rfl (hJ () trivial))
  rw [hx]
  refine zok_jP (fun (x : CV) => x = (zPa u 16 (t.1 42) v)) (fun x hx => ?_) (fun K hK => ?_)
  rotate_left
  · exact zok_g (by decide) (zok_f (by decide) (hK _ rfl))
  rw [hx]
  refine zok_jP (fun (x : CV) => x = (zPa u 16 (t.1 42) v)) (fun x hx => ?_) (fun K hK => ?_)
  rotate_left
  · exact zok_g (by decide) (zok_f (by decide) (hK _ rfl))
  rw [hx]
  refine zok_jP (fun (x : CV) => x = (zPa u 16 (t.1 42) v)) (fun x hx => ?_) (fun K hK => ?_)
  rotate_left
  · exact zok_g (by decide) (zok_f (by decide) (hK _ rfl))
  rw [hx]
  exact hQ
theorem y_ci4 {t : CV} {u : CV} {v : Int} (hn : fX8_toldWord (zPa t 15 (t.1 42) 4) = some (u, v)) {Q : CV → Prop} (hQ : zOk (zFn 4 (zPa u 16 (t.1 42) v)) Q) : zOk (zMI 4 t) Q := by
  unfold zMI
  refine zok_jP (fun (x : CV) => x = (zPa t 15 (t.1 42) 4)) (fun x hx => ?_) (fun K hK => ?_)
  rotate_left
  · refine zok_jP (fun _ => False) (fun _ z => z.elim) (fun J hJ => ?_)
    exact zok_g (by decide) (zok_f (by decide) (zok_f (by decide) (zok_f (by decide) (hK _ rfl))))
  rw [hx]
  refine zok_jP (fun (x : CV) => x = (zPa t 15 (t.1 42) 4)) (fun x hx => ?_) (fun K hK => ?_)
  rotate_left
  · exact zok_g (by decide) (zok_f (by decide) (hK _ rfl))
  rw [hx]
  refine zok_jP (fun (x : CV) => x = (zPa t 15 (t.1 42) 4)) (fun x hx => ?_) (fun K hK => ?_)
  rotate_left
  · refine zok_jP (fun _ => False) (fun _ z => z.elim) (fun J hJ => ?_)
    exact zok_g (by decide) (zok_f (by decide) (zok_f (by decide) (hK _ rfl)))
  rw [hx]
  refine zok_jP (fun (x : CV) => x = (zPa u 16 (t.1 42) v)) (fun x hx => ?_) (fun K hK => ?_)
  rotate_left
  · exact zok_g (by decide) (zok_t rfl (zok_e hn (hK _ rfl)))
  rw [hx]
  refine zok_jP (fun (x : CV) => x = (zPa u 16 (t.1 42) v)) (fun x hx => ?_) (fun K hK => ?_)
  rotate_left
  · exact zok_g (by decide) (zok_f (by decide) (hK _ rfl))
  rw [hx]
  refine zok_jP (fun (x : CV) => x = (zPa u 16 (t.1 42) v)) (fun x hx => ?_) (fun K hK => ?_)
  rotate_left
  · exact zok_g (by decide) (zok_f (by decide) (hK _ rfl))
  rw [hx]
  exact hQ
theorem y_ci5 {t : CV} {Q : CV → Prop} (hQ : zOk (zFn 5 (zPa t 15 (t.1 42) 5)) Q) : zOk (zMI 5 t) Q := by
  unfold zMI
  refine zok_jP (fun (x : CV) => x = (zPa t 15 (t.1 42) 5)) (fun x hx => ?_) (fun K hK => ?_)
  rotate_left
  · refine zok_jP (fun _ => False) (fun _ z => z.elim) (fun J hJ => ?_)
    exact zok_g (by decide) (zok_f (by decide) (zok_f (by decide) (zok_f (by decide) (hK _ rfl))))
  rw [hx]
  refine zok_jP (fun (x : CV) => x = (zPa t 15 (t.1 42) 5)) (fun x hx => ?_) (fun K hK => ?_)
  rotate_left
  · exact zok_g (by decide) (zok_f (by decide) (hK _ rfl))
  rw [hx]
  refine zok_jP (fun (x : CV) => x = (zPa t 15 (t.1 42) 5)) (fun x hx => ?_) (fun K hK => ?_)
  rotate_left
  · refine zok_jP (fun _ => False) (fun _ z => z.elim) (fun J hJ => ?_)
    exact zok_g (by decide) (zok_f (by decide) (zok_f (by decide) (hK _ rfl)))
  rw [hx]
  refine zok_jP (fun (x : CV) => x = (zPa t 15 (t.1 42) 5)) (fun x hx => ?_) (fun K hK => ?_)
  rotate_left
  · exact zok_g (by decide) (zok_f (by decide) (hK _ rfl))
  rw [hx]
  refine zok_jP (fun (x : CV) => x = (zPa t 15 (t.1 42) 5)) (fun x hx => ?_) (fun K hK => ?_)
  rotate_left
  · exact zok_g (by decide) (zok_f (by decide) (hK _ rfl))
  rw [hx]
  refine zok_jP (fun (x : CV) => x = (zPa t 15 (t.1 42) 5)) (fun x hx => ?_) (fun K hK => ?_)
  rotate_left
  · exact zok_g (by decide) (zok_f (by decide) (hK _ rfl))
  rw [hx]
  exact hQ
theorem y_ci6 {t : CV} {u : CV} {v : Int} (hr : fX8_toldRow (zPa t 15 (t.1 42) 6) = some (u, v)) {Q : CV → Prop} (hQ : zOk (zFn 6 (zPa u 16 (t.1 42) v)) Q) : zOk (zMI 6 t) Q := by
  unfold zMI
  refine zok_jP (fun (x : CV) => x = (zPa u 16 (t.1 42) v)) (fun x hx => ?_) (fun K hK => ?_)
  rotate_left
  · refine zok_jP (fun _ => True) (fun _ _ => zok_e hr (hK _ rfl)) (fun J hJ => ?_)
    exact zok_g (by decide) (zok_f (by decide) (zok_t rfl (hJ () trivial)))
  rw [hx]
  refine zok_jP (fun (x : CV) => x = (zPa u 16 (t.1 42) v)) (fun x hx => ?_) (fun K hK => ?_)
  rotate_left
  · exact zok_g (by decide) (zok_f (by decide) (hK _ rfl))
  rw [hx]
  refine zok_jP (fun (x : CV) => x = (zPa u 16 (t.1 42) v)) (fun x hx => ?_) (fun K hK => ?_)
  rotate_left
  · refine zok_jP (fun _ => False) (fun _ z => z.elim) (fun J hJ => ?_)
    exact zok_g (by decide) (zok_f (by decide) (zok_f (by decide) (hK _ rfl)))
  rw [hx]
  refine zok_jP (fun (x : CV) => x = (zPa u 16 (t.1 42) v)) (fun x hx => ?_) (fun K hK => ?_)
  rotate_left
  · exact zok_g (by decide) (zok_f (by decide) (hK _ rfl))
  rw [hx]
  refine zok_jP (fun (x : CV) => x = (zPa u 16 (t.1 42) v)) (fun x hx => ?_) (fun K hK => ?_)
  rotate_left
  · exact zok_g (by decide) (zok_f (by decide) (hK _ rfl))
  rw [hx]
  refine zok_jP (fun (x : CV) => x = (zPa u 16 (t.1 42) v)) (fun x hx => ?_) (fun K hK => ?_)
  rotate_left
  · exact zok_g (by decide) (zok_f (by decide) (hK _ rfl))
  rw [hx]
  exact hQ
theorem y_ci7 {t : CV} {u : CV} {v : Int} (hr : fX8_toldRow (zPa t 15 (t.1 42) 7) = some (u, v)) {Q : CV → Prop} (hQ : zOk (zFn 7 (zPa u 16 (t.1 42) v)) Q) : zOk (zMI 7 t) Q := by
  unfold zMI
  refine zok_jP (fun (x : CV) => x = (zPa u 16 (t.1 42) v)) (fun x hx => ?_) (fun K hK => ?_)
  rotate_left
  · refine zok_jP (fun _ => True) (fun _ _ => zok_e hr (hK _ rfl)) (fun J hJ => ?_)
    exact zok_g (by decide) (zok_f (by decide) (zok_f (by decide) (zok_t rfl (hJ () trivial))))
  rw [hx]
  refine zok_jP (fun (x : CV) => x = (zPa u 16 (t.1 42) v)) (fun x hx => ?_) (fun K hK => ?_)
  rotate_left
  · exact zok_g (by decide) (zok_f (by decide) (hK _ rfl))
  rw [hx]
  refine zok_jP (fun (x : CV) => x = (zPa u 16 (t.1 42) v)) (fun x hx => ?_) (fun K hK => ?_)
  rotate_left
  · refine zok_jP (fun _ => False) (fun _ z => z.elim) (fun J hJ => ?_)
    exact zok_g (by decide) (zok_f (by decide) (zok_f (by decide) (hK _ rfl)))
  rw [hx]
  refine zok_jP (fun (x : CV) => x = (zPa u 16 (t.1 42) v)) (fun x hx => ?_) (fun K hK => ?_)
  rotate_left
  · exact zok_g (by decide) (zok_f (by decide) (hK _ rfl))
  rw [hx]
  refine zok_jP (fun (x : CV) => x = (zPa u 16 (t.1 42) v)) (fun x hx => ?_) (fun K hK => ?_)
  rotate_left
  · exact zok_g (by decide) (zok_f (by decide) (hK _ rfl))
  rw [hx]
  refine zok_jP (fun (x : CV) => x = (zPa u 16 (t.1 42) v)) (fun x hx => ?_) (fun K hK => ?_)
  rotate_left
  · exact zok_g (by decide) (zok_f (by decide) (hK _ rfl))
  rw [hx]
  exact hQ
theorem y_ci8 {t : CV} {u : CV} {v : Int} (hn : fX8_number (zPa t 15 (t.1 42) 8) 0 999 = some (u, v)) {Q : CV → Prop} (hQ : zOk (zFn 8 (zPa u 16 (t.1 42) v)) Q) : zOk (zMI 8 t) Q := by
  unfold zMI
  refine zok_jP (fun (x : CV) => x = (zPa t 15 (t.1 42) 8)) (fun x hx => ?_) (fun K hK => ?_)
  rotate_left
  · refine zok_jP (fun _ => False) (fun _ z => z.elim) (fun J hJ => ?_)
    exact zok_g (by decide) (zok_f (by decide) (zok_f (by decide) (zok_f (by decide) (hK _ rfl))))
  rw [hx]
  refine zok_jP (fun (x : CV) => x = (zPa t 15 (t.1 42) 8)) (fun x hx => ?_) (fun K hK => ?_)
  rotate_left
  · exact zok_g (by decide) (zok_f (by decide) (hK _ rfl))
  rw [hx]
  refine zok_jP (fun (x : CV) => x = (zPa u 16 (t.1 42) v)) (fun x hx => ?_) (fun K hK => ?_)
  rotate_left
  · refine zok_jP (fun _ => True) (fun _ _ => zok_e hn (hK _ rfl)) (fun J hJ => ?_)
    exact zok_g (by decide) (zok_f (by decide) (zok_t rfl (hJ () trivial)))
  rw [hx]
  refine zok_jP (fun (x : CV) => x = (zPa u 16 (t.1 42) v)) (fun x hx => ?_) (fun K hK => ?_)
  rotate_left
  · exact zok_g (by decide) (zok_f (by decide) (hK _ rfl))
  rw [hx]
  refine zok_jP (fun (x : CV) => x = (zPa u 16 (t.1 42) v)) (fun x hx => ?_) (fun K hK => ?_)
  rotate_left
  · exact zok_g (by decide) (zok_f (by decide) (hK _ rfl))
  rw [hx]
  refine zok_jP (fun (x : CV) => x = (zPa u 16 (t.1 42) v)) (fun x hx => ?_) (fun K hK => ?_)
  rotate_left
  · exact zok_g (by decide) (zok_f (by decide) (hK _ rfl))
  rw [hx]
  exact hQ
theorem y_ci9 {t : CV} {u : CV} {v : Int} (hn : fX8_number (zPa t 15 (t.1 42) 9) 1 20 = some (u, v)) {w : CV} (hm : fX8_mustSign (zPa u 16 (t.1 42) v) 40 = some w) {Q : CV → Prop} (hQ : zOk (zFn 9 w) Q) : zOk (zMI 9 t) Q := by
  unfold zMI
  refine zok_jP (fun (x : CV) => x = (zPa t 15 (t.1 42) 9)) (fun x hx => ?_) (fun K hK => ?_)
  rotate_left
  · refine zok_jP (fun _ => False) (fun _ z => z.elim) (fun J hJ => ?_)
    exact zok_g (by decide) (zok_f (by decide) (zok_f (by decide) (zok_f (by decide) (hK _ rfl))))
  rw [hx]
  refine zok_jP (fun (x : CV) => x = (zPa t 15 (t.1 42) 9)) (fun x hx => ?_) (fun K hK => ?_)
  rotate_left
  · exact zok_g (by decide) (zok_f (by decide) (hK _ rfl))
  rw [hx]
  refine zok_jP (fun (x : CV) => x = (zPa t 15 (t.1 42) 9)) (fun x hx => ?_) (fun K hK => ?_)
  rotate_left
  · refine zok_jP (fun _ => False) (fun _ z => z.elim) (fun J hJ => ?_)
    exact zok_g (by decide) (zok_f (by decide) (zok_f (by decide) (hK _ rfl)))
  rw [hx]
  refine zok_jP (fun (x : CV) => x = (zPa t 15 (t.1 42) 9)) (fun x hx => ?_) (fun K hK => ?_)
  rotate_left
  · exact zok_g (by decide) (zok_f (by decide) (hK _ rfl))
  rw [hx]
  refine zok_jP (fun (x : CV) => x = (zPa u 16 (t.1 42) v)) (fun x hx => ?_) (fun K hK => ?_)
  rotate_left
  · exact zok_g (by decide) (zok_t rfl (zok_e hn (hK _ rfl)))
  rw [hx]
  refine zok_jP (fun (x : CV) => x = w) (fun x hx => ?_) (fun K hK => ?_)
  rotate_left
  · exact zok_g (by decide) (zok_t rfl (zok_e hm (hK _ rfl)))
  rw [hx]
  exact hQ
/-- what is read so far of a script -/
noncomputable def zYs (S m : CV) : Prop := ∃ d : Nat, d ≤ 2 ∧ S.1 6 = (d : Int) ∧ m.1 44 = (d : Int) ∧ S.1 3 = m.1 43 ∧ (0 ≤ S.1 3 ∧ S.1 3 ≤ 30) ∧ (0 ≤ m.1 42 ∧ m.1 42 + (d : Int) ≤ 2 * m.1 43) ∧ zYp S m (m.2 2 0) (zWords (m.2 2)) (S.1 3) (m.1 42) d 2 0 0
theorem zYs_m {S m m' : CV} {ns js : List Nat} (h : zYs S m) (e : zEx ns js m m') (h1 : ∀ k ∈ [42, 43, 44], k ∉ ns) (h2 : ∀ k ∈ [2, 15, 16, 17], k ∉ js) : zYs S m' := by
  obtain ⟨d, a1, a2, a3, a4, a5, a6, a7⟩ := h
  refine ⟨d, a1, a2, ?_, ?_, a5, ?_, ?_⟩
  · rw [e.1 44 (h1 44 (by decide))]; exact a3
  · rw [e.1 43 (h1 43 (by decide))]; exact a4
  · rw [e.1 42 (h1 42 (by decide)), e.1 43 (h1 43 (by decide))]; exact a6
  · rw [e.1 42 (h1 42 (by decide)), e.2 2 (h2 2 (by decide))]
    have q : ∀ (d D : Nat) (i k : Int), zYp S m (m.2 2 0) (zWords (m.2 2)) (S.1 3) (m.1 42) d D i k → zYp S m' (m.2 2 0) (zWords (m.2 2)) (S.1 3) (m.1 42) d D i k := by
      intro d
      induction d with
      | zero => intro D i k z; exact zYb_fr z (fun j _ _ => ⟨rfl, rfl, rfl, rfl⟩) (fun j _ _ => by rw [e.2 15 (h2 15 (by decide)), e.2 16 (h2 16 (by decide)), e.2 17 (h2 17 (by decide))]; exact ⟨rfl, rfl, rfl⟩)
      | succ d ih =>
        intro D i k z
        obtain ⟨D', hD, r, kr, hb, hr, h5, hp⟩ := z
        refine ⟨D', hD, r, kr, zYb_fr hb (fun j _ _ => ⟨rfl, rfl, rfl, rfl⟩) (fun j _ _ => by rw [e.2 15 (h2 15 (by decide)), e.2 16 (h2 16 (by decide)), e.2 17 (h2 17 (by decide))]; exact ⟨rfl, rfl, rfl⟩), ?_, h5, ih _ _ _ hp⟩
        unfold zYr at hr ⊢
        rw [e.2 15 (h2 15 (by decide)), e.2 16 (h2 16 (by decide))]
        exact hr
    exact q d 2 0 0 a7
def zS1 (S : CV) (a R N : Int) : CV := zPu (zPa (zPa (zPa (zPa S 1 (S.1 3) a) 2 (S.1 3) R) 3 (S.1 3) N) 4 (S.1 3) ((S.1 3) + 1)) 3 ((S.1 3) + 1)
theorem zS1_a {S : CV} {a R N : Int} : (zS1 S a R N).2 1 = zup (S.2 1) (S.1 3) a ∧ (zS1 S a R N).2 2 = zup (S.2 2) (S.1 3) R ∧ (zS1 S a R N).2 3 = zup (S.2 3) (S.1 3) N ∧ (zS1 S a R N).2 4 = zup (S.2 4) (S.1 3) (S.1 3 + 1) ∧ (zS1 S a R N).2 5 = S.2 5 ∧ (zS1 S a R N).1 3 = S.1 3 + 1 ∧ (zS1 S a R N).1 6 = S.1 6 := by
  unfold zS1
  refine ⟨?_, ?_, ?_, ?_, ?_, ?_, ?_⟩
  · rw [zPu_2, zPa_n (by decide), zPa_n (by decide), zPa_n (by decide), zPa_s]
  · rw [zPu_2, zPa_n (by decide), zPa_n (by decide), zPa_s, zPa_n (by decide)]
  · rw [zPu_2, zPa_n (by decide), zPa_s, zPa_n (by decide), zPa_n (by decide)]
  · rw [zPu_2, zPa_s, zPa_n (by decide), zPa_n (by decide), zPa_n (by decide)]
  · rw [zPu_2, zPa_n (by decide), zPa_n (by decide), zPa_n (by decide), zPa_n (by decide)]
  · rw [zPu_s]
  · rw [zPu_n (by decide)]; rfl
/-- behind a command -/
def zYo (bf : Int → Int) (n : Int) (T m : CV) (t : CV × CV) : Prop := ∃ q, fX8_command m = some q ∧ iR (q.1 44) ∧ ∃ u, ((q.1 44 = m.1 44 ∧ fX8_mustSign q 59 = some u) ∨ (q.1 44 ≠ m.1 44 ∧ u = q)) ∧ iR (u.1 44) ∧ zEx [4, 5, 6, 7, 8, 9, 10, 13, 42, 43, 44] [15, 16, 17] m u ∧ zEx [2, 3, 4, 5, 6, 7] [] T t.2 ∧ ((zTR bf n t.2 u ∧ zYs t.1 u ∧ u.1 42 = m.1 42 + 1) ∨ zTE bf n t.2 u)
theorem zYo_e {T m x t S : CV} (hx : fX8_command m = some x) (h : zTE bf n t x) (h44 : x.1 44 = m.1 44) (hr : iR (m.1 44)) (hT : zEx [2, 3, 4, 5, 6, 7] [] T t) (hm : zEx [4, 5, 6, 7, 8, 9, 10, 13, 42, 43, 44] [15, 16, 17] m x) : zYo bf n T m (S, t) := ⟨x, hx, by rw [h44]; exact hr, x, Or.inl ⟨h44, y_mustSignE h.2.1⟩, by rw [h44]; exact hr, hm, hT, Or.inr h⟩
/-- the arrays below what is written -/
def zFp (m x : CV) (k : Int) : Prop := ∀ j, j < k → x.2 15 j = m.2 15 j ∧ x.2 16 j = m.2 16 j ∧ x.2 17 j = m.2 17 j
theorem zFp_e {m x y : CV} {k : Int} {ns js : List Nat} (h : zFp m x k) (e : zEx ns js x y) (h2 : ∀ k ∈ [15, 16, 17], k ∉ js) : zFp m y k := fun j hj => by
  rw [e.2 15 (h2 15 (by decide)), e.2 16 (h2 16 (by decide)), e.2 17 (h2 17 (by decide))]
  exact h j hj
theorem zFp_a {m x : CV} {k v : Int} {a : Nat} (h : zFp m x k) : zFp m (zPa x a k v) k := fun j hj => by
  have g : ∀ b : Nat, (zPa x a k v).2 b j = x.2 b j := fun b => by
    by_cases e : b = a
    · rw [e, zPa_s, zup_n (by omega)]
    · rw [zPa_n e]
  rw [g 15, g 16, g 17]
  exact h j hj
/-- a command that isn't a repeat, as far as its sign -/
theorem z_cg {S T m T' x : CV} {R N b a : Int} (ha : a = b + 1) (hx : fX8_command m = zFn b x) (h : zTR bf n T' x) (hb : 0 ≤ b ∧ b ≤ 8) (hT : zEx [2, 3, 4, 5, 6, 7] [] T T') (hm : zEx [4, 5, 6, 7, 8, 9, 10, 13, 43] [15, 16, 17] m x) (x43 : x.1 43 = m.1 43 + 1) (fr : zFp m x (m.1 42)) (hq : zYs S m) (h30 : S.1 3 < 30) (hc : zCms (fun _ => a) (fun _ => R) (fun _ => N) (x.2 15) (x.2 16) (x.2 17) (m.2 2 0) (zWords (m.2 2)) (S.1 3) (m.1 42)) : zOk ((fX2_finishCommand (zS1 S a R N) T' a).bind fun t24 => some (t24.1, t24.2)) (zYo bf n T m) := by
  subst ha
  obtain ⟨d, a1, a2, a3, a4, a5, a6, a7⟩ := hq
  obtain ⟨q, hqd⟩ : ∃ q, q = zPu (zPu x 42 ((x.1 42) + 1)) 44 ((x.1 44) + (if b = 9 then 1 else 0)) := ⟨_, rfl⟩
  have hq : fX8_command m = some q := by rw [hx, zFn_g h.2.2.2.2.1 ⟨by omega, by omega⟩, ← hqd]
  have x42 : x.1 42 = m.1 42 := hm.1 42 (by decide)
  have x44 : x.1 44 = m.1 44 := hm.1 44 (by decide)
  have q44 : q.1 44 = m.1 44 := by rw [hqd, zPu_s, if_neg (by omega), x44]; omega
  have qE : zEx [42, 44] [] x q := by rw [hqd]; exact zEx_u (zEx_u zEx_0 (by decide)) (by decide)
  have q42 : q.1 42 = m.1 42 + 1 := by rw [hqd, zPu_n (by decide), zPu_s, x42]
  have hR : zTR bf n T' q := zTR_m h qE (by decide) (by decide)
  unfold fX2_finishCommand
  refine zok_b (P := fun (t : CV × CV) => zYo bf n T m t) (zok_g ⟨by omega, by omega⟩ (zok_f (by omega) ?_)) (fun t ht => zok_s ht)
  refine zok_b (z_mark hR (c := 59) (by decide)) (fun t ht => zok_s ?_)
  obtain ⟨u, eu, hu, hor⟩ := ht
  have uE : zEx [4, 5, 6, 7, 8, 9, 10, 13, 42, 43, 44] [15, 16, 17] m u := zEx_t (zEx_t (zEx_w hm (by decide) (by decide)) (zEx_w qE (by decide) (by decide))) (zEx_w hu.2 (by decide) (by decide))
  have TE : zEx [2, 3, 4, 5, 6, 7] [] T t := zEx_t hT hu.1
  refine ⟨q, hq, by rw [q44, a3]; exact ⟨by omega, by omega⟩, u, Or.inl ⟨q44, eu⟩, by rw [hu.2.1 44 (by decide), q44, a3]; exact ⟨by omega, by omega⟩, uE, TE, ?_⟩
  rcases hor with ⟨g1, _⟩ | g1
  · refine Or.inl ⟨g1, ?_, by rw [hu.2.1 42 (by decide), q42]⟩
    obtain ⟨s1, s2, s3, s4, s5, s6, s7⟩ := zS1_a (S := S) (a := b + 1) (R := R) (N := N)
    have f1 : zFp m u (m.1 42) := zFp_e (zFp_e fr qE (by decide)) hu.2 (by decide)
    have u42 : u.1 42 = m.1 42 + 1 := by rw [hu.2.1 42 (by decide), q42]
    refine ⟨d, a1, by rw [s7]; exact a2, by rw [hu.2.1 44 (by decide), q44]; exact a3, by rw [s6, hu.2.1 43 (by decide), qE.1 43 (by decide), x43]; omega, by rw [s6]; omega, ?_, ?_⟩
    · rw [u42, hu.2.1 43 (by decide), qE.1 43 (by decide), x43]; omega
    · rw [s6, u42, uE.2 2 (by decide)]
      refine zYp_c (S := S) (m := m) d 2 0 0 a7 (fun j hj => ?_) f1 s5 ?_ ?_
      · rw [s1, s2, s3, s4, zup_n (by omega), zup_n (by omega), zup_n (by omega), zup_n (by omega)]
        exact ⟨rfl, rfl, rfl, rfl⟩
      · have g15 : u.2 15 = x.2 15 := by rw [hu.2.2 15 (by decide), qE.2 15 (by decide)]
        have g16 : u.2 16 = x.2 16 := by rw [hu.2.2 16 (by decide), qE.2 16 (by decide)]
        have g17 : u.2 17 = x.2 17 := by rw [hu.2.2 17 (by decide), qE.2 17 (by decide)]
        unfold zCms at hc ⊢
        rw [s1, s2, s3, zup_s, zup_s, zup_s, g15, g16, g17]
        exact hc
      · rw [s4, zup_s]; omega
  · exact Or.inr g1

end ZYM
