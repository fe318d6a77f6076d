section ZCD
theorem y_doesF {m m1 : CV} {c a b : Int} (hm : fX8_may m c a b = some (m1, false)) : fX8_does m c a b = some (m1, false) := by
  apply zok_q
  unfold fX8_does
  exact zok_e hm (zok_f Bool.false_ne_true (zok_s rfl))
theorem y_does0 {m m1 u : CV} {a b v : Int} (hm : fX8_may m 0 a b = some (m1, true)) (ho : fX8_chooses m1 a b = some (u, v)) : fX8_does m 0 a b = some (zPu u 45 v, true) := by
  apply zok_q
  unfold fX8_does
  refine zok_e hm (zok_t rfl ?_)
  refine zok_jP (fun (x : CV) => x = (zPu u 45 v)) (fun x hx => ?_) (fun K hK => zok_g (by decide) (zok_t rfl (zok_e ho (hK _ rfl))))
  rw [hx]
  refine zok_jP (fun (x : CV) => x = (zPu u 45 v)) (fun x hx => ?_) (fun K hK => zok_g (by decide) (zok_f (by decide) (hK _ rfl)))
  rw [hx]
  refine zok_jP (fun (x : CV) => x = (zPu u 45 v)) (fun x hx => ?_) (fun K hK => zok_g (by decide) (zok_f (by decide) (hK _ rfl)))
  rw [hx]
  refine zok_jP (fun (x : CV) => x = (zPu u 45 v)) (fun x hx => ?_) (fun K hK => zok_g (by decide) (zok_f (by decide) (hK _ rfl)))
  rw [hx]
  refine zok_jP (fun (x : CV) => x = (zPu u 45 v)) (fun x hx => ?_) (fun K hK => zok_g (by decide) (zok_f (by decide) (hK _ rfl)))
  rw [hx]
  refine zok_jP (fun (x : CV) => x = (zPu u 45 v)) (fun x hx => ?_) (fun K hK => zok_g (by decide) (zok_f (by decide) (hK _ rfl)))
  rw [hx]
  refine zok_jP (fun (x : CV) => x = (zPu u 45 v)) (fun x hx => ?_) (fun K hK => ?_)
  · rw [hx]
    exact zok_g (by decide) (zok_f (by decide) (zok_s rfl))
  · refine zok_jP (fun _ => False) (fun _ z => z.elim) (fun J hJ => ?_)
    exact zok_g (by decide) (zok_f (by decide) (zok_f (by decide) (hK _ rfl)))
theorem y_does1 {m m1 u : CV} {a b v : Int} (hm : fX8_may m 1 a b = some (m1, true)) (ho : fX8_clearsRow m1 a = some (u, v)) : fX8_does m 1 a b = some (zPu u 45 v, true) := by
  apply zok_q
  unfold fX8_does
  refine zok_e hm (zok_t rfl ?_)
  refine zok_jP (fun (x : CV) => x = m1) (fun x hx => ?_) (fun K hK => zok_g (by decide) (zok_f (by decide) (hK _ rfl)))
  rw [hx]
  refine zok_jP (fun (x : CV) => x = (zPu u 45 v)) (fun x hx => ?_) (fun K hK => zok_g (by decide) (zok_t rfl (zok_e ho (hK _ rfl))))
  rw [hx]
  refine zok_jP (fun (x : CV) => x = (zPu u 45 v)) (fun x hx => ?_) (fun K hK => zok_g (by decide) (zok_f (by decide) (hK _ rfl)))
  rw [hx]
  refine zok_jP (fun (x : CV) => x = (zPu u 45 v)) (fun x hx => ?_) (fun K hK => zok_g (by decide) (zok_f (by decide) (hK _ rfl)))
  rw [hx]
  refine zok_jP (fun (x : CV) => x = (zPu u 45 v)) (fun x hx => ?_) (fun K hK => zok_g (by decide) (zok_f (by decide) (hK _ rfl)))
  rw [hx]
  refine zok_jP (fun (x : CV) => x = (zPu u 45 v)) (fun x hx => ?_) (fun K hK => zok_g (by decide) (zok_f (by decide) (hK _ rfl)))
  rw [hx]
  refine zok_jP (fun (x : CV) => x = (zPu u 45 v)) (fun x hx => ?_) (fun K hK => ?_)
  · rw [hx]
    exact zok_g (by decide) (zok_f (by decide) (zok_s rfl))
  · refine zok_jP (fun _ => False) (fun _ z => z.elim) (fun J hJ => ?_)
    exact zok_g (by decide) (zok_f (by decide) (zok_f (by decide) (hK _ rfl)))
theorem y_does2 {m m1 u : CV} {a b v : Int} (hm : fX8_may m 2 a b = some (m1, true)) (ho : fX8_betters m1 a = some (u, v)) : fX8_does m 2 a b = some (zPu u 45 v, true) := by
  apply zok_q
  unfold fX8_does
  refine zok_e hm (zok_t rfl ?_)
  refine zok_jP (fun (x : CV) => x = m1) (fun x hx => ?_) (fun K hK => zok_g (by decide) (zok_f (by decide) (hK _ rfl)))
  rw [hx]
  refine zok_jP (fun (x : CV) => x = m1) (fun x hx => ?_) (fun K hK => zok_g (by decide) (zok_f (by decide) (hK _ rfl)))
  rw [hx]
  refine zok_jP (fun (x : CV) => x = (zPu u 45 v)) (fun x hx => ?_) (fun K hK => zok_g (by decide) (zok_t rfl (zok_e ho (hK _ rfl))))
  rw [hx]
  refine zok_jP (fun (x : CV) => x = (zPu u 45 v)) (fun x hx => ?_) (fun K hK => zok_g (by decide) (zok_f (by decide) (hK _ rfl)))
  rw [hx]
  refine zok_jP (fun (x : CV) => x = (zPu u 45 v)) (fun x hx => ?_) (fun K hK => zok_g (by decide) (zok_f (by decide) (hK _ rfl)))
  rw [hx]
  refine zok_jP (fun (x : CV) => x = (zPu u 45 v)) (fun x hx => ?_) (fun K hK => zok_g (by decide) (zok_f (by decide) (hK _ rfl)))
  rw [hx]
  refine zok_jP (fun (x : CV) => x = (zPu u 45 v)) (fun x hx => ?_) (fun K hK => ?_)
  · rw [hx]
    exact zok_g (by decide) (zok_f (by decide) (zok_s rfl))
  · refine zok_jP (fun _ => False) (fun _ z => z.elim) (fun J hJ => ?_)
    exact zok_g (by decide) (zok_f (by decide) (zok_f (by decide) (hK _ rfl)))
theorem y_does3 {m m1 u : CV} {a b v : Int} (hm : fX8_may m 3 a b = some (m1, true)) (ho : fX8_improves m1 a = some (u, v)) : fX8_does m 3 a b = some (zPu u 45 v, true) := by
  apply zok_q
  unfold fX8_does
  refine zok_e hm (zok_t rfl ?_)
  refine zok_jP (fun (x : CV) => x = m1) (fun x hx => ?_) (fun K hK => zok_g (by decide) (zok_f (by decide) (hK _ rfl)))
  rw [hx]
  refine zok_jP (fun (x : CV) => x = m1) (fun x hx => ?_) (fun K hK => zok_g (by decide) (zok_f (by decide) (hK _ rfl)))
  rw [hx]
  refine zok_jP (fun (x : CV) => x = m1) (fun x hx => ?_) (fun K hK => zok_g (by decide) (zok_f (by decide) (hK _ rfl)))
  rw [hx]
  refine zok_jP (fun (x : CV) => x = (zPu u 45 v)) (fun x hx => ?_) (fun K hK => zok_g (by decide) (zok_t rfl (zok_e ho (hK _ rfl))))
  rw [hx]
  refine zok_jP (fun (x : CV) => x = (zPu u 45 v)) (fun x hx => ?_) (fun K hK => zok_g (by decide) (zok_f (by decide) (hK _ rfl)))
  rw [hx]
  refine zok_jP (fun (x : CV) => x = (zPu u 45 v)) (fun x hx => ?_) (fun K hK => zok_g (by decide) (zok_f (by decide) (hK _ rfl)))
  rw [hx]
  refine zok_jP (fun (x : CV) => x = (zPu u 45 v)) (fun x hx => ?_) (fun K hK => ?_)
  · rw [hx]
    exact zok_g (by decide) (zok_f (by decide) (zok_s rfl))
  · refine zok_jP (fun _ => False) (fun _ z => z.elim) (fun J hJ => ?_)
    exact zok_g (by decide) (zok_f (by decide) (zok_f (by decide) (hK _ rfl)))
theorem y_does4 {m m1 u : CV} {a b v : Int} (hm : fX8_may m 4 a b = some (m1, true)) (ho : fX8_takes m1 a = some (u, v)) : fX8_does m 4 a b = some (zPu u 45 v, true) := by
  apply zok_q
  unfold fX8_does
  refine zok_e hm (zok_t rfl ?_)
  refine zok_jP (fun (x : CV) => x = m1) (fun x hx => ?_) (fun K hK => zok_g (by decide) (zok_f (by decide) (hK _ rfl)))
  rw [hx]
  refine zok_jP (fun (x : CV) => x = m1) (fun x hx => ?_) (fun K hK => zok_g (by decide) (zok_f (by decide) (hK _ rfl)))
  rw [hx]
  refine zok_jP (fun (x : CV) => x = m1) (fun x hx => ?_) (fun K hK => zok_g (by decide) (zok_f (by decide) (hK _ rfl)))
  rw [hx]
  refine zok_jP (fun (x : CV) => x = m1) (fun x hx => ?_) (fun K hK => zok_g (by decide) (zok_f (by decide) (hK _ rfl)))
  rw [hx]
  refine zok_jP (fun (x : CV) => x = (zPu u 45 v)) (fun x hx => ?_) (fun K hK => zok_g (by decide) (zok_t rfl (zok_e ho (hK _ rfl))))
  rw [hx]
  refine zok_jP (fun (x : CV) => x = (zPu u 45 v)) (fun x hx => ?_) (fun K hK => zok_g (by decide) (zok_f (by decide) (hK _ rfl)))
  rw [hx]
  refine zok_jP (fun (x : CV) => x = (zPu u 45 v)) (fun x hx => ?_) (fun K hK => ?_)
  · rw [hx]
    exact zok_g (by decide) (zok_f (by decide) (zok_s rfl))
  · refine zok_jP (fun _ => False) (fun _ z => z.elim) (fun J hJ => ?_)
    exact zok_g (by decide) (zok_f (by decide) (zok_f (by decide) (hK _ rfl)))
theorem y_does5 {m m1 u : CV} {a b v : Int} (hm : fX8_may m 5 a b = some (m1, true)) (ho : fX8_takes m1 (m1.1 31) = some (u, v)) : fX8_does m 5 a b = some (zPu u 45 v, true) := by
  apply zok_q
  unfold fX8_does
  refine zok_e hm (zok_t rfl ?_)
  refine zok_jP (fun (x : CV) => x = m1) (fun x hx => ?_) (fun K hK => zok_g (by decide) (zok_f (by decide) (hK _ rfl)))
  rw [hx]
  refine zok_jP (fun (x : CV) => x = m1) (fun x hx => ?_) (fun K hK => zok_g (by decide) (zok_f (by decide) (hK _ rfl)))
  rw [hx]
  refine zok_jP (fun (x : CV) => x = m1) (fun x hx => ?_) (fun K hK => zok_g (by decide) (zok_f (by decide) (hK _ rfl)))
  rw [hx]
  refine zok_jP (fun (x : CV) => x = m1) (fun x hx => ?_) (fun K hK => zok_g (by decide) (zok_f (by decide) (hK _ rfl)))
  rw [hx]
  refine zok_jP (fun (x : CV) => x = m1) (fun x hx => ?_) (fun K hK => zok_g (by decide) (zok_f (by decide) (hK _ rfl)))
  rw [hx]
  refine zok_jP (fun (x : CV) => x = (zPu u 45 v)) (fun x hx => ?_) (fun K hK => zok_g (by decide) (zok_t rfl (zok_e ho (hK _ rfl))))
  rw [hx]
  refine zok_jP (fun (x : CV) => x = (zPu u 45 v)) (fun x hx => ?_) (fun K hK => ?_)
  · rw [hx]
    exact zok_g (by decide) (zok_f (by decide) (zok_s rfl))
  · refine zok_jP (fun _ => False) (fun _ z => z.elim) (fun J hJ => ?_)
    exact zok_g (by decide) (zok_f (by decide) (zok_f (by decide) (hK _ rfl)))
theorem y_does6 {m m1 u : CV} {a b v : Int} (hm : fX8_may m 6 a b = some (m1, true)) (ho : fX8_setsOut m1 a 1 = some (u, v)) : fX8_does m 6 a b = some (zPu u 45 v, true) := by
  apply zok_q
  unfold fX8_does
  refine zok_e hm (zok_t rfl ?_)
  refine zok_jP (fun (x : CV) => x = m1) (fun x hx => ?_) (fun K hK => zok_g (by decide) (zok_f (by decide) (hK _ rfl)))
  rw [hx]
  refine zok_jP (fun (x : CV) => x = m1) (fun x hx => ?_) (fun K hK => zok_g (by decide) (zok_f (by decide) (hK _ rfl)))
  rw [hx]
  refine zok_jP (fun (x : CV) => x = m1) (fun x hx => ?_) (fun K hK => zok_g (by decide) (zok_f (by decide) (hK _ rfl)))
  rw [hx]
  refine zok_jP (fun (x : CV) => x = m1) (fun x hx => ?_) (fun K hK => zok_g (by decide) (zok_f (by decide) (hK _ rfl)))
  rw [hx]
  refine zok_jP (fun (x : CV) => x = m1) (fun x hx => ?_) (fun K hK => zok_g (by decide) (zok_f (by decide) (hK _ rfl)))
  rw [hx]
  refine zok_jP (fun (x : CV) => x = m1) (fun x hx => ?_) (fun K hK => zok_g (by decide) (zok_f (by decide) (hK _ rfl)))
  rw [hx]
  refine zok_jP (fun (x : CV) => x = (zPu u 45 v)) (fun x hx => ?_) (fun K hK => ?_)
  · rw [hx]
    exact zok_g (by decide) (zok_f (by decide) (zok_s rfl))
  · refine zok_jP (fun _ => True) (fun _ _ => ?_) (fun J hJ => ?_)
    · refine zok_jP (fun (x : Int) => x = 1) (fun x hx => ?_) (fun J hJ => ?_)
      · rw [hx]
        exact zok_e ho (hK _ rfl)
      · exact zok_g (by decide) (zok_t rfl (hJ _ rfl))
    · exact zok_g (by decide) (zok_t rfl (hJ () trivial))
theorem y_does7 {m m1 u : CV} {a b v : Int} (hm : fX8_may m 7 a b = some (m1, true)) (ho : fX8_setsOut m1 a 0 = some (u, v)) : fX8_does m 7 a b = some (zPu u 45 v, true) := by
  apply zok_q
  unfold fX8_does
  refine zok_e hm (zok_t rfl ?_)
  refine zok_jP (fun (x : CV) => x = m1) (fun x hx => ?_) (fun K hK => zok_g (by decide) (zok_f (by decide) (hK _ rfl)))
  rw [hx]
  refine zok_jP (fun (x : CV) => x = m1) (fun x hx => ?_) (fun K hK => zok_g (by decide) (zok_f (by decide) (hK _ rfl)))
  rw [hx]
  refine zok_jP (fun (x : CV) => x = m1) (fun x hx => ?_) (fun K hK => zok_g (by decide) (zok_f (by decide) (hK _ rfl)))
  rw [hx]
  refine zok_jP (fun (x : CV) => x = m1) (fun x hx => ?_) (fun K hK => zok_g (by decide) (zok_f (by decide) (hK _ rfl)))
  rw [hx]
  refine zok_jP (fun (x : CV) => x = m1) (fun x hx => ?_) (fun K hK => zok_g (by decide) (zok_f (by decide) (hK _ rfl)))
  rw [hx]
  refine zok_jP (fun (x : CV) => x = m1) (fun x hx => ?_) (fun K hK => zok_g (by decide) (zok_f (by decide) (hK _ rfl)))
  rw [hx]
  refine zok_jP (fun (x : CV) => x = (zPu u 45 v)) (fun x hx => ?_) (fun K hK => ?_)
  · rw [hx]
    exact zok_g (by decide) (zok_f (by decide) (zok_s rfl))
  · refine zok_jP (fun _ => True) (fun _ _ => ?_) (fun J hJ => ?_)
    · refine zok_jP (fun (x : Int) => x = 0) (fun x hx => ?_) (fun J hJ => ?_)
      · rw [hx]
        exact zok_e ho (hK _ rfl)
      · exact zok_g (by decide) (zok_f (by decide) (hJ _ rfl))
    · exact zok_g (by decide) (zok_f (by decide) (zok_t rfl (hJ () trivial)))
theorem y_does8 {m m1 u : CV} {a b v : Int} (hm : fX8_may m 8 a b = some (m1, true)) (ho : fX8_setsChanges m1 a = some (u, v)) : fX8_does m 8 a b = some (zPu u 45 v, true) := by
  apply zok_q
  unfold fX8_does
  refine zok_e hm (zok_t rfl ?_)
  refine zok_jP (fun (x : CV) => x = m1) (fun x hx => ?_) (fun K hK => zok_g (by decide) (zok_f (by decide) (hK _ rfl)))
  rw [hx]
  refine zok_jP (fun (x : CV) => x = m1) (fun x hx => ?_) (fun K hK => zok_g (by decide) (zok_f (by decide) (hK _ rfl)))
  rw [hx]
  refine zok_jP (fun (x : CV) => x = m1) (fun x hx => ?_) (fun K hK => zok_g (by decide) (zok_f (by decide) (hK _ rfl)))
  rw [hx]
  refine zok_jP (fun (x : CV) => x = m1) (fun x hx => ?_) (fun K hK => zok_g (by decide) (zok_f (by decide) (hK _ rfl)))
  rw [hx]
  refine zok_jP (fun (x : CV) => x = m1) (fun x hx => ?_) (fun K hK => zok_g (by decide) (zok_f (by decide) (hK _ rfl)))
  rw [hx]
  refine zok_jP (fun (x : CV) => x = m1) (fun x hx => ?_) (fun K hK => zok_g (by decide) (zok_f (by decide) (hK _ rfl)))
  rw [hx]
  refine zok_jP (fun (x : CV) => x = m1) (fun x hx => ?_) (fun K hK => ?_)
  · rw [hx]
    exact zok_g (by decide) (zok_t rfl (zok_e ho (zok_s rfl)))
  · refine zok_jP (fun _ => False) (fun _ z => z.elim) (fun J hJ => ?_)
    exact zok_g (by decide) (zok_f (by decide) (zok_f (by decide) (hK _ rfl)))
end ZCD
