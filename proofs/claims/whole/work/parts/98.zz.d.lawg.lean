abbrev mL_law : zM := (RL, cL_law, 9, ret, [], false)
section ZLG
variable {X : zX} {M : zM} {P : zP} {kc ks pc : Nat} {lv : List (Nat × Value)} {rest : List Value} {ws : va_W}
/-- what the law's walk is to come to: its end, said of the entry -/
def zLP (X : zX) (b : Nat) : zP := (room_1, fun below args s t => (args = #[Value.ref b] ∧ s.heap.size = X.2.2.2.1) → lw_Z below args s t)
theorem g_sld {b L : Nat} {xs : Nat → Int32} {i : Int32} (hE : ∀ U, zE X U → va_X b L xs U U.heap) (hb : b < X.2.2.2.1) (hdg : decode M.2.1 pc = .ok (.iaload, 1)) (hin : vp_in i L) (kk : G X M P kc ks (pc + 1) lv (.int (xs i.toNatClampNeg) :: rest) ws) : G X M P kc ks pc lv (.int i :: .ref b :: rest) ws := fun p e s m args below meth c H locs ls I hP hD hS hl => va_sld I.1 I.2.1 (hE s I.2.2.2.2.2.2.2.2.1) (Nat.lt_of_lt_of_le hb I.2.2.2.2.2.2.2.2.2.1) (Nat.not_le.mpr hb) hS hin hdg (kk p e s m args below meth c H locs ls I hP hD hS hl)
theorem g_slen {b L : Nat} {xs : Nat → Int32} (hE : ∀ U, zE X U → va_X b L xs U U.heap) (hb : b < X.2.2.2.1) (hdg : decode M.2.1 pc = .ok (.arraylength, 1)) (kk : G X M P kc ks (pc + 1) lv (.int (Int32.ofNat L) :: rest) ws) : G X M P kc ks pc lv (.ref b :: rest) ws := fun p e s m args below meth c H locs ls I hP hD hS hl => va_slen I.1 I.2.1 (hE s I.2.2.2.2.2.2.2.2.1) (Nat.lt_of_lt_of_le hb I.2.2.2.2.2.2.2.2.2.1) (Nat.not_le.mpr hb) hS hdg (kk p e s m args below meth c H locs ls I hP hD hS hl)
/-- the law's end -/
theorem g_lawret {b : Nat} (hdg : decode mL_law.2.1 pc = .ok (.ireturn, 1)) (hk : kc ≤ 601024) (hn : ks ≤ 7293034) : G X mL_law (zLP X b) kc ks pc lv [.int 1] ws := by
  intro p e s m args below meth c H locs ls I hP hD hS hl T hT Xs
  by_cases hc : args = #[Value.ref b] ∧ s.heap.size = X.2.2.2.1
  · obtain ⟨ha, hs⟩ := hc
    subst ha
    have hw : W p X.1 e room_1 s m #[Value.ref b] below meth c H locs kc ks (lw_Z below #[Value.ref b] s) (F0 m pc ls [.int 1]) := by
      refine va_forget (fun q hq => ?_) ?_
      · have := hS.2.2 q hq
        rw [hs]
        exact this
      · refine W.widen hk hn ?_
        refine W.base ?_
        exact lw_ret (Drawn.sameBut.refl s.drawn lw_cs) I.1 I.2.1 I.2.2.1 I.2.2.2.2.2.2.1 hdg
    obtain ⟨t, a, z⟩ := hw T hT Xs
    exact ⟨t, a, fun _ => z⟩
  · exact ⟨_, Steps.refl _, fun z => absurd z hc⟩
end ZLG
