section ZT
variable {X : zX} {M : zM} {kc ks pc : Nat} {lv : List (Nat × Value)} {rest : List Value} {ws : va_W}
/-- what the tables know of 'throw new E("text")' in the class HiddenWords -/
def zTh (ik is ic : Nat) (E text : String) : Prop := (E, ic) ∈ zExc ∧ (RX7, is, text) ∈ zStr ∧ Bundle.fit E = true ∧ Cond.classLink RX7 ik E ∈ zW ∧ Cond.initialized E ∈ zW ∧ (∀ w ∈ (vx_atS RX7 ic E zExN).filter goodWord, w ∈ zW) ∧ (∀ w ∈ Cond.classLink RX7 ik E :: Cond.initialized E :: vx_atS RX7 ic E zExN, vx_ot w = true)
theorem zExN_fit : ∀ n ∈ zExN, Bundle.fit n = true := by decide +kernel
theorem g_throw {fr mc ms : Nat} {Q : va_W → zO → Prop} {ik is ic : Nat} {E text : String} (hX : zOK X) (hown : M.1 = RX7) (hh : M.2.2.2.2.1 = []) (hT : zTh ik is ic E text)
    (d0 : decode M.2.1 pc = .ok (.new ik, 3)) (d3 : decode M.2.1 (pc + 3) = .ok (.dup, 1)) (d4 : decode M.2.1 (pc + 4) = .ok (.ldc is, 2)) (d6 : decode M.2.1 (pc + 6) = .ok (.invokespecial ic, 3)) (d9 : decode M.2.1 (pc + 9) = .ok (.athrow, 1))
    (hfr : 6 ≤ fr) (hcat : (rest.map fun v => v.category).sum ≤ 8) (hc : kc + 1 ≤ mc) (hs : ks + 6 ≤ ms) (hQ : Q ws (.inr E)) : G X M (zPm X fr mc ms Q) kc ks pc lv rest ws := by
  intro p e s m args below meth c H locs ls I hP hD hS hl
  obtain ⟨h1, h2, h3, h4, h5, h6, h7⟩ := hT
  have hts := I.2.2.2.2.2.1
  have hE := I.2.2.2.2.2.2.2.2.1
  refine vx_throwS (A := zA X) (names := zExN) (own := RX7) (cls := E) (text := text) (ik := ik) (is := is) (ic := ic) I.1 I.2.1 hX.1 (by rw [← hown]; exact I.2.2.2.2.1) h3 zExN_fit (hts _ h4) (hts _ h5) (hX.2.2.2.2.1 s hE _ h2) ?_ h7 (hX.2.2.1 s hE).1 (hX.2.2.1 s hE).2 hS (hl.1.trans I.2.2.2.1.symm) d0 d3 d4 d6 d9
    (fun x hx => absurd (I.2.2.2.2.2.2.2.2.2.2.1 ▸ hx) (by rw [hh]; exact List.not_mem_nil)) (by show 2 + 3 < fr; omega) (by show _ + (13 * (2 + 1) + 43) ≤ 64 * fr; omega) hc hs I.2.2.2.2.2.2.1 ?_ (fun z hz => hS.2.2 z hz) hc hs
  · intro w hw
    by_cases g : goodWord w = true
    · exact hts _ (h6 w (List.mem_filter.mpr ⟨hw, g⟩))
    · exact hX.2.2.2.1 s hE _ h1 w (List.mem_filter.mpr ⟨hw, by simpa using g⟩) _
  · intro t ht hz hq
    exact ⟨ws, hQ, hP.kept (fun k x hx => hq x.1 ((hP k x hx).lt)), hD, Nat.le_trans hS.1 hz, fun q h1 h2 => (hq q (Nat.lt_of_lt_of_le h1 hS.1)).trans (hS.2.1 q h1 h2)⟩
end ZT
section ZU
variable {X : zX} {M : zM} {P : zP} {kc ks pc : Nat} {lv : List (Nat × Value)} {rest : List Value} {ws : va_W}
/-- caught by a row of this method's table; the rows ahead name other classes -/
theorem gx_catch {E nm : String} {st : List Value} (pre : List (Nat × Nat × Nat × Nat)) (x : Nat × Nat × Nat × Nat) (suf : List (Nat × Nat × Nat × Nat)) (hh : M.2.2.2.2.1 = pre ++ x :: suf)
    (hpass : ∀ z ∈ tableOf pre, covers z pc = false ∨ (z.catchType ≠ 0 ∧ ∃ nm : String, Cond.classLink M.1 z.catchType nm ∈ zW ∧ ∀ U, zE X U → va_Nc E nm U)) (hx : covers ⟨x.1, x.2.1, x.2.2.1, x.2.2.2⟩ pc = true) (h0 : x.2.2.2 ≠ 0)
    (hlink : Cond.classLink M.1 x.2.2.2 nm ∈ zW) (hcast : ∀ U, zE X U → va_Nw (.castable E nm) U)
    (kk : ∀ q : Nat, G X M P kc ks x.2.2.1 lv [.ref q] ws) : GX X M P kc ks pc lv st ws E := by
  intro p e s m args below meth c H locs ls q ce I hP hD hS hl hc hv hcl
  have hts := I.2.2.2.2.2.1
  have hE := I.2.2.2.2.2.2.2.2.1
  refine vx_catch I.2.2.2.2.1 (tableOf pre) ⟨x.1, x.2.1, x.2.2.1, x.2.2.2⟩ (tableOf suf) ?_ ?_ hx h0 (hts _ hlink) (va_Nw.use rfl (hcast s hE)) hc hv hcl (kk q p e s m args below meth c H locs ls I hP hD hS hl)
  · rw [I.2.2.2.2.2.2.2.2.2.2.1, hh]
    simp [tableOf]
  · intro z hz
    rcases hpass z hz with h | ⟨h1, nm2, h2, h3⟩
    · exact Or.inl h
    · exact Or.inr ⟨h1, nm2, hts _ h2, h3 s hE⟩
/-- invokestatic of a method with a table of its own -/
theorem g_callSH {y : MethodName} {M' : zM} {np ix fr mc ms : Nat} (As : List Value) {ws' : va_W} {v : Option Value} (hX : zOK X) (hdg : decode M.2.1 pc = .ok (.invokestatic ix, 3)) (hcls : y.cls = M'.1) (hh : M'.2.2.2.2.1 ≠ []) (hcode : Cond.codeWith y M'.2.1 M'.2.2.1 M'.2.2.2.1 M'.2.2.2.2.1 ∈ zW) (hini : Cond.initialized y.cls ∈ zW) (hmh : zMH y) (hd : (parseMethodDescriptor y.desc).map (fun d => d.parameters.length) = some np) (hst : Cond.static y ∈ zW) (hl : Cond.methodLink M.1 ix y ∈ zW) (hM : Con X y M' fr mc ms As ws (zRet ws' v))
    (hn : As.length = np) (hR : fr + 1 ≤ P.1.frames ∧ 8 + (M'.2.2.1 + 11) + 64 * fr ≤ P.1.locals) (hf : kc + mc ≤ P.1.cells ∧ ks + ms ≤ P.1.slots) (hcat : (rest.map fun v => v.category).sum ≤ 8)
    (kk : G X M P (kc + mc) (ks + ms) (pc + 3) lv (v.toList ++ rest) ws') : G X M P kc ks pc lv (As.reverse ++ rest) ws := by
  intro p e s m args below meth c H locs ls I hP hD hS hl2
  have hts := I.2.2.2.2.2.1
  have hY : zY y M' = Cond.codeWith y M'.2.1 M'.2.2.1 M'.2.2.2.1 M'.2.2.2.2.1 :: zW := by
    unfold zY
    cases hq : M'.2.2.2.2.1 with
    | nil => exact absurd hq hh
    | cons a l => rfl
  have hcs : vx_CSW P.1 s args M.1 ix y M'.2.1 M'.2.2.1 M'.2.2.2.1 M'.2.2.2.2.1 (zY y M') (zR fr mc ms) mc ms np := by
    refine ⟨⟨rfl, rfl, hR.1, hR.2, ?_, by rw [hY]; exact List.mem_cons_self⟩, hts _ hcode, hts _ hini, hmh, ?_, hts _ hl, hts _ hst⟩
    · intro w hw a' U hW
      have hz : w ∈ zW := by
        rw [hY] at hw
        rcases List.mem_cons.mp hw with e | e
        · rw [e]; exact hcode
        · exact e
      exact word_at hW (good_of_word (zW_good hz)) (hts _ hz)
    · intro sig h
      rw [h] at hd
      exact (Option.some.inj hd).symm
  exact z_run0 I hS hl2 (vx_runSW (Ts := zW) (own := M.1) (nL := M.2.2.1) (As := As) ⟨I.1, I.2.1, I.2.2.2.1, I.2.2.2.2.1, hts⟩ (con_met hM (fun w E h => by cases h.2)) hcs ⟨zB_blind hX, fun U hU hW => ⟨rfl, zB_at hX I hP hD hS U hU hW⟩⟩ rfl hn hl2.1 rfl (lv_room hcat) hdg hf) (fun w v h => by obtain ⟨h1, h2⟩ := h; cases h2; rw [h1]; exact kk)
end ZU
