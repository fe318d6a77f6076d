section ZWR
variable {X : zX} {A A' : Nat → Nat} {S : Nat → va_E} {n : Nat}
theorem zStL_k {k : Nat} {S1 S2 : Nat → va_E} (h : S1 k = S2 k) : ∀ (L : List (Nat × Sh)) (σ : CS) (i : Nat), zStL X A σ L i S1 k = zStL X A σ L i S2 k
  | [], _, _ => h
  | (_, _) :: L, σ, i => zC_at (zStL_k h L σ (i + 1))
theorem zSt_up {q : Nat} {e : va_E} {σ : CS} (hq : 91 ≤ q) : va_up (zSt X A σ S) q e = zSt X A σ (va_up S q e) := by
  funext k
  by_cases c : k = q
  · rw [c, va_up_self, zSt_hi hq, va_up_self]
  · rw [va_up_ne _ _ c]
    unfold zSt
    refine zStL_k ?_ _ _ _
    by_cases c2 : k = 2
    · rw [c2, va_up_self, va_up_self]
    · rw [va_up_ne _ _ c2, va_up_ne _ _ c2, va_up_ne _ _ c]
theorem zo_set {q : Nat} {e : va_E} {σ : CS} (hq : 91 ≤ q) (h : A' q = A q) : (zWs A' n (zSt X A' σ S)).set q (A q, e) = zWs A' n (zSt X A' σ (va_up S q e)) := by
  rw [← h, zWs_set, zSt_up hq]
theorem zo_at {q : Nat} {e : va_E} {σ : CS} (hq : 91 ≤ q ∧ q < n) (h : A' q = A q) (hS : S q = e) : (zWs A' n (zSt X A' σ S))[q]? = some (A q, e) := by
  rw [← h]
  exact zWs_at hq.2 (by rw [zSt_hi hq.1]; exact hS)
/-- what the wrapper leaves in out[0] -/
def zLo (X : zX) (q : Nat) (f : Nat → Int64) (S : Nat → va_E) : (Int ⊕ String) → Nat → va_E
  | .inl v => va_up S q (aL X 1 (vp_updL f (iI 0).toNatClampNeg (iI v).toInt64))
  | .inr _ => S
/-- the wrapper's answer -/
def zKo : List String → (Int ⊕ String) → Int
  | _, .inl _ => 0
  | [], .inr _ => 0
  | a :: _, .inr E => if E = a then 1 else 2
theorem zKo_1 {a : String} {L : List String} : zKo (a :: L) (.inr a) = 1 := if_pos rfl
theorem zKo_2 {a b : String} {L : List String} (h : b ≠ a) : zKo (a :: L) (.inr b) = 2 := if_neg h
/-- what the law's catches know: each throw is of its own class; two are of no third -/
def zOL (X : zX) : Prop := (∀ U, zE X U → ∀ q ∈ zExc, va_Nw (.castable q.1 q.1) U) ∧ ∀ E ∈ ["java/lang/IllegalStateException", "java/lang/IllegalArgumentException"], ∀ U, zE X U → va_Nc E "java/lang/IndexOutOfBoundsException" U
theorem zOL_c (h : zOL X) {U : State} (hU : zE X U) {E : String} {c : Nat} (hm : (E, c) ∈ zExc) : va_Nw (.castable E E) U := h.1 U hU (E, c) hm
/-- invokestatic of a method with a table of its own that doesn't throw -/
theorem g_callSHQ {M : zM} {P : zP} {kc ks pc : Nat} {lv : List (Nat × Value)} {rest : List Value} {ws : va_W} {y : MethodName} {M' : zM} {np ix fr mc ms : Nat} (As : List Value) {Q' : va_W → zO → Prop} (hX : zOK X) (hdg : decode M.2.1 pc = .ok (.invokestatic ix, 3)) (hcls : y.cls = M'.1) (hh : M'.2.2.2.2.1 ≠ []) (hcode : Cond.codeWith y M'.2.1 M'.2.2.1 M'.2.2.2.1 M'.2.2.2.2.1 ∈ zW) (hini : Cond.initialized y.cls ∈ zW) (hmh : zMH y) (hd : (parseMethodDescriptor y.desc).map (fun d => d.parameters.length) = some np) (hst : Cond.static y ∈ zW) (hl : Cond.methodLink M.1 ix y ∈ zW) (hM : Con X y M' fr mc ms As ws Q') (hno : ∀ w E, ¬ Q' w (.inr E))
    (hn : As.length = np) (hR : fr + 1 ≤ P.1.frames ∧ 8 + (M'.2.2.1 + 11) + 64 * fr ≤ P.1.locals) (hf : kc + mc ≤ P.1.cells ∧ ks + ms ≤ P.1.slots) (hcat : (rest.map fun v => v.category).sum ≤ 8)
    (kk : ∀ (w : va_W) (v : Option Value), Q' w (.inl v) → G X M P (kc + mc) (ks + ms) (pc + 3) lv (v.toList ++ rest) w) : G X M P kc ks pc lv (As.reverse ++ rest) ws := by
  intro p e s m args below meth c H locs ls I hP hD hS hl2
  have hts := I.2.2.2.2.2.1
  have hY : zY y M' = Cond.codeWith y M'.2.1 M'.2.2.1 M'.2.2.2.1 M'.2.2.2.2.1 :: zW := by
    unfold zY
    cases hq : M'.2.2.2.2.1 with
    | nil => exact absurd hq hh
    | cons a l => rfl
  have hcs : vx_CSW P.1 s args M.1 ix y M'.2.1 M'.2.2.1 M'.2.2.2.1 M'.2.2.2.2.1 (zY y M') (zR fr mc ms) mc ms np := by
    refine ⟨⟨rfl, rfl, hR.1, hR.2, ?_, by rw [hY]; exact List.mem_cons_self⟩, hts _ hcode, hts _ hini, hmh, ?_, hts _ hl, hts _ hst⟩
    · intro w hw a' U hW
      have hz : w ∈ zW := by
        rw [hY] at hw
        rcases List.mem_cons.mp hw with e | e
        · rw [e]; exact hcode
        · exact e
      exact word_at hW (good_of_word (zW_good hz)) (hts _ hz)
    · intro sig h
      rw [h] at hd
      exact (Option.some.inj hd).symm
  exact z_run0 I hS hl2 (vx_runSW (Ts := zW) (own := M.1) (nL := M.2.2.1) (As := As) ⟨I.1, I.2.1, I.2.2.2.1, I.2.2.2.2.1, hts⟩ (con_met hM hno) hcs ⟨zB_blind hX, fun U hU hW => ⟨rfl, zB_at hX I hP hD hS U hU hW⟩⟩ rfl hn hl2.1 rfl (lv_room hcat) hdg hf) kk
end ZWR
