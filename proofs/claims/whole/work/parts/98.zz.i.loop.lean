section ZLO
variable {X : zX}
theorem g_and63 {M : zM} {P : zP} {kc ks pc : Nat} {lv : List (Nat × Value)} {rest : List Value} {ws : va_W} {v : Int} (hdg : decode M.2.1 pc = .ok (.iand, 1)) (kk : G X M P kc ks (pc + 1) lv (.int (iI (v % 64)) :: rest) ws) : G X M P kc ks pc lv (.int (iI 63) :: .int (iI v) :: rest) ws := by
  refine g_iand hdg ?_
  have e : iI v &&& iI 63 = iI (v % 64) := iI_mask v 6 (by decide)
  rw [e]
  exact kk
theorem l_head {b L : Nat} {xs : Nat → Int32} (hE : ∀ U, zE X U → va_X b L xs U U.heap) (hb : b < X.2.2.2.1) (hLm : L ≤ 3072) {i : Int} (hi : 0 ≤ i ∧ i ≤ 4000) {A : Nat → Nat} {kc ks : Nat} {ws : va_W} (hk : kc ≤ 601024) (hs : ks ≤ 7293034) (go : i + 6 ≤ (L : Int) → G X mL_law (zLP X b) kc ks 40 (zvLv b A i) [.int (iI (zvXs xs i % 64))] ws) : G X mL_law (zLP X b) kc ks 23 (zvLv b A i) [] ws := by
  refine g_iload (M := mL_law) dL_law_23 4 rfl ?_
  refine g_aload_n (M := mL_law) dL_law_25 0 rfl rfl ?_
  refine g_slen (M := mL_law) hE hb dL_law_26 ?_
  refine g_st (M := mL_law) (show ([Value.int (Int32.ofNat L), Value.int (iI i)] : List Value) = [Value.int (iI (L : Int)), Value.int (iI i)] from rfl) ?_
  refine g_bipush (M := mL_law) (v := iI 6) dL_law_27 (by decide) ?_
  refine h_isub (M := mL_law) dL_law_29 ?_
  refine h_icmp_gt (M := mL_law) (tgt := 3062) dL_law_30 (by decide) ⟨by omega, by omega⟩ ⟨by omega, by omega⟩ (fun c => ?_) (fun c => ?_)
  · refine g_iconst (M := mL_law) (v := 1) dL_law_3062 (by decide) ?_
    exact g_lawret dL_law_3063 hk hs
  · refine g_aload_n (M := mL_law) dL_law_33 0 rfl rfl ?_
    refine g_iload (M := mL_law) dL_law_34 4 rfl ?_
    refine g_sld (M := mL_law) hE hb dL_law_36 (iI_in (by omega) (by omega) (by omega)) ?_
    have e : xs (iI i).toNatClampNeg = iI (zvXs xs i) := by
      have h := iI_idx (a := i) (by omega) (by omega)
      rw [show (iI i).toNatClampNeg = i.toNat by omega]
      exact zvXs_e
    rw [e]
    refine g_bipush (M := mL_law) (v := iI 63) dL_law_37 (by decide) ?_
    exact g_and63 dL_law_39 (go (by omega))
theorem l_tail {b : Nat} {i : Int} {A : Nat → Nat} {kc ks : Nat} {ws : va_W} (k : G X mL_law (zLP X b) kc ks 23 (zvLv b A (i + 6)) [] ws) : G X mL_law (zLP X b) kc ks 3056 (zvLv b A i) [] ws := by
  refine g_iinc (M := mL_law) (j := 4) (v := iI (i + 6)) (lv' := zvLv b A (i + 6)) dL_law_3056 rfl (by rw [← iI_add]; rfl) (by decide) rfl ?_
  exact g_goto (M := mL_law) (tgt := 23) dL_law_3059 (by decide) k
end ZLO
