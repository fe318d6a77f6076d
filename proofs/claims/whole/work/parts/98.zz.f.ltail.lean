section ZLT
variable {X : zX} {A A' : Nat → Nat} {S : Nat → va_E}
theorem lc_tail (hX : zOK X) {b : Nat} {i ko bb : Int} {σ : CS} {m : CV} {f : Nat → Int64} {kc ks pc : Nat} {off : Int} (hS : zvLs X A m f S) (hc : m.1 0 = ko) (hko : 0 ≤ ko ∧ ko ≤ 2) (hv : ko = 0 → f (iI 0).toNatClampNeg = (iI bb).toInt64) (hroom : kc ≤ 601024 ∧ ks ≤ 7293034)
    (t0 : decode mL_law.2.1 pc = .ok (.aload_n 2, 1)) (t1 : decode mL_law.2.1 (pc + 1) = .ok (.invokevirtual 154, 3)) (t4 : decode mL_law.2.1 (pc + 4) = .ok (.iload 5, 2)) (t6 : decode mL_law.2.1 (pc + 6) = .ok (.if_icmp .eq 5, 3)) (t11 : decode mL_law.2.1 (pc + 11) = .ok (.iload 5, 2)) (t13 : decode mL_law.2.1 (pc + 13) = .ok (.ifCond .ne 15, 3)) (t16 : decode mL_law.2.1 (pc + 16) = .ok (.aload_n 3, 1)) (t17 : decode mL_law.2.1 (pc + 17) = .ok (.iconst 0, 1)) (t18 : decode mL_law.2.1 (pc + 18) = .ok (.laload, 1)) (t19 : decode mL_law.2.1 (pc + 19) = .ok (.iload 6, 2)) (t21 : decode mL_law.2.1 (pc + 21) = .ok (.i2l, 1)) (t22 : decode mL_law.2.1 (pc + 22) = .ok (.lcmp, 1)) (t23 : decode mL_law.2.1 (pc + 23) = .ok (.ifCond .eq 5, 3)) (t28 : decode mL_law.2.1 (pc + 28) = .ok (.goto off, 3)) (ho : ((pc + 28 : Nat) : Int) + off = ((3056 : Nat) : Int))
    (next : G X mL_law (zLP X b) kc ks 3056 (zvLv b A i) [] (zWs A 113 (zSt X A σ S))) : G X mL_law (zLP X b) kc ks pc (zvLv b A i ++ [(5, .int (iI ko)), (6, .int (iI bb))]) [] (zWs A 113 (zSt X A σ S)) := by
  have fin : G X mL_law (zLP X b) kc ks (pc + 28) (zvLv b A i ++ [(5, .int (iI ko)), (6, .int (iI bb))]) [] (zWs A 113 (zSt X A σ S)) := by
    refine g_goto (M := mL_law) t28 ho ?_
    exact g_lv (M := mL_law) [0, 1, 2, 3, 4] rfl next
  refine g_aload_n (M := mL_law) t0 2 rfl rfl ?_
  refine g_callVr (M := mL_law) [] hX t1 vX8_thrown kM_L_154 (wX8_thrown hX (zvLs_c hS) (by decide) (show fX8_thrown m = some (m.1 0) from rfl)) 91 (zWs_at (by decide) (zvLs_c hS).o) rfl ⟨(Nat.le_of_ble_eq_true rfl), (Nat.le_of_ble_eq_true rfl)⟩ ⟨hroom.1, hroom.2⟩ (Nat.le_of_ble_eq_true rfl) ?_
  rw [hc]
  refine g_iload (M := mL_law) t4 5 rfl ?_
  refine h_icmp_eq (M := mL_law) (tgt := pc + 11) t6 (by omega) ⟨by omega, by omega⟩ ⟨by omega, by omega⟩ (fun _ => ?_) (fun z => absurd rfl z)
  refine g_iload (M := mL_law) t11 5 rfl ?_
  refine h_if_ne (M := mL_law) (tgt := pc + 28) t13 (by omega) ⟨by omega, by omega⟩ (fun _ => fin) (fun z => ?_)
  refine g_aload_n (M := mL_law) t16 3 rfl rfl ?_
  refine h_iconst (M := mL_law) t17 ?_
  refine g_lald (M := mL_law) t18 112 (zWs_at (by decide) (by rw [zSt_hi (by decide)]; exact hS.2)) (iI_in (by decide) (by decide) (by decide)) ?_
  rw [hv z]
  refine g_iload (M := mL_law) t19 6 rfl ?_
  refine g_i2l (M := mL_law) t21 rfl ?_
  refine g_lcmp (M := mL_law) t22 ?_
  rw [lg_cmp_s]
  exact h_if_eq (M := mL_law) (tgt := pc + 28) t23 (by omega) (by decide) (fun _ => fin) (fun z => absurd rfl z)
end ZLT
