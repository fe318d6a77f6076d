section ZND
theorem zDec64 {k : Nat} : FP.Core.decode FP.Core.b64 k = .nan ↔ (k / 2 ^ 52 % 2 ^ 11 = 2047 ∧ k % 2 ^ 52 ≠ 0) := by
  unfold FP.Core.decode FP.Core.fieldE FP.Core.fieldT FP.Core.Fmt.tails FP.Core.Fmt.exps FP.Core.b64
  dsimp only
  constructor
  · intro h
    split at h
    · split at h
      · cases h
      · rename_i a b
        exact ⟨a, b⟩
    · split at h <;> cases h
  · intro h
    rw [if_pos h.1, if_neg h.2]
theorem zDec32 {k : Nat} : FP.Core.decode FP.Core.b32 k = .nan ↔ (k / 2 ^ 23 % 2 ^ 8 = 255 ∧ k % 2 ^ 23 ≠ 0) := by
  unfold FP.Core.decode FP.Core.fieldE FP.Core.fieldT FP.Core.Fmt.tails FP.Core.Fmt.exps FP.Core.b32
  dsimp only
  constructor
  · intro h
    split at h
    · split at h
      · cases h
      · rename_i a b
        exact ⟨a, b⟩
    · split at h <;> cases h
  · intro h
    rw [if_pos h.1, if_neg h.2]
theorem zN64m {a : UInt64} : (a &&& 0x7fffffffffffffff).toNat = a.toNat % 2 ^ 63 := by
  rw [UInt64.toNat_and]
  have e : (0x7fffffffffffffff : UInt64).toNat = 2 ^ 63 - 1 := by decide
  rw [e]
  exact Nat.and_two_pow_sub_one_eq_mod _ _
theorem zN32m {a : UInt32} : (a &&& 0x7fffffff).toNat = a.toNat % 2 ^ 31 := by
  rw [UInt32.toNat_and]
  have e : (0x7fffffff : UInt32).toNat = 2 ^ 31 - 1 := by decide
  rw [e]
  exact Nat.and_two_pow_sub_one_eq_mod _ _
theorem zN64 {a : UInt64} : vf_n64 a ↔ FP.Core.val64 a ≠ .nan := by
  unfold vf_n64 FP.Core.val64
  rw [UInt64.le_iff_toNat_le, zN64m, show (0x7ff0000000000000 : UInt64).toNat = 2047 * 2 ^ 52 by decide, Ne, zDec64]
  omega
theorem zN32 {a : UInt32} : vf_n32 a ↔ FP.Core.val32 a ≠ .nan := by
  unfold vf_n32 FP.Core.val32
  rw [UInt32.le_iff_toNat_le, zN32m, show (0x7f800000 : UInt32).toNat = 255 * 2 ^ 23 by decide, Ne, zDec32]
  omega
theorem zNf2d {a : UInt32} (h : vf_n32 a) : vf_n64 (FP.Core.f2d a) := by
  rw [zN64]
  intro hn
  have h1 := (FP.Core.dIsNaN_iff _).mpr hn
  rw [FP.Core.f2d_nan] at h1
  exact zN32.mp h ((FP.Core.fIsNaN_iff _).mp h1)
theorem zNcmp {a : UInt64} (h : vf_n64 a) : FP.Core.dcmp a a = some .eq := FP.Core.dcmp_self (zN64.mp h)
theorem zNf2e {a : UInt32} (h : vf_n32 a) : vf_n64 (FP.f2d a) := by
  have e : FP.fIsNaN a = false := by
    rw [FP.fIsNaN_core]
    cases c : FP.Core.fIsNaN a with
    | true => exact absurd ((FP.Core.fIsNaN_iff _).mp c) (zN32.mp h)
    | false => rfl
  rw [FP.f2d_core e]
  exact zNf2d h
theorem lc_dtail {X : zX} {b : Nat} {i : Int} {A : Nat → Nat} {ws : va_W} {kc ks pc : Nat} {op : CmpOp} {off : Int} {x : UInt64} (hx : vf_n64 x) (d0 : decode mL_law.2.1 pc = .ok (.dload 5, 2)) (d2 : decode mL_law.2.1 (pc + 2) = .ok (.dload 7, 2)) (d4 : decode mL_law.2.1 (pc + 4) = .ok (.dcmp op, 1)) (d5 : decode mL_law.2.1 (pc + 5) = .ok (.ifCond .eq 21, 3)) (d26 : decode mL_law.2.1 (pc + 26) = .ok (.goto off, 3)) (ho : ((pc + 26 : Nat) : Int) + off = ((3056 : Nat) : Int)) (next : G X mL_law (zLP X b) kc ks 3056 (zvLv b A i) [] ws) : G X mL_law (zLP X b) kc ks pc (zvLv b A i ++ [(5, .double x), (7, .double x)]) [] ws := by
  refine g_dload (M := mL_law) d0 5 rfl ?_
  refine g_dload (M := mL_law) d2 6 rfl ?_
  refine g_dcmp (M := mL_law) d4 ?_
  rw [show FP.dcmp x x = some .eq from zNcmp hx, show Op.cmpValue (some .eq) op = iI 0 from by cases op <;> rfl]
  refine h_if_eq (M := mL_law) (tgt := pc + 26) d5 (by omega) (by decide) (fun _ => ?_) (fun z => absurd rfl z)
  refine g_goto (M := mL_law) d26 ho ?_
  exact g_lv (M := mL_law) [0, 1, 2, 3, 4] rfl next
set_option maxHeartbeats 4000000 in
set_option maxRecDepth 100000 in
theorem lc_agreementShare {X : zX} (hX2 : zOK2 X) {b : Nat} {i : Int} {A : Nat → Nat} {S : Nat → va_E} {σ : CS} {m : CV} {f : Nat → Int64} (hR : zRR σ m) (hS : zvLs X A m f S) {kc ks : Nat} (hr : kc + 0 ≤ 601024 ∧ ks + 0 ≤ 7293034) (next : ∀ (A' : Nat → Nat) (S' : Nat → va_E) (σ' : CS) (m' : CV) (f' : Nat → Int64), zRR σ' m' → zvLs X A' m' f' S' → zvAk A A' → (∃ r, fX7_agreementShare σ = some (σ', r)) → G X mL_law (zLP X b) (kc + 0) (ks + 0) 3056 (zvLv b A' i) [] (zWs A' 113 (zSt X A' σ' S'))) : G X mL_law (zLP X b) kc ks 2220 (zvLv b A i) [] (zWs A 113 (zSt X A σ S)) := by
  have hX := hX2.1
  obtain ⟨res, er, u, eu, hR2, he, hn⟩ := s_agreementShare hR
  refine g_aload_n (M := mL_law) dL_law_2220 1 rfl rfl ?_
  refine g_callVA (M := mL_law) [] hX dL_law_2221 vX7_agreementShare kM_L_277 (wX7_agreementShare hX (by decide) er) (fun _ => rfl) 0 (zWs_at (by decide) ((zSt_c 0 rfl (show σ 0 = (σ 0) from rfl))).o) rfl ⟨(Nat.le_of_ble_eq_true rfl), (Nat.le_of_ble_eq_true rfl)⟩ ⟨hr.1, hr.2⟩ (Nat.le_of_ble_eq_true rfl) (fun A' hA' => ?_)
  have hS1 := zvLs_k hS hA'
  rw [zvLv_k hA']
  refine g_f2d (M := mL_law) dL_law_2224 (zNf2e hn) ?_
  refine g_dstore (M := mL_law) (lv' := zvLv b A' i ++ [(5, .double (FP.f2d res.2))]) dL_law_2225 (by decide) rfl ?_
  refine g_aload_n (M := mL_law) dL_law_2227 2 rfl rfl ?_
  refine g_callVr (M := mL_law) [] hX dL_law_2228 vX8_agreementShare kM_L_281 (wX8_agreementShare hX (zvLs_c hS1) (by decide) eu) 91 (zWs_at (by decide) (zvLs_c hS1).o) rfl ⟨(Nat.le_of_ble_eq_true rfl), (Nat.le_of_ble_eq_true rfl)⟩ ⟨hr.1, hr.2⟩ (Nat.le_of_ble_eq_true rfl) ?_
  rw [zSt_zC, ← he]
  refine g_f2d (M := mL_law) dL_law_2231 (zNf2e hn) ?_
  refine g_dstore (M := mL_law) (lv' := zvLv b A' i ++ [(5, .double (FP.f2d res.2)), (7, .double (FP.f2d res.2))]) dL_law_2232 (by decide) rfl ?_
  exact lc_dtail (zNf2e hn) dL_law_2234 dL_law_2236 dL_law_2238 dL_law_2239 dL_law_2260 (by decide) (next A' _ res.1 u.1 _ hR2 (zvLs_m hS1) hA' ⟨res.2, er⟩)
set_option maxHeartbeats 4000000 in
set_option maxRecDepth 100000 in
theorem lc_meanDistance {X : zX} (hX2 : zOK2 X) {b : Nat} {i : Int} {A : Nat → Nat} {S : Nat → va_E} {σ : CS} {m : CV} {f : Nat → Int64} (hR : zRR σ m) (hS : zvLs X A m f S) {kc ks : Nat} (hr : kc + (2 + 3 * zNd (σ 7) (σ 4)) ≤ 601024 ∧ ks + (12 + 13652 * zNd (σ 7) (σ 4)) ≤ 7293034) (next : ∀ (A' : Nat → Nat) (S' : Nat → va_E) (σ' : CS) (m' : CV) (f' : Nat → Int64), zRR σ' m' → zvLs X A' m' f' S' → zvAk A A' → (∃ r, fX7_meanDistance σ = some (σ', r)) → G X mL_law (zLP X b) (kc + (2 + 3 * zNd (σ 7) (σ 4))) (ks + (12 + 13652 * zNd (σ 7) (σ 4))) 3056 (zvLv b A' i) [] (zWs A' 113 (zSt X A' σ' S'))) : G X mL_law (zLP X b) kc ks 2263 (zvLv b A i) [] (zWs A 113 (zSt X A σ S)) := by
  have hX := hX2.1
  obtain ⟨res, er, u, eu, hR2, he, hn⟩ := s_meanDistance hR
  refine g_aload_n (M := mL_law) dL_law_2263 1 rfl rfl ?_
  refine g_callVA (M := mL_law) [] hX dL_law_2264 vX7_meanDistance kM_L_282 (wX7_meanDistance hX (by decide) er) (fun _ => rfl) 0 (zWs_at (by decide) ((zSt_c 0 rfl (show σ 0 = (σ 0) from rfl))).o) rfl ⟨(Nat.le_of_ble_eq_true rfl), (Nat.le_of_ble_eq_true rfl)⟩ ⟨hr.1, hr.2⟩ (Nat.le_of_ble_eq_true rfl) (fun A' hA' => ?_)
  have hS1 := zvLs_k hS hA'
  rw [zvLv_k hA']
  refine g_dstore (M := mL_law) (lv' := zvLv b A' i ++ [(5, .double (res.2))]) dL_law_2267 (by decide) rfl ?_
  refine g_aload_n (M := mL_law) dL_law_2269 2 rfl rfl ?_
  refine g_callVr (M := mL_law) [] hX dL_law_2270 vX8_meanDistance kM_L_286 (wX8_meanDistance hX (zvLs_c hS1) (by decide) eu) 91 (zWs_at (by decide) (zvLs_c hS1).o) rfl ⟨(Nat.le_of_ble_eq_true rfl), (Nat.le_of_ble_eq_true rfl)⟩ ⟨hr.1, hr.2⟩ (Nat.le_of_ble_eq_true rfl) ?_
  rw [zSt_zC, ← he]
  refine g_dstore (M := mL_law) (lv' := zvLv b A' i ++ [(5, .double (res.2)), (7, .double (res.2))]) dL_law_2273 (by decide) rfl ?_
  exact lc_dtail hn dL_law_2275 dL_law_2277 dL_law_2279 dL_law_2280 dL_law_2301 (by decide) (next A' _ res.1 u.1 _ hR2 (zvLs_m hS1) hA' ⟨res.2, er⟩)
end ZND
