/-! BITS OF INTS AS INTEGERS -/
def zAnd (a b : Int) : Int := ((a.toNat &&& b.toNat : Nat) : Int)
def zOr (a b : Int) : Int := ((a.toNat ||| b.toNat : Nat) : Int)
def zP2 (k : Int) : Int := ((2 ^ k.toNat : Nat) : Int)
theorem zP2_pos (k : Int) : 1 ≤ zP2 k := by
  unfold zP2
  have := Nat.one_le_two_pow (n := k.toNat)
  omega
theorem zN_s : ∀ n, n < 32 → ((nI n &&& 31).toBitVec.smod 32).toNat = n := by decide +kernel
theorem zN_u : ∀ n, n < 32 → (((nI n).toUInt32 &&& Int32.toUInt32 31).toBitVec % 32).toNat = n := by decide +kernel
theorem iI_nat (n : Nat) : iI (n : Int) = nI n := rfl
theorem iL_nat (n : Nat) : iL (n : Int) = lN n := rfl
theorem iI_bv (z : Int) : (iI z).toBitVec = BitVec.ofInt 32 z := rfl
theorem iL_bv (z : Int) : (iL z).toBitVec = BitVec.ofInt 64 z := rfl
theorem iI_wrap {a b : Int} (h : ∃ k : Int, a = b + 4294967296 * k) : iI a = iI b := by
  obtain ⟨k, rfl⟩ := h
  apply Int32.toBitVec_inj.mp
  rw [iI_bv, iI_bv]
  apply BitVec.eq_of_toNat_eq
  rw [BitVec.toNat_ofInt, BitVec.toNat_ofInt]
  have h : (b + 4294967296 * k) % ((2 ^ 32 : Nat) : Int) = b % ((2 ^ 32 : Nat) : Int) := by
    have : ((2 ^ 32 : Nat) : Int) = 4294967296 := by decide
    rw [this]
    omega
  rw [h]
theorem iI_shl (x : Int) {r : Int} (h0 : 0 ≤ r) (h1 : r < 32) : iI x <<< (iI r &&& 31) = iI (x * zP2 r) := by
  obtain ⟨n, rfl⟩ : ∃ n : Nat, r = n := ⟨r.toNat, by omega⟩
  have hn : n < 32 := by omega
  apply Int32.toBitVec_inj.mp
  apply BitVec.eq_of_toNat_eq
  rw [iI_nat, pk_shl (iI x) _ n (zN_s n hn), iI_bv, iI_bv, BitVec.toNat_ofInt, BitVec.toNat_ofInt]
  have h1 : zP2 n = ((2 ^ n : Nat) : Int) := by unfold zP2; simp
  rw [h1]
  have h2 : 0 ≤ x % ((2 ^ 32 : Nat) : Int) := Int.emod_nonneg _ (by decide)
  have h3 : 0 ≤ (x * ((2 ^ n : Nat) : Int)) % ((2 ^ 32 : Nat) : Int) := Int.emod_nonneg _ (by decide)
  apply Int.ofNat.inj
  show (((x % ((2 ^ 32 : Nat) : Int)).toNat * 2 ^ n % 2 ^ 32 : Nat) : Int) = (((x * ((2 ^ n : Nat) : Int)) % ((2 ^ 32 : Nat) : Int)).toNat : Int)
  rw [Int.natCast_emod, Int.natCast_mul, Int.toNat_of_nonneg h2, Int.toNat_of_nonneg h3]
  rw [Int.mul_emod (x % _), Int.emod_emod, ← Int.mul_emod]
theorem iI_ushr {x r : Int} (h0 : 0 ≤ x) (h1 : x < 4294967296) (h2 : 0 ≤ r) (h3 : r < 32) : ((iI x).toUInt32 >>> ((iI r).toUInt32 &&& Int32.toUInt32 31)).toInt32 = iI (x / zP2 r) := by
  obtain ⟨n, rfl⟩ : ∃ n : Nat, r = n := ⟨r.toNat, by omega⟩
  obtain ⟨m, rfl⟩ : ∃ m : Nat, x = m := ⟨x.toNat, by omega⟩
  have h := pk_ushrN (n := m) (by omega) (nI n) n (zN_u n (by omega))
  rw [iI_nat, iI_nat, h]
  rfl
theorem iI_and {a b : Int} (h0 : 0 ≤ a) (h1 : 0 ≤ b) : iI a &&& iI b = iI (zAnd a b) := by
  obtain ⟨n, rfl⟩ : ∃ n : Nat, a = n := ⟨a.toNat, by omega⟩
  obtain ⟨m, rfl⟩ : ∃ m : Nat, b = m := ⟨b.toNat, by omega⟩
  show nI n &&& nI m = nI (n &&& m)
  apply Int32.toBitVec_inj.mp
  rw [Int32.toBitVec_and]
  show BitVec.ofNat 32 n &&& BitVec.ofNat 32 m = BitVec.ofNat 32 (n &&& m)
  exact (BitVec.ofNat_and).symm
theorem iI_or {a b : Int} (h0 : 0 ≤ a) (h1 : 0 ≤ b) : iI a ||| iI b = iI (zOr a b) := by
  obtain ⟨n, rfl⟩ : ∃ n : Nat, a = n := ⟨a.toNat, by omega⟩
  obtain ⟨m, rfl⟩ : ∃ m : Nat, b = m := ⟨b.toNat, by omega⟩
  show nI n ||| nI m = nI (n ||| m)
  apply Int32.toBitVec_inj.mp
  rw [Int32.toBitVec_or]
  show BitVec.ofNat 32 n ||| BitVec.ofNat 32 m = BitVec.ofNat 32 (n ||| m)
  exact (BitVec.ofNat_or).symm
theorem iI_mask (x : Int) (k : Nat) (hk : k ≤ 30) : iI x &&& iI (zP2 k - 1) = iI (x % zP2 k) := by
  have hm : (iI (zP2 k - 1)).toBitVec.toNat = 2 ^ k - 1 := by
    have h1 : zP2 k - 1 = ((2 ^ k - 1 : Nat) : Int) := by
      unfold zP2
      have := Nat.one_le_two_pow (n := k)
      simp only [Int.toNat_natCast]
      omega
    rw [h1, iI_nat]
    have h2 : 2 ^ k ≤ 2 ^ 30 := Nat.pow_le_pow_right (by omega) hk
    exact pk_tn (by omega)
  rw [pk_and (iI x) k hm]
  have h3 : (iI x).toBitVec.toNat = (x % 4294967296).toNat := by
    rw [iI_bv, BitVec.toNat_ofInt]
    rfl
  rw [h3, ← iI_nat]
  congr 1
  have h4 : zP2 k = ((2 ^ k : Nat) : Int) := by unfold zP2; simp
  rw [h4]
  have h5 : ((2 : Nat) ^ k) ∣ 4294967296 := by
    have : (4294967296 : Nat) = 2 ^ 32 := by decide
    rw [this]
    exact Nat.pow_dvd_pow 2 (by omega)
  have h6 : 0 ≤ x % 4294967296 := Int.emod_nonneg _ (by decide)
  have h7 : ((x % 4294967296).toNat : Int) = x % 4294967296 := by omega
  rw [Int.natCast_emod, h7]
  exact Int.emod_emod_of_dvd x (Int.natCast_dvd_natCast.mpr h5)
/-! ===== lN n to 2^64: shifts, and, or, masks, one bit ===== -/
theorem wb_tb (n : Nat) : (lN n).toBitVec = BitVec.ofNat 64 n := rfl
theorem wb_inj {a b : Int64} (h : a.toBitVec = b.toBitVec) : a = b := Int64.toBitVec_inj.mp h
theorem wb_tn {n : Nat} (h : n < 2 ^ 64) : (lN n).toBitVec.toNat = n := by rw [wb_tb, BitVec.toNat_ofNat, Nat.mod_eq_of_lt h]
theorem wb_of (x : Int64) : ∃ n, n < 2 ^ 64 ∧ x = lN n := ⟨x.toBitVec.toNat, x.toBitVec.isLt, wb_inj (by rw [wb_tb]; simp)⟩
theorem wb_of32 (x : Int32) : ∃ n, n < 2 ^ 32 ∧ x = nI n := ⟨x.toBitVec.toNat, x.toBitVec.isLt, Int32.toBitVec_inj.mp (by show _ = BitVec.ofNat 32 _; simp)⟩
theorem wb_c : ∀ k, k < 64 → ((nI k).toInt64 &&& 63) = lN k := by decide +kernel
theorem wb_cu : ∀ k, k < 64 → ((nI k).toInt64.toUInt64 &&& Int64.toUInt64 63) = UInt64.ofNat k := by decide +kernel
theorem wb_sm : ∀ k, k < 64 → (BitVec.ofNat 64 k).smod 64 = BitVec.ofNat 64 k := by decide +kernel
theorem wb_pw {a b : Nat} (h : a ≤ b) : 2 ^ b = 2 ^ a * 2 ^ (b - a) := by rw [← Nat.pow_add]; congr 1; omega
theorem wb_lt2 {a b : Nat} (h : a < b) : 2 ^ a < 2 ^ b := Nat.pow_lt_pow_right (by decide) h
theorem wb_mod (n : Nat) : lN n = lN (n % 2 ^ 64) := wb_inj (by rw [wb_tb, wb_tb]; apply BitVec.eq_of_toNat_eq; rw [BitVec.toNat_ofNat, BitVec.toNat_ofNat, Nat.mod_mod])
theorem wb_shr {n k : Nat} (hn : n < 2 ^ 64) (hk : k < 64) : ((lN n).toUInt64 >>> ((nI k).toInt64.toUInt64 &&& Int64.toUInt64 63)).toInt64 = lN (n / 2 ^ k) := by
  rw [wb_cu k hk]
  apply wb_inj
  apply BitVec.eq_of_toNat_eq
  show ((lN n).toUInt64 >>> UInt64.ofNat k).toNat = (BitVec.ofNat 64 _).toNat
  have h1 : (UInt64.ofNat k).toNat = k := by
    show (BitVec.ofNat 64 k).toNat = k
    rw [BitVec.toNat_ofNat, Nat.mod_eq_of_lt (by omega)]
  have h2 : (lN n).toUInt64.toNat = n := wb_tn hn
  rw [UInt64.toNat_shiftRight, h1, h2, Nat.mod_eq_of_lt hk, Nat.shiftRight_eq_div_pow, BitVec.toNat_ofNat, Nat.mod_eq_of_lt (Nat.lt_of_le_of_lt (Nat.div_le_self _ _) hn)]
theorem wb_shl (n : Nat) {k : Nat} (hk : k < 64) : lN n <<< ((nI k).toInt64 &&& 63) = lN (n * 2 ^ k) := by
  rw [wb_c k hk]
  apply wb_inj
  rw [Int64.toBitVec_shiftLeft, wb_tb, wb_tb, wb_tb, wb_sm k hk]
  apply BitVec.eq_of_toNat_eq
  rw [BitVec.shiftLeft_eq', BitVec.toNat_shiftLeft, BitVec.toNat_ofNat, BitVec.toNat_ofNat, BitVec.toNat_ofNat, Nat.mod_eq_of_lt (show k < 2 ^ 64 by omega), Nat.shiftLeft_eq, Nat.mul_mod, Nat.mod_mod, ← Nat.mul_mod]
theorem wb_and {a b : Nat} (ha : a < 2 ^ 64) (hb : b < 2 ^ 64) : lN a &&& lN b = lN (a &&& b) := by
  apply wb_inj
  rw [Int64.toBitVec_and, wb_tb, wb_tb, wb_tb]
  apply BitVec.eq_of_toNat_eq
  rw [BitVec.toNat_and, BitVec.toNat_ofNat, BitVec.toNat_ofNat, BitVec.toNat_ofNat, Nat.mod_eq_of_lt ha, Nat.mod_eq_of_lt hb, Nat.mod_eq_of_lt (Nat.and_lt_two_pow _ hb)]
theorem wb_or {a b : Nat} (ha : a < 2 ^ 64) (hb : b < 2 ^ 64) : lN a ||| lN b = lN (a ||| b) := by
  apply wb_inj
  rw [Int64.toBitVec_or, wb_tb, wb_tb, wb_tb]
  apply BitVec.eq_of_toNat_eq
  rw [BitVec.toNat_or, BitVec.toNat_ofNat, BitVec.toNat_ofNat, BitVec.toNat_ofNat, Nat.mod_eq_of_lt ha, Nat.mod_eq_of_lt hb, Nat.mod_eq_of_lt (Nat.or_lt_two_pow ha hb)]
theorem wb_mask {n k : Nat} (hn : n < 2 ^ 64) (hk : k < 64) : lN n &&& lN (2 ^ k - 1) = lN (n % 2 ^ k) := by
  rw [wb_and hn (by have := wb_lt2 hk; omega), Nat.and_two_pow_sub_one_eq_mod]
theorem wb_a1 {n : Nat} (hn : n < 2 ^ 64) : lN n &&& 1 = lN (n % 2) := wb_mask (k := 1) hn (by decide)
theorem wb_bit {n k : Nat} (hn : n < 2 ^ 64) (hk : k < 64) : ((lN n).toUInt64 >>> ((nI k).toInt64.toUInt64 &&& Int64.toUInt64 63)).toInt64 &&& 1 = lN (n / 2 ^ k % 2) := by
  rw [wb_shr hn hk, wb_a1 (Nat.lt_of_le_of_lt (Nat.div_le_self _ _) hn)]
theorem zNL_u : ∀ n, n < 64 → ((nI n).toInt64.toUInt64 &&& Int64.toUInt64 63).toNat % 64 = n := by decide +kernel
theorem iL_ushr {x r : Int} (h0 : 0 ≤ x) (h1 : x < 9223372036854775808) (h2 : 0 ≤ r) (h3 : r < 64) : ((iL x).toUInt64 >>> ((iI r).toInt64.toUInt64 &&& Int64.toUInt64 63)).toInt64 = iL (x / zP2 r) := by
  obtain ⟨n, rfl⟩ : ∃ n : Nat, r = n := ⟨r.toNat, by omega⟩
  obtain ⟨m, rfl⟩ : ∃ m : Nat, x = m := ⟨x.toNat, by omega⟩
  rw [iI_nat, iL_nat, wb_shr (by omega) (by omega)]
  rfl
theorem iL_i {x : Int} (h : 0 ≤ x) : (iL x).toInt32 = iI x := by
  obtain ⟨m, rfl⟩ : ∃ m : Nat, x = m := ⟨x.toNat, by omega⟩
  exact lN_i m
theorem iI_maskI (x : Int) {k : Int} (h0 : 0 ≤ k) (hk : k ≤ 30) : iI x &&& iI (zP2 k - 1) = iI (x % zP2 k) := by
  obtain ⟨n, rfl⟩ : ∃ n : Nat, k = n := ⟨k.toNat, by omega⟩
  exact iI_mask x n (by omega)
