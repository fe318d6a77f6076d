section ZPRT
theorem zShf {n m : Nat} (h : m = n / 256) : (n : Int) / 256 % 2 = (m : Int) / 1 % 2 ∧ (n : Int) / 512 % 2 = (m : Int) / 2 % 2 ∧ (n : Int) / 1024 % 2 = (m : Int) / 4 % 2 ∧ (n : Int) / 2048 % 2 = (m : Int) / 8 % 2 ∧ (n : Int) / 4096 % 2 = (m : Int) / 16 % 2 ∧ (n : Int) / 8192 % 2 = (m : Int) / 32 % 2 ∧ (n : Int) / 16384 % 2 = (m : Int) / 64 % 2 ∧ (n : Int) / 32768 % 2 = (m : Int) / 128 % 2 ∧ (n : Int) / 65536 % 2 = (m : Int) / 256 % 2 ∧ (n : Int) / 131072 % 2 = (m : Int) / 512 % 2 ∧ (n : Int) / 262144 % 2 = (m : Int) / 1024 % 2 ∧ (n : Int) / 524288 % 2 = (m : Int) / 2048 % 2 ∧ (n : Int) / 1048576 % 2 = (m : Int) / 4096 % 2 ∧ (n : Int) / 2097152 % 2 = (m : Int) / 8192 % 2 ∧ (n : Int) / 4194304 % 2 = (m : Int) / 16384 % 2 ∧ (n : Int) / 8388608 % 2 = (m : Int) / 32768 % 2 ∧ (n : Int) / 16777216 % 2 = (m : Int) / 65536 % 2 ∧ (n : Int) / 33554432 % 2 = (m : Int) / 131072 % 2 ∧ (n : Int) / 67108864 % 2 = (m : Int) / 262144 % 2 ∧ (n : Int) / 134217728 % 2 = (m : Int) / 524288 % 2 ∧ (n : Int) / 268435456 % 2 = (m : Int) / 1048576 % 2 ∧ (n : Int) / 536870912 % 2 = (m : Int) / 2097152 % 2 := by
  subst h
  refine ⟨?_, ?_, ?_, ?_, ?_, ?_, ?_, ?_, ?_, ?_, ?_, ?_, ?_, ?_, ?_, ?_, ?_, ?_, ?_, ?_, ?_, ?_⟩
  · omega
  · omega
  · omega
  · omega
  · omega
  · omega
  · omega
  · omega
  · omega
  · omega
  · omega
  · omega
  · omega
  · omega
  · omega
  · omega
  · omega
  · omega
  · omega
  · omega
  · omega
  · omega
theorem zByt {x a : Nat} (h : a = x % 256) : (x : Int) / 1 % 2 = ((a % 2 : Nat) : Int) ∧ (x : Int) / 2 % 2 = ((a / 2 % 2 : Nat) : Int) ∧ (x : Int) / 4 % 2 = ((a / 4 % 2 : Nat) : Int) ∧ (x : Int) / 8 % 2 = ((a / 8 % 2 : Nat) : Int) ∧ (x : Int) / 16 % 2 = ((a / 16 % 2 : Nat) : Int) ∧ (x : Int) / 32 % 2 = ((a / 32 % 2 : Nat) : Int) ∧ (x : Int) / 64 % 2 = ((a / 64 % 2 : Nat) : Int) ∧ (x : Int) / 128 % 2 = ((a / 128 % 2 : Nat) : Int) := by
  subst h
  refine ⟨?_, ?_, ?_, ?_, ?_, ?_, ?_, ?_⟩
  · omega
  · omega
  · omega
  · omega
  · omega
  · omega
  · omega
  · omega
theorem zU_and (a b : Nat) : iI (a : Int) &&& iI (b : Int) = iI ((a &&& b : Nat) : Int) := by
  rw [iI_and (by omega) (by omega)]
  unfold zAnd
  rw [Int.toNat_natCast, Int.toNat_natCast]
theorem zU_shr {a : Nat} (k d : Nat) (hd : zP2 (k : Int) = (d : Int)) (ha : a < 4294967296) (hk : k < 32) : ((iI (a : Int)).toUInt32 >>> ((iI (k : Int)).toUInt32 &&& Int32.toUInt32 31)).toInt32 = iI ((a / d : Nat) : Int) := by
  rw [iI_ushr (by omega) (by omega) (by omega) (by omega), hd, ← Int.natCast_ediv]
def zA1 (x : Int32) : Int32 := x - (((x).toUInt32 >>> ((1 : Int32).toUInt32 &&& Int32.toUInt32 31)).toInt32 &&& 1431655765)
def zA2 (y : Int32) : Int32 := (y &&& 858993459) + (((y).toUInt32 >>> ((2 : Int32).toUInt32 &&& Int32.toUInt32 31)).toInt32 &&& 858993459)
def zA3 (z : Int32) : Int32 := (z + ((z).toUInt32 >>> ((4 : Int32).toUInt32 &&& Int32.toUInt32 31)).toInt32) &&& 252645135
def zA4 (w : Int32) : Int32 := w + ((w).toUInt32 >>> ((8 : Int32).toUInt32 &&& Int32.toUInt32 31)).toInt32
def zA5 (v : Int32) : Int32 := (v + ((v).toUInt32 >>> ((16 : Int32).toUInt32 &&& Int32.toUInt32 31)).toInt32) &&& 63
theorem zPopR_A (x : Int32) : zPopR x = zA5 (zA4 (zA3 (zA2 (zA1 x)))) := by
  unfold zPopR zA5 zA4 zA3 zA2 zA1
  with_reducible rfl
theorem zU_sub {a b : Nat} (h : b ≤ a) : iI (a : Int) - iI (b : Int) = iI ((a - b : Nat) : Int) := by rw [iI_sub, Int.ofNat_sub h]
theorem zU_add (a b : Nat) : iI (a : Int) + iI (b : Int) = iI ((a + b : Nat) : Int) := by rw [iI_add, Int.natCast_add]
theorem zPop_zQ {n : Nat} (h : n < 1073741824) : zPop (n : Int) = (zQn n : Int) := by
  have k1 : (1 : Int32) = iI ((1 : Nat) : Int) := by decide +kernel
  have k2 : (2 : Int32) = iI ((2 : Nat) : Int) := by decide +kernel
  have k4 : (4 : Int32) = iI ((4 : Nat) : Int) := by decide +kernel
  have k8 : (8 : Int32) = iI ((8 : Nat) : Int) := by decide +kernel
  have k16 : (16 : Int32) = iI ((16 : Nat) : Int) := by decide +kernel
  have k63 : (63 : Int32) = iI ((63 : Nat) : Int) := by decide +kernel
  have m5 : (1431655765 : Int32) = iI ((1431655765 : Nat) : Int) := by decide +kernel
  have m3 : (858993459 : Int32) = iI ((858993459 : Nat) : Int) := by decide +kernel
  have mf : (252645135 : Int32) = iI ((252645135 : Nat) : Int) := by decide +kernel
  obtain ⟨y, hy⟩ : ∃ y, y = n - (n / 2 &&& 1431655765) := ⟨_, rfl⟩
  obtain ⟨z, hz⟩ : ∃ z, z = (y &&& 858993459) + (y / 4 &&& 858993459) := ⟨_, rfl⟩
  obtain ⟨w, hw⟩ : ∃ w, w = (z + z / 16) &&& 252645135 := ⟨_, rfl⟩
  obtain ⟨v, hv⟩ : ∃ v, v = w + w / 256 := ⟨_, rfl⟩
  obtain ⟨u, hu⟩ : ∃ u, u = (v + v / 65536) &&& 63 := ⟨_, rfl⟩
  have by1 : y < 1073741824 := by omega
  have bz : z ≤ 1717986918 := by
    have a1 : y &&& 858993459 ≤ 858993459 := Nat.and_le_right
    have a2 : y / 4 &&& 858993459 ≤ 858993459 := Nat.and_le_right
    omega
  have bw : w ≤ 252645135 := by rw [hw]; exact Nat.and_le_right
  have bv : v < 4294967296 := by omega
  have bu : u ≤ 63 := by rw [hu]; exact Nat.and_le_right
  have s1 : zA1 (iI (n : Int)) = iI (y : Int) := by
    unfold zA1
    rw [k1, m5, zU_shr 1 2 (by decide) (by omega) (by omega), zU_and, zU_sub (Nat.le_trans Nat.and_le_left (Nat.div_le_self _ _)), hy]
  have s2 : zA2 (iI (y : Int)) = iI (z : Int) := by
    unfold zA2
    rw [k2, m3, zU_shr 2 4 (by decide) (by omega) (by omega), zU_and, zU_and, zU_add, hz]
  have s3 : zA3 (iI (z : Int)) = iI (w : Int) := by
    unfold zA3
    rw [k4, mf, zU_shr 4 16 (by decide) (by omega) (by omega), zU_add, zU_and, hw]
  have s4 : zA4 (iI (w : Int)) = iI (v : Int) := by
    unfold zA4
    rw [k8, zU_shr 8 256 (by decide) (by omega) (by omega), zU_add, hv]
  have s5 : zA5 (iI (v : Int)) = iI (u : Int) := by
    unfold zA5
    rw [k16, k63, zU_shr 16 65536 (by decide +kernel) (by omega) (by omega), zU_add, zU_and, hu]
  have e : zPopR (iI (n : Int)) = iI (u : Int) := by
    rw [zPopR_A, s1, s2, s3, s4, s5]
  have eq : zQn n = u := by
    unfold zQn
    dsimp only
    rw [← hy, ← hz, ← hw, ← hv, ← hu]
  unfold zPop
  rw [e, iI_toInt ⟨by omega, by omega⟩, eq]
theorem zFd_30 {f : Int → Int → Int} {a : Int} : zFd f 30 a = f 29 (f 28 (f 27 (f 26 (f 25 (f 24 (f 23 (f 22 (f 21 (f 20 (f 19 (f 18 (f 17 (f 16 (f 15 (f 14 (f 13 (f 12 (f 11 (f 10 (f 9 (f 8 (f 7 (f 6 (f 5 (f 4 (f 3 (f 2 (f 1 (f 0 a))))))))))))))))))))))))))))) := rfl
theorem zLt256 {x k : Nat} (h : x < 256 * k) : x / 256 < k := Nat.div_lt_of_lt_mul h
theorem zPop_30 {x : Int} (h0 : 0 ≤ x) (h1 : x < 1073741824) : zPop x = zFd (fun i a => a + x / zP2 i % 2) 30 0 := by
  obtain ⟨n, rfl⟩ : ∃ n : Nat, x = n := ⟨x.toNat, by omega⟩
  have hN : n < 256 * (256 * (256 * 64)) := by omega
  rw [zPop_zQ (by omega)]
  clear h0 h1
  rw [zFd_30]
  have p0 : zP2 0 = 1 := by decide +kernel
  have p1 : zP2 1 = 2 := by decide +kernel
  have p2 : zP2 2 = 4 := by decide +kernel
  have p3 : zP2 3 = 8 := by decide +kernel
  have p4 : zP2 4 = 16 := by decide +kernel
  have p5 : zP2 5 = 32 := by decide +kernel
  have p6 : zP2 6 = 64 := by decide +kernel
  have p7 : zP2 7 = 128 := by decide +kernel
  have p8 : zP2 8 = 256 := by decide +kernel
  have p9 : zP2 9 = 512 := by decide +kernel
  have p10 : zP2 10 = 1024 := by decide +kernel
  have p11 : zP2 11 = 2048 := by decide +kernel
  have p12 : zP2 12 = 4096 := by decide +kernel
  have p13 : zP2 13 = 8192 := by decide +kernel
  have p14 : zP2 14 = 16384 := by decide +kernel
  have p15 : zP2 15 = 32768 := by decide +kernel
  have p16 : zP2 16 = 65536 := by decide +kernel
  have p17 : zP2 17 = 131072 := by decide +kernel
  have p18 : zP2 18 = 262144 := by decide +kernel
  have p19 : zP2 19 = 524288 := by decide +kernel
  have p20 : zP2 20 = 1048576 := by decide +kernel
  have p21 : zP2 21 = 2097152 := by decide +kernel
  have p22 : zP2 22 = 4194304 := by decide +kernel
  have p23 : zP2 23 = 8388608 := by decide +kernel
  have p24 : zP2 24 = 16777216 := by decide +kernel
  have p25 : zP2 25 = 33554432 := by decide +kernel
  have p26 : zP2 26 = 67108864 := by decide +kernel
  have p27 : zP2 27 = 134217728 := by decide +kernel
  have p28 : zP2 28 = 268435456 := by decide +kernel
  have p29 : zP2 29 = 536870912 := by decide +kernel
  rw [p0, p1, p2, p3, p4, p5, p6, p7, p8, p9, p10, p11, p12, p13, p14, p15, p16, p17, p18, p19, p20, p21, p22, p23, p24, p25, p26, p27, p28, p29]
  clear p0 p1 p2 p3 p4 p5 p6 p7 p8 p9 p10 p11 p12 p13 p14 p15 p16 p17 p18 p19 p20 p21 p22 p23 p24 p25 p26 p27 p28 p29
  have hn : n = n % 256 + 256 * (n / 256 % 256 + 256 * (n / 256 / 256 % 256 + 256 * (n / 256 / 256 / 256))) := by
    rw [Nat.mod_add_div (n / 256 / 256) 256, Nat.mod_add_div (n / 256) 256, Nat.mod_add_div n 256]
  have hd : n / 256 / 256 / 256 < 64 := zLt256 (zLt256 (zLt256 hN))
  have e1 : zQn n = zQd (n % 256) + zQd (n / 256 % 256) + zQd (n / 256 / 256 % 256) + zQd (n / 256 / 256 / 256) := by
    have h := zQn_e (a := n % 256) (b := n / 256 % 256) (c := n / 256 / 256 % 256) (d := n / 256 / 256 / 256) (Nat.mod_lt _ (by decide)) (Nat.mod_lt _ (by decide)) (Nat.mod_lt _ (by decide)) (Nat.lt_trans hd (by decide))
    rw [← hn] at h
    exact h
  clear hn hN
  rw [e1]
  clear e1
  obtain ⟨n1, hn1⟩ : ∃ n1, n1 = n / 256 := ⟨_, rfl⟩
  obtain ⟨n2, hn2⟩ : ∃ n2, n2 = n1 / 256 := ⟨_, rfl⟩
  obtain ⟨n3, hn3⟩ : ∃ n3, n3 = n2 / 256 := ⟨_, rfl⟩
  rw [← hn1, ← hn2, ← hn3]
  rw [← hn1, ← hn2, ← hn3] at hd
  obtain ⟨s1_0, s1_1, s1_2, s1_3, s1_4, s1_5, s1_6, s1_7, s1_8, s1_9, s1_10, s1_11, s1_12, s1_13, s1_14, s1_15, s1_16, s1_17, s1_18, s1_19, s1_20, s1_21⟩ := zShf hn1
  obtain ⟨s2_0, s2_1, s2_2, s2_3, s2_4, s2_5, s2_6, s2_7, s2_8, s2_9, s2_10, s2_11, s2_12, s2_13, s2_14, s2_15, s2_16, s2_17, s2_18, s2_19, s2_20, s2_21⟩ := zShf hn2
  obtain ⟨s3_0, s3_1, s3_2, s3_3, s3_4, s3_5, s3_6, s3_7, s3_8, s3_9, s3_10, s3_11, s3_12, s3_13, s3_14, s3_15, s3_16, s3_17, s3_18, s3_19, s3_20, s3_21⟩ := zShf hn3
  rw [s1_0, s1_1, s1_2, s1_3, s1_4, s1_5, s1_6, s1_7, s1_8, s2_0, s1_9, s2_1, s1_10, s2_2, s1_11, s2_3, s1_12, s2_4, s1_13, s2_5, s1_14, s2_6, s1_15, s2_7, s1_16, s2_8, s3_0, s1_17, s2_9, s3_1, s1_18, s2_10, s3_2, s1_19, s2_11, s3_3, s1_20, s2_12, s3_4, s1_21, s2_13, s3_5]
  clear s1_0 s1_1 s1_2 s1_3 s1_4 s1_5 s1_6 s1_7 s1_8 s1_9 s1_10 s1_11 s1_12 s1_13 s1_14 s1_15 s1_16 s1_17 s1_18 s1_19 s1_20 s1_21 s2_0 s2_1 s2_2 s2_3 s2_4 s2_5 s2_6 s2_7 s2_8 s2_9 s2_10 s2_11 s2_12 s2_13 s2_14 s2_15 s2_16 s2_17 s2_18 s2_19 s2_20 s2_21 s3_0 s3_1 s3_2 s3_3 s3_4 s3_5 s3_6 s3_7 s3_8 s3_9 s3_10 s3_11 s3_12 s3_13 s3_14 s3_15 s3_16 s3_17 s3_18 s3_19 s3_20 s3_21 hn1 hn2
  obtain ⟨a, ha⟩ : ∃ a, a = n % 256 := ⟨_, rfl⟩
  obtain ⟨t0_0, t0_1, t0_2, t0_3, t0_4, t0_5, t0_6, t0_7⟩ := zByt ha
  obtain ⟨b, hb⟩ : ∃ b, b = n1 % 256 := ⟨_, rfl⟩
  obtain ⟨t1_0, t1_1, t1_2, t1_3, t1_4, t1_5, t1_6, t1_7⟩ := zByt hb
  obtain ⟨c, hc⟩ : ∃ c, c = n2 % 256 := ⟨_, rfl⟩
  obtain ⟨t2_0, t2_1, t2_2, t2_3, t2_4, t2_5, t2_6, t2_7⟩ := zByt hc
  have hm : n3 = n3 % 256 := (Nat.mod_eq_of_lt (Nat.lt_trans hd (by decide))).symm
  obtain ⟨t3_0, t3_1, t3_2, t3_3, t3_4, t3_5, t3_6, t3_7⟩ := zByt hm
  rw [← ha, ← hb, ← hc, t0_0, t0_1, t0_2, t0_3, t0_4, t0_5, t0_6, t0_7, t1_0, t1_1, t1_2, t1_3, t1_4, t1_5, t1_6, t1_7, t2_0, t2_1, t2_2, t2_3, t2_4, t2_5, t2_6, t2_7, t3_0, t3_1, t3_2, t3_3, t3_4, t3_5]
  clear t0_0 t0_1 t0_2 t0_3 t0_4 t0_5 t0_6 t0_7 t1_0 t1_1 t1_2 t1_3 t1_4 t1_5 t1_6 t1_7 t2_0 t2_1 t2_2 t2_3 t2_4 t2_5 t2_6 t2_7 t3_0 t3_1 t3_2 t3_3 t3_4 t3_5 t3_6 t3_7 hm hn3
  have la : a < 256 := ha ▸ Nat.mod_lt _ (by decide)
  have lb : b < 256 := hb ▸ Nat.mod_lt _ (by decide)
  have lc : c < 256 := hc ▸ Nat.mod_lt _ (by decide)
  clear ha hb hc
  have qa : zQd a = a % 2 + a / 2 % 2 + a / 4 % 2 + a / 8 % 2 + a / 16 % 2 + a / 32 % 2 + a / 64 % 2 + a / 128 % 2 := (zQ_5 ⟨a, la⟩).2
  have qb : zQd b = b % 2 + b / 2 % 2 + b / 4 % 2 + b / 8 % 2 + b / 16 % 2 + b / 32 % 2 + b / 64 % 2 + b / 128 % 2 := (zQ_5 ⟨b, lb⟩).2
  have qc : zQd c = c % 2 + c / 2 % 2 + c / 4 % 2 + c / 8 % 2 + c / 16 % 2 + c / 32 % 2 + c / 64 % 2 + c / 128 % 2 := (zQ_5 ⟨c, lc⟩).2
  have qn3 : zQd n3 = n3 % 2 + n3 / 2 % 2 + n3 / 4 % 2 + n3 / 8 % 2 + n3 / 16 % 2 + n3 / 32 % 2 + n3 / 64 % 2 + n3 / 128 % 2 := (zQ_5 ⟨n3, (Nat.lt_trans hd (by decide))⟩).2
  have d6 : n3 / 64 = 0 := Nat.div_eq_of_lt hd
  have d7 : n3 / 128 = 0 := Nat.div_eq_of_lt (Nat.lt_trans hd (by decide))
  rw [qa, qb, qc, qn3, d6, d7]
  simp only [Int.natCast_add, Int.zero_add, Int.add_assoc, Nat.add_zero, Nat.zero_mod]
end ZPRT
