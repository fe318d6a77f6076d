section ZPRT
theorem zU_and (a b : Nat) : iI (a : Int) &&& iI (b : Int) = iI ((a &&& b : Nat) : Int) := by
  rw [iI_and (by omega) (by omega)]
  unfold zAnd
  rw [Int.toNat_natCast, Int.toNat_natCast]
theorem zU_shr {a : Nat} (k : Nat) (ha : a < 4294967296) (hk : k < 32) : ((iI (a : Int)).toUInt32 >>> ((iI (k : Int)).toUInt32 &&& Int32.toUInt32 31)).toInt32 = iI ((a / 2 ^ k : Nat) : Int) := by
  rw [iI_ushr (by omega) (by omega) (by omega) (by omega), zP2_n, ← Int.natCast_ediv]
theorem zU_sub {a b : Nat} (h : b ≤ a) : iI (a : Int) - iI (b : Int) = iI ((a - b : Nat) : Int) := by rw [iI_sub, Int.ofNat_sub h]
theorem zU_add (a b : Nat) : iI (a : Int) + iI (b : Int) = iI ((a + b : Nat) : Int) := by rw [iI_add, Int.natCast_add]
theorem zPop_zQ {n : Nat} (h : n < 1073741824) : zPop (n : Int) = (zQn n : Int) := by
  have k1 : (1 : Int32) = iI ((1 : Nat) : Int) := by decide +kernel
  have k2 : (2 : Int32) = iI ((2 : Nat) : Int) := by decide +kernel
  have k4 : (4 : Int32) = iI ((4 : Nat) : Int) := by decide +kernel
  have k8 : (8 : Int32) = iI ((8 : Nat) : Int) := by decide +kernel
  have k16 : (16 : Int32) = iI ((16 : Nat) : Int) := by decide +kernel
  have k63 : (63 : Int32) = iI ((63 : Nat) : Int) := by decide +kernel
  have m5 : (1431655765 : Int32) = iI ((1431655765 : Nat) : Int) := by decide +kernel
  have m3 : (858993459 : Int32) = iI ((858993459 : Nat) : Int) := by decide +kernel
  have mf : (252645135 : Int32) = iI ((252645135 : Nat) : Int) := by decide +kernel
  obtain ⟨y, hy⟩ : ∃ y, y = n - (n / 2 ^ 1 &&& 1431655765) := ⟨_, rfl⟩
  obtain ⟨z, hz⟩ : ∃ z, z = (y &&& 858993459) + (y / 2 ^ 2 &&& 858993459) := ⟨_, rfl⟩
  obtain ⟨w, hw⟩ : ∃ w, w = (z + z / 2 ^ 4) &&& 252645135 := ⟨_, rfl⟩
  obtain ⟨v, hv⟩ : ∃ v, v = w + w / 2 ^ 8 := ⟨_, rfl⟩
  obtain ⟨u, hu⟩ : ∃ u, u = (v + v / 2 ^ 16) &&& 63 := ⟨_, rfl⟩
  have by1 : y < 1073741824 := by omega
  have bz : z ≤ 1717986918 := by
    have a1 : y &&& 858993459 ≤ 858993459 := Nat.and_le_right
    have a2 : y / 2 ^ 2 &&& 858993459 ≤ 858993459 := Nat.and_le_right
    omega
  have bw : w ≤ 252645135 := by rw [hw]; exact Nat.and_le_right
  have bv : v < 4294967296 := by omega
  have bu : u ≤ 63 := by rw [hu]; exact Nat.and_le_right
  have s1 : iI (n : Int) - (((iI (n : Int)).toUInt32 >>> ((1 : Int32).toUInt32 &&& Int32.toUInt32 31)).toInt32 &&& 1431655765) = iI (y : Int) := by
    rw [k1, m5, zU_shr 1 (by omega) (by omega), zU_and, zU_sub (Nat.le_trans Nat.and_le_left (Nat.div_le_self _ _)), hy]
  have s2 : (iI (y : Int) &&& 858993459) + (((iI (y : Int)).toUInt32 >>> ((2 : Int32).toUInt32 &&& Int32.toUInt32 31)).toInt32 &&& 858993459) = iI (z : Int) := by
    rw [k2, m3, zU_shr 2 (by omega) (by omega), zU_and, zU_and, zU_add, hz]
  have s3 : (iI (z : Int) + ((iI (z : Int)).toUInt32 >>> ((4 : Int32).toUInt32 &&& Int32.toUInt32 31)).toInt32) &&& 252645135 = iI (w : Int) := by
    rw [k4, mf, zU_shr 4 (by omega) (by omega), zU_add, zU_and, hw]
  have s4 : iI (w : Int) + ((iI (w : Int)).toUInt32 >>> ((8 : Int32).toUInt32 &&& Int32.toUInt32 31)).toInt32 = iI (v : Int) := by
    rw [k8, zU_shr 8 (by omega) (by omega), zU_add, hv]
  have s5 : (iI (v : Int) + ((iI (v : Int)).toUInt32 >>> ((16 : Int32).toUInt32 &&& Int32.toUInt32 31)).toInt32) &&& 63 = iI (u : Int) := by
    rw [k16, k63, zU_shr 16 (by omega) (by omega), zU_add, zU_and, hu]
  have e : zPopR (iI (n : Int)) = iI (u : Int) := by
    unfold zPopR
    rw [s1, s2, s3, s4, s5]
  have eq : zQn n = u := by
    subst hu hv hw hz hy
    rfl
  unfold zPop
  rw [e, iI_toInt ⟨by omega, by omega⟩, eq]
theorem zPop_30 {x : Int} (h0 : 0 ≤ x) (h1 : x < 1073741824) : zPop x = zFd (fun i a => a + x / zP2 i % 2) 30 0 := by
  obtain ⟨n, rfl⟩ : ∃ n : Nat, x = n := ⟨x.toNat, by omega⟩
  rw [zPop_zQ (by omega)]
  obtain ⟨a, ha⟩ : ∃ a, a = n % 256 := ⟨_, rfl⟩
  obtain ⟨b, hb⟩ : ∃ b, b = n / 256 % 256 := ⟨_, rfl⟩
  obtain ⟨c, hc⟩ : ∃ c, c = n / 65536 % 256 := ⟨_, rfl⟩
  obtain ⟨d, hd⟩ : ∃ d, d = n / 16777216 := ⟨_, rfl⟩
  have hn : n = a + 256 * (b + 256 * (c + 256 * d)) := by omega
  have hd2 : d < 64 := by omega
  have e0 : zFd (fun i a => a + (n : Int) / zP2 i % 2) 30 0 = ((((((((((((((((((((((((((((((0 + (n : Int) / 1 % 2) + (n : Int) / 2 % 2) + (n : Int) / 4 % 2) + (n : Int) / 8 % 2) + (n : Int) / 16 % 2) + (n : Int) / 32 % 2) + (n : Int) / 64 % 2) + (n : Int) / 128 % 2) + (n : Int) / 256 % 2) + (n : Int) / 512 % 2) + (n : Int) / 1024 % 2) + (n : Int) / 2048 % 2) + (n : Int) / 4096 % 2) + (n : Int) / 8192 % 2) + (n : Int) / 16384 % 2) + (n : Int) / 32768 % 2) + (n : Int) / 65536 % 2) + (n : Int) / 131072 % 2) + (n : Int) / 262144 % 2) + (n : Int) / 524288 % 2) + (n : Int) / 1048576 % 2) + (n : Int) / 2097152 % 2) + (n : Int) / 4194304 % 2) + (n : Int) / 8388608 % 2) + (n : Int) / 16777216 % 2) + (n : Int) / 33554432 % 2) + (n : Int) / 67108864 % 2) + (n : Int) / 134217728 % 2) + (n : Int) / 268435456 % 2) + (n : Int) / 536870912 % 2) := rfl
  rw [e0]
  have b0 : (n : Int) / 1 % 2 = ((a / 1 % 2 : Nat) : Int) := by omega
  have b1 : (n : Int) / 2 % 2 = ((a / 2 % 2 : Nat) : Int) := by omega
  have b2 : (n : Int) / 4 % 2 = ((a / 4 % 2 : Nat) : Int) := by omega
  have b3 : (n : Int) / 8 % 2 = ((a / 8 % 2 : Nat) : Int) := by omega
  have b4 : (n : Int) / 16 % 2 = ((a / 16 % 2 : Nat) : Int) := by omega
  have b5 : (n : Int) / 32 % 2 = ((a / 32 % 2 : Nat) : Int) := by omega
  have b6 : (n : Int) / 64 % 2 = ((a / 64 % 2 : Nat) : Int) := by omega
  have b7 : (n : Int) / 128 % 2 = ((a / 128 % 2 : Nat) : Int) := by omega
  have b8 : (n : Int) / 256 % 2 = ((b / 1 % 2 : Nat) : Int) := by omega
  have b9 : (n : Int) / 512 % 2 = ((b / 2 % 2 : Nat) : Int) := by omega
  have b10 : (n : Int) / 1024 % 2 = ((b / 4 % 2 : Nat) : Int) := by omega
  have b11 : (n : Int) / 2048 % 2 = ((b / 8 % 2 : Nat) : Int) := by omega
  have b12 : (n : Int) / 4096 % 2 = ((b / 16 % 2 : Nat) : Int) := by omega
  have b13 : (n : Int) / 8192 % 2 = ((b / 32 % 2 : Nat) : Int) := by omega
  have b14 : (n : Int) / 16384 % 2 = ((b / 64 % 2 : Nat) : Int) := by omega
  have b15 : (n : Int) / 32768 % 2 = ((b / 128 % 2 : Nat) : Int) := by omega
  have b16 : (n : Int) / 65536 % 2 = ((c / 1 % 2 : Nat) : Int) := by omega
  have b17 : (n : Int) / 131072 % 2 = ((c / 2 % 2 : Nat) : Int) := by omega
  have b18 : (n : Int) / 262144 % 2 = ((c / 4 % 2 : Nat) : Int) := by omega
  have b19 : (n : Int) / 524288 % 2 = ((c / 8 % 2 : Nat) : Int) := by omega
  have b20 : (n : Int) / 1048576 % 2 = ((c / 16 % 2 : Nat) : Int) := by omega
  have b21 : (n : Int) / 2097152 % 2 = ((c / 32 % 2 : Nat) : Int) := by omega
  have b22 : (n : Int) / 4194304 % 2 = ((c / 64 % 2 : Nat) : Int) := by omega
  have b23 : (n : Int) / 8388608 % 2 = ((c / 128 % 2 : Nat) : Int) := by omega
  have b24 : (n : Int) / 16777216 % 2 = ((d / 1 % 2 : Nat) : Int) := by omega
  have b25 : (n : Int) / 33554432 % 2 = ((d / 2 % 2 : Nat) : Int) := by omega
  have b26 : (n : Int) / 67108864 % 2 = ((d / 4 % 2 : Nat) : Int) := by omega
  have b27 : (n : Int) / 134217728 % 2 = ((d / 8 % 2 : Nat) : Int) := by omega
  have b28 : (n : Int) / 268435456 % 2 = ((d / 16 % 2 : Nat) : Int) := by omega
  have b29 : (n : Int) / 536870912 % 2 = ((d / 32 % 2 : Nat) : Int) := by omega
  rw [b0, b1, b2, b3, b4, b5, b6, b7, b8, b9, b10, b11, b12, b13, b14, b15, b16, b17, b18, b19, b20, b21, b22, b23, b24, b25, b26, b27, b28, b29]
  have e1 : zQn n = zQd a + zQd b + zQd c + zQd d := by
    have h := zQn_e (a := a) (b := b) (c := c) (d := d) (by omega) (by omega) (by omega) (by omega)
    rw [← hn] at h
    exact h
  have qa : zQd a = a % 2 + a / 2 % 2 + a / 4 % 2 + a / 8 % 2 + a / 16 % 2 + a / 32 % 2 + a / 64 % 2 + a / 128 % 2 := (zQ_5 ⟨a, by omega⟩).2
  have qb : zQd b = b % 2 + b / 2 % 2 + b / 4 % 2 + b / 8 % 2 + b / 16 % 2 + b / 32 % 2 + b / 64 % 2 + b / 128 % 2 := (zQ_5 ⟨b, by omega⟩).2
  have qc : zQd c = c % 2 + c / 2 % 2 + c / 4 % 2 + c / 8 % 2 + c / 16 % 2 + c / 32 % 2 + c / 64 % 2 + c / 128 % 2 := (zQ_5 ⟨c, by omega⟩).2
  have qd : zQd d = d % 2 + d / 2 % 2 + d / 4 % 2 + d / 8 % 2 + d / 16 % 2 + d / 32 % 2 + d / 64 % 2 + d / 128 % 2 := (zQ_5 ⟨d, by omega⟩).2
  have d6 : d / 64 % 2 = 0 := by omega
  have d7 : d / 128 % 2 = 0 := by omega
  rw [e1, qa, qb, qc, qd, d6, d7]
  simp only [Nat.div_one, Int.natCast_add, Int.zero_add, Int.add_assoc, Nat.add_zero]
end ZPRT
section ZSG
variable {s : Int → Int}
theorem zSm30 {f : Int → Int} (n : Nat) (h : ∀ r : Int, 0 ≤ r → r < n → 0 ≤ f r ∧ f r ≤ 30) : 0 ≤ zFd (fun r a => a + f r) n 0 ∧ zFd (fun r a => a + f r) n 0 ≤ 30 * n :=
  zFd_I (f := fun r a => a + f r) (a := (0 : Int)) (fun i x => 0 ≤ x ∧ x ≤ 30 * i) ⟨by omega, by omega⟩ n (fun i x i0 i1 hx => by
    have := h i i0 i1
    show 0 ≤ x + f i ∧ x + f i ≤ 30 * (i + 1)
    omega)
theorem zPop_r {x : Int} (h0 : 0 ≤ x) (h1 : x < 1073741824) : 0 ≤ zPop x ∧ zPop x ≤ 30 := by
  rw [zPop_30 h0 h1]
  exact zFd_I (f := fun i a => a + x / zP2 i % 2) (a := (0 : Int)) (fun i x => 0 ≤ x ∧ x ≤ i) ⟨by omega, by omega⟩ 30 (fun i y i0 i1 hx => by
    show 0 ≤ y + x / zP2 i % 2 ∧ y + x / zP2 i % 2 ≤ i + 1
    omega)
theorem zPs_30 (hW : zWf s) {r : Int} (h0 : 0 ≤ r) (h1 : r < s 0) : 0 ≤ zPs s r ∧ zPs s r ≤ 30 := by
  have hr := (hW.row h0 h1).1
  have h := zFd_I (f := fun i a => if zPl s r i = true then a + 1 else a) (a := (0 : Int)) (fun i x => 0 ≤ x ∧ x ≤ i) ⟨by omega, by omega⟩ (zf s r 0).toNat (fun i y i0 i1 hx => by
    show 0 ≤ (if zPl s r i = true then y + 1 else y) ∧ (if zPl s r i = true then y + 1 else y) ≤ i + 1
    split <;> omega)
  have e : zPs s r = zFd (fun i a => if zPl s r i = true then a + 1 else a) (zf s r 0).toNat 0 := rfl
  rw [← e] at h
  omega
noncomputable def zOutN (s : Int → Int) : Int := zFd (fun r a => a + zf s r 2) (s 0).toNat 0
noncomputable def zCvN (s : Int → Int) : Int := zFd (fun r a => a + zPop (zf s r 3)) (s 0).toNat 0
noncomputable def zStg (s : Int → Int) (a : Int) : Int := if a = 4 then zWords s else if a = 5 then zPsA s else if a = 6 then zOutN s else if a = 7 then zCvN s else if a = 8 then s 4 else if a = 9 then zCh s else s a
theorem b_allCovered {V : CV} (hW : zWf s) (hR : zRB V s) : fX0_allCovered V = some (zCvN s) := by
  apply zok_q
  unfold fX0_allCovered
  have w0 := hW.1
  rw [hR.2.2.2.1]
  refine zok_F (mk := fun a i => (a, i)) (s 0) (fun i a => a = zFd (fun r a => a + zPop (zf s r 3)) i.toNat 0) rfl (by omega) rfl (fun i a hi hi2 hI => ?_) (fun i a hi hi2 hi3 hi4 hI => ?_)
  · dsimp only
    (repeat (first | (with_reducible refine zok_g ?_ ?_; focus omega) | with_reducible refine zok_j ?_ | (with_reducible refine zok_t ?_ ?_; focus omega) | (with_reducible refine zok_f ?_ ?_; focus omega)))
    refine zok_sl ⟨_, rfl, ?_⟩
    rw [zFd_s hi, hI, (hR.row hi hi2).2.2.2.1]
  · dsimp only
    (repeat (first | (with_reducible refine zok_g ?_ ?_; focus omega) | with_reducible refine zok_j ?_ | (with_reducible refine zok_t ?_ ?_; focus omega) | (with_reducible refine zok_f ?_ ?_; focus omega)))
    refine zok_sr (zok_s ?_)
    rw [hI, hi3 (by omega)]
    rfl
theorem zStg_r (hW : zWf s) {a : Int} (h0 : 0 ≤ a) (h1 : a ≤ 9) : 0 ≤ zStg s a ∧ zStg s a ≤ 4096 := by
  have w0 := hW.1
  have w1 := hW.2.1
  have w2 := hW.2.2.1
  have w3 := hW.2.2.2.1
  have w4 := hW.2.2.2.2.1
  have hw := zWords_r hW
  have hc := zCh_r hW
  have p1 : 0 ≤ zPsA s ∧ zPsA s ≤ 30 * ((s 0).toNat : Int) := zSm30 (f := zPs s) (s 0).toNat (fun r r0 r1 => zPs_30 hW r0 (by omega))
  have p2 : 0 ≤ zOutN s ∧ zOutN s ≤ 30 * ((s 0).toNat : Int) := zSm30 (f := fun r => zf s r 2) (s 0).toNat (fun r r0 r1 => by
    have := (hW.row r0 (show r < s 0 by omega)).2.2.1
    show 0 ≤ zf s r 2 ∧ zf s r 2 ≤ 30
    omega)
  have p3 : 0 ≤ zCvN s ∧ zCvN s ≤ 30 * ((s 0).toNat : Int) := zSm30 (f := fun r => zPop (zf s r 3)) (s 0).toNat (fun r r0 r1 => by
    have := (hW.row r0 (show r < s 0 by omega)).2.2.2.1
    exact zPop_r this.1 this.2)
  unfold zStg
  by_cases c4 : a = 4
  · rw [if_pos c4]; omega
  rw [if_neg c4]
  by_cases c5 : a = 5
  · rw [if_pos c5]; omega
  rw [if_neg c5]
  by_cases c6 : a = 6
  · rw [if_pos c6]; omega
  rw [if_neg c6]
  by_cases c7 : a = 7
  · rw [if_pos c7]; omega
  rw [if_neg c7]
  by_cases c8 : a = 8
  · rw [if_pos c8]; omega
  rw [if_neg c8]
  by_cases c9 : a = 9
  · rw [if_pos c9]; omega
  rw [if_neg c9]
  have : a = 0 ∨ a = 1 ∨ a = 2 ∨ a = 3 := by omega
  rcases this with e | e | e | e <;> subst e <;> omega
theorem m_setting {m : CV} (hs : m.2 2 = s) (hW : zWf s) {a : Int} (h0 : 0 ≤ a) (h1 : a ≤ 9) : fX8_setting m a = some (zPu m 0 0, zStg s a) := by
  apply zok_q
  unfold fX8_setting
  have w0 := hW.1
  (repeat (first | (with_reducible refine zok_g ?_ ?_; focus omega) | with_reducible refine zok_j ?_ | (with_reducible refine zok_t ?_ ?_; focus omega) | (with_reducible refine zok_f ?_ ?_; focus omega)))
  have hin := m_isIn (a := a) (lo := 0) (hi := 9) ⟨by omega, by omega⟩ (by decide) (by decide)
  rw [decide_eq_true ⟨h0, h1⟩] at hin
  refine zok_e hin ?_
  refine zok_e m_go1 ?_
  refine zok_t rfl ?_
  dsimp only
  have e2 : (zPu m 0 0).2 2 = s := hs
  rw [e2]
  refine zok_F (β := Int × Int × Int × Int) (mk := fun a i => (a.1, a.2.1, a.2.2.1, a.2.2.2, i)) (s 0) (fun i a => a.1 = zFd (fun r a => a + zPs s r) i.toNat 0 ∧ a.2.1 = zFd (fun r a => a + zf s r 2) i.toNat 0 ∧ a.2.2.1 = zFd (fun r a => a + zPop (zf s r 3)) i.toNat 0 ∧ a.2.2.2 = zFd (fun r a => if zf s r 1 = -1 then a else a + 1) i.toNat 0) (a0 := (0, 0, 0, 0)) rfl (by omega) ⟨rfl, rfl, rfl, rfl⟩ (fun i x hi hi2 hI => ?_) (fun i x hi hi2 hi3 hi4 hI => ?_)
  · dsimp only
    (repeat (first | (with_reducible refine zok_g ?_ ?_; focus omega) | with_reducible refine zok_j ?_ | (with_reducible refine zok_t ?_ ?_; focus omega) | (with_reducible refine zok_f ?_ ?_; focus omega)))
    have hr := hW.row hi hi2
    have hr3 := hr.2.2.2.1
    have hr1 := hr.2.1
    refine zok_e (m_placesOf e2 hW hi hi2) ?_
    refine zok_e (m_of e2 (by omega) (by omega)) ?_
    refine zok_e (m_of e2 (by omega) (by omega)) ?_
    refine zok_e (m_ones ⟨by omega, by omega⟩) ?_
    refine zok_e (m_of e2 (by omega) (by omega)) ?_
    refine zok_jP (fun x => x = if zf s i 1 = -1 then 0 else 1) (fun k hk => ?_) (fun K hK => ?_)
    · have ht : fX8_truth k = some k := by
        rw [hk]
        by_cases c : zf s i 1 = -1
        · rw [if_pos c]; exact m_truth (by decide)
        · rw [if_neg c]; exact m_truth (by decide)
      refine zok_e ht (zok_sl ⟨(x.1 + zPs s i, x.2.1 + zf s i 2, x.2.2.1 + zPop (zf s i 3), x.2.2.2 + k), ?_, ?_⟩)
      · rw [zPop_30 hr3.1 hr3.2]
      · dsimp only
        rw [zFd_s hi, zFd_s hi, zFd_s hi, zFd_s hi, hI.1, hI.2.1, hI.2.2.1, hI.2.2.2, hk]
        refine ⟨rfl, rfl, rfl, ?_⟩
        by_cases c : zf s i 1 = -1
        · rw [if_pos c, if_pos c]; exact Int.add_zero _
        · rw [if_neg c, if_neg c]
    · (repeat (first | (with_reducible refine zok_g ?_ ?_; focus omega) | with_reducible refine zok_j ?_ | (with_reducible refine zok_t ?_ ?_; focus omega) | (with_reducible refine zok_f ?_ ?_; focus omega)))
      refine zok_i (fun hp => hK _ ?_) (fun hp => hK _ ?_)
      · rw [if_pos hp]
      · rw [if_neg hp]
  · dsimp only
    (repeat (first | (with_reducible refine zok_g ?_ ?_; focus omega) | with_reducible refine zok_j ?_ | (with_reducible refine zok_t ?_ ?_; focus omega) | (with_reducible refine zok_f ?_ ?_; focus omega)))
    have hz := hi3 (by omega)
    subst hz
    have g1 : x.1 = zPsA s := hI.1
    have g2 : x.2.1 = zOutN s := hI.2.1
    have g3 : x.2.2.1 = zCvN s := hI.2.2.1
    have g4 : x.2.2.2 = zCh s := hI.2.2.2
    rw [g1, g2, g3, g4]
    refine zok_sr ?_
    unfold zStg
    refine zok_i (fun c => ?_) (fun c => ?_)
    · rw [if_pos c]
      exact zok_e (m_words e2 hW) (zok_s rfl)
    rw [if_neg c]
    refine zok_i (fun c => ?_) (fun c => ?_)
    · rw [if_pos c]; exact zok_s rfl
    rw [if_neg c]
    refine zok_i (fun c => ?_) (fun c => ?_)
    · rw [if_pos c]; exact zok_s rfl
    rw [if_neg c]
    refine zok_i (fun c => ?_) (fun c => ?_)
    · rw [if_pos c]; exact zok_s rfl
    rw [if_neg c]
    refine zok_i (fun c => ?_) (fun c => ?_)
    · rw [if_pos c]; exact zok_s rfl
    rw [if_neg c]
    refine zok_i (fun c => ?_) (fun c => ?_)
    · rw [if_pos c]; exact zok_s rfl
    rw [if_neg c]
    (repeat (first | (with_reducible refine zok_g ?_ ?_; focus omega) | with_reducible refine zok_j ?_ | (with_reducible refine zok_t ?_ ?_; focus omega) | (with_reducible refine zok_f ?_ ?_; focus omega)))
    exact zok_s rfl
theorem s_setting {σ : CS} {m : CV} (h : zRR σ m) {a : Int} (ha : iR a) : zCp σ [zIA] (fX7_setting σ a) (fX8_setting m a) := by
  have hW := h.W
  have hB := h.B
  unfold zCp
  by_cases c : 0 ≤ a ∧ a ≤ 9
  · have hm := m_setting (m := m) rfl hW c.1 c.2
    have hr := zStg_r hW c.1 c.2
    have key : fX7_setting σ a = some (.inl (zStg (m.2 2) a)) := by
      apply zok_q
      unfold fX7_setting zStg
      (repeat (first | (with_reducible refine zok_g ?_ ?_; focus omega) | with_reducible refine zok_j ?_ | (with_reducible refine zok_t ?_ ?_; focus omega) | (with_reducible refine zok_f ?_ ?_; focus omega)))
      have : a = 0 ∨ a = 1 ∨ a = 2 ∨ a = 3 ∨ a = 4 ∨ a = 5 ∨ a = 6 ∨ a = 7 ∨ a = 8 ∨ a = 9 := by omega
      rcases this with e | e | e | e | e | e | e | e | e | e <;> subst e
      · refine zok_t rfl (zok_s ?_)
        rw [if_neg (by decide), if_neg (by decide), if_neg (by decide), if_neg (by decide), if_neg (by decide), if_neg (by decide), hB.2.2.2.1]
      · refine zok_f (by decide) (zok_t rfl (zok_s ?_))
        rw [if_neg (by decide), if_neg (by decide), if_neg (by decide), if_neg (by decide), if_neg (by decide), if_neg (by decide), hB.1]
      · refine zok_f (by decide) (zok_f (by decide) (zok_t rfl (zok_s ?_)))
        rw [if_neg (by decide), if_neg (by decide), if_neg (by decide), if_neg (by decide), if_neg (by decide), if_neg (by decide), hB.2.1]
      · refine zok_f (by decide) (zok_f (by decide) (zok_f (by decide) (zok_t rfl (zok_s ?_))))
        rw [if_neg (by decide), if_neg (by decide), if_neg (by decide), if_neg (by decide), if_neg (by decide), if_neg (by decide), hB.2.2.1]
      · refine zok_f (by decide) (zok_f (by decide) (zok_f (by decide) (zok_f (by decide) (zok_t rfl (zok_e (b_wordCount hW hB) (zok_s ?_))))))
        rw [if_pos (by decide)]
      · refine zok_f (by decide) (zok_f (by decide) (zok_f (by decide) (zok_f (by decide) (zok_f (by decide) (zok_t rfl (zok_e (b_allPlaces hW hB) (zok_s ?_)))))))
        rw [if_neg (by decide), if_pos (by decide)]
      · refine zok_f (by decide) (zok_f (by decide) (zok_f (by decide) (zok_f (by decide) (zok_f (by decide) (zok_f (by decide) (zok_t rfl (zok_s ?_)))))))
        rw [if_neg (by decide), if_neg (by decide), if_pos (by decide), zPop_out hW hB]
        rfl
      · refine zok_f (by decide) (zok_f (by decide) (zok_f (by decide) (zok_f (by decide) (zok_f (by decide) (zok_f (by decide) (zok_f (by decide) (zok_t rfl (zok_e (b_allCovered hW hB) (zok_s ?_)))))))))
        rw [if_neg (by decide), if_neg (by decide), if_neg (by decide), if_pos (by decide)]
      · refine zok_f (by decide) (zok_f (by decide) (zok_f (by decide) (zok_f (by decide) (zok_f (by decide) (zok_f (by decide) (zok_f (by decide) (zok_f (by decide) (zok_t rfl (zok_s ?_)))))))))
        rw [if_neg (by decide), if_neg (by decide), if_neg (by decide), if_neg (by decide), if_pos (by decide), hB.2.2.2.2.1]
      · refine zok_f (by decide) (zok_f (by decide) (zok_f (by decide) (zok_f (by decide) (zok_f (by decide) (zok_f (by decide) (zok_f (by decide) (zok_f (by decide) (zok_f (by decide) (zok_t rfl (zok_e (b_chosenRows hW hB) (zok_s ?_)))))))))))
        rw [if_neg (by decide), if_neg (by decide), if_neg (by decide), if_neg (by decide), if_neg (by decide), if_pos (by decide)]
    exact zok_v key (zok_v hm ⟨zRR_0 h, zAn_v rfl rfl ⟨by omega, by omega⟩⟩)
  · have key : fX7_setting σ a = some (.inr zIA) := by
      apply zok_q
      unfold fX7_setting
      (repeat (first | (with_reducible refine zok_g ?_ ?_; focus omega) | with_reducible refine zok_j ?_ | (with_reducible refine zok_t ?_ ?_; focus omega) | (with_reducible refine zok_f ?_ ?_; focus omega)))
      exact zok_s rfl
    refine zok_v key ?_
    unfold fX8_setting
    (repeat (first | (with_reducible refine zok_g ?_ ?_; focus omega) | with_reducible refine zok_j ?_ | (with_reducible refine zok_t ?_ ?_; focus omega) | (with_reducible refine zok_f ?_ ?_; focus omega)))
    have hin := m_isIn (a := a) (lo := 0) (hi := 9) ⟨by omega, by omega⟩ (by decide) (by decide)
    rw [decide_eq_false c] at hin
    refine zok_e hin ?_
    refine zok_e m_go0 ?_
    refine zok_f Bool.false_ne_true ?_
    exact zok_s ⟨zRR_0 h, zAn_e 0 rfl rfl⟩
end ZSG
