section ZPQ
theorem zQ_and {a X m M : Nat} (ha : a < 256) (hm : m < 256) : (a + 256 * X) &&& (m + 256 * M) = (a &&& m) + 256 * (X &&& M) := by
  have h1 := Nat.and_div_two_pow (a := a + 256 * X) (b := m + 256 * M) (n := 8)
  have h2 := Nat.and_mod_two_pow (a := a + 256 * X) (b := m + 256 * M) (n := 8)
  have e : (2 : Nat) ^ 8 = 256 := rfl
  rw [e] at h1 h2
  rw [show (a + 256 * X) / 256 = X by omega, show (m + 256 * M) / 256 = M by omega] at h1
  rw [show (a + 256 * X) % 256 = a by omega, show (m + 256 * M) % 256 = m by omega] at h2
  omega
def zQa (a : Nat) : Nat := a - ((a / 2) &&& 85)
def zQb (a : Nat) : Nat := (zQa a &&& 51) + ((zQa a / 4) &&& 51)
def zQd (a : Nat) : Nat := (zQb a + zQb a / 16) &&& 15
theorem zQ_1 : ∀ a : Fin 256, ∀ t : Fin 2, ((a.val / 2 + 128 * t.val) &&& 85) = ((a.val / 2) &&& 85) := by decide +kernel
theorem zQ_2 : ∀ a : Fin 256, ((a.val / 2) &&& 85) ≤ a.val ∧ zQa a.val < 256 := by decide +kernel
theorem zQ_3 : ∀ a : Fin 256, ∀ t : Fin 4, ((zQa a.val / 4 + 64 * t.val) &&& 51) = ((zQa a.val / 4) &&& 51) := by decide +kernel
theorem zQ_4 : ∀ a : Fin 256, zQb a.val % 16 ≤ 4 ∧ zQb a.val / 16 ≤ 4 := by decide +kernel
theorem zQ_5 : ∀ a : Fin 256, zQd a.val ≤ 8 ∧ zQd a.val = a.val % 2 + a.val / 2 % 2 + a.val / 4 % 2 + a.val / 8 % 2 + a.val / 16 % 2 + a.val / 32 % 2 + a.val / 64 % 2 + a.val / 128 % 2 := by decide +kernel
theorem zQ_6 : ∀ b : Fin 69, ∀ t : Fin 5, ((b.val + b.val / 16 + 16 * t.val) &&& 15) = ((b.val + b.val / 16) &&& 15) := by decide +kernel
/-- the first step, byte for byte -/
theorem zQ_s1 {a X M : Nat} (ha : a < 256) (hX : X / 2 &&& M ≤ X) : (a + 256 * X) - ((a + 256 * X) / 2 &&& (85 + 256 * M)) = zQa a + 256 * (X - (X / 2 &&& M)) := by
  have h1 := zQ_1 ⟨a, ha⟩ ⟨X % 2, by omega⟩
  have h2 := zQ_2 ⟨a, ha⟩
  have e : (a + 256 * X) / 2 = (a / 2 + 128 * (X % 2)) + 256 * (X / 2) := by omega
  rw [e, zQ_and (by omega) (by omega)]
  have h1' : ((a / 2 + 128 * (X % 2)) &&& 85) = ((a / 2) &&& 85) := h1
  have h2' : ((a / 2) &&& 85) ≤ a := h2.1
  rw [h1']
  unfold zQa
  omega
theorem zQ_s2 {a Y M : Nat} (ha : a < 256) : ((zQa a + 256 * Y) &&& (51 + 256 * M)) + ((zQa a + 256 * Y) / 4 &&& (51 + 256 * M)) = zQb a + 256 * ((Y &&& M) + (Y / 4 &&& M)) := by
  have h2 : zQa a < 256 := (zQ_2 ⟨a, ha⟩).2
  have h3 : ((zQa a / 4 + 64 * (Y % 4)) &&& 51) = ((zQa a / 4) &&& 51) := zQ_3 ⟨a, ha⟩ ⟨Y % 4, by omega⟩
  have e : (zQa a + 256 * Y) / 4 = (zQa a / 4 + 64 * (Y % 4)) + 256 * (Y / 4) := by omega
  rw [e, zQ_and h2 (by omega), zQ_and (by omega) (by omega), h3]
  unfold zQb
  omega
theorem zQ_s3 {a Z M : Nat} (ha : a < 256) (hZ : Z % 16 ≤ 4) : ((zQb a + 256 * Z) + (zQb a + 256 * Z) / 16) &&& (15 + 256 * M) = zQd a + 256 * ((Z + Z / 16) &&& M) := by
  have h4 := zQ_4 ⟨a, ha⟩
  have h4' : zQb a % 16 ≤ 4 ∧ zQb a / 16 ≤ 4 := h4
  have h6 : ((zQb a + zQb a / 16 + 16 * (Z % 16)) &&& 15) = ((zQb a + zQb a / 16) &&& 15) := zQ_6 ⟨zQb a, by omega⟩ ⟨Z % 16, by omega⟩
  have e : (zQb a + 256 * Z) + (zQb a + 256 * Z) / 16 = (zQb a + zQb a / 16 + 16 * (Z % 16)) + 256 * (Z + Z / 16) := by omega
  rw [e, zQ_and (by omega) (by omega), h6]
  rfl
def zQn (x : Nat) : Nat :=
  let y := x - (x / 2 &&& 1431655765)
  let z := (y &&& 858993459) + (y / 4 &&& 858993459)
  let w := (z + z / 16) &&& 252645135
  let v := w + w / 256
  (v + v / 65536) &&& 63
theorem zQn_e {a b c d : Nat} (ha : a < 256) (hb : b < 256) (hc : c < 256) (hd : d < 256) : zQn (a + 256 * (b + 256 * (c + 256 * d))) = zQd a + zQd b + zQd c + zQd d := by
  have le : ∀ x M : Nat, x / 2 &&& M ≤ x := fun x M => Nat.le_trans Nat.and_le_left (Nat.div_le_self x 2)
  have y : (a + 256 * (b + 256 * (c + 256 * d))) - ((a + 256 * (b + 256 * (c + 256 * d))) / 2 &&& 1431655765) = zQa a + 256 * (zQa b + 256 * (zQa c + 256 * zQa d)) := by
    rw [show (1431655765 : Nat) = 85 + 256 * (85 + 256 * (85 + 256 * 85)) from rfl, zQ_s1 ha (le _ _), zQ_s1 hb (le _ _), zQ_s1 hc (le _ _)]
    rfl
  have z : ((zQa a + 256 * (zQa b + 256 * (zQa c + 256 * zQa d))) &&& 858993459) + ((zQa a + 256 * (zQa b + 256 * (zQa c + 256 * zQa d))) / 4 &&& 858993459) = zQb a + 256 * (zQb b + 256 * (zQb c + 256 * zQb d)) := by
    rw [show (858993459 : Nat) = 51 + 256 * (51 + 256 * (51 + 256 * 51)) from rfl, zQ_s2 ha, zQ_s2 hb, zQ_s2 hc]
    rfl
  have qa : zQb a % 16 ≤ 4 ∧ zQb a / 16 ≤ 4 := zQ_4 ⟨a, ha⟩
  have qb : zQb b % 16 ≤ 4 ∧ zQb b / 16 ≤ 4 := zQ_4 ⟨b, hb⟩
  have qc : zQb c % 16 ≤ 4 ∧ zQb c / 16 ≤ 4 := zQ_4 ⟨c, hc⟩
  have qd : zQb d % 16 ≤ 4 ∧ zQb d / 16 ≤ 4 := zQ_4 ⟨d, hd⟩
  have w : ((zQb a + 256 * (zQb b + 256 * (zQb c + 256 * zQb d))) + (zQb a + 256 * (zQb b + 256 * (zQb c + 256 * zQb d))) / 16) &&& 252645135 = zQd a + 256 * (zQd b + 256 * (zQd c + 256 * zQd d)) := by
    rw [show (252645135 : Nat) = 15 + 256 * (15 + 256 * (15 + 256 * 15)) from rfl, zQ_s3 ha (by omega), zQ_s3 hb (by omega), zQ_s3 hc (by omega)]
    rfl
  have ra : zQd a ≤ 8 := (zQ_5 ⟨a, ha⟩).1
  have rb : zQd b ≤ 8 := (zQ_5 ⟨b, hb⟩).1
  have rc : zQd c ≤ 8 := (zQ_5 ⟨c, hc⟩).1
  have rd : zQd d ≤ 8 := (zQ_5 ⟨d, hd⟩).1
  unfold zQn
  dsimp only
  rw [y, z, w]
  rw [show (63 : Nat) = 2 ^ 6 - 1 from rfl, Nat.and_two_pow_sub_one_eq_mod]
  clear y z w qa qb qc qd le
  generalize zQd a = A at *
  generalize zQd b = B at *
  generalize zQd c = C at *
  generalize zQd d = D at *
  have q1 : (A + 256 * (B + 256 * (C + 256 * D))) / 256 = B + 256 * (C + 256 * D) := by omega
  rw [q1]
  have q2 : (A + 256 * (B + 256 * (C + 256 * D)) + (B + 256 * (C + 256 * D))) / 65536 = (C + D) + 256 * D := by omega
  rw [q2]
  rw [show (2 : Nat) ^ 6 = 64 from rfl]
  omega
end ZPQ
