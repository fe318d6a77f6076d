theorem zc1 {w : Cond} (j : Nat) (g : goodWord w = true) (hj : tables_1_1[j]? = some w) : w ∈ zW := zW_in (List.mem_append_right _ (have h := List.mem_of_getElem? hj; (List.mem_append_left _ h : w ∈ tables_1))) g
theorem zc2 {w : Cond} (j : Nat) (g : goodWord w = true) (hj : tables_1_2[j]? = some w) : w ∈ zW := zW_in (List.mem_append_right _ (have h := List.mem_of_getElem? hj; (List.mem_append_right _ (List.mem_append_left _ h) : w ∈ tables_1))) g
theorem zc3 {w : Cond} (j : Nat) (g : goodWord w = true) (hj : tables_1_3[j]? = some w) : w ∈ zW := zW_in (List.mem_append_right _ (have h := List.mem_of_getElem? hj; (List.mem_append_right _ (List.mem_append_right _ (List.mem_append_left _ h)) : w ∈ tables_1))) g
theorem zc4 {w : Cond} (j : Nat) (g : goodWord w = true) (hj : tables_1_4[j]? = some w) : w ∈ zW := zW_in (List.mem_append_right _ (have h := List.mem_of_getElem? hj; (List.mem_append_right _ (List.mem_append_right _ (List.mem_append_right _ (List.mem_append_left _ h))) : w ∈ tables_1))) g
theorem zc5 {w : Cond} (j : Nat) (g : goodWord w = true) (hj : tables_1_5[j]? = some w) : w ∈ zW := zW_in (List.mem_append_right _ (have h := List.mem_of_getElem? hj; (List.mem_append_right _ (List.mem_append_right _ (List.mem_append_right _ (List.mem_append_right _ (List.mem_append_left _ h)))) : w ∈ tables_1))) g
theorem zc6 {w : Cond} (j : Nat) (g : goodWord w = true) (hj : tables_1_6[j]? = some w) : w ∈ zW := zW_in (List.mem_append_right _ (have h := List.mem_of_getElem? hj; (List.mem_append_right _ (List.mem_append_right _ (List.mem_append_right _ (List.mem_append_right _ (List.mem_append_right _ (List.mem_append_left _ h))))) : w ∈ tables_1))) g
theorem zc7 {w : Cond} (j : Nat) (g : goodWord w = true) (hj : tables_1_7[j]? = some w) : w ∈ zW := zW_in (List.mem_append_right _ (have h := List.mem_of_getElem? hj; (List.mem_append_right _ (List.mem_append_right _ (List.mem_append_right _ (List.mem_append_right _ (List.mem_append_right _ (List.mem_append_right _ (List.mem_append_left _ h)))))) : w ∈ tables_1))) g
theorem zc8 {w : Cond} (j : Nat) (g : goodWord w = true) (hj : tables_1_8[j]? = some w) : w ∈ zW := zW_in (List.mem_append_right _ (have h := List.mem_of_getElem? hj; (List.mem_append_right _ (List.mem_append_right _ (List.mem_append_right _ (List.mem_append_right _ (List.mem_append_right _ (List.mem_append_right _ (List.mem_append_right _ (List.mem_append_left _ h))))))) : w ∈ tables_1))) g
theorem zc9 {w : Cond} (j : Nat) (g : goodWord w = true) (hj : tables_1_9[j]? = some w) : w ∈ zW := zW_in (List.mem_append_right _ (have h := List.mem_of_getElem? hj; (List.mem_append_right _ (List.mem_append_right _ (List.mem_append_right _ (List.mem_append_right _ (List.mem_append_right _ (List.mem_append_right _ (List.mem_append_right _ (List.mem_append_right _ h))))))) : w ∈ tables_1))) g
theorem zcp {w : Cond} (j : Nat) (g : goodWord w = true) (hj : (k2_sels lw_privs)[j]? = some w) : w ∈ zW := zW_in (List.mem_append_left _ (List.mem_of_getElem? hj)) g
theorem izX0 : ∀ w ∈ wsX00, w ∈ zW := by
  intro w hw
  obtain ⟨j, hj, rfl⟩ := List.mem_map.mp hw
  have hj := List.mem_range.mp hj
  match j, hj with
  | 0, _ => exact zc1 156 (by decide +kernel) (by decide +kernel)
  | 1, _ => exact zc1 158 (by decide +kernel) (by decide +kernel)
  | 2, _ => exact zc1 160 (by decide +kernel) (by decide +kernel)
  | 3, _ => exact zc1 162 (by decide +kernel) (by decide +kernel)
  | 4, _ => exact zc1 164 (by decide +kernel) (by decide +kernel)
  | 5, _ => exact zc1 166 (by decide +kernel) (by decide +kernel)
  | 6, _ => exact zc1 168 (by decide +kernel) (by decide +kernel)
  | 7, _ => exact zc1 170 (by decide +kernel) (by decide +kernel)
  | 8, _ => exact zc1 172 (by decide +kernel) (by decide +kernel)
  | 9, _ => exact zc1 174 (by decide +kernel) (by decide +kernel)
  | 10, _ => exact zc1 176 (by decide +kernel) (by decide +kernel)
  | 11, _ => exact zc1 178 (by decide +kernel) (by decide +kernel)
  | j + 12, h => exact absurd h (by omega)
theorem izX1 : ∀ w ∈ wsX10, w ∈ zW := by
  intro w hw
  obtain ⟨j, hj, rfl⟩ := List.mem_map.mp hw
  have hj := List.mem_range.mp hj
  match j, hj with
  | 0, _ => exact zc2 2 (by decide +kernel) (by decide +kernel)
  | 1, _ => exact zc2 4 (by decide +kernel) (by decide +kernel)
  | 2, _ => exact zc2 6 (by decide +kernel) (by decide +kernel)
  | j + 3, h => exact absurd h (by omega)
theorem izX2 : ∀ w ∈ wsX20, w ∈ zW := by
  intro w hw
  obtain ⟨j, hj, rfl⟩ := List.mem_map.mp hw
  have hj := List.mem_range.mp hj
  match j, hj with
  | 0, _ => exact zc1 96 (by decide +kernel) (by decide +kernel)
  | 1, _ => exact zc1 98 (by decide +kernel) (by decide +kernel)
  | 2, _ => exact zc1 100 (by decide +kernel) (by decide +kernel)
  | 3, _ => exact zc1 102 (by decide +kernel) (by decide +kernel)
  | 4, _ => exact zc1 104 (by decide +kernel) (by decide +kernel)
  | 5, _ => exact zc1 106 (by decide +kernel) (by decide +kernel)
  | 6, _ => exact zc1 108 (by decide +kernel) (by decide +kernel)
  | j + 7, h => exact absurd h (by omega)
theorem izX3 : ∀ w ∈ wsX30, w ∈ zW := by
  intro w hw
  obtain ⟨j, hj, rfl⟩ := List.mem_map.mp hw
  have hj := List.mem_range.mp hj
  match j, hj with
  | 0, _ => exact zc1 206 (by decide +kernel) (by decide +kernel)
  | 1, _ => exact zc1 208 (by decide +kernel) (by decide +kernel)
  | 2, _ => exact zc1 210 (by decide +kernel) (by decide +kernel)
  | 3, _ => exact zc1 212 (by decide +kernel) (by decide +kernel)
  | 4, _ => exact zc1 214 (by decide +kernel) (by decide +kernel)
  | 5, _ => exact zc1 216 (by decide +kernel) (by decide +kernel)
  | 6, _ => exact zc1 218 (by decide +kernel) (by decide +kernel)
  | 7, _ => exact zc1 220 (by decide +kernel) (by decide +kernel)
  | 8, _ => exact zc1 222 (by decide +kernel) (by decide +kernel)
  | 9, _ => exact zc1 224 (by decide +kernel) (by decide +kernel)
  | 10, _ => exact zc1 226 (by decide +kernel) (by decide +kernel)
  | 11, _ => exact zc1 228 (by decide +kernel) (by decide +kernel)
  | 12, _ => exact zc1 230 (by decide +kernel) (by decide +kernel)
  | j + 13, h => exact absurd h (by omega)
theorem izX4 : ∀ w ∈ wsX40, w ∈ zW := by
  intro w hw
  obtain ⟨j, hj, rfl⟩ := List.mem_map.mp hw
  have hj := List.mem_range.mp hj
  match j, hj with
  | 0, _ => exact zc2 17 (by decide +kernel) (by decide +kernel)
  | 1, _ => exact zc2 19 (by decide +kernel) (by decide +kernel)
  | j + 2, h => exact absurd h (by omega)
theorem izX5 : ∀ w ∈ wsX50, w ∈ zW := by
  intro w hw
  obtain ⟨j, hj, rfl⟩ := List.mem_map.mp hw
  have hj := List.mem_range.mp hj
  match j, hj with
  | 0, _ => exact zc1 76 (by decide +kernel) (by decide +kernel)
  | j + 1, h => exact absurd h (by omega)
theorem izX6 : ∀ w ∈ wsX60, w ∈ zW := by
  intro w hw
  obtain ⟨j, hj, rfl⟩ := List.mem_map.mp hw
  have hj := List.mem_range.mp hj
  match j, hj with
  | 0, _ => exact zc1 51 (by decide +kernel) (by decide +kernel)
  | 1, _ => exact zc1 53 (by decide +kernel) (by decide +kernel)
  | 2, _ => exact zc1 55 (by decide +kernel) (by decide +kernel)
  | 3, _ => exact zc1 57 (by decide +kernel) (by decide +kernel)
  | 4, _ => exact zc1 59 (by decide +kernel) (by decide +kernel)
  | 5, _ => exact zc1 61 (by decide +kernel) (by decide +kernel)
  | 6, _ => exact zc1 63 (by decide +kernel) (by decide +kernel)
  | 7, _ => exact zc1 65 (by decide +kernel) (by decide +kernel)
  | j + 8, h => exact absurd h (by omega)
theorem izX7 : ∀ w ∈ wsX70, w ∈ zW := by
  intro w hw
  obtain ⟨j, hj, rfl⟩ := List.mem_map.mp hw
  have hj := List.mem_range.mp hj
  match j, hj with
  | 0, _ => exact zc2 38 (by decide +kernel) (by decide +kernel)
  | 1, _ => exact zc2 40 (by decide +kernel) (by decide +kernel)
  | 2, _ => exact zc2 42 (by decide +kernel) (by decide +kernel)
  | 3, _ => exact zc2 44 (by decide +kernel) (by decide +kernel)
  | 4, _ => exact zc2 46 (by decide +kernel) (by decide +kernel)
  | 5, _ => exact zc2 48 (by decide +kernel) (by decide +kernel)
  | 6, _ => exact zc2 50 (by decide +kernel) (by decide +kernel)
  | 7, _ => exact zc2 52 (by decide +kernel) (by decide +kernel)
  | 8, _ => exact zc2 54 (by decide +kernel) (by decide +kernel)
  | 9, _ => exact zc2 56 (by decide +kernel) (by decide +kernel)
  | 10, _ => exact zc2 58 (by decide +kernel) (by decide +kernel)
  | 11, _ => exact zc2 60 (by decide +kernel) (by decide +kernel)
  | 12, _ => exact zc2 62 (by decide +kernel) (by decide +kernel)
  | 13, _ => exact zc2 64 (by decide +kernel) (by decide +kernel)
  | 14, _ => exact zc2 66 (by decide +kernel) (by decide +kernel)
  | 15, _ => exact zc2 68 (by decide +kernel) (by decide +kernel)
  | j + 16, h => exact absurd h (by omega)
theorem izX8 : ∀ w ∈ wsX80, w ∈ zW := by
  intro w hw
  obtain ⟨j, hj, rfl⟩ := List.mem_map.mp hw
  have hj := List.mem_range.mp hj
  match j, hj with
  | 0, _ => exact zc6 213 (by decide +kernel) (by decide +kernel)
  | 1, _ => exact zc6 215 (by decide +kernel) (by decide +kernel)
  | 2, _ => exact zc6 217 (by decide +kernel) (by decide +kernel)
  | 3, _ => exact zc6 219 (by decide +kernel) (by decide +kernel)
  | 4, _ => exact zc6 221 (by decide +kernel) (by decide +kernel)
  | 5, _ => exact zc6 223 (by decide +kernel) (by decide +kernel)
  | 6, _ => exact zc6 225 (by decide +kernel) (by decide +kernel)
  | 7, _ => exact zc6 227 (by decide +kernel) (by decide +kernel)
  | 8, _ => exact zc6 229 (by decide +kernel) (by decide +kernel)
  | 9, _ => exact zc6 231 (by decide +kernel) (by decide +kernel)
  | 10, _ => exact zc6 233 (by decide +kernel) (by decide +kernel)
  | 11, _ => exact zc6 235 (by decide +kernel) (by decide +kernel)
  | 12, _ => exact zc6 237 (by decide +kernel) (by decide +kernel)
  | 13, _ => exact zc6 239 (by decide +kernel) (by decide +kernel)
  | 14, _ => exact zc7 1 (by decide +kernel) (by decide +kernel)
  | 15, _ => exact zc7 3 (by decide +kernel) (by decide +kernel)
  | 16, _ => exact zc7 5 (by decide +kernel) (by decide +kernel)
  | 17, _ => exact zc7 7 (by decide +kernel) (by decide +kernel)
  | 18, _ => exact zc7 9 (by decide +kernel) (by decide +kernel)
  | 19, _ => exact zc7 11 (by decide +kernel) (by decide +kernel)
  | 20, _ => exact zc7 13 (by decide +kernel) (by decide +kernel)
  | 21, _ => exact zc7 15 (by decide +kernel) (by decide +kernel)
  | 22, _ => exact zc7 17 (by decide +kernel) (by decide +kernel)
  | 23, _ => exact zc7 19 (by decide +kernel) (by decide +kernel)
  | 24, _ => exact zc7 21 (by decide +kernel) (by decide +kernel)
  | 25, _ => exact zc7 23 (by decide +kernel) (by decide +kernel)
  | 26, _ => exact zc7 25 (by decide +kernel) (by decide +kernel)
  | 27, _ => exact zc7 27 (by decide +kernel) (by decide +kernel)
  | 28, _ => exact zc7 29 (by decide +kernel) (by decide +kernel)
  | 29, _ => exact zc7 31 (by decide +kernel) (by decide +kernel)
  | 30, _ => exact zc7 33 (by decide +kernel) (by decide +kernel)
  | 31, _ => exact zc7 35 (by decide +kernel) (by decide +kernel)
  | 32, _ => exact zc7 37 (by decide +kernel) (by decide +kernel)
  | 33, _ => exact zc7 39 (by decide +kernel) (by decide +kernel)
  | 34, _ => exact zc7 41 (by decide +kernel) (by decide +kernel)
  | 35, _ => exact zc7 43 (by decide +kernel) (by decide +kernel)
  | 36, _ => exact zc7 45 (by decide +kernel) (by decide +kernel)
  | 37, _ => exact zc7 47 (by decide +kernel) (by decide +kernel)
  | 38, _ => exact zc7 49 (by decide +kernel) (by decide +kernel)
  | 39, _ => exact zc7 51 (by decide +kernel) (by decide +kernel)
  | 40, _ => exact zc7 53 (by decide +kernel) (by decide +kernel)
  | 41, _ => exact zc7 55 (by decide +kernel) (by decide +kernel)
  | 42, _ => exact zc7 57 (by decide +kernel) (by decide +kernel)
  | 43, _ => exact zc7 59 (by decide +kernel) (by decide +kernel)
  | 44, _ => exact zc7 61 (by decide +kernel) (by decide +kernel)
  | 45, _ => exact zc7 63 (by decide +kernel) (by decide +kernel)
  | 46, _ => exact zc7 65 (by decide +kernel) (by decide +kernel)
  | 47, _ => exact zc7 67 (by decide +kernel) (by decide +kernel)
  | 48, _ => exact zc7 69 (by decide +kernel) (by decide +kernel)
  | j + 49, h => exact absurd h (by omega)
abbrev mJ0_charAt_5068e : zM := (RJ0, cJ0_charAt_5068e, 2, (some .char), [], false)
abbrev mJ0_checkIndex_df160 : zM := (RJ0, cJ0_checkIndex_df160, 2, none, [], false)
theorem vJ0_checkIndex_df160 : zS yJ0_checkIndex_df160 mJ0_checkIndex_df160 2 := ⟨⟨rfl, rfl, zc4 10 (by decide +kernel) (by decide +kernel), zc1 15 (by decide +kernel) (by decide +kernel), ⟨by decide +kernel, by decide +kernel⟩, by decide +kernel⟩, zc4 9 (by decide +kernel) (by decide +kernel)⟩
abbrev mJ0_coder_7d493 : zM := (RJ0, cJ0_coder_7d493, 1, (some .byte), [], false)
abbrev mJ0_isLatin1_aae02 : zM := (RJ0, cJ0_isLatin1_aae02, 1, (some .boolean), [], false)
abbrev mJ0_length_8abf5 : zM := (RJ0, cJ0_length_8abf5, 1, (some .int), [], false)
abbrev mJ1_charAt_3b067 : zM := (RJ1, cJ1_charAt_3b067, 2, (some .char), [], false)
theorem vJ1_charAt_3b067 : zS yJ1_charAt_3b067 mJ1_charAt_3b067 2 := ⟨⟨rfl, rfl, zc4 7 (by decide +kernel) (by decide +kernel), zc1 16 (by decide +kernel) (by decide +kernel), ⟨by decide +kernel, by decide +kernel⟩, by decide +kernel⟩, zc4 6 (by decide +kernel) (by decide +kernel)⟩
abbrev mJ2_charAt_3b067 : zM := (RJ2, cJ2_charAt_3b067, 2, (some .char), [], false)
theorem vJ2_charAt_3b067 : zS yJ2_charAt_3b067 mJ2_charAt_3b067 2 := ⟨⟨rfl, rfl, zc4 18 (by decide +kernel) (by decide +kernel), zc1 18 (by decide +kernel) (by decide +kernel), ⟨by decide +kernel, by decide +kernel⟩, by decide +kernel⟩, zc4 17 (by decide +kernel) (by decide +kernel)⟩
abbrev mJ2_checkIndex_2214a : zM := (RJ2, cJ2_checkIndex_2214a, 2, none, [], false)
theorem vJ2_checkIndex_2214a : zS yJ2_checkIndex_2214a mJ2_checkIndex_2214a 2 := ⟨⟨rfl, rfl, zc4 21 (by decide +kernel) (by decide +kernel), zc1 18 (by decide +kernel) (by decide +kernel), ⟨by decide +kernel, by decide +kernel⟩, by decide +kernel⟩, zc4 20 (by decide +kernel) (by decide +kernel)⟩
abbrev mJ2_getChar_3b067 : zM := (RJ2, cJ2_getChar_3b067, 2, (some .char), [], false)
theorem vJ2_getChar_3b067 : zS yJ2_getChar_3b067 mJ2_getChar_3b067 2 := ⟨⟨rfl, rfl, zc4 28 (by decide +kernel) (by decide +kernel), zc1 18 (by decide +kernel) (by decide +kernel), ⟨by decide +kernel, by decide +kernel⟩, by decide +kernel⟩, zc4 27 (by decide +kernel) (by decide +kernel)⟩
abbrev mJ2_length_9d52b : zM := (RJ2, cJ2_length_9d52b, 1, (some .int), [], false)
theorem vJ2_length_9d52b : zS yJ2_length_9d52b mJ2_length_9d52b 1 := ⟨⟨rfl, rfl, zc4 24 (by decide +kernel) (by decide +kernel), zc1 18 (by decide +kernel) (by decide +kernel), ⟨by decide +kernel, by decide +kernel⟩, by decide +kernel⟩, zc4 23 (by decide +kernel) (by decide +kernel)⟩
abbrev mJ3_checkIndex_8e157 : zM := (RJ3, cJ3_checkIndex_8e157, 3, (some .int), [], false)
theorem vJ3_checkIndex_8e157 : zS yJ3_checkIndex_8e157 mJ3_checkIndex_8e157 3 := ⟨⟨rfl, rfl, zc4 15 (by decide +kernel) (by decide +kernel), zc1 17 (by decide +kernel) (by decide +kernel), ⟨by decide +kernel, by decide +kernel⟩, by decide +kernel⟩, zc4 14 (by decide +kernel) (by decide +kernel)⟩
abbrev mJ6_bitCount_0f7a4 : zM := (RJ6, cJ6_bitCount_0f7a4, 1, (some .int), [], false)
theorem vJ6_bitCount_0f7a4 : zS yJ6_bitCount_0f7a4 mJ6_bitCount_0f7a4 1 := ⟨⟨rfl, rfl, zc3 13 (by decide +kernel) (by decide +kernel), zc1 20 (by decide +kernel) (by decide +kernel), ⟨by decide +kernel, by decide +kernel⟩, by decide +kernel⟩, zc3 12 (by decide +kernel) (by decide +kernel)⟩
abbrev mJ9_max_7cf53 : zM := (RJ9, cJ9_max_7cf53, 2, (some .int), [], false)
theorem vJ9_max_7cf53 : zS yJ9_max_7cf53 mJ9_max_7cf53 2 := ⟨⟨rfl, rfl, zc2 167 (by decide +kernel) (by decide +kernel), zc1 19 (by decide +kernel) (by decide +kernel), ⟨by decide +kernel, by decide +kernel⟩, by decide +kernel⟩, zc2 166 (by decide +kernel) (by decide +kernel)⟩
abbrev mJ9_min_7cf53 : zM := (RJ9, cJ9_min_7cf53, 2, (some .int), [], false)
theorem vJ9_min_7cf53 : zS yJ9_min_7cf53 mJ9_min_7cf53 2 := ⟨⟨rfl, rfl, zc2 174 (by decide +kernel) (by decide +kernel), zc1 19 (by decide +kernel) (by decide +kernel), ⟨by decide +kernel, by decide +kernel⟩, by decide +kernel⟩, zc2 173 (by decide +kernel) (by decide +kernel)⟩
abbrev mL_best : zM := (RL, cL_best, 4, (some .int), [(0, 9, 12, 19)], false)
theorem vHL_best : Cond.codeWith yL_best mL_best.2.1 mL_best.2.2.1 mL_best.2.2.2.1 mL_best.2.2.2.2.1 ∈ zW := zc5 208 (by decide +kernel) (by decide +kernel)
theorem vIL_best : Cond.static yL_best ∈ zW := zc5 207 (by decide +kernel) (by decide +kernel)
abbrev mL_bestStart : zM := (RL, cL_bestStart, 4, (some .int), [(0, 9, 12, 35)], false)
theorem vHL_bestStart : Cond.codeWith yL_bestStart mL_bestStart.2.1 mL_bestStart.2.2.1 mL_bestStart.2.2.2.1 mL_bestStart.2.2.2.2.1 ∈ zW := zc6 53 (by decide +kernel) (by decide +kernel)
theorem vIL_bestStart : Cond.static yL_bestStart ∈ zW := zc6 52 (by decide +kernel) (by decide +kernel)
abbrev mL_better : zM := (RL, cL_better, 4, (some .int), [(0, 9, 12, 35), (0, 9, 15, 13)], false)
theorem vHL_better : Cond.codeWith yL_better mL_better.2.1 mL_better.2.2.1 mL_better.2.2.2.1 mL_better.2.2.2.2.1 ∈ zW := zc6 85 (by decide +kernel) (by decide +kernel)
theorem vIL_better : Cond.static yL_better ∈ zW := zc6 84 (by decide +kernel) (by decide +kernel)
abbrev mL_bound : zM := (RL, cL_bound, 5, (some .int), [(0, 10, 13, 35), (0, 10, 17, 19)], false)
theorem vHL_bound : Cond.codeWith yL_bound mL_bound.2.1 mL_bound.2.2.1 mL_bound.2.2.2.1 mL_bound.2.2.2.2.1 ∈ zW := zc5 216 (by decide +kernel) (by decide +kernel)
theorem vIL_bound : Cond.static yL_bound ∈ zW := zc5 215 (by decide +kernel) (by decide +kernel)
abbrev mL_choose : zM := (RL, cL_choose, 5, (some .int), [(0, 10, 13, 35), (0, 10, 17, 19)], false)
theorem vHL_choose : Cond.codeWith yL_choose mL_choose.2.1 mL_choose.2.2.1 mL_choose.2.2.2.1 mL_choose.2.2.2.2.1 ∈ zW := zc6 69 (by decide +kernel) (by decide +kernel)
theorem vIL_choose : Cond.static yL_choose ∈ zW := zc6 68 (by decide +kernel) (by decide +kernel)
abbrev mL_clear : zM := (RL, cL_clear, 4, (some .int), [(0, 9, 12, 35), (0, 9, 15, 13)], false)
theorem vHL_clear : Cond.codeWith yL_clear mL_clear.2.1 mL_clear.2.2.1 mL_clear.2.2.2.1 mL_clear.2.2.2.2.1 ∈ zW := zc6 77 (by decide +kernel) (by decide +kernel)
theorem vIL_clear : Cond.static yL_clear ∈ zW := zc6 76 (by decide +kernel) (by decide +kernel)
abbrev mL_closest : zM := (RL, cL_closest, 5, (some .int), [(0, 10, 13, 35)], false)
theorem vHL_closest : Cond.codeWith yL_closest mL_closest.2.1 mL_closest.2.2.1 mL_closest.2.2.2.1 mL_closest.2.2.2.2.1 ∈ zW := zc5 129 (by decide +kernel) (by decide +kernel)
theorem vIL_closest : Cond.static yL_closest ∈ zW := zc5 128 (by decide +kernel) (by decide +kernel)
abbrev mL_count : zM := (RL, cL_count, 5, (some .int), [(0, 10, 13, 35)], false)
theorem vHL_count : Cond.codeWith yL_count mL_count.2.1 mL_count.2.2.1 mL_count.2.2.2.1 mL_count.2.2.2.2.1 ∈ zW := zc6 25 (by decide +kernel) (by decide +kernel)
theorem vIL_count : Cond.static yL_count ∈ zW := zc6 24 (by decide +kernel) (by decide +kernel)
abbrev mL_differ : zM := (RL, cL_differ, 5, (some .int), [(0, 10, 13, 35)], false)
theorem vHL_differ : Cond.codeWith yL_differ mL_differ.2.1 mL_differ.2.2.1 mL_differ.2.2.2.1 mL_differ.2.2.2.2.1 ∈ zW := zc5 88 (by decide +kernel) (by decide +kernel)
theorem vIL_differ : Cond.static yL_differ ∈ zW := zc5 87 (by decide +kernel) (by decide +kernel)
abbrev mL_distance : zM := (RL, cL_distance, 5, (some .int), [(0, 10, 13, 35)], false)
theorem vHL_distance : Cond.codeWith yL_distance mL_distance.2.1 mL_distance.2.2.1 mL_distance.2.2.2.1 mL_distance.2.2.2.2.1 ∈ zW := zc5 102 (by decide +kernel) (by decide +kernel)
theorem vIL_distance : Cond.static yL_distance ∈ zW := zc5 101 (by decide +kernel) (by decide +kernel)
abbrev mL_feed : zM := (RL, cL_feed, 8, (some .int), [(0, 16, 19, 13)], false)
theorem vHL_feed : Cond.codeWith yL_feed mL_feed.2.1 mL_feed.2.2.1 mL_feed.2.2.2.1 mL_feed.2.2.2.2.1 ∈ zW := zc3 70 (by decide +kernel) (by decide +kernel)
theorem vIL_feed : Cond.static yL_feed ∈ zW := zc3 69 (by decide +kernel) (by decide +kernel)
abbrev mL_having : zM := (RL, cL_having, 4, (some .int), [(0, 9, 12, 35)], false)
theorem vHL_having : Cond.codeWith yL_having mL_having.2.1 mL_having.2.2.1 mL_having.2.2.2.1 mL_having.2.2.2.2.1 ∈ zW := zc5 121 (by decide +kernel) (by decide +kernel)
theorem vIL_having : Cond.static yL_having ∈ zW := zc5 120 (by decide +kernel) (by decide +kernel)
abbrev mL_hit : zM := (RL, cL_hit, 6, (some .int), [(0, 12, 15, 35), (0, 12, 19, 19)], false)
theorem vHL_hit : Cond.codeWith yL_hit mL_hit.2.1 mL_hit.2.2.1 mL_hit.2.2.2.1 mL_hit.2.2.2.2.1 ∈ zW := zc5 183 (by decide +kernel) (by decide +kernel)
theorem vIL_hit : Cond.static yL_hit ∈ zW := zc5 182 (by decide +kernel) (by decide +kernel)
abbrev mL_hits : zM := (RL, cL_hits, 4, (some .int), [(0, 9, 12, 35)], false)
theorem vHL_hits : Cond.codeWith yL_hits mL_hits.2.1 mL_hits.2.2.1 mL_hits.2.2.2.1 mL_hits.2.2.2.2.1 ∈ zW := zc5 171 (by decide +kernel) (by decide +kernel)
theorem vIL_hits : Cond.static yL_hits ∈ zW := zc5 170 (by decide +kernel) (by decide +kernel)
abbrev mL_improve : zM := (RL, cL_improve, 4, (some .int), [(0, 9, 12, 19)], false)
theorem vHL_improve : Cond.codeWith yL_improve mL_improve.2.1 mL_improve.2.2.1 mL_improve.2.2.2.1 mL_improve.2.2.2.2.1 ∈ zW := zc6 93 (by decide +kernel) (by decide +kernel)
theorem vIL_improve : Cond.static yL_improve ∈ zW := zc6 92 (by decide +kernel) (by decide +kernel)
abbrev mL_improvesToEnd : zM := (RL, cL_improvesToEnd, 4, (some .int), [(0, 9, 12, 19)], false)
theorem vHL_improvesToEnd : Cond.codeWith yL_improvesToEnd mL_improvesToEnd.2.1 mL_improvesToEnd.2.2.1 mL_improvesToEnd.2.2.2.1 mL_improvesToEnd.2.2.2.2.1 ∈ zW := zc6 60 (by decide +kernel) (by decide +kernel)
theorem vIL_improvesToEnd : Cond.static yL_improvesToEnd ∈ zW := zc6 59 (by decide +kernel) (by decide +kernel)
abbrev mL_letter : zM := (RL, cL_letter, 5, (some .int), [(0, 10, 13, 35)], false)
theorem vHL_letter : Cond.codeWith yL_letter mL_letter.2.1 mL_letter.2.2.1 mL_letter.2.2.2.1 mL_letter.2.2.2.2.1 ∈ zW := zc5 72 (by decide +kernel) (by decide +kernel)
theorem vIL_letter : Cond.static yL_letter ∈ zW := zc5 71 (by decide +kernel) (by decide +kernel)
abbrev mL_mostHad : zM := (RL, cL_mostHad, 4, (some .int), [(0, 9, 12, 19)], false)
theorem vHL_mostHad : Cond.codeWith yL_mostHad mL_mostHad.2.1 mL_mostHad.2.2.1 mL_mostHad.2.2.2.1 mL_mostHad.2.2.2.2.1 ∈ zW := zc5 224 (by decide +kernel) (by decide +kernel)
theorem vIL_mostHad : Cond.static yL_mostHad ∈ zW := zc5 223 (by decide +kernel) (by decide +kernel)
abbrev mL_rankOf : zM := (RL, cL_rankOf, 4, (some .int), [(0, 9, 12, 35)], false)
theorem vHL_rankOf : Cond.codeWith yL_rankOf mL_rankOf.2.1 mL_rankOf.2.2.1 mL_rankOf.2.2.2.1 mL_rankOf.2.2.2.2.1 ∈ zW := zc6 3 (by decide +kernel) (by decide +kernel)
theorem vIL_rankOf : Cond.static yL_rankOf ∈ zW := zc6 2 (by decide +kernel) (by decide +kernel)
abbrev mL_readText : zM := (RL, cL_readText, 3, (some .int), [(0, 8, 11, 19)], false)
theorem vHL_readText : Cond.codeWith yL_readText mL_readText.2.1 mL_readText.2.2.1 mL_readText.2.2.2.1 mL_readText.2.2.2.2.1 ∈ zW := zc3 173 (by decide +kernel) (by decide +kernel)
theorem vIL_readText : Cond.static yL_readText ∈ zW := zc3 172 (by decide +kernel) (by decide +kernel)
abbrev mL_reportByte : zM := (RL, cL_reportByte, 4, (some .int), [(0, 9, 12, 35)], false)
theorem vHL_reportByte : Cond.codeWith yL_reportByte mL_reportByte.2.1 mL_reportByte.2.2.1 mL_reportByte.2.2.2.1 mL_reportByte.2.2.2.2.1 ∈ zW := zc6 140 (by decide +kernel) (by decide +kernel)
theorem vIL_reportByte : Cond.static yL_reportByte ∈ zW := zc6 139 (by decide +kernel) (by decide +kernel)
abbrev mL_restore : zM := (RL, cL_restore, 3, (some .int), [(0, 8, 11, 13)], false)
theorem vHL_restore : Cond.codeWith yL_restore mL_restore.2.1 mL_restore.2.2.1 mL_restore.2.2.2.1 mL_restore.2.2.2.2.1 ∈ zW := zc6 148 (by decide +kernel) (by decide +kernel)
theorem vIL_restore : Cond.static yL_restore ∈ zW := zc6 147 (by decide +kernel) (by decide +kernel)
abbrev mL_row : zM := (RL, cL_row, 5, (some .int), [(0, 10, 13, 35), (0, 10, 17, 19)], false)
theorem vHL_row : Cond.codeWith yL_row mL_row.2.1 mL_row.2.2.1 mL_row.2.2.2.1 mL_row.2.2.2.2.1 ∈ zW := zc5 42 (by decide +kernel) (by decide +kernel)
theorem vIL_row : Cond.static yL_row ∈ zW := zc5 41 (by decide +kernel) (by decide +kernel)
abbrev mL_runScript : zM := (RL, cL_runScript, 3, (some .int), [(0, 8, 11, 19)], false)
theorem vHL_runScript : Cond.codeWith yL_runScript mL_runScript.2.1 mL_runScript.2.2.1 mL_runScript.2.2.2.1 mL_runScript.2.2.2.2.1 ∈ zW := zc4 94 (by decide +kernel) (by decide +kernel)
theorem vIL_runScript : Cond.static yL_runScript ∈ zW := zc4 93 (by decide +kernel) (by decide +kernel)
abbrev mL_score : zM := (RL, cL_score, 4, (some .int), [(0, 9, 12, 35)], false)
theorem vHL_score : Cond.codeWith yL_score mL_score.2.1 mL_score.2.2.1 mL_score.2.2.2.1 mL_score.2.2.2.2.1 ∈ zW := zc5 110 (by decide +kernel) (by decide +kernel)
theorem vIL_score : Cond.static yL_score ∈ zW := zc5 109 (by decide +kernel) (by decide +kernel)
abbrev mL_scoreWithout : zM := (RL, cL_scoreWithout, 4, (some .int), [(0, 9, 12, 35)], false)
theorem vHL_scoreWithout : Cond.codeWith yL_scoreWithout mL_scoreWithout.2.1 mL_scoreWithout.2.2.1 mL_scoreWithout.2.2.2.1 mL_scoreWithout.2.2.2.2.1 ∈ zW := zc5 236 (by decide +kernel) (by decide +kernel)
theorem vIL_scoreWithout : Cond.static yL_scoreWithout ∈ zW := zc5 235 (by decide +kernel) (by decide +kernel)
abbrev mL_second : zM := (RL, cL_second, 4, (some .int), [(0, 9, 12, 19)], false)
theorem vHL_second : Cond.codeWith yL_second mL_second.2.1 mL_second.2.2.1 mL_second.2.2.2.1 mL_second.2.2.2.2.1 ∈ zW := zc6 14 (by decide +kernel) (by decide +kernel)
theorem vIL_second : Cond.static yL_second ∈ zW := zc6 13 (by decide +kernel) (by decide +kernel)
abbrev mL_setChanges : zM := (RL, cL_setChanges, 4, (some .int), [(0, 9, 12, 19)], false)
theorem vHL_setChanges : Cond.codeWith yL_setChanges mL_setChanges.2.1 mL_setChanges.2.2.1 mL_setChanges.2.2.2.1 mL_setChanges.2.2.2.2.1 ∈ zW := zc6 132 (by decide +kernel) (by decide +kernel)
theorem vIL_setChanges : Cond.static yL_setChanges ∈ zW := zc6 131 (by decide +kernel) (by decide +kernel)
abbrev mL_setOut : zM := (RL, cL_setOut, 5, (some .int), [(0, 10, 13, 35), (0, 10, 17, 13)], false)
theorem vHL_setOut : Cond.codeWith yL_setOut mL_setOut.2.1 mL_setOut.2.2.1 mL_setOut.2.2.2.1 mL_setOut.2.2.2.2.1 ∈ zW := zc6 124 (by decide +kernel) (by decide +kernel)
theorem vIL_setOut : Cond.static yL_setOut ∈ zW := zc6 123 (by decide +kernel) (by decide +kernel)
abbrev mL_setting : zM := (RL, cL_setting, 4, (some .int), [(0, 9, 12, 19)], false)
theorem vHL_setting : Cond.codeWith yL_setting mL_setting.2.1 mL_setting.2.2.1 mL_setting.2.2.2.1 mL_setting.2.2.2.2.1 ∈ zW := zc5 21 (by decide +kernel) (by decide +kernel)
theorem vIL_setting : Cond.static yL_setting ∈ zW := zc5 20 (by decide +kernel) (by decide +kernel)
abbrev mL_shared : zM := (RL, cL_shared, 5, (some .int), [(0, 10, 13, 35)], false)
theorem vHL_shared : Cond.codeWith yL_shared mL_shared.2.1 mL_shared.2.2.1 mL_shared.2.2.2.1 mL_shared.2.2.2.2.1 ∈ zW := zc5 145 (by decide +kernel) (by decide +kernel)
theorem vIL_shared : Cond.static yL_shared ∈ zW := zc5 144 (by decide +kernel) (by decide +kernel)
abbrev mL_sharedAt : zM := (RL, cL_sharedAt, 6, (some .int), [(0, 12, 15, 35)], false)
theorem vHL_sharedAt : Cond.codeWith yL_sharedAt mL_sharedAt.2.1 mL_sharedAt.2.2.1 mL_sharedAt.2.2.2.1 mL_sharedAt.2.2.2.2.1 ∈ zW := zc5 160 (by decide +kernel) (by decide +kernel)
theorem vIL_sharedAt : Cond.static yL_sharedAt ∈ zW := zc5 159 (by decide +kernel) (by decide +kernel)
abbrev mL_spread : zM := (RL, cL_spread, 4, (some .int), [(0, 9, 12, 35)], false)
theorem vHL_spread : Cond.codeWith yL_spread mL_spread.2.1 mL_spread.2.2.1 mL_spread.2.2.2.1 mL_spread.2.2.2.2.1 ∈ zW := zc5 137 (by decide +kernel) (by decide +kernel)
theorem vIL_spread : Cond.static yL_spread ∈ zW := zc5 136 (by decide +kernel) (by decide +kernel)
abbrev mL_take : zM := (RL, cL_take, 4, (some .int), [(0, 9, 12, 35), (0, 9, 15, 13)], false)
theorem vHL_take : Cond.codeWith yL_take mL_take.2.1 mL_take.2.2.1 mL_take.2.2.2.1 mL_take.2.2.2.2.1 ∈ zW := zc6 101 (by decide +kernel) (by decide +kernel)
theorem vIL_take : Cond.static yL_take ∈ zW := zc6 100 (by decide +kernel) (by decide +kernel)
abbrev mL_takeBest : zM := (RL, cL_takeBest, 3, (some .int), [(0, 8, 11, 13)], false)
theorem vHL_takeBest : Cond.codeWith yL_takeBest mL_takeBest.2.1 mL_takeBest.2.2.1 mL_takeBest.2.2.2.1 mL_takeBest.2.2.2.2.1 ∈ zW := zc6 109 (by decide +kernel) (by decide +kernel)
theorem vIL_takeBest : Cond.static yL_takeBest ∈ zW := zc6 108 (by decide +kernel) (by decide +kernel)
abbrev mL_timesOf : zM := (RL, cL_timesOf, 4, (some .int), [(0, 9, 12, 35)], false)
theorem vHL_timesOf : Cond.codeWith yL_timesOf mL_timesOf.2.1 mL_timesOf.2.2.1 mL_timesOf.2.2.2.1 mL_timesOf.2.2.2.2.1 ∈ zW := zc5 197 (by decide +kernel) (by decide +kernel)
theorem vIL_timesOf : Cond.static yL_timesOf ∈ zW := zc5 196 (by decide +kernel) (by decide +kernel)
abbrev mL_truncate : zM := (RL, cL_truncate, 4, (some .int), [(0, 9, 12, 19)], false)
theorem vHL_truncate : Cond.codeWith yL_truncate mL_truncate.2.1 mL_truncate.2.2.1 mL_truncate.2.2.2.1 mL_truncate.2.2.2.2.1 ∈ zW := zc3 149 (by decide +kernel) (by decide +kernel)
theorem vIL_truncate : Cond.static yL_truncate ∈ zW := zc3 148 (by decide +kernel) (by decide +kernel)
abbrev mL_tryFrom : zM := (RL, cL_tryFrom, 5, (some .int), [(0, 10, 13, 35)], false)
theorem vHL_tryFrom : Cond.codeWith yL_tryFrom mL_tryFrom.2.1 mL_tryFrom.2.2.1 mL_tryFrom.2.2.2.1 mL_tryFrom.2.2.2.2.1 ∈ zW := zc6 42 (by decide +kernel) (by decide +kernel)
theorem vIL_tryFrom : Cond.static yL_tryFrom ∈ zW := zc6 41 (by decide +kernel) (by decide +kernel)
abbrev mL_weight : zM := (RL, cL_weight, 5, (some .int), [(0, 10, 13, 35)], false)
theorem vHL_weight : Cond.codeWith yL_weight mL_weight.2.1 mL_weight.2.2.1 mL_weight.2.2.2.1 mL_weight.2.2.2.2.1 ∈ zW := zc6 34 (by decide +kernel) (by decide +kernel)
theorem vIL_weight : Cond.static yL_weight ∈ zW := zc6 33 (by decide +kernel) (by decide +kernel)
abbrev mL_whyNotTake : zM := (RL, cL_whyNotTake, 4, (some .int), [(0, 9, 12, 35)], false)
theorem vHL_whyNotTake : Cond.codeWith yL_whyNotTake mL_whyNotTake.2.1 mL_whyNotTake.2.2.1 mL_whyNotTake.2.2.2.1 mL_whyNotTake.2.2.2.2.1 ∈ zW := zc6 117 (by decide +kernel) (by decide +kernel)
theorem vIL_whyNotTake : Cond.static yL_whyNotTake ∈ zW := zc6 116 (by decide +kernel) (by decide +kernel)
abbrev mL_wordAt : zM := (RL, cL_wordAt, 5, (some .int), [(0, 10, 13, 35)], false)
theorem vHL_wordAt : Cond.codeWith yL_wordAt mL_wordAt.2.1 mL_wordAt.2.2.1 mL_wordAt.2.2.2.1 mL_wordAt.2.2.2.2.1 ∈ zW := zc5 80 (by decide +kernel) (by decide +kernel)
theorem vIL_wordAt : Cond.static yL_wordAt ∈ zW := zc5 79 (by decide +kernel) (by decide +kernel)
abbrev mX0_addRow : zM := (RX0, cX0_addRow, 6, none, [], false)
theorem vX0_addRow : zV yX0_addRow mX0_addRow 3 0 := ⟨⟨rfl, rfl, zc4 82 (by decide +kernel) (by decide +kernel), zc1 5 (by decide +kernel) (by decide +kernel), ⟨by decide +kernel, by decide +kernel⟩, by decide +kernel⟩, zc4 80 (by decide +kernel) (by decide +kernel), zc4 81 (by decide +kernel) (by decide +kernel), ⟨_, rfl, rfl⟩⟩
abbrev mX0_allCovered : zM := (RX0, cX0_allCovered, 3, (some .int), [], false)
theorem vX0_allCovered : zV yX0_allCovered mX0_allCovered 0 0 := ⟨⟨rfl, rfl, zc5 38 (by decide +kernel) (by decide +kernel), zc1 5 (by decide +kernel) (by decide +kernel), ⟨by decide +kernel, by decide +kernel⟩, by decide +kernel⟩, zc5 36 (by decide +kernel) (by decide +kernel), zc5 37 (by decide +kernel) (by decide +kernel), ⟨_, rfl, rfl⟩⟩
abbrev mX0_allPlaces : zM := (RX0, cX0_allPlaces, 3, (some .int), [], false)
theorem vX0_allPlaces : zV yX0_allPlaces mX0_allPlaces 0 0 := ⟨⟨rfl, rfl, zc5 30 (by decide +kernel) (by decide +kernel), zc1 5 (by decide +kernel) (by decide +kernel), ⟨by decide +kernel, by decide +kernel⟩, by decide +kernel⟩, zc5 28 (by decide +kernel) (by decide +kernel), zc5 29 (by decide +kernel) (by decide +kernel), ⟨_, rfl, rfl⟩⟩
abbrev mX0_boundOf : zM := (RX0, cX0_boundOf, 5, (some .int), [], false)
theorem vX0_boundOf : zV yX0_boundOf mX0_boundOf 2 0 := ⟨⟨rfl, rfl, zc5 118 (by decide +kernel) (by decide +kernel), zc1 5 (by decide +kernel) (by decide +kernel), ⟨by decide +kernel, by decide +kernel⟩, by decide +kernel⟩, zc5 116 (by decide +kernel) (by decide +kernel), zc5 117 (by decide +kernel) (by decide +kernel), ⟨_, rfl, rfl⟩⟩
abbrev mX0_chosenRows : zM := (RX0, cX0_chosenRows, 3, (some .int), [], false)
theorem vX0_chosenRows : zV yX0_chosenRows mX0_chosenRows 0 0 := ⟨⟨rfl, rfl, zc2 210 (by decide +kernel) (by decide +kernel), zc1 5 (by decide +kernel) (by decide +kernel), ⟨by decide +kernel, by decide +kernel⟩, by decide +kernel⟩, zc2 208 (by decide +kernel) (by decide +kernel), zc2 209 (by decide +kernel) (by decide +kernel), ⟨_, rfl, rfl⟩⟩
abbrev mX0_codeAt : zM := (RX0, cX0_codeAt, 3, (some .int), [], false)
theorem vX0_codeAt : zV yX0_codeAt mX0_codeAt 2 0 := ⟨⟨rfl, rfl, zc2 115 (by decide +kernel) (by decide +kernel), zc1 5 (by decide +kernel) (by decide +kernel), ⟨by decide +kernel, by decide +kernel⟩, by decide +kernel⟩, zc2 113 (by decide +kernel) (by decide +kernel), zc2 114 (by decide +kernel) (by decide +kernel), ⟨_, rfl, rfl⟩⟩
abbrev mX0_codeOf : zM := (RX0, cX0_codeOf, 6, (some .int), [], false)
theorem vX0_codeOf : zV yX0_codeOf mX0_codeOf 1 0 := ⟨⟨rfl, rfl, zc4 218 (by decide +kernel) (by decide +kernel), zc1 5 (by decide +kernel) (by decide +kernel), ⟨by decide +kernel, by decide +kernel⟩, by decide +kernel⟩, zc4 216 (by decide +kernel) (by decide +kernel), zc4 217 (by decide +kernel) (by decide +kernel), ⟨_, rfl, rfl⟩⟩
abbrev mX0_copyFrom : zM := (RX0, cX0_copyFrom, 3, none, [], false)
theorem vX0_copyFrom : zV yX0_copyFrom mX0_copyFrom 1 0 := ⟨⟨rfl, rfl, zc3 55 (by decide +kernel) (by decide +kernel), zc1 5 (by decide +kernel) (by decide +kernel), ⟨by decide +kernel, by decide +kernel⟩, by decide +kernel⟩, zc3 53 (by decide +kernel) (by decide +kernel), zc3 54 (by decide +kernel) (by decide +kernel), ⟨_, rfl, rfl⟩⟩
abbrev mX0_cover : zM := (RX0, cX0_cover, 6, (some .int), [], false)
theorem vX0_cover : zV yX0_cover mX0_cover 1 0 := ⟨⟨rfl, rfl, zc4 214 (by decide +kernel) (by decide +kernel), zc1 5 (by decide +kernel) (by decide +kernel), ⟨by decide +kernel, by decide +kernel⟩, by decide +kernel⟩, zc4 212 (by decide +kernel) (by decide +kernel), zc4 213 (by decide +kernel) (by decide +kernel), ⟨_, rfl, rfl⟩⟩
abbrev mX0_differing : zM := (RX0, cX0_differing, 4, (some .int), [], false)
theorem vX0_differing : zS yX0_differing mX0_differing 3 := ⟨⟨rfl, rfl, zc4 232 (by decide +kernel) (by decide +kernel), zc1 5 (by decide +kernel) (by decide +kernel), ⟨by decide +kernel, by decide +kernel⟩, by decide +kernel⟩, zc4 231 (by decide +kernel) (by decide +kernel)⟩
abbrev mX0_empty : zM := (RX0, cX0_empty, 1, none, [], false)
theorem vX0_empty : zV yX0_empty mX0_empty 0 0 := ⟨⟨rfl, rfl, zc3 185 (by decide +kernel) (by decide +kernel), zc1 5 (by decide +kernel) (by decide +kernel), ⟨by decide +kernel, by decide +kernel⟩, by decide +kernel⟩, zc3 183 (by decide +kernel) (by decide +kernel), zc3 184 (by decide +kernel) (by decide +kernel), ⟨_, rfl, rfl⟩⟩
abbrev mX0_hitNumber : zM := (RX0, cX0_hitNumber, 6, (some .int), [], false)
theorem vX0_hitNumber : zV yX0_hitNumber mX0_hitNumber 2 0 := ⟨⟨rfl, rfl, zc5 191 (by decide +kernel) (by decide +kernel), zc1 5 (by decide +kernel) (by decide +kernel), ⟨by decide +kernel, by decide +kernel⟩, by decide +kernel⟩, zc5 189 (by decide +kernel) (by decide +kernel), zc5 190 (by decide +kernel) (by decide +kernel), ⟨_, rfl, rfl⟩⟩
abbrev mX0_init : zM := (RX0, cX0_init, 1, none, [], true)
theorem vX0_init : zN yX0_init mX0_init 0 := ⟨⟨rfl, rfl, zc1 116 (by decide +kernel) (by decide +kernel), zc1 5 (by decide +kernel) (by decide +kernel), ⟨by decide +kernel, by decide +kernel⟩, by decide +kernel⟩, rfl, rfl, zc1 115 (by decide +kernel) (by decide +kernel)⟩
abbrev mX0_isHit : zM := (RX0, cX0_isHit, 4, (some .boolean), [], false)
theorem vX0_isHit : zV yX0_isHit mX0_isHit 3 0 := ⟨⟨rfl, rfl, zc5 180 (by decide +kernel) (by decide +kernel), zc1 5 (by decide +kernel) (by decide +kernel), ⟨by decide +kernel, by decide +kernel⟩, by decide +kernel⟩, zc5 178 (by decide +kernel) (by decide +kernel), zc5 179 (by decide +kernel) (by decide +kernel), ⟨_, rfl, rfl⟩⟩
abbrev mX0_isOut : zM := (RX0, cX0_isOut, 2, (some .boolean), [], false)
theorem vX0_isOut : zV yX0_isOut mX0_isOut 1 0 := ⟨⟨rfl, rfl, zc2 107 (by decide +kernel) (by decide +kernel), zc1 5 (by decide +kernel) (by decide +kernel), ⟨by decide +kernel, by decide +kernel⟩, by decide +kernel⟩, zc2 105 (by decide +kernel) (by decide +kernel), zc2 106 (by decide +kernel) (by decide +kernel), ⟨_, rfl, rfl⟩⟩
abbrev mX0_isPlace : zM := (RX0, cX0_isPlace, 3, (some .boolean), [], false)
theorem vX0_isPlace : zV yX0_isPlace mX0_isPlace 2 0 := ⟨⟨rfl, rfl, zc2 102 (by decide +kernel) (by decide +kernel), zc1 5 (by decide +kernel) (by decide +kernel), ⟨by decide +kernel, by decide +kernel⟩, by decide +kernel⟩, zc2 100 (by decide +kernel) (by decide +kernel), zc2 101 (by decide +kernel) (by decide +kernel), ⟨_, rfl, rfl⟩⟩
abbrev mX0_lastStart : zM := (RX0, cX0_lastStart, 2, (some .int), [], false)
theorem vX0_lastStart : zV yX0_lastStart mX0_lastStart 1 0 := ⟨⟨rfl, rfl, zc2 98 (by decide +kernel) (by decide +kernel), zc1 5 (by decide +kernel) (by decide +kernel), ⟨by decide +kernel, by decide +kernel⟩, by decide +kernel⟩, zc2 96 (by decide +kernel) (by decide +kernel), zc2 97 (by decide +kernel) (by decide +kernel), ⟨_, rfl, rfl⟩⟩
abbrev mX0_letterAt : zM := (RX0, cX0_letterAt, 3, (some .int), [], false)
theorem vX0_letterAt : zV yX0_letterAt mX0_letterAt 2 0 := ⟨⟨rfl, rfl, zc3 43 (by decide +kernel) (by decide +kernel), zc1 5 (by decide +kernel) (by decide +kernel), ⟨by decide +kernel, by decide +kernel⟩, by decide +kernel⟩, zc3 41 (by decide +kernel) (by decide +kernel), zc3 42 (by decide +kernel) (by decide +kernel), ⟨_, rfl, rfl⟩⟩
abbrev mX0_letterOf : zM := (RX0, cX0_letterOf, 2, (some .int), [], false)
theorem vX0_letterOf : zS yX0_letterOf mX0_letterOf 2 := ⟨⟨rfl, rfl, zc2 122 (by decide +kernel) (by decide +kernel), zc1 5 (by decide +kernel) (by decide +kernel), ⟨by decide +kernel, by decide +kernel⟩, by decide +kernel⟩, zc2 121 (by decide +kernel) (by decide +kernel)⟩
abbrev mX0_lettersFrom : zM := (RX0, cX0_lettersFrom, 2, (some .int), [], false)
theorem vX0_lettersFrom : zV yX0_lettersFrom mX0_lettersFrom 1 0 := ⟨⟨rfl, rfl, zc2 111 (by decide +kernel) (by decide +kernel), zc1 5 (by decide +kernel) (by decide +kernel), ⟨by decide +kernel, by decide +kernel⟩, by decide +kernel⟩, zc2 110 (by decide +kernel) (by decide +kernel), zcp 1 (by decide +kernel) (by decide +kernel), ⟨_, rfl, rfl⟩⟩
abbrev mX0_nearest : zM := (RX0, cX0_nearest, 6, (some .int), [], false)
theorem vX0_nearest : zV yX0_nearest mX0_nearest 3 0 := ⟨⟨rfl, rfl, zc4 227 (by decide +kernel) (by decide +kernel), zc1 5 (by decide +kernel) (by decide +kernel), ⟨by decide +kernel, by decide +kernel⟩, by decide +kernel⟩, zc4 225 (by decide +kernel) (by decide +kernel), zc4 226 (by decide +kernel) (by decide +kernel), ⟨_, rfl, rfl⟩⟩
abbrev mX0_nearestStart : zM := (RX0, cX0_nearestStart, 7, (some .int), [], false)
theorem vX0_nearestStart : zV yX0_nearestStart mX0_nearestStart 2 0 := ⟨⟨rfl, rfl, zc4 239 (by decide +kernel) (by decide +kernel), zc1 5 (by decide +kernel) (by decide +kernel), ⟨by decide +kernel, by decide +kernel⟩, by decide +kernel⟩, zc4 237 (by decide +kernel) (by decide +kernel), zc4 238 (by decide +kernel) (by decide +kernel), ⟨_, rfl, rfl⟩⟩
abbrev mX0_placesOf : zM := (RX0, cX0_placesOf, 4, (some .int), [], false)
theorem vX0_placesOf : zV yX0_placesOf mX0_placesOf 1 0 := ⟨⟨rfl, rfl, zc5 34 (by decide +kernel) (by decide +kernel), zc1 5 (by decide +kernel) (by decide +kernel), ⟨by decide +kernel, by decide +kernel⟩, by decide +kernel⟩, zc5 32 (by decide +kernel) (by decide +kernel), zc5 33 (by decide +kernel) (by decide +kernel), ⟨_, rfl, rfl⟩⟩
abbrev mX0_reasonAgainst : zM := (RX0, cX0_reasonAgainst, 2, (some .int), [], false)
theorem vX0_reasonAgainst : zV yX0_reasonAgainst mX0_reasonAgainst 1 0 := ⟨⟨rfl, rfl, zc6 22 (by decide +kernel) (by decide +kernel), zc1 5 (by decide +kernel) (by decide +kernel), ⟨by decide +kernel, by decide +kernel⟩, by decide +kernel⟩, zc6 20 (by decide +kernel) (by decide +kernel), zc6 21 (by decide +kernel) (by decide +kernel), ⟨_, rfl, rfl⟩⟩
abbrev mX0_rowNamed : zM := (RX0, cX0_rowNamed, 4, (some .int), [], false)
theorem vX0_rowNamed : zV yX0_rowNamed mX0_rowNamed 1 0 := ⟨⟨rfl, rfl, zc4 70 (by decide +kernel) (by decide +kernel), zc1 5 (by decide +kernel) (by decide +kernel), ⟨by decide +kernel, by decide +kernel⟩, by decide +kernel⟩, zc4 68 (by decide +kernel) (by decide +kernel), zc4 69 (by decide +kernel) (by decide +kernel), ⟨_, rfl, rfl⟩⟩
abbrev mX0_rowsHaving : zM := (RX0, cX0_rowsHaving, 4, (some .int), [], false)
theorem vX0_rowsHaving : zV yX0_rowsHaving mX0_rowsHaving 1 0 := ⟨⟨rfl, rfl, zc4 223 (by decide +kernel) (by decide +kernel), zc1 5 (by decide +kernel) (by decide +kernel), ⟨by decide +kernel, by decide +kernel⟩, by decide +kernel⟩, zc4 221 (by decide +kernel) (by decide +kernel), zc4 222 (by decide +kernel) (by decide +kernel), ⟨_, rfl, rfl⟩⟩
abbrev mX0_signOfName : zM := (RX0, cX0_signOfName, 3, (some .int), [], false)
theorem vX0_signOfName : zS yX0_signOfName mX0_signOfName 2 := ⟨⟨rfl, rfl, zc3 35 (by decide +kernel) (by decide +kernel), zc1 5 (by decide +kernel) (by decide +kernel), ⟨by decide +kernel, by decide +kernel⟩, by decide +kernel⟩, zc3 34 (by decide +kernel) (by decide +kernel)⟩
abbrev mX0_withLetter : zM := (RX0, cX0_withLetter, 4, (some .long), [], false)
theorem vX0_withLetter : zS yX0_withLetter mX0_withLetter 3 := ⟨⟨rfl, rfl, zc2 231 (by decide +kernel) (by decide +kernel), zc1 5 (by decide +kernel) (by decide +kernel), ⟨by decide +kernel, by decide +kernel⟩, by decide +kernel⟩, zc2 230 (by decide +kernel) (by decide +kernel)⟩
abbrev mX0_withSign : zM := (RX0, cX0_withSign, 4, (some .long), [], false)
theorem vX0_withSign : zS yX0_withSign mX0_withSign 3 := ⟨⟨rfl, rfl, zc4 66 (by decide +kernel) (by decide +kernel), zc1 5 (by decide +kernel) (by decide +kernel), ⟨by decide +kernel, by decide +kernel⟩, by decide +kernel⟩, zc4 65 (by decide +kernel) (by decide +kernel)⟩
abbrev mX0_wordCount : zM := (RX0, cX0_wordCount, 3, (some .int), [], false)
theorem vX0_wordCount : zV yX0_wordCount mX0_wordCount 0 0 := ⟨⟨rfl, rfl, zc2 94 (by decide +kernel) (by decide +kernel), zc1 5 (by decide +kernel) (by decide +kernel), ⟨by decide +kernel, by decide +kernel⟩, by decide +kernel⟩, zc2 92 (by decide +kernel) (by decide +kernel), zc2 93 (by decide +kernel) (by decide +kernel), ⟨_, rfl, rfl⟩⟩
abbrev mX0_wordOf : zM := (RX0, cX0_wordOf, 4, (some .int), [], false)
theorem vX0_wordOf : zV yX0_wordOf mX0_wordOf 1 0 := ⟨⟨rfl, rfl, zc2 119 (by decide +kernel) (by decide +kernel), zc1 5 (by decide +kernel) (by decide +kernel), ⟨by decide +kernel, by decide +kernel⟩, by decide +kernel⟩, zc2 117 (by decide +kernel) (by decide +kernel), zc2 118 (by decide +kernel) (by decide +kernel), ⟨_, rfl, rfl⟩⟩
abbrev mX1_agreementOf : zM := (RX1, cX1_agreementOf, 4, (some .int), [], false)
theorem vX1_agreementOf : zV yX1_agreementOf mX1_agreementOf 1 1 := ⟨⟨rfl, rfl, zc3 0 (by decide +kernel) (by decide +kernel), zc1 7 (by decide +kernel) (by decide +kernel), ⟨by decide +kernel, by decide +kernel⟩, by decide +kernel⟩, zc2 238 (by decide +kernel) (by decide +kernel), zc2 239 (by decide +kernel) (by decide +kernel), ⟨_, rfl, rfl⟩⟩
abbrev mX1_betterRow : zM := (RX1, cX1_betterRow, 7, (some .boolean), [], false)
theorem vX1_betterRow : zV yX1_betterRow mX1_betterRow 2 1 := ⟨⟨rfl, rfl, zc4 191 (by decide +kernel) (by decide +kernel), zc1 7 (by decide +kernel) (by decide +kernel), ⟨by decide +kernel, by decide +kernel⟩, by decide +kernel⟩, zc4 189 (by decide +kernel) (by decide +kernel), zc4 190 (by decide +kernel) (by decide +kernel), ⟨_, rfl, rfl⟩⟩
abbrev mX1_commonCode : zM := (RX1, cX1_commonCode, 4, (some .int), [], false)
theorem vX1_commonCode : zV yX1_commonCode mX1_commonCode 0 1 := ⟨⟨rfl, rfl, zc2 220 (by decide +kernel) (by decide +kernel), zc1 7 (by decide +kernel) (by decide +kernel), ⟨by decide +kernel, by decide +kernel⟩, by decide +kernel⟩, zc2 218 (by decide +kernel) (by decide +kernel), zc2 219 (by decide +kernel) (by decide +kernel), ⟨_, rfl, rfl⟩⟩
abbrev mX1_commonLetter : zM := (RX1, cX1_commonLetter, 4, (some .int), [], false)
theorem vX1_commonLetter : zV yX1_commonLetter mX1_commonLetter 1 1 := ⟨⟨rfl, rfl, zc2 224 (by decide +kernel) (by decide +kernel), zc1 7 (by decide +kernel) (by decide +kernel), ⟨by decide +kernel, by decide +kernel⟩, by decide +kernel⟩, zc2 223 (by decide +kernel) (by decide +kernel), zcp 11 (by decide +kernel) (by decide +kernel), ⟨_, rfl, rfl⟩⟩
abbrev mX1_countOf : zM := (RX1, cX1_countOf, 3, (some .int), [], false)
theorem vX1_countOf : zV yX1_countOf mX1_countOf 2 1 := ⟨⟨rfl, rfl, zc2 228 (by decide +kernel) (by decide +kernel), zc1 7 (by decide +kernel) (by decide +kernel), ⟨by decide +kernel, by decide +kernel⟩, by decide +kernel⟩, zc2 226 (by decide +kernel) (by decide +kernel), zc2 227 (by decide +kernel) (by decide +kernel), ⟨_, rfl, rfl⟩⟩
abbrev mX1_fill : zM := (RX1, cX1_fill, 6, none, [], false)
theorem vX1_fill : zV yX1_fill mX1_fill 2 1 := ⟨⟨rfl, rfl, zc2 214 (by decide +kernel) (by decide +kernel), zc1 7 (by decide +kernel) (by decide +kernel), ⟨by decide +kernel, by decide +kernel⟩, by decide +kernel⟩, zc2 212 (by decide +kernel) (by decide +kernel), zc2 213 (by decide +kernel) (by decide +kernel), ⟨_, rfl, rfl⟩⟩
abbrev mX1_improveAtMost : zM := (RX1, cX1_improveAtMost, 4, (some .int), [], false)
theorem vX1_improveAtMost : zV yX1_improveAtMost mX1_improveAtMost 2 1 := ⟨⟨rfl, rfl, zc4 204 (by decide +kernel) (by decide +kernel), zc1 7 (by decide +kernel) (by decide +kernel), ⟨by decide +kernel, by decide +kernel⟩, by decide +kernel⟩, zc4 202 (by decide +kernel) (by decide +kernel), zc4 203 (by decide +kernel) (by decide +kernel), ⟨_, rfl, rfl⟩⟩
abbrev mX1_improveOnce : zM := (RX1, cX1_improveOnce, 4, (some .boolean), [], false)
theorem vX1_improveOnce : zV yX1_improveOnce mX1_improveOnce 1 1 := ⟨⟨rfl, rfl, zc4 208 (by decide +kernel) (by decide +kernel), zc1 7 (by decide +kernel) (by decide +kernel), ⟨by decide +kernel, by decide +kernel⟩, by decide +kernel⟩, zc4 206 (by decide +kernel) (by decide +kernel), zc4 207 (by decide +kernel) (by decide +kernel), ⟨_, rfl, rfl⟩⟩
abbrev mX1_init : zM := (RX1, cX1_init, 1, none, [], true)
theorem vX1_init : zN yX1_init mX1_init 0 := ⟨⟨rfl, rfl, zc1 237 (by decide +kernel) (by decide +kernel), zc1 7 (by decide +kernel) (by decide +kernel), ⟨by decide +kernel, by decide +kernel⟩, by decide +kernel⟩, rfl, rfl, zc1 236 (by decide +kernel) (by decide +kernel)⟩
abbrev mX1_weightOf : zM := (RX1, cX1_weightOf, 4, (some .int), [], false)
theorem vX1_weightOf : zV yX1_weightOf mX1_weightOf 1 1 := ⟨⟨rfl, rfl, zc4 197 (by decide +kernel) (by decide +kernel), zc1 7 (by decide +kernel) (by decide +kernel), ⟨by decide +kernel, by decide +kernel⟩, by decide +kernel⟩, zc4 195 (by decide +kernel) (by decide +kernel), zc4 196 (by decide +kernel) (by decide +kernel), ⟨_, rfl, rfl⟩⟩
abbrev mX2_behind : zM := (RX2, cX2_behind, 2, (some .int), [], false)
theorem vX2_behind : zV yX2_behind mX2_behind 1 2 := ⟨⟨rfl, rfl, zc4 169 (by decide +kernel) (by decide +kernel), zc1 4 (by decide +kernel) (by decide +kernel), ⟨by decide +kernel, by decide +kernel⟩, by decide +kernel⟩, zc4 167 (by decide +kernel) (by decide +kernel), zc4 168 (by decide +kernel) (by decide +kernel), ⟨_, rfl, rfl⟩⟩
abbrev mX2_closeRepeat : zM := (RX2, cX2_closeRepeat, 2, none, [], false)
theorem vX2_closeRepeat : zV yX2_closeRepeat mX2_closeRepeat 1 2 := ⟨⟨rfl, rfl, zc4 112 (by decide +kernel) (by decide +kernel), zc1 4 (by decide +kernel) (by decide +kernel), ⟨by decide +kernel, by decide +kernel⟩, by decide +kernel⟩, zc4 111 (by decide +kernel) (by decide +kernel), zcp 25 (by decide +kernel) (by decide +kernel), ⟨_, rfl, rfl⟩⟩
abbrev mX2_finishCommand : zM := (RX2, cX2_finishCommand, 3, none, [], false)
theorem vX2_finishCommand : zV yX2_finishCommand mX2_finishCommand 2 2 := ⟨⟨rfl, rfl, zc4 156 (by decide +kernel) (by decide +kernel), zc1 4 (by decide +kernel) (by decide +kernel), ⟨by decide +kernel, by decide +kernel⟩, by decide +kernel⟩, zc4 155 (by decide +kernel) (by decide +kernel), zcp 27 (by decide +kernel) (by decide +kernel), ⟨_, rfl, rfl⟩⟩
abbrev mX2_hasName : zM := (RX2, cX2_hasName, 1, (some .boolean), [], false)
theorem vX2_hasName : zS yX2_hasName mX2_hasName 1 := ⟨⟨rfl, rfl, zc4 136 (by decide +kernel) (by decide +kernel), zc1 4 (by decide +kernel) (by decide +kernel), ⟨by decide +kernel, by decide +kernel⟩, by decide +kernel⟩, zc4 135 (by decide +kernel) (by decide +kernel)⟩
abbrev mX2_init : zM := (RX2, cX2_init, 1, none, [], true)
theorem vX2_init : zN yX2_init mX2_init 0 := ⟨⟨rfl, rfl, zc1 83 (by decide +kernel) (by decide +kernel), zc1 4 (by decide +kernel) (by decide +kernel), ⟨by decide +kernel, by decide +kernel⟩, by decide +kernel⟩, rfl, rfl, zc1 82 (by decide +kernel) (by decide +kernel)⟩
abbrev mX2_isAtEnd : zM := (RX2, cX2_isAtEnd, 2, (some .boolean), [], false)
theorem vX2_isAtEnd : zV yX2_isAtEnd mX2_isAtEnd 1 2 := ⟨⟨rfl, rfl, zc4 107 (by decide +kernel) (by decide +kernel), zc1 4 (by decide +kernel) (by decide +kernel), ⟨by decide +kernel, by decide +kernel⟩, by decide +kernel⟩, zc4 106 (by decide +kernel) (by decide +kernel), zcp 24 (by decide +kernel) (by decide +kernel), ⟨_, rfl, rfl⟩⟩
abbrev mX2_kindOf : zM := (RX2, cX2_kindOf, 1, (some .int), [], false)
theorem vX2_kindOf : zS yX2_kindOf mX2_kindOf 1 := ⟨⟨rfl, rfl, zc4 121 (by decide +kernel) (by decide +kernel), zc1 4 (by decide +kernel) (by decide +kernel), ⟨by decide +kernel, by decide +kernel⟩, by decide +kernel⟩, zc4 120 (by decide +kernel) (by decide +kernel)⟩
abbrev mX2_passNumberOf : zM := (RX2, cX2_passNumberOf, 3, (some .int), [], false)
theorem vX2_passNumberOf : zS yX2_passNumberOf mX2_passNumberOf 3 := ⟨⟨rfl, rfl, zc4 144 (by decide +kernel) (by decide +kernel), zc1 4 (by decide +kernel) (by decide +kernel), ⟨by decide +kernel, by decide +kernel⟩, by decide +kernel⟩, zc4 143 (by decide +kernel) (by decide +kernel)⟩
abbrev mX2_passRow : zM := (RX2, cX2_passRow, 5, (some .int), [], false)
theorem vX2_passRow : zS yX2_passRow mX2_passRow 2 := ⟨⟨rfl, rfl, zc4 139 (by decide +kernel) (by decide +kernel), zc1 4 (by decide +kernel) (by decide +kernel), ⟨by decide +kernel, by decide +kernel⟩, by decide +kernel⟩, zc4 138 (by decide +kernel) (by decide +kernel)⟩
abbrev mX2_passWord : zM := (RX2, cX2_passWord, 4, (some .int), [], false)
theorem vX2_passWord : zS yX2_passWord mX2_passWord 2 := ⟨⟨rfl, rfl, zc4 148 (by decide +kernel) (by decide +kernel), zc1 4 (by decide +kernel) (by decide +kernel), ⟨by decide +kernel, by decide +kernel⟩, by decide +kernel⟩, zc4 147 (by decide +kernel) (by decide +kernel)⟩
abbrev mX2_read : zM := (RX2, cX2_read, 4, (some .boolean), [], false)
theorem vX2_read : zV yX2_read mX2_read 2 2 := ⟨⟨rfl, rfl, zc4 102 (by decide +kernel) (by decide +kernel), zc1 4 (by decide +kernel) (by decide +kernel), ⟨by decide +kernel, by decide +kernel⟩, by decide +kernel⟩, zc4 100 (by decide +kernel) (by decide +kernel), zc4 101 (by decide +kernel) (by decide +kernel), ⟨_, rfl, rfl⟩⟩
abbrev mX2_readCommand : zM := (RX2, cX2_readCommand, 4, none, [], false)
theorem vX2_readCommand : zV yX2_readCommand mX2_readCommand 2 2 := ⟨⟨rfl, rfl, zc4 118 (by decide +kernel) (by decide +kernel), zc1 4 (by decide +kernel) (by decide +kernel), ⟨by decide +kernel, by decide +kernel⟩, by decide +kernel⟩, zc4 117 (by decide +kernel) (by decide +kernel), zcp 26 (by decide +kernel) (by decide +kernel), ⟨_, rfl, rfl⟩⟩
abbrev mX3_addBounds : zM := (RX3, cX3_addBounds, 5, none, [], false)
theorem vX3_addBounds : zV yX3_addBounds mX3_addBounds 1 3 := ⟨⟨rfl, rfl, zc2 178 (by decide +kernel) (by decide +kernel), zc1 6 (by decide +kernel) (by decide +kernel), ⟨by decide +kernel, by decide +kernel⟩, by decide +kernel⟩, zc2 177 (by decide +kernel) (by decide +kernel), zcp 7 (by decide +kernel) (by decide +kernel), ⟨_, rfl, rfl⟩⟩
abbrev mX3_ask : zM := (RX3, cX3_ask, 5, none, [], false)
theorem vX3_ask : zV yX3_ask mX3_ask 2 3 := ⟨⟨rfl, rfl, zc2 190 (by decide +kernel) (by decide +kernel), zc1 6 (by decide +kernel) (by decide +kernel), ⟨by decide +kernel, by decide +kernel⟩, by decide +kernel⟩, zc2 189 (by decide +kernel) (by decide +kernel), zcp 10 (by decide +kernel) (by decide +kernel), ⟨_, rfl, rfl⟩⟩
abbrev mX3_bestScoreWithout : zM := (RX3, cX3_bestScoreWithout, 5, (some .int), [], false)
theorem vX3_bestScoreWithout : zV yX3_bestScoreWithout mX3_bestScoreWithout 2 3 := ⟨⟨rfl, rfl, zc2 194 (by decide +kernel) (by decide +kernel), zc1 6 (by decide +kernel) (by decide +kernel), ⟨by decide +kernel, by decide +kernel⟩, by decide +kernel⟩, zc2 192 (by decide +kernel) (by decide +kernel), zc2 193 (by decide +kernel) (by decide +kernel), ⟨_, rfl, rfl⟩⟩
abbrev mX3_changeOneLetter : zM := (RX3, cX3_changeOneLetter, 7, none, [], false)
theorem vX3_changeOneLetter : zV yX3_changeOneLetter mX3_changeOneLetter 1 3 := ⟨⟨rfl, rfl, zc2 164 (by decide +kernel) (by decide +kernel), zc1 6 (by decide +kernel) (by decide +kernel), ⟨by decide +kernel, by decide +kernel⟩, by decide +kernel⟩, zc2 163 (by decide +kernel) (by decide +kernel), zcp 5 (by decide +kernel) (by decide +kernel), ⟨_, rfl, rfl⟩⟩
abbrev mX3_countScores : zM := (RX3, cX3_countScores, 2, none, [], false)
theorem vX3_countScores : zV yX3_countScores mX3_countScores 0 3 := ⟨⟨rfl, rfl, zc2 182 (by decide +kernel) (by decide +kernel), zc1 6 (by decide +kernel) (by decide +kernel), ⟨by decide +kernel, by decide +kernel⟩, by decide +kernel⟩, zc2 181 (by decide +kernel) (by decide +kernel), zcp 8 (by decide +kernel) (by decide +kernel), ⟨_, rfl, rfl⟩⟩
abbrev mX3_fillNear : zM := (RX3, cX3_fillNear, 5, none, [], false)
theorem vX3_fillNear : zV yX3_fillNear mX3_fillNear 2 3 := ⟨⟨rfl, rfl, zc2 156 (by decide +kernel) (by decide +kernel), zc1 6 (by decide +kernel) (by decide +kernel), ⟨by decide +kernel, by decide +kernel⟩, by decide +kernel⟩, zc2 155 (by decide +kernel) (by decide +kernel), zcp 4 (by decide +kernel) (by decide +kernel), ⟨_, rfl, rfl⟩⟩
abbrev mX3_forget : zM := (RX3, cX3_forget, 1, none, [], false)
theorem vX3_forget : zV yX3_forget mX3_forget 0 3 := ⟨⟨rfl, rfl, zc3 63 (by decide +kernel) (by decide +kernel), zc1 6 (by decide +kernel) (by decide +kernel), ⟨by decide +kernel, by decide +kernel⟩, by decide +kernel⟩, zc3 61 (by decide +kernel) (by decide +kernel), zc3 62 (by decide +kernel) (by decide +kernel), ⟨_, rfl, rfl⟩⟩
abbrev mX3_go : zM := (RX3, cX3_go, 3, none, [], false)
theorem vX3_go : zV yX3_go mX3_go 1 3 := ⟨⟨rfl, rfl, zc2 147 (by decide +kernel) (by decide +kernel), zc1 6 (by decide +kernel) (by decide +kernel), ⟨by decide +kernel, by decide +kernel⟩, by decide +kernel⟩, zc2 145 (by decide +kernel) (by decide +kernel), zc2 146 (by decide +kernel) (by decide +kernel), ⟨_, rfl, rfl⟩⟩
abbrev mX3_init : zM := (RX3, cX3_init, 1, none, [], true)
theorem vX3_init : zN yX3_init mX3_init 0 := ⟨⟨rfl, rfl, zc1 187 (by decide +kernel) (by decide +kernel), zc1 6 (by decide +kernel) (by decide +kernel), ⟨by decide +kernel, by decide +kernel⟩, by decide +kernel⟩, rfl, rfl, zc1 186 (by decide +kernel) (by decide +kernel)⟩
abbrev mX3_makeRoom : zM := (RX3, cX3_makeRoom, 4, none, [], false)
theorem vX3_makeRoom : zV yX3_makeRoom mX3_makeRoom 1 3 := ⟨⟨rfl, rfl, zc2 151 (by decide +kernel) (by decide +kernel), zc1 6 (by decide +kernel) (by decide +kernel), ⟨by decide +kernel, by decide +kernel⟩, by decide +kernel⟩, zc2 150 (by decide +kernel) (by decide +kernel), zcp 3 (by decide +kernel) (by decide +kernel), ⟨_, rfl, rfl⟩⟩
abbrev mX3_mostHadWord : zM := (RX3, cX3_mostHadWord, 5, (some .int), [], false)
theorem vX3_mostHadWord : zV yX3_mostHadWord mX3_mostHadWord 0 3 := ⟨⟨rfl, rfl, zc5 233 (by decide +kernel) (by decide +kernel), zc1 6 (by decide +kernel) (by decide +kernel), ⟨by decide +kernel, by decide +kernel⟩, by decide +kernel⟩, zc5 231 (by decide +kernel) (by decide +kernel), zc5 232 (by decide +kernel) (by decide +kernel), ⟨_, rfl, rfl⟩⟩
abbrev mX3_nearestOf : zM := (RX3, cX3_nearestOf, 5, (some .int), [], false)
theorem vX3_nearestOf : zV yX3_nearestOf mX3_nearestOf 2 3 := ⟨⟨rfl, rfl, zc2 171 (by decide +kernel) (by decide +kernel), zc1 6 (by decide +kernel) (by decide +kernel), ⟨by decide +kernel, by decide +kernel⟩, by decide +kernel⟩, zc2 170 (by decide +kernel) (by decide +kernel), zcp 6 (by decide +kernel) (by decide +kernel), ⟨_, rfl, rfl⟩⟩
abbrev mX3_rankOfWord : zM := (RX3, cX3_rankOfWord, 5, (some .int), [], false)
theorem vX3_rankOfWord : zV yX3_rankOfWord mX3_rankOfWord 1 3 := ⟨⟨rfl, rfl, zc6 11 (by decide +kernel) (by decide +kernel), zc1 6 (by decide +kernel) (by decide +kernel), ⟨by decide +kernel, by decide +kernel⟩, by decide +kernel⟩, zc6 9 (by decide +kernel) (by decide +kernel), zc6 10 (by decide +kernel) (by decide +kernel), ⟨_, rfl, rfl⟩⟩
abbrev mX3_scoreOf : zM := (RX3, cX3_scoreOf, 2, (some .int), [], false)
theorem vX3_scoreOf : zV yX3_scoreOf mX3_scoreOf 1 3 := ⟨⟨rfl, rfl, zc2 186 (by decide +kernel) (by decide +kernel), zc1 6 (by decide +kernel) (by decide +kernel), ⟨by decide +kernel, by decide +kernel⟩, by decide +kernel⟩, zc2 185 (by decide +kernel) (by decide +kernel), zcp 9 (by decide +kernel) (by decide +kernel), ⟨_, rfl, rfl⟩⟩
abbrev mX3_wordOfRank : zM := (RX3, cX3_wordOfRank, 5, (some .int), [], false)
theorem vX3_wordOfRank : zV yX3_wordOfRank mX3_wordOfRank 1 3 := ⟨⟨rfl, rfl, zc2 202 (by decide +kernel) (by decide +kernel), zc1 6 (by decide +kernel) (by decide +kernel), ⟨by decide +kernel, by decide +kernel⟩, by decide +kernel⟩, zc2 200 (by decide +kernel) (by decide +kernel), zc2 201 (by decide +kernel) (by decide +kernel), ⟨_, rfl, rfl⟩⟩
abbrev mX4_addAllPlaces : zM := (RX4, cX4_addAllPlaces, 4, none, [], false)
theorem vX4_addAllPlaces : zV yX4_addAllPlaces mX4_addAllPlaces 1 4 := ⟨⟨rfl, rfl, zc2 86 (by decide +kernel) (by decide +kernel), zc1 8 (by decide +kernel) (by decide +kernel), ⟨by decide +kernel, by decide +kernel⟩, by decide +kernel⟩, zc2 84 (by decide +kernel) (by decide +kernel), zc2 85 (by decide +kernel) (by decide +kernel), ⟨_, rfl, rfl⟩⟩
abbrev mX4_init : zM := (RX4, cX4_init, 1, none, [], true)
theorem vX4_init : zN yX4_init mX4_init 0 := ⟨⟨rfl, rfl, zc2 13 (by decide +kernel) (by decide +kernel), zc1 8 (by decide +kernel) (by decide +kernel), ⟨by decide +kernel, by decide +kernel⟩, by decide +kernel⟩, rfl, rfl, zc2 12 (by decide +kernel) (by decide +kernel)⟩
abbrev mX4_markShared : zM := (RX4, cX4_markShared, 5, none, [], false)
theorem vX4_markShared : zV yX4_markShared mX4_markShared 3 4 := ⟨⟨rfl, rfl, zc5 153 (by decide +kernel) (by decide +kernel), zc1 8 (by decide +kernel) (by decide +kernel), ⟨by decide +kernel, by decide +kernel⟩, by decide +kernel⟩, zc5 151 (by decide +kernel) (by decide +kernel), zc5 152 (by decide +kernel) (by decide +kernel), ⟨_, rfl, rfl⟩⟩
abbrev mX4_marked : zM := (RX4, cX4_marked, 3, (some .int), [], false)
theorem vX4_marked : zV yX4_marked mX4_marked 0 4 := ⟨⟨rfl, rfl, zc2 126 (by decide +kernel) (by decide +kernel), zc1 8 (by decide +kernel) (by decide +kernel), ⟨by decide +kernel, by decide +kernel⟩, by decide +kernel⟩, zc2 124 (by decide +kernel) (by decide +kernel), zc2 125 (by decide +kernel) (by decide +kernel), ⟨_, rfl, rfl⟩⟩
abbrev mX4_markedAt : zM := (RX4, cX4_markedAt, 4, (some .int), [], false)
theorem vX4_markedAt : zV yX4_markedAt mX4_markedAt 1 4 := ⟨⟨rfl, rfl, zc5 168 (by decide +kernel) (by decide +kernel), zc1 8 (by decide +kernel) (by decide +kernel), ⟨by decide +kernel, by decide +kernel⟩, by decide +kernel⟩, zc5 166 (by decide +kernel) (by decide +kernel), zc5 167 (by decide +kernel) (by decide +kernel), ⟨_, rfl, rfl⟩⟩
abbrev mX4_mostMarked : zM := (RX4, cX4_mostMarked, 4, (some .int), [], false)
theorem vX4_mostMarked : zV yX4_mostMarked mX4_mostMarked 0 4 := ⟨⟨rfl, rfl, zc2 134 (by decide +kernel) (by decide +kernel), zc1 8 (by decide +kernel) (by decide +kernel), ⟨by decide +kernel, by decide +kernel⟩, by decide +kernel⟩, zc2 132 (by decide +kernel) (by decide +kernel), zc2 133 (by decide +kernel) (by decide +kernel), ⟨_, rfl, rfl⟩⟩
abbrev mX4_raiseMarks : zM := (RX4, cX4_raiseMarks, 6, none, [], false)
theorem vX4_raiseMarks : zV yX4_raiseMarks mX4_raiseMarks 3 4 := ⟨⟨rfl, rfl, zc5 157 (by decide +kernel) (by decide +kernel), zc1 8 (by decide +kernel) (by decide +kernel), ⟨by decide +kernel, by decide +kernel⟩, by decide +kernel⟩, zc5 156 (by decide +kernel) (by decide +kernel), zcp 40 (by decide +kernel) (by decide +kernel), ⟨_, rfl, rfl⟩⟩
abbrev mX4_start : zM := (RX4, cX4_start, 3, none, [], false)
theorem vX4_start : zV yX4_start mX4_start 1 4 := ⟨⟨rfl, rfl, zc2 90 (by decide +kernel) (by decide +kernel), zc1 8 (by decide +kernel) (by decide +kernel), ⟨by decide +kernel, by decide +kernel⟩, by decide +kernel⟩, zc2 89 (by decide +kernel) (by decide +kernel), zcp 0 (by decide +kernel) (by decide +kernel), ⟨_, rfl, rfl⟩⟩
abbrev mX4_times : zM := (RX4, cX4_times, 2, (some .int), [], false)
theorem vX4_times : zV yX4_times mX4_times 1 4 := ⟨⟨rfl, rfl, zc5 205 (by decide +kernel) (by decide +kernel), zc1 8 (by decide +kernel) (by decide +kernel), ⟨by decide +kernel, by decide +kernel⟩, by decide +kernel⟩, zc5 203 (by decide +kernel) (by decide +kernel), zc5 204 (by decide +kernel) (by decide +kernel), ⟨_, rfl, rfl⟩⟩
abbrev mX5_init : zM := (RX5, cX5_init, 1, none, [], true)
theorem vX5_init : zN yX5_init mX5_init 0 := ⟨⟨rfl, rfl, zc1 73 (by decide +kernel) (by decide +kernel), zc1 3 (by decide +kernel) (by decide +kernel), ⟨by decide +kernel, by decide +kernel⟩, by decide +kernel⟩, rfl, rfl, zc1 72 (by decide +kernel) (by decide +kernel)⟩
abbrev mX5_read : zM := (RX5, cX5_read, 4, (some .boolean), [], false)
theorem vX5_read : zV yX5_read mX5_read 2 5 := ⟨⟨rfl, rfl, zc3 181 (by decide +kernel) (by decide +kernel), zc1 3 (by decide +kernel) (by decide +kernel), ⟨by decide +kernel, by decide +kernel⟩, by decide +kernel⟩, zc3 179 (by decide +kernel) (by decide +kernel), zc3 180 (by decide +kernel) (by decide +kernel), ⟨_, rfl, rfl⟩⟩
abbrev mX5_readRow : zM := (RX5, cX5_readRow, 8, none, [], false)
theorem vX5_readRow : zV yX5_readRow mX5_readRow 2 5 := ⟨⟨rfl, rfl, zc4 55 (by decide +kernel) (by decide +kernel), zc1 3 (by decide +kernel) (by decide +kernel), ⟨by decide +kernel, by decide +kernel⟩, by decide +kernel⟩, zc4 54 (by decide +kernel) (by decide +kernel), zcp 23 (by decide +kernel) (by decide +kernel), ⟨_, rfl, rfl⟩⟩
abbrev mX5_readSetting : zM := (RX5, cX5_readSetting, 5, (some .int), [], false)
theorem vX5_readSetting : zV yX5_readSetting mX5_readSetting 4 5 := ⟨⟨rfl, rfl, zc4 42 (by decide +kernel) (by decide +kernel), zc1 3 (by decide +kernel) (by decide +kernel), ⟨by decide +kernel, by decide +kernel⟩, by decide +kernel⟩, zc4 41 (by decide +kernel) (by decide +kernel), zcp 22 (by decide +kernel) (by decide +kernel), ⟨_, rfl, rfl⟩⟩
abbrev mX5_readStatement : zM := (RX5, cX5_readStatement, 3, none, [], false)
theorem vX5_readStatement : zV yX5_readStatement mX5_readStatement 2 5 := ⟨⟨rfl, rfl, zc3 217 (by decide +kernel) (by decide +kernel), zc1 3 (by decide +kernel) (by decide +kernel), ⟨by decide +kernel, by decide +kernel⟩, by decide +kernel⟩, zc3 216 (by decide +kernel) (by decide +kernel), zcp 20 (by decide +kernel) (by decide +kernel), ⟨_, rfl, rfl⟩⟩
abbrev mX6_append : zM := (RX6, cX6_append, 3, none, [], false)
theorem vX6_append : zV yX6_append mX6_append 1 6 := ⟨⟨rfl, rfl, zc3 146 (by decide +kernel) (by decide +kernel), zc1 2 (by decide +kernel) (by decide +kernel), ⟨by decide +kernel, by decide +kernel⟩, by decide +kernel⟩, zc3 144 (by decide +kernel) (by decide +kernel), zc3 145 (by decide +kernel) (by decide +kernel), ⟨_, rfl, rfl⟩⟩
abbrev mX6_begin : zM := (RX6, cX6_begin, 1, none, [], false)
theorem vX6_begin : zV yX6_begin mX6_begin 0 6 := ⟨⟨rfl, rfl, zc3 189 (by decide +kernel) (by decide +kernel), zc1 2 (by decide +kernel) (by decide +kernel), ⟨by decide +kernel, by decide +kernel⟩, by decide +kernel⟩, zc3 187 (by decide +kernel) (by decide +kernel), zc3 188 (by decide +kernel) (by decide +kernel), ⟨_, rfl, rfl⟩⟩
abbrev mX6_fail : zM := (RX6, cX6_fail, 2, none, [], false)
theorem vX6_fail : zV yX6_fail mX6_fail 1 6 := ⟨⟨rfl, rfl, zc4 38 (by decide +kernel) (by decide +kernel), zc1 2 (by decide +kernel) (by decide +kernel), ⟨by decide +kernel, by decide +kernel⟩, by decide +kernel⟩, zc4 36 (by decide +kernel) (by decide +kernel), zc4 37 (by decide +kernel) (by decide +kernel), ⟨_, rfl, rfl⟩⟩
abbrev mX6_init : zM := (RX6, cX6_init, 1, none, [], true)
theorem vX6_init : zN yX6_init mX6_init 0 := ⟨⟨rfl, rfl, zc1 34 (by decide +kernel) (by decide +kernel), zc1 2 (by decide +kernel) (by decide +kernel), ⟨by decide +kernel, by decide +kernel⟩, by decide +kernel⟩, rfl, rfl, zc1 33 (by decide +kernel) (by decide +kernel)⟩
abbrev mX6_isBlank : zM := (RX6, cX6_isBlank, 1, (some .boolean), [], false)
theorem vX6_isBlank : zS yX6_isBlank mX6_isBlank 1 := ⟨⟨rfl, rfl, zc3 196 (by decide +kernel) (by decide +kernel), zc1 2 (by decide +kernel) (by decide +kernel), ⟨by decide +kernel, by decide +kernel⟩, by decide +kernel⟩, zc3 195 (by decide +kernel) (by decide +kernel)⟩
abbrev mX6_isDigit : zM := (RX6, cX6_isDigit, 1, (some .boolean), [], false)
theorem vX6_isDigit : zS yX6_isDigit mX6_isDigit 1 := ⟨⟨rfl, rfl, zc3 206 (by decide +kernel) (by decide +kernel), zc1 2 (by decide +kernel) (by decide +kernel), ⟨by decide +kernel, by decide +kernel⟩, by decide +kernel⟩, zc3 205 (by decide +kernel) (by decide +kernel)⟩
abbrev mX6_isLetter : zM := (RX6, cX6_isLetter, 1, (some .boolean), [], false)
theorem vX6_isLetter : zS yX6_isLetter mX6_isLetter 1 := ⟨⟨rfl, rfl, zc3 199 (by decide +kernel) (by decide +kernel), zc1 2 (by decide +kernel) (by decide +kernel), ⟨by decide +kernel, by decide +kernel⟩, by decide +kernel⟩, zc3 198 (by decide +kernel) (by decide +kernel)⟩
abbrev mX6_isMark : zM := (RX6, cX6_isMark, 2, (some .boolean), [], false)
theorem vX6_isMark : zV yX6_isMark mX6_isMark 1 6 := ⟨⟨rfl, rfl, zc4 90 (by decide +kernel) (by decide +kernel), zc1 2 (by decide +kernel) (by decide +kernel), ⟨by decide +kernel, by decide +kernel⟩, by decide +kernel⟩, zc4 88 (by decide +kernel) (by decide +kernel), zc4 89 (by decide +kernel) (by decide +kernel), ⟨_, rfl, rfl⟩⟩
abbrev mX6_isSingle : zM := (RX6, cX6_isSingle, 1, (some .boolean), [], false)
theorem vX6_isSingle : zS yX6_isSingle mX6_isSingle 1 := ⟨⟨rfl, rfl, zc3 213 (by decide +kernel) (by decide +kernel), zc1 2 (by decide +kernel) (by decide +kernel), ⟨by decide +kernel, by decide +kernel⟩, by decide +kernel⟩, zc3 212 (by decide +kernel) (by decide +kernel)⟩
abbrev mX6_isWord : zM := (RX6, cX6_isWord, 3, (some .boolean), [], false)
theorem vX6_isWord : zV yX6_isWord mX6_isWord 1 6 := ⟨⟨rfl, rfl, zc3 222 (by decide +kernel) (by decide +kernel), zc1 2 (by decide +kernel) (by decide +kernel), ⟨by decide +kernel, by decide +kernel⟩, by decide +kernel⟩, zc3 220 (by decide +kernel) (by decide +kernel), zc3 221 (by decide +kernel) (by decide +kernel), ⟨_, rfl, rfl⟩⟩
abbrev mX6_nameCode : zM := (RX6, cX6_nameCode, 4, (some .long), [], false)
theorem vX6_nameCode : zV yX6_nameCode mX6_nameCode 0 6 := ⟨⟨rfl, rfl, zc4 59 (by decide +kernel) (by decide +kernel), zc1 2 (by decide +kernel) (by decide +kernel), ⟨by decide +kernel, by decide +kernel⟩, by decide +kernel⟩, zc4 57 (by decide +kernel) (by decide +kernel), zc4 58 (by decide +kernel) (by decide +kernel), ⟨_, rfl, rfl⟩⟩
abbrev mX6_next : zM := (RX6, cX6_next, 1, none, [], false)
theorem vX6_next : zV yX6_next mX6_next 0 6 := ⟨⟨rfl, rfl, zc3 193 (by decide +kernel) (by decide +kernel), zc1 2 (by decide +kernel) (by decide +kernel), ⟨by decide +kernel, by decide +kernel⟩, by decide +kernel⟩, zc3 191 (by decide +kernel) (by decide +kernel), zc3 192 (by decide +kernel) (by decide +kernel), ⟨_, rfl, rfl⟩⟩
abbrev mX6_passMark : zM := (RX6, cX6_passMark, 2, none, [], false)
theorem vX6_passMark : zV yX6_passMark mX6_passMark 1 6 := ⟨⟨rfl, rfl, zc4 86 (by decide +kernel) (by decide +kernel), zc1 2 (by decide +kernel) (by decide +kernel), ⟨by decide +kernel, by decide +kernel⟩, by decide +kernel⟩, zc4 84 (by decide +kernel) (by decide +kernel), zc4 85 (by decide +kernel) (by decide +kernel), ⟨_, rfl, rfl⟩⟩
abbrev mX6_passNumber : zM := (RX6, cX6_passNumber, 4, (some .int), [], false)
theorem vX6_passNumber : zV yX6_passNumber mX6_passNumber 2 6 := ⟨⟨rfl, rfl, zc4 47 (by decide +kernel) (by decide +kernel), zc1 2 (by decide +kernel) (by decide +kernel), ⟨by decide +kernel, by decide +kernel⟩, by decide +kernel⟩, zc4 45 (by decide +kernel) (by decide +kernel), zc4 46 (by decide +kernel) (by decide +kernel), ⟨_, rfl, rfl⟩⟩
abbrev mX6_readNumber : zM := (RX6, cX6_readNumber, 1, none, [], false)
theorem vX6_readNumber : zV yX6_readNumber mX6_readNumber 0 6 := ⟨⟨rfl, rfl, zc3 210 (by decide +kernel) (by decide +kernel), zc1 2 (by decide +kernel) (by decide +kernel), ⟨by decide +kernel, by decide +kernel⟩, by decide +kernel⟩, zc3 209 (by decide +kernel) (by decide +kernel), zcp 19 (by decide +kernel) (by decide +kernel), ⟨_, rfl, rfl⟩⟩
abbrev mX6_readWord : zM := (RX6, cX6_readWord, 1, none, [], false)
theorem vX6_readWord : zV yX6_readWord mX6_readWord 0 6 := ⟨⟨rfl, rfl, zc3 203 (by decide +kernel) (by decide +kernel), zc1 2 (by decide +kernel) (by decide +kernel), ⟨by decide +kernel, by decide +kernel⟩, by decide +kernel⟩, zc3 202 (by decide +kernel) (by decide +kernel), zcp 18 (by decide +kernel) (by decide +kernel), ⟨_, rfl, rfl⟩⟩
abbrev mX6_signAt : zM := (RX6, cX6_signAt, 2, (some .int), [], false)
theorem vX6_signAt : zV yX6_signAt mX6_signAt 1 6 := ⟨⟨rfl, rfl, zc3 236 (by decide +kernel) (by decide +kernel), zc1 2 (by decide +kernel) (by decide +kernel), ⟨by decide +kernel, by decide +kernel⟩, by decide +kernel⟩, zc3 235 (by decide +kernel) (by decide +kernel), zcp 21 (by decide +kernel) (by decide +kernel), ⟨_, rfl, rfl⟩⟩
abbrev mX6_wordCode : zM := (RX6, cX6_wordCode, 6, (some .long), [], false)
theorem vX6_wordCode : zV yX6_wordCode mX6_wordCode 1 6 := ⟨⟨rfl, rfl, zc4 75 (by decide +kernel) (by decide +kernel), zc1 2 (by decide +kernel) (by decide +kernel), ⟨by decide +kernel, by decide +kernel⟩, by decide +kernel⟩, zc4 73 (by decide +kernel) (by decide +kernel), zc4 74 (by decide +kernel) (by decide +kernel), ⟨_, rfl, rfl⟩⟩
abbrev mX6_wordSize : zM := (RX6, cX6_wordSize, 1, (some .int), [], false)
theorem vX6_wordSize : zV yX6_wordSize mX6_wordSize 0 6 := ⟨⟨rfl, rfl, zc4 63 (by decide +kernel) (by decide +kernel), zc1 2 (by decide +kernel) (by decide +kernel), ⟨by decide +kernel, by decide +kernel⟩, by decide +kernel⟩, zc4 61 (by decide +kernel) (by decide +kernel), zc4 62 (by decide +kernel) (by decide +kernel), ⟨_, rfl, rfl⟩⟩
abbrev mX7_agreement : zM := (RX7, cX7_agreement, 1, (some .int), [], false)
theorem vX7_agreement : zV yX7_agreement mX7_agreement 0 7 := ⟨⟨rfl, rfl, zc2 236 (by decide +kernel) (by decide +kernel), zc1 1 (by decide +kernel) (by decide +kernel), ⟨by decide +kernel, by decide +kernel⟩, by decide +kernel⟩, zc2 234 (by decide +kernel) (by decide +kernel), zc2 235 (by decide +kernel) (by decide +kernel), ⟨_, rfl, rfl⟩⟩
abbrev mX7_agreementFrom : zM := (RX7, cX7_agreementFrom, 4, (some .int), [], false)
theorem vX7_agreementFrom : zV yX7_agreementFrom mX7_agreementFrom 2 7 := ⟨⟨rfl, rfl, zc6 50 (by decide +kernel) (by decide +kernel), zc1 1 (by decide +kernel) (by decide +kernel), ⟨by decide +kernel, by decide +kernel⟩, by decide +kernel⟩, zc6 49 (by decide +kernel) (by decide +kernel), zcp 41 (by decide +kernel) (by decide +kernel), ⟨_, rfl, rfl⟩⟩
abbrev mX7_agreementShare : zM := (RX7, cX7_agreementShare, 2, (some .float), [], false)
theorem vX7_agreementShare : zV yX7_agreementShare mX7_agreementShare 0 7 := ⟨⟨rfl, rfl, zc3 5 (by decide +kernel) (by decide +kernel), zc1 1 (by decide +kernel) (by decide +kernel), ⟨by decide +kernel, by decide +kernel⟩, by decide +kernel⟩, zc3 3 (by decide +kernel) (by decide +kernel), zc3 4 (by decide +kernel) (by decide +kernel), ⟨_, rfl, rfl⟩⟩
abbrev mX7_best : zM := (RX7, cX7_best, 2, (some .int), [], false)
theorem vX7_best : zV yX7_best mX7_best 1 7 := ⟨⟨rfl, rfl, zc5 212 (by decide +kernel) (by decide +kernel), zc1 1 (by decide +kernel) (by decide +kernel), ⟨by decide +kernel, by decide +kernel⟩, by decide +kernel⟩, zc5 210 (by decide +kernel) (by decide +kernel), zc5 211 (by decide +kernel) (by decide +kernel), ⟨_, rfl, rfl⟩⟩
abbrev mX7_bestStart : zM := (RX7, cX7_bestStart, 6, (some .int), [], false)
theorem vX7_bestStart : zV yX7_bestStart mX7_bestStart 1 7 := ⟨⟨rfl, rfl, zc6 57 (by decide +kernel) (by decide +kernel), zc1 1 (by decide +kernel) (by decide +kernel), ⟨by decide +kernel, by decide +kernel⟩, by decide +kernel⟩, zc6 55 (by decide +kernel) (by decide +kernel), zc6 56 (by decide +kernel) (by decide +kernel), ⟨_, rfl, rfl⟩⟩
abbrev mX7_better : zM := (RX7, cX7_better, 2, (some .int), [], false)
theorem vX7_better : zV yX7_better mX7_better 1 7 := ⟨⟨rfl, rfl, zc6 89 (by decide +kernel) (by decide +kernel), zc1 1 (by decide +kernel) (by decide +kernel), ⟨by decide +kernel, by decide +kernel⟩, by decide +kernel⟩, zc6 87 (by decide +kernel) (by decide +kernel), zc6 88 (by decide +kernel) (by decide +kernel), ⟨_, rfl, rfl⟩⟩
abbrev mX7_bound : zM := (RX7, cX7_bound, 3, (some .int), [], false)
theorem vX7_bound : zV yX7_bound mX7_bound 2 7 := ⟨⟨rfl, rfl, zc5 220 (by decide +kernel) (by decide +kernel), zc1 1 (by decide +kernel) (by decide +kernel), ⟨by decide +kernel, by decide +kernel⟩, by decide +kernel⟩, zc5 218 (by decide +kernel) (by decide +kernel), zc5 219 (by decide +kernel) (by decide +kernel), ⟨_, rfl, rfl⟩⟩
abbrev mX7_choose : zM := (RX7, cX7_choose, 3, (some .int), [], false)
theorem vX7_choose : zV yX7_choose mX7_choose 2 7 := ⟨⟨rfl, rfl, zc6 73 (by decide +kernel) (by decide +kernel), zc1 1 (by decide +kernel) (by decide +kernel), ⟨by decide +kernel, by decide +kernel⟩, by decide +kernel⟩, zc6 71 (by decide +kernel) (by decide +kernel), zc6 72 (by decide +kernel) (by decide +kernel), ⟨_, rfl, rfl⟩⟩
abbrev mX7_clear : zM := (RX7, cX7_clear, 3, (some .int), [], false)
theorem vX7_clear : zV yX7_clear mX7_clear 1 7 := ⟨⟨rfl, rfl, zc6 81 (by decide +kernel) (by decide +kernel), zc1 1 (by decide +kernel) (by decide +kernel), ⟨by decide +kernel, by decide +kernel⟩, by decide +kernel⟩, zc6 79 (by decide +kernel) (by decide +kernel), zc6 80 (by decide +kernel) (by decide +kernel), ⟨_, rfl, rfl⟩⟩
abbrev mX7_closest : zM := (RX7, cX7_closest, 3, (some .int), [], false)
theorem vX7_closest : zV yX7_closest mX7_closest 2 7 := ⟨⟨rfl, rfl, zc5 133 (by decide +kernel) (by decide +kernel), zc1 1 (by decide +kernel) (by decide +kernel), ⟨by decide +kernel, by decide +kernel⟩, by decide +kernel⟩, zc5 131 (by decide +kernel) (by decide +kernel), zc5 132 (by decide +kernel) (by decide +kernel), ⟨_, rfl, rfl⟩⟩
abbrev mX7_common : zM := (RX7, cX7_common, 1, (some .int), [], false)
theorem vX7_common : zV yX7_common mX7_common 0 7 := ⟨⟨rfl, rfl, zc2 206 (by decide +kernel) (by decide +kernel), zc1 1 (by decide +kernel) (by decide +kernel), ⟨by decide +kernel, by decide +kernel⟩, by decide +kernel⟩, zc2 204 (by decide +kernel) (by decide +kernel), zc2 205 (by decide +kernel) (by decide +kernel), ⟨_, rfl, rfl⟩⟩
abbrev mX7_commonest : zM := (RX7, cX7_commonest, 1, (some .int), [], false)
theorem vX7_commonest : zV yX7_commonest mX7_commonest 0 7 := ⟨⟨rfl, rfl, zc2 130 (by decide +kernel) (by decide +kernel), zc1 1 (by decide +kernel) (by decide +kernel), ⟨by decide +kernel, by decide +kernel⟩, by decide +kernel⟩, zc2 128 (by decide +kernel) (by decide +kernel), zc2 129 (by decide +kernel) (by decide +kernel), ⟨_, rfl, rfl⟩⟩
abbrev mX7_count : zM := (RX7, cX7_count, 3, (some .int), [], false)
theorem vX7_count : zV yX7_count mX7_count 2 7 := ⟨⟨rfl, rfl, zc6 29 (by decide +kernel) (by decide +kernel), zc1 1 (by decide +kernel) (by decide +kernel), ⟨by decide +kernel, by decide +kernel⟩, by decide +kernel⟩, zc6 27 (by decide +kernel) (by decide +kernel), zc6 28 (by decide +kernel) (by decide +kernel), ⟨_, rfl, rfl⟩⟩
abbrev mX7_differ : zM := (RX7, cX7_differ, 3, (some .int), [], false)
theorem vX7_differ : zV yX7_differ mX7_differ 2 7 := ⟨⟨rfl, rfl, zc5 92 (by decide +kernel) (by decide +kernel), zc1 1 (by decide +kernel) (by decide +kernel), ⟨by decide +kernel, by decide +kernel⟩, by decide +kernel⟩, zc5 90 (by decide +kernel) (by decide +kernel), zc5 91 (by decide +kernel) (by decide +kernel), ⟨_, rfl, rfl⟩⟩
abbrev mX7_distance : zM := (RX7, cX7_distance, 3, (some .int), [], false)
theorem vX7_distance : zV yX7_distance mX7_distance 2 7 := ⟨⟨rfl, rfl, zc5 106 (by decide +kernel) (by decide +kernel), zc1 1 (by decide +kernel) (by decide +kernel), ⟨by decide +kernel, by decide +kernel⟩, by decide +kernel⟩, zc5 104 (by decide +kernel) (by decide +kernel), zc5 105 (by decide +kernel) (by decide +kernel), ⟨_, rfl, rfl⟩⟩
abbrev mX7_errorCode : zM := (RX7, cX7_errorCode, 1, (some .int), [], false)
theorem vX7_errorCode : zV yX7_errorCode mX7_errorCode 0 7 := ⟨⟨rfl, rfl, zc2 74 (by decide +kernel) (by decide +kernel), zc1 1 (by decide +kernel) (by decide +kernel), ⟨by decide +kernel, by decide +kernel⟩, by decide +kernel⟩, zc2 72 (by decide +kernel) (by decide +kernel), zc2 73 (by decide +kernel) (by decide +kernel), ⟨_, rfl, rfl⟩⟩
abbrev mX7_errorPosition : zM := (RX7, cX7_errorPosition, 1, (some .int), [], false)
theorem vX7_errorPosition : zV yX7_errorPosition mX7_errorPosition 0 7 := ⟨⟨rfl, rfl, zc2 78 (by decide +kernel) (by decide +kernel), zc1 1 (by decide +kernel) (by decide +kernel), ⟨by decide +kernel, by decide +kernel⟩, by decide +kernel⟩, zc2 76 (by decide +kernel) (by decide +kernel), zc2 77 (by decide +kernel) (by decide +kernel), ⟨_, rfl, rfl⟩⟩
abbrev mX7_feed : zM := (RX7, cX7_feed, 6, (some .int), [], false)
theorem vX7_feed : zV yX7_feed mX7_feed 5 7 := ⟨⟨rfl, rfl, zc3 75 (by decide +kernel) (by decide +kernel), zc1 1 (by decide +kernel) (by decide +kernel), ⟨by decide +kernel, by decide +kernel⟩, by decide +kernel⟩, zc3 73 (by decide +kernel) (by decide +kernel), zc3 74 (by decide +kernel) (by decide +kernel), ⟨_, rfl, rfl⟩⟩
abbrev mX7_forgetSearches : zM := (RX7, cX7_forgetSearches, 1, none, [], false)
theorem vX7_forgetSearches : zV yX7_forgetSearches mX7_forgetSearches 0 7 := ⟨⟨rfl, rfl, zc3 59 (by decide +kernel) (by decide +kernel), zc1 1 (by decide +kernel) (by decide +kernel), ⟨by decide +kernel, by decide +kernel⟩, by decide +kernel⟩, zc3 58 (by decide +kernel) (by decide +kernel), zcp 16 (by decide +kernel) (by decide +kernel), ⟨_, rfl, rfl⟩⟩
abbrev mX7_having : zM := (RX7, cX7_having, 2, (some .int), [], false)
theorem vX7_having : zV yX7_having mX7_having 1 7 := ⟨⟨rfl, rfl, zc5 125 (by decide +kernel) (by decide +kernel), zc1 1 (by decide +kernel) (by decide +kernel), ⟨by decide +kernel, by decide +kernel⟩, by decide +kernel⟩, zc5 123 (by decide +kernel) (by decide +kernel), zc5 124 (by decide +kernel) (by decide +kernel), ⟨_, rfl, rfl⟩⟩
abbrev mX7_hit : zM := (RX7, cX7_hit, 8, (some .int), [], false)
theorem vX7_hit : zV yX7_hit mX7_hit 3 7 := ⟨⟨rfl, rfl, zc5 187 (by decide +kernel) (by decide +kernel), zc1 1 (by decide +kernel) (by decide +kernel), ⟨by decide +kernel, by decide +kernel⟩, by decide +kernel⟩, zc5 185 (by decide +kernel) (by decide +kernel), zc5 186 (by decide +kernel) (by decide +kernel), ⟨_, rfl, rfl⟩⟩
abbrev mX7_hits : zM := (RX7, cX7_hits, 6, (some .int), [], false)
theorem vX7_hits : zV yX7_hits mX7_hits 1 7 := ⟨⟨rfl, rfl, zc5 175 (by decide +kernel) (by decide +kernel), zc1 1 (by decide +kernel) (by decide +kernel), ⟨by decide +kernel, by decide +kernel⟩, by decide +kernel⟩, zc5 173 (by decide +kernel) (by decide +kernel), zc5 174 (by decide +kernel) (by decide +kernel), ⟨_, rfl, rfl⟩⟩
abbrev mX7_improve : zM := (RX7, cX7_improve, 2, (some .int), [], false)
theorem vX7_improve : zV yX7_improve mX7_improve 1 7 := ⟨⟨rfl, rfl, zc6 97 (by decide +kernel) (by decide +kernel), zc1 1 (by decide +kernel) (by decide +kernel), ⟨by decide +kernel, by decide +kernel⟩, by decide +kernel⟩, zc6 95 (by decide +kernel) (by decide +kernel), zc6 96 (by decide +kernel) (by decide +kernel), ⟨_, rfl, rfl⟩⟩
abbrev mX7_improvesToEnd : zM := (RX7, cX7_improvesToEnd, 3, (some .int), [], false)
theorem vX7_improvesToEnd : zV yX7_improvesToEnd mX7_improvesToEnd 1 7 := ⟨⟨rfl, rfl, zc6 64 (by decide +kernel) (by decide +kernel), zc1 1 (by decide +kernel) (by decide +kernel), ⟨by decide +kernel, by decide +kernel⟩, by decide +kernel⟩, zc6 62 (by decide +kernel) (by decide +kernel), zc6 63 (by decide +kernel) (by decide +kernel), ⟨_, rfl, rfl⟩⟩
abbrev mX7_init : zM := (RX7, cX7_init, 2, none, [], true)
theorem vX7_init : zN yX7_init mX7_init 0 := ⟨⟨rfl, rfl, zc1 26 (by decide +kernel) (by decide +kernel), zc1 1 (by decide +kernel) (by decide +kernel), ⟨by decide +kernel, by decide +kernel⟩, by decide +kernel⟩, rfl, rfl, zc1 25 (by decide +kernel) (by decide +kernel)⟩
abbrev mX7_isCountOfChanges : zM := (RX7, cX7_isCountOfChanges, 1, (some .boolean), [], false)
theorem vX7_isCountOfChanges : zS yX7_isCountOfChanges mX7_isCountOfChanges 1 := ⟨⟨rfl, rfl, zc5 14 (by decide +kernel) (by decide +kernel), zc1 1 (by decide +kernel) (by decide +kernel), ⟨by decide +kernel, by decide +kernel⟩, by decide +kernel⟩, zc5 13 (by decide +kernel) (by decide +kernel)⟩
abbrev mX7_isCountOfImproves : zM := (RX7, cX7_isCountOfImproves, 1, (some .boolean), [], false)
theorem vX7_isCountOfImproves : zS yX7_isCountOfImproves mX7_isCountOfImproves 1 := ⟨⟨rfl, rfl, zc4 200 (by decide +kernel) (by decide +kernel), zc1 1 (by decide +kernel) (by decide +kernel), ⟨by decide +kernel, by decide +kernel⟩, by decide +kernel⟩, zc4 199 (by decide +kernel) (by decide +kernel)⟩
abbrev mX7_keepPast : zM := (RX7, cX7_keepPast, 3, none, [], false)
theorem vX7_keepPast : zV yX7_keepPast mX7_keepPast 0 7 := ⟨⟨rfl, rfl, zc4 161 (by decide +kernel) (by decide +kernel), zc1 1 (by decide +kernel) (by decide +kernel), ⟨by decide +kernel, by decide +kernel⟩, by decide +kernel⟩, zc4 160 (by decide +kernel) (by decide +kernel), zcp 28 (by decide +kernel) (by decide +kernel), ⟨_, rfl, rfl⟩⟩
abbrev mX7_kinds : zM := (RX7, cX7_kinds, 1, (some .int), [], false)
theorem vX7_kinds : zV yX7_kinds mX7_kinds 0 7 := ⟨⟨rfl, rfl, zc2 82 (by decide +kernel) (by decide +kernel), zc1 1 (by decide +kernel) (by decide +kernel), ⟨by decide +kernel, by decide +kernel⟩, by decide +kernel⟩, zc2 80 (by decide +kernel) (by decide +kernel), zc2 81 (by decide +kernel) (by decide +kernel), ⟨_, rfl, rfl⟩⟩
abbrev mX7_letter : zM := (RX7, cX7_letter, 3, (some .int), [], false)
theorem vX7_letter : zV yX7_letter mX7_letter 2 7 := ⟨⟨rfl, rfl, zc5 76 (by decide +kernel) (by decide +kernel), zc1 1 (by decide +kernel) (by decide +kernel), ⟨by decide +kernel, by decide +kernel⟩, by decide +kernel⟩, zc5 74 (by decide +kernel) (by decide +kernel), zc5 75 (by decide +kernel) (by decide +kernel), ⟨_, rfl, rfl⟩⟩
abbrev mX7_meanDistance : zM := (RX7, cX7_meanDistance, 2, (some .double), [], false)
theorem vX7_meanDistance : zV yX7_meanDistance mX7_meanDistance 0 7 := ⟨⟨rfl, rfl, zc3 10 (by decide +kernel) (by decide +kernel), zc1 1 (by decide +kernel) (by decide +kernel), ⟨by decide +kernel, by decide +kernel⟩, by decide +kernel⟩, zc3 8 (by decide +kernel) (by decide +kernel), zc3 9 (by decide +kernel) (by decide +kernel), ⟨_, rfl, rfl⟩⟩
abbrev mX7_mostHad : zM := (RX7, cX7_mostHad, 3, (some .int), [], false)
theorem vX7_mostHad : zV yX7_mostHad mX7_mostHad 1 7 := ⟨⟨rfl, rfl, zc5 228 (by decide +kernel) (by decide +kernel), zc1 1 (by decide +kernel) (by decide +kernel), ⟨by decide +kernel, by decide +kernel⟩, by decide +kernel⟩, zc5 226 (by decide +kernel) (by decide +kernel), zc5 227 (by decide +kernel) (by decide +kernel), ⟨_, rfl, rfl⟩⟩
abbrev mX7_outlier : zM := (RX7, cX7_outlier, 5, (some .int), [], false)
theorem vX7_outlier : zV yX7_outlier mX7_outlier 0 7 := ⟨⟨rfl, rfl, zc2 138 (by decide +kernel) (by decide +kernel), zc1 1 (by decide +kernel) (by decide +kernel), ⟨by decide +kernel, by decide +kernel⟩, by decide +kernel⟩, zc2 136 (by decide +kernel) (by decide +kernel), zc2 137 (by decide +kernel) (by decide +kernel), ⟨_, rfl, rfl⟩⟩
abbrev mX7_putChanges : zM := (RX7, cX7_putChanges, 2, none, [], false)
theorem vX7_putChanges : zV yX7_putChanges mX7_putChanges 1 7 := ⟨⟨rfl, rfl, zc5 18 (by decide +kernel) (by decide +kernel), zc1 1 (by decide +kernel) (by decide +kernel), ⟨by decide +kernel, by decide +kernel⟩, by decide +kernel⟩, zc5 17 (by decide +kernel) (by decide +kernel), zcp 37 (by decide +kernel) (by decide +kernel), ⟨_, rfl, rfl⟩⟩
abbrev mX7_putOut : zM := (RX7, cX7_putOut, 3, none, [], false)
theorem vX7_putOut : zV yX7_putOut mX7_putOut 2 7 := ⟨⟨rfl, rfl, zc5 7 (by decide +kernel) (by decide +kernel), zc1 1 (by decide +kernel) (by decide +kernel), ⟨by decide +kernel, by decide +kernel⟩, by decide +kernel⟩, zc5 6 (by decide +kernel) (by decide +kernel), zcp 35 (by decide +kernel) (by decide +kernel), ⟨_, rfl, rfl⟩⟩
abbrev mX7_rankOf : zM := (RX7, cX7_rankOf, 2, (some .int), [], false)
theorem vX7_rankOf : zV yX7_rankOf mX7_rankOf 1 7 := ⟨⟨rfl, rfl, zc6 7 (by decide +kernel) (by decide +kernel), zc1 1 (by decide +kernel) (by decide +kernel), ⟨by decide +kernel, by decide +kernel⟩, by decide +kernel⟩, zc6 5 (by decide +kernel) (by decide +kernel), zc6 6 (by decide +kernel) (by decide +kernel), ⟨_, rfl, rfl⟩⟩
abbrev mX7_ranked : zM := (RX7, cX7_ranked, 2, (some .int), [], false)
theorem vX7_ranked : zV yX7_ranked mX7_ranked 1 7 := ⟨⟨rfl, rfl, zc2 198 (by decide +kernel) (by decide +kernel), zc1 1 (by decide +kernel) (by decide +kernel), ⟨by decide +kernel, by decide +kernel⟩, by decide +kernel⟩, zc2 196 (by decide +kernel) (by decide +kernel), zc2 197 (by decide +kernel) (by decide +kernel), ⟨_, rfl, rfl⟩⟩
abbrev mX7_readText : zM := (RX7, cX7_readText, 2, (some .int), [], false)
theorem vX7_readText : zV yX7_readText mX7_readText 0 7 := ⟨⟨rfl, rfl, zc3 177 (by decide +kernel) (by decide +kernel), zc1 1 (by decide +kernel) (by decide +kernel), ⟨by decide +kernel, by decide +kernel⟩, by decide +kernel⟩, zc3 175 (by decide +kernel) (by decide +kernel), zc3 176 (by decide +kernel) (by decide +kernel), ⟨_, rfl, rfl⟩⟩
abbrev mX7_replaceBoard : zM := (RX7, cX7_replaceBoard, 2, none, [], false)
theorem vX7_replaceBoard : zV yX7_replaceBoard mX7_replaceBoard 1 7 := ⟨⟨rfl, rfl, zc3 51 (by decide +kernel) (by decide +kernel), zc1 1 (by decide +kernel) (by decide +kernel), ⟨by decide +kernel, by decide +kernel⟩, by decide +kernel⟩, zc3 50 (by decide +kernel) (by decide +kernel), zcp 15 (by decide +kernel) (by decide +kernel), ⟨_, rfl, rfl⟩⟩
abbrev mX7_report : zM := (RX7, cX7_report, 3, (some .int), [], false)
theorem vX7_report : zV yX7_report mX7_report 0 7 := ⟨⟨rfl, rfl, zc3 24 (by decide +kernel) (by decide +kernel), zc1 1 (by decide +kernel) (by decide +kernel), ⟨by decide +kernel, by decide +kernel⟩, by decide +kernel⟩, zc3 22 (by decide +kernel) (by decide +kernel), zc3 23 (by decide +kernel) (by decide +kernel), ⟨_, rfl, rfl⟩⟩
abbrev mX7_reportByte : zM := (RX7, cX7_reportByte, 2, (some .int), [], false)
theorem vX7_reportByte : zV yX7_reportByte mX7_reportByte 1 7 := ⟨⟨rfl, rfl, zc6 144 (by decide +kernel) (by decide +kernel), zc1 1 (by decide +kernel) (by decide +kernel), ⟨by decide +kernel, by decide +kernel⟩, by decide +kernel⟩, zc6 142 (by decide +kernel) (by decide +kernel), zc6 143 (by decide +kernel) (by decide +kernel), ⟨_, rfl, rfl⟩⟩
abbrev mX7_requireRow : zM := (RX7, cX7_requireRow, 2, none, [], false)
theorem vX7_requireRow : zV yX7_requireRow mX7_requireRow 1 7 := ⟨⟨rfl, rfl, zc5 51 (by decide +kernel) (by decide +kernel), zc1 1 (by decide +kernel) (by decide +kernel), ⟨by decide +kernel, by decide +kernel⟩, by decide +kernel⟩, zc5 50 (by decide +kernel) (by decide +kernel), zcp 38 (by decide +kernel) (by decide +kernel), ⟨_, rfl, rfl⟩⟩
abbrev mX7_requireWord : zM := (RX7, cX7_requireWord, 2, none, [], false)
theorem vX7_requireWord : zV yX7_requireWord mX7_requireWord 1 7 := ⟨⟨rfl, rfl, zc5 96 (by decide +kernel) (by decide +kernel), zc1 1 (by decide +kernel) (by decide +kernel), ⟨by decide +kernel, by decide +kernel⟩, by decide +kernel⟩, zc5 95 (by decide +kernel) (by decide +kernel), zcp 39 (by decide +kernel) (by decide +kernel), ⟨_, rfl, rfl⟩⟩
abbrev mX7_restore : zM := (RX7, cX7_restore, 1, (some .int), [], false)
theorem vX7_restore : zV yX7_restore mX7_restore 0 7 := ⟨⟨rfl, rfl, zc6 152 (by decide +kernel) (by decide +kernel), zc1 1 (by decide +kernel) (by decide +kernel), ⟨by decide +kernel, by decide +kernel⟩, by decide +kernel⟩, zc6 150 (by decide +kernel) (by decide +kernel), zc6 151 (by decide +kernel) (by decide +kernel), ⟨_, rfl, rfl⟩⟩
abbrev mX7_row : zM := (RX7, cX7_row, 3, (some .int), [], false)
theorem vX7_row : zV yX7_row mX7_row 2 7 := ⟨⟨rfl, rfl, zc5 47 (by decide +kernel) (by decide +kernel), zc1 1 (by decide +kernel) (by decide +kernel), ⟨by decide +kernel, by decide +kernel⟩, by decide +kernel⟩, zc5 45 (by decide +kernel) (by decide +kernel), zc5 46 (by decide +kernel) (by decide +kernel), ⟨_, rfl, rfl⟩⟩
abbrev mX7_runBetter : zM := (RX7, cX7_runBetter, 3, (some .boolean), [], false)
theorem vX7_runBetter : zV yX7_runBetter mX7_runBetter 1 7 := ⟨⟨rfl, rfl, zc4 187 (by decide +kernel) (by decide +kernel), zc1 1 (by decide +kernel) (by decide +kernel), ⟨by decide +kernel, by decide +kernel⟩, by decide +kernel⟩, zc4 186 (by decide +kernel) (by decide +kernel), zcp 33 (by decide +kernel) (by decide +kernel), ⟨_, rfl, rfl⟩⟩
abbrev mX7_runChanges : zM := (RX7, cX7_runChanges, 3, (some .boolean), [], false)
theorem vX7_runChanges : zV yX7_runChanges mX7_runChanges 1 7 := ⟨⟨rfl, rfl, zc5 11 (by decide +kernel) (by decide +kernel), zc1 1 (by decide +kernel) (by decide +kernel), ⟨by decide +kernel, by decide +kernel⟩, by decide +kernel⟩, zc5 10 (by decide +kernel) (by decide +kernel), zcp 36 (by decide +kernel) (by decide +kernel), ⟨_, rfl, rfl⟩⟩
abbrev mX7_runChoose : zM := (RX7, cX7_runChoose, 4, (some .boolean), [], false)
theorem vX7_runChoose : zV yX7_runChoose mX7_runChoose 2 7 := ⟨⟨rfl, rfl, zc4 178 (by decide +kernel) (by decide +kernel), zc1 1 (by decide +kernel) (by decide +kernel), ⟨by decide +kernel, by decide +kernel⟩, by decide +kernel⟩, zc4 177 (by decide +kernel) (by decide +kernel), zcp 31 (by decide +kernel) (by decide +kernel), ⟨_, rfl, rfl⟩⟩
abbrev mX7_runClear : zM := (RX7, cX7_runClear, 3, (some .boolean), [], false)
theorem vX7_runClear : zV yX7_runClear mX7_runClear 1 7 := ⟨⟨rfl, rfl, zc4 183 (by decide +kernel) (by decide +kernel), zc1 1 (by decide +kernel) (by decide +kernel), ⟨by decide +kernel, by decide +kernel⟩, by decide +kernel⟩, zc4 182 (by decide +kernel) (by decide +kernel), zcp 32 (by decide +kernel) (by decide +kernel), ⟨_, rfl, rfl⟩⟩
abbrev mX7_runCommand : zM := (RX7, cX7_runCommand, 4, (some .boolean), [], false)
theorem vX7_runCommand : zV yX7_runCommand mX7_runCommand 1 7 := ⟨⟨rfl, rfl, zc4 174 (by decide +kernel) (by decide +kernel), zc1 1 (by decide +kernel) (by decide +kernel), ⟨by decide +kernel, by decide +kernel⟩, by decide +kernel⟩, zc4 173 (by decide +kernel) (by decide +kernel), zcp 30 (by decide +kernel) (by decide +kernel), ⟨_, rfl, rfl⟩⟩
abbrev mX7_runCommands : zM := (RX7, cX7_runCommands, 7, (some .boolean), [], false)
theorem vX7_runCommands : zV yX7_runCommands mX7_runCommands 3 7 := ⟨⟨rfl, rfl, zc4 165 (by decide +kernel) (by decide +kernel), zc1 1 (by decide +kernel) (by decide +kernel), ⟨by decide +kernel, by decide +kernel⟩, by decide +kernel⟩, zc4 164 (by decide +kernel) (by decide +kernel), zcp 29 (by decide +kernel) (by decide +kernel), ⟨_, rfl, rfl⟩⟩
abbrev mX7_runOut : zM := (RX7, cX7_runOut, 4, (some .boolean), [], false)
theorem vX7_runOut : zV yX7_runOut mX7_runOut 2 7 := ⟨⟨rfl, rfl, zc5 3 (by decide +kernel) (by decide +kernel), zc1 1 (by decide +kernel) (by decide +kernel), ⟨by decide +kernel, by decide +kernel⟩, by decide +kernel⟩, zc5 2 (by decide +kernel) (by decide +kernel), zcp 34 (by decide +kernel) (by decide +kernel), ⟨_, rfl, rfl⟩⟩
abbrev mX7_runScript : zM := (RX7, cX7_runScript, 2, (some .int), [], false)
theorem vX7_runScript : zV yX7_runScript mX7_runScript 0 7 := ⟨⟨rfl, rfl, zc4 98 (by decide +kernel) (by decide +kernel), zc1 1 (by decide +kernel) (by decide +kernel), ⟨by decide +kernel, by decide +kernel⟩, by decide +kernel⟩, zc4 96 (by decide +kernel) (by decide +kernel), zc4 97 (by decide +kernel) (by decide +kernel), ⟨_, rfl, rfl⟩⟩
abbrev mX7_save : zM := (RX7, cX7_save, 1, (some .int), [], false)
theorem vX7_save : zV yX7_save mX7_save 0 7 := ⟨⟨rfl, rfl, zc3 67 (by decide +kernel) (by decide +kernel), zc1 1 (by decide +kernel) (by decide +kernel), ⟨by decide +kernel, by decide +kernel⟩, by decide +kernel⟩, zc3 65 (by decide +kernel) (by decide +kernel), zc3 66 (by decide +kernel) (by decide +kernel), ⟨_, rfl, rfl⟩⟩
abbrev mX7_score : zM := (RX7, cX7_score, 2, (some .int), [], false)
theorem vX7_score : zV yX7_score mX7_score 1 7 := ⟨⟨rfl, rfl, zc5 114 (by decide +kernel) (by decide +kernel), zc1 1 (by decide +kernel) (by decide +kernel), ⟨by decide +kernel, by decide +kernel⟩, by decide +kernel⟩, zc5 112 (by decide +kernel) (by decide +kernel), zc5 113 (by decide +kernel) (by decide +kernel), ⟨_, rfl, rfl⟩⟩
abbrev mX7_scoreWithout : zM := (RX7, cX7_scoreWithout, 2, (some .int), [], false)
theorem vX7_scoreWithout : zV yX7_scoreWithout mX7_scoreWithout 1 7 := ⟨⟨rfl, rfl, zc6 0 (by decide +kernel) (by decide +kernel), zc1 1 (by decide +kernel) (by decide +kernel), ⟨by decide +kernel, by decide +kernel⟩, by decide +kernel⟩, zc5 238 (by decide +kernel) (by decide +kernel), zc5 239 (by decide +kernel) (by decide +kernel), ⟨_, rfl, rfl⟩⟩
abbrev mX7_searched : zM := (RX7, cX7_searched, 1, (some (.object "HiddenWords$Search")), [], false)
theorem vX7_searched : zV yX7_searched mX7_searched 0 7 := ⟨⟨rfl, rfl, zc2 143 (by decide +kernel) (by decide +kernel), zc1 1 (by decide +kernel) (by decide +kernel), ⟨by decide +kernel, by decide +kernel⟩, by decide +kernel⟩, zc2 142 (by decide +kernel) (by decide +kernel), zcp 2 (by decide +kernel) (by decide +kernel), ⟨_, rfl, rfl⟩⟩
abbrev mX7_second : zM := (RX7, cX7_second, 3, (some .int), [], false)
theorem vX7_second : zV yX7_second mX7_second 1 7 := ⟨⟨rfl, rfl, zc6 18 (by decide +kernel) (by decide +kernel), zc1 1 (by decide +kernel) (by decide +kernel), ⟨by decide +kernel, by decide +kernel⟩, by decide +kernel⟩, zc6 16 (by decide +kernel) (by decide +kernel), zc6 17 (by decide +kernel) (by decide +kernel), ⟨_, rfl, rfl⟩⟩
abbrev mX7_setChanges : zM := (RX7, cX7_setChanges, 3, (some .int), [], false)
theorem vX7_setChanges : zV yX7_setChanges mX7_setChanges 1 7 := ⟨⟨rfl, rfl, zc6 136 (by decide +kernel) (by decide +kernel), zc1 1 (by decide +kernel) (by decide +kernel), ⟨by decide +kernel, by decide +kernel⟩, by decide +kernel⟩, zc6 134 (by decide +kernel) (by decide +kernel), zc6 135 (by decide +kernel) (by decide +kernel), ⟨_, rfl, rfl⟩⟩
abbrev mX7_setOut : zM := (RX7, cX7_setOut, 3, (some .int), [], false)
theorem vX7_setOut : zV yX7_setOut mX7_setOut 2 7 := ⟨⟨rfl, rfl, zc6 128 (by decide +kernel) (by decide +kernel), zc1 1 (by decide +kernel) (by decide +kernel), ⟨by decide +kernel, by decide +kernel⟩, by decide +kernel⟩, zc6 126 (by decide +kernel) (by decide +kernel), zc6 127 (by decide +kernel) (by decide +kernel), ⟨_, rfl, rfl⟩⟩
abbrev mX7_setting : zM := (RX7, cX7_setting, 2, (some .int), [], false)
theorem vX7_setting : zV yX7_setting mX7_setting 1 7 := ⟨⟨rfl, rfl, zc5 25 (by decide +kernel) (by decide +kernel), zc1 1 (by decide +kernel) (by decide +kernel), ⟨by decide +kernel, by decide +kernel⟩, by decide +kernel⟩, zc5 23 (by decide +kernel) (by decide +kernel), zc5 24 (by decide +kernel) (by decide +kernel), ⟨_, rfl, rfl⟩⟩
abbrev mX7_shared : zM := (RX7, cX7_shared, 3, (some .int), [], false)
theorem vX7_shared : zV yX7_shared mX7_shared 2 7 := ⟨⟨rfl, rfl, zc5 149 (by decide +kernel) (by decide +kernel), zc1 1 (by decide +kernel) (by decide +kernel), ⟨by decide +kernel, by decide +kernel⟩, by decide +kernel⟩, zc5 147 (by decide +kernel) (by decide +kernel), zc5 148 (by decide +kernel) (by decide +kernel), ⟨_, rfl, rfl⟩⟩
abbrev mX7_sharedAt : zM := (RX7, cX7_sharedAt, 4, (some .int), [], false)
theorem vX7_sharedAt : zV yX7_sharedAt mX7_sharedAt 3 7 := ⟨⟨rfl, rfl, zc5 164 (by decide +kernel) (by decide +kernel), zc1 1 (by decide +kernel) (by decide +kernel), ⟨by decide +kernel, by decide +kernel⟩, by decide +kernel⟩, zc5 162 (by decide +kernel) (by decide +kernel), zc5 163 (by decide +kernel) (by decide +kernel), ⟨_, rfl, rfl⟩⟩
abbrev mX7_signOf : zM := (RX7, cX7_signOf, 5, (some .int), [], false)
theorem vX7_signOf : zV yX7_signOf mX7_signOf 2 7 := ⟨⟨rfl, rfl, zc3 39 (by decide +kernel) (by decide +kernel), zc1 1 (by decide +kernel) (by decide +kernel), ⟨by decide +kernel, by decide +kernel⟩, by decide +kernel⟩, zc3 38 (by decide +kernel) (by decide +kernel), zcp 14 (by decide +kernel) (by decide +kernel), ⟨_, rfl, rfl⟩⟩
abbrev mX7_spread : zM := (RX7, cX7_spread, 5, (some .int), [], false)
theorem vX7_spread : zV yX7_spread mX7_spread 1 7 := ⟨⟨rfl, rfl, zc5 141 (by decide +kernel) (by decide +kernel), zc1 1 (by decide +kernel) (by decide +kernel), ⟨by decide +kernel, by decide +kernel⟩, by decide +kernel⟩, zc5 139 (by decide +kernel) (by decide +kernel), zc5 140 (by decide +kernel) (by decide +kernel), ⟨_, rfl, rfl⟩⟩
abbrev mX7_take : zM := (RX7, cX7_take, 2, (some .int), [], false)
theorem vX7_take : zV yX7_take mX7_take 1 7 := ⟨⟨rfl, rfl, zc6 105 (by decide +kernel) (by decide +kernel), zc1 1 (by decide +kernel) (by decide +kernel), ⟨by decide +kernel, by decide +kernel⟩, by decide +kernel⟩, zc6 103 (by decide +kernel) (by decide +kernel), zc6 104 (by decide +kernel) (by decide +kernel), ⟨_, rfl, rfl⟩⟩
abbrev mX7_takeBest : zM := (RX7, cX7_takeBest, 2, (some .int), [], false)
theorem vX7_takeBest : zV yX7_takeBest mX7_takeBest 0 7 := ⟨⟨rfl, rfl, zc6 113 (by decide +kernel) (by decide +kernel), zc1 1 (by decide +kernel) (by decide +kernel), ⟨by decide +kernel, by decide +kernel⟩, by decide +kernel⟩, zc6 111 (by decide +kernel) (by decide +kernel), zc6 112 (by decide +kernel) (by decide +kernel), ⟨_, rfl, rfl⟩⟩
abbrev mX7_taken : zM := (RX7, cX7_taken, 2, (some .int), [], false)
theorem vX7_taken : zV yX7_taken mX7_taken 1 7 := ⟨⟨rfl, rfl, zc3 20 (by decide +kernel) (by decide +kernel), zc1 1 (by decide +kernel) (by decide +kernel), ⟨by decide +kernel, by decide +kernel⟩, by decide +kernel⟩, zc3 18 (by decide +kernel) (by decide +kernel), zc3 19 (by decide +kernel) (by decide +kernel), ⟨_, rfl, rfl⟩⟩
abbrev mX7_timesOf : zM := (RX7, cX7_timesOf, 2, (some .int), [], false)
theorem vX7_timesOf : zV yX7_timesOf mX7_timesOf 1 7 := ⟨⟨rfl, rfl, zc5 201 (by decide +kernel) (by decide +kernel), zc1 1 (by decide +kernel) (by decide +kernel), ⟨by decide +kernel, by decide +kernel⟩, by decide +kernel⟩, zc5 199 (by decide +kernel) (by decide +kernel), zc5 200 (by decide +kernel) (by decide +kernel), ⟨_, rfl, rfl⟩⟩
abbrev mX7_truncate : zM := (RX7, cX7_truncate, 2, (some .int), [], false)
theorem vX7_truncate : zV yX7_truncate mX7_truncate 1 7 := ⟨⟨rfl, rfl, zc3 154 (by decide +kernel) (by decide +kernel), zc1 1 (by decide +kernel) (by decide +kernel), ⟨by decide +kernel, by decide +kernel⟩, by decide +kernel⟩, zc3 152 (by decide +kernel) (by decide +kernel), zc3 153 (by decide +kernel) (by decide +kernel), ⟨_, rfl, rfl⟩⟩
abbrev mX7_tryFrom : zM := (RX7, cX7_tryFrom, 3, (some .int), [], false)
theorem vX7_tryFrom : zV yX7_tryFrom mX7_tryFrom 2 7 := ⟨⟨rfl, rfl, zc6 46 (by decide +kernel) (by decide +kernel), zc1 1 (by decide +kernel) (by decide +kernel), ⟨by decide +kernel, by decide +kernel⟩, by decide +kernel⟩, zc6 44 (by decide +kernel) (by decide +kernel), zc6 45 (by decide +kernel) (by decide +kernel), ⟨_, rfl, rfl⟩⟩
abbrev mX7_undo : zM := (RX7, cX7_undo, 1, (some .int), [], false)
theorem vX7_undo : zV yX7_undo mX7_undo 0 7 := ⟨⟨rfl, rfl, zc3 47 (by decide +kernel) (by decide +kernel), zc1 1 (by decide +kernel) (by decide +kernel), ⟨by decide +kernel, by decide +kernel⟩, by decide +kernel⟩, zc3 45 (by decide +kernel) (by decide +kernel), zc3 46 (by decide +kernel) (by decide +kernel), ⟨_, rfl, rfl⟩⟩
abbrev mX7_weight : zM := (RX7, cX7_weight, 3, (some .int), [], false)
theorem vX7_weight : zV yX7_weight mX7_weight 2 7 := ⟨⟨rfl, rfl, zc6 38 (by decide +kernel) (by decide +kernel), zc1 1 (by decide +kernel) (by decide +kernel), ⟨by decide +kernel, by decide +kernel⟩, by decide +kernel⟩, zc6 36 (by decide +kernel) (by decide +kernel), zc6 37 (by decide +kernel) (by decide +kernel), ⟨_, rfl, rfl⟩⟩
abbrev mX7_whyNotTake : zM := (RX7, cX7_whyNotTake, 2, (some .int), [], false)
theorem vX7_whyNotTake : zV yX7_whyNotTake mX7_whyNotTake 1 7 := ⟨⟨rfl, rfl, zc6 121 (by decide +kernel) (by decide +kernel), zc1 1 (by decide +kernel) (by decide +kernel), ⟨by decide +kernel, by decide +kernel⟩, by decide +kernel⟩, zc6 119 (by decide +kernel) (by decide +kernel), zc6 120 (by decide +kernel) (by decide +kernel), ⟨_, rfl, rfl⟩⟩
abbrev mX7_wordAt : zM := (RX7, cX7_wordAt, 3, (some .int), [], false)
theorem vX7_wordAt : zV yX7_wordAt mX7_wordAt 2 7 := ⟨⟨rfl, rfl, zc5 84 (by decide +kernel) (by decide +kernel), zc1 1 (by decide +kernel) (by decide +kernel), ⟨by decide +kernel, by decide +kernel⟩, by decide +kernel⟩, zc5 82 (by decide +kernel) (by decide +kernel), zc5 83 (by decide +kernel) (by decide +kernel), ⟨_, rfl, rfl⟩⟩
abbrev mX7_writeByte : zM := (RX7, cX7_writeByte, 2, none, [], false)
theorem vX7_writeByte : zV yX7_writeByte mX7_writeByte 1 7 := ⟨⟨rfl, rfl, zc3 28 (by decide +kernel) (by decide +kernel), zc1 1 (by decide +kernel) (by decide +kernel), ⟨by decide +kernel, by decide +kernel⟩, by decide +kernel⟩, zc3 27 (by decide +kernel) (by decide +kernel), zcp 12 (by decide +kernel) (by decide +kernel), ⟨_, rfl, rfl⟩⟩
abbrev mX7_writeName : zM := (RX7, cX7_writeName, 5, none, [], false)
theorem vX7_writeName : zV yX7_writeName mX7_writeName 1 7 := ⟨⟨rfl, rfl, zc3 32 (by decide +kernel) (by decide +kernel), zc1 1 (by decide +kernel) (by decide +kernel), ⟨by decide +kernel, by decide +kernel⟩, by decide +kernel⟩, zc3 31 (by decide +kernel) (by decide +kernel), zcp 13 (by decide +kernel) (by decide +kernel), ⟨_, rfl, rfl⟩⟩
abbrev mX8_agreement : zM := (RX8, cX8_agreement, 1, (some .int), [], false)
theorem vX8_agreement : zV yX8_agreement mX8_agreement 0 8 := ⟨⟨rfl, rfl, zc8 221 (by decide +kernel) (by decide +kernel), zc1 9 (by decide +kernel) (by decide +kernel), ⟨by decide +kernel, by decide +kernel⟩, by decide +kernel⟩, zc8 219 (by decide +kernel) (by decide +kernel), zc8 220 (by decide +kernel) (by decide +kernel), ⟨_, rfl, rfl⟩⟩
abbrev mX8_agreementShare : zM := (RX8, cX8_agreementShare, 2, (some .float), [], false)
theorem vX8_agreementShare : zV yX8_agreementShare mX8_agreementShare 0 8 := ⟨⟨rfl, rfl, zc9 21 (by decide +kernel) (by decide +kernel), zc1 9 (by decide +kernel) (by decide +kernel), ⟨by decide +kernel, by decide +kernel⟩, by decide +kernel⟩, zc9 19 (by decide +kernel) (by decide +kernel), zc9 20 (by decide +kernel) (by decide +kernel), ⟨_, rfl, rfl⟩⟩
abbrev mX8_agrees : zM := (RX8, cX8_agrees, 3, (some .int), [], false)
theorem vX8_agrees : zV yX8_agrees mX8_agrees 0 8 := ⟨⟨rfl, rfl, zc8 225 (by decide +kernel) (by decide +kernel), zc1 9 (by decide +kernel) (by decide +kernel), ⟨by decide +kernel, by decide +kernel⟩, by decide +kernel⟩, zc8 224 (by decide +kernel) (by decide +kernel), zcp 97 (by decide +kernel) (by decide +kernel), ⟨_, rfl, rfl⟩⟩
abbrev mX8_beginsText : zM := (RX8, cX8_beginsText, 1, none, [], false)
theorem vX8_beginsText : zV yX8_beginsText mX8_beginsText 0 8 := ⟨⟨rfl, rfl, zc7 125 (by decide +kernel) (by decide +kernel), zc1 9 (by decide +kernel) (by decide +kernel), ⟨by decide +kernel, by decide +kernel⟩, by decide +kernel⟩, zc7 124 (by decide +kernel) (by decide +kernel), zcp 45 (by decide +kernel) (by decide +kernel), ⟨_, rfl, rfl⟩⟩
abbrev mX8_best : zM := (RX8, cX8_best, 2, (some .int), [], false)
theorem vX8_best : zV yX8_best mX8_best 1 8 := ⟨⟨rfl, rfl, zc8 132 (by decide +kernel) (by decide +kernel), zc1 9 (by decide +kernel) (by decide +kernel), ⟨by decide +kernel, by decide +kernel⟩, by decide +kernel⟩, zc8 130 (by decide +kernel) (by decide +kernel), zc8 131 (by decide +kernel) (by decide +kernel), ⟨_, rfl, rfl⟩⟩
abbrev mX8_bestStart : zM := (RX8, cX8_bestStart, 6, (some .int), [], false)
theorem vX8_bestStart : zV yX8_bestStart mX8_bestStart 1 8 := ⟨⟨rfl, rfl, zc9 17 (by decide +kernel) (by decide +kernel), zc1 9 (by decide +kernel) (by decide +kernel), ⟨by decide +kernel, by decide +kernel⟩, by decide +kernel⟩, zc9 15 (by decide +kernel) (by decide +kernel), zc9 16 (by decide +kernel) (by decide +kernel), ⟨_, rfl, rfl⟩⟩
abbrev mX8_better : zM := (RX8, cX8_better, 3, (some .int), [], false)
theorem vX8_better : zV yX8_better mX8_better 1 8 := ⟨⟨rfl, rfl, zc9 58 (by decide +kernel) (by decide +kernel), zc1 9 (by decide +kernel) (by decide +kernel), ⟨by decide +kernel, by decide +kernel⟩, by decide +kernel⟩, zc9 56 (by decide +kernel) (by decide +kernel), zc9 57 (by decide +kernel) (by decide +kernel), ⟨_, rfl, rfl⟩⟩
abbrev mX8_betters : zM := (RX8, cX8_betters, 6, (some .int), [], false)
theorem vX8_betters : zV yX8_betters mX8_betters 1 8 := ⟨⟨rfl, rfl, zc9 13 (by decide +kernel) (by decide +kernel), zc1 9 (by decide +kernel) (by decide +kernel), ⟨by decide +kernel, by decide +kernel⟩, by decide +kernel⟩, zc9 12 (by decide +kernel) (by decide +kernel), zcp 102 (by decide +kernel) (by decide +kernel), ⟨_, rfl, rfl⟩⟩
abbrev mX8_bound : zM := (RX8, cX8_bound, 3, (some .int), [], false)
theorem vX8_bound : zV yX8_bound mX8_bound 2 8 := ⟨⟨rfl, rfl, zc8 145 (by decide +kernel) (by decide +kernel), zc1 9 (by decide +kernel) (by decide +kernel), ⟨by decide +kernel, by decide +kernel⟩, by decide +kernel⟩, zc8 143 (by decide +kernel) (by decide +kernel), zc8 144 (by decide +kernel) (by decide +kernel), ⟨_, rfl, rfl⟩⟩
abbrev mX8_bounds : zM := (RX8, cX8_bounds, 4, (some .int), [], false)
theorem vX8_bounds : zV yX8_bounds mX8_bounds 1 8 := ⟨⟨rfl, rfl, zc8 59 (by decide +kernel) (by decide +kernel), zc1 9 (by decide +kernel) (by decide +kernel), ⟨by decide +kernel, by decide +kernel⟩, by decide +kernel⟩, zc8 58 (by decide +kernel) (by decide +kernel), zcp 77 (by decide +kernel) (by decide +kernel), ⟨_, rfl, rfl⟩⟩
abbrev mX8_choose : zM := (RX8, cX8_choose, 4, (some .int), [], false)
theorem vX8_choose : zV yX8_choose mX8_choose 2 8 := ⟨⟨rfl, rfl, zc9 34 (by decide +kernel) (by decide +kernel), zc1 9 (by decide +kernel) (by decide +kernel), ⟨by decide +kernel, by decide +kernel⟩, by decide +kernel⟩, zc9 32 (by decide +kernel) (by decide +kernel), zc9 33 (by decide +kernel) (by decide +kernel), ⟨_, rfl, rfl⟩⟩
abbrev mX8_chooses : zM := (RX8, cX8_chooses, 3, (some .int), [], false)
theorem vX8_chooses : zV yX8_chooses mX8_chooses 2 8 := ⟨⟨rfl, rfl, zc9 38 (by decide +kernel) (by decide +kernel), zc1 9 (by decide +kernel) (by decide +kernel), ⟨by decide +kernel, by decide +kernel⟩, by decide +kernel⟩, zc9 37 (by decide +kernel) (by decide +kernel), zcp 103 (by decide +kernel) (by decide +kernel), ⟨_, rfl, rfl⟩⟩
abbrev mX8_chosen : zM := (RX8, cX8_chosen, 3, (some .int), [], false)
theorem vX8_chosen : zV yX8_chosen mX8_chosen 0 8 := ⟨⟨rfl, rfl, zc8 213 (by decide +kernel) (by decide +kernel), zc1 9 (by decide +kernel) (by decide +kernel), ⟨by decide +kernel, by decide +kernel⟩, by decide +kernel⟩, zc8 212 (by decide +kernel) (by decide +kernel), zcp 95 (by decide +kernel) (by decide +kernel), ⟨_, rfl, rfl⟩⟩
abbrev mX8_clear : zM := (RX8, cX8_clear, 3, (some .int), [], false)
theorem vX8_clear : zV yX8_clear mX8_clear 1 8 := ⟨⟨rfl, rfl, zc9 50 (by decide +kernel) (by decide +kernel), zc1 9 (by decide +kernel) (by decide +kernel), ⟨by decide +kernel, by decide +kernel⟩, by decide +kernel⟩, zc9 48 (by decide +kernel) (by decide +kernel), zc9 49 (by decide +kernel) (by decide +kernel), ⟨_, rfl, rfl⟩⟩
abbrev mX8_clears : zM := (RX8, cX8_clears, 2, none, [], false)
theorem vX8_clears : zV yX8_clears mX8_clears 0 8 := ⟨⟨rfl, rfl, zc6 163 (by decide +kernel) (by decide +kernel), zc1 9 (by decide +kernel) (by decide +kernel), ⟨by decide +kernel, by decide +kernel⟩, by decide +kernel⟩, zc6 162 (by decide +kernel) (by decide +kernel), zcp 42 (by decide +kernel) (by decide +kernel), ⟨_, rfl, rfl⟩⟩
abbrev mX8_clearsRow : zM := (RX8, cX8_clearsRow, 3, (some .int), [], false)
theorem vX8_clearsRow : zV yX8_clearsRow mX8_clearsRow 1 8 := ⟨⟨rfl, rfl, zc9 54 (by decide +kernel) (by decide +kernel), zc1 9 (by decide +kernel) (by decide +kernel), ⟨by decide +kernel, by decide +kernel⟩, by decide +kernel⟩, zc9 53 (by decide +kernel) (by decide +kernel), zcp 106 (by decide +kernel) (by decide +kernel), ⟨_, rfl, rfl⟩⟩
abbrev mX8_closes : zM := (RX8, cX8_closes, 1, none, [], false)
theorem vX8_closes : zV yX8_closes mX8_closes 0 8 := ⟨⟨rfl, rfl, zc9 127 (by decide +kernel) (by decide +kernel), zc1 9 (by decide +kernel) (by decide +kernel), ⟨by decide +kernel, by decide +kernel⟩, by decide +kernel⟩, zc9 126 (by decide +kernel) (by decide +kernel), zcp 113 (by decide +kernel) (by decide +kernel), ⟨_, rfl, rfl⟩⟩
abbrev mX8_closest : zM := (RX8, cX8_closest, 3, (some .int), [], false)
theorem vX8_closest : zV yX8_closest mX8_closest 2 8 := ⟨⟨rfl, rfl, zc8 71 (by decide +kernel) (by decide +kernel), zc1 9 (by decide +kernel) (by decide +kernel), ⟨by decide +kernel, by decide +kernel⟩, by decide +kernel⟩, zc8 69 (by decide +kernel) (by decide +kernel), zc8 70 (by decide +kernel) (by decide +kernel), ⟨_, rfl, rfl⟩⟩
abbrev mX8_command : zM := (RX8, cX8_command, 3, none, [], false)
theorem vX8_command : zV yX8_command mX8_command 0 8 := ⟨⟨rfl, rfl, zc9 102 (by decide +kernel) (by decide +kernel), zc1 9 (by decide +kernel) (by decide +kernel), ⟨by decide +kernel, by decide +kernel⟩, by decide +kernel⟩, zc9 101 (by decide +kernel) (by decide +kernel), zcp 109 (by decide +kernel) (by decide +kernel), ⟨_, rfl, rfl⟩⟩
abbrev mX8_commandHere : zM := (RX8, cX8_commandHere, 1, (some .int), [], false)
theorem vX8_commandHere : zV yX8_commandHere mX8_commandHere 0 8 := ⟨⟨rfl, rfl, zc9 106 (by decide +kernel) (by decide +kernel), zc1 9 (by decide +kernel) (by decide +kernel), ⟨by decide +kernel, by decide +kernel⟩, by decide +kernel⟩, zc9 105 (by decide +kernel) (by decide +kernel), zcp 110 (by decide +kernel) (by decide +kernel), ⟨_, rfl, rfl⟩⟩
abbrev mX8_common : zM := (RX8, cX8_common, 3, (some .int), [], false)
theorem vX8_common : zV yX8_common mX8_common 0 8 := ⟨⟨rfl, rfl, zc8 209 (by decide +kernel) (by decide +kernel), zc1 9 (by decide +kernel) (by decide +kernel), ⟨by decide +kernel, by decide +kernel⟩, by decide +kernel⟩, zc8 207 (by decide +kernel) (by decide +kernel), zc8 208 (by decide +kernel) (by decide +kernel), ⟨_, rfl, rfl⟩⟩
abbrev mX8_commonest : zM := (RX8, cX8_commonest, 3, (some .int), [], false)
theorem vX8_commonest : zV yX8_commonest mX8_commonest 0 8 := ⟨⟨rfl, rfl, zc8 128 (by decide +kernel) (by decide +kernel), zc1 9 (by decide +kernel) (by decide +kernel), ⟨by decide +kernel, by decide +kernel⟩, by decide +kernel⟩, zc8 126 (by decide +kernel) (by decide +kernel), zc8 127 (by decide +kernel) (by decide +kernel), ⟨_, rfl, rfl⟩⟩
abbrev mX8_count : zM := (RX8, cX8_count, 3, (some .int), [], false)
theorem vX8_count : zV yX8_count mX8_count 2 8 := ⟨⟨rfl, rfl, zc8 201 (by decide +kernel) (by decide +kernel), zc1 9 (by decide +kernel) (by decide +kernel), ⟨by decide +kernel, by decide +kernel⟩, by decide +kernel⟩, zc8 199 (by decide +kernel) (by decide +kernel), zc8 200 (by decide +kernel) (by decide +kernel), ⟨_, rfl, rfl⟩⟩
abbrev mX8_differ : zM := (RX8, cX8_differ, 5, (some .int), [], false)
theorem vX8_differ : zV yX8_differ mX8_differ 2 8 := ⟨⟨rfl, rfl, zc8 27 (by decide +kernel) (by decide +kernel), zc1 9 (by decide +kernel) (by decide +kernel), ⟨by decide +kernel, by decide +kernel⟩, by decide +kernel⟩, zc8 25 (by decide +kernel) (by decide +kernel), zc8 26 (by decide +kernel) (by decide +kernel), ⟨_, rfl, rfl⟩⟩
abbrev mX8_differsAt : zM := (RX8, cX8_differsAt, 6, (some .int), [], false)
theorem vX8_differsAt : zV yX8_differsAt mX8_differsAt 3 8 := ⟨⟨rfl, rfl, zc8 47 (by decide +kernel) (by decide +kernel), zc1 9 (by decide +kernel) (by decide +kernel), ⟨by decide +kernel, by decide +kernel⟩, by decide +kernel⟩, zc8 46 (by decide +kernel) (by decide +kernel), zcp 75 (by decide +kernel) (by decide +kernel), ⟨_, rfl, rfl⟩⟩
abbrev mX8_distance : zM := (RX8, cX8_distance, 3, (some .int), [], false)
theorem vX8_distance : zV yX8_distance mX8_distance 2 8 := ⟨⟨rfl, rfl, zc8 39 (by decide +kernel) (by decide +kernel), zc1 9 (by decide +kernel) (by decide +kernel), ⟨by decide +kernel, by decide +kernel⟩, by decide +kernel⟩, zc8 37 (by decide +kernel) (by decide +kernel), zc8 38 (by decide +kernel) (by decide +kernel), ⟨_, rfl, rfl⟩⟩
abbrev mX8_does : zM := (RX8, cX8_does, 4, (some .boolean), [], false)
theorem vX8_does : zV yX8_does mX8_does 3 8 := ⟨⟨rfl, rfl, zc9 135 (by decide +kernel) (by decide +kernel), zc1 9 (by decide +kernel) (by decide +kernel), ⟨by decide +kernel, by decide +kernel⟩, by decide +kernel⟩, zc9 134 (by decide +kernel) (by decide +kernel), zcp 115 (by decide +kernel) (by decide +kernel), ⟨_, rfl, rfl⟩⟩
abbrev mX8_endsText : zM := (RX8, cX8_endsText, 1, (some .boolean), [], false)
theorem vX8_endsText : zV yX8_endsText mX8_endsText 0 8 := ⟨⟨rfl, rfl, zc7 206 (by decide +kernel) (by decide +kernel), zc1 9 (by decide +kernel) (by decide +kernel), ⟨by decide +kernel, by decide +kernel⟩, by decide +kernel⟩, zc7 205 (by decide +kernel) (by decide +kernel), zcp 62 (by decide +kernel) (by decide +kernel), ⟨_, rfl, rfl⟩⟩
abbrev mX8_errorCode : zM := (RX8, cX8_errorCode, 1, (some .int), [], false)
theorem vX8_errorCode : zV yX8_errorCode mX8_errorCode 0 8 := ⟨⟨rfl, rfl, zc7 101 (by decide +kernel) (by decide +kernel), zc1 9 (by decide +kernel) (by decide +kernel), ⟨by decide +kernel, by decide +kernel⟩, by decide +kernel⟩, zc7 99 (by decide +kernel) (by decide +kernel), zc7 100 (by decide +kernel) (by decide +kernel), ⟨_, rfl, rfl⟩⟩
abbrev mX8_errorPosition : zM := (RX8, cX8_errorPosition, 1, (some .int), [], false)
theorem vX8_errorPosition : zV yX8_errorPosition mX8_errorPosition 0 8 := ⟨⟨rfl, rfl, zc7 105 (by decide +kernel) (by decide +kernel), zc1 9 (by decide +kernel) (by decide +kernel), ⟨by decide +kernel, by decide +kernel⟩, by decide +kernel⟩, zc7 103 (by decide +kernel) (by decide +kernel), zc7 104 (by decide +kernel) (by decide +kernel), ⟨_, rfl, rfl⟩⟩
abbrev mX8_feed : zM := (RX8, cX8_feed, 6, (some .int), [], false)
theorem vX8_feed : zV yX8_feed mX8_feed 5 8 := ⟨⟨rfl, rfl, zc7 79 (by decide +kernel) (by decide +kernel), zc1 9 (by decide +kernel) (by decide +kernel), ⟨by decide +kernel, by decide +kernel⟩, by decide +kernel⟩, zc7 77 (by decide +kernel) (by decide +kernel), zc7 78 (by decide +kernel) (by decide +kernel), ⟨_, rfl, rfl⟩⟩
abbrev mX8_four : zM := (RX8, cX8_four, 3, none, [], false)
theorem vX8_four : zV yX8_four mX8_four 1 8 := ⟨⟨rfl, rfl, zc7 90 (by decide +kernel) (by decide +kernel), zc1 9 (by decide +kernel) (by decide +kernel), ⟨by decide +kernel, by decide +kernel⟩, by decide +kernel⟩, zc7 89 (by decide +kernel) (by decide +kernel), zcp 44 (by decide +kernel) (by decide +kernel), ⟨_, rfl, rfl⟩⟩
abbrev mX8_goOn : zM := (RX8, cX8_goOn, 3, none, [], false)
theorem vX8_goOn : zV yX8_goOn mX8_goOn 0 8 := ⟨⟨rfl, rfl, zc7 129 (by decide +kernel) (by decide +kernel), zc1 9 (by decide +kernel) (by decide +kernel), ⟨by decide +kernel, by decide +kernel⟩, by decide +kernel⟩, zc7 128 (by decide +kernel) (by decide +kernel), zcp 46 (by decide +kernel) (by decide +kernel), ⟨_, rfl, rfl⟩⟩
abbrev mX8_goes : zM := (RX8, cX8_goes, 2, (some .boolean), [], false)
theorem vX8_goes : zV yX8_goes mX8_goes 1 8 := ⟨⟨rfl, rfl, zc7 83 (by decide +kernel) (by decide +kernel), zc1 9 (by decide +kernel) (by decide +kernel), ⟨by decide +kernel, by decide +kernel⟩, by decide +kernel⟩, zc7 82 (by decide +kernel) (by decide +kernel), zcp 43 (by decide +kernel) (by decide +kernel), ⟨_, rfl, rfl⟩⟩
abbrev mX8_goesBoth : zM := (RX8, cX8_goesBoth, 3, (some .boolean), [], false)
theorem vX8_goesBoth : zV yX8_goesBoth mX8_goesBoth 2 8 := ⟨⟨rfl, rfl, zc8 7 (by decide +kernel) (by decide +kernel), zc1 9 (by decide +kernel) (by decide +kernel), ⟨by decide +kernel, by decide +kernel⟩, by decide +kernel⟩, zc8 6 (by decide +kernel) (by decide +kernel), zcp 69 (by decide +kernel) (by decide +kernel), ⟨_, rfl, rfl⟩⟩
abbrev mX8_hasBit : zM := (RX8, cX8_hasBit, 2, (some .boolean), [], false)
theorem vX8_hasBit : zS yX8_hasBit mX8_hasBit 2 := ⟨⟨rfl, rfl, zc7 163 (by decide +kernel) (by decide +kernel), zc1 9 (by decide +kernel) (by decide +kernel), ⟨by decide +kernel, by decide +kernel⟩, by decide +kernel⟩, zc7 162 (by decide +kernel) (by decide +kernel)⟩
abbrev mX8_hasLetters : zM := (RX8, cX8_hasLetters, 3, (some .boolean), [], false)
theorem vX8_hasLetters : zV yX8_hasLetters mX8_hasLetters 0 8 := ⟨⟨rfl, rfl, zc7 190 (by decide +kernel) (by decide +kernel), zc1 9 (by decide +kernel) (by decide +kernel), ⟨by decide +kernel, by decide +kernel⟩, by decide +kernel⟩, zc7 189 (by decide +kernel) (by decide +kernel), zcp 58 (by decide +kernel) (by decide +kernel), ⟨_, rfl, rfl⟩⟩
abbrev mX8_haves : zM := (RX8, cX8_haves, 3, (some .int), [], false)
theorem vX8_haves : zV yX8_haves mX8_haves 0 8 := ⟨⟨rfl, rfl, zc8 67 (by decide +kernel) (by decide +kernel), zc1 9 (by decide +kernel) (by decide +kernel), ⟨by decide +kernel, by decide +kernel⟩, by decide +kernel⟩, zc8 66 (by decide +kernel) (by decide +kernel), zcp 78 (by decide +kernel) (by decide +kernel), ⟨_, rfl, rfl⟩⟩
abbrev mX8_having : zM := (RX8, cX8_having, 2, (some .int), [], false)
theorem vX8_having : zV yX8_having mX8_having 1 8 := ⟨⟨rfl, rfl, zc8 63 (by decide +kernel) (by decide +kernel), zc1 9 (by decide +kernel) (by decide +kernel), ⟨by decide +kernel, by decide +kernel⟩, by decide +kernel⟩, zc8 61 (by decide +kernel) (by decide +kernel), zc8 62 (by decide +kernel) (by decide +kernel), ⟨_, rfl, rfl⟩⟩
abbrev mX8_here : zM := (RX8, cX8_here, 2, (some .int), [], false)
theorem vX8_here : zV yX8_here mX8_here 1 8 := ⟨⟨rfl, rfl, zc7 133 (by decide +kernel) (by decide +kernel), zc1 9 (by decide +kernel) (by decide +kernel), ⟨by decide +kernel, by decide +kernel⟩, by decide +kernel⟩, zc7 132 (by decide +kernel) (by decide +kernel), zcp 47 (by decide +kernel) (by decide +kernel), ⟨_, rfl, rfl⟩⟩
abbrev mX8_hit : zM := (RX8, cX8_hit, 5, (some .int), [], false)
theorem vX8_hit : zV yX8_hit mX8_hit 3 8 := ⟨⟨rfl, rfl, zc8 107 (by decide +kernel) (by decide +kernel), zc1 9 (by decide +kernel) (by decide +kernel), ⟨by decide +kernel, by decide +kernel⟩, by decide +kernel⟩, zc8 105 (by decide +kernel) (by decide +kernel), zc8 106 (by decide +kernel) (by decide +kernel), ⟨_, rfl, rfl⟩⟩
abbrev mX8_hits : zM := (RX8, cX8_hits, 2, (some .int), [], false)
theorem vX8_hits : zV yX8_hits mX8_hits 1 8 := ⟨⟨rfl, rfl, zc8 99 (by decide +kernel) (by decide +kernel), zc1 9 (by decide +kernel) (by decide +kernel), ⟨by decide +kernel, by decide +kernel⟩, by decide +kernel⟩, zc8 97 (by decide +kernel) (by decide +kernel), zc8 98 (by decide +kernel) (by decide +kernel), ⟨_, rfl, rfl⟩⟩
abbrev mX8_hitsOf : zM := (RX8, cX8_hitsOf, 6, (some .int), [], false)
theorem vX8_hitsOf : zV yX8_hitsOf mX8_hitsOf 1 8 := ⟨⟨rfl, rfl, zc8 103 (by decide +kernel) (by decide +kernel), zc1 9 (by decide +kernel) (by decide +kernel), ⟨by decide +kernel, by decide +kernel⟩, by decide +kernel⟩, zc8 102 (by decide +kernel) (by decide +kernel), zcp 82 (by decide +kernel) (by decide +kernel), ⟨_, rfl, rfl⟩⟩
abbrev mX8_improve : zM := (RX8, cX8_improve, 2, (some .int), [], false)
theorem vX8_improve : zV yX8_improve mX8_improve 1 8 := ⟨⟨rfl, rfl, zc9 62 (by decide +kernel) (by decide +kernel), zc1 9 (by decide +kernel) (by decide +kernel), ⟨by decide +kernel, by decide +kernel⟩, by decide +kernel⟩, zc9 60 (by decide +kernel) (by decide +kernel), zc9 61 (by decide +kernel) (by decide +kernel), ⟨_, rfl, rfl⟩⟩
abbrev mX8_improves : zM := (RX8, cX8_improves, 4, (some .int), [], false)
theorem vX8_improves : zV yX8_improves mX8_improves 1 8 := ⟨⟨rfl, rfl, zc9 5 (by decide +kernel) (by decide +kernel), zc1 9 (by decide +kernel) (by decide +kernel), ⟨by decide +kernel, by decide +kernel⟩, by decide +kernel⟩, zc9 4 (by decide +kernel) (by decide +kernel), zcp 100 (by decide +kernel) (by decide +kernel), ⟨_, rfl, rfl⟩⟩
abbrev mX8_improvesOnce : zM := (RX8, cX8_improvesOnce, 4, (some .boolean), [], false)
theorem vX8_improvesOnce : zV yX8_improvesOnce mX8_improvesOnce 0 8 := ⟨⟨rfl, rfl, zc9 9 (by decide +kernel) (by decide +kernel), zc1 9 (by decide +kernel) (by decide +kernel), ⟨by decide +kernel, by decide +kernel⟩, by decide +kernel⟩, zc9 8 (by decide +kernel) (by decide +kernel), zcp 101 (by decide +kernel) (by decide +kernel), ⟨_, rfl, rfl⟩⟩
abbrev mX8_improvesToEnd : zM := (RX8, cX8_improvesToEnd, 4, (some .int), [], false)
theorem vX8_improvesToEnd : zV yX8_improvesToEnd mX8_improvesToEnd 1 8 := ⟨⟨rfl, rfl, zc9 29 (by decide +kernel) (by decide +kernel), zc1 9 (by decide +kernel) (by decide +kernel), ⟨by decide +kernel, by decide +kernel⟩, by decide +kernel⟩, zc9 27 (by decide +kernel) (by decide +kernel), zc9 28 (by decide +kernel) (by decide +kernel), ⟨_, rfl, rfl⟩⟩
abbrev mX8_init : zM := (RX8, cX8_init, 1, none, [], true)
theorem vX8_init : zN yX8_init mX8_init 0 := ⟨⟨rfl, rfl, zc6 158 (by decide +kernel) (by decide +kernel), zc1 9 (by decide +kernel) (by decide +kernel), ⟨by decide +kernel, by decide +kernel⟩, by decide +kernel⟩, rfl, rfl, zc6 157 (by decide +kernel) (by decide +kernel)⟩
abbrev mX8_isAt : zM := (RX8, cX8_isAt, 5, (some .boolean), [], false)
theorem vX8_isAt : zV yX8_isAt mX8_isAt 2 8 := ⟨⟨rfl, rfl, zc8 91 (by decide +kernel) (by decide +kernel), zc1 9 (by decide +kernel) (by decide +kernel), ⟨by decide +kernel, by decide +kernel⟩, by decide +kernel⟩, zc8 90 (by decide +kernel) (by decide +kernel), zcp 81 (by decide +kernel) (by decide +kernel), ⟨_, rfl, rfl⟩⟩
abbrev mX8_isDigit : zM := (RX8, cX8_isDigit, 1, (some .boolean), [], false)
theorem vX8_isDigit : zS yX8_isDigit mX8_isDigit 1 := ⟨⟨rfl, rfl, zc7 139 (by decide +kernel) (by decide +kernel), zc1 9 (by decide +kernel) (by decide +kernel), ⟨by decide +kernel, by decide +kernel⟩, by decide +kernel⟩, zc7 138 (by decide +kernel) (by decide +kernel)⟩
abbrev mX8_isGood : zM := (RX8, cX8_isGood, 1, (some .boolean), [], false)
theorem vX8_isGood : zV yX8_isGood mX8_isGood 0 8 := ⟨⟨rfl, rfl, zc7 147 (by decide +kernel) (by decide +kernel), zc1 9 (by decide +kernel) (by decide +kernel), ⟨by decide +kernel, by decide +kernel⟩, by decide +kernel⟩, zc7 146 (by decide +kernel) (by decide +kernel), zcp 49 (by decide +kernel) (by decide +kernel), ⟨_, rfl, rfl⟩⟩
abbrev mX8_isIn : zM := (RX8, cX8_isIn, 6, (some .boolean), [], false)
theorem vX8_isIn : zS yX8_isIn mX8_isIn 3 := ⟨⟨rfl, rfl, zc7 97 (by decide +kernel) (by decide +kernel), zc1 9 (by decide +kernel) (by decide +kernel), ⟨by decide +kernel, by decide +kernel⟩, by decide +kernel⟩, zc7 96 (by decide +kernel) (by decide +kernel)⟩
abbrev mX8_isLetter : zM := (RX8, cX8_isLetter, 1, (some .boolean), [], false)
theorem vX8_isLetter : zS yX8_isLetter mX8_isLetter 1 := ⟨⟨rfl, rfl, zc7 136 (by decide +kernel) (by decide +kernel), zc1 9 (by decide +kernel) (by decide +kernel), ⟨by decide +kernel, by decide +kernel⟩, by decide +kernel⟩, zc7 135 (by decide +kernel) (by decide +kernel)⟩
abbrev mX8_isOne : zM := (RX8, cX8_isOne, 2, (some .boolean), [], false)
theorem vX8_isOne : zV yX8_isOne mX8_isOne 1 8 := ⟨⟨rfl, rfl, zc8 31 (by decide +kernel) (by decide +kernel), zc1 9 (by decide +kernel) (by decide +kernel), ⟨by decide +kernel, by decide +kernel⟩, by decide +kernel⟩, zc8 30 (by decide +kernel) (by decide +kernel), zcp 72 (by decide +kernel) (by decide +kernel), ⟨_, rfl, rfl⟩⟩
abbrev mX8_isOut : zM := (RX8, cX8_isOut, 2, (some .boolean), [], false)
theorem vX8_isOut : zV yX8_isOut mX8_isOut 1 8 := ⟨⟨rfl, rfl, zc7 227 (by decide +kernel) (by decide +kernel), zc1 9 (by decide +kernel) (by decide +kernel), ⟨by decide +kernel, by decide +kernel⟩, by decide +kernel⟩, zc7 226 (by decide +kernel) (by decide +kernel), zcp 66 (by decide +kernel) (by decide +kernel), ⟨_, rfl, rfl⟩⟩
abbrev mX8_isPlace : zM := (RX8, cX8_isPlace, 5, (some .boolean), [], false)
theorem vX8_isPlace : zV yX8_isPlace mX8_isPlace 2 8 := ⟨⟨rfl, rfl, zc7 223 (by decide +kernel) (by decide +kernel), zc1 9 (by decide +kernel) (by decide +kernel), ⟨by decide +kernel, by decide +kernel⟩, by decide +kernel⟩, zc7 222 (by decide +kernel) (by decide +kernel), zcp 65 (by decide +kernel) (by decide +kernel), ⟨_, rfl, rfl⟩⟩
abbrev mX8_isRow : zM := (RX8, cX8_isRow, 2, (some .boolean), [], false)
theorem vX8_isRow : zV yX8_isRow mX8_isRow 1 8 := ⟨⟨rfl, rfl, zc8 2 (by decide +kernel) (by decide +kernel), zc1 9 (by decide +kernel) (by decide +kernel), ⟨by decide +kernel, by decide +kernel⟩, by decide +kernel⟩, zc8 1 (by decide +kernel) (by decide +kernel), zcp 68 (by decide +kernel) (by decide +kernel), ⟨_, rfl, rfl⟩⟩
abbrev mX8_isSign : zM := (RX8, cX8_isSign, 2, (some .boolean), [], false)
theorem vX8_isSign : zV yX8_isSign mX8_isSign 1 8 := ⟨⟨rfl, rfl, zc7 202 (by decide +kernel) (by decide +kernel), zc1 9 (by decide +kernel) (by decide +kernel), ⟨by decide +kernel, by decide +kernel⟩, by decide +kernel⟩, zc7 201 (by decide +kernel) (by decide +kernel), zcp 61 (by decide +kernel) (by decide +kernel), ⟨_, rfl, rfl⟩⟩
abbrev mX8_isWord : zM := (RX8, cX8_isWord, 3, (some .boolean), [], false)
theorem vX8_isWord : zV yX8_isWord mX8_isWord 1 8 := ⟨⟨rfl, rfl, zc7 156 (by decide +kernel) (by decide +kernel), zc1 9 (by decide +kernel) (by decide +kernel), ⟨by decide +kernel, by decide +kernel⟩, by decide +kernel⟩, zc7 155 (by decide +kernel) (by decide +kernel), zcp 51 (by decide +kernel) (by decide +kernel), ⟨_, rfl, rfl⟩⟩
abbrev mX8_keeps : zM := (RX8, cX8_keeps, 2, none, [], false)
theorem vX8_keeps : zV yX8_keeps mX8_keeps 0 8 := ⟨⟨rfl, rfl, zc9 46 (by decide +kernel) (by decide +kernel), zc1 9 (by decide +kernel) (by decide +kernel), ⟨by decide +kernel, by decide +kernel⟩, by decide +kernel⟩, zc9 45 (by decide +kernel) (by decide +kernel), zcp 105 (by decide +kernel) (by decide +kernel), ⟨_, rfl, rfl⟩⟩
abbrev mX8_kept : zM := (RX8, cX8_kept, 2, (some .int), [], false)
theorem vX8_kept : zV yX8_kept mX8_kept 1 8 := ⟨⟨rfl, rfl, zc9 42 (by decide +kernel) (by decide +kernel), zc1 9 (by decide +kernel) (by decide +kernel), ⟨by decide +kernel, by decide +kernel⟩, by decide +kernel⟩, zc9 41 (by decide +kernel) (by decide +kernel), zcp 104 (by decide +kernel) (by decide +kernel), ⟨_, rfl, rfl⟩⟩
abbrev mX8_kinds : zM := (RX8, cX8_kinds, 3, (some .int), [], false)
theorem vX8_kinds : zV yX8_kinds mX8_kinds 0 8 := ⟨⟨rfl, rfl, zc8 112 (by decide +kernel) (by decide +kernel), zc1 9 (by decide +kernel) (by decide +kernel), ⟨by decide +kernel, by decide +kernel⟩, by decide +kernel⟩, zc8 110 (by decide +kernel) (by decide +kernel), zc8 111 (by decide +kernel) (by decide +kernel), ⟨_, rfl, rfl⟩⟩
abbrev mX8_lays : zM := (RX8, cX8_lays, 4, none, [], false)
theorem vX8_lays : zV yX8_lays mX8_lays 3 8 := ⟨⟨rfl, rfl, zc7 194 (by decide +kernel) (by decide +kernel), zc1 9 (by decide +kernel) (by decide +kernel), ⟨by decide +kernel, by decide +kernel⟩, by decide +kernel⟩, zc7 193 (by decide +kernel) (by decide +kernel), zcp 59 (by decide +kernel) (by decide +kernel), ⟨_, rfl, rfl⟩⟩
abbrev mX8_laysAside : zM := (RX8, cX8_laysAside, 2, none, [], false)
theorem vX8_laysAside : zV yX8_laysAside mX8_laysAside 0 8 := ⟨⟨rfl, rfl, zc7 143 (by decide +kernel) (by decide +kernel), zc1 9 (by decide +kernel) (by decide +kernel), ⟨by decide +kernel, by decide +kernel⟩, by decide +kernel⟩, zc7 142 (by decide +kernel) (by decide +kernel), zcp 48 (by decide +kernel) (by decide +kernel), ⟨_, rfl, rfl⟩⟩
abbrev mX8_laysProfile : zM := (RX8, cX8_laysProfile, 4, none, [], false)
theorem vX8_laysProfile : zV yX8_laysProfile mX8_laysProfile 1 8 := ⟨⟨rfl, rfl, zc8 205 (by decide +kernel) (by decide +kernel), zc1 9 (by decide +kernel) (by decide +kernel), ⟨by decide +kernel, by decide +kernel⟩, by decide +kernel⟩, zc8 204 (by decide +kernel) (by decide +kernel), zcp 94 (by decide +kernel) (by decide +kernel), ⟨_, rfl, rfl⟩⟩
abbrev mX8_laysScores : zM := (RX8, cX8_laysScores, 2, none, [], false)
theorem vX8_laysScores : zV yX8_laysScores mX8_laysScores 0 8 := ⟨⟨rfl, rfl, zc8 169 (by decide +kernel) (by decide +kernel), zc1 9 (by decide +kernel) (by decide +kernel), ⟨by decide +kernel, by decide +kernel⟩, by decide +kernel⟩, zc8 168 (by decide +kernel) (by decide +kernel), zcp 88 (by decide +kernel) (by decide +kernel), ⟨_, rfl, rfl⟩⟩
abbrev mX8_laysTimes : zM := (RX8, cX8_laysTimes, 3, none, [], false)
theorem vX8_laysTimes : zV yX8_laysTimes mX8_laysTimes 0 8 := ⟨⟨rfl, rfl, zc8 116 (by decide +kernel) (by decide +kernel), zc1 9 (by decide +kernel) (by decide +kernel), ⟨by decide +kernel, by decide +kernel⟩, by decide +kernel⟩, zc8 115 (by decide +kernel) (by decide +kernel), zcp 83 (by decide +kernel) (by decide +kernel), ⟨_, rfl, rfl⟩⟩
abbrev mX8_least : zM := (RX8, cX8_least, 6, (some .int), [], false)
theorem vX8_least : zV yX8_least mX8_least 2 8 := ⟨⟨rfl, rfl, zc8 43 (by decide +kernel) (by decide +kernel), zc1 9 (by decide +kernel) (by decide +kernel), ⟨by decide +kernel, by decide +kernel⟩, by decide +kernel⟩, zc8 42 (by decide +kernel) (by decide +kernel), zcp 74 (by decide +kernel) (by decide +kernel), ⟨_, rfl, rfl⟩⟩
abbrev mX8_letter : zM := (RX8, cX8_letter, 3, (some .int), [], false)
theorem vX8_letter : zV yX8_letter mX8_letter 2 8 := ⟨⟨rfl, rfl, zc8 11 (by decide +kernel) (by decide +kernel), zc1 9 (by decide +kernel) (by decide +kernel), ⟨by decide +kernel, by decide +kernel⟩, by decide +kernel⟩, zc8 9 (by decide +kernel) (by decide +kernel), zc8 10 (by decide +kernel) (by decide +kernel), ⟨_, rfl, rfl⟩⟩
abbrev mX8_letterAt : zM := (RX8, cX8_letterAt, 3, (some .int), [], false)
theorem vX8_letterAt : zV yX8_letterAt mX8_letterAt 2 8 := ⟨⟨rfl, rfl, zc8 15 (by decide +kernel) (by decide +kernel), zc1 9 (by decide +kernel) (by decide +kernel), ⟨by decide +kernel, by decide +kernel⟩, by decide +kernel⟩, zc8 14 (by decide +kernel) (by decide +kernel), zcp 70 (by decide +kernel) (by decide +kernel), ⟨_, rfl, rfl⟩⟩
abbrev mX8_may : zM := (RX8, cX8_may, 4, (some .boolean), [], false)
theorem vX8_may : zV yX8_may mX8_may 3 8 := ⟨⟨rfl, rfl, zc9 139 (by decide +kernel) (by decide +kernel), zc1 9 (by decide +kernel) (by decide +kernel), ⟨by decide +kernel, by decide +kernel⟩, by decide +kernel⟩, zc9 138 (by decide +kernel) (by decide +kernel), zcp 116 (by decide +kernel) (by decide +kernel), ⟨_, rfl, rfl⟩⟩
abbrev mX8_meanDistance : zM := (RX8, cX8_meanDistance, 3, (some .double), [], false)
theorem vX8_meanDistance : zV yX8_meanDistance mX8_meanDistance 0 8 := ⟨⟨rfl, rfl, zc9 25 (by decide +kernel) (by decide +kernel), zc1 9 (by decide +kernel) (by decide +kernel), ⟨by decide +kernel, by decide +kernel⟩, by decide +kernel⟩, zc9 23 (by decide +kernel) (by decide +kernel), zc9 24 (by decide +kernel) (by decide +kernel), ⟨_, rfl, rfl⟩⟩
abbrev mX8_mostAt : zM := (RX8, cX8_mostAt, 4, (some .int), [], false)
theorem vX8_mostAt : zV yX8_mostAt mX8_mostAt 1 8 := ⟨⟨rfl, rfl, zc8 217 (by decide +kernel) (by decide +kernel), zc1 9 (by decide +kernel) (by decide +kernel), ⟨by decide +kernel, by decide +kernel⟩, by decide +kernel⟩, zc8 216 (by decide +kernel) (by decide +kernel), zcp 96 (by decide +kernel) (by decide +kernel), ⟨_, rfl, rfl⟩⟩
abbrev mX8_mostHad : zM := (RX8, cX8_mostHad, 8, (some .int), [], false)
theorem vX8_mostHad : zV yX8_mostHad mX8_mostHad 1 8 := ⟨⟨rfl, rfl, zc8 149 (by decide +kernel) (by decide +kernel), zc1 9 (by decide +kernel) (by decide +kernel), ⟨by decide +kernel, by decide +kernel⟩, by decide +kernel⟩, zc8 147 (by decide +kernel) (by decide +kernel), zc8 148 (by decide +kernel) (by decide +kernel), ⟨_, rfl, rfl⟩⟩
abbrev mX8_mustName : zM := (RX8, cX8_mustName, 1, none, [], false)
theorem vX8_mustName : zV yX8_mustName mX8_mustName 0 8 := ⟨⟨rfl, rfl, zc7 182 (by decide +kernel) (by decide +kernel), zc1 9 (by decide +kernel) (by decide +kernel), ⟨by decide +kernel, by decide +kernel⟩, by decide +kernel⟩, zc7 181 (by decide +kernel) (by decide +kernel), zcp 56 (by decide +kernel) (by decide +kernel), ⟨_, rfl, rfl⟩⟩
abbrev mX8_mustSign : zM := (RX8, cX8_mustSign, 2, none, [], false)
theorem vX8_mustSign : zV yX8_mustSign mX8_mustSign 1 8 := ⟨⟨rfl, rfl, zc7 198 (by decide +kernel) (by decide +kernel), zc1 9 (by decide +kernel) (by decide +kernel), ⟨by decide +kernel, by decide +kernel⟩, by decide +kernel⟩, zc7 197 (by decide +kernel) (by decide +kernel), zcp 60 (by decide +kernel) (by decide +kernel), ⟨_, rfl, rfl⟩⟩
abbrev mX8_named : zM := (RX8, cX8_named, 3, (some .int), [], false)
theorem vX8_named : zV yX8_named mX8_named 0 8 := ⟨⟨rfl, rfl, zc7 186 (by decide +kernel) (by decide +kernel), zc1 9 (by decide +kernel) (by decide +kernel), ⟨by decide +kernel, by decide +kernel⟩, by decide +kernel⟩, zc7 185 (by decide +kernel) (by decide +kernel), zcp 57 (by decide +kernel) (by decide +kernel), ⟨_, rfl, rfl⟩⟩
abbrev mX8_nearest : zM := (RX8, cX8_nearest, 6, (some .int), [], false)
theorem vX8_nearest : zV yX8_nearest mX8_nearest 1 8 := ⟨⟨rfl, rfl, zc8 75 (by decide +kernel) (by decide +kernel), zc1 9 (by decide +kernel) (by decide +kernel), ⟨by decide +kernel, by decide +kernel⟩, by decide +kernel⟩, zc8 74 (by decide +kernel) (by decide +kernel), zcp 79 (by decide +kernel) (by decide +kernel), ⟨_, rfl, rfl⟩⟩
abbrev mX8_number : zM := (RX8, cX8_number, 4, (some .int), [], false)
theorem vX8_number : zV yX8_number mX8_number 2 8 := ⟨⟨rfl, rfl, zc7 171 (by decide +kernel) (by decide +kernel), zc1 9 (by decide +kernel) (by decide +kernel), ⟨by decide +kernel, by decide +kernel⟩, by decide +kernel⟩, zc7 170 (by decide +kernel) (by decide +kernel), zcp 54 (by decide +kernel) (by decide +kernel), ⟨_, rfl, rfl⟩⟩
abbrev mX8_numberOfSpelt : zM := (RX8, cX8_numberOfSpelt, 3, (some .int), [], false)
theorem vX8_numberOfSpelt : zV yX8_numberOfSpelt mX8_numberOfSpelt 0 8 := ⟨⟨rfl, rfl, zc8 141 (by decide +kernel) (by decide +kernel), zc1 9 (by decide +kernel) (by decide +kernel), ⟨by decide +kernel, by decide +kernel⟩, by decide +kernel⟩, zc8 140 (by decide +kernel) (by decide +kernel), zcp 86 (by decide +kernel) (by decide +kernel), ⟨_, rfl, rfl⟩⟩
abbrev mX8_of : zM := (RX8, cX8_of, 3, (some .int), [], false)
theorem vX8_of : zV yX8_of mX8_of 2 8 := ⟨⟨rfl, rfl, zc7 219 (by decide +kernel) (by decide +kernel), zc1 9 (by decide +kernel) (by decide +kernel), ⟨by decide +kernel, by decide +kernel⟩, by decide +kernel⟩, zc7 218 (by decide +kernel) (by decide +kernel), zcp 64 (by decide +kernel) (by decide +kernel), ⟨_, rfl, rfl⟩⟩
abbrev mX8_ones : zM := (RX8, cX8_ones, 3, (some .int), [], false)
theorem vX8_ones : zS yX8_ones mX8_ones 1 := ⟨⟨rfl, rfl, zc7 230 (by decide +kernel) (by decide +kernel), zc1 9 (by decide +kernel) (by decide +kernel), ⟨by decide +kernel, by decide +kernel⟩, by decide +kernel⟩, zc7 229 (by decide +kernel) (by decide +kernel)⟩
abbrev mX8_outlier : zM := (RX8, cX8_outlier, 5, (some .int), [], false)
theorem vX8_outlier : zV yX8_outlier mX8_outlier 0 8 := ⟨⟨rfl, rfl, zc8 161 (by decide +kernel) (by decide +kernel), zc1 9 (by decide +kernel) (by decide +kernel), ⟨by decide +kernel, by decide +kernel⟩, by decide +kernel⟩, zc8 159 (by decide +kernel) (by decide +kernel), zc8 160 (by decide +kernel) (by decide +kernel), ⟨_, rfl, rfl⟩⟩
abbrev mX8_placesOf : zM := (RX8, cX8_placesOf, 4, (some .int), [], false)
theorem vX8_placesOf : zV yX8_placesOf mX8_placesOf 1 8 := ⟨⟨rfl, rfl, zc7 215 (by decide +kernel) (by decide +kernel), zc1 9 (by decide +kernel) (by decide +kernel), ⟨by decide +kernel, by decide +kernel⟩, by decide +kernel⟩, zc7 214 (by decide +kernel) (by decide +kernel), zcp 63 (by decide +kernel) (by decide +kernel), ⟨_, rfl, rfl⟩⟩
abbrev mX8_rank : zM := (RX8, cX8_rank, 4, (some .int), [], false)
theorem vX8_rank : zV yX8_rank mX8_rank 1 8 := ⟨⟨rfl, rfl, zc8 177 (by decide +kernel) (by decide +kernel), zc1 9 (by decide +kernel) (by decide +kernel), ⟨by decide +kernel, by decide +kernel⟩, by decide +kernel⟩, zc8 176 (by decide +kernel) (by decide +kernel), zcp 89 (by decide +kernel) (by decide +kernel), ⟨_, rfl, rfl⟩⟩
abbrev mX8_rankOf : zM := (RX8, cX8_rankOf, 2, (some .int), [], false)
theorem vX8_rankOf : zV yX8_rankOf mX8_rankOf 1 8 := ⟨⟨rfl, rfl, zc8 173 (by decide +kernel) (by decide +kernel), zc1 9 (by decide +kernel) (by decide +kernel), ⟨by decide +kernel, by decide +kernel⟩, by decide +kernel⟩, zc8 171 (by decide +kernel) (by decide +kernel), zc8 172 (by decide +kernel) (by decide +kernel), ⟨_, rfl, rfl⟩⟩
abbrev mX8_ranked : zM := (RX8, cX8_ranked, 5, (some .int), [], false)
theorem vX8_ranked : zV yX8_ranked mX8_ranked 1 8 := ⟨⟨rfl, rfl, zc8 165 (by decide +kernel) (by decide +kernel), zc1 9 (by decide +kernel) (by decide +kernel), ⟨by decide +kernel, by decide +kernel⟩, by decide +kernel⟩, zc8 163 (by decide +kernel) (by decide +kernel), zc8 164 (by decide +kernel) (by decide +kernel), ⟨_, rfl, rfl⟩⟩
abbrev mX8_readText : zM := (RX8, cX8_readText, 2, (some .int), [], false)
theorem vX8_readText : zV yX8_readText mX8_readText 0 8 := ⟨⟨rfl, rfl, zc7 121 (by decide +kernel) (by decide +kernel), zc1 9 (by decide +kernel) (by decide +kernel), ⟨by decide +kernel, by decide +kernel⟩, by decide +kernel⟩, zc7 119 (by decide +kernel) (by decide +kernel), zc7 120 (by decide +kernel) (by decide +kernel), ⟨_, rfl, rfl⟩⟩
abbrev mX8_readsOnce : zM := (RX8, cX8_readsOnce, 5, none, [], false)
theorem vX8_readsOnce : zV yX8_readsOnce mX8_readsOnce 3 8 := ⟨⟨rfl, rfl, zc7 160 (by decide +kernel) (by decide +kernel), zc1 9 (by decide +kernel) (by decide +kernel), ⟨by decide +kernel, by decide +kernel⟩, by decide +kernel⟩, zc7 159 (by decide +kernel) (by decide +kernel), zcp 52 (by decide +kernel) (by decide +kernel), ⟨_, rfl, rfl⟩⟩
abbrev mX8_readsRow : zM := (RX8, cX8_readsRow, 3, none, [], false)
theorem vX8_readsRow : zV yX8_readsRow mX8_readsRow 0 8 := ⟨⟨rfl, rfl, zc7 178 (by decide +kernel) (by decide +kernel), zc1 9 (by decide +kernel) (by decide +kernel), ⟨by decide +kernel, by decide +kernel⟩, by decide +kernel⟩, zc7 177 (by decide +kernel) (by decide +kernel), zcp 55 (by decide +kernel) (by decide +kernel), ⟨_, rfl, rfl⟩⟩
abbrev mX8_report : zM := (RX8, cX8_report, 5, (some .int), [], false)
theorem vX8_report : zV yX8_report mX8_report 0 8 := ⟨⟨rfl, rfl, zc9 143 (by decide +kernel) (by decide +kernel), zc1 9 (by decide +kernel) (by decide +kernel), ⟨by decide +kernel, by decide +kernel⟩, by decide +kernel⟩, zc9 141 (by decide +kernel) (by decide +kernel), zc9 142 (by decide +kernel) (by decide +kernel), ⟨_, rfl, rfl⟩⟩
abbrev mX8_reportByte : zM := (RX8, cX8_reportByte, 2, (some .int), [], false)
theorem vX8_reportByte : zV yX8_reportByte mX8_reportByte 1 8 := ⟨⟨rfl, rfl, zc9 156 (by decide +kernel) (by decide +kernel), zc1 9 (by decide +kernel) (by decide +kernel), ⟨by decide +kernel, by decide +kernel⟩, by decide +kernel⟩, zc9 154 (by decide +kernel) (by decide +kernel), zc9 155 (by decide +kernel) (by decide +kernel), ⟨_, rfl, rfl⟩⟩
abbrev mX8_restore : zM := (RX8, cX8_restore, 2, (some .int), [], false)
theorem vX8_restore : zV yX8_restore mX8_restore 0 8 := ⟨⟨rfl, rfl, zc7 117 (by decide +kernel) (by decide +kernel), zc1 9 (by decide +kernel) (by decide +kernel), ⟨by decide +kernel, by decide +kernel⟩, by decide +kernel⟩, zc7 115 (by decide +kernel) (by decide +kernel), zc7 116 (by decide +kernel) (by decide +kernel), ⟨_, rfl, rfl⟩⟩
abbrev mX8_row : zM := (RX8, cX8_row, 3, (some .int), [], false)
theorem vX8_row : zV yX8_row mX8_row 2 8 := ⟨⟨rfl, rfl, zc7 238 (by decide +kernel) (by decide +kernel), zc1 9 (by decide +kernel) (by decide +kernel), ⟨by decide +kernel, by decide +kernel⟩, by decide +kernel⟩, zc7 236 (by decide +kernel) (by decide +kernel), zc7 237 (by decide +kernel) (by decide +kernel), ⟨_, rfl, rfl⟩⟩
abbrev mX8_runScript : zM := (RX8, cX8_runScript, 2, (some .int), [], false)
theorem vX8_runScript : zV yX8_runScript mX8_runScript 0 8 := ⟨⟨rfl, rfl, zc9 98 (by decide +kernel) (by decide +kernel), zc1 9 (by decide +kernel) (by decide +kernel), ⟨by decide +kernel, by decide +kernel⟩, by decide +kernel⟩, zc9 96 (by decide +kernel) (by decide +kernel), zc9 97 (by decide +kernel) (by decide +kernel), ⟨_, rfl, rfl⟩⟩
abbrev mX8_runs : zM := (RX8, cX8_runs, 6, (some .int), [], false)
theorem vX8_runs : zV yX8_runs mX8_runs 0 8 := ⟨⟨rfl, rfl, zc9 131 (by decide +kernel) (by decide +kernel), zc1 9 (by decide +kernel) (by decide +kernel), ⟨by decide +kernel, by decide +kernel⟩, by decide +kernel⟩, zc9 130 (by decide +kernel) (by decide +kernel), zcp 114 (by decide +kernel) (by decide +kernel), ⟨_, rfl, rfl⟩⟩
abbrev mX8_save : zM := (RX8, cX8_save, 2, (some .int), [], false)
theorem vX8_save : zV yX8_save mX8_save 0 8 := ⟨⟨rfl, rfl, zc7 113 (by decide +kernel) (by decide +kernel), zc1 9 (by decide +kernel) (by decide +kernel), ⟨by decide +kernel, by decide +kernel⟩, by decide +kernel⟩, zc7 111 (by decide +kernel) (by decide +kernel), zc7 112 (by decide +kernel) (by decide +kernel), ⟨_, rfl, rfl⟩⟩
abbrev mX8_score : zM := (RX8, cX8_score, 2, (some .int), [], false)
theorem vX8_score : zV yX8_score mX8_score 1 8 := ⟨⟨rfl, rfl, zc8 51 (by decide +kernel) (by decide +kernel), zc1 9 (by decide +kernel) (by decide +kernel), ⟨by decide +kernel, by decide +kernel⟩, by decide +kernel⟩, zc8 49 (by decide +kernel) (by decide +kernel), zc8 50 (by decide +kernel) (by decide +kernel), ⟨_, rfl, rfl⟩⟩
abbrev mX8_scoreOf : zM := (RX8, cX8_scoreOf, 2, (some .int), [], false)
theorem vX8_scoreOf : zV yX8_scoreOf mX8_scoreOf 1 8 := ⟨⟨rfl, rfl, zc8 55 (by decide +kernel) (by decide +kernel), zc1 9 (by decide +kernel) (by decide +kernel), ⟨by decide +kernel, by decide +kernel⟩, by decide +kernel⟩, zc8 54 (by decide +kernel) (by decide +kernel), zcp 76 (by decide +kernel) (by decide +kernel), ⟨_, rfl, rfl⟩⟩
abbrev mX8_scoreWithout : zM := (RX8, cX8_scoreWithout, 2, (some .int), [], false)
theorem vX8_scoreWithout : zV yX8_scoreWithout mX8_scoreWithout 1 8 := ⟨⟨rfl, rfl, zc8 153 (by decide +kernel) (by decide +kernel), zc1 9 (by decide +kernel) (by decide +kernel), ⟨by decide +kernel, by decide +kernel⟩, by decide +kernel⟩, zc8 151 (by decide +kernel) (by decide +kernel), zc8 152 (by decide +kernel) (by decide +kernel), ⟨_, rfl, rfl⟩⟩
abbrev mX8_searches : zM := (RX8, cX8_searches, 4, none, [], false)
theorem vX8_searches : zV yX8_searches mX8_searches 0 8 := ⟨⟨rfl, rfl, zc8 137 (by decide +kernel) (by decide +kernel), zc1 9 (by decide +kernel) (by decide +kernel), ⟨by decide +kernel, by decide +kernel⟩, by decide +kernel⟩, zc8 136 (by decide +kernel) (by decide +kernel), zcp 85 (by decide +kernel) (by decide +kernel), ⟨_, rfl, rfl⟩⟩
abbrev mX8_second : zM := (RX8, cX8_second, 3, (some .int), [], false)
theorem vX8_second : zV yX8_second mX8_second 1 8 := ⟨⟨rfl, rfl, zc8 181 (by decide +kernel) (by decide +kernel), zc1 9 (by decide +kernel) (by decide +kernel), ⟨by decide +kernel, by decide +kernel⟩, by decide +kernel⟩, zc8 179 (by decide +kernel) (by decide +kernel), zc8 180 (by decide +kernel) (by decide +kernel), ⟨_, rfl, rfl⟩⟩
abbrev mX8_setChanges : zM := (RX8, cX8_setChanges, 2, (some .int), [], false)
theorem vX8_setChanges : zV yX8_setChanges mX8_setChanges 1 8 := ⟨⟨rfl, rfl, zc9 90 (by decide +kernel) (by decide +kernel), zc1 9 (by decide +kernel) (by decide +kernel), ⟨by decide +kernel, by decide +kernel⟩, by decide +kernel⟩, zc9 88 (by decide +kernel) (by decide +kernel), zc9 89 (by decide +kernel) (by decide +kernel), ⟨_, rfl, rfl⟩⟩
abbrev mX8_setOut : zM := (RX8, cX8_setOut, 4, (some .int), [], false)
theorem vX8_setOut : zV yX8_setOut mX8_setOut 2 8 := ⟨⟨rfl, rfl, zc9 82 (by decide +kernel) (by decide +kernel), zc1 9 (by decide +kernel) (by decide +kernel), ⟨by decide +kernel, by decide +kernel⟩, by decide +kernel⟩, zc9 80 (by decide +kernel) (by decide +kernel), zc9 81 (by decide +kernel) (by decide +kernel), ⟨_, rfl, rfl⟩⟩
abbrev mX8_setsChanges : zM := (RX8, cX8_setsChanges, 3, (some .int), [], false)
theorem vX8_setsChanges : zV yX8_setsChanges mX8_setsChanges 1 8 := ⟨⟨rfl, rfl, zc9 94 (by decide +kernel) (by decide +kernel), zc1 9 (by decide +kernel) (by decide +kernel), ⟨by decide +kernel, by decide +kernel⟩, by decide +kernel⟩, zc9 93 (by decide +kernel) (by decide +kernel), zcp 108 (by decide +kernel) (by decide +kernel), ⟨_, rfl, rfl⟩⟩
abbrev mX8_setsOut : zM := (RX8, cX8_setsOut, 5, (some .int), [], false)
theorem vX8_setsOut : zV yX8_setsOut mX8_setsOut 2 8 := ⟨⟨rfl, rfl, zc9 86 (by decide +kernel) (by decide +kernel), zc1 9 (by decide +kernel) (by decide +kernel), ⟨by decide +kernel, by decide +kernel⟩, by decide +kernel⟩, zc9 85 (by decide +kernel) (by decide +kernel), zcp 107 (by decide +kernel) (by decide +kernel), ⟨_, rfl, rfl⟩⟩
abbrev mX8_setting : zM := (RX8, cX8_setting, 7, (some .int), [], false)
theorem vX8_setting : zV yX8_setting mX8_setting 1 8 := ⟨⟨rfl, rfl, zc7 210 (by decide +kernel) (by decide +kernel), zc1 9 (by decide +kernel) (by decide +kernel), ⟨by decide +kernel, by decide +kernel⟩, by decide +kernel⟩, zc7 208 (by decide +kernel) (by decide +kernel), zc7 209 (by decide +kernel) (by decide +kernel), ⟨_, rfl, rfl⟩⟩
abbrev mX8_shared : zM := (RX8, cX8_shared, 5, (some .int), [], false)
theorem vX8_shared : zV yX8_shared mX8_shared 2 8 := ⟨⟨rfl, rfl, zc8 83 (by decide +kernel) (by decide +kernel), zc1 9 (by decide +kernel) (by decide +kernel), ⟨by decide +kernel, by decide +kernel⟩, by decide +kernel⟩, zc8 81 (by decide +kernel) (by decide +kernel), zc8 82 (by decide +kernel) (by decide +kernel), ⟨_, rfl, rfl⟩⟩
abbrev mX8_sharedAbove : zM := (RX8, cX8_sharedAbove, 7, (some .int), [], false)
theorem vX8_sharedAbove : zV yX8_sharedAbove mX8_sharedAbove 3 8 := ⟨⟨rfl, rfl, zc8 87 (by decide +kernel) (by decide +kernel), zc1 9 (by decide +kernel) (by decide +kernel), ⟨by decide +kernel, by decide +kernel⟩, by decide +kernel⟩, zc8 86 (by decide +kernel) (by decide +kernel), zcp 80 (by decide +kernel) (by decide +kernel), ⟨_, rfl, rfl⟩⟩
abbrev mX8_sharedAt : zM := (RX8, cX8_sharedAt, 6, (some .int), [], false)
theorem vX8_sharedAt : zV yX8_sharedAt mX8_sharedAt 3 8 := ⟨⟨rfl, rfl, zc8 95 (by decide +kernel) (by decide +kernel), zc1 9 (by decide +kernel) (by decide +kernel), ⟨by decide +kernel, by decide +kernel⟩, by decide +kernel⟩, zc8 93 (by decide +kernel) (by decide +kernel), zc8 94 (by decide +kernel) (by decide +kernel), ⟨_, rfl, rfl⟩⟩
abbrev mX8_spells : zM := (RX8, cX8_spells, 4, none, [], false)
theorem vX8_spells : zV yX8_spells mX8_spells 1 8 := ⟨⟨rfl, rfl, zc8 35 (by decide +kernel) (by decide +kernel), zc1 9 (by decide +kernel) (by decide +kernel), ⟨by decide +kernel, by decide +kernel⟩, by decide +kernel⟩, zc8 34 (by decide +kernel) (by decide +kernel), zcp 73 (by decide +kernel) (by decide +kernel), ⟨_, rfl, rfl⟩⟩
abbrev mX8_spread : zM := (RX8, cX8_spread, 5, (some .int), [], false)
theorem vX8_spread : zV yX8_spread mX8_spread 1 8 := ⟨⟨rfl, rfl, zc8 79 (by decide +kernel) (by decide +kernel), zc1 9 (by decide +kernel) (by decide +kernel), ⟨by decide +kernel, by decide +kernel⟩, by decide +kernel⟩, zc8 77 (by decide +kernel) (by decide +kernel), zc8 78 (by decide +kernel) (by decide +kernel), ⟨_, rfl, rfl⟩⟩
abbrev mX8_statement : zM := (RX8, cX8_statement, 1, none, [], false)
theorem vX8_statement : zV yX8_statement mX8_statement 0 8 := ⟨⟨rfl, rfl, zc7 151 (by decide +kernel) (by decide +kernel), zc1 9 (by decide +kernel) (by decide +kernel), ⟨by decide +kernel, by decide +kernel⟩, by decide +kernel⟩, zc7 150 (by decide +kernel) (by decide +kernel), zcp 50 (by decide +kernel) (by decide +kernel), ⟨_, rfl, rfl⟩⟩
abbrev mX8_take : zM := (RX8, cX8_take, 3, (some .int), [], false)
theorem vX8_take : zV yX8_take mX8_take 1 8 := ⟨⟨rfl, rfl, zc9 66 (by decide +kernel) (by decide +kernel), zc1 9 (by decide +kernel) (by decide +kernel), ⟨by decide +kernel, by decide +kernel⟩, by decide +kernel⟩, zc9 64 (by decide +kernel) (by decide +kernel), zc9 65 (by decide +kernel) (by decide +kernel), ⟨_, rfl, rfl⟩⟩
abbrev mX8_takeBest : zM := (RX8, cX8_takeBest, 3, (some .int), [], false)
theorem vX8_takeBest : zV yX8_takeBest mX8_takeBest 0 8 := ⟨⟨rfl, rfl, zc9 70 (by decide +kernel) (by decide +kernel), zc1 9 (by decide +kernel) (by decide +kernel), ⟨by decide +kernel, by decide +kernel⟩, by decide +kernel⟩, zc9 68 (by decide +kernel) (by decide +kernel), zc9 69 (by decide +kernel) (by decide +kernel), ⟨_, rfl, rfl⟩⟩
abbrev mX8_taken : zM := (RX8, cX8_taken, 2, (some .int), [], false)
theorem vX8_taken : zV yX8_taken mX8_taken 1 8 := ⟨⟨rfl, rfl, zc9 78 (by decide +kernel) (by decide +kernel), zc1 9 (by decide +kernel) (by decide +kernel), ⟨by decide +kernel, by decide +kernel⟩, by decide +kernel⟩, zc9 76 (by decide +kernel) (by decide +kernel), zc9 77 (by decide +kernel) (by decide +kernel), ⟨_, rfl, rfl⟩⟩
abbrev mX8_takes : zM := (RX8, cX8_takes, 6, (some .int), [], false)
theorem vX8_takes : zV yX8_takes mX8_takes 1 8 := ⟨⟨rfl, rfl, zc8 193 (by decide +kernel) (by decide +kernel), zc1 9 (by decide +kernel) (by decide +kernel), ⟨by decide +kernel, by decide +kernel⟩, by decide +kernel⟩, zc8 192 (by decide +kernel) (by decide +kernel), zcp 92 (by decide +kernel) (by decide +kernel), ⟨_, rfl, rfl⟩⟩
abbrev mX8_tell : zM := (RX8, cX8_tell, 2, none, [], false)
theorem vX8_tell : zV yX8_tell mX8_tell 1 8 := ⟨⟨rfl, rfl, zc9 147 (by decide +kernel) (by decide +kernel), zc1 9 (by decide +kernel) (by decide +kernel), ⟨by decide +kernel, by decide +kernel⟩, by decide +kernel⟩, zc9 146 (by decide +kernel) (by decide +kernel), zcp 117 (by decide +kernel) (by decide +kernel), ⟨_, rfl, rfl⟩⟩
abbrev mX8_tellName : zM := (RX8, cX8_tellName, 4, none, [], false)
theorem vX8_tellName : zV yX8_tellName mX8_tellName 1 8 := ⟨⟨rfl, rfl, zc9 151 (by decide +kernel) (by decide +kernel), zc1 9 (by decide +kernel) (by decide +kernel), ⟨by decide +kernel, by decide +kernel⟩, by decide +kernel⟩, zc9 150 (by decide +kernel) (by decide +kernel), zcp 118 (by decide +kernel) (by decide +kernel), ⟨_, rfl, rfl⟩⟩
abbrev mX8_thinks : zM := (RX8, cX8_thinks, 2, none, [], false)
theorem vX8_thinks : zV yX8_thinks mX8_thinks 0 8 := ⟨⟨rfl, rfl, zc8 189 (by decide +kernel) (by decide +kernel), zc1 9 (by decide +kernel) (by decide +kernel), ⟨by decide +kernel, by decide +kernel⟩, by decide +kernel⟩, zc8 188 (by decide +kernel) (by decide +kernel), zcp 91 (by decide +kernel) (by decide +kernel), ⟨_, rfl, rfl⟩⟩
abbrev mX8_thinksNoMore : zM := (RX8, cX8_thinksNoMore, 2, none, [], false)
theorem vX8_thinksNoMore : zV yX8_thinksNoMore mX8_thinksNoMore 0 8 := ⟨⟨rfl, rfl, zc8 197 (by decide +kernel) (by decide +kernel), zc1 9 (by decide +kernel) (by decide +kernel), ⟨by decide +kernel, by decide +kernel⟩, by decide +kernel⟩, zc8 196 (by decide +kernel) (by decide +kernel), zcp 93 (by decide +kernel) (by decide +kernel), ⟨_, rfl, rfl⟩⟩
abbrev mX8_thrown : zM := (RX8, cX8_thrown, 1, (some .int), [], false)
theorem vX8_thrown : zV yX8_thrown mX8_thrown 0 8 := ⟨⟨rfl, rfl, zc7 75 (by decide +kernel) (by decide +kernel), zc1 9 (by decide +kernel) (by decide +kernel), ⟨by decide +kernel, by decide +kernel⟩, by decide +kernel⟩, zc7 73 (by decide +kernel) (by decide +kernel), zc7 74 (by decide +kernel) (by decide +kernel), ⟨_, rfl, rfl⟩⟩
abbrev mX8_times : zM := (RX8, cX8_times, 5, (some .int), [], false)
theorem vX8_times : zV yX8_times mX8_times 1 8 := ⟨⟨rfl, rfl, zc8 124 (by decide +kernel) (by decide +kernel), zc1 9 (by decide +kernel) (by decide +kernel), ⟨by decide +kernel, by decide +kernel⟩, by decide +kernel⟩, zc8 123 (by decide +kernel) (by decide +kernel), zcp 84 (by decide +kernel) (by decide +kernel), ⟨_, rfl, rfl⟩⟩
abbrev mX8_timesOf : zM := (RX8, cX8_timesOf, 2, (some .int), [], false)
theorem vX8_timesOf : zV yX8_timesOf mX8_timesOf 1 8 := ⟨⟨rfl, rfl, zc8 120 (by decide +kernel) (by decide +kernel), zc1 9 (by decide +kernel) (by decide +kernel), ⟨by decide +kernel, by decide +kernel⟩, by decide +kernel⟩, zc8 118 (by decide +kernel) (by decide +kernel), zc8 119 (by decide +kernel) (by decide +kernel), ⟨_, rfl, rfl⟩⟩
abbrev mX8_toldRow : zM := (RX8, cX8_toldRow, 2, (some .int), [], false)
theorem vX8_toldRow : zV yX8_toldRow mX8_toldRow 0 8 := ⟨⟨rfl, rfl, zc9 119 (by decide +kernel) (by decide +kernel), zc1 9 (by decide +kernel) (by decide +kernel), ⟨by decide +kernel, by decide +kernel⟩, by decide +kernel⟩, zc9 118 (by decide +kernel) (by decide +kernel), zcp 111 (by decide +kernel) (by decide +kernel), ⟨_, rfl, rfl⟩⟩
abbrev mX8_toldWord : zM := (RX8, cX8_toldWord, 3, (some .int), [], false)
theorem vX8_toldWord : zV yX8_toldWord mX8_toldWord 0 8 := ⟨⟨rfl, rfl, zc9 123 (by decide +kernel) (by decide +kernel), zc1 9 (by decide +kernel) (by decide +kernel), ⟨by decide +kernel, by decide +kernel⟩, by decide +kernel⟩, zc9 122 (by decide +kernel) (by decide +kernel), zcp 112 (by decide +kernel) (by decide +kernel), ⟨_, rfl, rfl⟩⟩
abbrev mX8_tries : zM := (RX8, cX8_tries, 5, (some .int), [], false)
theorem vX8_tries : zV yX8_tries mX8_tries 2 8 := ⟨⟨rfl, rfl, zc9 1 (by decide +kernel) (by decide +kernel), zc1 9 (by decide +kernel) (by decide +kernel), ⟨by decide +kernel, by decide +kernel⟩, by decide +kernel⟩, zc9 0 (by decide +kernel) (by decide +kernel), zcp 99 (by decide +kernel) (by decide +kernel), ⟨_, rfl, rfl⟩⟩
abbrev mX8_truncate : zM := (RX8, cX8_truncate, 2, (some .int), [], false)
theorem vX8_truncate : zV yX8_truncate mX8_truncate 1 8 := ⟨⟨rfl, rfl, zc7 94 (by decide +kernel) (by decide +kernel), zc1 9 (by decide +kernel) (by decide +kernel), ⟨by decide +kernel, by decide +kernel⟩, by decide +kernel⟩, zc7 92 (by decide +kernel) (by decide +kernel), zc7 93 (by decide +kernel) (by decide +kernel), ⟨_, rfl, rfl⟩⟩
abbrev mX8_truth : zM := (RX8, cX8_truth, 1, (some .int), [], false)
theorem vX8_truth : zS yX8_truth mX8_truth 1 := ⟨⟨rfl, rfl, zc7 86 (by decide +kernel) (by decide +kernel), zc1 9 (by decide +kernel) (by decide +kernel), ⟨by decide +kernel, by decide +kernel⟩, by decide +kernel⟩, zc7 85 (by decide +kernel) (by decide +kernel)⟩
abbrev mX8_tryFrom : zM := (RX8, cX8_tryFrom, 3, (some .int), [], false)
theorem vX8_tryFrom : zV yX8_tryFrom mX8_tryFrom 2 8 := ⟨⟨rfl, rfl, zc8 237 (by decide +kernel) (by decide +kernel), zc1 9 (by decide +kernel) (by decide +kernel), ⟨by decide +kernel, by decide +kernel⟩, by decide +kernel⟩, zc8 235 (by decide +kernel) (by decide +kernel), zc8 236 (by decide +kernel) (by decide +kernel), ⟨_, rfl, rfl⟩⟩
abbrev mX8_undo : zM := (RX8, cX8_undo, 2, (some .int), [], false)
theorem vX8_undo : zV yX8_undo mX8_undo 0 8 := ⟨⟨rfl, rfl, zc7 109 (by decide +kernel) (by decide +kernel), zc1 9 (by decide +kernel) (by decide +kernel), ⟨by decide +kernel, by decide +kernel⟩, by decide +kernel⟩, zc7 107 (by decide +kernel) (by decide +kernel), zc7 108 (by decide +kernel) (by decide +kernel), ⟨_, rfl, rfl⟩⟩
abbrev mX8_weighs : zM := (RX8, cX8_weighs, 5, (some .int), [], false)
theorem vX8_weighs : zV yX8_weighs mX8_weighs 2 8 := ⟨⟨rfl, rfl, zc8 233 (by decide +kernel) (by decide +kernel), zc1 9 (by decide +kernel) (by decide +kernel), ⟨by decide +kernel, by decide +kernel⟩, by decide +kernel⟩, zc8 232 (by decide +kernel) (by decide +kernel), zcp 98 (by decide +kernel) (by decide +kernel), ⟨_, rfl, rfl⟩⟩
abbrev mX8_weight : zM := (RX8, cX8_weight, 3, (some .int), [], false)
theorem vX8_weight : zV yX8_weight mX8_weight 2 8 := ⟨⟨rfl, rfl, zc8 229 (by decide +kernel) (by decide +kernel), zc1 9 (by decide +kernel) (by decide +kernel), ⟨by decide +kernel, by decide +kernel⟩, by decide +kernel⟩, zc8 227 (by decide +kernel) (by decide +kernel), zc8 228 (by decide +kernel) (by decide +kernel), ⟨_, rfl, rfl⟩⟩
abbrev mX8_whyNotTake : zM := (RX8, cX8_whyNotTake, 2, (some .int), [], false)
theorem vX8_whyNotTake : zV yX8_whyNotTake mX8_whyNotTake 1 8 := ⟨⟨rfl, rfl, zc9 74 (by decide +kernel) (by decide +kernel), zc1 9 (by decide +kernel) (by decide +kernel), ⟨by decide +kernel, by decide +kernel⟩, by decide +kernel⟩, zc9 72 (by decide +kernel) (by decide +kernel), zc9 73 (by decide +kernel) (by decide +kernel), ⟨_, rfl, rfl⟩⟩
abbrev mX8_whyTake : zM := (RX8, cX8_whyTake, 2, (some .int), [], false)
theorem vX8_whyTake : zV yX8_whyTake mX8_whyTake 1 8 := ⟨⟨rfl, rfl, zc8 185 (by decide +kernel) (by decide +kernel), zc1 9 (by decide +kernel) (by decide +kernel), ⟨by decide +kernel, by decide +kernel⟩, by decide +kernel⟩, zc8 184 (by decide +kernel) (by decide +kernel), zcp 90 (by decide +kernel) (by decide +kernel), ⟨_, rfl, rfl⟩⟩
abbrev mX8_without : zM := (RX8, cX8_without, 3, (some .int), [], false)
theorem vX8_without : zV yX8_without mX8_without 1 8 := ⟨⟨rfl, rfl, zc8 157 (by decide +kernel) (by decide +kernel), zc1 9 (by decide +kernel) (by decide +kernel), ⟨by decide +kernel, by decide +kernel⟩, by decide +kernel⟩, zc8 156 (by decide +kernel) (by decide +kernel), zcp 87 (by decide +kernel) (by decide +kernel), ⟨_, rfl, rfl⟩⟩
abbrev mX8_wordAt : zM := (RX8, cX8_wordAt, 3, (some .int), [], false)
theorem vX8_wordAt : zV yX8_wordAt mX8_wordAt 2 8 := ⟨⟨rfl, rfl, zc8 19 (by decide +kernel) (by decide +kernel), zc1 9 (by decide +kernel) (by decide +kernel), ⟨by decide +kernel, by decide +kernel⟩, by decide +kernel⟩, zc8 17 (by decide +kernel) (by decide +kernel), zc8 18 (by decide +kernel) (by decide +kernel), ⟨_, rfl, rfl⟩⟩
abbrev mX8_wordThere : zM := (RX8, cX8_wordThere, 5, (some .int), [], false)
theorem vX8_wordThere : zV yX8_wordThere mX8_wordThere 2 8 := ⟨⟨rfl, rfl, zc8 23 (by decide +kernel) (by decide +kernel), zc1 9 (by decide +kernel) (by decide +kernel), ⟨by decide +kernel, by decide +kernel⟩, by decide +kernel⟩, zc8 22 (by decide +kernel) (by decide +kernel), zcp 71 (by decide +kernel) (by decide +kernel), ⟨_, rfl, rfl⟩⟩
abbrev mX8_words : zM := (RX8, cX8_words, 3, (some .int), [], false)
theorem vX8_words : zV yX8_words mX8_words 0 8 := ⟨⟨rfl, rfl, zc7 234 (by decide +kernel) (by decide +kernel), zc1 9 (by decide +kernel) (by decide +kernel), ⟨by decide +kernel, by decide +kernel⟩, by decide +kernel⟩, zc7 233 (by decide +kernel) (by decide +kernel), zcp 67 (by decide +kernel) (by decide +kernel), ⟨_, rfl, rfl⟩⟩
abbrev mX8_wrong : zM := (RX8, cX8_wrong, 2, none, [], false)
theorem vX8_wrong : zV yX8_wrong mX8_wrong 1 8 := ⟨⟨rfl, rfl, zc7 167 (by decide +kernel) (by decide +kernel), zc1 9 (by decide +kernel) (by decide +kernel), ⟨by decide +kernel, by decide +kernel⟩, by decide +kernel⟩, zc7 166 (by decide +kernel) (by decide +kernel), zcp 53 (by decide +kernel) (by decide +kernel), ⟨_, rfl, rfl⟩⟩
theorem kN_L_8 : zNw RL 8 7 16 [.null, .null, .null, .null, .null, .null, .null, .null, .null, .null, .null, .null, .int 0, .int 0, .int 0, .int 0] := ⟨RX7, TX7, tyX7, rfl, izX7, tyX7_ok, zc1 22 (by decide +kernel) (by decide +kernel), zc1 23 (by decide +kernel) (by decide +kernel), zc1 1 (by decide +kernel) (by decide +kernel), fun j hj => by
  match j, hj with
  | 0, _ => rfl
  | 1, _ => rfl
  | 2, _ => rfl
  | 3, _ => rfl
  | 4, _ => rfl
  | 5, _ => rfl
  | 6, _ => rfl
  | 7, _ => rfl
  | 8, _ => rfl
  | 9, _ => rfl
  | 10, _ => rfl
  | 11, _ => rfl
  | 12, _ => rfl
  | 13, _ => rfl
  | 14, _ => rfl
  | 15, _ => rfl
  | j + 16, h => exact absurd h (by omega)⟩
theorem kK_L_8 : Cond.classLink RL 8 "HiddenWords" ∈ zW := zc1 22 (by decide +kernel) (by decide +kernel)
theorem kM_L_144 : Cond.methodLink RL 144 yX7_init ∈ zW := zc1 24 (by decide +kernel) (by decide +kernel)
theorem kM_X7_3 : Cond.methodLink RX7 3 Lib.objectInit ∈ zW := zc1 27 (by decide +kernel) (by decide +kernel)
theorem kN_X7_9 : zNw RX7 9 6 8 [.null, .int 0, .int 0, .int 0, .int 0, .int 0, .int 0, .int 0] := ⟨RX6, TX6, tyX6, rfl, izX6, tyX6_ok, zc1 30 (by decide +kernel) (by decide +kernel), zc1 31 (by decide +kernel) (by decide +kernel), zc1 2 (by decide +kernel) (by decide +kernel), fun j hj => by
  match j, hj with
  | 0, _ => rfl
  | 1, _ => rfl
  | 2, _ => rfl
  | 3, _ => rfl
  | 4, _ => rfl
  | 5, _ => rfl
  | 6, _ => rfl
  | 7, _ => rfl
  | j + 8, h => exact absurd h (by omega)⟩
theorem kK_X7_9 : Cond.classLink RX7 9 "HiddenWords$Tokens" ∈ zW := zc1 30 (by decide +kernel) (by decide +kernel)
theorem kM_X6_3 : Cond.methodLink RX6 3 Lib.objectInit ∈ zW := zc1 35 (by decide +kernel) (by decide +kernel)
theorem kF_X6_9 : zF RX6 9 6 0 (.array .byte) true := ⟨RX6, TX6, 8, tyX6, rfl, izX6, tyX6_ok, nmX6, by decide, zc1 36 (by decide +kernel) (by decide +kernel), rfl, by decide +kernel, fun _ => rfl⟩
theorem kF_X7_75 : zF RX7 75 6 1 .int false := ⟨RX6, TX6, 8, tyX6, rfl, izX6, tyX6_ok, nmX6, by decide, zc1 37 (by decide +kernel) (by decide +kernel), rfl, by decide +kernel, fun h => by cases h⟩
theorem kF_X6_19 : zF RX6 19 6 1 .int false := ⟨RX6, TX6, 8, tyX6, rfl, izX6, tyX6_ok, nmX6, by decide, zc1 38 (by decide +kernel) (by decide +kernel), rfl, by decide +kernel, fun h => by cases h⟩
theorem kF_X5_28 : zF RX5 28 6 2 .int false := ⟨RX6, TX6, 8, tyX6, rfl, izX6, tyX6_ok, nmX6, by decide, zc1 39 (by decide +kernel) (by decide +kernel), rfl, by decide +kernel, fun h => by cases h⟩
theorem kF_X2_64 : zF RX2 64 6 2 .int false := ⟨RX6, TX6, 8, tyX6, rfl, izX6, tyX6_ok, nmX6, by decide, zc1 40 (by decide +kernel) (by decide +kernel), rfl, by decide +kernel, fun h => by cases h⟩
theorem kF_X6_38 : zF RX6 38 6 2 .int false := ⟨RX6, TX6, 8, tyX6, rfl, izX6, tyX6_ok, nmX6, by decide, zc1 41 (by decide +kernel) (by decide +kernel), rfl, by decide +kernel, fun h => by cases h⟩
theorem kF_X6_56 : zF RX6 56 6 3 .int false := ⟨RX6, TX6, 8, tyX6, rfl, izX6, tyX6_ok, nmX6, by decide, zc1 42 (by decide +kernel) (by decide +kernel), rfl, by decide +kernel, fun h => by cases h⟩
theorem kF_X6_31 : zF RX6 31 6 4 .int false := ⟨RX6, TX6, 8, tyX6, rfl, izX6, tyX6_ok, nmX6, by decide, zc1 43 (by decide +kernel) (by decide +kernel), rfl, by decide +kernel, fun h => by cases h⟩
theorem kF_X6_25 : zF RX6 25 6 5 .int false := ⟨RX6, TX6, 8, tyX6, rfl, izX6, tyX6_ok, nmX6, by decide, zc1 44 (by decide +kernel) (by decide +kernel), rfl, by decide +kernel, fun h => by cases h⟩
theorem kF_X5_25 : zF RX5 25 6 6 .int false := ⟨RX6, TX6, 8, tyX6, rfl, izX6, tyX6_ok, nmX6, by decide, zc1 45 (by decide +kernel) (by decide +kernel), rfl, by decide +kernel, fun h => by cases h⟩
theorem kF_X6_22 : zF RX6 22 6 6 .int false := ⟨RX6, TX6, 8, tyX6, rfl, izX6, tyX6_ok, nmX6, by decide, zc1 46 (by decide +kernel) (by decide +kernel), rfl, by decide +kernel, fun h => by cases h⟩
theorem kF_X2_45 : zF RX2 45 6 6 .int false := ⟨RX6, TX6, 8, tyX6, rfl, izX6, tyX6_ok, nmX6, by decide, zc1 47 (by decide +kernel) (by decide +kernel), rfl, by decide +kernel, fun h => by cases h⟩
theorem kF_X7_125 : zF RX7 125 6 6 .int false := ⟨RX6, TX6, 8, tyX6, rfl, izX6, tyX6_ok, nmX6, by decide, zc1 48 (by decide +kernel) (by decide +kernel), rfl, by decide +kernel, fun h => by cases h⟩
theorem kF_X6_15 : zF RX6 15 6 7 .int false := ⟨RX6, TX6, 8, tyX6, rfl, izX6, tyX6_ok, nmX6, by decide, zc1 49 (by decide +kernel) (by decide +kernel), rfl, by decide +kernel, fun h => by cases h⟩
theorem kF_X7_128 : zF RX7 128 6 7 .int false := ⟨RX6, TX6, 8, tyX6, rfl, izX6, tyX6_ok, nmX6, by decide, zc1 50 (by decide +kernel) (by decide +kernel), rfl, by decide +kernel, fun h => by cases h⟩
theorem kN_X7_16 : zNw RX7 16 5 1 [.int 0] := ⟨RX5, TX5, tyX5, rfl, izX5, tyX5_ok, zc1 69 (by decide +kernel) (by decide +kernel), zc1 70 (by decide +kernel) (by decide +kernel), zc1 3 (by decide +kernel) (by decide +kernel), fun j hj => by
  match j, hj with
  | 0, _ => rfl
  | j + 1, h => exact absurd h (by omega)⟩
theorem kK_X7_16 : Cond.classLink RX7 16 "HiddenWords$TextReader" ∈ zW := zc1 69 (by decide +kernel) (by decide +kernel)
theorem kM_X5_3 : Cond.methodLink RX5 3 Lib.objectInit ∈ zW := zc1 74 (by decide +kernel) (by decide +kernel)
theorem kF_X5_9 : zF RX5 9 5 0 .int false := ⟨RX5, TX5, 1, tyX5, rfl, izX5, tyX5_ok, nmX5, by decide, zc1 75 (by decide +kernel) (by decide +kernel), rfl, by decide +kernel, fun h => by cases h⟩
theorem kN_X7_23 : zNw RX7 23 2 7 [.null, .null, .null, .int 0, .null, .null, .int 0] := ⟨RX2, TX2, tyX2, rfl, izX2, tyX2_ok, zc1 79 (by decide +kernel) (by decide +kernel), zc1 80 (by decide +kernel) (by decide +kernel), zc1 4 (by decide +kernel) (by decide +kernel), fun j hj => by
  match j, hj with
  | 0, _ => rfl
  | 1, _ => rfl
  | 2, _ => rfl
  | 3, _ => rfl
  | 4, _ => rfl
  | 5, _ => rfl
  | 6, _ => rfl
  | j + 7, h => exact absurd h (by omega)⟩
theorem kK_X7_23 : Cond.classLink RX7 23 "HiddenWords$Script" ∈ zW := zc1 79 (by decide +kernel) (by decide +kernel)
theorem kM_X2_3 : Cond.methodLink RX2 3 Lib.objectInit ∈ zW := zc1 84 (by decide +kernel) (by decide +kernel)
theorem kF_X2_11 : zF RX2 11 2 0 (.array .int) true := ⟨RX2, TX2, 7, tyX2, rfl, izX2, tyX2_ok, nmX2, by decide, zc1 85 (by decide +kernel) (by decide +kernel), rfl, by decide +kernel, fun _ => rfl⟩
theorem kF_X7_419 : zFr RX7 419 2 0 := ⟨RX2, TX2, 7, rfl, izX2, by decide, zc1 86 (by decide +kernel) (by decide +kernel)⟩
theorem kF_X2_15 : zF RX2 15 2 1 (.array .int) true := ⟨RX2, TX2, 7, tyX2, rfl, izX2, tyX2_ok, nmX2, by decide, zc1 87 (by decide +kernel) (by decide +kernel), rfl, by decide +kernel, fun _ => rfl⟩
theorem kF_X7_431 : zFr RX7 431 2 1 := ⟨RX2, TX2, 7, rfl, izX2, by decide, zc1 88 (by decide +kernel) (by decide +kernel)⟩
theorem kF_X2_18 : zF RX2 18 2 2 (.array .int) true := ⟨RX2, TX2, 7, tyX2, rfl, izX2, tyX2_ok, nmX2, by decide, zc1 89 (by decide +kernel) (by decide +kernel), rfl, by decide +kernel, fun _ => rfl⟩
theorem kF_X7_422 : zFr RX7 422 2 2 := ⟨RX2, TX2, 7, rfl, izX2, by decide, zc1 90 (by decide +kernel) (by decide +kernel)⟩
theorem kF_X2_33 : zF RX2 33 2 3 .int false := ⟨RX2, TX2, 7, tyX2, rfl, izX2, tyX2_ok, nmX2, by decide, zc1 91 (by decide +kernel) (by decide +kernel), rfl, by decide +kernel, fun h => by cases h⟩
theorem kF_X7_120 : zF RX7 120 2 3 .int false := ⟨RX2, TX2, 7, tyX2, rfl, izX2, tyX2_ok, nmX2, by decide, zc1 92 (by decide +kernel) (by decide +kernel), rfl, by decide +kernel, fun h => by cases h⟩
theorem kF_X2_21 : zF RX2 21 2 4 (.array .int) true := ⟨RX2, TX2, 7, tyX2, rfl, izX2, tyX2_ok, nmX2, by decide, zc1 93 (by decide +kernel) (by decide +kernel), rfl, by decide +kernel, fun _ => rfl⟩
theorem kF_X2_24 : zF RX2 24 2 5 (.array .int) true := ⟨RX2, TX2, 7, tyX2, rfl, izX2, tyX2_ok, nmX2, by decide, zc1 94 (by decide +kernel) (by decide +kernel), rfl, by decide +kernel, fun _ => rfl⟩
theorem kF_X2_37 : zF RX2 37 2 6 .int false := ⟨RX2, TX2, 7, tyX2, rfl, izX2, tyX2_ok, nmX2, by decide, zc1 95 (by decide +kernel) (by decide +kernel), rfl, by decide +kernel, fun h => by cases h⟩
theorem kN_X7_30 : zNw RX7 30 0 12 [.int 0, .int 0, .int 0, .int 0, .int 0, .int 0, .null, .null, .null, .null, .null, .null] := ⟨RX0, TX0, tyX0, rfl, izX0, tyX0_ok, zc1 112 (by decide +kernel) (by decide +kernel), zc1 113 (by decide +kernel) (by decide +kernel), zc1 5 (by decide +kernel) (by decide +kernel), fun j hj => by
  match j, hj with
  | 0, _ => rfl
  | 1, _ => rfl
  | 2, _ => rfl
  | 3, _ => rfl
  | 4, _ => rfl
  | 5, _ => rfl
  | 6, _ => rfl
  | 7, _ => rfl
  | 8, _ => rfl
  | 9, _ => rfl
  | 10, _ => rfl
  | 11, _ => rfl
  | j + 12, h => exact absurd h (by omega)⟩
theorem kK_X7_30 : Cond.classLink RX7 30 "HiddenWords$Board" ∈ zW := zc1 112 (by decide +kernel) (by decide +kernel)
theorem kM_X0_3 : Cond.methodLink RX0 3 Lib.objectInit ∈ zW := zc1 117 (by decide +kernel) (by decide +kernel)
theorem kF_X0_9 : zF RX0 9 0 0 .int false := ⟨RX0, TX0, 12, tyX0, rfl, izX0, tyX0_ok, nmX0, by decide, zc1 118 (by decide +kernel) (by decide +kernel), rfl, by decide +kernel, fun h => by cases h⟩
theorem kF_X1_15 : zF RX1 15 0 0 .int false := ⟨RX0, TX0, 12, tyX0, rfl, izX0, tyX0_ok, nmX0, by decide, zc1 119 (by decide +kernel) (by decide +kernel), rfl, by decide +kernel, fun h => by cases h⟩
theorem kF_X5_56 : zF RX5 56 0 0 .int false := ⟨RX0, TX0, 12, tyX0, rfl, izX0, tyX0_ok, nmX0, by decide, zc1 120 (by decide +kernel) (by decide +kernel), rfl, by decide +kernel, fun h => by cases h⟩
theorem kF_X3_78 : zF RX3 78 0 0 .int false := ⟨RX0, TX0, 12, tyX0, rfl, izX0, tyX0_ok, nmX0, by decide, zc1 121 (by decide +kernel) (by decide +kernel), rfl, by decide +kernel, fun h => by cases h⟩
theorem kF_X7_131 : zF RX7 131 0 0 .int false := ⟨RX0, TX0, 12, tyX0, rfl, izX0, tyX0_ok, nmX0, by decide, zc1 122 (by decide +kernel) (by decide +kernel), rfl, by decide +kernel, fun h => by cases h⟩
theorem kF_X2_138 : zF RX2 138 0 0 .int false := ⟨RX0, TX0, 12, tyX0, rfl, izX0, tyX0_ok, nmX0, by decide, zc1 123 (by decide +kernel) (by decide +kernel), rfl, by decide +kernel, fun h => by cases h⟩
theorem kF_X0_15 : zF RX0 15 0 1 .int false := ⟨RX0, TX0, 12, tyX0, rfl, izX0, tyX0_ok, nmX0, by decide, zc1 124 (by decide +kernel) (by decide +kernel), rfl, by decide +kernel, fun h => by cases h⟩
theorem kF_X1_22 : zF RX1 22 0 1 .int false := ⟨RX0, TX0, 12, tyX0, rfl, izX0, tyX0_ok, nmX0, by decide, zc1 125 (by decide +kernel) (by decide +kernel), rfl, by decide +kernel, fun h => by cases h⟩
theorem kF_X5_60 : zF RX5 60 0 1 .int false := ⟨RX0, TX0, 12, tyX0, rfl, izX0, tyX0_ok, nmX0, by decide, zc1 126 (by decide +kernel) (by decide +kernel), rfl, by decide +kernel, fun h => by cases h⟩
theorem kF_X3_79 : zF RX3 79 0 1 .int false := ⟨RX0, TX0, 12, tyX0, rfl, izX0, tyX0_ok, nmX0, by decide, zc1 127 (by decide +kernel) (by decide +kernel), rfl, by decide +kernel, fun h => by cases h⟩
theorem kF_X7_134 : zF RX7 134 0 1 .int false := ⟨RX0, TX0, 12, tyX0, rfl, izX0, tyX0_ok, nmX0, by decide, zc1 128 (by decide +kernel) (by decide +kernel), rfl, by decide +kernel, fun h => by cases h⟩
theorem kF_X2_149 : zF RX2 149 0 1 .int false := ⟨RX0, TX0, 12, tyX0, rfl, izX0, tyX0_ok, nmX0, by decide, zc1 129 (by decide +kernel) (by decide +kernel), rfl, by decide +kernel, fun h => by cases h⟩
theorem kF_X0_18 : zF RX0 18 0 2 .int false := ⟨RX0, TX0, 12, tyX0, rfl, izX0, tyX0_ok, nmX0, by decide, zc1 130 (by decide +kernel) (by decide +kernel), rfl, by decide +kernel, fun h => by cases h⟩
theorem kF_X3_49 : zF RX3 49 0 2 .int false := ⟨RX0, TX0, 12, tyX0, rfl, izX0, tyX0_ok, nmX0, by decide, zc1 131 (by decide +kernel) (by decide +kernel), rfl, by decide +kernel, fun h => by cases h⟩
theorem kF_X5_64 : zF RX5 64 0 2 .int false := ⟨RX0, TX0, 12, tyX0, rfl, izX0, tyX0_ok, nmX0, by decide, zc1 132 (by decide +kernel) (by decide +kernel), rfl, by decide +kernel, fun h => by cases h⟩
theorem kF_X7_137 : zF RX7 137 0 2 .int false := ⟨RX0, TX0, 12, tyX0, rfl, izX0, tyX0_ok, nmX0, by decide, zc1 133 (by decide +kernel) (by decide +kernel), rfl, by decide +kernel, fun h => by cases h⟩
theorem kF_X0_41 : zF RX0 41 0 3 .int false := ⟨RX0, TX0, 12, tyX0, rfl, izX0, tyX0_ok, nmX0, by decide, zc1 134 (by decide +kernel) (by decide +kernel), rfl, by decide +kernel, fun h => by cases h⟩
theorem kF_X1_26 : zF RX1 26 0 3 .int false := ⟨RX0, TX0, 12, tyX0, rfl, izX0, tyX0_ok, nmX0, by decide, zc1 135 (by decide +kernel) (by decide +kernel), rfl, by decide +kernel, fun h => by cases h⟩
theorem kF_X4_29 : zF RX4 29 0 3 .int false := ⟨RX0, TX0, 12, tyX0, rfl, izX0, tyX0_ok, nmX0, by decide, zc1 136 (by decide +kernel) (by decide +kernel), rfl, by decide +kernel, fun h => by cases h⟩
theorem kF_X5_45 : zF RX5 45 0 3 .int false := ⟨RX0, TX0, 12, tyX0, rfl, izX0, tyX0_ok, nmX0, by decide, zc1 137 (by decide +kernel) (by decide +kernel), rfl, by decide +kernel, fun h => by cases h⟩
theorem kF_X3_35 : zF RX3 35 0 3 .int false := ⟨RX0, TX0, 12, tyX0, rfl, izX0, tyX0_ok, nmX0, by decide, zc1 138 (by decide +kernel) (by decide +kernel), rfl, by decide +kernel, fun h => by cases h⟩
theorem kF_X7_108 : zF RX7 108 0 3 .int false := ⟨RX0, TX0, 12, tyX0, rfl, izX0, tyX0_ok, nmX0, by decide, zc1 139 (by decide +kernel) (by decide +kernel), rfl, by decide +kernel, fun h => by cases h⟩
theorem kF_X0_44 : zF RX0 44 0 4 .int false := ⟨RX0, TX0, 12, tyX0, rfl, izX0, tyX0_ok, nmX0, by decide, zc1 140 (by decide +kernel) (by decide +kernel), rfl, by decide +kernel, fun h => by cases h⟩
theorem kF_X7_147 : zF RX7 147 0 4 .int false := ⟨RX0, TX0, 12, tyX0, rfl, izX0, tyX0_ok, nmX0, by decide, zc1 141 (by decide +kernel) (by decide +kernel), rfl, by decide +kernel, fun h => by cases h⟩
theorem kF_X0_47 : zF RX0 47 0 5 .int false := ⟨RX0, TX0, 12, tyX0, rfl, izX0, tyX0_ok, nmX0, by decide, zc1 142 (by decide +kernel) (by decide +kernel), rfl, by decide +kernel, fun h => by cases h⟩
theorem kF_X7_159 : zF RX7 159 0 5 .int false := ⟨RX0, TX0, 12, tyX0, rfl, izX0, tyX0_ok, nmX0, by decide, zc1 143 (by decide +kernel) (by decide +kernel), rfl, by decide +kernel, fun h => by cases h⟩
theorem kF_X0_21 : zF RX0 21 0 6 (.array .long) true := ⟨RX0, TX0, 12, tyX0, rfl, izX0, tyX0_ok, nmX0, by decide, zc1 144 (by decide +kernel) (by decide +kernel), rfl, by decide +kernel, fun _ => rfl⟩
theorem kF_X7_393 : zFr RX7 393 0 6 := ⟨RX0, TX0, 12, rfl, izX0, by decide, zc1 145 (by decide +kernel) (by decide +kernel)⟩
theorem kF_X0_25 : zF RX0 25 0 7 (.array .long) true := ⟨RX0, TX0, 12, tyX0, rfl, izX0, tyX0_ok, nmX0, by decide, zc1 146 (by decide +kernel) (by decide +kernel), rfl, by decide +kernel, fun _ => rfl⟩
theorem kF_X0_28 : zF RX0 28 0 8 (.array .int) true := ⟨RX0, TX0, 12, tyX0, rfl, izX0, tyX0_ok, nmX0, by decide, zc1 147 (by decide +kernel) (by decide +kernel), rfl, by decide +kernel, fun _ => rfl⟩
theorem kF_X7_170 : zFr RX7 170 0 8 := ⟨RX0, TX0, 12, rfl, izX0, by decide, zc1 148 (by decide +kernel) (by decide +kernel)⟩
theorem kF_X0_32 : zF RX0 32 0 9 (.array .int) true := ⟨RX0, TX0, 12, tyX0, rfl, izX0, tyX0_ok, nmX0, by decide, zc1 149 (by decide +kernel) (by decide +kernel), rfl, by decide +kernel, fun _ => rfl⟩
theorem kF_X7_184 : zFr RX7 184 0 9 := ⟨RX0, TX0, 12, rfl, izX0, by decide, zc1 150 (by decide +kernel) (by decide +kernel)⟩
theorem kF_X0_35 : zF RX0 35 0 10 (.array .int) true := ⟨RX0, TX0, 12, tyX0, rfl, izX0, tyX0_ok, nmX0, by decide, zc1 151 (by decide +kernel) (by decide +kernel), rfl, by decide +kernel, fun _ => rfl⟩
theorem kF_X1_29 : zFr RX1 29 0 10 := ⟨RX0, TX0, 12, rfl, izX0, by decide, zc1 152 (by decide +kernel) (by decide +kernel)⟩
theorem kF_X7_177 : zFr RX7 177 0 10 := ⟨RX0, TX0, 12, rfl, izX0, by decide, zc1 153 (by decide +kernel) (by decide +kernel)⟩
theorem kF_X0_38 : zF RX0 38 0 11 (.array .int) true := ⟨RX0, TX0, 12, tyX0, rfl, izX0, tyX0_ok, nmX0, by decide, zc1 154 (by decide +kernel) (by decide +kernel), rfl, by decide +kernel, fun _ => rfl⟩
theorem kF_X7_370 : zFr RX7 370 0 11 := ⟨RX0, TX0, 12, rfl, izX0, by decide, zc1 155 (by decide +kernel) (by decide +kernel)⟩
theorem kN_X7_47 : zNw RX7 47 3 13 [.null, .null, .null, .null, .null, .int 0, .int 0, .int 0, .int 0, .int 0, .int 0, .int 0, .int 0] := ⟨RX3, TX3, tyX3, rfl, izX3, tyX3_ok, zc1 183 (by decide +kernel) (by decide +kernel), zc1 184 (by decide +kernel) (by decide +kernel), zc1 6 (by decide +kernel) (by decide +kernel), fun j hj => by
  match j, hj with
  | 0, _ => rfl
  | 1, _ => rfl
  | 2, _ => rfl
  | 3, _ => rfl
  | 4, _ => rfl
  | 5, _ => rfl
  | 6, _ => rfl
  | 7, _ => rfl
  | 8, _ => rfl
  | 9, _ => rfl
  | 10, _ => rfl
  | 11, _ => rfl
  | 12, _ => rfl
  | j + 13, h => exact absurd h (by omega)⟩
theorem kK_X7_47 : Cond.classLink RX7 47 "HiddenWords$Search" ∈ zW := zc1 183 (by decide +kernel) (by decide +kernel)
theorem kM_X3_3 : Cond.methodLink RX3 3 Lib.objectInit ∈ zW := zc1 188 (by decide +kernel) (by decide +kernel)
theorem kF_X3_9 : zF RX3 9 3 0 (.array .int) false := ⟨RX3, TX3, 13, tyX3, rfl, izX3, tyX3_ok, nmX3, by decide, zc1 189 (by decide +kernel) (by decide +kernel), rfl, by decide +kernel, fun h => by cases h⟩
theorem kF_X3_15 : zF RX3 15 3 1 (.array .int) false := ⟨RX3, TX3, 13, tyX3, rfl, izX3, tyX3_ok, nmX3, by decide, zc1 190 (by decide +kernel) (by decide +kernel), rfl, by decide +kernel, fun h => by cases h⟩
theorem kF_X3_18 : zF RX3 18 3 2 (.array .int) false := ⟨RX3, TX3, 13, tyX3, rfl, izX3, tyX3_ok, nmX3, by decide, zc1 191 (by decide +kernel) (by decide +kernel), rfl, by decide +kernel, fun h => by cases h⟩
theorem kF_X3_21 : zF RX3 21 3 3 (.array .int) true := ⟨RX3, TX3, 13, tyX3, rfl, izX3, tyX3_ok, nmX3, by decide, zc1 192 (by decide +kernel) (by decide +kernel), rfl, by decide +kernel, fun _ => rfl⟩
theorem kF_X3_24 : zF RX3 24 3 4 (.array .int) true := ⟨RX3, TX3, 13, tyX3, rfl, izX3, tyX3_ok, nmX3, by decide, zc1 193 (by decide +kernel) (by decide +kernel), rfl, by decide +kernel, fun _ => rfl⟩
theorem kF_X3_71 : zF RX3 71 3 5 .int false := ⟨RX3, TX3, 13, tyX3, rfl, izX3, tyX3_ok, nmX3, by decide, zc1 194 (by decide +kernel) (by decide +kernel), rfl, by decide +kernel, fun h => by cases h⟩
theorem kF_X3_82 : zF RX3 82 3 6 .int false := ⟨RX3, TX3, 13, tyX3, rfl, izX3, tyX3_ok, nmX3, by decide, zc1 195 (by decide +kernel) (by decide +kernel), rfl, by decide +kernel, fun h => by cases h⟩
theorem kF_X3_83 : zF RX3 83 3 7 .int false := ⟨RX3, TX3, 13, tyX3, rfl, izX3, tyX3_ok, nmX3, by decide, zc1 196 (by decide +kernel) (by decide +kernel), rfl, by decide +kernel, fun h => by cases h⟩
theorem kF_X3_27 : zF RX3 27 3 8 .boolean false := ⟨RX3, TX3, 13, tyX3, rfl, izX3, tyX3_ok, nmX3, by decide, zc1 197 (by decide +kernel) (by decide +kernel), rfl, by decide +kernel, fun h => by cases h⟩
theorem kF_X3_59 : zF RX3 59 3 9 .int false := ⟨RX3, TX3, 13, tyX3, rfl, izX3, tyX3_ok, nmX3, by decide, zc1 198 (by decide +kernel) (by decide +kernel), rfl, by decide +kernel, fun h => by cases h⟩
theorem kF_X7_271 : zF RX7 271 3 9 .int false := ⟨RX3, TX3, 13, tyX3, rfl, izX3, tyX3_ok, nmX3, by decide, zc1 199 (by decide +kernel) (by decide +kernel), rfl, by decide +kernel, fun h => by cases h⟩
theorem kF_X3_62 : zF RX3 62 3 10 .int false := ⟨RX3, TX3, 13, tyX3, rfl, izX3, tyX3_ok, nmX3, by decide, zc1 200 (by decide +kernel) (by decide +kernel), rfl, by decide +kernel, fun h => by cases h⟩
theorem kF_X7_274 : zF RX7 274 3 10 .int false := ⟨RX3, TX3, 13, tyX3, rfl, izX3, tyX3_ok, nmX3, by decide, zc1 201 (by decide +kernel) (by decide +kernel), rfl, by decide +kernel, fun h => by cases h⟩
theorem kF_X3_65 : zF RX3 65 3 11 .int false := ⟨RX3, TX3, 13, tyX3, rfl, izX3, tyX3_ok, nmX3, by decide, zc1 202 (by decide +kernel) (by decide +kernel), rfl, by decide +kernel, fun h => by cases h⟩
theorem kF_X7_277 : zF RX7 277 3 11 .int false := ⟨RX3, TX3, 13, tyX3, rfl, izX3, tyX3_ok, nmX3, by decide, zc1 203 (by decide +kernel) (by decide +kernel), rfl, by decide +kernel, fun h => by cases h⟩
theorem kF_X3_68 : zF RX3 68 3 12 .int false := ⟨RX3, TX3, 13, tyX3, rfl, izX3, tyX3_ok, nmX3, by decide, zc1 204 (by decide +kernel) (by decide +kernel), rfl, by decide +kernel, fun h => by cases h⟩
theorem kF_X7_280 : zF RX7 280 3 12 .int false := ⟨RX3, TX3, 13, tyX3, rfl, izX3, tyX3_ok, nmX3, by decide, zc1 205 (by decide +kernel) (by decide +kernel), rfl, by decide +kernel, fun h => by cases h⟩
theorem kN_X7_57 : zNw RX7 57 1 3 [.null, .int 0, .int 0] := ⟨RX1, TX1, tyX1, rfl, izX1, tyX1_ok, zc1 233 (by decide +kernel) (by decide +kernel), zc1 234 (by decide +kernel) (by decide +kernel), zc1 7 (by decide +kernel) (by decide +kernel), fun j hj => by
  match j, hj with
  | 0, _ => rfl
  | 1, _ => rfl
  | 2, _ => rfl
  | j + 3, h => exact absurd h (by omega)⟩
theorem kK_X7_57 : Cond.classLink RX7 57 "HiddenWords$Profile" ∈ zW := zc1 233 (by decide +kernel) (by decide +kernel)
theorem kM_X1_3 : Cond.methodLink RX1 3 Lib.objectInit ∈ zW := zc1 238 (by decide +kernel) (by decide +kernel)
theorem kF_X1_9 : zF RX1 9 1 0 (.array .int) true := ⟨RX1, TX1, 3, tyX1, rfl, izX1, tyX1_ok, nmX1, by decide, zc1 239 (by decide +kernel) (by decide +kernel), rfl, by decide +kernel, fun _ => rfl⟩
theorem kF_X1_21 : zF RX1 21 1 1 .int false := ⟨RX1, TX1, 3, tyX1, rfl, izX1, tyX1_ok, nmX1, by decide, zc2 0 (by decide +kernel) (by decide +kernel), rfl, by decide +kernel, fun h => by cases h⟩
theorem kF_X1_25 : zF RX1 25 1 2 .int false := ⟨RX1, TX1, 3, tyX1, rfl, izX1, tyX1_ok, nmX1, by decide, zc2 1 (by decide +kernel) (by decide +kernel), rfl, by decide +kernel, fun h => by cases h⟩
theorem kN_X7_64 : zNw RX7 64 4 2 [.null, .int 0] := ⟨RX4, TX4, tyX4, rfl, izX4, tyX4_ok, zc2 9 (by decide +kernel) (by decide +kernel), zc2 10 (by decide +kernel) (by decide +kernel), zc1 8 (by decide +kernel) (by decide +kernel), fun j hj => by
  match j, hj with
  | 0, _ => rfl
  | 1, _ => rfl
  | j + 2, h => exact absurd h (by omega)⟩
theorem kK_X7_64 : Cond.classLink RX7 64 "HiddenWords$Tally" ∈ zW := zc2 9 (by decide +kernel) (by decide +kernel)
theorem kM_X4_3 : Cond.methodLink RX4 3 Lib.objectInit ∈ zW := zc2 14 (by decide +kernel) (by decide +kernel)
theorem kF_X4_9 : zF RX4 9 4 0 (.array .int) false := ⟨RX4, TX4, 2, tyX4, rfl, izX4, tyX4_ok, nmX4, by decide, zc2 15 (by decide +kernel) (by decide +kernel), rfl, by decide +kernel, fun h => by cases h⟩
theorem kF_X4_21 : zF RX4 21 4 1 .int false := ⟨RX4, TX4, 2, tyX4, rfl, izX4, tyX4_ok, nmX4, by decide, zc2 16 (by decide +kernel) (by decide +kernel), rfl, by decide +kernel, fun h => by cases h⟩
theorem kF_X7_12 : zF RX7 12 7 0 (.object "HiddenWords$Tokens") true := ⟨RX7, TX7, 16, tyX7, rfl, izX7, tyX7_ok, nmX7, by decide, zc2 22 (by decide +kernel) (by decide +kernel), rfl, by decide +kernel, fun _ => rfl⟩
theorem kF_X7_19 : zF RX7 19 7 1 (.object "HiddenWords$TextReader") true := ⟨RX7, TX7, 16, tyX7, rfl, izX7, tyX7_ok, nmX7, by decide, zc2 23 (by decide +kernel) (by decide +kernel), rfl, by decide +kernel, fun _ => rfl⟩
theorem kF_X7_26 : zF RX7 26 7 2 (.object "HiddenWords$Script") true := ⟨RX7, TX7, 16, tyX7, rfl, izX7, tyX7_ok, nmX7, by decide, zc2 24 (by decide +kernel) (by decide +kernel), rfl, by decide +kernel, fun _ => rfl⟩
theorem kF_X7_33 : zF RX7 33 7 3 (.object "HiddenWords$Board") true := ⟨RX7, TX7, 16, tyX7, rfl, izX7, tyX7_ok, nmX7, by decide, zc2 25 (by decide +kernel) (by decide +kernel), rfl, by decide +kernel, fun _ => rfl⟩
theorem kF_X7_37 : zF RX7 37 7 4 (.object "HiddenWords$Board") true := ⟨RX7, TX7, 16, tyX7, rfl, izX7, tyX7_ok, nmX7, by decide, zc2 26 (by decide +kernel) (by decide +kernel), rfl, by decide +kernel, fun _ => rfl⟩
theorem kF_X7_40 : zF RX7 40 7 5 (.object "HiddenWords$Board") true := ⟨RX7, TX7, 16, tyX7, rfl, izX7, tyX7_ok, nmX7, by decide, zc2 27 (by decide +kernel) (by decide +kernel), rfl, by decide +kernel, fun _ => rfl⟩
theorem kF_X7_43 : zF RX7 43 7 6 (.array (.object "HiddenWords$Board")) true := ⟨RX7, TX7, 16, tyX7, rfl, izX7, tyX7_ok, nmX7, by decide, zc2 28 (by decide +kernel) (by decide +kernel), rfl, by decide +kernel, fun _ => rfl⟩
theorem kF_X7_50 : zF RX7 50 7 7 (.object "HiddenWords$Search") true := ⟨RX7, TX7, 16, tyX7, rfl, izX7, tyX7_ok, nmX7, by decide, zc2 29 (by decide +kernel) (by decide +kernel), rfl, by decide +kernel, fun _ => rfl⟩
theorem kF_X7_54 : zF RX7 54 7 8 (.object "HiddenWords$Search") true := ⟨RX7, TX7, 16, tyX7, rfl, izX7, tyX7_ok, nmX7, by decide, zc2 30 (by decide +kernel) (by decide +kernel), rfl, by decide +kernel, fun _ => rfl⟩
theorem kF_X7_60 : zF RX7 60 7 9 (.object "HiddenWords$Profile") true := ⟨RX7, TX7, 16, tyX7, rfl, izX7, tyX7_ok, nmX7, by decide, zc2 31 (by decide +kernel) (by decide +kernel), rfl, by decide +kernel, fun _ => rfl⟩
theorem kF_X7_67 : zF RX7 67 7 10 (.object "HiddenWords$Tally") true := ⟨RX7, TX7, 16, tyX7, rfl, izX7, tyX7_ok, nmX7, by decide, zc2 32 (by decide +kernel) (by decide +kernel), rfl, by decide +kernel, fun _ => rfl⟩
theorem kF_X7_71 : zF RX7 71 7 11 (.array .byte) true := ⟨RX7, TX7, 16, tyX7, rfl, izX7, tyX7_ok, nmX7, by decide, zc2 33 (by decide +kernel) (by decide +kernel), rfl, by decide +kernel, fun _ => rfl⟩
theorem kF_X7_387 : zF RX7 387 7 12 .int false := ⟨RX7, TX7, 16, tyX7, rfl, izX7, tyX7_ok, nmX7, by decide, zc2 34 (by decide +kernel) (by decide +kernel), rfl, by decide +kernel, fun h => by cases h⟩
theorem kF_X7_105 : zF RX7 105 7 13 .int false := ⟨RX7, TX7, 16, tyX7, rfl, izX7, tyX7_ok, nmX7, by decide, zc2 35 (by decide +kernel) (by decide +kernel), rfl, by decide +kernel, fun h => by cases h⟩
theorem kF_X7_406 : zF RX7 406 7 14 .boolean false := ⟨RX7, TX7, 16, tyX7, rfl, izX7, tyX7_ok, nmX7, by decide, zc2 36 (by decide +kernel) (by decide +kernel), rfl, by decide +kernel, fun h => by cases h⟩
theorem kF_X7_117 : zF RX7 117 7 15 .int false := ⟨RX7, TX7, 16, tyX7, rfl, izX7, tyX7_ok, nmX7, by decide, zc2 37 (by decide +kernel) (by decide +kernel), rfl, by decide +kernel, fun h => by cases h⟩
theorem kM_L_168 : Cond.methodLink RL 168 yX7_errorCode ∈ zW := zc2 71 (by decide +kernel) (by decide +kernel)
theorem kM_L_172 : Cond.methodLink RL 172 yX7_errorPosition ∈ zW := zc2 75 (by decide +kernel) (by decide +kernel)
theorem kM_L_220 : Cond.methodLink RL 220 yX7_kinds ∈ zW := zc2 79 (by decide +kernel) (by decide +kernel)
theorem kM_X7_258 : Cond.methodLink RX7 258 yX4_addAllPlaces ∈ zW := zc2 83 (by decide +kernel) (by decide +kernel)
theorem kM_X4_25 : Cond.methodLink RX4 25 yX4_start ∈ zW := zc2 87 (by decide +kernel) (by decide +kernel)
theorem kM_X4_15 : Cond.methodLink RX4 15 yX0_wordCount ∈ zW := zc2 91 (by decide +kernel) (by decide +kernel)
theorem kM_X4_32 : Cond.methodLink RX4 32 yX0_lastStart ∈ zW := zc2 95 (by decide +kernel) (by decide +kernel)
theorem kM_X4_36 : Cond.methodLink RX4 36 yX0_isPlace ∈ zW := zc2 99 (by decide +kernel) (by decide +kernel)
theorem kM_X0_66 : Cond.methodLink RX0 66 yX0_lastStart ∈ zW := zc2 103 (by decide +kernel) (by decide +kernel)
theorem kM_X0_69 : Cond.methodLink RX0 69 yX0_isOut ∈ zW := zc2 104 (by decide +kernel) (by decide +kernel)
theorem kM_X0_73 : Cond.methodLink RX0 73 yX0_lettersFrom ∈ zW := zc2 108 (by decide +kernel) (by decide +kernel)
theorem kM_X4_40 : Cond.methodLink RX4 40 yX0_codeAt ∈ zW := zc2 112 (by decide +kernel) (by decide +kernel)
theorem kM_X4_44 : Cond.methodLink RX4 44 yX0_wordOf ∈ zW := zc2 116 (by decide +kernel) (by decide +kernel)
theorem kM_X0_56 : Cond.methodLink RX0 56 yX0_letterOf ∈ zW := zc2 120 (by decide +kernel) (by decide +kernel)
theorem kM_X7_239 : Cond.methodLink RX7 239 yX4_marked ∈ zW := zc2 123 (by decide +kernel) (by decide +kernel)
theorem kM_L_227 : Cond.methodLink RL 227 yX7_commonest ∈ zW := zc2 127 (by decide +kernel) (by decide +kernel)
theorem kM_X7_264 : Cond.methodLink RX7 264 yX4_mostMarked ∈ zW := zc2 131 (by decide +kernel) (by decide +kernel)
theorem kM_L_243 : Cond.methodLink RL 243 yX7_outlier ∈ zW := zc2 135 (by decide +kernel) (by decide +kernel)
theorem kM_X7_180 : Cond.methodLink RX7 180 yX0_isOut ∈ zW := zc2 139 (by decide +kernel) (by decide +kernel)
theorem kM_X7_267 : Cond.methodLink RX7 267 yX7_searched ∈ zW := zc2 140 (by decide +kernel) (by decide +kernel)
theorem kM_X7_311 : Cond.methodLink RX7 311 yX3_go ∈ zW := zc2 144 (by decide +kernel) (by decide +kernel)
theorem kM_X3_31 : Cond.methodLink RX3 31 yX3_makeRoom ∈ zW := zc2 148 (by decide +kernel) (by decide +kernel)
theorem kM_X3_41 : Cond.methodLink RX3 41 yX0_isOut ∈ zW := zc2 152 (by decide +kernel) (by decide +kernel)
theorem kM_X3_45 : Cond.methodLink RX3 45 yX3_fillNear ∈ zW := zc2 153 (by decide +kernel) (by decide +kernel)
theorem kM_X3_98 : Cond.methodLink RX3 98 yX0_lastStart ∈ zW := zc2 157 (by decide +kernel) (by decide +kernel)
theorem kM_X3_102 : Cond.methodLink RX3 102 yX0_isPlace ∈ zW := zc2 158 (by decide +kernel) (by decide +kernel)
theorem kM_X3_106 : Cond.methodLink RX3 106 yX0_codeAt ∈ zW := zc2 159 (by decide +kernel) (by decide +kernel)
theorem kM_X3_109 : Cond.methodLink RX3 109 yX0_wordOf ∈ zW := zc2 160 (by decide +kernel) (by decide +kernel)
theorem kM_X3_112 : Cond.methodLink RX3 112 yX3_changeOneLetter ∈ zW := zc2 161 (by decide +kernel) (by decide +kernel)
theorem kM_X3_86 : Cond.methodLink RX3 86 Lib.Math.max.name ∈ zW := zc2 165 (by decide +kernel) (by decide +kernel)
theorem kM_X3_92 : Cond.methodLink RX3 92 yX3_nearestOf ∈ zW := zc2 168 (by decide +kernel) (by decide +kernel)
theorem kM_X3_95 : Cond.methodLink RX3 95 Lib.Math.min.name ∈ zW := zc2 172 (by decide +kernel) (by decide +kernel)
theorem kM_X3_52 : Cond.methodLink RX3 52 yX3_addBounds ∈ zW := zc2 175 (by decide +kernel) (by decide +kernel)
theorem kM_X3_56 : Cond.methodLink RX3 56 yX3_countScores ∈ zW := zc2 179 (by decide +kernel) (by decide +kernel)
theorem kM_X3_115 : Cond.methodLink RX3 115 yX3_scoreOf ∈ zW := zc2 183 (by decide +kernel) (by decide +kernel)
theorem kM_X3_74 : Cond.methodLink RX3 74 yX3_ask ∈ zW := zc2 187 (by decide +kernel) (by decide +kernel)
theorem kM_X7_292 : Cond.methodLink RX7 292 yX3_bestScoreWithout ∈ zW := zc2 191 (by decide +kernel) (by decide +kernel)
theorem kM_L_247 : Cond.methodLink RL 247 yX7_ranked ∈ zW := zc2 195 (by decide +kernel) (by decide +kernel)
theorem kM_X7_296 : Cond.methodLink RX7 296 yX3_wordOfRank ∈ zW := zc2 199 (by decide +kernel) (by decide +kernel)
theorem kM_L_260 : Cond.methodLink RL 260 yX7_common ∈ zW := zc2 203 (by decide +kernel) (by decide +kernel)
theorem kM_X7_162 : Cond.methodLink RX7 162 yX0_chosenRows ∈ zW := zc2 207 (by decide +kernel) (by decide +kernel)
theorem kM_X7_316 : Cond.methodLink RX7 316 yX1_fill ∈ zW := zc2 211 (by decide +kernel) (by decide +kernel)
theorem kM_X1_32 : Cond.methodLink RX1 32 yX0_codeAt ∈ zW := zc2 215 (by decide +kernel) (by decide +kernel)
theorem kM_X1_36 : Cond.methodLink RX1 36 yX0_letterOf ∈ zW := zc2 216 (by decide +kernel) (by decide +kernel)
theorem kM_X7_323 : Cond.methodLink RX7 323 yX1_commonCode ∈ zW := zc2 217 (by decide +kernel) (by decide +kernel)
theorem kM_X1_42 : Cond.methodLink RX1 42 yX1_commonLetter ∈ zW := zc2 221 (by decide +kernel) (by decide +kernel)
theorem kM_X1_39 : Cond.methodLink RX1 39 yX1_countOf ∈ zW := zc2 225 (by decide +kernel) (by decide +kernel)
theorem kM_X1_46 : Cond.methodLink RX1 46 yX0_withLetter ∈ zW := zc2 229 (by decide +kernel) (by decide +kernel)
theorem kM_X7_205 : Cond.methodLink RX7 205 yX0_wordOf ∈ zW := zc2 232 (by decide +kernel) (by decide +kernel)
theorem kM_L_264 : Cond.methodLink RL 264 yX7_agreement ∈ zW := zc2 233 (by decide +kernel) (by decide +kernel)
theorem kM_X7_326 : Cond.methodLink RX7 326 yX1_agreementOf ∈ zW := zc2 237 (by decide +kernel) (by decide +kernel)
theorem kM_X1_50 : Cond.methodLink RX1 50 yX1_fill ∈ zW := zc3 1 (by decide +kernel) (by decide +kernel)
theorem kM_L_277 : Cond.methodLink RL 277 yX7_agreementShare ∈ zW := zc3 2 (by decide +kernel) (by decide +kernel)
theorem kM_X7_336 : Cond.methodLink RX7 336 yX7_agreement ∈ zW := zc3 6 (by decide +kernel) (by decide +kernel)
theorem kM_L_282 : Cond.methodLink RL 282 yX7_meanDistance ∈ zW := zc3 7 (by decide +kernel) (by decide +kernel)
theorem kM_X7_150 : Cond.methodLink RX7 150 yJ6_bitCount_0f7a4 ∈ zW := zc3 11 (by decide +kernel) (by decide +kernel)
theorem kC_J6_265 : Cond.constant RJ6 265 (1431655765) ∈ zW := zc3 14 (by decide +kernel) (by decide +kernel)
theorem kC_J6_266 : Cond.constant RJ6 266 (858993459) ∈ zW := zc3 15 (by decide +kernel) (by decide +kernel)
theorem kC_J6_267 : Cond.constant RJ6 267 (252645135) ∈ zW := zc3 16 (by decide +kernel) (by decide +kernel)
theorem kM_L_311 : Cond.methodLink RL 311 yX7_taken ∈ zW := zc3 17 (by decide +kernel) (by decide +kernel)
theorem kM_L_322 : Cond.methodLink RL 322 yX7_report ∈ zW := zc3 21 (by decide +kernel) (by decide +kernel)
theorem kM_X7_390 : Cond.methodLink RX7 390 yX7_writeByte ∈ zW := zc3 25 (by decide +kernel) (by decide +kernel)
theorem kM_X7_397 : Cond.methodLink RX7 397 yX7_writeName ∈ zW := zc3 29 (by decide +kernel) (by decide +kernel)
theorem kM_X7_449 : Cond.methodLink RX7 449 yX0_signOfName ∈ zW := zc3 33 (by decide +kernel) (by decide +kernel)
theorem kM_X7_401 : Cond.methodLink RX7 401 yX7_signOf ∈ zW := zc3 36 (by decide +kernel) (by decide +kernel)
theorem kM_X7_194 : Cond.methodLink RX7 194 yX0_letterAt ∈ zW := zc3 40 (by decide +kernel) (by decide +kernel)
theorem kM_L_329 : Cond.methodLink RL 329 yX7_undo ∈ zW := zc3 44 (by decide +kernel) (by decide +kernel)
theorem kM_X7_101 : Cond.methodLink RX7 101 yX7_replaceBoard ∈ zW := zc3 48 (by decide +kernel) (by decide +kernel)
theorem kM_X7_305 : Cond.methodLink RX7 305 yX0_copyFrom ∈ zW := zc3 52 (by decide +kernel) (by decide +kernel)
theorem kM_X7_365 : Cond.methodLink RX7 365 yX7_forgetSearches ∈ zW := zc3 56 (by decide +kernel) (by decide +kernel)
theorem kM_X7_416 : Cond.methodLink RX7 416 yX3_forget ∈ zW := zc3 60 (by decide +kernel) (by decide +kernel)
theorem kM_L_333 : Cond.methodLink RL 333 yX7_save ∈ zW := zc3 64 (by decide +kernel) (by decide +kernel)
theorem kM_L_148 : Cond.methodLink RL 148 yL_feed ∈ zW := zc3 68 (by decide +kernel) (by decide +kernel)
theorem kK_L_13 : Cond.classLink RL 13 "java/lang/IllegalStateException" ∈ zW := zc3 71 (by decide +kernel) (by decide +kernel)
theorem kM_L_7 : Cond.methodLink RL 7 yX7_feed ∈ zW := zc3 72 (by decide +kernel) (by decide +kernel)
theorem kK_X7_79 : Cond.classLink RX7 79 "java/lang/IllegalStateException" ∈ zW := zc3 76 (by decide +kernel) (by decide +kernel)
theorem kM_X7_86 : Cond.methodLink RX7 86 yX6_append ∈ zW := zc3 143 (by decide +kernel) (by decide +kernel)
theorem kM_L_157 : Cond.methodLink RL 157 yL_truncate ∈ zW := zc3 147 (by decide +kernel) (by decide +kernel)
theorem kK_L_19 : Cond.classLink RL 19 "java/lang/IllegalArgumentException" ∈ zW := zc3 150 (by decide +kernel) (by decide +kernel)
theorem kM_L_15 : Cond.methodLink RL 15 yX7_truncate ∈ zW := zc3 151 (by decide +kernel) (by decide +kernel)
theorem kK_X7_90 : Cond.classLink RX7 90 "java/lang/IllegalArgumentException" ∈ zW := zc3 155 (by decide +kernel) (by decide +kernel)
theorem kM_L_161 : Cond.methodLink RL 161 yL_readText ∈ zW := zc3 171 (by decide +kernel) (by decide +kernel)
theorem kM_L_21 : Cond.methodLink RL 21 yX7_readText ∈ zW := zc3 174 (by decide +kernel) (by decide +kernel)
theorem kM_X7_95 : Cond.methodLink RX7 95 yX5_read ∈ zW := zc3 178 (by decide +kernel) (by decide +kernel)
theorem kM_X5_15 : Cond.methodLink RX5 15 yX0_empty ∈ zW := zc3 182 (by decide +kernel) (by decide +kernel)
theorem kM_X5_20 : Cond.methodLink RX5 20 yX6_begin ∈ zW := zc3 186 (by decide +kernel) (by decide +kernel)
theorem kM_X6_28 : Cond.methodLink RX6 28 yX6_next ∈ zW := zc3 190 (by decide +kernel) (by decide +kernel)
theorem kM_X6_34 : Cond.methodLink RX6 34 yX6_isBlank ∈ zW := zc3 194 (by decide +kernel) (by decide +kernel)
theorem kM_X6_41 : Cond.methodLink RX6 41 yX6_isLetter ∈ zW := zc3 197 (by decide +kernel) (by decide +kernel)
theorem kM_X6_44 : Cond.methodLink RX6 44 yX6_readWord ∈ zW := zc3 200 (by decide +kernel) (by decide +kernel)
theorem kM_X6_47 : Cond.methodLink RX6 47 yX6_isDigit ∈ zW := zc3 204 (by decide +kernel) (by decide +kernel)
theorem kM_X6_50 : Cond.methodLink RX6 50 yX6_readNumber ∈ zW := zc3 207 (by decide +kernel) (by decide +kernel)
theorem kM_X6_53 : Cond.methodLink RX6 53 yX6_isSingle ∈ zW := zc3 211 (by decide +kernel) (by decide +kernel)
theorem kM_X5_31 : Cond.methodLink RX5 31 yX5_readStatement ∈ zW := zc3 214 (by decide +kernel) (by decide +kernel)
theorem kM_X5_41 : Cond.methodLink RX5 41 yX6_isWord ∈ zW := zc3 219 (by decide +kernel) (by decide +kernel)
theorem kM_X6_59 : Cond.methodLink RX6 59 yJ0_length_8abf5 ∈ zW := zc3 223 (by decide +kernel) (by decide +kernel)
theorem kM_J0_335 : Cond.methodLink RJ0 335 yJ0_coder_7d493 ∈ zW := zc3 227 (by decide +kernel) (by decide +kernel)
theorem kM_X6_65 : Cond.methodLink RX6 65 yX6_signAt ∈ zW := zc3 233 (by decide +kernel) (by decide +kernel)
theorem kM_X6_69 : Cond.methodLink RX6 69 yJ0_charAt_5068e ∈ zW := zc3 237 (by decide +kernel) (by decide +kernel)
theorem kM_J0_492 : Cond.methodLink RJ0 492 yJ0_isLatin1_aae02 ∈ zW := zc4 1 (by decide +kernel) (by decide +kernel)
theorem kM_J0_495 : Cond.methodLink RJ0 495 yJ1_charAt_3b067 ∈ zW := zc4 5 (by decide +kernel) (by decide +kernel)
theorem kM_J1_9 : Cond.methodLink RJ1 9 yJ0_checkIndex_df160 ∈ zW := zc4 8 (by decide +kernel) (by decide +kernel)
theorem kM_J0_1059 : Cond.methodLink RJ0 1059 yJ3_checkIndex_8e157 ∈ zW := zc4 13 (by decide +kernel) (by decide +kernel)
theorem kM_J0_498 : Cond.methodLink RJ0 498 yJ2_charAt_3b067 ∈ zW := zc4 16 (by decide +kernel) (by decide +kernel)
theorem kM_J2_67 : Cond.methodLink RJ2 67 yJ2_checkIndex_2214a ∈ zW := zc4 19 (by decide +kernel) (by decide +kernel)
theorem kM_J2_48 : Cond.methodLink RJ2 48 yJ2_length_9d52b ∈ zW := zc4 22 (by decide +kernel) (by decide +kernel)
theorem kM_J2_414 : Cond.methodLink RJ2 414 yJ0_checkIndex_df160 ∈ zW := zc4 25 (by decide +kernel) (by decide +kernel)
theorem kM_J2_71 : Cond.methodLink RJ2 71 yJ2_getChar_3b067 ∈ zW := zc4 26 (by decide +kernel) (by decide +kernel)
theorem kM_X5_48 : Cond.methodLink RX5 48 yX6_fail ∈ zW := zc4 35 (by decide +kernel) (by decide +kernel)
theorem kM_X5_52 : Cond.methodLink RX5 52 yX5_readSetting ∈ zW := zc4 39 (by decide +kernel) (by decide +kernel)
theorem kM_X5_71 : Cond.methodLink RX5 71 yX6_next ∈ zW := zc4 43 (by decide +kernel) (by decide +kernel)
theorem kM_X5_74 : Cond.methodLink RX5 74 yX6_passNumber ∈ zW := zc4 44 (by decide +kernel) (by decide +kernel)
theorem kM_X6_91 : Cond.methodLink RX6 91 yX6_fail ∈ zW := zc4 48 (by decide +kernel) (by decide +kernel)
theorem kM_X5_68 : Cond.methodLink RX5 68 yX5_readRow ∈ zW := zc4 52 (by decide +kernel) (by decide +kernel)
theorem kM_X5_78 : Cond.methodLink RX5 78 yX6_nameCode ∈ zW := zc4 56 (by decide +kernel) (by decide +kernel)
theorem kM_X6_73 : Cond.methodLink RX6 73 yX6_wordSize ∈ zW := zc4 60 (by decide +kernel) (by decide +kernel)
theorem kM_X6_84 : Cond.methodLink RX6 84 yX0_withSign ∈ zW := zc4 64 (by decide +kernel) (by decide +kernel)
theorem kM_X5_82 : Cond.methodLink RX5 82 yX0_rowNamed ∈ zW := zc4 67 (by decide +kernel) (by decide +kernel)
theorem kM_X5_86 : Cond.methodLink RX5 86 yX6_wordSize ∈ zW := zc4 71 (by decide +kernel) (by decide +kernel)
theorem kM_X5_90 : Cond.methodLink RX5 90 yX6_wordCode ∈ zW := zc4 72 (by decide +kernel) (by decide +kernel)
theorem kC_X6_76 : Cond.constantLong RX6 76 (-1) ∈ zW := zc4 76 (by decide +kernel) (by decide +kernel)
theorem kM_X6_78 : Cond.methodLink RX6 78 yX0_withLetter ∈ zW := zc4 77 (by decide +kernel) (by decide +kernel)
theorem kC_X5_94 : Cond.constantLong RX5 94 (-1) ∈ zW := zc4 78 (by decide +kernel) (by decide +kernel)
theorem kM_X5_96 : Cond.methodLink RX5 96 yX0_addRow ∈ zW := zc4 79 (by decide +kernel) (by decide +kernel)
theorem kM_X5_35 : Cond.methodLink RX5 35 yX6_passMark ∈ zW := zc4 83 (by decide +kernel) (by decide +kernel)
theorem kM_X6_87 : Cond.methodLink RX6 87 yX6_isMark ∈ zW := zc4 87 (by decide +kernel) (by decide +kernel)
theorem kM_L_165 : Cond.methodLink RL 165 yL_runScript ∈ zW := zc4 92 (by decide +kernel) (by decide +kernel)
theorem kM_L_25 : Cond.methodLink RL 25 yX7_runScript ∈ zW := zc4 95 (by decide +kernel) (by decide +kernel)
theorem kM_X7_111 : Cond.methodLink RX7 111 yX2_read ∈ zW := zc4 99 (by decide +kernel) (by decide +kernel)
theorem kM_X2_40 : Cond.methodLink RX2 40 yX6_begin ∈ zW := zc4 103 (by decide +kernel) (by decide +kernel)
theorem kM_X2_48 : Cond.methodLink RX2 48 yX2_isAtEnd ∈ zW := zc4 104 (by decide +kernel) (by decide +kernel)
theorem kM_X2_52 : Cond.methodLink RX2 52 yX6_isMark ∈ zW := zc4 108 (by decide +kernel) (by decide +kernel)
theorem kM_X2_56 : Cond.methodLink RX2 56 yX2_closeRepeat ∈ zW := zc4 109 (by decide +kernel) (by decide +kernel)
theorem kM_X2_67 : Cond.methodLink RX2 67 yX6_next ∈ zW := zc4 113 (by decide +kernel) (by decide +kernel)
theorem kM_X2_70 : Cond.methodLink RX2 70 yX6_passMark ∈ zW := zc4 114 (by decide +kernel) (by decide +kernel)
theorem kM_X2_60 : Cond.methodLink RX2 60 yX2_readCommand ∈ zW := zc4 115 (by decide +kernel) (by decide +kernel)
theorem kM_X2_74 : Cond.methodLink RX2 74 yX2_kindOf ∈ zW := zc4 119 (by decide +kernel) (by decide +kernel)
theorem kM_X2_100 : Cond.methodLink RX2 100 yX6_isWord ∈ zW := zc4 123 (by decide +kernel) (by decide +kernel)
theorem kM_X2_78 : Cond.methodLink RX2 78 yX6_fail ∈ zW := zc4 133 (by decide +kernel) (by decide +kernel)
theorem kM_X2_82 : Cond.methodLink RX2 82 yX2_hasName ∈ zW := zc4 134 (by decide +kernel) (by decide +kernel)
theorem kM_X2_86 : Cond.methodLink RX2 86 yX2_passRow ∈ zW := zc4 137 (by decide +kernel) (by decide +kernel)
theorem kM_X2_122 : Cond.methodLink RX2 122 yX6_nameCode ∈ zW := zc4 140 (by decide +kernel) (by decide +kernel)
theorem kM_X2_126 : Cond.methodLink RX2 126 yX0_rowNamed ∈ zW := zc4 141 (by decide +kernel) (by decide +kernel)
theorem kM_X2_90 : Cond.methodLink RX2 90 yX2_passNumberOf ∈ zW := zc4 142 (by decide +kernel) (by decide +kernel)
theorem kM_X2_132 : Cond.methodLink RX2 132 yX6_passNumber ∈ zW := zc4 145 (by decide +kernel) (by decide +kernel)
theorem kM_X2_135 : Cond.methodLink RX2 135 yX2_passWord ∈ zW := zc4 146 (by decide +kernel) (by decide +kernel)
theorem kM_X2_141 : Cond.methodLink RX2 141 yX6_wordCode ∈ zW := zc4 149 (by decide +kernel) (by decide +kernel)
theorem kM_X2_145 : Cond.methodLink RX2 145 yX6_wordSize ∈ zW := zc4 150 (by decide +kernel) (by decide +kernel)
theorem kC_X2_152 : Cond.constantLong RX2 152 (-1) ∈ zW := zc4 151 (by decide +kernel) (by decide +kernel)
theorem kM_X2_154 : Cond.methodLink RX2 154 yX0_wordOf ∈ zW := zc4 152 (by decide +kernel) (by decide +kernel)
theorem kM_X2_94 : Cond.methodLink RX2 94 yX2_finishCommand ∈ zW := zc4 153 (by decide +kernel) (by decide +kernel)
theorem kM_X7_114 : Cond.methodLink RX7 114 yX7_keepPast ∈ zW := zc4 158 (by decide +kernel) (by decide +kernel)
theorem kM_X7_121 : Cond.methodLink RX7 121 yX7_runCommands ∈ zW := zc4 162 (by decide +kernel) (by decide +kernel)
theorem kM_X7_425 : Cond.methodLink RX7 425 yX2_behind ∈ zW := zc4 166 (by decide +kernel) (by decide +kernel)
theorem kM_X2_27 : Cond.methodLink RX2 27 Lib.Math.max.name ∈ zW := zc4 170 (by decide +kernel) (by decide +kernel)
theorem kM_X7_428 : Cond.methodLink RX7 428 yX7_runCommand ∈ zW := zc4 171 (by decide +kernel) (by decide +kernel)
theorem kM_X7_433 : Cond.methodLink RX7 433 yX7_runChoose ∈ zW := zc4 175 (by decide +kernel) (by decide +kernel)
theorem kM_X7_198 : Cond.methodLink RX7 198 yX0_isPlace ∈ zW := zc4 179 (by decide +kernel) (by decide +kernel)
theorem kM_X7_436 : Cond.methodLink RX7 436 yX7_runClear ∈ zW := zc4 180 (by decide +kernel) (by decide +kernel)
theorem kM_X7_439 : Cond.methodLink RX7 439 yX7_runBetter ∈ zW := zc4 184 (by decide +kernel) (by decide +kernel)
theorem kM_X7_351 : Cond.methodLink RX7 351 yX1_betterRow ∈ zW := zc4 188 (by decide +kernel) (by decide +kernel)
theorem kM_X1_54 : Cond.methodLink RX1 54 yX0_lastStart ∈ zW := zc4 192 (by decide +kernel) (by decide +kernel)
theorem kM_X1_57 : Cond.methodLink RX1 57 yX0_isPlace ∈ zW := zc4 193 (by decide +kernel) (by decide +kernel)
theorem kM_X1_61 : Cond.methodLink RX1 61 yX1_weightOf ∈ zW := zc4 194 (by decide +kernel) (by decide +kernel)
theorem kM_X7_355 : Cond.methodLink RX7 355 yX7_isCountOfImproves ∈ zW := zc4 198 (by decide +kernel) (by decide +kernel)
theorem kM_X7_360 : Cond.methodLink RX7 360 yX1_improveAtMost ∈ zW := zc4 201 (by decide +kernel) (by decide +kernel)
theorem kM_X1_72 : Cond.methodLink RX1 72 yX1_improveOnce ∈ zW := zc4 205 (by decide +kernel) (by decide +kernel)
theorem kM_X1_64 : Cond.methodLink RX1 64 yX0_isOut ∈ zW := zc4 209 (by decide +kernel) (by decide +kernel)
theorem kM_X1_68 : Cond.methodLink RX1 68 yX1_betterRow ∈ zW := zc4 210 (by decide +kernel) (by decide +kernel)
theorem kM_X7_308 : Cond.methodLink RX7 308 yX0_cover ∈ zW := zc4 211 (by decide +kernel) (by decide +kernel)
theorem kM_X0_100 : Cond.methodLink RX0 100 yX0_codeOf ∈ zW := zc4 215 (by decide +kernel) (by decide +kernel)
theorem kM_X0_50 : Cond.methodLink RX0 50 Lib.Math.max.name ∈ zW := zc4 219 (by decide +kernel) (by decide +kernel)
theorem kM_X0_103 : Cond.methodLink RX0 103 yX0_rowsHaving ∈ zW := zc4 220 (by decide +kernel) (by decide +kernel)
theorem kM_X0_93 : Cond.methodLink RX0 93 yX0_nearest ∈ zW := zc4 224 (by decide +kernel) (by decide +kernel)
theorem kM_X0_76 : Cond.methodLink RX0 76 yX0_isPlace ∈ zW := zc4 228 (by decide +kernel) (by decide +kernel)
theorem kM_X0_83 : Cond.methodLink RX0 83 yX0_codeAt ∈ zW := zc4 229 (by decide +kernel) (by decide +kernel)
theorem kM_X0_86 : Cond.methodLink RX0 86 yX0_differing ∈ zW := zc4 230 (by decide +kernel) (by decide +kernel)
theorem kC_X0_59 : Cond.constant RX0 59 (1431655765) ∈ zW := zc4 233 (by decide +kernel) (by decide +kernel)
theorem kM_X0_60 : Cond.methodLink RX0 60 yJ6_bitCount_0f7a4 ∈ zW := zc4 234 (by decide +kernel) (by decide +kernel)
theorem kM_X0_90 : Cond.methodLink RX0 90 Lib.Math.min.name ∈ zW := zc4 235 (by decide +kernel) (by decide +kernel)
theorem kM_X0_106 : Cond.methodLink RX0 106 yX0_nearestStart ∈ zW := zc4 236 (by decide +kernel) (by decide +kernel)
theorem kM_X7_442 : Cond.methodLink RX7 442 yX7_runOut ∈ zW := zc5 0 (by decide +kernel) (by decide +kernel)
theorem kM_X7_375 : Cond.methodLink RX7 375 yX7_putOut ∈ zW := zc5 4 (by decide +kernel) (by decide +kernel)
theorem kM_X7_446 : Cond.methodLink RX7 446 yX7_runChanges ∈ zW := zc5 8 (by decide +kernel) (by decide +kernel)
theorem kM_X7_379 : Cond.methodLink RX7 379 yX7_isCountOfChanges ∈ zW := zc5 12 (by decide +kernel) (by decide +kernel)
theorem kM_X7_384 : Cond.methodLink RX7 384 yX7_putChanges ∈ zW := zc5 15 (by decide +kernel) (by decide +kernel)
theorem kM_L_176 : Cond.methodLink RL 176 yL_setting ∈ zW := zc5 19 (by decide +kernel) (by decide +kernel)
theorem kM_L_28 : Cond.methodLink RL 28 yX7_setting ∈ zW := zc5 22 (by decide +kernel) (by decide +kernel)
theorem kM_X7_140 : Cond.methodLink RX7 140 yX0_wordCount ∈ zW := zc5 26 (by decide +kernel) (by decide +kernel)
theorem kM_X7_144 : Cond.methodLink RX7 144 yX0_allPlaces ∈ zW := zc5 27 (by decide +kernel) (by decide +kernel)
theorem kM_X0_80 : Cond.methodLink RX0 80 yX0_placesOf ∈ zW := zc5 31 (by decide +kernel) (by decide +kernel)
theorem kM_X7_156 : Cond.methodLink RX7 156 yX0_allCovered ∈ zW := zc5 35 (by decide +kernel) (by decide +kernel)
theorem kM_L_179 : Cond.methodLink RL 179 yL_row ∈ zW := zc5 40 (by decide +kernel) (by decide +kernel)
theorem kK_L_35 : Cond.classLink RL 35 "java/lang/IndexOutOfBoundsException" ∈ zW := zc5 43 (by decide +kernel) (by decide +kernel)
theorem kM_L_31 : Cond.methodLink RL 31 yX7_row ∈ zW := zc5 44 (by decide +kernel) (by decide +kernel)
theorem kM_X7_167 : Cond.methodLink RX7 167 yX7_requireRow ∈ zW := zc5 48 (by decide +kernel) (by decide +kernel)
theorem kK_X7_189 : Cond.classLink RX7 189 "java/lang/IndexOutOfBoundsException" ∈ zW := zc5 52 (by decide +kernel) (by decide +kernel)
theorem kM_X7_174 : Cond.methodLink RX7 174 yX0_placesOf ∈ zW := zc5 68 (by decide +kernel) (by decide +kernel)
theorem kM_L_183 : Cond.methodLink RL 183 yL_letter ∈ zW := zc5 70 (by decide +kernel) (by decide +kernel)
theorem kM_L_37 : Cond.methodLink RL 37 yX7_letter ∈ zW := zc5 73 (by decide +kernel) (by decide +kernel)
theorem kM_L_186 : Cond.methodLink RL 186 yL_wordAt ∈ zW := zc5 78 (by decide +kernel) (by decide +kernel)
theorem kM_L_40 : Cond.methodLink RL 40 yX7_wordAt ∈ zW := zc5 81 (by decide +kernel) (by decide +kernel)
theorem kM_X7_202 : Cond.methodLink RX7 202 yX0_codeAt ∈ zW := zc5 85 (by decide +kernel) (by decide +kernel)
theorem kM_L_189 : Cond.methodLink RL 189 yL_differ ∈ zW := zc5 86 (by decide +kernel) (by decide +kernel)
theorem kM_L_43 : Cond.methodLink RL 43 yX7_differ ∈ zW := zc5 89 (by decide +kernel) (by decide +kernel)
theorem kM_X7_208 : Cond.methodLink RX7 208 yX7_requireWord ∈ zW := zc5 93 (by decide +kernel) (by decide +kernel)
theorem kM_X7_211 : Cond.methodLink RX7 211 yX0_codeOf ∈ zW := zc5 98 (by decide +kernel) (by decide +kernel)
theorem kM_X7_214 : Cond.methodLink RX7 214 yX0_differing ∈ zW := zc5 99 (by decide +kernel) (by decide +kernel)
theorem kM_L_192 : Cond.methodLink RL 192 yL_distance ∈ zW := zc5 100 (by decide +kernel) (by decide +kernel)
theorem kM_L_46 : Cond.methodLink RL 46 yX7_distance ∈ zW := zc5 103 (by decide +kernel) (by decide +kernel)
theorem kM_X7_218 : Cond.methodLink RX7 218 yX0_nearest ∈ zW := zc5 107 (by decide +kernel) (by decide +kernel)
theorem kM_L_195 : Cond.methodLink RL 195 yL_score ∈ zW := zc5 108 (by decide +kernel) (by decide +kernel)
theorem kM_L_49 : Cond.methodLink RL 49 yX7_score ∈ zW := zc5 111 (by decide +kernel) (by decide +kernel)
theorem kM_X7_221 : Cond.methodLink RX7 221 yX0_boundOf ∈ zW := zc5 115 (by decide +kernel) (by decide +kernel)
theorem kM_L_198 : Cond.methodLink RL 198 yL_having ∈ zW := zc5 119 (by decide +kernel) (by decide +kernel)
theorem kM_L_52 : Cond.methodLink RL 52 yX7_having ∈ zW := zc5 122 (by decide +kernel) (by decide +kernel)
theorem kM_X7_224 : Cond.methodLink RX7 224 yX0_rowsHaving ∈ zW := zc5 126 (by decide +kernel) (by decide +kernel)
theorem kM_L_201 : Cond.methodLink RL 201 yL_closest ∈ zW := zc5 127 (by decide +kernel) (by decide +kernel)
theorem kM_L_55 : Cond.methodLink RL 55 yX7_closest ∈ zW := zc5 130 (by decide +kernel) (by decide +kernel)
theorem kM_X7_227 : Cond.methodLink RX7 227 yX0_nearestStart ∈ zW := zc5 134 (by decide +kernel) (by decide +kernel)
theorem kM_L_204 : Cond.methodLink RL 204 yL_spread ∈ zW := zc5 135 (by decide +kernel) (by decide +kernel)
theorem kM_L_58 : Cond.methodLink RL 58 yX7_spread ∈ zW := zc5 138 (by decide +kernel) (by decide +kernel)
theorem kM_X7_230 : Cond.methodLink RX7 230 Lib.Math.max.name ∈ zW := zc5 142 (by decide +kernel) (by decide +kernel)
theorem kM_L_207 : Cond.methodLink RL 207 yL_shared ∈ zW := zc5 143 (by decide +kernel) (by decide +kernel)
theorem kM_L_61 : Cond.methodLink RL 61 yX7_shared ∈ zW := zc5 146 (by decide +kernel) (by decide +kernel)
theorem kM_X7_235 : Cond.methodLink RX7 235 yX4_markShared ∈ zW := zc5 150 (by decide +kernel) (by decide +kernel)
theorem kM_X4_47 : Cond.methodLink RX4 47 yX4_raiseMarks ∈ zW := zc5 154 (by decide +kernel) (by decide +kernel)
theorem kM_L_210 : Cond.methodLink RL 210 yL_sharedAt ∈ zW := zc5 158 (by decide +kernel) (by decide +kernel)
theorem kM_L_64 : Cond.methodLink RL 64 yX7_sharedAt ∈ zW := zc5 161 (by decide +kernel) (by decide +kernel)
theorem kM_X7_242 : Cond.methodLink RX7 242 yX4_markedAt ∈ zW := zc5 165 (by decide +kernel) (by decide +kernel)
theorem kM_L_214 : Cond.methodLink RL 214 yL_hits ∈ zW := zc5 169 (by decide +kernel) (by decide +kernel)
theorem kM_L_68 : Cond.methodLink RL 68 yX7_hits ∈ zW := zc5 172 (by decide +kernel) (by decide +kernel)
theorem kM_X7_245 : Cond.methodLink RX7 245 yX0_lastStart ∈ zW := zc5 176 (by decide +kernel) (by decide +kernel)
theorem kM_X7_248 : Cond.methodLink RX7 248 yX0_isHit ∈ zW := zc5 177 (by decide +kernel) (by decide +kernel)
theorem kM_L_217 : Cond.methodLink RL 217 yL_hit ∈ zW := zc5 181 (by decide +kernel) (by decide +kernel)
theorem kM_L_71 : Cond.methodLink RL 71 yX7_hit ∈ zW := zc5 184 (by decide +kernel) (by decide +kernel)
theorem kM_X7_251 : Cond.methodLink RX7 251 yX0_hitNumber ∈ zW := zc5 188 (by decide +kernel) (by decide +kernel)
theorem kM_X0_96 : Cond.methodLink RX0 96 yX0_isHit ∈ zW := zc5 192 (by decide +kernel) (by decide +kernel)
theorem kM_L_224 : Cond.methodLink RL 224 yL_timesOf ∈ zW := zc5 195 (by decide +kernel) (by decide +kernel)
theorem kM_L_74 : Cond.methodLink RL 74 yX7_timesOf ∈ zW := zc5 198 (by decide +kernel) (by decide +kernel)
theorem kM_X7_261 : Cond.methodLink RX7 261 yX4_times ∈ zW := zc5 202 (by decide +kernel) (by decide +kernel)
theorem kM_L_231 : Cond.methodLink RL 231 yL_best ∈ zW := zc5 206 (by decide +kernel) (by decide +kernel)
theorem kM_L_77 : Cond.methodLink RL 77 yX7_best ∈ zW := zc5 209 (by decide +kernel) (by decide +kernel)
theorem kM_L_234 : Cond.methodLink RL 234 yL_bound ∈ zW := zc5 214 (by decide +kernel) (by decide +kernel)
theorem kM_L_80 : Cond.methodLink RL 80 yX7_bound ∈ zW := zc5 217 (by decide +kernel) (by decide +kernel)
theorem kM_L_237 : Cond.methodLink RL 237 yL_mostHad ∈ zW := zc5 222 (by decide +kernel) (by decide +kernel)
theorem kM_L_83 : Cond.methodLink RL 83 yX7_mostHad ∈ zW := zc5 225 (by decide +kernel) (by decide +kernel)
theorem kM_X7_289 : Cond.methodLink RX7 289 yX3_mostHadWord ∈ zW := zc5 230 (by decide +kernel) (by decide +kernel)
theorem kM_L_240 : Cond.methodLink RL 240 yL_scoreWithout ∈ zW := zc5 234 (by decide +kernel) (by decide +kernel)
theorem kM_L_86 : Cond.methodLink RL 86 yX7_scoreWithout ∈ zW := zc5 237 (by decide +kernel) (by decide +kernel)
theorem kM_L_251 : Cond.methodLink RL 251 yL_rankOf ∈ zW := zc6 1 (by decide +kernel) (by decide +kernel)
theorem kM_L_89 : Cond.methodLink RL 89 yX7_rankOf ∈ zW := zc6 4 (by decide +kernel) (by decide +kernel)
theorem kM_X7_299 : Cond.methodLink RX7 299 yX3_rankOfWord ∈ zW := zc6 8 (by decide +kernel) (by decide +kernel)
theorem kM_L_254 : Cond.methodLink RL 254 yL_second ∈ zW := zc6 12 (by decide +kernel) (by decide +kernel)
theorem kM_L_92 : Cond.methodLink RL 92 yX7_second ∈ zW := zc6 15 (by decide +kernel) (by decide +kernel)
theorem kM_X7_302 : Cond.methodLink RX7 302 yX0_reasonAgainst ∈ zW := zc6 19 (by decide +kernel) (by decide +kernel)
theorem kM_L_257 : Cond.methodLink RL 257 yL_count ∈ zW := zc6 23 (by decide +kernel) (by decide +kernel)
theorem kM_L_95 : Cond.methodLink RL 95 yX7_count ∈ zW := zc6 26 (by decide +kernel) (by decide +kernel)
theorem kM_X7_320 : Cond.methodLink RX7 320 yX1_countOf ∈ zW := zc6 31 (by decide +kernel) (by decide +kernel)
theorem kM_L_268 : Cond.methodLink RL 268 yL_weight ∈ zW := zc6 32 (by decide +kernel) (by decide +kernel)
theorem kM_L_98 : Cond.methodLink RL 98 yX7_weight ∈ zW := zc6 35 (by decide +kernel) (by decide +kernel)
theorem kM_X7_330 : Cond.methodLink RX7 330 yX1_weightOf ∈ zW := zc6 39 (by decide +kernel) (by decide +kernel)
theorem kM_L_271 : Cond.methodLink RL 271 yL_tryFrom ∈ zW := zc6 40 (by decide +kernel) (by decide +kernel)
theorem kM_L_101 : Cond.methodLink RL 101 yX7_tryFrom ∈ zW := zc6 43 (by decide +kernel) (by decide +kernel)
theorem kM_X7_333 : Cond.methodLink RX7 333 yX7_agreementFrom ∈ zW := zc6 47 (by decide +kernel) (by decide +kernel)
theorem kM_L_274 : Cond.methodLink RL 274 yL_bestStart ∈ zW := zc6 51 (by decide +kernel) (by decide +kernel)
theorem kM_L_104 : Cond.methodLink RL 104 yX7_bestStart ∈ zW := zc6 54 (by decide +kernel) (by decide +kernel)
theorem kM_L_287 : Cond.methodLink RL 287 yL_improvesToEnd ∈ zW := zc6 58 (by decide +kernel) (by decide +kernel)
theorem kM_L_107 : Cond.methodLink RL 107 yX7_improvesToEnd ∈ zW := zc6 61 (by decide +kernel) (by decide +kernel)
theorem kM_X7_341 : Cond.methodLink RX7 341 yX1_improveOnce ∈ zW := zc6 66 (by decide +kernel) (by decide +kernel)
theorem kM_L_290 : Cond.methodLink RL 290 yL_choose ∈ zW := zc6 67 (by decide +kernel) (by decide +kernel)
theorem kM_L_110 : Cond.methodLink RL 110 yX7_choose ∈ zW := zc6 70 (by decide +kernel) (by decide +kernel)
theorem kM_L_293 : Cond.methodLink RL 293 yL_clear ∈ zW := zc6 75 (by decide +kernel) (by decide +kernel)
theorem kM_L_113 : Cond.methodLink RL 113 yX7_clear ∈ zW := zc6 78 (by decide +kernel) (by decide +kernel)
theorem kM_L_296 : Cond.methodLink RL 296 yL_better ∈ zW := zc6 83 (by decide +kernel) (by decide +kernel)
theorem kM_L_116 : Cond.methodLink RL 116 yX7_better ∈ zW := zc6 86 (by decide +kernel) (by decide +kernel)
theorem kM_L_299 : Cond.methodLink RL 299 yL_improve ∈ zW := zc6 91 (by decide +kernel) (by decide +kernel)
theorem kM_L_119 : Cond.methodLink RL 119 yX7_improve ∈ zW := zc6 94 (by decide +kernel) (by decide +kernel)
theorem kM_L_302 : Cond.methodLink RL 302 yL_take ∈ zW := zc6 99 (by decide +kernel) (by decide +kernel)
theorem kM_L_122 : Cond.methodLink RL 122 yX7_take ∈ zW := zc6 102 (by decide +kernel) (by decide +kernel)
theorem kM_L_305 : Cond.methodLink RL 305 yL_takeBest ∈ zW := zc6 107 (by decide +kernel) (by decide +kernel)
theorem kM_L_125 : Cond.methodLink RL 125 yX7_takeBest ∈ zW := zc6 110 (by decide +kernel) (by decide +kernel)
theorem kM_L_308 : Cond.methodLink RL 308 yL_whyNotTake ∈ zW := zc6 115 (by decide +kernel) (by decide +kernel)
theorem kM_L_128 : Cond.methodLink RL 128 yX7_whyNotTake ∈ zW := zc6 118 (by decide +kernel) (by decide +kernel)
theorem kM_L_315 : Cond.methodLink RL 315 yL_setOut ∈ zW := zc6 122 (by decide +kernel) (by decide +kernel)
theorem kM_L_131 : Cond.methodLink RL 131 yX7_setOut ∈ zW := zc6 125 (by decide +kernel) (by decide +kernel)
theorem kM_L_319 : Cond.methodLink RL 319 yL_setChanges ∈ zW := zc6 130 (by decide +kernel) (by decide +kernel)
theorem kM_L_135 : Cond.methodLink RL 135 yX7_setChanges ∈ zW := zc6 133 (by decide +kernel) (by decide +kernel)
theorem kM_L_326 : Cond.methodLink RL 326 yL_reportByte ∈ zW := zc6 138 (by decide +kernel) (by decide +kernel)
theorem kM_L_138 : Cond.methodLink RL 138 yX7_reportByte ∈ zW := zc6 141 (by decide +kernel) (by decide +kernel)
theorem kM_L_337 : Cond.methodLink RL 337 yL_restore ∈ zW := zc6 146 (by decide +kernel) (by decide +kernel)
theorem kM_L_141 : Cond.methodLink RL 141 yX7_restore ∈ zW := zc6 149 (by decide +kernel) (by decide +kernel)
theorem kN_L_145 : zNw RL 145 8 49 [.int 0, .null, .int 0, .int 0, .int 0, .int 0, .int 0, .int 0, .int 0, .int 0, .int 0, .int 0, .int 0, .long 0, .null, .null, .null, .null, .null, .null, .null, .null, .int 0, .int 0, .int 0, .null, .null, .int 0, .int 0, .int 0, .null, .int 0, .int 0, .int 0, .int 0, .null, .null, .null, .null, .null, .null, .null, .int 0, .int 0, .int 0, .int 0, .null, .int 0, .int 0] := ⟨RX8, TX8, tyX8, rfl, izX8, tyX8_ok, zc6 154 (by decide +kernel) (by decide +kernel), zc6 155 (by decide +kernel) (by decide +kernel), zc1 9 (by decide +kernel) (by decide +kernel), fun j hj => by
  match j, hj with
  | 0, _ => rfl
  | 1, _ => rfl
  | 2, _ => rfl
  | 3, _ => rfl
  | 4, _ => rfl
  | 5, _ => rfl
  | 6, _ => rfl
  | 7, _ => rfl
  | 8, _ => rfl
  | 9, _ => rfl
  | 10, _ => rfl
  | 11, _ => rfl
  | 12, _ => rfl
  | 13, _ => rfl
  | 14, _ => rfl
  | 15, _ => rfl
  | 16, _ => rfl
  | 17, _ => rfl
  | 18, _ => rfl
  | 19, _ => rfl
  | 20, _ => rfl
  | 21, _ => rfl
  | 22, _ => rfl
  | 23, _ => rfl
  | 24, _ => rfl
  | 25, _ => rfl
  | 26, _ => rfl
  | 27, _ => rfl
  | 28, _ => rfl
  | 29, _ => rfl
  | 30, _ => rfl
  | 31, _ => rfl
  | 32, _ => rfl
  | 33, _ => rfl
  | 34, _ => rfl
  | 35, _ => rfl
  | 36, _ => rfl
  | 37, _ => rfl
  | 38, _ => rfl
  | 39, _ => rfl
  | 40, _ => rfl
  | 41, _ => rfl
  | 42, _ => rfl
  | 43, _ => rfl
  | 44, _ => rfl
  | 45, _ => rfl
  | 46, _ => rfl
  | 47, _ => rfl
  | 48, _ => rfl
  | j + 49, h => exact absurd h (by omega)⟩
theorem kK_L_145 : Cond.classLink RL 145 "HiddenWordsModel" ∈ zW := zc6 154 (by decide +kernel) (by decide +kernel)
theorem kM_L_147 : Cond.methodLink RL 147 yX8_init ∈ zW := zc6 156 (by decide +kernel) (by decide +kernel)
theorem kM_X8_1 : Cond.methodLink RX8 1 Lib.objectInit ∈ zW := zc6 159 (by decide +kernel) (by decide +kernel)
theorem kM_X8_78 : Cond.methodLink RX8 78 yX8_clears ∈ zW := zc6 160 (by decide +kernel) (by decide +kernel)
theorem kF_X8_81 : zF RX8 81 8 0 .int false := ⟨RX8, TX8, 49, tyX8, rfl, izX8, tyX8_ok, nmX8, by decide, zc6 164 (by decide +kernel) (by decide +kernel), rfl, by decide +kernel, fun h => by cases h⟩
theorem kF_X8_7 : zF RX8 7 8 1 (.array .int) true := ⟨RX8, TX8, 49, tyX8, rfl, izX8, tyX8_ok, nmX8, by decide, zc6 165 (by decide +kernel) (by decide +kernel), rfl, by decide +kernel, fun _ => rfl⟩
theorem kF_X8_88 : zF RX8 88 8 2 .int false := ⟨RX8, TX8, 49, tyX8, rfl, izX8, tyX8_ok, nmX8, by decide, zc6 166 (by decide +kernel) (by decide +kernel), rfl, by decide +kernel, fun h => by cases h⟩
theorem kF_X8_106 : zF RX8 106 8 3 .int false := ⟨RX8, TX8, 49, tyX8, rfl, izX8, tyX8_ok, nmX8, by decide, zc6 167 (by decide +kernel) (by decide +kernel), rfl, by decide +kernel, fun h => by cases h⟩
theorem kF_X8_103 : zF RX8 103 8 4 .int false := ⟨RX8, TX8, 49, tyX8, rfl, izX8, tyX8_ok, nmX8, by decide, zc6 168 (by decide +kernel) (by decide +kernel), rfl, by decide +kernel, fun h => by cases h⟩
theorem kF_X8_113 : zF RX8 113 8 5 .int false := ⟨RX8, TX8, 49, tyX8, rfl, izX8, tyX8_ok, nmX8, by decide, zc6 169 (by decide +kernel) (by decide +kernel), rfl, by decide +kernel, fun h => by cases h⟩
theorem kF_X8_126 : zF RX8 126 8 6 .int false := ⟨RX8, TX8, 49, tyX8, rfl, izX8, tyX8_ok, nmX8, by decide, zc6 170 (by decide +kernel) (by decide +kernel), rfl, by decide +kernel, fun h => by cases h⟩
theorem kF_X8_120 : zF RX8 120 8 7 .int false := ⟨RX8, TX8, 49, tyX8, rfl, izX8, tyX8_ok, nmX8, by decide, zc6 171 (by decide +kernel) (by decide +kernel), rfl, by decide +kernel, fun h => by cases h⟩
theorem kF_X8_123 : zF RX8 123 8 8 .int false := ⟨RX8, TX8, 49, tyX8, rfl, izX8, tyX8_ok, nmX8, by decide, zc6 172 (by decide +kernel) (by decide +kernel), rfl, by decide +kernel, fun h => by cases h⟩
theorem kF_X8_136 : zF RX8 136 8 9 .int false := ⟨RX8, TX8, 49, tyX8, rfl, izX8, tyX8_ok, nmX8, by decide, zc6 173 (by decide +kernel) (by decide +kernel), rfl, by decide +kernel, fun h => by cases h⟩
theorem kF_X8_13 : zF RX8 13 8 10 .int false := ⟨RX8, TX8, 49, tyX8, rfl, izX8, tyX8_ok, nmX8, by decide, zc6 174 (by decide +kernel) (by decide +kernel), rfl, by decide +kernel, fun h => by cases h⟩
theorem kF_X8_152 : zF RX8 152 8 11 .int false := ⟨RX8, TX8, 49, tyX8, rfl, izX8, tyX8_ok, nmX8, by decide, zc6 175 (by decide +kernel) (by decide +kernel), rfl, by decide +kernel, fun h => by cases h⟩
theorem kF_X8_17 : zF RX8 17 8 12 .int false := ⟨RX8, TX8, 49, tyX8, rfl, izX8, tyX8_ok, nmX8, by decide, zc6 176 (by decide +kernel) (by decide +kernel), rfl, by decide +kernel, fun h => by cases h⟩
theorem kF_X8_116 : zF RX8 116 8 13 .long false := ⟨RX8, TX8, 49, tyX8, rfl, izX8, tyX8_ok, nmX8, by decide, zc6 177 (by decide +kernel) (by decide +kernel), rfl, by decide +kernel, fun h => by cases h⟩
theorem kF_X8_20 : zF RX8 20 8 14 (.array .int) true := ⟨RX8, TX8, 49, tyX8, rfl, izX8, tyX8_ok, nmX8, by decide, zc6 178 (by decide +kernel) (by decide +kernel), rfl, by decide +kernel, fun _ => rfl⟩
theorem kF_X8_23 : zF RX8 23 8 15 (.array .int) true := ⟨RX8, TX8, 49, tyX8, rfl, izX8, tyX8_ok, nmX8, by decide, zc6 179 (by decide +kernel) (by decide +kernel), rfl, by decide +kernel, fun _ => rfl⟩
theorem kF_X8_26 : zF RX8 26 8 16 (.array .int) true := ⟨RX8, TX8, 49, tyX8, rfl, izX8, tyX8_ok, nmX8, by decide, zc6 180 (by decide +kernel) (by decide +kernel), rfl, by decide +kernel, fun _ => rfl⟩
theorem kF_X8_29 : zF RX8 29 8 17 (.array .int) true := ⟨RX8, TX8, 49, tyX8, rfl, izX8, tyX8_ok, nmX8, by decide, zc6 181 (by decide +kernel) (by decide +kernel), rfl, by decide +kernel, fun _ => rfl⟩
theorem kF_X8_32 : zF RX8 32 8 18 (.array .int) true := ⟨RX8, TX8, 49, tyX8, rfl, izX8, tyX8_ok, nmX8, by decide, zc6 182 (by decide +kernel) (by decide +kernel), rfl, by decide +kernel, fun _ => rfl⟩
theorem kF_X8_35 : zF RX8 35 8 19 (.array .long) true := ⟨RX8, TX8, 49, tyX8, rfl, izX8, tyX8_ok, nmX8, by decide, zc6 183 (by decide +kernel) (by decide +kernel), rfl, by decide +kernel, fun _ => rfl⟩
theorem kF_X8_39 : zF RX8 39 8 20 (.array .long) true := ⟨RX8, TX8, 49, tyX8, rfl, izX8, tyX8_ok, nmX8, by decide, zc6 184 (by decide +kernel) (by decide +kernel), rfl, by decide +kernel, fun _ => rfl⟩
theorem kF_X8_42 : zF RX8 42 8 21 (.array .long) true := ⟨RX8, TX8, 49, tyX8, rfl, izX8, tyX8_ok, nmX8, by decide, zc6 185 (by decide +kernel) (by decide +kernel), rfl, by decide +kernel, fun _ => rfl⟩
theorem kF_X8_155 : zF RX8 155 8 22 .int false := ⟨RX8, TX8, 49, tyX8, rfl, izX8, tyX8_ok, nmX8, by decide, zc6 186 (by decide +kernel) (by decide +kernel), rfl, by decide +kernel, fun h => by cases h⟩
theorem kF_X8_158 : zF RX8 158 8 23 .boolean false := ⟨RX8, TX8, 49, tyX8, rfl, izX8, tyX8_ok, nmX8, by decide, zc6 187 (by decide +kernel) (by decide +kernel), rfl, by decide +kernel, fun h => by cases h⟩
theorem kF_X8_183 : zF RX8 183 8 24 .int false := ⟨RX8, TX8, 49, tyX8, rfl, izX8, tyX8_ok, nmX8, by decide, zc6 188 (by decide +kernel) (by decide +kernel), rfl, by decide +kernel, fun h => by cases h⟩
theorem kF_X8_45 : zF RX8 45 8 25 (.array .int) true := ⟨RX8, TX8, 49, tyX8, rfl, izX8, tyX8_ok, nmX8, by decide, zc6 189 (by decide +kernel) (by decide +kernel), rfl, by decide +kernel, fun _ => rfl⟩
theorem kF_X8_48 : zF RX8 48 8 26 (.array .int) true := ⟨RX8, TX8, 49, tyX8, rfl, izX8, tyX8_ok, nmX8, by decide, zc6 190 (by decide +kernel) (by decide +kernel), rfl, by decide +kernel, fun _ => rfl⟩
theorem kF_X8_286 : zF RX8 286 8 27 .int false := ⟨RX8, TX8, 49, tyX8, rfl, izX8, tyX8_ok, nmX8, by decide, zc6 191 (by decide +kernel) (by decide +kernel), rfl, by decide +kernel, fun h => by cases h⟩
theorem kF_X8_289 : zF RX8 289 8 28 .int false := ⟨RX8, TX8, 49, tyX8, rfl, izX8, tyX8_ok, nmX8, by decide, zc6 192 (by decide +kernel) (by decide +kernel), rfl, by decide +kernel, fun h => by cases h⟩
theorem kF_X8_292 : zF RX8 292 8 29 .int false := ⟨RX8, TX8, 49, tyX8, rfl, izX8, tyX8_ok, nmX8, by decide, zc6 193 (by decide +kernel) (by decide +kernel), rfl, by decide +kernel, fun h => by cases h⟩
theorem kF_X8_51 : zF RX8 51 8 30 (.array .int) true := ⟨RX8, TX8, 49, tyX8, rfl, izX8, tyX8_ok, nmX8, by decide, zc6 194 (by decide +kernel) (by decide +kernel), rfl, by decide +kernel, fun _ => rfl⟩
theorem kF_X8_306 : zF RX8 306 8 31 .int false := ⟨RX8, TX8, 49, tyX8, rfl, izX8, tyX8_ok, nmX8, by decide, zc6 195 (by decide +kernel) (by decide +kernel), rfl, by decide +kernel, fun h => by cases h⟩
theorem kF_X8_309 : zF RX8 309 8 32 .int false := ⟨RX8, TX8, 49, tyX8, rfl, izX8, tyX8_ok, nmX8, by decide, zc6 196 (by decide +kernel) (by decide +kernel), rfl, by decide +kernel, fun h => by cases h⟩
theorem kF_X8_312 : zF RX8 312 8 33 .int false := ⟨RX8, TX8, 49, tyX8, rfl, izX8, tyX8_ok, nmX8, by decide, zc6 197 (by decide +kernel) (by decide +kernel), rfl, by decide +kernel, fun h => by cases h⟩
theorem kF_X8_315 : zF RX8 315 8 34 .int false := ⟨RX8, TX8, 49, tyX8, rfl, izX8, tyX8_ok, nmX8, by decide, zc6 198 (by decide +kernel) (by decide +kernel), rfl, by decide +kernel, fun h => by cases h⟩
theorem kF_X8_54 : zF RX8 54 8 35 (.array .int) true := ⟨RX8, TX8, 49, tyX8, rfl, izX8, tyX8_ok, nmX8, by decide, zc6 199 (by decide +kernel) (by decide +kernel), rfl, by decide +kernel, fun _ => rfl⟩
theorem kF_X8_57 : zF RX8 57 8 36 (.array .int) true := ⟨RX8, TX8, 49, tyX8, rfl, izX8, tyX8_ok, nmX8, by decide, zc6 200 (by decide +kernel) (by decide +kernel), rfl, by decide +kernel, fun _ => rfl⟩
theorem kF_X8_60 : zF RX8 60 8 37 (.array .int) true := ⟨RX8, TX8, 49, tyX8, rfl, izX8, tyX8_ok, nmX8, by decide, zc6 201 (by decide +kernel) (by decide +kernel), rfl, by decide +kernel, fun _ => rfl⟩
theorem kF_X8_63 : zF RX8 63 8 38 (.array .int) true := ⟨RX8, TX8, 49, tyX8, rfl, izX8, tyX8_ok, nmX8, by decide, zc6 202 (by decide +kernel) (by decide +kernel), rfl, by decide +kernel, fun _ => rfl⟩
theorem kF_X8_66 : zF RX8 66 8 39 (.array .int) true := ⟨RX8, TX8, 49, tyX8, rfl, izX8, tyX8_ok, nmX8, by decide, zc6 203 (by decide +kernel) (by decide +kernel), rfl, by decide +kernel, fun _ => rfl⟩
theorem kF_X8_69 : zF RX8 69 8 40 (.array .int) true := ⟨RX8, TX8, 49, tyX8, rfl, izX8, tyX8_ok, nmX8, by decide, zc6 204 (by decide +kernel) (by decide +kernel), rfl, by decide +kernel, fun _ => rfl⟩
theorem kF_X8_72 : zF RX8 72 8 41 (.array .int) true := ⟨RX8, TX8, 49, tyX8, rfl, izX8, tyX8_ok, nmX8, by decide, zc6 205 (by decide +kernel) (by decide +kernel), rfl, by decide +kernel, fun _ => rfl⟩
theorem kF_X8_421 : zF RX8 421 8 42 .int false := ⟨RX8, TX8, 49, tyX8, rfl, izX8, tyX8_ok, nmX8, by decide, zc6 206 (by decide +kernel) (by decide +kernel), rfl, by decide +kernel, fun h => by cases h⟩
theorem kF_X8_418 : zF RX8 418 8 43 .int false := ⟨RX8, TX8, 49, tyX8, rfl, izX8, tyX8_ok, nmX8, by decide, zc6 207 (by decide +kernel) (by decide +kernel), rfl, by decide +kernel, fun h => by cases h⟩
theorem kF_X8_415 : zF RX8 415 8 44 .int false := ⟨RX8, TX8, 49, tyX8, rfl, izX8, tyX8_ok, nmX8, by decide, zc6 208 (by decide +kernel) (by decide +kernel), rfl, by decide +kernel, fun h => by cases h⟩
theorem kF_X8_434 : zF RX8 434 8 45 .int false := ⟨RX8, TX8, 49, tyX8, rfl, izX8, tyX8_ok, nmX8, by decide, zc6 209 (by decide +kernel) (by decide +kernel), rfl, by decide +kernel, fun h => by cases h⟩
theorem kF_X8_75 : zF RX8 75 8 46 (.array .int) true := ⟨RX8, TX8, 49, tyX8, rfl, izX8, tyX8_ok, nmX8, by decide, zc6 210 (by decide +kernel) (by decide +kernel), rfl, by decide +kernel, fun _ => rfl⟩
theorem kF_X8_449 : zF RX8 449 8 47 .int false := ⟨RX8, TX8, 49, tyX8, rfl, izX8, tyX8_ok, nmX8, by decide, zc6 211 (by decide +kernel) (by decide +kernel), rfl, by decide +kernel, fun h => by cases h⟩
theorem kF_X8_457 : zF RX8 457 8 48 .boolean false := ⟨RX8, TX8, 49, tyX8, rfl, izX8, tyX8_ok, nmX8, by decide, zc6 212 (by decide +kernel) (by decide +kernel), rfl, by decide +kernel, fun h => by cases h⟩
theorem kM_L_154 : Cond.methodLink RL 154 yX8_thrown ∈ zW := zc7 72 (by decide +kernel) (by decide +kernel)
theorem kM_L_153 : Cond.methodLink RL 153 yX8_feed ∈ zW := zc7 76 (by decide +kernel) (by decide +kernel)
theorem kM_X8_91 : Cond.methodLink RX8 91 yX8_goes ∈ zW := zc7 80 (by decide +kernel) (by decide +kernel)
theorem kM_X8_84 : Cond.methodLink RX8 84 yX8_truth ∈ zW := zc7 84 (by decide +kernel) (by decide +kernel)
theorem kM_X8_95 : Cond.methodLink RX8 95 yX8_four ∈ zW := zc7 87 (by decide +kernel) (by decide +kernel)
theorem kM_L_160 : Cond.methodLink RL 160 yX8_truncate ∈ zW := zc7 91 (by decide +kernel) (by decide +kernel)
theorem kM_X8_99 : Cond.methodLink RX8 99 yX8_isIn ∈ zW := zc7 95 (by decide +kernel) (by decide +kernel)
theorem kM_L_171 : Cond.methodLink RL 171 yX8_errorCode ∈ zW := zc7 98 (by decide +kernel) (by decide +kernel)
theorem kM_L_175 : Cond.methodLink RL 175 yX8_errorPosition ∈ zW := zc7 102 (by decide +kernel) (by decide +kernel)
theorem kM_L_332 : Cond.methodLink RL 332 yX8_undo ∈ zW := zc7 106 (by decide +kernel) (by decide +kernel)
theorem kM_L_336 : Cond.methodLink RL 336 yX8_save ∈ zW := zc7 110 (by decide +kernel) (by decide +kernel)
theorem kM_L_339 : Cond.methodLink RL 339 yX8_restore ∈ zW := zc7 114 (by decide +kernel) (by decide +kernel)
theorem kM_L_164 : Cond.methodLink RL 164 yX8_readText ∈ zW := zc7 118 (by decide +kernel) (by decide +kernel)
theorem kM_X8_214 : Cond.methodLink RX8 214 yX8_beginsText ∈ zW := zc7 122 (by decide +kernel) (by decide +kernel)
theorem kM_X8_149 : Cond.methodLink RX8 149 yX8_goOn ∈ zW := zc7 126 (by decide +kernel) (by decide +kernel)
theorem kM_X8_109 : Cond.methodLink RX8 109 yX8_here ∈ zW := zc7 130 (by decide +kernel) (by decide +kernel)
theorem kM_X8_129 : Cond.methodLink RX8 129 yX8_isLetter ∈ zW := zc7 134 (by decide +kernel) (by decide +kernel)
theorem kM_X8_133 : Cond.methodLink RX8 133 yX8_isDigit ∈ zW := zc7 137 (by decide +kernel) (by decide +kernel)
theorem kM_X8_217 : Cond.methodLink RX8 217 yX8_laysAside ∈ zW := zc7 140 (by decide +kernel) (by decide +kernel)
theorem kM_X8_139 : Cond.methodLink RX8 139 yX8_isGood ∈ zW := zc7 144 (by decide +kernel) (by decide +kernel)
theorem kM_X8_220 : Cond.methodLink RX8 220 yX8_statement ∈ zW := zc7 148 (by decide +kernel) (by decide +kernel)
theorem kC_X8_193 : Cond.constantLong RX8 193 (13074306643) ∈ zW := zc7 152 (by decide +kernel) (by decide +kernel)
theorem kM_X8_195 : Cond.methodLink RX8 195 yX8_isWord ∈ zW := zc7 153 (by decide +kernel) (by decide +kernel)
theorem kM_X8_199 : Cond.methodLink RX8 199 yX8_readsOnce ∈ zW := zc7 157 (by decide +kernel) (by decide +kernel)
theorem kM_X8_186 : Cond.methodLink RX8 186 yX8_hasBit ∈ zW := zc7 161 (by decide +kernel) (by decide +kernel)
theorem kM_X8_146 : Cond.methodLink RX8 146 yX8_wrong ∈ zW := zc7 164 (by decide +kernel) (by decide +kernel)
theorem kM_X8_190 : Cond.methodLink RX8 190 yX8_number ∈ zW := zc7 168 (by decide +kernel) (by decide +kernel)
theorem kC_X8_202 : Cond.constantLong RX8 202 (408362632) ∈ zW := zc7 172 (by decide +kernel) (by decide +kernel)
theorem kC_X8_204 : Cond.constantLong RX8 204 (3491175603) ∈ zW := zc7 173 (by decide +kernel) (by decide +kernel)
theorem kC_X8_206 : Cond.constantLong RX8 206 (18935) ∈ zW := zc7 174 (by decide +kernel) (by decide +kernel)
theorem kM_X8_208 : Cond.methodLink RX8 208 yX8_readsRow ∈ zW := zc7 175 (by decide +kernel) (by decide +kernel)
theorem kM_X8_170 : Cond.methodLink RX8 170 yX8_mustName ∈ zW := zc7 179 (by decide +kernel) (by decide +kernel)
theorem kM_X8_173 : Cond.methodLink RX8 173 yX8_named ∈ zW := zc7 183 (by decide +kernel) (by decide +kernel)
theorem kM_X8_176 : Cond.methodLink RX8 176 yX8_hasLetters ∈ zW := zc7 187 (by decide +kernel) (by decide +kernel)
theorem kM_X8_179 : Cond.methodLink RX8 179 yX8_lays ∈ zW := zc7 191 (by decide +kernel) (by decide +kernel)
theorem kM_X8_211 : Cond.methodLink RX8 211 yX8_mustSign ∈ zW := zc7 195 (by decide +kernel) (by decide +kernel)
theorem kM_X8_143 : Cond.methodLink RX8 143 yX8_isSign ∈ zW := zc7 199 (by decide +kernel) (by decide +kernel)
theorem kM_X8_223 : Cond.methodLink RX8 223 yX8_endsText ∈ zW := zc7 203 (by decide +kernel) (by decide +kernel)
theorem kM_L_178 : Cond.methodLink RL 178 yX8_setting ∈ zW := zc7 207 (by decide +kernel) (by decide +kernel)
theorem kC_X8_248 : Cond.constantLong RX8 248 (9) ∈ zW := zc7 211 (by decide +kernel) (by decide +kernel)
theorem kM_X8_250 : Cond.methodLink RX8 250 yX8_placesOf ∈ zW := zc7 212 (by decide +kernel) (by decide +kernel)
theorem kM_X8_166 : Cond.methodLink RX8 166 yX8_of ∈ zW := zc7 216 (by decide +kernel) (by decide +kernel)
theorem kM_X8_229 : Cond.methodLink RX8 229 yX8_isPlace ∈ zW := zc7 220 (by decide +kernel) (by decide +kernel)
theorem kM_X8_226 : Cond.methodLink RX8 226 yX8_isOut ∈ zW := zc7 224 (by decide +kernel) (by decide +kernel)
theorem kM_X8_253 : Cond.methodLink RX8 253 yX8_ones ∈ zW := zc7 228 (by decide +kernel) (by decide +kernel)
theorem kM_X8_162 : Cond.methodLink RX8 162 yX8_words ∈ zW := zc7 231 (by decide +kernel) (by decide +kernel)
theorem kM_L_182 : Cond.methodLink RL 182 yX8_row ∈ zW := zc7 235 (by decide +kernel) (by decide +kernel)
theorem kM_X8_256 : Cond.methodLink RX8 256 yX8_isRow ∈ zW := zc7 239 (by decide +kernel) (by decide +kernel)
theorem kC_X8_259 : Cond.constantLong RX8 259 (4) ∈ zW := zc8 3 (by decide +kernel) (by decide +kernel)
theorem kM_X8_261 : Cond.methodLink RX8 261 yX8_goesBoth ∈ zW := zc8 4 (by decide +kernel) (by decide +kernel)
theorem kM_L_185 : Cond.methodLink RL 185 yX8_letter ∈ zW := zc8 8 (by decide +kernel) (by decide +kernel)
theorem kM_X8_232 : Cond.methodLink RX8 232 yX8_letterAt ∈ zW := zc8 12 (by decide +kernel) (by decide +kernel)
theorem kM_L_188 : Cond.methodLink RL 188 yX8_wordAt ∈ zW := zc8 16 (by decide +kernel) (by decide +kernel)
theorem kM_X8_265 : Cond.methodLink RX8 265 yX8_wordThere ∈ zW := zc8 20 (by decide +kernel) (by decide +kernel)
theorem kM_L_191 : Cond.methodLink RL 191 yX8_differ ∈ zW := zc8 24 (by decide +kernel) (by decide +kernel)
theorem kM_X8_268 : Cond.methodLink RX8 268 yX8_isOne ∈ zW := zc8 28 (by decide +kernel) (by decide +kernel)
theorem kM_X8_242 : Cond.methodLink RX8 242 yX8_spells ∈ zW := zc8 32 (by decide +kernel) (by decide +kernel)
theorem kM_L_194 : Cond.methodLink RL 194 yX8_distance ∈ zW := zc8 36 (by decide +kernel) (by decide +kernel)
theorem kM_X8_239 : Cond.methodLink RX8 239 yX8_least ∈ zW := zc8 40 (by decide +kernel) (by decide +kernel)
theorem kM_X8_235 : Cond.methodLink RX8 235 yX8_differsAt ∈ zW := zc8 44 (by decide +kernel) (by decide +kernel)
theorem kM_L_197 : Cond.methodLink RL 197 yX8_score ∈ zW := zc8 48 (by decide +kernel) (by decide +kernel)
theorem kM_X8_271 : Cond.methodLink RX8 271 yX8_scoreOf ∈ zW := zc8 52 (by decide +kernel) (by decide +kernel)
theorem kM_X8_245 : Cond.methodLink RX8 245 yX8_bounds ∈ zW := zc8 56 (by decide +kernel) (by decide +kernel)
theorem kM_L_200 : Cond.methodLink RL 200 yX8_having ∈ zW := zc8 60 (by decide +kernel) (by decide +kernel)
theorem kM_X8_274 : Cond.methodLink RX8 274 yX8_haves ∈ zW := zc8 64 (by decide +kernel) (by decide +kernel)
theorem kM_L_203 : Cond.methodLink RL 203 yX8_closest ∈ zW := zc8 68 (by decide +kernel) (by decide +kernel)
theorem kM_X8_277 : Cond.methodLink RX8 277 yX8_nearest ∈ zW := zc8 72 (by decide +kernel) (by decide +kernel)
theorem kM_L_206 : Cond.methodLink RL 206 yX8_spread ∈ zW := zc8 76 (by decide +kernel) (by decide +kernel)
theorem kM_L_209 : Cond.methodLink RL 209 yX8_shared ∈ zW := zc8 80 (by decide +kernel) (by decide +kernel)
theorem kM_X8_283 : Cond.methodLink RX8 283 yX8_sharedAbove ∈ zW := zc8 84 (by decide +kernel) (by decide +kernel)
theorem kM_X8_280 : Cond.methodLink RX8 280 yX8_isAt ∈ zW := zc8 88 (by decide +kernel) (by decide +kernel)
theorem kM_L_213 : Cond.methodLink RL 213 yX8_sharedAt ∈ zW := zc8 92 (by decide +kernel) (by decide +kernel)
theorem kM_L_216 : Cond.methodLink RL 216 yX8_hits ∈ zW := zc8 96 (by decide +kernel) (by decide +kernel)
theorem kM_X8_295 : Cond.methodLink RX8 295 yX8_hitsOf ∈ zW := zc8 100 (by decide +kernel) (by decide +kernel)
theorem kM_L_219 : Cond.methodLink RL 219 yX8_hit ∈ zW := zc8 104 (by decide +kernel) (by decide +kernel)
theorem kC_X8_298 : Cond.constantLong RX8 298 (2) ∈ zW := zc8 108 (by decide +kernel) (by decide +kernel)
theorem kM_L_223 : Cond.methodLink RL 223 yX8_kinds ∈ zW := zc8 109 (by decide +kernel) (by decide +kernel)
theorem kM_X8_300 : Cond.methodLink RX8 300 yX8_laysTimes ∈ zW := zc8 113 (by decide +kernel) (by decide +kernel)
theorem kM_L_226 : Cond.methodLink RL 226 yX8_timesOf ∈ zW := zc8 117 (by decide +kernel) (by decide +kernel)
theorem kM_X8_303 : Cond.methodLink RX8 303 yX8_times ∈ zW := zc8 121 (by decide +kernel) (by decide +kernel)
theorem kM_L_230 : Cond.methodLink RL 230 yX8_commonest ∈ zW := zc8 125 (by decide +kernel) (by decide +kernel)
theorem kM_L_233 : Cond.methodLink RL 233 yX8_best ∈ zW := zc8 129 (by decide +kernel) (by decide +kernel)
theorem kC_X8_321 : Cond.constantLong RX8 321 (3) ∈ zW := zc8 133 (by decide +kernel) (by decide +kernel)
theorem kM_X8_323 : Cond.methodLink RX8 323 yX8_searches ∈ zW := zc8 134 (by decide +kernel) (by decide +kernel)
theorem kM_X8_318 : Cond.methodLink RX8 318 yX8_numberOfSpelt ∈ zW := zc8 138 (by decide +kernel) (by decide +kernel)
theorem kM_L_236 : Cond.methodLink RL 236 yX8_bound ∈ zW := zc8 142 (by decide +kernel) (by decide +kernel)
theorem kM_L_239 : Cond.methodLink RL 239 yX8_mostHad ∈ zW := zc8 146 (by decide +kernel) (by decide +kernel)
theorem kM_L_242 : Cond.methodLink RL 242 yX8_scoreWithout ∈ zW := zc8 150 (by decide +kernel) (by decide +kernel)
theorem kM_X8_326 : Cond.methodLink RX8 326 yX8_without ∈ zW := zc8 154 (by decide +kernel) (by decide +kernel)
theorem kM_L_246 : Cond.methodLink RL 246 yX8_outlier ∈ zW := zc8 158 (by decide +kernel) (by decide +kernel)
theorem kM_L_250 : Cond.methodLink RL 250 yX8_ranked ∈ zW := zc8 162 (by decide +kernel) (by decide +kernel)
theorem kM_X8_329 : Cond.methodLink RX8 329 yX8_laysScores ∈ zW := zc8 166 (by decide +kernel) (by decide +kernel)
theorem kM_L_253 : Cond.methodLink RL 253 yX8_rankOf ∈ zW := zc8 170 (by decide +kernel) (by decide +kernel)
theorem kM_X8_332 : Cond.methodLink RX8 332 yX8_rank ∈ zW := zc8 174 (by decide +kernel) (by decide +kernel)
theorem kM_L_256 : Cond.methodLink RL 256 yX8_second ∈ zW := zc8 178 (by decide +kernel) (by decide +kernel)
theorem kM_X8_335 : Cond.methodLink RX8 335 yX8_whyTake ∈ zW := zc8 182 (by decide +kernel) (by decide +kernel)
theorem kM_X8_338 : Cond.methodLink RX8 338 yX8_thinks ∈ zW := zc8 186 (by decide +kernel) (by decide +kernel)
theorem kM_X8_341 : Cond.methodLink RX8 341 yX8_takes ∈ zW := zc8 190 (by decide +kernel) (by decide +kernel)
theorem kM_X8_344 : Cond.methodLink RX8 344 yX8_thinksNoMore ∈ zW := zc8 194 (by decide +kernel) (by decide +kernel)
theorem kM_L_259 : Cond.methodLink RL 259 yX8_count ∈ zW := zc8 198 (by decide +kernel) (by decide +kernel)
theorem kM_X8_347 : Cond.methodLink RX8 347 yX8_laysProfile ∈ zW := zc8 202 (by decide +kernel) (by decide +kernel)
theorem kM_L_263 : Cond.methodLink RL 263 yX8_common ∈ zW := zc8 206 (by decide +kernel) (by decide +kernel)
theorem kM_X8_350 : Cond.methodLink RX8 350 yX8_chosen ∈ zW := zc8 210 (by decide +kernel) (by decide +kernel)
theorem kM_X8_353 : Cond.methodLink RX8 353 yX8_mostAt ∈ zW := zc8 214 (by decide +kernel) (by decide +kernel)
theorem kM_L_267 : Cond.methodLink RL 267 yX8_agreement ∈ zW := zc8 218 (by decide +kernel) (by decide +kernel)
theorem kM_X8_356 : Cond.methodLink RX8 356 yX8_agrees ∈ zW := zc8 222 (by decide +kernel) (by decide +kernel)
theorem kM_L_270 : Cond.methodLink RL 270 yX8_weight ∈ zW := zc8 226 (by decide +kernel) (by decide +kernel)
theorem kM_X8_359 : Cond.methodLink RX8 359 yX8_weighs ∈ zW := zc8 230 (by decide +kernel) (by decide +kernel)
theorem kM_L_273 : Cond.methodLink RL 273 yX8_tryFrom ∈ zW := zc8 234 (by decide +kernel) (by decide +kernel)
theorem kM_X8_371 : Cond.methodLink RX8 371 yX8_tries ∈ zW := zc8 238 (by decide +kernel) (by decide +kernel)
theorem kM_X8_368 : Cond.methodLink RX8 368 yX8_improves ∈ zW := zc9 2 (by decide +kernel) (by decide +kernel)
theorem kM_X8_365 : Cond.methodLink RX8 365 yX8_improvesOnce ∈ zW := zc9 6 (by decide +kernel) (by decide +kernel)
theorem kM_X8_362 : Cond.methodLink RX8 362 yX8_betters ∈ zW := zc9 10 (by decide +kernel) (by decide +kernel)
theorem kM_L_276 : Cond.methodLink RL 276 yX8_bestStart ∈ zW := zc9 14 (by decide +kernel) (by decide +kernel)
theorem kM_L_281 : Cond.methodLink RL 281 yX8_agreementShare ∈ zW := zc9 18 (by decide +kernel) (by decide +kernel)
theorem kM_L_286 : Cond.methodLink RL 286 yX8_meanDistance ∈ zW := zc9 22 (by decide +kernel) (by decide +kernel)
theorem kM_L_289 : Cond.methodLink RL 289 yX8_improvesToEnd ∈ zW := zc9 26 (by decide +kernel) (by decide +kernel)
theorem kC_X8_374 : Cond.constantLong RX8 374 (50) ∈ zW := zc9 30 (by decide +kernel) (by decide +kernel)
theorem kM_L_292 : Cond.methodLink RL 292 yX8_choose ∈ zW := zc9 31 (by decide +kernel) (by decide +kernel)
theorem kM_X8_379 : Cond.methodLink RX8 379 yX8_chooses ∈ zW := zc9 35 (by decide +kernel) (by decide +kernel)
theorem kM_X8_382 : Cond.methodLink RX8 382 yX8_kept ∈ zW := zc9 39 (by decide +kernel) (by decide +kernel)
theorem kM_X8_376 : Cond.methodLink RX8 376 yX8_keeps ∈ zW := zc9 43 (by decide +kernel) (by decide +kernel)
theorem kM_L_295 : Cond.methodLink RL 295 yX8_clear ∈ zW := zc9 47 (by decide +kernel) (by decide +kernel)
theorem kM_X8_384 : Cond.methodLink RX8 384 yX8_clearsRow ∈ zW := zc9 51 (by decide +kernel) (by decide +kernel)
theorem kM_L_298 : Cond.methodLink RL 298 yX8_better ∈ zW := zc9 55 (by decide +kernel) (by decide +kernel)
theorem kM_L_301 : Cond.methodLink RL 301 yX8_improve ∈ zW := zc9 59 (by decide +kernel) (by decide +kernel)
theorem kM_L_304 : Cond.methodLink RL 304 yX8_take ∈ zW := zc9 63 (by decide +kernel) (by decide +kernel)
theorem kM_L_307 : Cond.methodLink RL 307 yX8_takeBest ∈ zW := zc9 67 (by decide +kernel) (by decide +kernel)
theorem kM_L_310 : Cond.methodLink RL 310 yX8_whyNotTake ∈ zW := zc9 71 (by decide +kernel) (by decide +kernel)
theorem kM_L_314 : Cond.methodLink RL 314 yX8_taken ∈ zW := zc9 75 (by decide +kernel) (by decide +kernel)
theorem kM_L_318 : Cond.methodLink RL 318 yX8_setOut ∈ zW := zc9 79 (by decide +kernel) (by decide +kernel)
theorem kM_X8_387 : Cond.methodLink RX8 387 yX8_setsOut ∈ zW := zc9 83 (by decide +kernel) (by decide +kernel)
theorem kM_L_321 : Cond.methodLink RL 321 yX8_setChanges ∈ zW := zc9 87 (by decide +kernel) (by decide +kernel)
theorem kM_X8_391 : Cond.methodLink RX8 391 yX8_setsChanges ∈ zW := zc9 91 (by decide +kernel) (by decide +kernel)
theorem kM_L_167 : Cond.methodLink RL 167 yX8_runScript ∈ zW := zc9 95 (by decide +kernel) (by decide +kernel)
theorem kM_X8_437 : Cond.methodLink RX8 437 yX8_command ∈ zW := zc9 99 (by decide +kernel) (by decide +kernel)
theorem kM_X8_412 : Cond.methodLink RX8 412 yX8_commandHere ∈ zW := zc9 103 (by decide +kernel) (by decide +kernel)
theorem kC_X8_394 : Cond.constantLong RX8 394 (109559397) ∈ zW := zc9 107 (by decide +kernel) (by decide +kernel)
theorem kC_X8_396 : Cond.constantLong RX8 396 (3544114) ∈ zW := zc9 108 (by decide +kernel) (by decide +kernel)
theorem kC_X8_398 : Cond.constantLong RX8 398 (73027762) ∈ zW := zc9 109 (by decide +kernel) (by decide +kernel)
theorem kC_X8_400 : Cond.constantLong RX8 400 (10117267141) ∈ zW := zc9 110 (by decide +kernel) (by decide +kernel)
theorem kC_X8_402 : Cond.constantLong RX8 402 (656741) ∈ zW := zc9 111 (by decide +kernel) (by decide +kernel)
theorem kC_X8_404 : Cond.constantLong RX8 404 (71284) ∈ zW := zc9 112 (by decide +kernel) (by decide +kernel)
theorem kC_X8_406 : Cond.constantLong RX8 406 (16052) ∈ zW := zc9 113 (by decide +kernel) (by decide +kernel)
theorem kC_X8_408 : Cond.constantLong RX8 408 (302) ∈ zW := zc9 114 (by decide +kernel) (by decide +kernel)
theorem kC_X8_410 : Cond.constantLong RX8 410 (609752116) ∈ zW := zc9 115 (by decide +kernel) (by decide +kernel)
theorem kM_X8_424 : Cond.methodLink RX8 424 yX8_toldRow ∈ zW := zc9 116 (by decide +kernel) (by decide +kernel)
theorem kM_X8_427 : Cond.methodLink RX8 427 yX8_toldWord ∈ zW := zc9 120 (by decide +kernel) (by decide +kernel)
theorem kM_X8_440 : Cond.methodLink RX8 440 yX8_closes ∈ zW := zc9 124 (by decide +kernel) (by decide +kernel)
theorem kM_X8_443 : Cond.methodLink RX8 443 yX8_runs ∈ zW := zc9 128 (by decide +kernel) (by decide +kernel)
theorem kM_X8_446 : Cond.methodLink RX8 446 yX8_does ∈ zW := zc9 132 (by decide +kernel) (by decide +kernel)
theorem kM_X8_430 : Cond.methodLink RX8 430 yX8_may ∈ zW := zc9 136 (by decide +kernel) (by decide +kernel)
theorem kM_L_325 : Cond.methodLink RL 325 yX8_report ∈ zW := zc9 140 (by decide +kernel) (by decide +kernel)
theorem kM_X8_454 : Cond.methodLink RX8 454 yX8_tell ∈ zW := zc9 144 (by decide +kernel) (by decide +kernel)
theorem kM_X8_460 : Cond.methodLink RX8 460 yX8_tellName ∈ zW := zc9 148 (by decide +kernel) (by decide +kernel)
theorem kC_X8_452 : Cond.constantLong RX8 452 (31) ∈ zW := zc9 152 (by decide +kernel) (by decide +kernel)
theorem kM_L_328 : Cond.methodLink RL 328 yX8_reportByte ∈ zW := zc9 153 (by decide +kernel) (by decide +kernel)
theorem kZ_objI : Cond.instanceMethod Lib.objectInit ∈ zW := zc1 28 (by decide +kernel) (by decide +kernel)
theorem kZ_mathI : Cond.initialized "java/lang/Math" ∈ zW := zc1 19 (by decide +kernel) (by decide +kernel)
theorem kZ_objC : Cond.code Lib.objectInit ⟨#[0xb1]⟩ 1 none ∈ zW := zc1 29 (by decide +kernel) (by decide +kernel)
theorem kZ_arr_byte : Cond.arrayClass .byte ∈ zW := zc1 68 (by decide +kernel) (by decide +kernel)
theorem kZ_arr_int : Cond.arrayClass .int ∈ zW := zc1 111 (by decide +kernel) (by decide +kernel)
theorem kZ_arr_long : Cond.arrayClass .long ∈ zW := zc1 181 (by decide +kernel) (by decide +kernel)
theorem kZ_maxS : Cond.static Lib.Math.max.name ∈ zW := zc2 166 (by decide +kernel) (by decide +kernel)
theorem kZ_maxC : Cond.code Lib.Math.max.name Lib.Math.max.code 2 (some .int) ∈ zW := zc2 167 (by decide +kernel) (by decide +kernel)
theorem kZ_minS : Cond.static Lib.Math.min.name ∈ zW := zc2 173 (by decide +kernel) (by decide +kernel)
theorem kZ_minC : Cond.code Lib.Math.min.name Lib.Math.min.code 2 (some .int) ∈ zW := zc2 174 (by decide +kernel) (by decide +kernel)
theorem kI_X7 : Cond.initialized RX7 ∈ zW := zc1 1 (by decide +kernel) (by decide +kernel)
theorem kI_X0 : Cond.initialized RX0 ∈ zW := zc1 5 (by decide +kernel) (by decide +kernel)
theorem kI_X1 : Cond.initialized RX1 ∈ zW := zc1 7 (by decide +kernel) (by decide +kernel)
theorem kI_X2 : Cond.initialized RX2 ∈ zW := zc1 4 (by decide +kernel) (by decide +kernel)
theorem kI_X3 : Cond.initialized RX3 ∈ zW := zc1 6 (by decide +kernel) (by decide +kernel)
theorem kI_X4 : Cond.initialized RX4 ∈ zW := zc1 8 (by decide +kernel) (by decide +kernel)
theorem kI_X5 : Cond.initialized RX5 ∈ zW := zc1 3 (by decide +kernel) (by decide +kernel)
theorem kI_X6 : Cond.initialized RX6 ∈ zW := zc1 2 (by decide +kernel) (by decide +kernel)
theorem kI_L : Cond.initialized RL ∈ zW := zc1 0 (by decide +kernel) (by decide +kernel)
theorem kI_X8 : Cond.initialized RX8 ∈ zW := zc1 9 (by decide +kernel) (by decide +kernel)
theorem kI_J6 : Cond.initialized RJ6 ∈ zW := zc1 20 (by decide +kernel) (by decide +kernel)
theorem kI_J9 : Cond.initialized RJ9 ∈ zW := zc1 19 (by decide +kernel) (by decide +kernel)
theorem kI_J0 : Cond.initialized RJ0 ∈ zW := zc1 15 (by decide +kernel) (by decide +kernel)
theorem kI_J1 : Cond.initialized RJ1 ∈ zW := zc1 16 (by decide +kernel) (by decide +kernel)
theorem kI_J2 : Cond.initialized RJ2 ∈ zW := zc1 18 (by decide +kernel) (by decide +kernel)
theorem kI_J3 : Cond.initialized RJ3 ∈ zW := zc1 17 (by decide +kernel) (by decide +kernel)
