/-! INTS AS INTEGERS -/
def iI (z : Int) : Int32 := Int32.ofInt z
def iL (z : Int) : Int64 := Int64.ofInt z
abbrev iR (z : Int) : Prop := -2147483648 ≤ z ∧ z < 2147483648
abbrev iRL (z : Int) : Prop := -9223372036854775808 ≤ z ∧ z < 9223372036854775808
theorem iI_toInt {z : Int} (h : iR z) : (iI z).toInt = z := by
  unfold iI
  rw [Int32.toInt_ofInt]
  have hs : ((Int32.size : Nat) : Int) = 4294967296 := rfl
  exact Int.bmod_eq_of_le (by obtain ⟨h1, h2⟩ := h; omega) (by obtain ⟨h1, h2⟩ := h; omega)
theorem iL_toInt {z : Int} (h : iRL z) : (iL z).toInt = z := by
  unfold iL
  rw [Int64.toInt_ofInt]
  have hs : ((Int64.size : Nat) : Int) = 18446744073709551616 := rfl
  exact Int.bmod_eq_of_le (by obtain ⟨h1, h2⟩ := h; omega) (by obtain ⟨h1, h2⟩ := h; omega)
theorem iI_add (a b : Int) : iI a + iI b = iI (a + b) := (Int32.ofInt_add a b).symm
theorem iI_sub (a b : Int) : iI a - iI b = iI (a - b) := (Int32.ofInt_sub a b).symm
theorem iI_mul (a b : Int) : iI a * iI b = iI (a * b) := (Int32.ofInt_mul a b).symm
theorem iI_lt {a b : Int} (ha : iR a) (hb : iR b) : iI a < iI b ↔ a < b := by rw [Int32.lt_iff_toInt_lt, iI_toInt ha, iI_toInt hb]
theorem iI_le {a b : Int} (ha : iR a) (hb : iR b) : iI a ≤ iI b ↔ a ≤ b := by rw [Int32.le_iff_toInt_le, iI_toInt ha, iI_toInt hb]
theorem iI_eq {a b : Int} (ha : iR a) (hb : iR b) : iI a = iI b ↔ a = b := by rw [← Int32.toInt_inj, iI_toInt ha, iI_toInt hb]
theorem iI_0 : (0 : Int32) = iI 0 := rfl
theorem iI_of (x : Int32) : ∃ z : Int, iR z ∧ x = iI z := ⟨x.toInt, ⟨Int32.le_toInt x, Int32.toInt_lt x⟩, (Int32.ofInt_toInt x).symm⟩
theorem iI_idx {a : Int} (h0 : 0 ≤ a) (h1 : a < 2147483648) : ((iI a).toNatClampNeg : Int) = a := by
  have h : (iI a).toNatClampNeg = (iI a).toInt.toNat := rfl
  rw [h, iI_toInt ⟨by omega, h1⟩]
  omega
theorem iI_in {a : Int} {n : Nat} (h0 : 0 ≤ a) (h1 : a < n) (hn : n ≤ 2147483647) : vp_in (iI a) n := vp_in_iff.mpr (by rw [iI_toInt ⟨by omega, by omega⟩]; exact ⟨h0, h1⟩)
theorem iI_neg {a : Int} (h : iR a) : ¬ iI a < 0 ↔ 0 ≤ a := by rw [iI_0, iI_lt h (by decide)]; omega
/-- an array of ints, its contents by integers -/
def zup (f : Int → Int) (k v : Int) : Int → Int := fun j => if j = k then v else f j
theorem zup_s {f : Int → Int} {k v : Int} : zup f k v k = v := if_pos rfl
theorem zup_n {f : Int → Int} {k v j : Int} (h : j ≠ k) : zup f k v j = f j := if_neg h
def cI (f : Int → Int) : Nat → Int32 := fun j => iI (f j)
def cL (f : Int → Int) : Nat → Int64 := fun j => iL (f j)
theorem cI_at {f : Int → Int} {a : Int} (h0 : 0 ≤ a) (h1 : a < 2147483648) : cI f (iI a).toNatClampNeg = iI (f a) := by unfold cI; rw [iI_idx h0 h1]
theorem cL_at {f : Int → Int} {a : Int} (h0 : 0 ≤ a) (h1 : a < 2147483648) : cL f (iI a).toNatClampNeg = iL (f a) := by unfold cL; rw [iI_idx h0 h1]
theorem cI_up {f : Int → Int} {a v : Int} (h0 : 0 ≤ a) (h1 : a < 2147483648) : upd (cI f) (iI a).toNatClampNeg (iI v) = cI (zup f a v) := by
  funext j
  have hi := iI_idx h0 h1
  unfold upd cI zup
  by_cases hj : j = (iI a).toNatClampNeg
  · rw [if_pos hj, if_pos (by rw [hj]; exact hi)]
  · rw [if_neg hj, if_neg (by omega)]
theorem cL_up {f : Int → Int} {a v : Int} (h0 : 0 ≤ a) (h1 : a < 2147483648) : vp_updL (cL f) (iI a).toNatClampNeg (iL v) = cL (zup f a v) := by
  funext j
  have hi := iI_idx h0 h1
  unfold vp_updL cL zup
  by_cases hj : j = (iI a).toNatClampNeg
  · rw [if_pos hj, if_pos (by rw [hj]; exact hi)]
  · rw [if_neg hj, if_neg (by omega)]
theorem iI_b8 {v : Int} (h : -128 ≤ v ∧ v < 128) : (iI v).toInt8.toInt32 = iI v := by
  apply Int32.toInt_inj.mp
  rw [Int8.toInt_toInt32, Int32.toInt_toInt8, iI_toInt ⟨by omega, by omega⟩]
  exact Int.bmod_eq_of_le (by obtain ⟨h1, h2⟩ := h; omega) (by obtain ⟨h1, h2⟩ := h; omega)
/-- the contents of an array, 0 outside of it -/
def zcl (n : Nat) (f : Int → Int) : Int → Int := fun j => if 0 ≤ j ∧ j < n then f j else 0
theorem zcl_at {n : Nat} {f : Int → Int} {a : Int} (h0 : 0 ≤ a) (h1 : a < n) : zcl n f a = f a := if_pos ⟨h0, h1⟩
theorem zcl_up {n : Nat} {f : Int → Int} {a v : Int} (h0 : 0 ≤ a) (h1 : a < n) : zup (zcl n f) a v = zcl n (zup f a v) := by
  funext j
  show (if j = a then v else zcl n f j) = (if 0 ≤ j ∧ j < n then (if j = a then v else f j) else 0)
  unfold zcl
  by_cases hj : j = a
  · subst hj; rw [if_pos rfl, if_pos ⟨h0, h1⟩, if_pos rfl]
  · rw [if_neg hj, if_neg hj]
theorem zcl_eq {n : Nat} {f g : Int → Int} (h : ∀ j : Int, 0 ≤ j → j < n → f j = g j) : zcl n f = zcl n g := by
  funext j
  unfold zcl
  by_cases hj : 0 ≤ j ∧ j < n
  · rw [if_pos hj, if_pos hj, h j hj.1 hj.2]
  · rw [if_neg hj, if_neg hj]
theorem zcl_0 {n : Nat} : zcl n (fun _ => 0) = fun _ => 0 := by
  funext j
  unfold zcl
  split <;> rfl
/-! THE WORLD AS A FUNCTION: cell k lies at A k and holds S k -/
def zWs (A : Nat → Nat) (n : Nat) (S : Nat → va_E) : va_W := (List.range n).map (fun k => (A k, S k))
theorem zWs_at {A : Nat → Nat} {n q : Nat} {S : Nat → va_E} {e : va_E} (hq : q < n) (h : S q = e) : (zWs A n S)[q]? = some (A q, e) := by
  unfold zWs
  rw [List.getElem?_map, List.getElem?_range hq, ← h]
  rfl
theorem zWs_set {A : Nat → Nat} {n q : Nat} {S : Nat → va_E} {e : va_E} : (zWs A n S).set q (A q, e) = zWs A n (va_up S q e) := by
  apply List.ext_getElem?
  intro i
  unfold zWs
  rw [List.getElem?_set, List.getElem?_map, List.getElem?_map, List.length_map, List.length_range]
  by_cases h : q = i
  · subst h
    rw [if_pos rfl]
    by_cases hq : q < n
    · rw [if_pos hq, List.getElem?_range hq]
      simp [va_up]
    · rw [if_neg hq, List.getElem?_eq_none (by simp; omega)]
      rfl
  · rw [if_neg h]
    by_cases hi : i < n
    · rw [List.getElem?_range hi]
      have h2 : ¬ i = q := fun z => h z.symm
      simp [va_up, h2]
    · rw [List.getElem?_eq_none (by simp; omega)]
      rfl
theorem zWs_push {A : Nat → Nat} {n a : Nat} {S : Nat → va_E} {e : va_E} : zWs A n S ++ [(a, e)] = zWs (va_up A n a) (n + 1) (va_up S n e) := by
  unfold zWs
  rw [List.range_succ, List.map_append]
  congr 1
  · apply List.map_congr_left
    intro k hk
    have h : k ≠ n := by have := List.mem_range.mp hk; omega
    simp [va_up, h]
  · simp [va_up]
section ZK
variable {X : zX} {M : zM} {P : zP} {kc ks pc : Nat} {lv : List (Nat × Value)} {rest : List Value} {ws : va_W} {A : Nat → Nat} {n : Nat} {S : Nat → va_E}
/-! arithmetic -/
theorem h_iconst {z : Int} (hdg : decode M.2.1 pc = .ok (.iconst z, 1)) (kk : G X M P kc ks (pc + 1) lv (.int (iI z) :: rest) ws) : G X M P kc ks pc lv rest ws := g_iconst hdg rfl kk
theorem h_bipush {z : Int} (hdg : decode M.2.1 pc = .ok (.bipush z, 2)) (hz : (Int8.ofInt z).toInt32 = iI z) (kk : G X M P kc ks (pc + 2) lv (.int (iI z) :: rest) ws) : G X M P kc ks pc lv rest ws := g_bipush hdg hz kk
theorem h_sipush {z : Int} (hdg : decode M.2.1 pc = .ok (.sipush z, 3)) (hz : (Int16.ofInt z).toInt32 = iI z) (kk : G X M P kc ks (pc + 3) lv (.int (iI z) :: rest) ws) : G X M P kc ks pc lv rest ws := g_sipush hdg hz kk
theorem h_iadd {a b : Int} (hdg : decode M.2.1 pc = .ok (.iadd, 1)) (kk : G X M P kc ks (pc + 1) lv (.int (iI (a + b)) :: rest) ws) : G X M P kc ks pc lv (.int (iI b) :: .int (iI a) :: rest) ws := g_iadd hdg (by rw [iI_add]; exact kk)
theorem h_isub {a b : Int} (hdg : decode M.2.1 pc = .ok (.isub, 1)) (kk : G X M P kc ks (pc + 1) lv (.int (iI (a - b)) :: rest) ws) : G X M P kc ks pc lv (.int (iI b) :: .int (iI a) :: rest) ws := g_isub hdg (by rw [iI_sub]; exact kk)
theorem h_imul {a b : Int} (hdg : decode M.2.1 pc = .ok (.imul, 1)) (kk : G X M P kc ks (pc + 1) lv (.int (iI (a * b)) :: rest) ws) : G X M P kc ks pc lv (.int (iI b) :: .int (iI a) :: rest) ws := g_imul hdg (by rw [iI_mul]; exact kk)
/-- a computed number by another name -/
theorem h_top {a b : Int} (h : a = b) (kk : G X M P kc ks pc lv (.int (iI b) :: rest) ws) : G X M P kc ks pc lv (.int (iI a) :: rest) ws := h ▸ kk
theorem h_topx {x : Int32} {b : Int} (h : x = iI b) (kk : G X M P kc ks pc lv (.int (iI b) :: rest) ws) : G X M P kc ks pc lv (.int x :: rest) ws := h ▸ kk
theorem h_topl {x : Int64} {b : Int} (h : x = iL b) (kk : G X M P kc ks pc lv (.long (iL b) :: rest) ws) : G X M P kc ks pc lv (.long x :: rest) ws := h ▸ kk
theorem h_if_eq {a : Int} {off : Int} {tgt : Nat} (hdg : decode M.2.1 pc = .ok (.ifCond .eq off, 3)) (ht : (pc : Int) + off = (tgt : Int)) (hr : iR a) (kt : a = 0 → G X M P kc ks tgt lv rest ws) (kf : a ≠ 0 → G X M P kc ks (pc + 3) lv rest ws) : G X M P kc ks pc lv (.int (iI a) :: rest) ws := g_if_eq hdg ht (fun z => kt ((iI_eq hr (by decide)).mp z)) (fun z => kf (fun y => z ((iI_eq hr (by decide)).mpr y)))
theorem h_if_ne {a : Int} {off : Int} {tgt : Nat} (hdg : decode M.2.1 pc = .ok (.ifCond .ne off, 3)) (ht : (pc : Int) + off = (tgt : Int)) (hr : iR a) (kt : a ≠ 0 → G X M P kc ks tgt lv rest ws) (kf : a = 0 → G X M P kc ks (pc + 3) lv rest ws) : G X M P kc ks pc lv (.int (iI a) :: rest) ws := g_if_ne hdg ht (fun z => kt (fun y => z ((iI_eq hr (by decide)).mpr y))) (fun z => kf ((iI_eq hr (by decide)).mp z))
theorem h_if_lt {a : Int} {off : Int} {tgt : Nat} (hdg : decode M.2.1 pc = .ok (.ifCond .lt off, 3)) (ht : (pc : Int) + off = (tgt : Int)) (hr : iR a) (kt : a < 0 → G X M P kc ks tgt lv rest ws) (kf : 0 ≤ a → G X M P kc ks (pc + 3) lv rest ws) : G X M P kc ks pc lv (.int (iI a) :: rest) ws := g_if_lt hdg ht (fun z => kt ((iI_lt hr (by decide)).mp z)) (fun z => kf (Int.not_lt.mp (fun y => z ((iI_lt hr (by decide)).mpr y))))
theorem h_if_ge {a : Int} {off : Int} {tgt : Nat} (hdg : decode M.2.1 pc = .ok (.ifCond .ge off, 3)) (ht : (pc : Int) + off = (tgt : Int)) (hr : iR a) (kt : 0 ≤ a → G X M P kc ks tgt lv rest ws) (kf : a < 0 → G X M P kc ks (pc + 3) lv rest ws) : G X M P kc ks pc lv (.int (iI a) :: rest) ws := g_if_ge hdg ht (fun z => kt ((iI_le (by decide) hr).mp z)) (fun z => kf (Int.not_le.mp (fun y => z ((iI_le (by decide) hr).mpr y))))
theorem h_if_gt {a : Int} {off : Int} {tgt : Nat} (hdg : decode M.2.1 pc = .ok (.ifCond .gt off, 3)) (ht : (pc : Int) + off = (tgt : Int)) (hr : iR a) (kt : 0 < a → G X M P kc ks tgt lv rest ws) (kf : a ≤ 0 → G X M P kc ks (pc + 3) lv rest ws) : G X M P kc ks pc lv (.int (iI a) :: rest) ws := g_if_gt hdg ht (fun z => kt ((iI_lt (by decide) hr).mp z)) (fun z => kf (Int.not_lt.mp (fun y => z ((iI_lt (by decide) hr).mpr y))))
theorem h_if_le {a : Int} {off : Int} {tgt : Nat} (hdg : decode M.2.1 pc = .ok (.ifCond .le off, 3)) (ht : (pc : Int) + off = (tgt : Int)) (hr : iR a) (kt : a ≤ 0 → G X M P kc ks tgt lv rest ws) (kf : 0 < a → G X M P kc ks (pc + 3) lv rest ws) : G X M P kc ks pc lv (.int (iI a) :: rest) ws := g_if_le hdg ht (fun z => kt ((iI_le hr (by decide)).mp z)) (fun z => kf (Int.not_le.mp (fun y => z ((iI_le hr (by decide)).mpr y))))
theorem h_icmp_eq {a b : Int} {off : Int} {tgt : Nat} (hdg : decode M.2.1 pc = .ok (.if_icmp .eq off, 3)) (ht : (pc : Int) + off = (tgt : Int)) (ha : iR a) (hb : iR b) (kt : a = b → G X M P kc ks tgt lv rest ws) (kf : a ≠ b → G X M P kc ks (pc + 3) lv rest ws) : G X M P kc ks pc lv (.int (iI b) :: .int (iI a) :: rest) ws := g_icmp_eq hdg ht (fun z => kt ((iI_eq ha hb).mp z)) (fun z => kf (fun y => z ((iI_eq ha hb).mpr y)))
theorem h_icmp_ne {a b : Int} {off : Int} {tgt : Nat} (hdg : decode M.2.1 pc = .ok (.if_icmp .ne off, 3)) (ht : (pc : Int) + off = (tgt : Int)) (ha : iR a) (hb : iR b) (kt : a ≠ b → G X M P kc ks tgt lv rest ws) (kf : a = b → G X M P kc ks (pc + 3) lv rest ws) : G X M P kc ks pc lv (.int (iI b) :: .int (iI a) :: rest) ws := g_icmp_ne hdg ht (fun z => kt (fun y => z ((iI_eq ha hb).mpr y))) (fun z => kf ((iI_eq ha hb).mp z))
theorem h_icmp_lt {a b : Int} {off : Int} {tgt : Nat} (hdg : decode M.2.1 pc = .ok (.if_icmp .lt off, 3)) (ht : (pc : Int) + off = (tgt : Int)) (ha : iR a) (hb : iR b) (kt : a < b → G X M P kc ks tgt lv rest ws) (kf : b ≤ a → G X M P kc ks (pc + 3) lv rest ws) : G X M P kc ks pc lv (.int (iI b) :: .int (iI a) :: rest) ws := g_icmp_lt hdg ht (fun z => kt ((iI_lt ha hb).mp z)) (fun z => kf (Int.not_lt.mp (fun y => z ((iI_lt ha hb).mpr y))))
theorem h_icmp_ge {a b : Int} {off : Int} {tgt : Nat} (hdg : decode M.2.1 pc = .ok (.if_icmp .ge off, 3)) (ht : (pc : Int) + off = (tgt : Int)) (ha : iR a) (hb : iR b) (kt : b ≤ a → G X M P kc ks tgt lv rest ws) (kf : a < b → G X M P kc ks (pc + 3) lv rest ws) : G X M P kc ks pc lv (.int (iI b) :: .int (iI a) :: rest) ws := g_icmp_ge hdg ht (fun z => kt ((iI_le hb ha).mp z)) (fun z => kf (Int.not_le.mp (fun y => z ((iI_le hb ha).mpr y))))
theorem h_icmp_gt {a b : Int} {off : Int} {tgt : Nat} (hdg : decode M.2.1 pc = .ok (.if_icmp .gt off, 3)) (ht : (pc : Int) + off = (tgt : Int)) (ha : iR a) (hb : iR b) (kt : b < a → G X M P kc ks tgt lv rest ws) (kf : a ≤ b → G X M P kc ks (pc + 3) lv rest ws) : G X M P kc ks pc lv (.int (iI b) :: .int (iI a) :: rest) ws := g_icmp_gt hdg ht (fun z => kt ((iI_lt hb ha).mp z)) (fun z => kf (Int.not_lt.mp (fun y => z ((iI_lt hb ha).mpr y))))
theorem h_icmp_le {a b : Int} {off : Int} {tgt : Nat} (hdg : decode M.2.1 pc = .ok (.if_icmp .le off, 3)) (ht : (pc : Int) + off = (tgt : Int)) (ha : iR a) (hb : iR b) (kt : a ≤ b → G X M P kc ks tgt lv rest ws) (kf : b < a → G X M P kc ks (pc + 3) lv rest ws) : G X M P kc ks pc lv (.int (iI b) :: .int (iI a) :: rest) ws := g_icmp_le hdg ht (fun z => kt ((iI_le ha hb).mp z)) (fun z => kf (Int.not_le.mp (fun y => z ((iI_le ha hb).mpr y))))
theorem h_iinc {i j : Nat} {d a : Int} {lv' : List (Nat × Value)} (hdg : decode M.2.1 pc = .ok (.iinc i d, 3)) (hj : lv[j]? = some (i, .int (iI a))) (hn : i < M.2.2.1) (hl' : zput lv i (.int (iI (a + d))) = lv') (kk : G X M P kc ks (pc + 3) lv' rest ws) : G X M P kc ks pc lv rest ws := g_iinc hdg hj (show iI a + iI d = iI (a + d) from iI_add a d) hn hl' kk
theorem h_i2l {a : Int} (hdg : decode M.2.1 pc = .ok (.i2l, 1)) (hr : iR a) (kk : G X M P kc ks (pc + 1) lv (.long (iL a) :: rest) ws) : G X M P kc ks pc lv (.int (iI a) :: rest) ws := g_i2l hdg (Int64.toInt_inj.mp (by rw [Int32.toInt_toInt64, iI_toInt hr, iL_toInt ⟨by omega, by omega⟩])) kk
/-! cells -/
theorem k_get {ix ci fi : Nat} {fs : List Value} {v : Value} (hdg : decode M.2.1 pc = .ok (.getfield ix, 3)) (hF : zFr M.1 ix ci fi) (q : Nat) (hq : q < n) (hS : S q = .inr (ci, fs)) (hv : fs[fi]? = some v) (kk : G X M P kc ks (pc + 3) lv (v :: rest) (zWs A n S)) : G X M P kc ks pc lv (.ref (A q) :: rest) (zWs A n S) := g_get hdg hF q (zWs_at hq hS) hv kk
theorem k_put {ix ci fi : Nat} {ty : FieldType} {fs : List Value} {v : Value} (hdg : decode M.2.1 pc = .ok (.putfield ix, 3)) (hF : zF M.1 ix ci fi ty false) (q : Nat) (hq : q < n) (hS : S q = .inr (ci, fs)) (hn : narrow ty v = v) (hf : fits ty v = true) (hlt : fi < fs.length) (kk : G X M P kc ks (pc + 3) lv rest (zWs A n (va_up S q (.inr (ci, fs.set fi v))))) : G X M P kc ks pc lv (v :: .ref (A q) :: rest) (zWs A n S) := g_put hdg hF q (zWs_at hq hS) hn hf hlt (by rw [zWs_set]; exact kk)
theorem k_iald {len : Nat} {f : Int → Int} {a : Int} (hdg : decode M.2.1 pc = .ok (.iaload, 1)) (q : Nat) (hq : q < n) (hS : S q = aI X len (cI (zcl len f))) (hlen : len ≤ 2147483647) (h0 : 0 ≤ a) (h1 : a < len) (kk : G X M P kc ks (pc + 1) lv (.int (iI (f a)) :: rest) (zWs A n S)) : G X M P kc ks pc lv (.int (iI a) :: .ref (A q) :: rest) (zWs A n S) := g_iald hdg q (zWs_at hq hS) (iI_in h0 h1 hlen) (by rw [cI_at h0 (by omega), zcl_at h0 h1]; exact kk)
theorem k_lald {len : Nat} {f : Int → Int} {a : Int} (hdg : decode M.2.1 pc = .ok (.laload, 1)) (q : Nat) (hq : q < n) (hS : S q = aL X len (cL (zcl len f))) (hlen : len ≤ 2147483647) (h0 : 0 ≤ a) (h1 : a < len) (kk : G X M P kc ks (pc + 1) lv (.long (iL (f a)) :: rest) (zWs A n S)) : G X M P kc ks pc lv (.int (iI a) :: .ref (A q) :: rest) (zWs A n S) := g_lald hdg q (zWs_at hq hS) (iI_in h0 h1 hlen) (by rw [cL_at h0 (by omega), zcl_at h0 h1]; exact kk)
theorem k_bald {len : Nat} {f : Int → Int} {a : Int} (hdg : decode M.2.1 pc = .ok (.baload, 1)) (q : Nat) (hq : q < n) (hS : S q = aB X len (cI (zcl len f))) (hlen : len ≤ 2147483647) (h0 : 0 ≤ a) (h1 : a < len) (kk : G X M P kc ks (pc + 1) lv (.int (iI (f a)) :: rest) (zWs A n S)) : G X M P kc ks pc lv (.int (iI a) :: .ref (A q) :: rest) (zWs A n S) := g_bald hdg q (zWs_at hq hS) (iI_in h0 h1 hlen) (by rw [cI_at h0 (by omega), zcl_at h0 h1]; exact kk)
theorem k_iast {len : Nat} {f : Int → Int} {a v : Int} (hdg : decode M.2.1 pc = .ok (.iastore, 1)) (q : Nat) (hq : q < n) (hS : S q = aI X len (cI (zcl len f))) (hlen : len ≤ 2147483647) (h0 : 0 ≤ a) (h1 : a < len) (kk : G X M P kc ks (pc + 1) lv rest (zWs A n (va_up S q (aI X len (cI (zcl len (zup f a v))))))) : G X M P kc ks pc lv (.int (iI v) :: .int (iI a) :: .ref (A q) :: rest) (zWs A n S) := g_iast hdg q (zWs_at hq hS) (iI_in h0 h1 hlen) (by rw [cI_up h0 (by omega), zcl_up h0 h1, zWs_set]; exact kk)
theorem k_last {len : Nat} {f : Int → Int} {a v : Int} (hdg : decode M.2.1 pc = .ok (.lastore, 1)) (q : Nat) (hq : q < n) (hS : S q = aL X len (cL (zcl len f))) (hlen : len ≤ 2147483647) (h0 : 0 ≤ a) (h1 : a < len) (kk : G X M P kc ks (pc + 1) lv rest (zWs A n (va_up S q (aL X len (cL (zcl len (zup f a v))))))) : G X M P kc ks pc lv (.long (iL v) :: .int (iI a) :: .ref (A q) :: rest) (zWs A n S) := g_last hdg q (zWs_at hq hS) (iI_in h0 h1 hlen) (by rw [cL_up h0 (by omega), zcl_up h0 h1, zWs_set]; exact kk)
theorem k_bast {len : Nat} {f : Int → Int} {a v : Int} (hdg : decode M.2.1 pc = .ok (.bastore, 1)) (q : Nat) (hq : q < n) (hS : S q = aB X len (cI (zcl len f))) (hlen : len ≤ 2147483647) (h0 : 0 ≤ a) (h1 : a < len) (hv : -128 ≤ v ∧ v < 128) (kk : G X M P kc ks (pc + 1) lv rest (zWs A n (va_up S q (aB X len (cI (zcl len (zup f a v))))))) : G X M P kc ks pc lv (.int (iI v) :: .int (iI a) :: .ref (A q) :: rest) (zWs A n S) := g_bast hdg q (zWs_at hq hS) (iI_in h0 h1 hlen) (by rw [iI_b8 hv, cI_up h0 (by omega), zcl_up h0 h1, zWs_set]; exact kk)
end ZK
/-! COMPONENTS: an object at q and its own arrays behind it; V.1 its numbers, V.2 its arrays -/
abbrev CV : Type := (Nat → Int) × (Nat → Int → Int)
abbrev Sh : Type := Nat × List (Nat × Nat) × List (Nat × Nat)
def oF (A : Nat → Nat) (q : Nat) (V : CV) (f : Nat × Nat) : Value := match f.1 with
  | 0 => .int (iI (V.1 f.2))
  | 1 => .ref (A (q + f.2))
  | 2 => .ref (A f.2)
  | _ => .long (iL (V.1 f.2))
def oFs (A : Nat → Nat) (q : Nat) (V : CV) (fl : List (Nat × Nat)) : List Value := fl.map (oF A q V)
/-- a declared array: 10, 11, 12: its length is one of the numbers -/
def zDm (V : CV) (d : Nat × Nat) : Nat × Nat := match d.1 with
  | 10 => (0, (V.1 d.2).toNat)
  | 11 => (1, (V.1 d.2).toNat)
  | 12 => (2, (V.1 d.2).toNat)
  | _ => d
/-- writes: a number, an element -/
def zPu (V : CV) (k : Nat) (x : Int) : CV := (va_up V.1 k x, V.2)
def zPa (V : CV) (j : Nat) (i x : Int) : CV := (V.1, va_up V.2 j (zup (V.2 j) i x))
def zArr (X : zX) (d : Nat × Nat) (f : Int → Int) : va_E := match d.1 with
  | 0 => aI X d.2 (cI (zcl d.2 f))
  | 1 => aL X d.2 (cL (zcl d.2 f))
  | _ => aB X d.2 (cI (zcl d.2 f))
theorem zArr_eq {X : zX} {d : Nat × Nat} {f g : Int → Int} (h : ∀ j : Int, 0 ≤ j → j < d.2 → f j = g j) : zArr X d f = zArr X d g := by
  unfold zArr
  rw [zcl_eq h]
theorem zArr_0I {X : zX} {n : Nat} : aI X n (fun _ => 0) = zArr X (0, n) (fun _ => 0) := by
  show _ = aI X n (cI (zcl n (fun _ => 0)))
  rw [zcl_0]
  rfl
theorem zArr_0L {X : zX} {n : Nat} : aL X n (fun _ => 0) = zArr X (1, n) (fun _ => 0) := by
  show _ = aL X n (cL (zcl n (fun _ => 0)))
  rw [zcl_0]
  rfl
theorem zArr_0B {X : zX} {n : Nat} : aB X n (fun _ => 0) = zArr X (2, n) (fun _ => 0) := by
  show _ = aB X n (cI (zcl n (fun _ => 0)))
  rw [zcl_0]
  rfl
def zC (X : zX) (A : Nat → Nat) (sh : Sh) (q : Nat) (V : CV) (S : Nat → va_E) : Nat → va_E := fun k =>
  if k < q then S k else if k = q then .inr (sh.1, oFs A q V sh.2.1) else match sh.2.2[k - q - 1]? with
    | some d => zArr X (zDm V d) (V.2 (k - q))
    | none => S k
def isC (X : zX) (A : Nat → Nat) (sh : Sh) (q : Nat) (V : CV) (S : Nat → va_E) : Prop := zC X A sh q V S = S
section ZCo
variable {X : zX} {A : Nat → Nat} {sh : Sh} {q : Nat} {V V' : CV} {S : Nat → va_E}
theorem zC_o : zC X A sh q V S q = .inr (sh.1, oFs A q V sh.2.1) := by
  unfold zC
  rw [if_neg (Nat.lt_irrefl q), if_pos rfl]
theorem zC_a (j : Nat) {d : Nat × Nat} (h : sh.2.2[j]? = some d) : zC X A sh q V S (q + (j + 1)) = zArr X (zDm V d) (V.2 (j + 1)) := by
  unfold zC
  rw [if_neg (by omega), if_neg (by omega), show q + (j + 1) - q - 1 = j by omega, h, show q + (j + 1) - q = j + 1 by omega]
theorem zC_skip {k : Nat} (h : k < q ∨ q + sh.2.2.length < k) : zC X A sh q V S k = S k := by
  unfold zC
  by_cases h1 : k < q
  · rw [if_pos h1]
  · rw [if_neg h1, if_neg (by omega)]
    have h2 : sh.2.2[k - q - 1]? = none := List.getElem?_eq_none (by omega)
    rw [h2]
/-- the same component: fields that are told, elements that there are -/
def cEq (sh : Sh) (V W : CV) : Prop := (∀ f ∈ sh.2.1, (f.1 = 0 ∨ 3 ≤ f.1) → V.1 f.2 = W.1 f.2) ∧ ∀ (j : Nat) (d : Nat × Nat), sh.2.2[j]? = some d → zDm V d = zDm W d ∧ ∀ i : Int, 0 ≤ i → i < (zDm V d).2 → V.2 (j + 1) i = W.2 (j + 1) i
theorem oFs_eq {W : CV} (h : cEq sh V W) : oFs A q V sh.2.1 = oFs A q W sh.2.1 := by
  unfold oFs
  apply List.map_congr_left
  intro f hf
  have h1 := h.1 f hf
  obtain ⟨a, b⟩ := f
  match a, h1 with
  | 0, h1 => exact congrArg (fun z => Value.int (iI z)) (h1 (Or.inl rfl))
  | 1, _ => rfl
  | 2, _ => rfl
  | a + 3, h1 => exact congrArg (fun z => Value.long (iL z)) (h1 (Or.inr (by show 3 ≤ a + 3; omega)))
theorem zC_eq {W : CV} (h : cEq sh V W) : zC X A sh q V S = zC X A sh q W S := by
  funext k
  unfold zC
  by_cases h1 : k < q
  · simp [h1]
  · by_cases h2 : k = q
    · simp only [h2, Nat.lt_irrefl, if_false, if_true]
      rw [oFs_eq h]
    · simp only [h1, h2, if_false]
      cases h3 : sh.2.2[k - q - 1]? with
      | none => rfl
      | some d =>
        have h4 := h.2 _ d h3
        rw [show k - q - 1 + 1 = k - q by omega] at h4
        show zArr X (zDm V d) _ = zArr X (zDm W d) _
        rw [← h4.1]
        exact zArr_eq h4.2
theorem isC.eq {W : CV} (hV : isC X A sh q V S) (h : cEq sh V W) : isC X A sh q W S := (zC_eq h).symm.trans hV
theorem zC_over : zC X A sh q V' (zC X A sh q V S) = zC X A sh q V' S := by
  funext k
  unfold zC
  by_cases h1 : k < q
  · simp [h1]
  · by_cases h2 : k = q
    · simp [h2]
    · simp only [h1, h2, if_false]
      cases sh.2.2[k - q - 1]? <;> rfl
theorem zC_self : isC X A sh q V (zC X A sh q V S) := zC_over
theorem isC.o (h : isC X A sh q V S) : S q = .inr (sh.1, oFs A q V sh.2.1) := (congrFun h q).symm.trans zC_o
theorem isC.a (h : isC X A sh q V S) (j : Nat) {d : Nat × Nat} (hd : sh.2.2[j]? = some d) : S (q + (j + 1)) = zArr X (zDm V d) (V.2 (j + 1)) := (congrFun h _).symm.trans (zC_a j hd)
theorem isC.keep {sh' : Sh} {q' : Nat} {W : CV} (h : isC X A sh q V S) (hd : q' + sh'.2.2.length < q ∨ q + sh.2.2.length < q') : isC X A sh q V (zC X A sh' q' W S) := by
  funext k
  by_cases hk : k < q ∨ q + sh.2.2.length < k
  · exact zC_skip hk
  · rw [show zC X A sh' q' W S k = S k from zC_skip (by omega)]
    have h1 := congrFun h k
    rw [← h1]
    unfold zC
    by_cases h2 : k < q
    · exact absurd (Or.inl h2) hk
    · simp only [h2, if_false]
      by_cases h3 : k = q
      · simp [h3]
      · simp only [h3, if_false]
        have h4 : k - q - 1 < sh.2.2.length := by omega
        rw [List.getElem?_eq_getElem h4]
theorem zC_comm {sh' : Sh} {q' : Nat} {W : CV} (hd : q' + sh'.2.2.length < q ∨ q + sh.2.2.length < q') : zC X A sh q V (zC X A sh' q' W S) = zC X A sh' q' W (zC X A sh q V S) := by
  funext k
  by_cases h1 : k < q ∨ q + sh.2.2.length < k
  · rw [zC_skip h1]
    by_cases h2 : k < q' ∨ q' + sh'.2.2.length < k
    · rw [zC_skip h2, zC_skip h2, zC_skip h1]
    · unfold zC
      simp only [show ¬ k < q' by omega, if_false]
      by_cases h3 : k = q'
      · simp [h3]
      · simp only [h3, if_false]
        rw [List.getElem?_eq_getElem (show k - q' - 1 < sh'.2.2.length by omega)]
  · rw [show zC X A sh' q' W (zC X A sh q V S) k = zC X A sh q V S k from zC_skip (by omega)]
    unfold zC
    simp only [show ¬ k < q by omega, if_false]
    by_cases h3 : k = q
    · simp [h3]
    · simp only [h3, if_false]
      rw [List.getElem?_eq_getElem (show k - q - 1 < sh.2.2.length by omega)]
theorem zDm_all {V W : CV} {l : List (Nat × Nat)} (h : l.map (zDm V) = l.map (zDm W)) : ∀ d ∈ l, zDm V d = zDm W d := List.map_inj_left.mp h
theorem zC_upO {fs : List Value} (h : fs = oFs A q V' sh.2.1) (h2 : V'.2 = V.2) (h3 : ∀ d ∈ sh.2.2, zDm V' d = zDm V d) : va_up (zC X A sh q V S) q (.inr (sh.1, fs)) = zC X A sh q V' S := by
  subst h
  funext k
  unfold va_up zC
  by_cases h1 : k = q
  · simp [h1]
  · simp only [h1, if_false, h2]
    by_cases h4 : k < q
    · simp [h4]
    · simp only [h4, if_false]
      cases h5 : sh.2.2[k - q - 1]? with
      | none => rfl
      | some d =>
        show zArr X (zDm V d) _ = zArr X (zDm V' d) _
        rw [h3 d (List.mem_of_getElem? h5)]
theorem zC_upA (j : Nat) {d : Nat × Nat} {f : Int → Int} (h : sh.2.2[j]? = some d) : va_up (zC X A sh q V S) (q + (j + 1)) (zArr X (zDm V d) f) = zC X A sh q (V.1, va_up V.2 (j + 1) f) S := by
  funext k
  unfold va_up zC
  by_cases h1 : k = q + (j + 1)
  · subst h1
    rw [if_pos rfl, if_neg (by omega), if_neg (by omega), show q + (j + 1) - q - 1 = j by omega, h]
    simp
    rfl
  · simp only [h1, if_false]
    by_cases h2 : k < q
    · simp [h2]
    · by_cases h3 : k = q
      · simp only [h3, Nat.lt_irrefl, if_false, if_true]
        rfl
      · simp only [h2, h3, if_false]
        have h4 : k - q ≠ j + 1 := by omega
        cases sh.2.2[k - q - 1]? with
        | none => rfl
        | some d2 => simp [h4]; rfl
end ZCo
section ZCr
variable {X : zX} {M : zM} {P : zP} {kc ks pc : Nat} {lv : List (Nat × Value)} {rest : List Value} {A : Nat → Nat} {n : Nat} {S : Nat → va_E} {sh : Sh} {q : Nat} {V : CV}
/-- a number is written into the component's object -/
theorem c_put {ix fi k : Nat} {ty : FieldType} {x : Int} (hdg : decode M.2.1 pc = .ok (.putfield ix, 3)) (hF : zF M.1 ix sh.1 fi ty false) (hq : q < n) (hn : narrow ty (.int (iI x)) = .int (iI x)) (hf : fits ty (.int (iI x)) = true) (hlt : fi < sh.2.1.length) (hs : (oFs A q V sh.2.1).set fi (.int (iI x)) = oFs A q (zPu V k x) sh.2.1) (hd : sh.2.2.map (zDm (zPu V k x)) = sh.2.2.map (zDm V)) (kk : G X M P kc ks (pc + 3) lv rest (zWs A n (zC X A sh q (zPu V k x) S))) : G X M P kc ks pc lv (.int (iI x) :: .ref (A q) :: rest) (zWs A n (zC X A sh q V S)) :=
  k_put hdg hF q hq zC_o hn hf (by unfold oFs; rw [List.length_map]; exact hlt) (by rw [zC_upO (V := V) (V' := zPu V k x) hs rfl (zDm_all hd)]; exact kk)
theorem c_putl {ix fi k : Nat} {ty : FieldType} {x : Int} (hdg : decode M.2.1 pc = .ok (.putfield ix, 3)) (hF : zF M.1 ix sh.1 fi ty false) (hq : q < n) (hn : narrow ty (.long (iL x)) = .long (iL x)) (hf : fits ty (.long (iL x)) = true) (hlt : fi < sh.2.1.length) (hs : (oFs A q V sh.2.1).set fi (.long (iL x)) = oFs A q (zPu V k x) sh.2.1) (hd : sh.2.2.map (zDm (zPu V k x)) = sh.2.2.map (zDm V)) (kk : G X M P kc ks (pc + 3) lv rest (zWs A n (zC X A sh q (zPu V k x) S))) : G X M P kc ks pc lv (.long (iL x) :: .ref (A q) :: rest) (zWs A n (zC X A sh q V S)) :=
  k_put hdg hF q hq zC_o hn hf (by unfold oFs; rw [List.length_map]; exact hlt) (by rw [zC_upO (V := V) (V' := zPu V k x) hs rfl (zDm_all hd)]; exact kk)
theorem c_iast {len : Nat} {a v : Int} {d : Nat × Nat} (hdg : decode M.2.1 pc = .ok (.iastore, 1)) (j : Nat) (hj : sh.2.2[j]? = some d) (hd : zDm V d = (0, len)) (hq : q + (j + 1) < n) (hlen : len ≤ 2147483647) (h0 : 0 ≤ a) (h1 : a < len) (kk : G X M P kc ks (pc + 1) lv rest (zWs A n (zC X A sh q (zPa V (j + 1) a v) S))) : G X M P kc ks pc lv (.int (iI v) :: .int (iI a) :: .ref (A (q + (j + 1))) :: rest) (zWs A n (zC X A sh q V S)) :=
  k_iast hdg (q + (j + 1)) hq ((zC_a j hj).trans (by rw [hd]; rfl)) hlen h0 h1 (by
    have h := zC_upA (X := X) (A := A) (sh := sh) (q := q) (S := S) (d := d) (V := V) (f := zup (V.2 (j + 1)) a v) j hj
    rw [hd] at h
    have h2 : va_up (zC X A sh q V S) (q + (j + 1)) (aI X len (cI (zcl len (zup (V.2 (j + 1)) a v)))) = _ := h
    rw [h2]; exact kk)
theorem c_last {len : Nat} {a v : Int} {d : Nat × Nat} (hdg : decode M.2.1 pc = .ok (.lastore, 1)) (j : Nat) (hj : sh.2.2[j]? = some d) (hd : zDm V d = (1, len)) (hq : q + (j + 1) < n) (hlen : len ≤ 2147483647) (h0 : 0 ≤ a) (h1 : a < len) (kk : G X M P kc ks (pc + 1) lv rest (zWs A n (zC X A sh q (zPa V (j + 1) a v) S))) : G X M P kc ks pc lv (.long (iL v) :: .int (iI a) :: .ref (A (q + (j + 1))) :: rest) (zWs A n (zC X A sh q V S)) :=
  k_last hdg (q + (j + 1)) hq ((zC_a j hj).trans (by rw [hd]; rfl)) hlen h0 h1 (by
    have h := zC_upA (X := X) (A := A) (sh := sh) (q := q) (S := S) (d := d) (V := V) (f := zup (V.2 (j + 1)) a v) j hj
    rw [hd] at h
    have h2 : va_up (zC X A sh q V S) (q + (j + 1)) (aL X len (cL (zcl len (zup (V.2 (j + 1)) a v)))) = _ := h
    rw [h2]; exact kk)
theorem c_bast {len : Nat} {a v : Int} {d : Nat × Nat} (hdg : decode M.2.1 pc = .ok (.bastore, 1)) (j : Nat) (hj : sh.2.2[j]? = some d) (hd : zDm V d = (2, len)) (hq : q + (j + 1) < n) (hlen : len ≤ 2147483647) (h0 : 0 ≤ a) (h1 : a < len) (hv : -128 ≤ v ∧ v < 128) (kk : G X M P kc ks (pc + 1) lv rest (zWs A n (zC X A sh q (zPa V (j + 1) a v) S))) : G X M P kc ks pc lv (.int (iI v) :: .int (iI a) :: .ref (A (q + (j + 1))) :: rest) (zWs A n (zC X A sh q V S)) :=
  k_bast hdg (q + (j + 1)) hq ((zC_a j hj).trans (by rw [hd]; rfl)) hlen h0 h1 hv (by
    have h := zC_upA (X := X) (A := A) (sh := sh) (q := q) (S := S) (d := d) (V := V) (f := zup (V.2 (j + 1)) a v) j hj
    rw [hd] at h
    have h2 : va_up (zC X A sh q V S) (q + (j + 1)) (aB X len (cI (zcl len (zup (V.2 (j + 1)) a v)))) = _ := h
    rw [h2]; exact kk)
end ZCr
/-! TRUTH VALUES -/
def b2 (p : Bool) : Int := if p = true then 1 else 0
theorem b2_t : b2 true = 1 := rfl
theorem b2_f : b2 false = 0 := rfl
theorem b2_r (p : Bool) : iR (b2 p) := by cases p <;> decide
theorem b2_nar (p : Bool) : narrow .boolean (.int (iI (b2 p))) = .int (iI (b2 p)) := by cases p <;> rfl
theorem b2_0 {p : Bool} : b2 p = 0 ↔ p = false := by cases p <;> decide
theorem b2_1 {p : Bool} : b2 p = 1 ↔ p = true := by cases p <;> decide
def zMax (a b : Int) : Int := if a < b then b else a
def zMin (a b : Int) : Int := if b < a then b else a
section ZB
variable {X : zX} {M : zM} {P : zP} {kc ks pc : Nat} {lv : List (Nat × Value)} {rest : List Value} {ws : va_W}
theorem h_beq {p : Bool} {off : Int} {tgt : Nat} (hdg : decode M.2.1 pc = .ok (.ifCond .eq off, 3)) (ht : (pc : Int) + off = (tgt : Int)) (kt : p = false → G X M P kc ks tgt lv rest ws) (kf : p = true → G X M P kc ks (pc + 3) lv rest ws) : G X M P kc ks pc lv (.int (iI (b2 p)) :: rest) ws := h_if_eq hdg ht (b2_r p) (fun z => kt (b2_0.mp z)) (fun z => kf (by cases p <;> simp_all [b2]))
theorem h_bne {p : Bool} {off : Int} {tgt : Nat} (hdg : decode M.2.1 pc = .ok (.ifCond .ne off, 3)) (ht : (pc : Int) + off = (tgt : Int)) (kt : p = true → G X M P kc ks tgt lv rest ws) (kf : p = false → G X M P kc ks (pc + 3) lv rest ws) : G X M P kc ks pc lv (.int (iI (b2 p)) :: rest) ws := h_if_ne hdg ht (b2_r p) (fun z => kt (by cases p <;> simp_all [b2])) (fun z => kf (b2_0.mp z))
theorem h_max {ix : Nat} {a b : Int} (hdg : decode M.2.1 pc = .ok (.invokestatic ix, 3)) (hl : Cond.methodLink M.1 ix Lib.Math.max.name ∈ zW) (ha : iR a) (hb : iR b) (hf : 1 ≤ P.1.frames) (hlo : (rest.map fun v => v.category).sum + 13 ≤ P.1.locals) (hc : kc ≤ P.1.cells) (hs : ks ≤ P.1.slots) (kk : G X M P kc ks (pc + 3) lv (.int (iI (zMax a b)) :: rest) ws) : G X M P kc ks pc lv (.int (iI b) :: .int (iI a) :: rest) ws := by
  refine g_max hdg hl kZ_maxS kZ_mathI kZ_maxC hf hlo hc hs ?_
  have h : (if iI a < iI b then iI b else iI a) = iI (zMax a b) := by
    unfold zMax
    by_cases h : a < b
    · rw [if_pos h, if_pos ((iI_lt ha hb).mpr h)]
    · rw [if_neg h, if_neg (fun z => h ((iI_lt ha hb).mp z))]
  rw [h]
  exact kk
theorem h_min {ix : Nat} {a b : Int} (hdg : decode M.2.1 pc = .ok (.invokestatic ix, 3)) (hl : Cond.methodLink M.1 ix Lib.Math.min.name ∈ zW) (ha : iR a) (hb : iR b) (hf : 1 ≤ P.1.frames) (hlo : (rest.map fun v => v.category).sum + 13 ≤ P.1.locals) (hc : kc ≤ P.1.cells) (hs : ks ≤ P.1.slots) (kk : G X M P kc ks (pc + 3) lv (.int (iI (zMin a b)) :: rest) ws) : G X M P kc ks pc lv (.int (iI b) :: .int (iI a) :: rest) ws := by
  refine g_min hdg hl kZ_minS kZ_mathI kZ_minC hf hlo hc hs ?_
  have h : (if iI b < iI a then iI b else iI a) = iI (zMin a b) := by
    unfold zMin
    by_cases h : b < a
    · rw [if_pos h, if_pos ((iI_lt hb ha).mpr h)]
    · rw [if_neg h, if_neg (fun z => h ((iI_lt hb ha).mp z))]
  rw [h]
  exact kk
end ZB
