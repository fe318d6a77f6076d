section ZRY
variable {s : Int → Int}
def zSgn (s : Int → Int) (r i : Int) : Int := if zf s r 3 / zP2 i % 2 = 1 then 42 else (if zf s r 1 ≠ -1 ∧ zf s r 1 ≤ i ∧ i < zf s r 1 + s 2 then 65 else 97) + zl s r i
theorem zSgn_r (hW : zWf s) {r i : Int} (r0 : 0 ≤ r) (r1 : r < s 0) (i0 : 0 ≤ i) (i1 : i < zf s r 0) : 0 ≤ zSgn s r i ∧ zSgn s r i < 128 := by
  have hl := (hW.row r0 r1).2.2.2.2.1 i i0 i1
  have w1 := hW.2.1
  unfold zSgn
  by_cases c : zf s r 3 / zP2 i % 2 = 1
  · rw [if_pos c]; omega
  · rw [if_neg c]
    by_cases c2 : zf s r 1 ≠ -1 ∧ zf s r 1 ≤ i ∧ i < zf s r 1 + s 2
    · rw [if_pos c2]; omega
    · rw [if_neg c2]; omega
theorem c_signOf {x : CS} (hW : zWf s) (hB : zRB (x 4) s) {r i : Int} (r0 : 0 ≤ r) (r1 : r < s 0) (i0 : 0 ≤ i) (i1 : i < zf s r 0) : fX7_signOf x r i = some (zSgn s r i) := by
  apply zok_q
  unfold fX7_signOf zSgn
  have w0 := hW.1
  have w2 := hW.2.2.1
  have hrw := hW.row r0 r1
  have hsz := hrw.1
  have hch := hrw.2.1
  have hcv := hrw.2.2.2.1
  have hr := hB.row r0 r1
  rw [hr.2.2.2.1, hr.2.1, hB.2.1]
  refine zok_g (by omega) ?_
  refine zok_g (by omega) ?_
  refine zok_g (by omega) ?_
  refine zok_i (fun c => ?_) (fun c => ?_)
  · rw [if_neg (by omega)]
    refine zok_jP (fun (k : Int) => k = if zf s r 1 ≠ -1 ∧ zf s r 1 ≤ i ∧ i < zf s r 1 + s 2 then 1 else 0) (fun k hk => ?_) (fun K hK => ?_)
    · refine zok_jP (fun (v : Int) => v = if zf s r 1 ≠ -1 ∧ zf s r 1 ≤ i ∧ i < zf s r 1 + s 2 then 65 else 97) (fun v hv => ?_) (fun K hK => ?_)
      · exact zok_e (b_letterAt hW hB r0 r1 i0 i1) (zok_s (by rw [hv]))
      · by_cases c2 : zf s r 1 ≠ -1 ∧ zf s r 1 ≤ i ∧ i < zf s r 1 + s 2
        · rw [if_pos c2] at hk
          subst hk
          refine zok_g (by omega) (zok_f (by decide) (hK _ ?_))
          rw [if_pos c2]
        · rw [if_neg c2] at hk
          subst hk
          refine zok_g (by omega) (zok_t rfl (hK _ ?_))
          rw [if_neg c2]
    · refine zok_jP (fun _ => ¬ (zf s r 1 ≠ -1 ∧ zf s r 1 ≤ i ∧ i < zf s r 1 + s 2)) (fun _ hc => hK 0 (by rw [if_neg hc])) (fun J hJ => ?_)
      refine zok_g (by omega) ?_
      refine zok_i (fun c3 => hJ () (by omega)) (fun c3 => ?_)
      refine zok_g (by omega) ?_
      refine zok_i (fun c4 => hJ () (by omega)) (fun c4 => ?_)
      refine zok_g (by omega) ?_
      refine zok_i (fun c5 => hJ () (by omega)) (fun c5 => hK 1 ?_)
      rw [if_pos ⟨c3, by omega, by omega⟩]
  · rw [if_pos (by omega)]
    exact zok_s rfl
def zSgL (s : Int → Int) (r : Int) (n : Nat) : List Int := (List.range n).map (fun k : Nat => zSgn s r (k : Int))
theorem zSgL_s {r : Int} {n : Nat} : zSgL s r (n + 1) = zSgL s r n ++ [zSgn s r (n : Int)] := by
  unfold zSgL
  rw [List.range_succ, List.map_append]
  rfl
theorem zSgL_l {r : Int} {n : Nat} : (zSgL s r n).length = n := by
  unfold zSgL
  rw [List.length_map, List.length_range]
def zMns (s : Int → Int) (r : Int) : List Int := if zf s r 2 = 1 then [45] else []
theorem zMns_l {r : Int} : (zMns s r).length ≤ 1 := by
  unfold zMns
  split <;> decide
def zRpb (s : Int → Int) (W : Int → List Int) (r : Int) : List Int := zMns s r ++ (zUpc (W r) ++ ([32] ++ (zSgL s r (zf s r 0).toNat ++ [10])))
def zRpA (s : Int → Int) (W : Int → List Int) : Nat → List Int
  | 0 => []
  | n + 1 => zRpA s W n ++ zRpb s W (n : Int)
def zNok (s nm : Int → Int) (N : Int → Int) (W : Int → List Int) : Prop := ∀ r, 0 ≤ r → r < s 0 → (W r).length ≤ 8 ∧ zLet (W r) ∧ N r = z8 (W r) ∧ nm r = z5 (W r)
theorem zNok_e {V : CV} {nm : Int → Int} (h : zB1 V s nm) : ∃ W, zNok s nm (V.2 1) W := by
  have key : ∀ r : Int, ∃ w : List Int, 0 ≤ r → r < s 0 → w.length ≤ 8 ∧ zLet w ∧ V.2 1 r = z8 w ∧ nm r = z5 w := by
    intro r
    by_cases c : 0 ≤ r ∧ r < s 0
    · obtain ⟨w, hl, hd, e1, e2⟩ := (h.2.2 r c.1 c.2).1
      exact ⟨w, fun _ _ => ⟨hl.2, hd, e1, e2⟩⟩
    · exact ⟨[], fun a b => absurd ⟨a, b⟩ c⟩
  exact ⟨fun r => (key r).choose, fun r r0 r1 => (key r).choose_spec r0 r1⟩
theorem zRpb_l {W : Int → List Int} {nm N : Int → Int} (hW : zWf s) (hN : zNok s nm N W) {r : Int} (r0 : 0 ≤ r) (r1 : r < s 0) : (zRpb s W r).length ≤ 41 := by
  have h1 := (hN r r0 r1).1
  have h2 := (hW.row r0 r1).1
  have h3 := zMns_l (s := s) (r := r)
  unfold zRpb
  rw [List.length_append, List.length_append, List.length_append, List.length_append, zUpc_l, zSgL_l]
  have a1 : ([32] : List Int).length = 1 := rfl
  have a2 : ([10] : List Int).length = 1 := rfl
  omega
theorem zRpA_l {W : Int → List Int} {nm N : Int → Int} (hW : zWf s) (hN : zNok s nm N W) : ∀ n : Nat, (n : Int) ≤ s 0 → (zRpA s W n).length ≤ 41 * n := by
  intro n
  induction n with
  | zero => intro _; exact Nat.le_refl 0
  | succ n ih =>
    intro h
    have h1 := ih (by omega)
    have h2 := zRpb_l hW hN (r := (n : Int)) (by omega) (by omega)
    show (zRpA s W n ++ zRpb s W (n : Int)).length ≤ _
    rw [List.length_append]
    omega
theorem zRpA_b {W : Int → List Int} {nm N : Int → Int} (hW : zWf s) (hN : zNok s nm N W) : ∀ n : Nat, (n : Int) ≤ s 0 → ∀ c ∈ zRpA s W n, 0 ≤ c ∧ c < 128 := by
  intro n
  induction n with
  | zero => intro _ c hc; exact absurd hc List.not_mem_nil
  | succ n ih =>
    intro h c hc
    have hr := hN (n : Int) (by omega) (by omega)
    have h2 := (hW.row (r := (n : Int)) (by omega) (by omega)).1
    rcases List.mem_append.mp (show c ∈ zRpA s W n ++ zRpb s W (n : Int) from hc) with hc | hc
    · exact ih (by omega) c hc
    unfold zRpb at hc
    rcases List.mem_append.mp hc with hc | hc
    · unfold zMns at hc
      split at hc
      · rw [List.mem_singleton.mp hc]; decide
      · exact absurd hc List.not_mem_nil
    rcases List.mem_append.mp hc with hc | hc
    · obtain ⟨d, hd, e⟩ := List.mem_map.mp (show c ∈ (W (n : Int)).map (fun c => 96 + c) from hc)
      have := hr.2.1 d hd
      omega
    rcases List.mem_append.mp hc with hc | hc
    · rw [List.mem_singleton.mp hc]; decide
    rcases List.mem_append.mp hc with hc | hc
    · obtain ⟨d, hd, e⟩ := List.mem_map.mp (show c ∈ (List.range (zf s (n : Int) 0).toNat).map (fun k : Nat => zSgn s (n : Int) (k : Int)) from hc)
      have := List.mem_range.mp hd
      rw [← e]
      exact zSgn_r hW (by omega) (by omega) (by omega) (by omega)
    · rw [List.mem_singleton.mp hc]; decide
theorem c_report {σ : CS} {W : Int → List Int} {nm : Int → Int} (hW : zWf s) (hB : zRB (σ 4) s) (hN : zNok s nm ((σ 4).2 1) W) : fX7_report σ = some (zWL (zSu σ 0 (zPu (σ 0) 12 0)) (zRpA s W (s 0).toNat), ((zRpA s W (s 0).toNat).length : Int)) := by
  apply zok_q
  unfold fX7_report
  have w0 := hW.1
  have z12 : ((zSu σ 0 (zPu (σ 0) 12 0)) 0).1 12 = 0 := by rw [zSu_s, zPu_s]
  refine zok_F (β := CS) (mk := fun a i => (i, a)) (s 0) (fun i a => a = zWL (zSu σ 0 (zPu (σ 0) 12 0)) (zRpA s W i.toNat)) (a0 := zSu σ 0 (zPu (σ 0) 12 0)) rfl (by omega) rfl (fun i a hi hi2 hI => ?_) (fun i a hi hi2 hi3 hi4 hI => ?_)
  · have ha4 : a 4 = σ 4 := by rw [hI, zWL_k (by decide), zSu_n (by decide)]
    have hlen := zRpA_l hW hN i.toNat (by omega)
    have hsz : (a 0).1 12 = ((zRpA s W i.toNat).length : Int) := by rw [hI, zWL_12, z12]; omega
    have hrow := hW.row hi hi2
    have hrs := hrow.1
    have hn := hN i hi hi2
    have hrb := hB.row hi hi2
    have hBa : zRB (a 4) s := by rw [ha4]; exact hB
    have e43 : (a 4).1 3 = s 0 := hBa.2.2.2.1
    dsimp only
    refine zok_g (by omega) (zok_f (by omega) ?_)
    refine zok_e (b_isOut hW hBa hi hi2) ?_
    refine zok_jP (fun (x : CS) => x = zWL a (zMns s i)) (fun x hx => ?_) (fun K hK => ?_)
    · have hx4 : x 4 = σ 4 := by rw [hx, zWL_k (by decide), ha4]
      have hm := zMns_l (s := s) (r := i)
      have hxs : (x 0).1 12 = (a 0).1 12 + ((zMns s i).length : Int) := by rw [hx, zWL_12]
      refine zok_g (by omega) ?_
      have ex1 : (x 4).2 1 i = z8 (W i) := by rw [hx4]; exact hn.2.2.1
      rw [ex1]
      refine zok_e (c_writeName hn.1 hn.2.1 (by omega) (by omega)) ?_
      have h58 : (zWL x (zUpc (W i)) 0).1 12 = (x 0).1 12 + ((W i).length : Int) := by rw [zWL_12, zUpc_l]
      refine zok_e (c_write (c := 32) (by omega) (by omega) (by decide)) ?_
      obtain ⟨y, hy⟩ : ∃ y, y = zW1 (zWL x (zUpc (W i))) 32 := ⟨_, rfl⟩
      rw [← hy]
      have hys : (y 0).1 12 = (x 0).1 12 + ((W i).length : Int) + 1 := by rw [hy, zW1_12, h58]
      have hy4 : y 4 = σ 4 := by rw [hy, zW1_k (by decide), zWL_k (by decide), hx4]
      refine zok_F (β := CS) (mk := fun a i => (i, a)) (zf s i 0) (fun j b => b = zWL y (zSgL s i j.toNat)) (a0 := y) rfl (by omega) rfl (fun j b hj hj2 hJ => ?_) (fun j b hj hj2 hj3 hj4 hJ => ?_)
      · have hb4 : b 4 = σ 4 := by rw [hJ, zWL_k (by decide), hy4]
        have hbs : (b 0).1 12 = (y 0).1 12 + j := by rw [hJ, zWL_12, zSgL_l]; omega
        have eb3 : (b 4).2 3 i = zf s i 0 := by rw [hb4]; exact hrb.1
        dsimp only
        refine zok_g (by omega) (zok_f (by omega) ?_)
        refine zok_e (c_signOf hW (by rw [hb4]; exact hB) hi hi2 hj hj2) ?_
        refine zok_e (c_write (by omega) (by omega) (zSgn_r hW hi hi2 hj hj2)) (zok_sl ⟨_, rfl, ?_⟩)
        rw [show (j + 1).toNat = j.toNat + 1 by omega, zSgL_s, zWL_app, ← hJ, show ((j.toNat : Nat) : Int) = j by omega]
        rfl
      · have hb4 : b 4 = σ 4 := by rw [hJ, zWL_k (by decide), hy4]
        have hbs : (b 0).1 12 = (y 0).1 12 + j := by rw [hJ, zWL_12, zSgL_l]; omega
        have eb3 : (b 4).2 3 i = zf s i 0 := by rw [hb4]; exact hrb.1
        dsimp only
        refine zok_g (by omega) (zok_t (by omega) (zok_sr ?_))
        have hjz := hj3 (by omega)
        refine zok_e (c_write (x := b) (c := 10) (by omega) (by omega) (by decide)) (zok_sl ⟨_, rfl, ?_⟩)
        rw [show (i + 1).toNat = i.toNat + 1 by omega]
        show zW1 b 10 = zWL _ (zRpA s W i.toNat ++ zRpb s W ((i.toNat : Nat) : Int))
        rw [show ((i.toNat : Nat) : Int) = i by omega, zWL_app, ← hI]
        unfold zRpb
        rw [zWL_app, ← hx, zWL_app, zWL_app]
        show _ = zWL (zW1 (zWL x (zUpc (W i))) 32) _
        rw [← hy, zWL_app, ← hjz, ← hJ]
        rfl
    · refine zok_i (fun c => ?_) (fun c => hK _ ?_)
      · refine zok_e (c_write (c := 45) (by omega) (by omega) (by decide)) (hK _ ?_)
        unfold zMns
        rw [if_pos (of_decide_eq_true c)]
        rfl
      · unfold zMns
        rw [if_neg (fun z => c (decide_eq_true z))]
        rfl
  · have ha4 : a 4 = σ 4 := by rw [hI, zWL_k (by decide), zSu_n (by decide)]
    have e43 : (a 4).1 3 = s 0 := by rw [ha4]; exact hB.2.2.2.1
    dsimp only
    refine zok_g (by omega) (zok_t (by omega) (zok_sr (zok_s ?_)))
    have hz := hi3 (by omega)
    subst hz
    have e : (a 0).1 12 = ((zRpA s W (s 0).toNat).length : Int) := by rw [hI, zWL_12, z12]; omega
    rw [e, hI]
theorem m_report {m : CV} {W : Int → List Int} {N : Int → Int} (hs : m.2 2 = s) (hW : zWf s) (hN : zNok s (m.2 7) N W) : fX8_report m = some (zTL (zPu (zPu (zPu m 0 0) 47 0) 48 1) (zRpA s W (s 0).toNat), ((zRpA s W (s 0).toNat).length : Int)) := by
  apply zok_q
  unfold fX8_report
  have w0 := hW.1
  have w2 := hW.2.2.1
  obtain ⟨m0, hm0⟩ : ∃ t, t = zPu (zPu (zPu m 0 0) 47 0) 48 1 := ⟨_, rfl⟩
  rw [← hm0]
  have z47 : m0.1 47 = 0 := by rw [hm0, zPu_n (by decide), zPu_s]
  have hm2 : m0.2 2 = s := by rw [hm0]; exact hs
  have hm7 : m0.2 7 = m.2 7 := by rw [hm0]; rfl
  refine zok_F (β := CV) (mk := fun a i => (i, a)) (s 0) (fun i a => a = zTL m0 (zRpA s W i.toNat)) (a0 := m0) rfl (by omega) rfl (fun i a hi hi2 hI => ?_) (fun i a hi hi2 hi3 hi4 hI => ?_)
  · have ha2 : a.2 2 = s := by rw [hI, zTL_2 (by decide), hm2]
    have hlen := zRpA_l hW hN i.toNat (by omega)
    have hsz : a.1 47 = ((zRpA s W i.toNat).length : Int) := by rw [hI, zTL_47, z47]; omega
    have hrow := hW.row hi hi2
    have hrs := hrow.1
    have hcv := hrow.2.2.2.1
    have hch := hrow.2.1
    have hn := hN i hi hi2
    have e20 : a.2 2 0 = s 0 := by rw [ha2]
    dsimp only
    refine zok_g (by omega) (zok_f (by omega) ?_)
    refine zok_e (m_isOut ha2 hW hi hi2) ?_
    refine zok_jP (fun (x : CV) => x = zTL a (zMns s i)) (fun x hx => ?_) (fun K hK => ?_)
    · have hx7 : x.2 7 = m.2 7 := by rw [hx, zTL_2 (by decide), hI, zTL_2 (by decide), hm7]
      have hx2 : x.2 2 = s := by rw [hx, zTL_2 (by decide), ha2]
      have hm := zMns_l (s := s) (r := i)
      have hxs : x.1 47 = a.1 47 + ((zMns s i).length : Int) := by rw [hx, zTL_47]
      refine zok_g (by omega) ?_
      have ex1 : x.2 7 i = z5 (W i) := by rw [hx7]; exact hn.2.2.2
      rw [ex1]
      refine zok_e (m_tellName hn.1 hn.2.1 (by omega) (by omega)) ?_
      have h58 : (zTL x (zUpc (W i))).1 47 = x.1 47 + ((W i).length : Int) := by rw [zTL_47, zUpc_l]
      refine zok_e (m_tell (c := 32) (by omega) (by omega)) ?_
      obtain ⟨y, hy⟩ : ∃ y, y = zT1 (zTL x (zUpc (W i))) 32 := ⟨_, rfl⟩
      rw [← hy]
      have hys : y.1 47 = x.1 47 + ((W i).length : Int) + 1 := by rw [hy, zT1_47, h58]
      have hy2 : y.2 2 = s := by rw [hy, zT1_2 (by decide), zTL_2 (by decide), hx2]
      refine zok_e (m_of hy2 (by omega) (by omega)) ?_
      refine zok_F (β := CV) (mk := fun a i => (i, a)) (zf s i 0) (fun j b => b = zTL y (zSgL s i j.toNat)) (a0 := y) rfl (by omega) rfl (fun j b hj hj2 hJ => ?_) (fun j b hj hj2 hj3 hj4 hJ => ?_)
      · have hb2 : b.2 2 = s := by rw [hJ, zTL_2 (by decide), hy2]
        have hbs : b.1 47 = y.1 47 + j := by rw [hJ, zTL_47, zSgL_l]; omega
        dsimp only
        refine zok_e (m_of hb2 (by omega) (by omega)) ?_
        refine zok_g (by omega) (zok_f (by omega) ?_)
        refine zok_jP (fun (k : Int) => k = if zf s i 1 ≠ -1 ∧ zf s i 1 ≤ j ∧ j < zf s i 1 + s 2 then 1 else 0) (fun k hk => ?_) (fun K hK => ?_)
        · refine zok_e (m_of hb2 (by omega) (by omega)) ?_
          refine zok_e (m_hasBit ⟨by omega, by omega⟩ hj (by omega)) ?_
          refine zok_jP (fun (v : Int) => v = zSgn s i j) (fun v hv => ?_) (fun K hK => ?_)
          · rw [hv]
            refine zok_e (m_tell (by omega) (by omega)) (zok_sl ⟨_, rfl, ?_⟩)
            rw [show (j + 1).toNat = j.toNat + 1 by omega, zSgL_s, zTL_app, ← hJ, show ((j.toNat : Nat) : Int) = j by omega]
            rfl
          · refine zok_i (fun c => hK _ ?_) (fun c => ?_)
            · unfold zSgn
              rw [if_pos (of_decide_eq_true c)]
            · refine zok_jP (fun (v : Int) => v = if zf s i 1 ≠ -1 ∧ zf s i 1 ≤ j ∧ j < zf s i 1 + s 2 then 65 else 97) (fun v hv => ?_) (fun J hJJ => ?_)
              · refine zok_e (m_letterAt hb2 (by omega) (by omega)) (hK _ ?_)
                unfold zSgn
                rw [if_neg (fun z => c (decide_eq_true z)), hv]
              · by_cases c2 : zf s i 1 ≠ -1 ∧ zf s i 1 ≤ j ∧ j < zf s i 1 + s 2
                · rw [if_pos c2] at hk
                  subst hk
                  refine zok_g (by omega) (zok_f (by decide) (hJJ _ ?_))
                  rw [if_pos c2]
                · rw [if_neg c2] at hk
                  subst hk
                  refine zok_g (by omega) (zok_t rfl (hJJ _ ?_))
                  rw [if_neg c2]
        · refine zok_jP (fun _ => ¬ (zf s i 1 ≠ -1 ∧ zf s i 1 ≤ j ∧ j < zf s i 1 + s 2)) (fun _ hc => hK 0 (by rw [if_neg hc])) (fun J hJJ => ?_)
          have eb2 : b.2 2 2 = s 2 := by rw [hb2]
          refine zok_g (by omega) ?_
          refine zok_i (fun c3 => hJJ () (by omega)) (fun c3 => ?_)
          refine zok_g (by omega) ?_
          refine zok_e (m_isIn ⟨by omega, by omega⟩ ⟨by omega, by omega⟩ ⟨by omega, by omega⟩) ?_
          refine zok_i (fun c4 => hK 1 ?_) (fun c4 => hJJ () (fun z => c4 (decide_eq_true (by omega))))
          have := of_decide_eq_true c4
          rw [if_pos ⟨c3, by omega, by omega⟩]
      · have hb2 : b.2 2 = s := by rw [hJ, zTL_2 (by decide), hy2]
        have hbs : b.1 47 = y.1 47 + j := by rw [hJ, zTL_47, zSgL_l]; omega
        dsimp only
        refine zok_e (m_of hb2 (by omega) (by omega)) ?_
        refine zok_g (by omega) (zok_t (by omega) (zok_sr ?_))
        have hjz := hj3 (by omega)
        refine zok_e (m_tell (t := b) (c := 10) (by omega) (by omega)) (zok_sl ⟨_, rfl, ?_⟩)
        rw [show (i + 1).toNat = i.toNat + 1 by omega]
        show zT1 b 10 = zTL _ (zRpA s W i.toNat ++ zRpb s W ((i.toNat : Nat) : Int))
        rw [show ((i.toNat : Nat) : Int) = i by omega, zTL_app, ← hI]
        unfold zRpb
        rw [zTL_app, ← hx, zTL_app, zTL_app]
        show _ = zTL (zT1 (zTL x (zUpc (W i))) 32) _
        rw [← hy, zTL_app, ← hjz, ← hJ]
        rfl
    · refine zok_i (fun c => ?_) (fun c => hK _ ?_)
      · refine zok_e (m_tell (c := 45) (by omega) (by omega)) (hK _ ?_)
        unfold zMns
        rw [if_pos (of_decide_eq_true c)]
        rfl
      · unfold zMns
        rw [if_neg (fun z => c (decide_eq_true z))]
        rfl
  · have ha2 : a.2 2 = s := by rw [hI, zTL_2 (by decide), hm2]
    have e20 : a.2 2 0 = s 0 := by rw [ha2]
    dsimp only
    refine zok_g (by omega) (zok_t (by omega) (zok_sr (zok_s ?_)))
    have hz := hi3 (by omega)
    subst hz
    have e : a.1 47 = ((zRpA s W (s 0).toNat).length : Int) := by rw [hI, zTL_47, z47]; omega
    rw [e, hI]
theorem s_report {σ : CS} {m : CV} (h : zRR σ m) : zOk (fX7_report σ) (fun v => zOk (fX8_report m) (fun u => zRR v.1 u.1 ∧ v.2 = u.2 ∧ iR v.2)) := by
  have hW := h.W
  have hB := h.B
  have w0 := hW.1
  obtain ⟨W, hN⟩ := zNok_e h.2.1
  have hlen := zRpA_l hW hN (m.2 2 0).toNat (by omega)
  have hbt := zRpA_b hW hN (m.2 2 0).toNat (by omega)
  refine zok_v (c_report hW hB hN) (zok_v (m_report rfl hW hN) ⟨?_, rfl, ?_⟩)
  · obtain ⟨l, hl⟩ : ∃ l, l = zRpA (m.2 2) W (m.2 2 0).toNat := ⟨_, rfl⟩
    rw [← hl] at hlen hbt ⊢
    dsimp only
    obtain ⟨x0, hx0⟩ : ∃ x, x = zSu σ 0 (zPu (σ 0) 12 0) := ⟨_, rfl⟩
    obtain ⟨t0, ht0⟩ : ∃ t, t = zPu (zPu (zPu m 0 0) 47 0) 48 1 := ⟨_, rfl⟩
    rw [← hx0, ← ht0]
    have hb : zWTb (zWL x0 l) (zTL t0 l) := by
      refine zWTb_l l x0 t0 ⟨?_, ?_, fun i i0 i1 => ?_⟩ hbt
      · rw [hx0, zSu_s, zPu_s, ht0, zPu_n (by decide), zPu_s]
      · rw [ht0, zPu_n (by decide), zPu_s]; omega
      · rw [ht0, zPu_n (by decide), zPu_s] at i1; omega
    have hk : ∀ k, k ≠ 0 → zWL x0 l k = σ k := fun k hk => by rw [zWL_k hk, hx0, zSu_n hk]
    have hk0 : ∀ k, k ≠ 12 → (zWL x0 l 0).1 k = (σ 0).1 k := fun k hk => by rw [zWL_1 hk, hx0, zSu_s, zPu_n hk]
    have ht : ∀ k, k ≠ 0 → k ≠ 47 → k ≠ 48 → (zTL t0 l).1 k = m.1 k := fun k a b c => by rw [zTL_1 b, ht0, zPu_n c, zPu_n b, zPu_n a]
    have ht2 : ∀ k, k ≠ 20 → (zTL t0 l).2 k = m.2 k := fun k a => by rw [zTL_2 a, ht0]; rfl
    have h48 : (zTL t0 l).1 48 = 1 := by rw [zTL_1 (by decide), ht0, zPu_s]
    have h47 : (zTL t0 l).1 47 = (l.length : Int) := by rw [zTL_47, ht0, zPu_n (by decide), zPu_s]; omega
    have hRr : zRr (zWL x0 l 0) (zTL t0 l) := by
      refine ⟨Or.inr h48, by rw [if_pos h48]; exact hb.1, ?_, fun i i0 i1 => hb.2.2 i i0 (by rw [← hb.1]; exact i1)⟩
      have := hb.1
      omega
    obtain ⟨a1, a2, a3, a4, a5, a6, a7⟩ := h
    refine ⟨?_, ?_, ?_, ?_, ?_, ?_, hRr⟩
    · unfold zRt at a1 ⊢
      rw [hk 1 (by decide), ht 2 (by decide) (by decide) (by decide), ht 11 (by decide) (by decide) (by decide), ht 12 (by decide) (by decide) (by decide), ht2 1 (by decide)]
      exact a1
    · rw [hk 4 (by decide), ht2 2 (by decide), ht2 7 (by decide)]
      exact a2
    · unfold zRs at a3 ⊢
      rw [hk0 14 (by decide), hk 5 (by decide), ht 23 (by decide) (by decide) (by decide), ht2 3 (by decide), ht2 8 (by decide)]
      exact a3
    · unfold zRp zPt at a4 ⊢
      rw [hk0 13 (by decide), ht 22 (by decide) (by decide) (by decide), ht2 4 (by decide), ht2 7 (by decide), ht2 2 (by decide)]
      refine ⟨a4.1, a4.2.1, fun p p0 p1 => ?_⟩
      rw [hk (11 + p.toNat) (by omega)]
      exact a4.2.2 p p0 p1
    · rw [hk 7 (by decide), hk 8 (by decide), ht2 2 (by decide)]
      exact a5
    · rw [hk 10 (by decide)]
      exact a6
  · exact ⟨by omega, by omega⟩
theorem s_reportByte {σ : CS} {m : CV} (h : zRR σ m) {i : Int} (hi : iR i) : zCp σ [zIO] (fX7_reportByte σ i) (fX8_reportByte m i) := by
  obtain ⟨h1, h2, h3, h4⟩ := h.2.2.2.2.2.2
  unfold zCp
  by_cases c : 0 ≤ i ∧ i < (σ 0).1 12
  · have h48 : m.1 48 = 1 := by
      rcases h1 with e | e
      · rw [if_neg (by omega)] at h2; omega
      · exact e
    rw [if_pos h48] at h2
    have hb := h4 i c.1 c.2
    have key : fX7_reportByte σ i = some (.inl ((σ 0).2 1 i)) := by
      apply zok_q
      unfold fX7_reportByte
      refine zok_jP (fun _ => False) (fun _ hx => absurd hx id) (fun K hK => ?_)
      (repeat (first | (with_reducible refine zok_g ?_ ?_; focus omega) | with_reducible refine zok_j ?_ | (with_reducible refine zok_t ?_ ?_; focus omega) | (with_reducible refine zok_f ?_ ?_; focus omega)))
      exact zok_s rfl
    refine zok_v key ?_
    unfold fX8_reportByte
    have hin := m_isIn (a := i) (lo := 0) (hi := m.1 47 - 1) ⟨by omega, by omega⟩ (by decide) ⟨by omega, by omega⟩
    rw [decide_eq_true (by omega)] at hin
    refine zok_jP (fun (k : Int) => k = 1) (fun k hk => ?_) (fun K hK => ?_)
    · rw [hk]
      refine zok_e m_go1 ?_
      refine zok_t rfl ?_
      dsimp only
      refine zok_g (by omega) (zok_s ⟨zRR_0 h, zAn_v rfl hb.1 ⟨by omega, by omega⟩⟩)
    · refine zok_jP (fun _ => False) (fun _ hx => absurd hx id) (fun J hJ => ?_)
      refine zok_g (by omega) (zok_f (by omega) ?_)
      refine zok_g (by omega) (zok_g (by omega) ?_)
      refine zok_e hin ?_
      exact zok_t rfl (hK 1 rfl)
  · have key : fX7_reportByte σ i = some (.inr zIO) := by
      apply zok_q
      unfold fX7_reportByte
      refine zok_jP (fun _ => True) (fun _ _ => zok_s rfl) (fun K hK => ?_)
      refine zok_g (by omega) ?_
      refine zok_i (fun c1 => hK () trivial) (fun c1 => ?_)
      refine zok_g (by omega) ?_
      exact zok_f (by omega) (hK () trivial)
    refine zok_v key ?_
    unfold fX8_reportByte
    refine zok_jP (fun (k : Int) => k = 0) (fun k hk => ?_) (fun K hK => ?_)
    · rw [hk]
      refine zok_e m_go0 ?_
      refine zok_f Bool.false_ne_true ?_
      exact zok_s ⟨zRR_0 h, zAn_e 0 rfl rfl⟩
    · refine zok_jP (fun _ => True) (fun _ _ => hK 0 rfl) (fun J hJ => ?_)
      refine zok_g (by omega) ?_
      refine zok_i (fun c1 => hJ () trivial) (fun c1 => ?_)
      have h48 : m.1 48 = 1 := by omega
      rw [if_pos h48] at h2
      have hin := m_isIn (a := i) (lo := 0) (hi := m.1 47 - 1) ⟨by omega, by omega⟩ (by decide) ⟨by omega, by omega⟩
      rw [decide_eq_false (by omega)] at hin
      refine zok_g (by omega) (zok_g (by omega) ?_)
      refine zok_e hin ?_
      exact zok_f Bool.false_ne_true (hJ () trivial)
end ZRY
