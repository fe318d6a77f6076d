/-! keepPast: the boards of the past move down -/
def zStX (X : zX) (A : Nat → Nat) (σ : CS) (S : Nat → va_E) (e : va_E) : Nat → va_E := zStL X A σ zCL 0 (va_up S 2 e)
section ZK1
variable {X : zX} {M : zM} {P : zP} {kc ks pc : Nat} {lv : List (Nat × Value)} {rest : List Value} {A A' : Nat → Nat} {n : Nat} {S : Nat → va_E} {σ : CS} {e e' : va_E} {V : CV} {q : Nat} {sh : Sh}
theorem zStX_0 : zStX X A σ S (zPast X A) = zSt X A σ S := rfl
theorem zStX_2 : zStX X A σ S e 2 = e := by
  unfold zStX
  rw [zStL_out 2 _ _ _ (by decide)]
  rfl
theorem zStX_c (i : Nat) (hi : zCL[i]? = some (q, sh)) (hV : σ i = V) : isC X A sh q V (zStX X A σ S e) := by
  have h := zStL_c (X := X) (A := A) (S := va_up S 2 e) zCL σ 0 i q sh zCL_d hi
  rw [Nat.zero_add, hV] at h
  exact h
theorem zStX_p (i : Nat) (hi : zCL[i]? = some (q, sh)) : zC X A sh q V (zStX X A σ S e) = zStX X A (zSu σ i V) S e := by
  have h := zStL_p (X := X) (A := A) (S := va_up S 2 e) zCL σ 0 i q sh V zCL_d hi
  rw [Nat.zero_add] at h
  exact h
theorem zStL_two {B : Nat → va_E} : ∀ (L : List (Nat × Sh)) (σ : CS) (i : Nat), L.all (fun a => Nat.blt 2 a.1 || Nat.blt (a.1 + a.2.2.2.length) 2) = true → va_up (zStL X A σ L i B) 2 e = zStL X A σ L i (va_up B 2 e) := by
  intro L
  induction L with
  | nil => intro σ i _; rfl
  | cons a L ih =>
    intro σ i h
    rw [List.all_cons, Bool.and_eq_true, Bool.or_eq_true, Nat.blt_eq, Nat.blt_eq] at h
    have h2 := ih σ (i + 1) h.2
    show va_up (zC X A a.2 a.1 (σ i) (zStL X A σ L (i + 1) B)) 2 e = zC X A a.2 a.1 (σ i) (zStL X A σ L (i + 1) (va_up B 2 e))
    rw [← h2]
    funext k
    by_cases hk : k = 2
    · subst hk
      rw [zC_skip h.1]
      simp [va_up]
    · have e1 : va_up (zC X A a.2 a.1 (σ i) (zStL X A σ L (i + 1) B)) 2 e k = zC X A a.2 a.1 (σ i) (zStL X A σ L (i + 1) B) k := if_neg hk
      rw [e1]
      exact zC_at (by show _ = va_up _ 2 e k; exact (if_neg hk).symm)
theorem zStX_s : va_up (zStX X A σ S e) 2 e' = zStX X A σ S e' := by
  unfold zStX
  rw [zStL_two _ _ _ (by decide)]
  congr 1
  funext k
  unfold va_up
  by_cases hk : k = 2 <;> simp [hk]
theorem zCL_past {m : Nat} (h : m < 6) : zCL[11 + m]? = some (49 + 7 * m, shB) := by
  match m, h with
  | 0, _ => rfl
  | 1, _ => rfl
  | 2, _ => rfl
  | 3, _ => rfl
  | 4, _ => rfl
  | 5, _ => rfl
  | m + 6, h => exact absurd h (by omega)
theorem k_pld {f : Nat → Option Nat} {i : Int} {a : Nat} (hdg : decode M.2.1 pc = .ok (.aaload, 1)) (hq : 2 < n) (h0 : 0 ≤ i) (h1 : i < 6) (hf : f i.toNat = some a) (kk : G X M P kc ks (pc + 1) lv (.ref a :: rest) (zWs A n (zStX X A σ S (aQ X 6 f)))) : G X M P kc ks pc lv (.int (iI i) :: .ref (A 2) :: rest) (zWs A n (zStX X A σ S (aQ X 6 f))) := by
  refine g_aald hdg 2 (zWs_at hq zStX_2) (iI_in h0 h1 (by decide)) ?_
  have h : (iI i).toNatClampNeg = i.toNat := by have := iI_idx h0 (show i < 2147483648 by omega); omega
  rw [h, hf]
  exact kk
theorem k_pst {f : Nat → Option Nat} {i : Int} {m : Nat} (hdg : decode M.2.1 pc = .ok (.aastore, 1)) (hq : 91 ≤ n) (h0 : 0 ≤ i) (h1 : i < 6) (hm : m < 6) (kk : G X M P kc ks (pc + 1) lv rest (zWs A n (zStX X A σ S (aQ X 6 (va_up f i.toNat (some (A (49 + 7 * m)))))))) : G X M P kc ks pc lv (.ref (A (49 + 7 * m)) :: .int (iI i) :: .ref (A 2) :: rest) (zWs A n (zStX X A σ S (aQ X 6 f))) := by
  refine g_aast hdg 2 (zWs_at (by omega) zStX_2) (zWs_at (q := 49 + 7 * m) (by omega) (zStX_c (11 + m) (zCL_past hm) rfl).o) (iI_in h0 h1 (by decide)) ?_
  have h : (iI i).toNatClampNeg = i.toNat := by have := iI_idx h0 (show i < 2147483648 by omega); omega
  rw [h, zWs_set, zStX_s]
  exact kk
/-- the names of the cells behind the move -/
def zRn (A : Nat → Nat) : Nat → Nat := fun j => if 49 ≤ j ∧ j < 84 then A (j + 7) else if 84 ≤ j ∧ j < 91 then A (j - 35) else A j
def zRi : Nat → Nat := fun j => if 49 ≤ j ∧ j < 84 then j + 7 else if 84 ≤ j ∧ j < 91 then j - 35 else j
theorem zRn_i {j : Nat} : zRn A j = A (zRi j) := by
  unfold zRn zRi
  split
  · rfl
  · split <;> rfl
theorem zC_mv {q' : Nat} {V : CV} {S' : Nat → va_E} {o : Nat} (hA : ∀ m, m ≤ 6 → A' (q' + m) = A (q + m)) (ho : o ≤ 6) : zC X A' shB q' V S' (q' + o) = zC X A shB q V S (q + o) := by
  cases o with
  | zero =>
    show zC X A' shB q' V S' q' = zC X A shB q V S q
    rw [zC_o, zC_o]
    have h : oFs A' q' V shB.2.1 = oFs A q V shB.2.1 := by
      have h1 := hA 1 (by omega); have h2 := hA 2 (by omega); have h3 := hA 3 (by omega); have h4 := hA 4 (by omega); have h5 := hA 5 (by omega); have h6 := hA 6 (by omega)
      simp [oFs, oF, h1, h2, h3, h4, h5, h6]
    rw [h]
  | succ o =>
    have hl : o < shB.2.2.length := by show o < 6; omega
    rw [zC_a o (List.getElem?_eq_getElem hl), zC_a o (List.getElem?_eq_getElem hl)]
theorem zSt_at {i o : Nat} (hi : zCL[i]? = some (q, sh)) (B : Nat → va_E) (ho : o ≤ sh.2.2.length) : zStX X A σ S e (q + o) = zC X A sh q (σ i) B (q + o) := by
  have h := zStX_c (X := X) (A := A) (S := S) (e := e) (σ := σ) i hi rfl
  have h2 : zStX X A σ S e (q + o) = zC X A sh q (σ i) (zStX X A σ S e) (q + o) := (congrFun h _).symm
  rw [h2]
  cases o with
  | zero => show zC X A sh q (σ i) _ q = zC X A sh q (σ i) B q; rw [zC_o, zC_o]
  | succ o =>
    have hl : o < sh.2.2.length := by omega
    rw [zC_a o (List.getElem?_eq_getElem hl), zC_a o (List.getElem?_eq_getElem hl)]
/-- outside of the past the state is the same -/
theorem zStL_hd : ∀ (L L' : List (Nat × Sh)) (σ τ : CS) (i k : Nat) (B B' : Nat → va_E), (∀ a ∈ L', k < a.1 ∨ a.1 + a.2.2.2.length < k) → (∀ j, i ≤ j → j < i + L.length → σ j = τ j) → B k = B' k → (∀ a ∈ L, oFs A' a.1 = oFs A a.1 ∨ ∀ V, oFs A' a.1 V a.2.2.1 = oFs A a.1 V a.2.2.1) → zStL X A' τ (L ++ L') i B' k = zStL X A σ (L ++ L') i B k := by
  intro L
  induction L with
  | nil =>
    intro L' σ τ i k B B' h1 _ h3 _
    have aux : ∀ (L' : List (Nat × Sh)) (A : Nat → Nat) (σ : CS) (i : Nat) (B : Nat → va_E), (∀ a ∈ L', k < a.1 ∨ a.1 + a.2.2.2.length < k) → zStL X A σ L' i B k = B k := by
      intro L'
      induction L' with
      | nil => intro A σ i B _; rfl
      | cons a L' ih =>
        intro A σ i B h
        show zC X A a.2 a.1 (σ i) _ k = _
        rw [zC_skip (h a List.mem_cons_self)]
        exact ih A σ (i + 1) B (fun b hb => h b (List.mem_cons_of_mem _ hb))
    show zStL X A' τ L' i B' k = zStL X A σ L' i B k
    rw [aux L' A' τ i B' h1, aux L' A σ i B h1, h3]
  | cons a L ih =>
    intro L' σ τ i k B B' h1 h2 h3 h4
    have h5 := ih L' σ τ (i + 1) k B B' h1 (fun j ha hb => h2 j (by omega) (by simp only [List.length_cons]; omega)) h3 (fun b hb => h4 b (List.mem_cons_of_mem _ hb))
    show zC X A' a.2 a.1 (τ i) _ k = zC X A a.2 a.1 (σ i) _ k
    rw [← h2 i (Nat.le_refl _) (by simp only [List.length_cons]; omega)]
    refine (zC_at h5).trans ?_
    have h6 : oFs A' a.1 (σ i) a.2.2.1 = oFs A a.1 (σ i) a.2.2.1 := by
      rcases h4 a List.mem_cons_self with h | h
      · rw [h]
      · exact h _
    rw [zC_rel h6]
    rfl
def zPg (A : Nat → Nat) : Nat → Option Nat := va_up (va_up (va_up (va_up (va_up (va_up (fun k => some (A (49 + 7 * k))) 0 (some (A (49 + 7 * 1)))) 1 (some (A (49 + 7 * 2)))) 2 (some (A (49 + 7 * 3)))) 3 (some (A (49 + 7 * 4)))) 4 (some (A (49 + 7 * 5)))) 5 (some (A (49 + 7 * 0)))
theorem zPg_e : aQ X 6 (zPg A) = zPast X (zRn A) := by
  unfold zPast
  have : zPg A = fun k => some (zRn A (49 + 7 * k)) := by
    funext k
    match k with
    | 0 => rfl
    | 1 => rfl
    | 2 => rfl
    | 3 => rfl
    | 4 => rfl
    | 5 => rfl
    | k + 6 =>
      have h1 : zPg A (k + 6) = some (A (49 + 7 * (k + 6))) := by simp [zPg, va_up]
      rw [h1]
      unfold zRn
      rw [if_neg (by omega), if_neg (by omega)]
  rw [this]
theorem zRot_at {j : Nat} : zSt X (zRn A) (zRot σ) S j = zStX X A σ S (aQ X 6 (zPg A)) (zRi j) := by
  rw [← zStX_0, zPg_e]
  by_cases hj : 49 ≤ j ∧ j < 91
  · obtain ⟨m, o, hm, ho, rfl⟩ : ∃ m o : Nat, m < 6 ∧ o ≤ 6 ∧ j = 49 + 7 * m + o := ⟨(j - 49) / 7, (j - 49) % 7, by omega, by omega, by omega⟩
    rw [zSt_at (zCL_past hm) S (by show o ≤ 6; exact ho)]
    by_cases h5 : m = 5
    · subst h5
      have e1 : zRi (49 + 7 * 5 + o) = 49 + 7 * 0 + o := by unfold zRi; rw [if_neg (by omega), if_pos (by omega)]; omega
      rw [e1, zSt_at (zCL_past (m := 0) (by decide)) S (by show o ≤ 6; exact ho)]
      exact zC_mv (fun p hp => by unfold zRn; rw [if_neg (by omega), if_pos (by omega)]; congr 1; omega) ho
    · have e1 : zRi (49 + 7 * m + o) = 49 + 7 * (m + 1) + o := by unfold zRi; rw [if_pos (by omega)]; omega
      rw [e1, zSt_at (zCL_past (m := m + 1) (by omega)) S (by show o ≤ 6; exact ho)]
      have e2 : zRot σ (11 + m) = σ (11 + (m + 1)) := by unfold zRot; rw [if_pos (by omega)]; rfl
      rw [e2]
      exact zC_mv (fun p hp => by unfold zRn; rw [if_pos (by omega)]; congr 1; omega) ho
  · have e1 : zRi j = j := by unfold zRi; rw [if_neg (by omega), if_neg (by omega)]
    rw [e1]
    refine zStL_hd (zCL.take 11) (zCL.drop 11) σ (zRot σ) 0 j _ _ ?_ ?_ rfl ?_
    · intro a ha
      have h : a = (49, shB) ∨ a = (56, shB) ∨ a = (63, shB) ∨ a = (70, shB) ∨ a = (77, shB) ∨ a = (84, shB) := by simpa [zCL] using ha
      rcases h with h | h | h | h | h | h <;> (subst h; show j < _ ∨ _ + 6 < j; omega)
    · intro j2 _ hj2
      have : j2 < 11 := by simpa [zCL] using hj2
      unfold zRot
      rw [if_neg (by omega), if_neg (by omega)]
    · intro a ha
      right
      intro V
      refine oFs_rel (fun f hf => ?_)
      have hb : (zCL.take 11).all (fun a => a.2.2.1.all (fun f => (!Nat.beq f.1 1 || Nat.blt (a.1 + f.2) 49) && (!Nat.beq f.1 2 || Nat.blt f.2 49))) = true := by decide
      have h1 := List.all_eq_true.mp (List.all_eq_true.mp hb a ha) f hf
      simp only [Bool.and_eq_true, Bool.or_eq_true, Bool.not_eq_true', Nat.blt_eq] at h1
      refine ⟨fun e => ?_, fun e => ?_⟩
      · rcases h1.1 with h2 | h2
        · rw [e] at h2; cases h2
        · unfold zRn; rw [if_neg (by omega), if_neg (by omega)]
      · rcases h1.2 with h2 | h2
        · rw [e] at h2; cases h2
        · unfold zRn; rw [if_neg (by omega), if_neg (by omega)]
theorem g_rot (hn : 91 ≤ n) (kk : G X M P kc ks pc lv rest (zWs (zRn A) n (zSt X (zRn A) (zRot σ) S))) : G X M P kc ks pc lv rest (zWs A n (zStX X A σ S (aQ X 6 (zPg A)))) := by
  have hl : ∀ (A : Nat → Nat) (B : Nat → va_E), (zWs A n B).length = n := fun A B => by unfold zWs; simp
  have hr : ∀ j, j < n → zRi j < n := by intro j h; unfold zRi; split; omega; split <;> omega
  refine g_sub zRi (fun k x hk => ?_) (fun a b ha hb h => ?_) kk
  · have hkn : k < n := by have := (List.getElem?_eq_some_iff.mp hk).1; rw [hl] at this; exact this
    rw [zWs_at (e := zSt X (zRn A) (zRot σ) S k) hkn rfl] at hk
    rw [zWs_at (e := zStX X A σ S (aQ X 6 (zPg A)) (zRi k)) (hr k hkn) rfl, ← hk, zRn_i, zRot_at]
  · unfold zRi at h
    split at h <;> split at h <;> (try split at h) <;> (try split at h) <;> omega
end ZK1
set_option maxHeartbeats 4000000 in
set_option maxRecDepth 100000 in
theorem wX7_keepTail {X : zX} (hX : zOK X) {A A0 : Nat → Nat} {n : Nat} {S : Nat → va_E} {σ : CS} (bn : 91 ≤ n) {p : Int} (h0 : 0 ≤ p) (h1 : p < 6) (hp : (σ 0).1 13 = p) (hA : ∀ k, ¬ (fun k => 1 ≤ k ∧ k < 91) k → A k = A0 k) {res : CS} (h : fX7_keepTail σ p = some res) : G X mX7_keepPast (zPm X 1 0 0 (zRA A0 (fun k => 1 ≤ k ∧ k < 91) (fun A' => (zWs A' n (zSt X A' res S))) (fun A' => .inl none))) 0 0 59 [(0, .ref (A 0))] [] (zWs A n (zSt X A σ S)) := by
  unfold fX7_keepTail at h
  obtain ⟨V, e1, h⟩ := zbi h
  have h := Option.some.inj h
  subst h
  refine g_aload_n (M := mX7_keepPast) dX7_keepPast_59 0 rfl rfl ?_
  refine k_get (M := mX7_keepPast) (v := .ref (A 2)) dX7_keepPast_60 kF_X7_43.r 0 (by omega) (zSt_c 0 rfl rfl).o rfl ?_
  refine g_aload_n (M := mX7_keepPast) dX7_keepPast_63 0 rfl rfl ?_
  refine k_get (M := mX7_keepPast) (v := .int (iI ((σ 0).1 13))) dX7_keepPast_64 kF_X7_105.r 0 (by omega) (zSt_c 0 rfl rfl).o rfl ?_
  refine h_top (M := mX7_keepPast) (b := p) hp ?_
  refine k_past (M := mX7_keepPast) dX7_keepPast_67 (by omega) h0 h1 ?_
  refine g_aload_n (M := mX7_keepPast) dX7_keepPast_68 0 rfl rfl ?_
  refine k_get (M := mX7_keepPast) (v := .ref (A 12)) dX7_keepPast_69 kF_X7_33.r 0 (by omega) (zSt_c 0 rfl rfl).o rfl ?_
  refine g_callVr (M := mX7_keepPast) [.ref (A 12)] hX dX7_keepPast_72 vX0_copyFrom kM_X7_305 (wX0_copyFrom hX (zSt_past h0 h1) (by omega) (zSt_c 4 rfl rfl) (by omega) (by omega) e1) (49 + 7 * p.toNat) (zWs_at (by omega) (zSt_past h0 h1).o) rfl ⟨(Nat.le_of_ble_eq_true rfl), (Nat.le_of_ble_eq_true rfl)⟩ ⟨(Nat.le_of_ble_eq_true rfl), (Nat.le_of_ble_eq_true rfl)⟩ (Nat.le_of_ble_eq_true rfl) ?_
  refine g_ws (M := mX7_keepPast) (congrArg (zWs A n) (zSt_p (11 + p.toNat) (zCL_past (by omega)))) ?_
  refine g_aload_n (M := mX7_keepPast) dX7_keepPast_75 0 rfl rfl ?_
  refine g_dup (M := mX7_keepPast) dX7_keepPast_76 rfl ?_
  refine k_get (M := mX7_keepPast) (v := .int (iI ((zSu σ (11 + p.toNat) V 0).1 13))) dX7_keepPast_77 kF_X7_105.r 0 (by omega) (zSt_c 0 rfl rfl).o rfl ?_
  refine h_iconst (M := mX7_keepPast) dX7_keepPast_80 ?_
  refine h_iadd (M := mX7_keepPast) dX7_keepPast_81 ?_
  refine h_top (M := mX7_keepPast) (b := p + 1) (by rw [zSu_n (by omega), hp]) ?_
  refine g_ws (M := mX7_keepPast) (congrArg (zWs A n) (zSt_c 0 rfl rfl).symm) ?_
  refine c_put (M := mX7_keepPast) (k := 13) dX7_keepPast_82 kF_X7_105 (by omega) rfl rfl (by decide) rfl rfl ?_
  refine g_ws (M := mX7_keepPast) (congrArg (zWs A n) (zSt_p 0 rfl)) ?_
  exact g_vret (M := mX7_keepPast) dX7_keepPast_85 rfl (Nat.le_of_ble_eq_true rfl) (Nat.le_of_ble_eq_true rfl) ⟨_, hA, rfl, rfl⟩
set_option maxHeartbeats 4000000 in
set_option maxRecDepth 100000 in
theorem wX7_keepPast {X : zX} (hX : zOK X) {A : Nat → Nat} {n : Nat} {S : Nat → va_E} {σ : CS} (bn : 91 ≤ n) {res : CS} (h : fX7_keepPast σ = some res) : Con X yX7_keepPast mX7_keepPast 1 0 0 [.ref (A 0)] (zWs A n (zSt X A σ S)) (zRA A (fun k => 1 ≤ k ∧ k < 91) (fun A' => (zWs A' n (zSt X A' res S))) (fun A' => .inl none)) := by
  refine con_of (lv := [(0, .ref (A 0))]) (by decide) rfl (fun h => by cases h) rfl (Nat.le_of_ble_eq_true rfl) rfl ?_
  unfold fX7_keepPast at h
  obtain ⟨g1, h⟩ := zgi h
  refine g_aload_n (M := mX7_keepPast) dX7_keepPast_0 0 rfl rfl ?_
  refine k_get (M := mX7_keepPast) (v := .int (iI ((σ 0).1 13))) dX7_keepPast_1 kF_X7_105.r 0 (by omega) (zSt_c 0 rfl rfl).o rfl ?_
  refine h_bipush (M := mX7_keepPast) dX7_keepPast_4 rfl ?_
  refine h_icmp_ne (M := mX7_keepPast) (tgt := 59) dX7_keepPast_6 (by decide) g1 (by decide) (fun c => ?_) (fun c => ?_)
  · have h := zfi c h
    obtain ⟨g2, h⟩ := zgi h
    exact wX7_keepTail hX bn g2.1 g2.2 rfl (fun _ _ => rfl) h
  · have h := zti c h
    refine g_ws (M := mX7_keepPast) (congrArg (zWs A n) zStX_0.symm) ?_
    refine g_aload_n (M := mX7_keepPast) dX7_keepPast_9 0 rfl rfl ?_
    refine k_get (M := mX7_keepPast) (v := .ref (A 2)) dX7_keepPast_10 kF_X7_43.r 0 (by omega) (zStX_c 0 rfl rfl).o rfl ?_
    refine h_iconst (M := mX7_keepPast) dX7_keepPast_13 ?_
    refine k_pld (M := mX7_keepPast) (f := (fun k => some (A (49 + 7 * k)))) dX7_keepPast_14 (by omega) (by decide) (by decide) rfl ?_
    refine g_astore_n (M := mX7_keepPast) (lv' := [(0, .ref (A 0)), (1, .ref (A (49 + 7 * 0)))]) dX7_keepPast_15 rfl (by decide) rfl ?_
    refine h_iconst (M := mX7_keepPast) dX7_keepPast_16 ?_
    refine g_istore_n (M := mX7_keepPast) (lv' := [(0, .ref (A 0)), (1, .ref (A (49 + 7 * 0))), (2, .int (iI (1)))]) dX7_keepPast_17 rfl (by decide) rfl ?_
    refine g_iload_n (M := mX7_keepPast) dX7_keepPast_18 2 rfl rfl ?_
    refine h_bipush (M := mX7_keepPast) dX7_keepPast_19 rfl ?_
    refine h_icmp_ge (M := mX7_keepPast) (tgt := 44) dX7_keepPast_21 (by decide) (by decide) (by decide) (fun c => absurd c (by decide)) (fun _ => ?_)
    refine g_aload_n (M := mX7_keepPast) dX7_keepPast_24 0 rfl rfl ?_
    refine k_get (M := mX7_keepPast) (v := .ref (A 2)) dX7_keepPast_25 kF_X7_43.r 0 (by omega) (zStX_c 0 rfl rfl).o rfl ?_
    refine g_iload_n (M := mX7_keepPast) dX7_keepPast_28 2 rfl rfl ?_
    refine h_iconst (M := mX7_keepPast) dX7_keepPast_29 ?_
    refine h_isub (M := mX7_keepPast) dX7_keepPast_30 ?_
    refine h_top (M := mX7_keepPast) (b := 0) (by decide) ?_
    refine g_aload_n (M := mX7_keepPast) dX7_keepPast_31 0 rfl rfl ?_
    refine k_get (M := mX7_keepPast) (v := .ref (A 2)) dX7_keepPast_32 kF_X7_43.r 0 (by omega) (zStX_c 0 rfl rfl).o rfl ?_
    refine g_iload_n (M := mX7_keepPast) dX7_keepPast_35 2 rfl rfl ?_
    refine h_top (M := mX7_keepPast) (b := 1) (by decide) ?_
    refine k_pld (M := mX7_keepPast) (f := (fun k => some (A (49 + 7 * k)))) (a := A (49 + 7 * 1)) dX7_keepPast_36 (by omega) (by decide) (by decide) rfl ?_
    refine k_pst (M := mX7_keepPast) (m := 1) dX7_keepPast_37 bn (by decide) (by decide) (by decide) ?_
    refine h_iinc (M := mX7_keepPast) (j := 2) (lv' := [(0, .ref (A 0)), (1, .ref (A (49 + 7 * 0))), (2, .int (iI (1 + 1)))]) dX7_keepPast_38 rfl (Nat.le_of_ble_eq_true rfl) rfl ?_
    refine g_goto (M := mX7_keepPast) (tgt := 18) dX7_keepPast_41 (by decide) ?_
    refine g_iload_n (M := mX7_keepPast) dX7_keepPast_18 2 rfl rfl ?_
    refine h_bipush (M := mX7_keepPast) dX7_keepPast_19 rfl ?_
    refine h_icmp_ge (M := mX7_keepPast) (tgt := 44) dX7_keepPast_21 (by decide) (by decide) (by decide) (fun c => absurd c (by decide)) (fun _ => ?_)
    refine g_aload_n (M := mX7_keepPast) dX7_keepPast_24 0 rfl rfl ?_
    refine k_get (M := mX7_keepPast) (v := .ref (A 2)) dX7_keepPast_25 kF_X7_43.r 0 (by omega) (zStX_c 0 rfl rfl).o rfl ?_
    refine g_iload_n (M := mX7_keepPast) dX7_keepPast_28 2 rfl rfl ?_
    refine h_iconst (M := mX7_keepPast) dX7_keepPast_29 ?_
    refine h_isub (M := mX7_keepPast) dX7_keepPast_30 ?_
    refine h_top (M := mX7_keepPast) (b := 1) (by decide) ?_
    refine g_aload_n (M := mX7_keepPast) dX7_keepPast_31 0 rfl rfl ?_
    refine k_get (M := mX7_keepPast) (v := .ref (A 2)) dX7_keepPast_32 kF_X7_43.r 0 (by omega) (zStX_c 0 rfl rfl).o rfl ?_
    refine g_iload_n (M := mX7_keepPast) dX7_keepPast_35 2 rfl rfl ?_
    refine h_top (M := mX7_keepPast) (b := 2) (by decide) ?_
    refine k_pld (M := mX7_keepPast) (f := (va_up (fun k => some (A (49 + 7 * k))) 0 (some (A (49 + 7 * 1))))) (a := A (49 + 7 * 2)) dX7_keepPast_36 (by omega) (by decide) (by decide) rfl ?_
    refine k_pst (M := mX7_keepPast) (m := 2) dX7_keepPast_37 bn (by decide) (by decide) (by decide) ?_
    refine h_iinc (M := mX7_keepPast) (j := 2) (lv' := [(0, .ref (A 0)), (1, .ref (A (49 + 7 * 0))), (2, .int (iI (1 + 1 + 1)))]) dX7_keepPast_38 rfl (Nat.le_of_ble_eq_true rfl) rfl ?_
    refine g_goto (M := mX7_keepPast) (tgt := 18) dX7_keepPast_41 (by decide) ?_
    refine g_iload_n (M := mX7_keepPast) dX7_keepPast_18 2 rfl rfl ?_
    refine h_bipush (M := mX7_keepPast) dX7_keepPast_19 rfl ?_
    refine h_icmp_ge (M := mX7_keepPast) (tgt := 44) dX7_keepPast_21 (by decide) (by decide) (by decide) (fun c => absurd c (by decide)) (fun _ => ?_)
    refine g_aload_n (M := mX7_keepPast) dX7_keepPast_24 0 rfl rfl ?_
    refine k_get (M := mX7_keepPast) (v := .ref (A 2)) dX7_keepPast_25 kF_X7_43.r 0 (by omega) (zStX_c 0 rfl rfl).o rfl ?_
    refine g_iload_n (M := mX7_keepPast) dX7_keepPast_28 2 rfl rfl ?_
    refine h_iconst (M := mX7_keepPast) dX7_keepPast_29 ?_
    refine h_isub (M := mX7_keepPast) dX7_keepPast_30 ?_
    refine h_top (M := mX7_keepPast) (b := 2) (by decide) ?_
    refine g_aload_n (M := mX7_keepPast) dX7_keepPast_31 0 rfl rfl ?_
    refine k_get (M := mX7_keepPast) (v := .ref (A 2)) dX7_keepPast_32 kF_X7_43.r 0 (by omega) (zStX_c 0 rfl rfl).o rfl ?_
    refine g_iload_n (M := mX7_keepPast) dX7_keepPast_35 2 rfl rfl ?_
    refine h_top (M := mX7_keepPast) (b := 3) (by decide) ?_
    refine k_pld (M := mX7_keepPast) (f := (va_up (va_up (fun k => some (A (49 + 7 * k))) 0 (some (A (49 + 7 * 1)))) 1 (some (A (49 + 7 * 2))))) (a := A (49 + 7 * 3)) dX7_keepPast_36 (by omega) (by decide) (by decide) rfl ?_
    refine k_pst (M := mX7_keepPast) (m := 3) dX7_keepPast_37 bn (by decide) (by decide) (by decide) ?_
    refine h_iinc (M := mX7_keepPast) (j := 2) (lv' := [(0, .ref (A 0)), (1, .ref (A (49 + 7 * 0))), (2, .int (iI (1 + 1 + 1 + 1)))]) dX7_keepPast_38 rfl (Nat.le_of_ble_eq_true rfl) rfl ?_
    refine g_goto (M := mX7_keepPast) (tgt := 18) dX7_keepPast_41 (by decide) ?_
    refine g_iload_n (M := mX7_keepPast) dX7_keepPast_18 2 rfl rfl ?_
    refine h_bipush (M := mX7_keepPast) dX7_keepPast_19 rfl ?_
    refine h_icmp_ge (M := mX7_keepPast) (tgt := 44) dX7_keepPast_21 (by decide) (by decide) (by decide) (fun c => absurd c (by decide)) (fun _ => ?_)
    refine g_aload_n (M := mX7_keepPast) dX7_keepPast_24 0 rfl rfl ?_
    refine k_get (M := mX7_keepPast) (v := .ref (A 2)) dX7_keepPast_25 kF_X7_43.r 0 (by omega) (zStX_c 0 rfl rfl).o rfl ?_
    refine g_iload_n (M := mX7_keepPast) dX7_keepPast_28 2 rfl rfl ?_
    refine h_iconst (M := mX7_keepPast) dX7_keepPast_29 ?_
    refine h_isub (M := mX7_keepPast) dX7_keepPast_30 ?_
    refine h_top (M := mX7_keepPast) (b := 3) (by decide) ?_
    refine g_aload_n (M := mX7_keepPast) dX7_keepPast_31 0 rfl rfl ?_
    refine k_get (M := mX7_keepPast) (v := .ref (A 2)) dX7_keepPast_32 kF_X7_43.r 0 (by omega) (zStX_c 0 rfl rfl).o rfl ?_
    refine g_iload_n (M := mX7_keepPast) dX7_keepPast_35 2 rfl rfl ?_
    refine h_top (M := mX7_keepPast) (b := 4) (by decide) ?_
    refine k_pld (M := mX7_keepPast) (f := (va_up (va_up (va_up (fun k => some (A (49 + 7 * k))) 0 (some (A (49 + 7 * 1)))) 1 (some (A (49 + 7 * 2)))) 2 (some (A (49 + 7 * 3))))) (a := A (49 + 7 * 4)) dX7_keepPast_36 (by omega) (by decide) (by decide) rfl ?_
    refine k_pst (M := mX7_keepPast) (m := 4) dX7_keepPast_37 bn (by decide) (by decide) (by decide) ?_
    refine h_iinc (M := mX7_keepPast) (j := 2) (lv' := [(0, .ref (A 0)), (1, .ref (A (49 + 7 * 0))), (2, .int (iI (1 + 1 + 1 + 1 + 1)))]) dX7_keepPast_38 rfl (Nat.le_of_ble_eq_true rfl) rfl ?_
    refine g_goto (M := mX7_keepPast) (tgt := 18) dX7_keepPast_41 (by decide) ?_
    refine g_iload_n (M := mX7_keepPast) dX7_keepPast_18 2 rfl rfl ?_
    refine h_bipush (M := mX7_keepPast) dX7_keepPast_19 rfl ?_
    refine h_icmp_ge (M := mX7_keepPast) (tgt := 44) dX7_keepPast_21 (by decide) (by decide) (by decide) (fun c => absurd c (by decide)) (fun _ => ?_)
    refine g_aload_n (M := mX7_keepPast) dX7_keepPast_24 0 rfl rfl ?_
    refine k_get (M := mX7_keepPast) (v := .ref (A 2)) dX7_keepPast_25 kF_X7_43.r 0 (by omega) (zStX_c 0 rfl rfl).o rfl ?_
    refine g_iload_n (M := mX7_keepPast) dX7_keepPast_28 2 rfl rfl ?_
    refine h_iconst (M := mX7_keepPast) dX7_keepPast_29 ?_
    refine h_isub (M := mX7_keepPast) dX7_keepPast_30 ?_
    refine h_top (M := mX7_keepPast) (b := 4) (by decide) ?_
    refine g_aload_n (M := mX7_keepPast) dX7_keepPast_31 0 rfl rfl ?_
    refine k_get (M := mX7_keepPast) (v := .ref (A 2)) dX7_keepPast_32 kF_X7_43.r 0 (by omega) (zStX_c 0 rfl rfl).o rfl ?_
    refine g_iload_n (M := mX7_keepPast) dX7_keepPast_35 2 rfl rfl ?_
    refine h_top (M := mX7_keepPast) (b := 5) (by decide) ?_
    refine k_pld (M := mX7_keepPast) (f := (va_up (va_up (va_up (va_up (fun k => some (A (49 + 7 * k))) 0 (some (A (49 + 7 * 1)))) 1 (some (A (49 + 7 * 2)))) 2 (some (A (49 + 7 * 3)))) 3 (some (A (49 + 7 * 4))))) (a := A (49 + 7 * 5)) dX7_keepPast_36 (by omega) (by decide) (by decide) rfl ?_
    refine k_pst (M := mX7_keepPast) (m := 5) dX7_keepPast_37 bn (by decide) (by decide) (by decide) ?_
    refine h_iinc (M := mX7_keepPast) (j := 2) (lv' := [(0, .ref (A 0)), (1, .ref (A (49 + 7 * 0))), (2, .int (iI (1 + 1 + 1 + 1 + 1 + 1)))]) dX7_keepPast_38 rfl (Nat.le_of_ble_eq_true rfl) rfl ?_
    refine g_goto (M := mX7_keepPast) (tgt := 18) dX7_keepPast_41 (by decide) ?_
    refine g_iload_n (M := mX7_keepPast) dX7_keepPast_18 2 rfl rfl ?_
    refine h_bipush (M := mX7_keepPast) dX7_keepPast_19 rfl ?_
    refine h_icmp_ge (M := mX7_keepPast) (tgt := 44) dX7_keepPast_21 (by decide) (by decide) (by decide) (fun _ => ?_) (fun c => absurd c (by decide))
    refine g_aload_n (M := mX7_keepPast) dX7_keepPast_44 0 rfl rfl ?_
    refine h_iconst (M := mX7_keepPast) dX7_keepPast_45 ?_
    refine g_ws (M := mX7_keepPast) (congrArg (zWs A n) (zStX_c 0 rfl rfl).symm) ?_
    refine c_put (M := mX7_keepPast) (k := 13) dX7_keepPast_46 kF_X7_105 (by omega) rfl rfl (by decide) rfl rfl ?_
    refine g_ws (M := mX7_keepPast) (congrArg (zWs A n) (zStX_p 0 rfl)) ?_
    refine g_aload_n (M := mX7_keepPast) dX7_keepPast_49 0 rfl rfl ?_
    refine k_get (M := mX7_keepPast) (v := .ref (A 2)) dX7_keepPast_50 kF_X7_43.r 0 (by omega) (zStX_c 0 rfl rfl).o rfl ?_
    refine g_aload_n (M := mX7_keepPast) dX7_keepPast_53 0 rfl rfl ?_
    refine k_get (M := mX7_keepPast) (v := .int (iI 5)) dX7_keepPast_54 kF_X7_105.r 0 (by omega) (zStX_c 0 rfl rfl).o rfl ?_
    refine g_aload_n (M := mX7_keepPast) dX7_keepPast_57 1 rfl rfl ?_
    refine k_pst (M := mX7_keepPast) (m := 0) dX7_keepPast_58 bn (by decide) (by decide) (by decide) ?_
    refine g_lv (M := mX7_keepPast) [0] rfl ?_
    refine g_rot (M := mX7_keepPast) bn ?_
    exact wX7_keepTail (A := zRn A) (p := 5) hX bn (by decide) (by decide) rfl (fun k hk => by unfold zRn; rw [if_neg (by omega), if_neg (by omega)]) h
