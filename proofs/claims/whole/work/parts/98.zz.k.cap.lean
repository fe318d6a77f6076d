section ZCAP
def zvE (τ σ : CS) : Prop := (τ 8).1 100 = (σ 8).1 100 ∧ (τ 8).1 101 = (σ 8).1 101 ∧ (τ 8).1 102 = (σ 8).1 102
theorem zvE_r {σ : CS} : zvE σ σ := ⟨rfl, rfl, rfl⟩
theorem zvE_t {σ τ ρ : CS} (h : zvE ρ τ) (h2 : zvE τ σ) : zvE ρ σ := ⟨h.1.trans h2.1, h.2.1.trans h2.2.1, h.2.2.trans h2.2.2⟩
theorem zvE_n {σ τ : CS} {i : Nat} {V : CV} (hi : i ≠ 8) (h : zvE τ σ) : zvE (zSu τ i V) σ := by
  unfold zvE at h ⊢
  rw [zSu_n (Ne.symm hi)]
  exact h
def zvcp {α : Type} (σ : CS) (p : α → CS) (o : Option α) : Prop := ∀ t, o = some t → zvE (p t) σ
variable {α β : Type} {σ : CS} {p : α → CS}
theorem zvcp_b {o : Option β} {k : β → Option α} (h : ∀ x, o = some x → zvcp σ p (k x)) : zvcp σ p (o.bind k) := fun t ht => by
  cases e : o with
  | none => rw [e] at ht; cases ht
  | some x => rw [e] at ht; exact h x e t ht
theorem zvcp_c {o : Option β} {q : β → CS} {k : β → Option α} (ho : zvcp σ q o) (h : ∀ x, zvE (q x) σ → zvcp σ p (k x)) : zvcp σ p (o.bind k) := zvcp_b (fun x e => h x (ho x e))
theorem zvcp_g {P : Prop} [Decidable P] {k : Option α} (h : zvcp σ p k) : zvcp σ p (zG P k) := fun t ht => by
  unfold zG at ht
  split at ht
  · exact h t ht
  · cases ht
theorem zvcp_i {P : Prop} [Decidable P] {a b : Option α} (h : zvcp σ p a) (h2 : zvcp σ p b) : zvcp σ p (if P then a else b) := by
  split
  · exact h
  · exact h2
theorem zvcp_s {x : α} (h : zvE (p x) σ) : zvcp σ p (some x) := fun t ht => by cases ht; exact h
theorem zvcp_j {ρ : Type} {k : ρ → Option α} {b : (ρ → Option α) → Option α} (hk : ∀ x, zvcp σ p (k x)) (h : ∀ K : ρ → Option α, (∀ x, zvcp σ p (K x)) → zvcp σ p (b K)) : zvcp σ p (zJn k b) := h k hk
theorem zvcp_t {τ : CS} {o : Option α} (h : zvcp τ p o) (h2 : zvE τ σ) : zvcp σ p o := fun t ht => zvE_t (h t ht) h2
theorem e_keep : zvcp σ id (fX7_keepPast σ) := by
  unfold fX7_keepPast
  refine zvcp_g (zvcp_i ?_ (zvcp_g ?_))
  · unfold fX7_keepTail
    refine zvcp_b (fun V _ => zvcp_s ?_)
    refine zvE_n (by decide) (zvE_n (by decide) ?_)
    have e : zRot (zSu σ 0 (zPu (σ 0) 13 5)) 8 = σ 8 := rfl
    unfold zvE
    rw [e]
    exact ⟨rfl, rfl, rfl⟩
  · unfold fX7_keepTail
    exact zvcp_b (fun V _ => zvcp_s (zvE_n (by decide) (zvE_n (by omega) zvE_r)))
theorem e_forget : zvcp σ id (fX7_forgetSearches σ) := by
  unfold fX7_forgetSearches fX3_forget
  refine zvcp_b (fun x _ => zvcp_b (fun y e => zvcp_s ?_))
  have e2 := Option.some.inj e
  unfold zvE id
  rw [zSu_s, ← e2]
  exact ⟨rfl, rfl, rfl⟩
theorem e_searched : zvcp σ id (fX7_searched σ) := by
  unfold fX7_searched
  exact zvcp_g (zvcp_b (fun x _ => zvcp_s (zvE_n (by decide) zvE_r)))
theorem e_agreement : zvcp σ Prod.fst (fX7_agreement σ) := by
  unfold fX7_agreement
  exact zvcp_b (fun x _ => zvcp_s (zvE_n (by decide) zvE_r))
theorem e_putChanges {a : Int} : zvcp σ id (fX7_putChanges σ a) := by
  unfold fX7_putChanges
  exact zvcp_c e_forget (fun x h => zvcp_s (zvE_n (by decide) h))
theorem e_replaceBoard {V : CV} : zvcp σ id (fX7_replaceBoard σ V) := by
  unfold fX7_replaceBoard
  exact zvcp_b (fun x _ => zvcp_c (q := id) (zvcp_t e_forget (zvE_n (by decide) zvE_r)) (fun y h => zvcp_s h))
theorem e_putOut {a b : Int} : zvcp σ id (fX7_putOut σ a b) := by
  unfold fX7_putOut
  refine zvcp_c e_forget (fun x h => zvcp_g (zvcp_i (zvcp_g (zvcp_g ?_)) ?_))
  · exact zvcp_s (zvE_n (by decide) (zvE_n (by decide) h))
  · repeat (first | refine zvcp_g ?_ | exact zvcp_s (zvE_n (by decide) (zvE_n (by decide) h)) | exact zvcp_s (zvE_n (by decide) h) | refine zvcp_i ?_ ?_)
end ZCAP
