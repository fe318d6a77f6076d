section ZCAQ
def zq0 {α : Type} : CS → α → Prop := fun _ _ => True
def zqc : CS → CS → Prop := fun σ τ => zvE τ σ
def zqp {α β : Type} (q1 : CS → α → Prop) (q2 : CS → β → Prop) : CS → α × β → Prop := fun σ x => q1 σ x.1 ∧ q2 σ x.2
def zqs {α β : Type} (q1 : CS → α → Prop) (q2 : CS → β → Prop) : CS → α ⊕ β → Prop := fun σ x => (∀ a, x = .inl a → q1 σ a) ∧ (∀ b, x = .inr b → q2 σ b)
def zqv {α : Type} (σ : CS) (q : CS → α → Prop) (o : Option α) : Prop := ∀ t, o = some t → q σ t
def zqK {ρ α : Type} (σ : CS) (qj : CS → ρ → Prop) (q : CS → α → Prop) (K : ρ → Option α) : Prop := ∀ x, qj σ x → zqv σ q (K x)
variable {α β γ ρ : Type} {σ τ : CS} {q : CS → α → Prop}
theorem zqK_a {qj : CS → ρ → Prop} {K : ρ → Option α} {x : ρ} (h : zqK σ qj q K) (hx : qj σ x) : zqv σ q (K x) := h x hx
theorem zq0_m {x : α} : zq0 σ x := trivial
theorem zqc_r : zqc σ σ := zvE_r
theorem zqc_n {i : Nat} {V : CV} (hi : i ≠ 8) (h : zqc σ τ) : zqc σ (zSu τ i V) := zvE_n hi h
theorem zqp_m {q1 : CS → β → Prop} {q2 : CS → γ → Prop} {a : β} {b : γ} (h : q1 σ a) (h2 : q2 σ b) : zqp q1 q2 σ (a, b) := ⟨h, h2⟩
theorem zqp_3 {q1 : CS → β → Prop} {q2 : CS → γ → Prop} {x : β × γ} (h : q1 σ x.1) (h2 : q2 σ x.2) : zqp q1 q2 σ x := ⟨h, h2⟩
theorem zqp_1 {q1 : CS → β → Prop} {q2 : CS → γ → Prop} {x : β × γ} (h : zqp q1 q2 σ x) : q1 σ x.1 := h.1
theorem zqp_2 {q1 : CS → β → Prop} {q2 : CS → γ → Prop} {x : β × γ} (h : zqp q1 q2 σ x) : q2 σ x.2 := h.2
theorem zqs_l {q1 : CS → β → Prop} {q2 : CS → γ → Prop} {a : β} (h : q1 σ a) : zqs q1 q2 σ (.inl a) := ⟨fun _ e => (by cases e; exact h), fun _ e => (by cases e)⟩
theorem zqs_r {q1 : CS → β → Prop} {q2 : CS → γ → Prop} {b : γ} (h : q2 σ b) : zqs q1 q2 σ (.inr b) := ⟨fun _ e => (by cases e), fun _ e => (by cases e; exact h)⟩
theorem zqv_c {q1 : CS → β → Prop} {o : Option β} {k : β → Option α} (ho : zqv σ q1 o) (h : ∀ x, q1 σ x → zqv σ q (k x)) : zqv σ q (o.bind k) := fun t ht => by
  cases e : o with
  | none => rw [e] at ht; cases ht
  | some x => rw [e] at ht; exact h x (ho x e) t ht
theorem zqv_b {o : Option β} {k : β → Option α} (h : ∀ x, zqv σ q (k x)) : zqv σ q (o.bind k) := zqv_c (q1 := zq0) (fun _ _ => trivial) (fun x _ => h x)
theorem zqv_ce {q1 : CS → β → Prop} {q2 : CS → γ → Prop} {o : Option (β ⊕ γ)} {f : β → Option α} {g : γ → Option α} (ho : zqv σ (zqs q1 q2) o) (h : ∀ x, q1 σ x → zqv σ q (f x)) (h2 : ∀ x, q2 σ x → zqv σ q (g x)) : zqv σ q (o.bind (Sum.elim f g)) := zqv_c ho (fun x hx => by
  cases x with
  | inl x => exact h x (hx.1 x rfl)
  | inr x => exact h2 x (hx.2 x rfl))
theorem zqv_e {s : β ⊕ γ} {f : β → Option α} {g : γ → Option α} (h : ∀ x, zqv σ q (f x)) (h2 : ∀ x, zqv σ q (g x)) : zqv σ q (Sum.elim f g s) := by
  cases s with
  | inl x => exact h x
  | inr x => exact h2 x
theorem zqv_g {P : Prop} [Decidable P] {k : Option α} (h : zqv σ q k) : zqv σ q (zG P k) := fun t ht => by
  unfold zG at ht
  split at ht
  · exact h t ht
  · cases ht
theorem zqv_gc {P : Prop} {k : Option α} (h : zqv σ q k) : zqv σ q (zGc P k) := fun t ht => by
  unfold zGc at ht
  split at ht
  · exact h t ht
  · cases ht
theorem zqv_f {p : α → Prop} [DecidablePred p] {k : Option α} (h : zqv σ q k) : zqv σ q (zFt p k) := fun t ht => h t (zFi ht).2
theorem zqv_i {P : Prop} [Decidable P] {a b : Option α} (h : zqv σ q a) (h2 : zqv σ q b) : zqv σ q (if P then a else b) := by
  split
  · exact h
  · exact h2
theorem zqv_s {x : α} (h : q σ x) : zqv σ q (some x) := fun t ht => by cases ht; exact h
theorem zqv_j {qj : CS → ρ → Prop} {k : ρ → Option α} {b : (ρ → Option α) → Option α} (hk : ∀ x, qj σ x → zqv σ q (k x)) (h : ∀ K : ρ → Option α, zqK σ qj q K → zqv σ q (b K)) : zqv σ q (zJn k b) := h k hk
theorem zqv_L {qs : CS → β → Prop} {qr : CS → γ → Prop} {F : β → Option (β ⊕ γ)} {n : Nat} {s : β} (hF : ∀ s, qs σ s → zqv σ (zqs qs qr) (F s)) (h : qs σ s) : zqv σ qr (zLp F n s) := by
  induction n generalizing s with
  | zero => intro t ht; cases ht
  | succ n ih =>
    intro t ht
    unfold zLp at ht
    cases e : F s with
    | none => rw [e] at ht; cases ht
    | some w =>
      have hw := hF s h w e
      rw [e] at ht
      cases w with
      | inl u => exact ih (hw.1 u rfl) t ht
      | inr u => cases ht; exact hw.2 _ rfl
theorem zqv_tc {o : Option CS} (h : zqv τ zqc o) (h2 : zqc σ τ) : zqv σ zqc o := fun t ht => zvE_t (h t ht) h2
theorem zqv_tp {o : Option (CS × β)} (h : zqv τ (zqp zqc zq0) o) (h2 : zqc σ τ) : zqv σ (zqp zqc zq0) o := fun t ht => ⟨zvE_t (h t ht).1 h2, trivial⟩
theorem q_keep : zqv σ zqc (fX7_keepPast σ) := e_keep
theorem q_forget : zqv σ zqc (fX7_forgetSearches σ) := e_forget
theorem q_searched : zqv σ zqc (fX7_searched σ) := e_searched
theorem q_putChanges {a : Int} : zqv σ zqc (fX7_putChanges σ a) := e_putChanges
theorem q_replaceBoard {V : CV} : zqv σ zqc (fX7_replaceBoard σ V) := e_replaceBoard
theorem q_putOut {a b : Int} : zqv σ zqc (fX7_putOut σ a b) := e_putOut
set_option maxRecDepth 20000 in
theorem q_agreement : zqv σ (zqp zqc zq0) (fX7_agreement σ ) := by
  unfold fX7_agreement
  with_reducible repeat (first | refine zqv_g ?_ | refine zqv_gc ?_ | refine zqv_i ?_ ?_ | refine zqv_f ?_ | refine zqv_e (fun _ => ?_) (fun _ => ?_) | refine zqv_s ?_ | refine zqv_b (fun _ => ?_) | assumption | exact zq0_m | exact zqc_r | refine zqp_m ?_ ?_ | refine zqs_l ?_ | refine zqs_r ?_ | refine zqc_n (by decide) ?_ | refine zqp_3 ?_ ?_ | apply zqp_2 | apply zqp_1)
set_option maxRecDepth 20000 in
theorem q_agreementFrom {a0 : Int} {a1 : Int} : zqv σ (zqp zqc zq0) (fX7_agreementFrom σ a0 a1) := by
  unfold fX7_agreementFrom
  with_reducible repeat (first | refine zqv_g ?_ | refine zqv_gc ?_ | refine zqv_i ?_ ?_ | refine zqv_f ?_ | refine zqv_c (q1 := (zqp zq0 zqc)) (zqv_L (qs := (zqp zq0 zqc)) (fun _ _ => ?_) ?_) (fun _ _ => ?_) | refine zqv_e (fun _ => ?_) (fun _ => ?_) | refine zqv_s ?_ | refine zqv_b (fun _ => ?_) | assumption | exact zq0_m | exact zqc_r | refine zqp_m ?_ ?_ | refine zqs_l ?_ | refine zqs_r ?_ | refine zqc_n (by decide) ?_ | refine zqp_3 ?_ ?_ | apply zqp_2 | apply zqp_1)
set_option maxRecDepth 20000 in
theorem q_writeByte {a0 : Int} : zqv σ zqc (fX7_writeByte σ a0) := by
  unfold fX7_writeByte
  with_reducible repeat (first | refine zqv_g ?_ | refine zqv_gc ?_ | refine zqv_i ?_ ?_ | refine zqv_f ?_ | refine zqv_e (fun _ => ?_) (fun _ => ?_) | refine zqv_s ?_ | refine zqv_b (fun _ => ?_) | assumption | exact zq0_m | exact zqc_r | refine zqp_m ?_ ?_ | refine zqs_l ?_ | refine zqs_r ?_ | refine zqc_n (by decide) ?_ | refine zqp_3 ?_ ?_ | apply zqp_2 | apply zqp_1)
set_option maxRecDepth 20000 in
theorem q_writeName {a0 : Int} : zqv σ zqc (fX7_writeName σ a0) := by
  unfold fX7_writeName
  with_reducible repeat (first | refine zqv_g ?_ | refine zqv_gc ?_ | refine zqv_i ?_ ?_ | refine zqv_f ?_ | refine zqv_c (q1 := zqc) (zqv_tc q_writeByte ?_) (fun _ _ => ?_) | refine zqv_c (q1 := (zqp zq0 zqc)) (zqv_L (qs := (zqp zq0 zqc)) (fun _ _ => ?_) ?_) (fun _ _ => ?_) | refine zqv_e (fun _ => ?_) (fun _ => ?_) | refine zqv_s ?_ | refine zqv_b (fun _ => ?_) | assumption | exact zq0_m | exact zqc_r | refine zqp_m ?_ ?_ | refine zqs_l ?_ | refine zqs_r ?_ | refine zqc_n (by decide) ?_ | refine zqp_3 ?_ ?_ | apply zqp_2 | apply zqp_1)
set_option maxRecDepth 20000 in
theorem q_runBetter {a0 : Int} : zqv σ (zqp zqc zq0) (fX7_runBetter σ a0) := by
  unfold fX7_runBetter
  with_reducible repeat (first | refine zqv_g ?_ | refine zqv_gc ?_ | refine zqv_i ?_ ?_ | refine zqv_f ?_ | refine zqv_j (qj := zq0) (fun _ _ => ?_) (fun _ _ => ?_) | refine zqK_a (by assumption) ?_ | refine zqv_e (fun _ => ?_) (fun _ => ?_) | refine zqv_s ?_ | refine zqv_b (fun _ => ?_) | assumption | exact zq0_m | exact zqc_r | refine zqp_m ?_ ?_ | refine zqs_l ?_ | refine zqs_r ?_ | refine zqc_n (by decide) ?_ | refine zqp_3 ?_ ?_ | apply zqp_2 | apply zqp_1)
set_option maxRecDepth 20000 in
theorem q_runChanges {a0 : Int} : zqv σ (zqp zqc zq0) (fX7_runChanges σ a0) := by
  unfold fX7_runChanges
  with_reducible repeat (first | refine zqv_g ?_ | refine zqv_gc ?_ | refine zqv_i ?_ ?_ | refine zqv_f ?_ | refine zqv_c (q1 := zqc) (zqv_tc q_putChanges ?_) (fun _ _ => ?_) | refine zqv_e (fun _ => ?_) (fun _ => ?_) | refine zqv_s ?_ | refine zqv_b (fun _ => ?_) | assumption | exact zq0_m | exact zqc_r | refine zqp_m ?_ ?_ | refine zqs_l ?_ | refine zqs_r ?_ | refine zqc_n (by decide) ?_ | refine zqp_3 ?_ ?_ | apply zqp_2 | apply zqp_1)
set_option maxRecDepth 20000 in
theorem q_runChoose {a0 : Int} {a1 : Int} : zqv σ (zqp zqc zq0) (fX7_runChoose σ a0 a1) := by
  unfold fX7_runChoose
  with_reducible repeat (first | refine zqv_g ?_ | refine zqv_gc ?_ | refine zqv_i ?_ ?_ | refine zqv_f ?_ | refine zqv_e (fun _ => ?_) (fun _ => ?_) | refine zqv_s ?_ | refine zqv_b (fun _ => ?_) | assumption | exact zq0_m | exact zqc_r | refine zqp_m ?_ ?_ | refine zqs_l ?_ | refine zqs_r ?_ | refine zqc_n (by decide) ?_ | refine zqp_3 ?_ ?_ | apply zqp_2 | apply zqp_1)
set_option maxRecDepth 20000 in
theorem q_runClear {a0 : Int} : zqv σ (zqp zqc zq0) (fX7_runClear σ a0) := by
  unfold fX7_runClear
  with_reducible repeat (first | refine zqv_g ?_ | refine zqv_gc ?_ | refine zqv_i ?_ ?_ | refine zqv_f ?_ | refine zqv_e (fun _ => ?_) (fun _ => ?_) | refine zqv_s ?_ | refine zqv_b (fun _ => ?_) | assumption | exact zq0_m | exact zqc_r | refine zqp_m ?_ ?_ | refine zqs_l ?_ | refine zqs_r ?_ | refine zqc_n (by decide) ?_ | refine zqp_3 ?_ ?_ | apply zqp_2 | apply zqp_1)
set_option maxRecDepth 20000 in
theorem q_runOut {a0 : Int} {a1 : Int} : zqv σ (zqp zqc zq0) (fX7_runOut σ a0 a1) := by
  unfold fX7_runOut
  with_reducible repeat (first | refine zqv_g ?_ | refine zqv_gc ?_ | refine zqv_i ?_ ?_ | refine zqv_f ?_ | refine zqv_c (q1 := zqc) (zqv_tc q_putOut ?_) (fun _ _ => ?_) | refine zqv_j (qj := zq0) (fun _ _ => ?_) (fun _ _ => ?_) | refine zqK_a (by assumption) ?_ | refine zqv_e (fun _ => ?_) (fun _ => ?_) | refine zqv_s ?_ | refine zqv_b (fun _ => ?_) | assumption | exact zq0_m | exact zqc_r | refine zqp_m ?_ ?_ | refine zqs_l ?_ | refine zqs_r ?_ | refine zqc_n (by decide) ?_ | refine zqp_3 ?_ ?_ | apply zqp_2 | apply zqp_1)
set_option maxRecDepth 20000 in
theorem q_runCommand {a0 : Int} : zqv σ (zqp zqc zq0) (fX7_runCommand σ a0) := by
  unfold fX7_runCommand
  with_reducible repeat (first | refine zqv_g ?_ | refine zqv_gc ?_ | refine zqv_i ?_ ?_ | refine zqv_f ?_ | refine zqv_c (q1 := zqc) (zqv_tc q_forget ?_) (fun _ _ => ?_) | refine zqv_c (q1 := zqp zqc zq0) (zqv_tp q_runBetter ?_) (fun _ _ => ?_) | refine zqv_c (q1 := zqp zqc zq0) (zqv_tp q_runChanges ?_) (fun _ _ => ?_) | refine zqv_c (q1 := zqp zqc zq0) (zqv_tp q_runChoose ?_) (fun _ _ => ?_) | refine zqv_c (q1 := zqp zqc zq0) (zqv_tp q_runClear ?_) (fun _ _ => ?_) | refine zqv_c (q1 := zqp zqc zq0) (zqv_tp q_runOut ?_) (fun _ _ => ?_) | refine zqv_e (fun _ => ?_) (fun _ => ?_) | refine zqv_s ?_ | refine zqv_b (fun _ => ?_) | assumption | exact zq0_m | exact zqc_r | refine zqp_m ?_ ?_ | refine zqs_l ?_ | refine zqs_r ?_ | refine zqc_n (by decide) ?_ | refine zqp_3 ?_ ?_ | apply zqp_2 | apply zqp_1)
set_option maxRecDepth 20000 in
theorem q_runCommands : ∀ (d : Nat) (σ : CS) (a1 a2 a3 : Int), zqv σ (zqp zqc zq0) (fX7_runCommands d σ a1 a2 a3) := by
  intro d
  induction d with
  | zero => intro σ a1 a2 a3 t ht; cases ht
  | succ d ih =>
    intro σ a1 a2 a3
    unfold fX7_runCommands
    with_reducible repeat (first | refine zqv_c (q1 := zqp zqc zq0) (zqv_tp (ih _ _ _ _) ?_) (fun _ _ => ?_) | refine zqv_g ?_ | refine zqv_gc ?_ | refine zqv_i ?_ ?_ | refine zqv_f ?_ | refine zqv_c (q1 := zqp zqc zq0) (zqv_tp q_runCommand ?_) (fun _ _ => ?_) | refine zqv_ce (q1 := (zqp zq0 (zqp zq0 zqc))) (q2 := (zqp zqc zq0)) (zqv_L (qs := (zqp zq0 (zqp zq0 zqc))) (fun _ _ => ?_) ?_) (fun _ _ => ?_) (fun _ _ => ?_) | refine zqv_ce (q1 := (zqp zq0 zqc)) (q2 := (zqs (zqp zq0 (zqp zq0 zqc)) (zqs (zqp zq0 (zqp zq0 zqc)) (zqp zqc zq0)))) (zqv_L (qs := (zqp zq0 zqc)) (fun _ _ => ?_) ?_) (fun _ _ => ?_) (fun _ _ => ?_) | refine zqv_j (qj := zqc) (fun _ _ => ?_) (fun _ _ => ?_) | refine zqv_j (qj := zq0) (fun _ _ => ?_) (fun _ _ => ?_) | refine zqK_a (by assumption) ?_ | refine zqv_e (fun _ => ?_) (fun _ => ?_) | refine zqv_s ?_ | refine zqv_b (fun _ => ?_) | assumption | exact zq0_m | exact zqc_r | refine zqp_m ?_ ?_ | refine zqs_l ?_ | refine zqs_r ?_ | refine zqc_n (by decide) ?_ | refine zqp_3 ?_ ?_ | apply zqp_2 | apply zqp_1)
set_option maxRecDepth 20000 in
theorem kq_runScript : zqv σ (zqp zqc zq0) (fX7_runScript σ) := by
  unfold fX7_runScript
  with_reducible repeat (first | refine zqv_c (q1 := zqp zqc zq0) (zqv_tp (q_runCommands _ _ _ _ _) ?_) (fun _ _ => ?_) | refine zqv_g ?_ | refine zqv_gc ?_ | refine zqv_i ?_ ?_ | refine zqv_f ?_ | refine zqv_c (q1 := zqc) (zqv_tc q_keep ?_) (fun _ _ => ?_) | refine zqv_e (fun _ => ?_) (fun _ => ?_) | refine zqv_s ?_ | refine zqv_b (fun _ => ?_) | assumption | exact zq0_m | exact zqc_r | refine zqp_m ?_ ?_ | refine zqs_l ?_ | refine zqs_r ?_ | refine zqc_n (by decide) ?_ | refine zqp_3 ?_ ?_ | apply zqp_2 | apply zqp_1)
set_option maxRecDepth 20000 in
theorem kq_feed {a0 : Int} {a1 : Int} {a2 : Int} {a3 : Int} {a4 : Int} : zqv σ (zqp zqc zq0) (fX7_feed σ a0 a1 a2 a3 a4) := by
  unfold fX7_feed
  with_reducible repeat (first | refine zqv_g ?_ | refine zqv_gc ?_ | refine zqv_i ?_ ?_ | refine zqv_f ?_ | refine zqv_e (fun _ => ?_) (fun _ => ?_) | refine zqv_s ?_ | refine zqv_b (fun _ => ?_) | assumption | exact zq0_m | exact zqc_r | refine zqp_m ?_ ?_ | refine zqs_l ?_ | refine zqs_r ?_ | refine zqc_n (by decide) ?_ | refine zqp_3 ?_ ?_ | apply zqp_2 | apply zqp_1)
set_option maxRecDepth 20000 in
theorem kq_truncate {a0 : Int} : zqv σ (zqp zqc zq0) (fX7_truncate σ a0) := by
  unfold fX7_truncate
  with_reducible repeat (first | refine zqv_g ?_ | refine zqv_gc ?_ | refine zqv_i ?_ ?_ | refine zqv_f ?_ | refine zqv_j (qj := zq0) (fun _ _ => ?_) (fun _ _ => ?_) | refine zqK_a (by assumption) ?_ | refine zqv_e (fun _ => ?_) (fun _ => ?_) | refine zqv_s ?_ | refine zqv_b (fun _ => ?_) | assumption | exact zq0_m | exact zqc_r | refine zqp_m ?_ ?_ | refine zqs_l ?_ | refine zqs_r ?_ | refine zqc_n (by decide) ?_ | refine zqp_3 ?_ ?_ | apply zqp_2 | apply zqp_1)
set_option maxRecDepth 20000 in
theorem kq_readText : zqv σ (zqp zqc zq0) (fX7_readText σ ) := by
  unfold fX7_readText
  with_reducible repeat (first | refine zqv_g ?_ | refine zqv_gc ?_ | refine zqv_i ?_ ?_ | refine zqv_f ?_ | refine zqv_c (q1 := zqc) (zqv_tc q_replaceBoard ?_) (fun _ _ => ?_) | refine zqv_e (fun _ => ?_) (fun _ => ?_) | refine zqv_s ?_ | refine zqv_b (fun _ => ?_) | assumption | exact zq0_m | exact zqc_r | refine zqp_m ?_ ?_ | refine zqs_l ?_ | refine zqs_r ?_ | refine zqc_n (by decide) ?_ | refine zqp_3 ?_ ?_ | apply zqp_2 | apply zqp_1)
set_option maxRecDepth 20000 in
theorem kq_shared {a0 : Int} {a1 : Int} : zqv σ (zqp zqc zq0) (fX7_shared σ a0 a1) := by
  unfold fX7_shared
  with_reducible repeat (first | refine zqv_g ?_ | refine zqv_gc ?_ | refine zqv_i ?_ ?_ | refine zqv_f ?_ | refine zqv_e (fun _ => ?_) (fun _ => ?_) | refine zqv_s ?_ | refine zqv_b (fun _ => ?_) | assumption | exact zq0_m | exact zqc_r | refine zqp_m ?_ ?_ | refine zqs_l ?_ | refine zqs_r ?_ | refine zqc_n (by decide) ?_ | refine zqp_3 ?_ ?_ | apply zqp_2 | apply zqp_1)
set_option maxRecDepth 20000 in
theorem kq_sharedAt {a0 : Int} {a1 : Int} {a2 : Int} : zqv σ (zqp zqc zq0) (fX7_sharedAt σ a0 a1 a2) := by
  unfold fX7_sharedAt
  with_reducible repeat (first | refine zqv_g ?_ | refine zqv_gc ?_ | refine zqv_i ?_ ?_ | refine zqv_f ?_ | refine zqv_e (fun _ => ?_) (fun _ => ?_) | refine zqv_s ?_ | refine zqv_b (fun _ => ?_) | assumption | exact zq0_m | exact zqc_r | refine zqp_m ?_ ?_ | refine zqs_l ?_ | refine zqs_r ?_ | refine zqc_n (by decide) ?_ | refine zqp_3 ?_ ?_ | apply zqp_2 | apply zqp_1)
set_option maxRecDepth 20000 in
theorem kq_timesOf {a0 : Int} : zqv σ (zqp zqc zq0) (fX7_timesOf σ a0) := by
  unfold fX7_timesOf
  with_reducible repeat (first | refine zqv_g ?_ | refine zqv_gc ?_ | refine zqv_i ?_ ?_ | refine zqv_f ?_ | refine zqv_e (fun _ => ?_) (fun _ => ?_) | refine zqv_s ?_ | refine zqv_b (fun _ => ?_) | assumption | exact zq0_m | exact zqc_r | refine zqp_m ?_ ?_ | refine zqs_l ?_ | refine zqs_r ?_ | refine zqc_n (by decide) ?_ | refine zqp_3 ?_ ?_ | apply zqp_2 | apply zqp_1)
set_option maxRecDepth 20000 in
theorem kq_best {a0 : Int} : zqv σ (zqp zqc zq0) (fX7_best σ a0) := by
  unfold fX7_best
  with_reducible repeat (first | refine zqv_g ?_ | refine zqv_gc ?_ | refine zqv_i ?_ ?_ | refine zqv_f ?_ | refine zqv_c (q1 := zqc) (zqv_tc q_searched ?_) (fun _ _ => ?_) | refine zqv_e (fun _ => ?_) (fun _ => ?_) | refine zqv_s ?_ | refine zqv_b (fun _ => ?_) | assumption | exact zq0_m | exact zqc_r | refine zqp_m ?_ ?_ | refine zqs_l ?_ | refine zqs_r ?_ | refine zqc_n (by decide) ?_ | refine zqp_3 ?_ ?_ | apply zqp_2 | apply zqp_1)
set_option maxRecDepth 20000 in
theorem kq_mostHad {a0 : Int} : zqv σ (zqp zqc zq0) (fX7_mostHad σ a0) := by
  unfold fX7_mostHad
  with_reducible repeat (first | refine zqv_g ?_ | refine zqv_gc ?_ | refine zqv_i ?_ ?_ | refine zqv_f ?_ | refine zqv_c (q1 := zqc) (zqv_tc q_searched ?_) (fun _ _ => ?_) | refine zqv_j (qj := zq0) (fun _ _ => ?_) (fun _ _ => ?_) | refine zqK_a (by assumption) ?_ | refine zqv_e (fun _ => ?_) (fun _ => ?_) | refine zqv_s ?_ | refine zqv_b (fun _ => ?_) | assumption | exact zq0_m | exact zqc_r | refine zqp_m ?_ ?_ | refine zqs_l ?_ | refine zqs_r ?_ | refine zqc_n (by decide) ?_ | refine zqp_3 ?_ ?_ | apply zqp_2 | apply zqp_1)
set_option maxRecDepth 20000 in
theorem kq_scoreWithout {a0 : Int} : zqv σ (zqp zqc zq0) (fX7_scoreWithout σ a0) := by
  unfold fX7_scoreWithout
  with_reducible repeat (first | refine zqv_g ?_ | refine zqv_gc ?_ | refine zqv_i ?_ ?_ | refine zqv_f ?_ | refine zqv_c (q1 := zqc) (zqv_tc q_searched ?_) (fun _ _ => ?_) | refine zqv_e (fun _ => ?_) (fun _ => ?_) | refine zqv_s ?_ | refine zqv_b (fun _ => ?_) | assumption | exact zq0_m | exact zqc_r | refine zqp_m ?_ ?_ | refine zqs_l ?_ | refine zqs_r ?_ | refine zqc_n (by decide) ?_ | refine zqp_3 ?_ ?_ | apply zqp_2 | apply zqp_1)
set_option maxRecDepth 20000 in
theorem kq_rankOf {a0 : Int} : zqv σ (zqp zqc zq0) (fX7_rankOf σ a0) := by
  unfold fX7_rankOf
  with_reducible repeat (first | refine zqv_g ?_ | refine zqv_gc ?_ | refine zqv_i ?_ ?_ | refine zqv_f ?_ | refine zqv_c (q1 := zqc) (zqv_tc q_searched ?_) (fun _ _ => ?_) | refine zqv_e (fun _ => ?_) (fun _ => ?_) | refine zqv_s ?_ | refine zqv_b (fun _ => ?_) | assumption | exact zq0_m | exact zqc_r | refine zqp_m ?_ ?_ | refine zqs_l ?_ | refine zqs_r ?_ | refine zqc_n (by decide) ?_ | refine zqp_3 ?_ ?_ | apply zqp_2 | apply zqp_1)
set_option maxRecDepth 20000 in
theorem kq_count {a0 : Int} {a1 : Int} : zqv σ (zqp zqc zq0) (fX7_count σ a0 a1) := by
  unfold fX7_count
  with_reducible repeat (first | refine zqv_g ?_ | refine zqv_gc ?_ | refine zqv_i ?_ ?_ | refine zqv_f ?_ | refine zqv_j (qj := zq0) (fun _ _ => ?_) (fun _ _ => ?_) | refine zqK_a (by assumption) ?_ | refine zqv_e (fun _ => ?_) (fun _ => ?_) | refine zqv_s ?_ | refine zqv_b (fun _ => ?_) | assumption | exact zq0_m | exact zqc_r | refine zqp_m ?_ ?_ | refine zqs_l ?_ | refine zqs_r ?_ | refine zqc_n (by decide) ?_ | refine zqp_3 ?_ ?_ | apply zqp_2 | apply zqp_1)
set_option maxRecDepth 20000 in
theorem kq_weight {a0 : Int} {a1 : Int} : zqv σ (zqp zqc zq0) (fX7_weight σ a0 a1) := by
  unfold fX7_weight
  with_reducible repeat (first | refine zqv_g ?_ | refine zqv_gc ?_ | refine zqv_i ?_ ?_ | refine zqv_f ?_ | refine zqv_e (fun _ => ?_) (fun _ => ?_) | refine zqv_s ?_ | refine zqv_b (fun _ => ?_) | assumption | exact zq0_m | exact zqc_r | refine zqp_m ?_ ?_ | refine zqs_l ?_ | refine zqs_r ?_ | refine zqc_n (by decide) ?_ | refine zqp_3 ?_ ?_ | apply zqp_2 | apply zqp_1)
set_option maxRecDepth 20000 in
theorem kq_tryFrom {a0 : Int} {a1 : Int} : zqv σ (zqp zqc zq0) (fX7_tryFrom σ a0 a1) := by
  unfold fX7_tryFrom
  with_reducible repeat (first | refine zqv_g ?_ | refine zqv_gc ?_ | refine zqv_i ?_ ?_ | refine zqv_f ?_ | refine zqv_c (q1 := zqp zqc zq0) (zqv_tp q_agreementFrom ?_) (fun _ _ => ?_) | refine zqv_e (fun _ => ?_) (fun _ => ?_) | refine zqv_s ?_ | refine zqv_b (fun _ => ?_) | assumption | exact zq0_m | exact zqc_r | refine zqp_m ?_ ?_ | refine zqs_l ?_ | refine zqs_r ?_ | refine zqc_n (by decide) ?_ | refine zqp_3 ?_ ?_ | apply zqp_2 | apply zqp_1)
set_option maxRecDepth 20000 in
theorem kq_bestStart {a0 : Int} : zqv σ (zqp zqc zq0) (fX7_bestStart σ a0) := by
  unfold fX7_bestStart
  with_reducible repeat (first | refine zqv_g ?_ | refine zqv_gc ?_ | refine zqv_i ?_ ?_ | refine zqv_f ?_ | refine zqv_c (q1 := zqp zqc zq0) (zqv_tp q_agreementFrom ?_) (fun _ _ => ?_) | refine zqv_c (q1 := (zqp zq0 (zqp zq0 (zqp zq0 zqc)))) (zqv_L (qs := (zqp zq0 (zqp zq0 (zqp zq0 zqc)))) (fun _ _ => ?_) ?_) (fun _ _ => ?_) | refine zqv_e (fun _ => ?_) (fun _ => ?_) | refine zqv_s ?_ | refine zqv_b (fun _ => ?_) | assumption | exact zq0_m | exact zqc_r | refine zqp_m ?_ ?_ | refine zqs_l ?_ | refine zqs_r ?_ | refine zqc_n (by decide) ?_ | refine zqp_3 ?_ ?_ | apply zqp_2 | apply zqp_1)
set_option maxRecDepth 20000 in
theorem kq_improvesToEnd {a0 : Int} : zqv σ (zqp zqc zq0) (fX7_improvesToEnd σ a0) := by
  unfold fX7_improvesToEnd
  with_reducible repeat (first | refine zqv_g ?_ | refine zqv_gc ?_ | refine zqv_i ?_ ?_ | refine zqv_f ?_ | refine zqv_ce (q1 := (zqp zq0 zqc)) (q2 := (zqp zqc (zqs zq0 zq0))) (zqv_L (qs := (zqp zq0 zqc)) (fun _ _ => ?_) ?_) (fun _ _ => ?_) (fun _ _ => ?_) | refine zqv_j (qj := zq0) (fun _ _ => ?_) (fun _ _ => ?_) | refine zqK_a (by assumption) ?_ | refine zqv_e (fun _ => ?_) (fun _ => ?_) | refine zqv_s ?_ | refine zqv_b (fun _ => ?_) | assumption | exact zq0_m | exact zqc_r | refine zqp_m ?_ ?_ | refine zqs_l ?_ | refine zqs_r ?_ | refine zqc_n (by decide) ?_ | refine zqp_3 ?_ ?_ | apply zqp_2 | apply zqp_1)
set_option maxRecDepth 20000 in
theorem kq_choose {a0 : Int} {a1 : Int} : zqv σ (zqp zqc zq0) (fX7_choose σ a0 a1) := by
  unfold fX7_choose
  with_reducible repeat (first | refine zqv_g ?_ | refine zqv_gc ?_ | refine zqv_i ?_ ?_ | refine zqv_f ?_ | refine zqv_c (q1 := zqc) (zqv_tc q_keep ?_) (fun _ _ => ?_) | refine zqv_c (q1 := zqp zqc zq0) (zqv_tp q_agreement ?_) (fun _ _ => ?_) | refine zqv_e (fun _ => ?_) (fun _ => ?_) | refine zqv_s ?_ | refine zqv_b (fun _ => ?_) | assumption | exact zq0_m | exact zqc_r | refine zqp_m ?_ ?_ | refine zqs_l ?_ | refine zqs_r ?_ | refine zqc_n (by decide) ?_ | refine zqp_3 ?_ ?_ | apply zqp_2 | apply zqp_1)
set_option maxRecDepth 20000 in
theorem kq_clear {a0 : Int} : zqv σ (zqp zqc zq0) (fX7_clear σ a0) := by
  unfold fX7_clear
  with_reducible repeat (first | refine zqv_g ?_ | refine zqv_gc ?_ | refine zqv_i ?_ ?_ | refine zqv_f ?_ | refine zqv_c (q1 := zqc) (zqv_tc q_keep ?_) (fun _ _ => ?_) | refine zqv_e (fun _ => ?_) (fun _ => ?_) | refine zqv_s ?_ | refine zqv_b (fun _ => ?_) | assumption | exact zq0_m | exact zqc_r | refine zqp_m ?_ ?_ | refine zqs_l ?_ | refine zqs_r ?_ | refine zqc_n (by decide) ?_ | refine zqp_3 ?_ ?_ | apply zqp_2 | apply zqp_1)
set_option maxRecDepth 20000 in
theorem kq_better {a0 : Int} : zqv σ (zqp zqc zq0) (fX7_better σ a0) := by
  unfold fX7_better
  with_reducible repeat (first | refine zqv_g ?_ | refine zqv_gc ?_ | refine zqv_i ?_ ?_ | refine zqv_f ?_ | refine zqv_c (q1 := zqc) (zqv_tc q_keep ?_) (fun _ _ => ?_) | refine zqv_e (fun _ => ?_) (fun _ => ?_) | refine zqv_s ?_ | refine zqv_b (fun _ => ?_) | assumption | exact zq0_m | exact zqc_r | refine zqp_m ?_ ?_ | refine zqs_l ?_ | refine zqs_r ?_ | refine zqc_n (by decide) ?_ | refine zqp_3 ?_ ?_ | apply zqp_2 | apply zqp_1)
set_option maxRecDepth 20000 in
theorem kq_improve {a0 : Int} : zqv σ (zqp zqc zq0) (fX7_improve σ a0) := by
  unfold fX7_improve
  with_reducible repeat (first | refine zqv_g ?_ | refine zqv_gc ?_ | refine zqv_i ?_ ?_ | refine zqv_f ?_ | refine zqv_c (q1 := zqc) (zqv_tc q_keep ?_) (fun _ _ => ?_) | refine zqv_e (fun _ => ?_) (fun _ => ?_) | refine zqv_s ?_ | refine zqv_b (fun _ => ?_) | assumption | exact zq0_m | exact zqc_r | refine zqp_m ?_ ?_ | refine zqs_l ?_ | refine zqs_r ?_ | refine zqc_n (by decide) ?_ | refine zqp_3 ?_ ?_ | apply zqp_2 | apply zqp_1)
set_option maxRecDepth 20000 in
theorem kq_take {a0 : Int} : zqv σ (zqp zqc zq0) (fX7_take σ a0) := by
  unfold fX7_take
  with_reducible repeat (first | refine zqv_g ?_ | refine zqv_gc ?_ | refine zqv_i ?_ ?_ | refine zqv_f ?_ | refine zqv_c (q1 := zqc) (zqv_tc q_keep ?_) (fun _ _ => ?_) | refine zqv_c (q1 := zqc) (zqv_tc q_forget ?_) (fun _ _ => ?_) | refine zqv_e (fun _ => ?_) (fun _ => ?_) | refine zqv_s ?_ | refine zqv_b (fun _ => ?_) | assumption | exact zq0_m | exact zqc_r | refine zqp_m ?_ ?_ | refine zqs_l ?_ | refine zqs_r ?_ | refine zqc_n (by decide) ?_ | refine zqp_3 ?_ ?_ | apply zqp_2 | apply zqp_1)
set_option maxRecDepth 20000 in
theorem kq_takeBest : zqv σ (zqp zqc zq0) (fX7_takeBest σ ) := by
  unfold fX7_takeBest
  with_reducible repeat (first | refine zqv_g ?_ | refine zqv_gc ?_ | refine zqv_i ?_ ?_ | refine zqv_f ?_ | refine zqv_c (q1 := zqc) (zqv_tc q_keep ?_) (fun _ _ => ?_) | refine zqv_c (q1 := zqc) (zqv_tc q_forget ?_) (fun _ _ => ?_) | refine zqv_c (q1 := zqc) (zqv_tc q_searched ?_) (fun _ _ => ?_) | refine zqv_e (fun _ => ?_) (fun _ => ?_) | refine zqv_s ?_ | refine zqv_b (fun _ => ?_) | assumption | exact zq0_m | exact zqc_r | refine zqp_m ?_ ?_ | refine zqs_l ?_ | refine zqs_r ?_ | refine zqc_n (by decide) ?_ | refine zqp_3 ?_ ?_ | apply zqp_2 | apply zqp_1)
set_option maxRecDepth 20000 in
theorem kq_setOut {a0 : Int} {a1 : Int} : zqv σ (zqp zqc zq0) (fX7_setOut σ a0 a1) := by
  unfold fX7_setOut
  with_reducible repeat (first | refine zqv_g ?_ | refine zqv_gc ?_ | refine zqv_i ?_ ?_ | refine zqv_f ?_ | refine zqv_c (q1 := zqc) (zqv_tc q_keep ?_) (fun _ _ => ?_) | refine zqv_c (q1 := zqc) (zqv_tc q_putOut ?_) (fun _ _ => ?_) | refine zqv_e (fun _ => ?_) (fun _ => ?_) | refine zqv_s ?_ | refine zqv_b (fun _ => ?_) | assumption | exact zq0_m | exact zqc_r | refine zqp_m ?_ ?_ | refine zqs_l ?_ | refine zqs_r ?_ | refine zqc_n (by decide) ?_ | refine zqp_3 ?_ ?_ | apply zqp_2 | apply zqp_1)
set_option maxRecDepth 20000 in
theorem kq_setChanges {a0 : Int} : zqv σ (zqp zqc zq0) (fX7_setChanges σ a0) := by
  unfold fX7_setChanges
  with_reducible repeat (first | refine zqv_g ?_ | refine zqv_gc ?_ | refine zqv_i ?_ ?_ | refine zqv_f ?_ | refine zqv_c (q1 := zqc) (zqv_tc q_keep ?_) (fun _ _ => ?_) | refine zqv_c (q1 := zqc) (zqv_tc q_putChanges ?_) (fun _ _ => ?_) | refine zqv_e (fun _ => ?_) (fun _ => ?_) | refine zqv_s ?_ | refine zqv_b (fun _ => ?_) | assumption | exact zq0_m | exact zqc_r | refine zqp_m ?_ ?_ | refine zqs_l ?_ | refine zqs_r ?_ | refine zqc_n (by decide) ?_ | refine zqp_3 ?_ ?_ | apply zqp_2 | apply zqp_1)
set_option maxRecDepth 20000 in
theorem kq_restore : zqv σ (zqp zqc zq0) (fX7_restore σ ) := by
  unfold fX7_restore
  with_reducible repeat (first | refine zqv_g ?_ | refine zqv_gc ?_ | refine zqv_i ?_ ?_ | refine zqv_f ?_ | refine zqv_c (q1 := zqc) (zqv_tc q_replaceBoard ?_) (fun _ _ => ?_) | refine zqv_e (fun _ => ?_) (fun _ => ?_) | refine zqv_s ?_ | refine zqv_b (fun _ => ?_) | assumption | exact zq0_m | exact zqc_r | refine zqp_m ?_ ?_ | refine zqs_l ?_ | refine zqs_r ?_ | refine zqc_n (by decide) ?_ | refine zqp_3 ?_ ?_ | apply zqp_2 | apply zqp_1)
set_option maxRecDepth 20000 in
theorem kq_kinds : zqv σ (zqp zqc zq0) (fX7_kinds σ ) := by
  unfold fX7_kinds
  with_reducible repeat (first | refine zqv_g ?_ | refine zqv_gc ?_ | refine zqv_i ?_ ?_ | refine zqv_f ?_ | refine zqv_e (fun _ => ?_) (fun _ => ?_) | refine zqv_s ?_ | refine zqv_b (fun _ => ?_) | assumption | exact zq0_m | exact zqc_r | refine zqp_m ?_ ?_ | refine zqs_l ?_ | refine zqs_r ?_ | refine zqc_n (by decide) ?_ | refine zqp_3 ?_ ?_ | apply zqp_2 | apply zqp_1)
set_option maxRecDepth 20000 in
theorem kq_commonest : zqv σ (zqp zqc zq0) (fX7_commonest σ ) := by
  unfold fX7_commonest
  with_reducible repeat (first | refine zqv_g ?_ | refine zqv_gc ?_ | refine zqv_i ?_ ?_ | refine zqv_f ?_ | refine zqv_e (fun _ => ?_) (fun _ => ?_) | refine zqv_s ?_ | refine zqv_b (fun _ => ?_) | assumption | exact zq0_m | exact zqc_r | refine zqp_m ?_ ?_ | refine zqs_l ?_ | refine zqs_r ?_ | refine zqc_n (by decide) ?_ | refine zqp_3 ?_ ?_ | apply zqp_2 | apply zqp_1)
set_option maxRecDepth 20000 in
theorem kq_outlier : zqv σ (zqp zqc zq0) (fX7_outlier σ ) := by
  unfold fX7_outlier
  with_reducible repeat (first | refine zqv_g ?_ | refine zqv_gc ?_ | refine zqv_i ?_ ?_ | refine zqv_f ?_ | refine zqv_c (q1 := zqc) (zqv_tc q_searched ?_) (fun _ _ => ?_) | refine zqv_c (q1 := (zqp zq0 (zqp zq0 (zqp zq0 zqc)))) (zqv_L (qs := (zqp zq0 (zqp zq0 (zqp zq0 zqc)))) (fun _ _ => ?_) ?_) (fun _ _ => ?_) | refine zqv_e (fun _ => ?_) (fun _ => ?_) | refine zqv_s ?_ | refine zqv_b (fun _ => ?_) | assumption | exact zq0_m | exact zqc_r | refine zqp_m ?_ ?_ | refine zqs_l ?_ | refine zqs_r ?_ | refine zqc_n (by decide) ?_ | refine zqp_3 ?_ ?_ | apply zqp_2 | apply zqp_1)
set_option maxRecDepth 20000 in
theorem kq_ranked {a0 : Int} : zqv σ (zqp zqc zq0) (fX7_ranked σ a0) := by
  unfold fX7_ranked
  with_reducible repeat (first | refine zqv_g ?_ | refine zqv_gc ?_ | refine zqv_i ?_ ?_ | refine zqv_f ?_ | refine zqv_c (q1 := zqc) (zqv_tc q_searched ?_) (fun _ _ => ?_) | refine zqv_e (fun _ => ?_) (fun _ => ?_) | refine zqv_s ?_ | refine zqv_b (fun _ => ?_) | assumption | exact zq0_m | exact zqc_r | refine zqp_m ?_ ?_ | refine zqs_l ?_ | refine zqs_r ?_ | refine zqc_n (by decide) ?_ | refine zqp_3 ?_ ?_ | apply zqp_2 | apply zqp_1)
set_option maxRecDepth 20000 in
theorem kq_common : zqv σ (zqp zqc zq0) (fX7_common σ ) := by
  unfold fX7_common
  with_reducible repeat (first | refine zqv_g ?_ | refine zqv_gc ?_ | refine zqv_i ?_ ?_ | refine zqv_f ?_ | refine zqv_e (fun _ => ?_) (fun _ => ?_) | refine zqv_s ?_ | refine zqv_b (fun _ => ?_) | assumption | exact zq0_m | exact zqc_r | refine zqp_m ?_ ?_ | refine zqs_l ?_ | refine zqs_r ?_ | refine zqc_n (by decide) ?_ | refine zqp_3 ?_ ?_ | apply zqp_2 | apply zqp_1)
set_option maxRecDepth 20000 in
theorem kq_report : zqv σ (zqp zqc zq0) (fX7_report σ ) := by
  unfold fX7_report
  with_reducible repeat (first | refine zqv_g ?_ | refine zqv_gc ?_ | refine zqv_i ?_ ?_ | refine zqv_f ?_ | refine zqv_c (q1 := zqc) (zqv_tc q_writeByte ?_) (fun _ _ => ?_) | refine zqv_c (q1 := zqc) (zqv_tc q_writeName ?_) (fun _ _ => ?_) | refine zqv_c (q1 := (zqp zq0 zqc)) (zqv_L (qs := (zqp zq0 zqc)) (fun _ _ => ?_) ?_) (fun _ _ => ?_) | refine zqv_j (qj := zqc) (fun _ _ => ?_) (fun _ _ => ?_) | refine zqv_j (qj := zq0) (fun _ _ => ?_) (fun _ _ => ?_) | refine zqK_a (by assumption) ?_ | refine zqv_e (fun _ => ?_) (fun _ => ?_) | refine zqv_s ?_ | refine zqv_b (fun _ => ?_) | assumption | exact zq0_m | exact zqc_r | refine zqp_m ?_ ?_ | refine zqs_l ?_ | refine zqs_r ?_ | refine zqc_n (by decide) ?_ | refine zqp_3 ?_ ?_ | apply zqp_2 | apply zqp_1)
set_option maxRecDepth 20000 in
theorem kq_undo : zqv σ (zqp zqc zq0) (fX7_undo σ ) := by
  unfold fX7_undo
  with_reducible repeat (first | refine zqv_g ?_ | refine zqv_gc ?_ | refine zqv_i ?_ ?_ | refine zqv_f ?_ | refine zqv_c (q1 := zqc) (zqv_tc q_replaceBoard ?_) (fun _ _ => ?_) | refine zqv_e (fun _ => ?_) (fun _ => ?_) | refine zqv_s ?_ | refine zqv_b (fun _ => ?_) | assumption | exact zq0_m | exact zqc_r | refine zqp_m ?_ ?_ | refine zqs_l ?_ | refine zqs_r ?_ | refine zqc_n (by decide) ?_ | refine zqp_3 ?_ ?_ | apply zqp_2 | apply zqp_1)
set_option maxRecDepth 20000 in
theorem kq_save : zqv σ (zqp zqc zq0) (fX7_save σ ) := by
  unfold fX7_save
  with_reducible repeat (first | refine zqv_g ?_ | refine zqv_gc ?_ | refine zqv_i ?_ ?_ | refine zqv_f ?_ | refine zqv_e (fun _ => ?_) (fun _ => ?_) | refine zqv_s ?_ | refine zqv_b (fun _ => ?_) | assumption | exact zq0_m | exact zqc_r | refine zqp_m ?_ ?_ | refine zqs_l ?_ | refine zqs_r ?_ | refine zqc_n (by decide) ?_ | refine zqp_3 ?_ ?_ | apply zqp_2 | apply zqp_1)
set_option maxRecDepth 20000 in
theorem kq_agreementShare : zqv σ (zqp zqc zq0) (fX7_agreementShare σ ) := by
  unfold fX7_agreementShare
  with_reducible repeat (first | refine zqv_g ?_ | refine zqv_gc ?_ | refine zqv_i ?_ ?_ | refine zqv_f ?_ | refine zqv_c (q1 := zqp zqc zq0) (zqv_tp q_agreement ?_) (fun _ _ => ?_) | refine zqv_e (fun _ => ?_) (fun _ => ?_) | refine zqv_s ?_ | refine zqv_b (fun _ => ?_) | assumption | exact zq0_m | exact zqc_r | refine zqp_m ?_ ?_ | refine zqs_l ?_ | refine zqs_r ?_ | refine zqc_n (by decide) ?_ | refine zqp_3 ?_ ?_ | apply zqp_2 | apply zqp_1)
set_option maxRecDepth 20000 in
theorem kq_meanDistance : zqv σ (zqp zqc zq0) (fX7_meanDistance σ ) := by
  unfold fX7_meanDistance
  with_reducible repeat (first | refine zqv_g ?_ | refine zqv_gc ?_ | refine zqv_i ?_ ?_ | refine zqv_f ?_ | refine zqv_c (q1 := zqc) (zqv_tc q_searched ?_) (fun _ _ => ?_) | refine zqv_e (fun _ => ?_) (fun _ => ?_) | refine zqv_s ?_ | refine zqv_b (fun _ => ?_) | assumption | exact zq0_m | exact zqc_r | refine zqp_m ?_ ?_ | refine zqs_l ?_ | refine zqs_r ?_ | refine zqc_n (by decide) ?_ | refine zqp_3 ?_ ?_ | apply zqp_2 | apply zqp_1)
end ZCAQ
