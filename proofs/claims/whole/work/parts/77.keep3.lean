section ZKQ
variable {σ : CS} {m : CV}
/-- behind keepPast: the past has one board more, that of now -/
def zKd (σ σ' : CS) (m : CV) : Prop := (∀ k, k ≠ 0 → (k < 11 ∨ 16 < k) → σ' k = σ k) ∧ (∀ k, k ≠ 13 → (σ' 0).1 k = (σ 0).1 k) ∧ (σ' 0).2 = (σ 0).2 ∧ (σ' 0).1 13 = (if m.1 22 = 6 then 6 else m.1 22 + 1) ∧ ∀ p, 0 ≤ p → p < (σ' 0).1 13 → zB1 (σ' (11 + p.toNat)) (if p = (σ' 0).1 13 - 1 then m.2 2 else if m.1 22 = 6 then zPt m (p + 1) else zPt m p) (m.2 7)
theorem x_keepTail {τ : CS} {p : Int} {s nm : Int → Int} (h0 : 0 ≤ p) (h1 : p < 6) (hB : zB1 (τ 4) s nm) : zOk (fX7_keepTail τ p) (fun t => (∀ k, k ≠ 0 → k ≠ 11 + p.toNat → t k = τ k) ∧ (∀ k, k ≠ 13 → (t 0).1 k = (τ 0).1 k) ∧ (t 0).2 = (τ 0).2 ∧ (t 0).1 13 = p + 1 ∧ zB1 (t (11 + p.toNat)) s nm) := by
  unfold fX7_keepTail
  refine zok_b (b_copyB hB) (fun V hV => zok_s ⟨fun k k0 k1 => ?_, fun k hk => ?_, ?_, ?_, ?_⟩)
  · rw [zSu_n k0, zSu_n k1]
  · rw [zSu_s, zPu_n hk, zSu_n (by omega)]
  · rw [zSu_s, zPu_2, zSu_n (by omega)]
  · rw [zSu_s, zPu_s]
  · rw [zSu_n (by omega), zSu_s]
    exact hV
theorem x_keepPast (h : zRR σ m) : zOk (fX7_keepPast σ) (fun t => zKd σ t m) := by
  unfold fX7_keepPast
  obtain ⟨hp1, hp2, hp3⟩ := h.2.2.2.1
  rw [hp1]
  (repeat (first | (with_reducible refine zok_g ?_ ?_; focus omega) | with_reducible refine zok_j ?_ | (with_reducible refine zok_t ?_ ?_; focus omega) | (with_reducible refine zok_f ?_ ?_; focus omega)))
  refine zok_i (fun c => ?_) (fun c => ?_)
  · have e4 : (zRot (zSu σ 0 (zPu (σ 0) 13 5))) 4 = σ 4 := by
      show (if 11 ≤ 4 ∧ 4 < 16 then _ else if (4 : Nat) = 16 then _ else zSu σ 0 _ 4) = _
      rw [if_neg (by omega), if_neg (by omega), zSu_n (by omega)]
    refine zok_w (x_keepTail (p := 5) (s := m.2 2) (nm := m.2 7) (by omega) (by omega) (by rw [e4]; exact h.2.1)) (fun t ht => ?_)
    obtain ⟨a, b, d, e, f⟩ := ht
    have rot : ∀ k, zRot (zSu σ 0 (zPu (σ 0) 13 5)) k = if 11 ≤ k ∧ k < 16 then zSu σ 0 (zPu (σ 0) 13 5) (k + 1) else if k = 16 then zSu σ 0 (zPu (σ 0) 13 5) 11 else zSu σ 0 (zPu (σ 0) 13 5) k := fun _ => rfl
    have r0 : zRot (zSu σ 0 (zPu (σ 0) 13 5)) 0 = zPu (σ 0) 13 5 := by rw [rot, if_neg (by omega), if_neg (by omega), zSu_s]
    have e5 : ((5 : Int)).toNat = 5 := rfl
    rw [e5] at a f
    refine ⟨fun k k0 k1 => ?_, fun k hk => ?_, ?_, ?_, fun p p0 p1 => ?_⟩
    · rw [a k k0 (by omega), rot, if_neg (by omega), if_neg (by omega), zSu_n k0]
    · rw [b k hk, r0, zPu_n hk]
    · rw [d, r0, zPu_2]
    · rw [e, if_pos c]
      rfl
    · rw [e] at p1 ⊢
      by_cases c2 : p = 5 + 1 - 1
      · rw [if_pos c2, show 11 + p.toNat = 11 + 5 by omega]
        exact f
      · rw [if_neg c2, if_pos c, a _ (by omega) (by omega), rot, if_pos (by omega), zSu_n (by omega)]
        have := (hp3 (p + 1) (by omega) (by omega)).1
        rw [show 11 + (p + 1).toNat = 11 + p.toNat + 1 by omega] at this
        exact this
  · (repeat (first | (with_reducible refine zok_g ?_ ?_; focus omega) | with_reducible refine zok_j ?_ | (with_reducible refine zok_t ?_ ?_; focus omega) | (with_reducible refine zok_f ?_ ?_; focus omega)))
    refine zok_w (x_keepTail (p := m.1 22) (s := m.2 2) (nm := m.2 7) (by omega) (by omega) h.2.1) (fun t ht => ?_)
    obtain ⟨a, b, d, e, f⟩ := ht
    refine ⟨fun k k0 k1 => a k k0 (by omega), b, d, by rw [e, if_neg c], fun p p0 p1 => ?_⟩
    rw [e] at p1 ⊢
    by_cases c2 : p = m.1 22 + 1 - 1
    · rw [if_pos c2, show 11 + p.toNat = 11 + (m.1 22).toNat by omega]
      exact f
    · rw [if_neg c2, if_neg c, a _ (by omega) (by omega)]
      exact (hp3 p p0 (by omega)).1
/-- a change that is kept: class behind keepPast and the change, model behind laysAside, the change, keeps -/
theorem zRR_k {σ1 σ2 : CS} {m2 m3 : CV} {s' : Int → Int} {ns js : List Nat} (h : zRR σ m) (hK : zKd σ σ1 m) (hσ : ∀ k, k ≠ 3 → k ≠ 4 → k ≠ 6 → k ≠ 7 → k ≠ 8 → k ≠ 9 → σ2 k = σ1 k) (hE : zEx ns js m m2) (h1 : ∀ k ∈ zKn, k ∉ ns) (h2 : ∀ k ∈ [1, 3, 4, 7, 8, 20], k ∉ js) (hs : m2.2 2 = s') (ha : zAgr (m.2 2) (m2.2 5)) (hW : zB1 (σ2 4) s' (m.2 7)) (h0 : s' 0 = m.2 2 0) (hs2 : zRe (σ2 7) (σ2 8) s') (hE3 : zEx [22] [4] m2 m3) (h22 : m3.1 22 = (if m2.1 22 = 6 then 6 else m2.1 22 + 1)) (hp : ∀ p, 0 ≤ p → p < m3.1 22 → zAgr (if p = m3.1 22 - 1 then m2.2 5 else if m2.1 22 = 6 then zPt m2 (p + 1) else zPt m2 p) (zPt m3 p)) : zRR σ2 m3 := by
  obtain ⟨k1, k2, k3, k4, k5⟩ := hK
  obtain ⟨r1, r2, r3, r4, r5, r6, r7⟩ := h
  have n := fun k (hk : k ∈ zKn) (hk2 : k ≠ 22) => (hE3.1 k (by simp only [List.mem_cons, List.mem_nil_iff, or_false]; exact hk2)).trans (hE.1 k (h1 k hk))
  have a := fun k (hk : k ∈ [1, 3, 7, 8, 20]) => (hE3.2 k (by intro z; simp only [List.mem_cons, List.mem_nil_iff, or_false] at hk z; omega)).trans (hE.2 k (h2 k (by simp only [List.mem_cons, List.mem_nil_iff, or_false] at hk ⊢; omega)))
  have e22 : m2.1 22 = m.1 22 := hE.1 22 (h1 22 (by decide))
  have e2 : m3.2 2 = s' := (hE3.2 2 (by decide)).trans hs
  have e4 : m2.2 4 = m.2 4 := hE.2 4 (h2 4 (by decide))
  have s0 : σ2 0 = σ1 0 := hσ 0 (by decide) (by decide) (by decide) (by decide) (by decide) (by decide)
  have s1 : σ2 1 = σ 1 := (hσ 1 (by decide) (by decide) (by decide) (by decide) (by decide) (by decide)).trans (k1 1 (by decide) (by omega))
  have s5 : σ2 5 = σ 5 := (hσ 5 (by decide) (by decide) (by decide) (by decide) (by decide) (by decide)).trans (k1 5 (by decide) (by omega))
  have s10 : σ2 10 = σ 10 := (hσ 10 (by decide) (by decide) (by decide) (by decide) (by decide) (by decide)).trans (k1 10 (by decide) (by omega))
  have e22' : m3.1 22 = (σ1 0).1 13 := by rw [h22, e22, k4]
  refine ⟨?_, ?_, ?_, ?_, ?_, ?_, ?_⟩
  · unfold zRt at r1 ⊢
    rw [s1, n 2 (by decide) (by decide), n 11 (by decide) (by decide), n 12 (by decide) (by decide), a 1 (by decide)]
    exact r1
  · rw [e2, a 7 (by decide)]
    exact hW
  · unfold zRs at r3 ⊢
    rw [s0, s5, k2 14 (by decide), n 23 (by decide) (by decide), a 3 (by decide), a 8 (by decide)]
    exact r3
  · refine ⟨by rw [s0, e22'], ?_, fun p p0 p1 => ?_⟩
    · have := r4.2.1
      rw [h22, e22]
      split <;> omega
    · have hb := k5 p p0 (by rw [← e22']; exact p1)
      have hg := hp p p0 p1
      have hsp : σ2 (11 + p.toNat) = σ1 (11 + p.toNat) := hσ _ (by omega) (by omega) (by omega) (by omega) (by omega) (by omega)
      rw [← e22'] at hb
      have hz1 : zPt m2 (p + 1) = zPt m (p + 1) := by unfold zPt; rw [e4]
      have hz2 : zPt m2 p = zPt m p := by unfold zPt; rw [e4]
      rw [e22, hz1, hz2] at hg
      rw [hsp, e2, a 7 (by decide), h0]
      have r42 := r4.2.1
      have hlt : m3.1 22 = if m.1 22 = 6 then 6 else m.1 22 + 1 := by rw [h22, e22]
      by_cases c : p = m3.1 22 - 1
      · rw [if_pos c] at hb hg
        have hag : zAgr (m.2 2) (zPt m3 p) := fun j j0 j1 => (ha j j0 j1).trans (hg j j0 j1)
        exact ⟨hag.b1 (fun _ _ _ => rfl) hb, (hag 0 (by omega) (by omega)).symm⟩
      · rw [if_neg c] at hb hg
        by_cases c6 : m.1 22 = 6
        · rw [if_pos c6] at hb hg hlt
          exact ⟨hg.b1 (fun _ _ _ => rfl) hb, by rw [← hg 0 (by omega) (by omega)]; exact (r4.2.2 (p + 1) (by omega) (by omega)).2⟩
        · rw [if_neg c6] at hb hg hlt
          exact ⟨hg.b1 (fun _ _ _ => rfl) hb, by rw [← hg 0 (by omega) (by omega)]; exact (r4.2.2 p p0 (by omega)).2⟩
  · rw [e2]; exact hs2
  · rw [s10]; exact r6
  · unfold zRr at r7 ⊢
    rw [s0, k3, k2 12 (by decide), n 47 (by decide) (by decide), n 48 (by decide) (by decide), a 20 (by decide)]
    exact r7
end ZKQ
/-! STATES THAT DIFFER BY WHAT IS CHOSEN ALONE -/
def zSim (s t : Int → Int) : Prop := ∀ k, (∀ r, 0 ≤ r → r < 10 → k ≠ 11 + 4 * r + 1) → s k = t k
section ZSM
variable {s t : Int → Int}
theorem zSim.c (h : zSim s t) {k : Int} (hk : k ≤ 11 ∨ 51 ≤ k) : s k = t k := h k (fun r r0 r1 => by omega)
theorem zSim.f (h : zSim s t) {r w : Int} (hw : w = 0 ∨ w = 2 ∨ w = 3) : zf s r w = zf t r w := h _ (fun r' _ _ => by omega)
theorem zSim.l (h : zSim s t) {r i : Int} (h0 : 0 ≤ r) (hi : 0 ≤ i) : zl s r i = zl t r i := h _ (fun r' _ _ => by omega)
theorem zSim.p (h : zSim s t) {r i : Int} : zPlP s r i ↔ zPlP t r i := by
  unfold zPlP
  rw [h.f (Or.inr (Or.inl rfl)), h.f (Or.inl rfl), h.f (Or.inr (Or.inr rfl)), h.c (k := 2) (by omega)]
theorem zSim.pb (h : zSim s t) {r i : Int} : zPl s r i = zPl t r i := by
  apply zEqB
  rw [zPl_t, zPl_t]
  exact h.p
theorem zSim.d (h : zSim s t) {r i m : Int} {u : Int → Int} (h0 : 0 ≤ r) (hi : 0 ≤ i) : zDf s r i u m = zDf t r i u m := by
  unfold zDf zDn
  refine zFd_eq _ (fun j x hj _ => ?_)
  show x + (if zl s r (i + j) = u j then 0 else 1) = x + (if zl t r (i + j) = u j then 0 else 1)
  rw [h.l h0 (by omega)]
theorem zSim.n (h : zSim s t) {r m : Int} {u : Int → Int} (h0 : 0 ≤ r) : zNr s r u m = zNr t r u m := by
  unfold zNr
  rw [h.f (Or.inl rfl)]
  refine zFd_eq _ (fun i x hi _ => ?_)
  show (if zPl s r i = true then zMin x (zDf s r i u m) else x) = (if zPl t r i = true then zMin x (zDf t r i u m) else x)
  rw [h.pb, h.d h0 hi]
theorem zSim.ns (h : zSim s t) {r : Int} {u : Int → Int} (h0 : 0 ≤ r) : zNs s r u = zNs t r u := by
  unfold zNs
  rw [h.f (Or.inl rfl)]
  rw [zFd_eq (g := zNsf t r u) _ (fun i x hi _ => by
    unfold zNsf
    rw [h.pb, h.d h0 hi, h.c (k := 2) (by omega)])]
theorem zSim.b (h : zSim s t) {m : Int} {u : Int → Int} : zBd s u m = zBd t u m := by
  unfold zBd
  rw [h.c (k := 0) (by omega)]
  refine zFd_eq _ (fun r x hr _ => ?_)
  show (if zf s r 2 = 1 then x else x + zNr s r u m) = (if zf t r 2 = 1 then x else x + zNr t r u m)
  rw [h.f (Or.inr (Or.inl rfl)), h.n hr]
theorem zSim.dg (h : zSim s t) : zDg s = zDg t := by
  funext w i
  unfold zDg
  rw [h.c (k := 1) (by omega), h.c (k := 2) (by omega)]
theorem zSim.fb (h : zSim s t) : zFb s = zFb t := by
  funext m b
  unfold zFb
  have e : zDb s m b = zDb t m b := by
    funext j
    unfold zDb
    rw [h.c (k := 1) (by omega)]
  rw [e]
  exact h.b
theorem zSim.sr (h : zSim s t) : zSr s = zSr t := by
  unfold zSr
  rw [h.fb, h.c (k := 1) (by omega), h.c (k := 2) (by omega)]
theorem zSim.w (h : zSim s t) : zWords s = zWords t := by
  unfold zWords
  rw [h.c (k := 1) (by omega), h.c (k := 2) (by omega)]
theorem zSim.lv (h : zSim s t) : zLv s = zLv t := by
  funext m
  unfold zLv
  rw [h.c (k := 1) (by omega)]
theorem zSim.so (h : zSim s t) {T : CV} (hT : zSoT T s) : zSoT T t := by
  obtain ⟨a, b, c, d⟩ := hT
  refine ⟨?_, fun w w0 w1 => ?_, fun x x0 x1 => ?_, by rw [← h.sr]; exact d⟩
  · unfold zSB at a ⊢
    rw [← h.c (k := 1) (by omega), ← h.c (k := 2) (by omega), ← h.w, ← h.lv, ← h.fb]
    exact a
  · rw [← h.w] at w1
    rw [b w w0 w1]
    unfold zHc
    rw [h.c (k := 0) (by omega)]
    refine zFd_eq _ (fun r x hr _ => ?_)
    show (if zf s r 2 = 1 then x else x + (if zNr s r (zDg s w) (s 2) ≤ s 3 then 1 else 0)) = (if zf t r 2 = 1 then x else x + (if zNr t r (zDg t w) (t 2) ≤ t 3 then 1 else 0))
    rw [h.f (Or.inr (Or.inl rfl)), h.n hr, h.dg, h.c (k := 2) (by omega), h.c (k := 3) (by omega)]
  · rw [c x x0 x1, h.w]
    unfold zScc
    rw [h.fb, h.c (k := 2) (by omega)]
theorem zSim.hv (h : zSim s t) {u : Int → Int} : zHv s u = zHv t u := by
  unfold zHv
  rw [h.c (k := 0) (by omega)]
  refine zFd_eq _ (fun r x hr _ => ?_)
  show (if zf s r 2 ≠ 1 ∧ zNr s r u (s 2) ≤ s 3 then x + zP2 r else x) = (if zf t r 2 ≠ 1 ∧ zNr t r u (t 2) ≤ t 3 then x + zP2 r else x)
  rw [h.f (Or.inr (Or.inl rfl)), h.n hr, h.c (k := 2) (by omega), h.c (k := 3) (by omega)]
theorem zSim.set1 {r b : Int} (h0 : 0 ≤ r) (h1 : r < 10) : zSim s (zSet s r 1 b) := fun k hk => by
  unfold zSet
  rw [zup_n (hk r h0 h1)]
theorem zSim.sym (h : zSim s t) : zSim t s := fun k hk => (h k hk).symm
theorem zSim.tr {u : Int → Int} (h : zSim s t) (h2 : zSim t u) : zSim s u := fun k hk => (h k hk).trans (h2 k hk)
theorem zSim.tc (h : zSim s t) {u : Int → Int} {set r : Int} (h0 : 0 ≤ r) : zSim (zTc s u set r) (zTc t u set r) := by
  have e : zTs s u set r = zTs t u set r := by
    unfold zTs
    rw [h.ns h0]
  unfold zTc
  rw [e]
  by_cases c : zTs t u set r = -1
  · rw [if_pos c, if_pos c]; exact h
  · rw [if_neg c, if_neg c]
    intro k hk
    unfold zSet zup
    rw [h.f (Or.inr (Or.inr rfl)), h.c (k := 2) (by omega)]
    by_cases e : k = 11 + 4 * r + 3
    · rw [if_pos e, if_pos e]
    · rw [if_neg e, if_neg e]; exact h k hk
theorem zSim.trr (h : zSim s t) {u : Int → Int} {set r : Int} (h0 : 0 ≤ r) (h1 : r < 10) : zSim (zTr u set r s) (zTr u set r t) := by
  have hc := h.tc (u := u) (set := set) h0
  have a : ∀ x : Int → Int, zSim (zTc x u set r) (zTr u set r x) := fun x => by
    unfold zTr
    split
    · exact zSim.set1 h0 h1
    · exact fun _ _ => rfl
  exact ((a s).sym.tr hc).tr (a t)
theorem zSim.tk (h : zSim s t) (hW : zWf s) {w : Int} : zSim (zTk s w) (zTk t w) := by
  have w0 := hW.1
  have key : ∀ (u : Int → Int) (set : Int) (n : Nat), n ≤ 10 → zSim (zTn s u set n) (zTn t u set n) := by
    intro u set n
    induction n with
    | zero => intro _; exact h
    | succ n ih => intro hn; exact (ih (by omega)).trr (by omega) (by omega)
  unfold zTk
  rw [← h.dg, ← h.hv, ← h.c (k := 0) (by omega), ← h.c (k := 4) (by omega)]
  have k2 := key (zDg s w) (zHv s (zDg s w)) (s 0).toNat (by omega)
  intro k hk
  unfold zup
  by_cases c : k = 4
  · rw [if_pos c, if_pos c]
  · rw [if_neg c, if_neg c]
    by_cases c2 : k = 5 + s 4
    · rw [if_pos c2, if_pos c2]
    · rw [if_neg c2, if_neg c2]; exact k2 k hk
theorem zSim.re (h : zSim s t) (hW : zWf s) {T U : CV} (hR : zRe T U s) : zRe T U t := by
  obtain ⟨⟨a, b⟩, c, d⟩ := hR
  refine ⟨⟨a, ?_⟩, c, ?_⟩
  · rcases b with b | b
    · exact Or.inl b
    · exact Or.inr ⟨b.1, h.so b.2⟩
  · rcases d with d | d
    · exact Or.inl d
    · refine Or.inr ⟨d.1, ?_⟩
      rw [← h.sr]
      exact (h.tk hW).so d.2
end ZSM
