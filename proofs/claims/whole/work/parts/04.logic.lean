/-! THE JUDGEMENTS OF THIS PROOF: one region (all cells from a base on), the whole world in every contract. X: launch, class numbers, the four array classes, base, what holds below the base, where the String constants lie. M: a method (own class, bytes, locals, return type, handlers, whether it is a constructor). P: room and what is owed at the end. -/
abbrev zX : Type := Launch × va_G × (ClassId × ClassId × ClassId × ClassId) × Nat × (State → Prop) × (String × Nat → Nat)
abbrev zM : Type := String × ByteArray × Nat × Option FieldType × List (Nat × Nat × Nat × Nat) × Bool
abbrev zO : Type := Option Value ⊕ String
abbrev zP : Type := Room × (List Frame → Array Value → State → State → Prop)
abbrev zT (X : zX) : List (ClassId × FieldType) := [(X.2.2.1.1, .int), (X.2.2.1.2.1, .long), (X.2.2.1.2.2.1, .byte), (X.2.2.1.2.2.2, .object RX0)]
abbrev zA (X : zX) : Nat → Prop := fun q => X.2.2.2.1 ≤ q
abbrev zD (X : zX) : va_G := X.2.1
abbrev zE (X : zX) : State → Prop := X.2.2.2.2.1
def zW : List Cond := lw_tbl.filter goodWord
theorem zW_in {w : Cond} (h : w ∈ lw_tbl) (g : goodWord w = true) : w ∈ zW := List.mem_filter.mpr ⟨h, g⟩
theorem zW_good {w : Cond} (h : w ∈ zW) : goodWord w = true := (List.mem_filter.mp h).2
theorem zW_tbl {w : Cond} (h : w ∈ zW) : w ∈ lw_tbl := (List.mem_filter.mp h).1
/-- cells: int, long, byte arrays, the array of boards, objects -/
abbrev aI (X : zX) (n : Nat) (f : Nat → Int32) : va_E := .inl (X.2.2.1.1, n, .inl f)
abbrev aL (X : zX) (n : Nat) (f : Nat → Int64) : va_E := .inl (X.2.2.1.2.1, n, .inr (.inl f))
abbrev aB (X : zX) (n : Nat) (f : Nat → Int32) : va_E := .inl (X.2.2.1.2.2.1, n, .inl f)
abbrev aQ (X : zX) (n : Nat) (f : Nat → Option Nat) : va_E := .inl (X.2.2.1.2.2.2, n, .inr (.inr (.inr (.inr f))))
abbrev aO (ci : Nat) (fs : List Value) : va_E := .inr (ci, fs)
def zB (X : zX) (ws : va_W) : State → Prop := fun U => X.2.2.2.1 ≤ U.heap.size ∧ va_P (zD X) vwCl ws U.heap ∧ va_D (zA X) ws ∧ va_K (zD X) vwCl (zT X) U ∧ zE X U
def zQc (X : zX) (Q : va_W → zO → Prop) : Array Value → State → Outcome → State → Prop := fun _ st o t => ∃ (v : Option Value) (ws : va_W), o = .returned v ∧ Q ws (.inl v) ∧ va_P (zD X) vwCl ws t.heap ∧ va_D (zA X) ws ∧ va_F (zA X) st t
def zXc (X : zX) (Q : va_W → zO → Prop) : String → State → State → Prop := fun E st t => ∃ ws : va_W, Q ws (.inr E) ∧ va_P (zD X) vwCl ws t.heap ∧ va_D (zA X) ws ∧ va_F (zA X) st t
abbrev zR (fr mc ms : Nat) : Room := { frames := fr, cells := mc, slots := ms, locals := 64 * fr }
abbrev zZ (X : zX) (Q : va_W → zO → Prop) (mc ms : Nat) : List Frame → Array Value → State → State → Prop := fun below args s => vx_MQ below (zQc X Q) (zXc X Q) args s mc ms (zA X)
/-- what a method owes: its frames, cells, slots, its post -/
abbrev zPm (X : zX) (fr mc ms : Nat) (Q : va_W → zO → Prop) : zP := (zR fr mc ms, zZ X Q mc ms)
def zI (X : zX) (M : zM) (p : Program) (s : State) (m : MethodId) (args : Array Value) (meth : Method) (c : Code) : Prop :=
  p.tables.exec = Jvm.exec ∧ c.code = M.2.1 ∧ meth.sig.returnType = M.2.2.2.1 ∧ c.maxLocals = M.2.2.1 ∧ s.vm.findClass M.1 = some m.cls ∧ (∀ w ∈ zW, w.before args s = true) ∧ meth.locks = false ∧ va_K (zD X) vwCl (zT X) s ∧ zE X s ∧ X.2.2.2.1 ≤ s.heap.size ∧ c.exceptionTable.toList = tableOf M.2.2.2.2.1 ∧ (M.2.2.2.2.2 = true → meth.name = "<init>")
def G (X : zX) (M : zM) (P : zP) (kc ks pc : Nat) (lv : List (Nat × Value)) (st : List Value) (ws : va_W) : Prop :=
  ∀ (p : Program) (e : Env) (s : State) (m : MethodId) (args : Array Value) (below : List Frame) (meth : Method) (c : Code) (H : Heap) (locs : List Loc) (ls : Array Slot),
    zI X M p s m args meth c → va_P (zD X) vwCl ws H → va_D (zA X) ws → va_S (zA X) s.heap H locs → lv_has ls M.2.2.1 lv →
    W p X.1 e P.1 s m args below meth c H locs kc ks (P.2 below args s) (F0 m pc ls st)
/-- a frame over which an exception of class E was thrown -/
def GX (X : zX) (M : zM) (P : zP) (kc ks pc : Nat) (lv : List (Nat × Value)) (st : List Value) (ws : va_W) (E : String) : Prop :=
  ∀ (p : Program) (e : Env) (s : State) (m : MethodId) (args : Array Value) (below : List Frame) (meth : Method) (c : Code) (H : Heap) (locs : List Loc) (ls : Array Slot) (q : Addr) (ce : Cell),
    zI X M p s m args meth c → va_P (zD X) vwCl ws H → va_D (zA X) ws → va_S (zA X) s.heap H locs → lv_has ls M.2.2.1 lv → H[q]? = some ce → ce.vm = .none → s.vm.findClass E = some ce.cls →
    vx_W p X.1 e P.1 s m args below meth c H locs kc ks (P.2 below args s) (F0 m pc ls st) q
/-- the words of a method -/
def zY (y : MethodName) (M : zM) : List Cond := (match M.2.2.2.2.1 with | [] => Cond.code y M.2.1 M.2.2.1 M.2.2.2.1 | hh => Cond.codeWith y M.2.1 M.2.2.1 M.2.2.2.1 hh) :: zW
/-- A METHOD'S CONTRACT: called with av in the world ws it ends, and Q holds of the world behind it and of its answer -/
def Con (X : zX) (y : MethodName) (M : zM) (fr mc ms : Nat) (av : List Value) (ws : va_W) (Q : va_W → zO → Prop) : Prop :=
  vx_Met X.1 y (zY y M) (zR fr mc ms) (va_Pc av (zB X ws)) (zQc X Q) (zXc X Q) mc ms (zA X)
/-- what the outside is good for: no stack traces; it stays while the cells below the base stay; it knows the two statics of Throwable, the words of the three throws that the tables don't keep, the String constants -/
def zExc : List (String × Nat) := [("java/lang/IllegalStateException", 83), ("java/lang/IllegalArgumentException", 94), ("java/lang/IndexOutOfBoundsException", 193)]
def zExN : List String := ["java/lang/RuntimeException", "java/lang/Exception"]
def zStr : List (String × Nat × String) := [("HiddenWords", 81, "the buffer is full"), ("HiddenWords", 92, "no such length of the buffer"), ("HiddenWords", 99, "the text has an error"), ("HiddenWords", 112, "the script has an error"), ("HiddenWords", 165, "no such setting"), ("HiddenWords", 187, "a row has no such number"), ("HiddenWords", 191, "the row has no such letter"), ("HiddenWords", 254, "no such place"), ("HiddenWords", 256, "a place has no such number"), ("HiddenWords", 283, "the search has no such number"), ("HiddenWords", 285, "no such beginning"), ("HiddenWords", 287, "no such number"), ("HiddenWords", 314, "the profile has no such count"), ("HiddenWords", 339, "no such limit"), ("HiddenWords", 345, "this is no place"), ("HiddenWords", 347, "no place of the row is chosen"), ("HiddenWords", 349, "the row is left out"), ("HiddenWords", 358, "no such number of times"), ("HiddenWords", 363, "the word cannot be taken"), ("HiddenWords", 368, "the best word cannot be taken"), ("HiddenWords", 373, "it is so already"), ("HiddenWords", 382, "no such number of changes"), ("HiddenWords", 404, "the report has no such byte"), ("HiddenWords", 410, "nothing was saved"), ("HiddenWords", 412, "no such row"), ("HiddenWords", 414, "no such word"), ("HiddenWords$Script", 98, "choose"), ("HiddenWords$Script", 104, "clear"), ("HiddenWords$Script", 106, "better"), ("HiddenWords$Script", 108, "improve"), ("HiddenWords$Script", 110, "take"), ("HiddenWords$Script", 112, "best"), ("HiddenWords$Script", 114, "out"), ("HiddenWords$Script", 116, "in"), ("HiddenWords$Script", 118, "changes"), ("HiddenWords$Script", 120, "repeat"), ("HiddenWords$TextReader", 39, "letters"), ("HiddenWords$TextReader", 58, "length"), ("HiddenWords$TextReader", 62, "changes"), ("HiddenWords$TextReader", 66, "row")]
def zNest : List (Nat × MethodName) := [(11, ⟨"HiddenWords$Tokens", "<init>", "()V"⟩), (18, ⟨"HiddenWords$TextReader", "<init>", "()V"⟩), (25, ⟨"HiddenWords$Script", "<init>", "()V"⟩), (32, ⟨"HiddenWords$Board", "<init>", "()V"⟩), (49, ⟨"HiddenWords$Search", "<init>", "()V"⟩), (59, ⟨"HiddenWords$Profile", "<init>", "()V"⟩), (66, ⟨"HiddenWords$Tally", "<init>", "()V"⟩)]
def zOK (X : zX) : Prop := X.1.stackTraces = false ∧ (∀ u U : State, zE X u → u.WarmedH U.vm → (∀ q : Nat, q < u.heap.size → ¬ zA X q → U.heap[q]? = u.heap[q]?) → u.heap.size ≤ U.heap.size → zE X U) ∧
  (∀ U : State, zE X U → vx_Zq Bundle.tN "UNASSIGNED_STACK" Bundle.steD (zA X) U U.heap ∧ vx_Zq Bundle.tN "SUPPRESSED_SENTINEL" Bundle.listD (zA X) U U.heap) ∧
  (∀ U : State, zE X U → ∀ q ∈ zExc, ∀ w ∈ (vx_atS RX7 q.2 q.1 zExN).filter (fun w => !goodWord w), ∀ A, w.before A U = true) ∧
  (∀ U : State, zE X U → ∀ q ∈ zStr, vk_R q.1 q.2.1 q.2.2 (X.2.2.2.2.2 (q.1, q.2.1)) U) ∧
  (∀ U : State, zE X U → ∀ q ∈ zNest, va_Nw (.methodLinkNest RX7 q.1 q.2 RX7) U)
/-! LOCALS as a list that keeps its order -/
def zins : List (Nat × Value) → Nat → Value → List (Nat × Value)
  | [], i, v => [(i, v)]
  | (j, w) :: l, i, v => if j = i then (i, v) :: l.filter (fun q => !(q.1 == i)) else (j, w) :: zins l i v
def zput (l : List (Nat × Value)) (i : Nat) (v : Value) : List (Nat × Value) :=
  zins (l.filter (fun q => !(q.1 + 1 == i && q.2.category == 2) && !(v.category == 2 && q.1 == i + 1))) i v
theorem zins_mem : ∀ (l : List (Nat × Value)) (i : Nat) (v : Value) (q : Nat × Value), q ∈ zins l i v → q = (i, v) ∨ (q ∈ l ∧ ¬ q.1 = i) := by
  intro l i v
  induction l with
  | nil => intro q h; simp [zins] at h; exact Or.inl h
  | cons a l ih =>
    intro q h
    obtain ⟨j, w⟩ := a
    unfold zins at h
    by_cases hj : j = i
    · rw [if_pos hj] at h
      rcases List.mem_cons.mp h with h | h
      · exact Or.inl h
      · obtain ⟨h1, h2⟩ := List.mem_filter.mp h
        exact Or.inr ⟨List.mem_cons_of_mem _ h1, by simpa using h2⟩
    · rw [if_neg hj] at h
      rcases List.mem_cons.mp h with h | h
      · subst h; exact Or.inr ⟨List.mem_cons_self, hj⟩
      · rcases ih q h with h | ⟨h1, h2⟩
        · exact Or.inl h
        · exact Or.inr ⟨List.mem_cons_of_mem _ h1, h2⟩
theorem zput_of1 {ls : Array Slot} {nL i : Nat} {v : Value} {lv lv' : List (Nat × Value)} (h : lv_has ls nL ((i, v) :: lv.filter (fun q => !(q.1 == i) && !(q.1 + 1 == i && q.2.category == 2)))) (_ : v.category = 1) (hl : zput lv i v = lv') : lv_has ls nL lv' := by
  subst hl
  refine ⟨h.1, h.2.1, fun q hq => h.2.2 q ?_⟩
  rcases zins_mem _ _ _ _ hq with hq | ⟨hq, hn⟩
  · rw [hq]; exact List.mem_cons_self
  · obtain ⟨h1, h2⟩ := List.mem_filter.mp hq
    refine List.mem_cons_of_mem _ (List.mem_filter.mpr ⟨h1, ?_⟩)
    simp only [Bool.and_eq_true, Bool.not_eq_true'] at h2 ⊢
    exact ⟨by simpa using hn, h2.1⟩
theorem zput_of2 {ls : Array Slot} {nL i : Nat} {v : Value} {lv lv' : List (Nat × Value)} (h : lv_has ls nL ((i, v) :: lv.filter (fun q => !(q.1 == i) && (!(q.1 == i + 1) && !(q.1 + 1 == i && q.2.category == 2))))) (hc : v.category = 2) (hl : zput lv i v = lv') : lv_has ls nL lv' := by
  subst hl
  refine ⟨h.1, h.2.1, fun q hq => h.2.2 q ?_⟩
  rcases zins_mem _ _ _ _ hq with hq | ⟨hq, hn⟩
  · rw [hq]; exact List.mem_cons_self
  · obtain ⟨h1, h2⟩ := List.mem_filter.mp hq
    refine List.mem_cons_of_mem _ (List.mem_filter.mpr ⟨h1, ?_⟩)
    simp only [Bool.and_eq_true, Bool.not_eq_true', hc] at h2 ⊢
    exact ⟨by simpa using hn, by simpa using h2.2, h2.1⟩
section ZR
variable {X : zX} {M : zM} {P : zP} {kc ks pc : Nat} {lv : List (Nat × Value)} {rest : List Value} {ws : va_W}
theorem g_lv {lv' : List (Nat × Value)} (is : List Nat) (hl' : lv_pick lv is = lv') (kk : G X M P kc ks pc lv' rest ws) : G X M P kc ks pc lv rest ws := fun p e s m args below meth c H locs ls I hP hD hS hl => kk p e s m args below meth c H locs ls I hP hD hS (lv_sub hl is hl')
theorem g_ws {ws' : va_W} (h : ws = ws') (kk : G X M P kc ks pc lv rest ws') : G X M P kc ks pc lv rest ws := h ▸ kk
theorem g_st {st' : List Value} (h : rest = st') (kk : G X M P kc ks pc lv st' ws) : G X M P kc ks pc lv rest ws := h ▸ kk
theorem g_pc {pc' : Nat} (h : pc = pc') (kk : G X M P kc ks pc' lv rest ws) : G X M P kc ks pc lv rest ws := h ▸ kk
theorem g_wide {k2 n2 : Nat} (h1 : kc ≤ k2) (h2 : ks ≤ n2) (kk : G X M P k2 n2 pc lv rest ws) : G X M P kc ks pc lv rest ws := fun p e s m args below meth c H locs ls I hP hD hS hl => W.widen h1 h2 (kk p e s m args below meth c H locs ls I hP hD hS hl)
theorem g_iconst {n : Int} {v : Int32} (hdg : decode M.2.1 pc = .ok (.iconst n, 1)) (hv : Int32.ofInt n = v) (kk : G X M P kc ks (pc + 1) lv (.int v :: rest) ws) : G X M P kc ks pc lv (rest) ws := fun p e s m args below meth c H locs ls I hP hD hS hl => lv_iconst I.1 I.2.1 hdg hv (kk p e s m args below meth c H locs ls I hP hD hS hl)
theorem g_bipush {n : Int} {v : Int32} (hdg : decode M.2.1 pc = .ok (.bipush n, 2)) (hv : (Int8.ofInt n).toInt32 = v) (kk : G X M P kc ks (pc + 2) lv (.int v :: rest) ws) : G X M P kc ks pc lv (rest) ws := fun p e s m args below meth c H locs ls I hP hD hS hl => lv_bipush I.1 I.2.1 hdg hv (kk p e s m args below meth c H locs ls I hP hD hS hl)
theorem g_sipush {n : Int} {v : Int32} (hdg : decode M.2.1 pc = .ok (.sipush n, 3)) (hv : (Int16.ofInt n).toInt32 = v) (kk : G X M P kc ks (pc + 3) lv (.int v :: rest) ws) : G X M P kc ks pc lv (rest) ws := fun p e s m args below meth c H locs ls I hP hD hS hl => lv_sipush I.1 I.2.1 hdg hv (kk p e s m args below meth c H locs ls I hP hD hS hl)
theorem g_lconst {n : Fin 2} {v : Int64} (hdg : decode M.2.1 pc = .ok (.lconst n, 1)) (hv : Int64.ofNat (n : Nat) = v) (kk : G X M P kc ks (pc + 1) lv (.long v :: rest) ws) : G X M P kc ks pc lv (rest) ws := fun p e s m args below meth c H locs ls I hP hD hS hl => lv_lconst I.1 I.2.1 hdg hv (kk p e s m args below meth c H locs ls I hP hD hS hl)
theorem g_iadd {x y : Int32} (hdg : decode M.2.1 pc = .ok (.iadd, 1)) (kk : G X M P kc ks (pc + 1) lv (.int (x + y) :: rest) ws) : G X M P kc ks pc lv (.int y :: .int x :: rest) ws := fun p e s m args below meth c H locs ls I hP hD hS hl => lv_iadd I.1 I.2.1 hdg (kk p e s m args below meth c H locs ls I hP hD hS hl)
theorem g_isub {x y : Int32} (hdg : decode M.2.1 pc = .ok (.isub, 1)) (kk : G X M P kc ks (pc + 1) lv (.int (x - y) :: rest) ws) : G X M P kc ks pc lv (.int y :: .int x :: rest) ws := fun p e s m args below meth c H locs ls I hP hD hS hl => lv_isub I.1 I.2.1 hdg (kk p e s m args below meth c H locs ls I hP hD hS hl)
theorem g_imul {x y : Int32} (hdg : decode M.2.1 pc = .ok (.imul, 1)) (kk : G X M P kc ks (pc + 1) lv (.int (x * y) :: rest) ws) : G X M P kc ks pc lv (.int y :: .int x :: rest) ws := fun p e s m args below meth c H locs ls I hP hD hS hl => lv_imul I.1 I.2.1 hdg (kk p e s m args below meth c H locs ls I hP hD hS hl)
theorem g_iand {x y : Int32} (hdg : decode M.2.1 pc = .ok (.iand, 1)) (kk : G X M P kc ks (pc + 1) lv (.int (x &&& y) :: rest) ws) : G X M P kc ks pc lv (.int y :: .int x :: rest) ws := fun p e s m args below meth c H locs ls I hP hD hS hl => lv_iand I.1 I.2.1 hdg (kk p e s m args below meth c H locs ls I hP hD hS hl)
theorem g_ior {x y : Int32} (hdg : decode M.2.1 pc = .ok (.ior, 1)) (kk : G X M P kc ks (pc + 1) lv (.int (x ||| y) :: rest) ws) : G X M P kc ks pc lv (.int y :: .int x :: rest) ws := fun p e s m args below meth c H locs ls I hP hD hS hl => lv_ior I.1 I.2.1 hdg (kk p e s m args below meth c H locs ls I hP hD hS hl)
theorem g_ixor {x y : Int32} (hdg : decode M.2.1 pc = .ok (.ixor, 1)) (kk : G X M P kc ks (pc + 1) lv (.int (x ^^^ y) :: rest) ws) : G X M P kc ks pc lv (.int y :: .int x :: rest) ws := fun p e s m args below meth c H locs ls I hP hD hS hl => lv_ixor I.1 I.2.1 hdg (kk p e s m args below meth c H locs ls I hP hD hS hl)
theorem g_idiv {x y : Int32} (hdg : decode M.2.1 pc = .ok (.idiv, 1)) (hne : ¬ y = 0) (kk : G X M P kc ks (pc + 1) lv (.int (x / y) :: rest) ws) : G X M P kc ks pc lv (.int y :: .int x :: rest) ws := fun p e s m args below meth c H locs ls I hP hD hS hl => lv_idiv I.1 I.2.1 hdg hne (kk p e s m args below meth c H locs ls I hP hD hS hl)
theorem g_irem {x y : Int32} (hdg : decode M.2.1 pc = .ok (.irem, 1)) (hne : ¬ y = 0) (kk : G X M P kc ks (pc + 1) lv (.int (x - x / y * y) :: rest) ws) : G X M P kc ks pc lv (.int y :: .int x :: rest) ws := fun p e s m args below meth c H locs ls I hP hD hS hl => lv_irem I.1 I.2.1 hdg hne (kk p e s m args below meth c H locs ls I hP hD hS hl)
theorem g_ineg {x : Int32} (hdg : decode M.2.1 pc = .ok (.ineg, 1)) (kk : G X M P kc ks (pc + 1) lv (.int (-x) :: rest) ws) : G X M P kc ks pc lv (.int x :: rest) ws := fun p e s m args below meth c H locs ls I hP hD hS hl => lv_ineg I.1 I.2.1 hdg (kk p e s m args below meth c H locs ls I hP hD hS hl)
theorem g_ladd {x y : Int64} (hdg : decode M.2.1 pc = .ok (.ladd, 1)) (kk : G X M P kc ks (pc + 1) lv (.long (x + y) :: rest) ws) : G X M P kc ks pc lv (.long y :: .long x :: rest) ws := fun p e s m args below meth c H locs ls I hP hD hS hl => lv_ladd I.1 I.2.1 hdg (kk p e s m args below meth c H locs ls I hP hD hS hl)
theorem g_lsub {x y : Int64} (hdg : decode M.2.1 pc = .ok (.lsub, 1)) (kk : G X M P kc ks (pc + 1) lv (.long (x - y) :: rest) ws) : G X M P kc ks pc lv (.long y :: .long x :: rest) ws := fun p e s m args below meth c H locs ls I hP hD hS hl => lv_lsub I.1 I.2.1 hdg (kk p e s m args below meth c H locs ls I hP hD hS hl)
theorem g_lmul {x y : Int64} (hdg : decode M.2.1 pc = .ok (.lmul, 1)) (kk : G X M P kc ks (pc + 1) lv (.long (x * y) :: rest) ws) : G X M P kc ks pc lv (.long y :: .long x :: rest) ws := fun p e s m args below meth c H locs ls I hP hD hS hl => lv_lmul I.1 I.2.1 hdg (kk p e s m args below meth c H locs ls I hP hD hS hl)
theorem g_land {x y : Int64} (hdg : decode M.2.1 pc = .ok (.land, 1)) (kk : G X M P kc ks (pc + 1) lv (.long (x &&& y) :: rest) ws) : G X M P kc ks pc lv (.long y :: .long x :: rest) ws := fun p e s m args below meth c H locs ls I hP hD hS hl => lv_land I.1 I.2.1 hdg (kk p e s m args below meth c H locs ls I hP hD hS hl)
theorem g_lor {x y : Int64} (hdg : decode M.2.1 pc = .ok (.lor, 1)) (kk : G X M P kc ks (pc + 1) lv (.long (x ||| y) :: rest) ws) : G X M P kc ks pc lv (.long y :: .long x :: rest) ws := fun p e s m args below meth c H locs ls I hP hD hS hl => lv_lor I.1 I.2.1 hdg (kk p e s m args below meth c H locs ls I hP hD hS hl)
theorem g_lxor {x y : Int64} (hdg : decode M.2.1 pc = .ok (.lxor, 1)) (kk : G X M P kc ks (pc + 1) lv (.long (x ^^^ y) :: rest) ws) : G X M P kc ks pc lv (.long y :: .long x :: rest) ws := fun p e s m args below meth c H locs ls I hP hD hS hl => lv_lxor I.1 I.2.1 hdg (kk p e s m args below meth c H locs ls I hP hD hS hl)
theorem g_ishl {x y : Int32} (hdg : decode M.2.1 pc = .ok (.ishl, 1)) (kk : G X M P kc ks (pc + 1) lv (.int (x <<< (y &&& 31)) :: rest) ws) : G X M P kc ks pc lv (.int y :: .int x :: rest) ws := fun p e s m args below meth c H locs ls I hP hD hS hl => lv_ishl I.1 I.2.1 hdg (kk p e s m args below meth c H locs ls I hP hD hS hl)
theorem g_ishr {x y : Int32} (hdg : decode M.2.1 pc = .ok (.ishr, 1)) (kk : G X M P kc ks (pc + 1) lv (.int (x >>> (y &&& 31)) :: rest) ws) : G X M P kc ks pc lv (.int y :: .int x :: rest) ws := fun p e s m args below meth c H locs ls I hP hD hS hl => lv_ishr I.1 I.2.1 hdg (kk p e s m args below meth c H locs ls I hP hD hS hl)
theorem g_i2l {x : Int32} {v : Int64} (hdg : decode M.2.1 pc = .ok (.i2l, 1)) (hv : x.toInt64 = v) (kk : G X M P kc ks (pc + 1) lv (.long v :: rest) ws) : G X M P kc ks pc lv (.int x :: rest) ws := fun p e s m args below meth c H locs ls I hP hD hS hl => lv_i2l I.1 I.2.1 hdg hv (kk p e s m args below meth c H locs ls I hP hD hS hl)
theorem g_l2i {x : Int64} {v : Int32} (hdg : decode M.2.1 pc = .ok (.l2i, 1)) (hv : x.toInt32 = v) (kk : G X M P kc ks (pc + 1) lv (.int v :: rest) ws) : G X M P kc ks pc lv (.long x :: rest) ws := fun p e s m args below meth c H locs ls I hP hD hS hl => lv_l2i I.1 I.2.1 hdg hv (kk p e s m args below meth c H locs ls I hP hD hS hl)
theorem g_i2b {x : Int32} {v : Int32} (hdg : decode M.2.1 pc = .ok (.i2b, 1)) (hv : x.toInt8.toInt32 = v) (kk : G X M P kc ks (pc + 1) lv (.int v :: rest) ws) : G X M P kc ks pc lv (.int x :: rest) ws := fun p e s m args below meth c H locs ls I hP hD hS hl => lv_i2b I.1 I.2.1 hdg hv (kk p e s m args below meth c H locs ls I hP hD hS hl)
theorem g_i2c {x : Int32} {v : Int32} (hdg : decode M.2.1 pc = .ok (.i2c, 1)) (hv : (x.toUInt32 % 65536).toInt32 = v) (kk : G X M P kc ks (pc + 1) lv (.int v :: rest) ws) : G X M P kc ks pc lv (.int x :: rest) ws := fun p e s m args below meth c H locs ls I hP hD hS hl => lv_i2c I.1 I.2.1 hdg hv (kk p e s m args below meth c H locs ls I hP hD hS hl)
theorem g_iushr {x y v : Int32} (hdg : decode M.2.1 pc = .ok (.iushr, 1)) (hv : (x.toUInt32 >>> (y.toUInt32 &&& Int32.toUInt32 31)).toInt32 = v) (kk : G X M P kc ks (pc + 1) lv (.int v :: rest) ws) : G X M P kc ks pc lv (.int y :: .int x :: rest) ws := fun p e s m args below meth c H locs ls I hP hD hS hl => lv_iushr I.1 I.2.1 hdg hv (kk p e s m args below meth c H locs ls I hP hD hS hl)
theorem g_lushr {x v : Int64} {y : Int32} (hdg : decode M.2.1 pc = .ok (.lushr, 1)) (hv : (x.toUInt64 >>> (y.toInt64.toUInt64 &&& Int64.toUInt64 63)).toInt64 = v) (kk : G X M P kc ks (pc + 1) lv (.long v :: rest) ws) : G X M P kc ks pc lv (.int y :: .long x :: rest) ws := fun p e s m args below meth c H locs ls I hP hD hS hl => lv_lushr I.1 I.2.1 hdg hv (kk p e s m args below meth c H locs ls I hP hD hS hl)
theorem g_lshl {x v : Int64} {y : Int32} (hdg : decode M.2.1 pc = .ok (.lshl, 1)) (hv : x <<< (y.toInt64 &&& 63) = v) (kk : G X M P kc ks (pc + 1) lv (.long v :: rest) ws) : G X M P kc ks pc lv (.int y :: .long x :: rest) ws := fun p e s m args below meth c H locs ls I hP hD hS hl => lv_lshl I.1 I.2.1 hdg hv (kk p e s m args below meth c H locs ls I hP hD hS hl)
theorem g_lshr {x v : Int64} {y : Int32} (hdg : decode M.2.1 pc = .ok (.lshr, 1)) (hv : x >>> (y.toInt64 &&& 63) = v) (kk : G X M P kc ks (pc + 1) lv (.long v :: rest) ws) : G X M P kc ks pc lv (.int y :: .long x :: rest) ws := fun p e s m args below meth c H locs ls I hP hD hS hl => lv_lshr I.1 I.2.1 hdg hv (kk p e s m args below meth c H locs ls I hP hD hS hl)
theorem g_dup {va : Value} (hdg : decode M.2.1 pc = .ok (.dup, 1)) (hva : va.category = 1) (kk : G X M P kc ks (pc + 1) lv (va :: va :: rest) ws) : G X M P kc ks pc lv (va :: rest) ws := fun p e s m args below meth c H locs ls I hP hD hS hl => lv_dup I.1 I.2.1 hdg hva (kk p e s m args below meth c H locs ls I hP hD hS hl)
theorem g_pop {va : Value} (hdg : decode M.2.1 pc = .ok (.pop, 1)) (hva : va.category = 1) (kk : G X M P kc ks (pc + 1) lv (rest) ws) : G X M P kc ks pc lv (va :: rest) ws := fun p e s m args below meth c H locs ls I hP hD hS hl => lv_pop I.1 I.2.1 hdg hva (kk p e s m args below meth c H locs ls I hP hD hS hl)
theorem g_dup2_11 {va vb : Value} (hdg : decode M.2.1 pc = .ok (.dup2, 1)) (hva : va.category = 1) (hvb : vb.category = 1) (kk : G X M P kc ks (pc + 1) lv (va :: vb :: va :: vb :: rest) ws) : G X M P kc ks pc lv (va :: vb :: rest) ws := fun p e s m args below meth c H locs ls I hP hD hS hl => lv_dup2_11 I.1 I.2.1 hdg hva hvb (kk p e s m args below meth c H locs ls I hP hD hS hl)
theorem g_dup_x1 {va vb : Value} (hdg : decode M.2.1 pc = .ok (.dup_x1, 1)) (hva : va.category = 1) (hvb : vb.category = 1) (kk : G X M P kc ks (pc + 1) lv (va :: vb :: va :: rest) ws) : G X M P kc ks pc lv (va :: vb :: rest) ws := fun p e s m args below meth c H locs ls I hP hD hS hl => lv_dup_x1 I.1 I.2.1 hdg hva hvb (kk p e s m args below meth c H locs ls I hP hD hS hl)
theorem g_if_eq {x : Int32} {off : Int} {tgt : Nat} (hdg : decode M.2.1 pc = .ok (.ifCond .eq off, 3)) (ht : (pc : Int) + off = (tgt : Int)) (kt : x = 0 → G X M P kc ks tgt lv rest ws) (kf : ¬ x = 0 → G X M P kc ks (pc + 3) lv rest ws) : G X M P kc ks pc lv (.int x :: rest) ws := fun p e s m args below meth c H locs ls I hP hD hS hl => lv_if_eq I.1 I.2.1 hdg ht (fun z => kt z p e s m args below meth c H locs ls I hP hD hS hl) (fun z => kf z p e s m args below meth c H locs ls I hP hD hS hl)
theorem g_if_ne {x : Int32} {off : Int} {tgt : Nat} (hdg : decode M.2.1 pc = .ok (.ifCond .ne off, 3)) (ht : (pc : Int) + off = (tgt : Int)) (kt : ¬ x = 0 → G X M P kc ks tgt lv rest ws) (kf : x = 0 → G X M P kc ks (pc + 3) lv rest ws) : G X M P kc ks pc lv (.int x :: rest) ws := fun p e s m args below meth c H locs ls I hP hD hS hl => lv_if_ne I.1 I.2.1 hdg ht (fun z => kt z p e s m args below meth c H locs ls I hP hD hS hl) (fun z => kf z p e s m args below meth c H locs ls I hP hD hS hl)
theorem g_if_lt {x : Int32} {off : Int} {tgt : Nat} (hdg : decode M.2.1 pc = .ok (.ifCond .lt off, 3)) (ht : (pc : Int) + off = (tgt : Int)) (kt : x < 0 → G X M P kc ks tgt lv rest ws) (kf : ¬ x < 0 → G X M P kc ks (pc + 3) lv rest ws) : G X M P kc ks pc lv (.int x :: rest) ws := fun p e s m args below meth c H locs ls I hP hD hS hl => lv_if_lt I.1 I.2.1 hdg ht (fun z => kt z p e s m args below meth c H locs ls I hP hD hS hl) (fun z => kf z p e s m args below meth c H locs ls I hP hD hS hl)
theorem g_if_ge {x : Int32} {off : Int} {tgt : Nat} (hdg : decode M.2.1 pc = .ok (.ifCond .ge off, 3)) (ht : (pc : Int) + off = (tgt : Int)) (kt : 0 ≤ x → G X M P kc ks tgt lv rest ws) (kf : ¬ 0 ≤ x → G X M P kc ks (pc + 3) lv rest ws) : G X M P kc ks pc lv (.int x :: rest) ws := fun p e s m args below meth c H locs ls I hP hD hS hl => lv_if_ge I.1 I.2.1 hdg ht (fun z => kt z p e s m args below meth c H locs ls I hP hD hS hl) (fun z => kf z p e s m args below meth c H locs ls I hP hD hS hl)
theorem g_if_gt {x : Int32} {off : Int} {tgt : Nat} (hdg : decode M.2.1 pc = .ok (.ifCond .gt off, 3)) (ht : (pc : Int) + off = (tgt : Int)) (kt : 0 < x → G X M P kc ks tgt lv rest ws) (kf : ¬ 0 < x → G X M P kc ks (pc + 3) lv rest ws) : G X M P kc ks pc lv (.int x :: rest) ws := fun p e s m args below meth c H locs ls I hP hD hS hl => lv_if_gt I.1 I.2.1 hdg ht (fun z => kt z p e s m args below meth c H locs ls I hP hD hS hl) (fun z => kf z p e s m args below meth c H locs ls I hP hD hS hl)
theorem g_if_le {x : Int32} {off : Int} {tgt : Nat} (hdg : decode M.2.1 pc = .ok (.ifCond .le off, 3)) (ht : (pc : Int) + off = (tgt : Int)) (kt : x ≤ 0 → G X M P kc ks tgt lv rest ws) (kf : ¬ x ≤ 0 → G X M P kc ks (pc + 3) lv rest ws) : G X M P kc ks pc lv (.int x :: rest) ws := fun p e s m args below meth c H locs ls I hP hD hS hl => lv_if_le I.1 I.2.1 hdg ht (fun z => kt z p e s m args below meth c H locs ls I hP hD hS hl) (fun z => kf z p e s m args below meth c H locs ls I hP hD hS hl)
theorem g_icmp_eq {x y : Int32} {off : Int} {tgt : Nat} (hdg : decode M.2.1 pc = .ok (.if_icmp .eq off, 3)) (ht : (pc : Int) + off = (tgt : Int)) (kt : x = y → G X M P kc ks tgt lv rest ws) (kf : ¬ x = y → G X M P kc ks (pc + 3) lv rest ws) : G X M P kc ks pc lv (.int y :: .int x :: rest) ws := fun p e s m args below meth c H locs ls I hP hD hS hl => lv_icmp_eq I.1 I.2.1 hdg ht (fun z => kt z p e s m args below meth c H locs ls I hP hD hS hl) (fun z => kf z p e s m args below meth c H locs ls I hP hD hS hl)
theorem g_icmp_ne {x y : Int32} {off : Int} {tgt : Nat} (hdg : decode M.2.1 pc = .ok (.if_icmp .ne off, 3)) (ht : (pc : Int) + off = (tgt : Int)) (kt : ¬ x = y → G X M P kc ks tgt lv rest ws) (kf : x = y → G X M P kc ks (pc + 3) lv rest ws) : G X M P kc ks pc lv (.int y :: .int x :: rest) ws := fun p e s m args below meth c H locs ls I hP hD hS hl => lv_icmp_ne I.1 I.2.1 hdg ht (fun z => kt z p e s m args below meth c H locs ls I hP hD hS hl) (fun z => kf z p e s m args below meth c H locs ls I hP hD hS hl)
theorem g_icmp_lt {x y : Int32} {off : Int} {tgt : Nat} (hdg : decode M.2.1 pc = .ok (.if_icmp .lt off, 3)) (ht : (pc : Int) + off = (tgt : Int)) (kt : x < y → G X M P kc ks tgt lv rest ws) (kf : ¬ x < y → G X M P kc ks (pc + 3) lv rest ws) : G X M P kc ks pc lv (.int y :: .int x :: rest) ws := fun p e s m args below meth c H locs ls I hP hD hS hl => lv_icmp_lt I.1 I.2.1 hdg ht (fun z => kt z p e s m args below meth c H locs ls I hP hD hS hl) (fun z => kf z p e s m args below meth c H locs ls I hP hD hS hl)
theorem g_icmp_ge {x y : Int32} {off : Int} {tgt : Nat} (hdg : decode M.2.1 pc = .ok (.if_icmp .ge off, 3)) (ht : (pc : Int) + off = (tgt : Int)) (kt : y ≤ x → G X M P kc ks tgt lv rest ws) (kf : ¬ y ≤ x → G X M P kc ks (pc + 3) lv rest ws) : G X M P kc ks pc lv (.int y :: .int x :: rest) ws := fun p e s m args below meth c H locs ls I hP hD hS hl => lv_icmp_ge I.1 I.2.1 hdg ht (fun z => kt z p e s m args below meth c H locs ls I hP hD hS hl) (fun z => kf z p e s m args below meth c H locs ls I hP hD hS hl)
theorem g_icmp_gt {x y : Int32} {off : Int} {tgt : Nat} (hdg : decode M.2.1 pc = .ok (.if_icmp .gt off, 3)) (ht : (pc : Int) + off = (tgt : Int)) (kt : y < x → G X M P kc ks tgt lv rest ws) (kf : ¬ y < x → G X M P kc ks (pc + 3) lv rest ws) : G X M P kc ks pc lv (.int y :: .int x :: rest) ws := fun p e s m args below meth c H locs ls I hP hD hS hl => lv_icmp_gt I.1 I.2.1 hdg ht (fun z => kt z p e s m args below meth c H locs ls I hP hD hS hl) (fun z => kf z p e s m args below meth c H locs ls I hP hD hS hl)
theorem g_icmp_le {x y : Int32} {off : Int} {tgt : Nat} (hdg : decode M.2.1 pc = .ok (.if_icmp .le off, 3)) (ht : (pc : Int) + off = (tgt : Int)) (kt : x ≤ y → G X M P kc ks tgt lv rest ws) (kf : ¬ x ≤ y → G X M P kc ks (pc + 3) lv rest ws) : G X M P kc ks pc lv (.int y :: .int x :: rest) ws := fun p e s m args below meth c H locs ls I hP hD hS hl => lv_icmp_le I.1 I.2.1 hdg ht (fun z => kt z p e s m args below meth c H locs ls I hP hD hS hl) (fun z => kf z p e s m args below meth c H locs ls I hP hD hS hl)
theorem g_goto {off : Int} {tgt : Nat} (hdg : decode M.2.1 pc = .ok (.goto off, 3)) (ht : (pc : Int) + off = (tgt : Int)) (kk : G X M P kc ks tgt lv rest ws) : G X M P kc ks pc lv rest ws := fun p e s m args below meth c H locs ls I hP hD hS hl => lv_goto I.1 I.2.1 hdg ht (kk p e s m args below meth c H locs ls I hP hD hS hl)
theorem g_tableIn {dflt lo hi : Int} {offs : Array Int} {len : Nat} {x : Int32} {off : Int} {tgt : Nat} (hdg : decode M.2.1 pc = .ok (.tableswitch dflt lo hi offs, len)) (h1 : ¬ x.toInt < lo) (h2 : ¬ hi < x.toInt) (ho : offs[(x.toInt - lo).toNat]? = some off) (ht : (pc : Int) + off = (tgt : Int)) (kk : G X M P kc ks tgt lv rest ws) : G X M P kc ks pc lv (.int x :: rest) ws := fun p e s m args below meth c H locs ls I hP hD hS hl => lv_tableIn I.1 I.2.1 hdg h1 h2 ho ht (kk p e s m args below meth c H locs ls I hP hD hS hl)
theorem g_tableOut {dflt lo hi : Int} {offs : Array Int} {len : Nat} {x : Int32} {tgt : Nat} (hdg : decode M.2.1 pc = .ok (.tableswitch dflt lo hi offs, len)) (h : x.toInt < lo ∨ hi < x.toInt) (ht : (pc : Int) + dflt = (tgt : Int)) (kk : G X M P kc ks tgt lv rest ws) : G X M P kc ks pc lv (.int x :: rest) ws := fun p e s m args below meth c H locs ls I hP hD hS hl => lv_tableOut I.1 I.2.1 hdg h ht (kk p e s m args below meth c H locs ls I hP hD hS hl)
theorem g_null  (hdg : decode M.2.1 pc = .ok (.aconst_null, 1)) (kk : G X M P kc ks (pc + 1) lv (.null :: rest) ws) : G X M P kc ks pc lv rest ws := fun p e s m args below meth c H locs ls I hP hD hS hl => lv_null I.1 I.2.1 hdg (kk p e s m args below meth c H locs ls I hP hD hS hl)
theorem g_fconst0  (hdg : decode M.2.1 pc = .ok (.fconst 0, 1)) (kk : G X M P kc ks (pc + 1) lv (.float FP.fconst0 :: rest) ws) : G X M P kc ks pc lv (rest) ws := fun p e s m args below meth c H locs ls I hP hD hS hl => lv_fconst0 I.1 I.2.1 hdg (kk p e s m args below meth c H locs ls I hP hD hS hl)
theorem g_dconst0  (hdg : decode M.2.1 pc = .ok (.dconst 0, 1)) (kk : G X M P kc ks (pc + 1) lv (.double FP.dconst0 :: rest) ws) : G X M P kc ks pc lv (rest) ws := fun p e s m args below meth c H locs ls I hP hD hS hl => lv_dconst0 I.1 I.2.1 hdg (kk p e s m args below meth c H locs ls I hP hD hS hl)
theorem g_i2f {x : Int32} (hdg : decode M.2.1 pc = .ok (.i2f, 1)) (kk : G X M P kc ks (pc + 1) lv (.float (FP.i2f x) :: rest) ws) : G X M P kc ks pc lv (.int x :: rest) ws := fun p e s m args below meth c H locs ls I hP hD hS hl => lv_i2f I.1 I.2.1 hdg (kk p e s m args below meth c H locs ls I hP hD hS hl)
theorem g_i2d {x : Int32} (hdg : decode M.2.1 pc = .ok (.i2d, 1)) (kk : G X M P kc ks (pc + 1) lv (.double (FP.i2d x) :: rest) ws) : G X M P kc ks pc lv (.int x :: rest) ws := fun p e s m args below meth c H locs ls I hP hD hS hl => lv_i2d I.1 I.2.1 hdg (kk p e s m args below meth c H locs ls I hP hD hS hl)
theorem g_f2d {x : UInt32} (hdg : decode M.2.1 pc = .ok (.f2d, 1)) (hne : vf_n64 (FP.f2d x)) (kk : G X M P kc ks (pc + 1) lv (.double (FP.f2d x) :: rest) ws) : G X M P kc ks pc lv (.float x :: rest) ws := fun p e s m args below meth c H locs ls I hP hD hS hl => lv_f2d I.1 I.2.1 hdg hne (kk p e s m args below meth c H locs ls I hP hD hS hl)
theorem g_fdiv {x y : UInt32} (hdg : decode M.2.1 pc = .ok (.fdiv, 1)) (hne : vf_n32 (FP.fdiv x y)) (kk : G X M P kc ks (pc + 1) lv (.float (FP.fdiv x y) :: rest) ws) : G X M P kc ks pc lv (.float y :: .float x :: rest) ws := fun p e s m args below meth c H locs ls I hP hD hS hl => lv_fdiv I.1 I.2.1 hdg hne (kk p e s m args below meth c H locs ls I hP hD hS hl)
theorem g_ddiv {x y : UInt64} (hdg : decode M.2.1 pc = .ok (.ddiv, 1)) (hne : vf_n64 (FP.ddiv x y)) (kk : G X M P kc ks (pc + 1) lv (.double (FP.ddiv x y) :: rest) ws) : G X M P kc ks pc lv (.double y :: .double x :: rest) ws := fun p e s m args below meth c H locs ls I hP hD hS hl => lv_ddiv I.1 I.2.1 hdg hne (kk p e s m args below meth c H locs ls I hP hD hS hl)
theorem g_dcmp {x y : UInt64} {op : CmpOp} (hdg : decode M.2.1 pc = .ok (.dcmp op, 1)) (kk : G X M P kc ks (pc + 1) lv (.int (Op.cmpValue (FP.dcmp x y) op) :: rest) ws) : G X M P kc ks pc lv (.double y :: .double x :: rest) ws := fun p e s m args below meth c H locs ls I hP hD hS hl => lv_dcmp I.1 I.2.1 hdg (kk p e s m args below meth c H locs ls I hP hD hS hl)
theorem g_fcmp {x y : UInt32} {op : CmpOp} (hdg : decode M.2.1 pc = .ok (.fcmp op, 1)) (kk : G X M P kc ks (pc + 1) lv (.int (Op.cmpValue (FP.fcmp x y) op) :: rest) ws) : G X M P kc ks pc lv (.float y :: .float x :: rest) ws := fun p e s m args below meth c H locs ls I hP hD hS hl => lv_fcmp I.1 I.2.1 hdg (kk p e s m args below meth c H locs ls I hP hD hS hl)
theorem g_lcmp {x y : Int64} (hdg : decode M.2.1 pc = .ok (.lcmp, 1)) (kk : G X M P kc ks (pc + 1) lv (.int (lg_cmp x y) :: rest) ws) : G X M P kc ks pc lv (.long y :: .long x :: rest) ws := fun p e s m args below meth c H locs ls I hP hD hS hl => W.lcmp I.1 I.2.1 hdg (kk p e s m args below meth c H locs ls I hP hD hS hl)
theorem g_iload_n {q : Fin 4} {i : Nat} {x : Int32} (hdg : decode M.2.1 pc = .ok (.iload_n q, 1)) (j : Nat) (hj : lv[j]? = some (i, .int x)) (hi : (q : Nat) = i) (kk : G X M P kc ks (pc + 1) lv (.int x :: rest) ws) : G X M P kc ks pc lv rest ws := fun p e s m args below meth c H locs ls I hP hD hS hl => lv_iload_n I.1 I.2.1 hdg hi (lv_at hl j hj) (kk p e s m args below meth c H locs ls I hP hD hS hl)
theorem g_iload {i : Nat} {x : Int32} (hdg : decode M.2.1 pc = .ok (.iload i, 2)) (j : Nat) (hj : lv[j]? = some (i, .int x)) (kk : G X M P kc ks (pc + 2) lv (.int x :: rest) ws) : G X M P kc ks pc lv rest ws := fun p e s m args below meth c H locs ls I hP hD hS hl => lv_iload I.1 I.2.1 hdg (lv_at hl j hj) (kk p e s m args below meth c H locs ls I hP hD hS hl)
theorem g_istore_n {q : Fin 4} {i : Nat} {x : Int32} {lv' : List (Nat × Value)} (hdg : decode M.2.1 pc = .ok (.istore_n q, 1)) (hi : (q : Nat) = i) (hn : i < M.2.2.1) (hl' : zput lv i (.int x) = lv') (kk : G X M P kc ks (pc + 1) lv' rest ws) : G X M P kc ks pc lv (.int x :: rest) ws := fun p e s m args below meth c H locs ls I hP hD hS hl => lv_istore_n I.1 I.2.1 hdg hi hl hn rfl (fun ls' hl2 => kk p e s m args below meth c H locs ls' I hP hD hS (zput_of1 hl2 rfl hl'))
theorem g_istore {i : Nat} {x : Int32} {lv' : List (Nat × Value)} (hdg : decode M.2.1 pc = .ok (.istore i, 2)) (hn : i < M.2.2.1) (hl' : zput lv i (.int x) = lv') (kk : G X M P kc ks (pc + 2) lv' rest ws) : G X M P kc ks pc lv (.int x :: rest) ws := fun p e s m args below meth c H locs ls I hP hD hS hl => lv_istore I.1 I.2.1 hdg hl hn rfl (fun ls' hl2 => kk p e s m args below meth c H locs ls' I hP hD hS (zput_of1 hl2 rfl hl'))
theorem g_lload_n {q : Fin 4} {i : Nat} {x : Int64} (hdg : decode M.2.1 pc = .ok (.lload_n q, 1)) (j : Nat) (hj : lv[j]? = some (i, .long x)) (hi : (q : Nat) = i) (kk : G X M P kc ks (pc + 1) lv (.long x :: rest) ws) : G X M P kc ks pc lv rest ws := fun p e s m args below meth c H locs ls I hP hD hS hl => lv_lload_n I.1 I.2.1 hdg hi (lv_at hl j hj) (kk p e s m args below meth c H locs ls I hP hD hS hl)
theorem g_lload {i : Nat} {x : Int64} (hdg : decode M.2.1 pc = .ok (.lload i, 2)) (j : Nat) (hj : lv[j]? = some (i, .long x)) (kk : G X M P kc ks (pc + 2) lv (.long x :: rest) ws) : G X M P kc ks pc lv rest ws := fun p e s m args below meth c H locs ls I hP hD hS hl => lv_lload I.1 I.2.1 hdg (lv_at hl j hj) (kk p e s m args below meth c H locs ls I hP hD hS hl)
theorem g_lstore_n {q : Fin 4} {i : Nat} {x : Int64} {lv' : List (Nat × Value)} (hdg : decode M.2.1 pc = .ok (.lstore_n q, 1)) (hi : (q : Nat) = i) (hn : i + 1 < M.2.2.1) (hl' : zput lv i (.long x) = lv') (kk : G X M P kc ks (pc + 1) lv' rest ws) : G X M P kc ks pc lv (.long x :: rest) ws := fun p e s m args below meth c H locs ls I hP hD hS hl => lv_lstore_n I.1 I.2.1 hdg hi hl hn rfl (fun ls' hl2 => kk p e s m args below meth c H locs ls' I hP hD hS (zput_of2 hl2 rfl hl'))
theorem g_lstore {i : Nat} {x : Int64} {lv' : List (Nat × Value)} (hdg : decode M.2.1 pc = .ok (.lstore i, 2)) (hn : i + 1 < M.2.2.1) (hl' : zput lv i (.long x) = lv') (kk : G X M P kc ks (pc + 2) lv' rest ws) : G X M P kc ks pc lv (.long x :: rest) ws := fun p e s m args below meth c H locs ls I hP hD hS hl => lv_lstore I.1 I.2.1 hdg hl hn rfl (fun ls' hl2 => kk p e s m args below meth c H locs ls' I hP hD hS (zput_of2 hl2 rfl hl'))
theorem g_aload_n {q : Fin 4} {i : Nat} {x : Nat} (hdg : decode M.2.1 pc = .ok (.aload_n q, 1)) (j : Nat) (hj : lv[j]? = some (i, .ref x)) (hi : (q : Nat) = i) (kk : G X M P kc ks (pc + 1) lv (.ref x :: rest) ws) : G X M P kc ks pc lv rest ws := fun p e s m args below meth c H locs ls I hP hD hS hl => lv_aload_n I.1 I.2.1 hdg hi (lv_at hl j hj) (kk p e s m args below meth c H locs ls I hP hD hS hl)
theorem g_aload {i : Nat} {x : Nat} (hdg : decode M.2.1 pc = .ok (.aload i, 2)) (j : Nat) (hj : lv[j]? = some (i, .ref x)) (kk : G X M P kc ks (pc + 2) lv (.ref x :: rest) ws) : G X M P kc ks pc lv rest ws := fun p e s m args below meth c H locs ls I hP hD hS hl => lv_aload I.1 I.2.1 hdg (lv_at hl j hj) (kk p e s m args below meth c H locs ls I hP hD hS hl)
theorem g_astore_n {q : Fin 4} {i : Nat} {x : Nat} {lv' : List (Nat × Value)} (hdg : decode M.2.1 pc = .ok (.astore_n q, 1)) (hi : (q : Nat) = i) (hn : i < M.2.2.1) (hl' : zput lv i (.ref x) = lv') (kk : G X M P kc ks (pc + 1) lv' rest ws) : G X M P kc ks pc lv (.ref x :: rest) ws := fun p e s m args below meth c H locs ls I hP hD hS hl => lv_astore_n I.1 I.2.1 hdg hi hl hn rfl (fun ls' hl2 => kk p e s m args below meth c H locs ls' I hP hD hS (zput_of1 hl2 rfl hl'))
theorem g_astore {i : Nat} {x : Nat} {lv' : List (Nat × Value)} (hdg : decode M.2.1 pc = .ok (.astore i, 2)) (hn : i < M.2.2.1) (hl' : zput lv i (.ref x) = lv') (kk : G X M P kc ks (pc + 2) lv' rest ws) : G X M P kc ks pc lv (.ref x :: rest) ws := fun p e s m args below meth c H locs ls I hP hD hS hl => lv_astore I.1 I.2.1 hdg hl hn rfl (fun ls' hl2 => kk p e s m args below meth c H locs ls' I hP hD hS (zput_of1 hl2 rfl hl'))
theorem g_dload_n {q : Fin 4} {i : Nat} {x : UInt64} (hdg : decode M.2.1 pc = .ok (.dload_n q, 1)) (j : Nat) (hj : lv[j]? = some (i, .double x)) (hi : (q : Nat) = i) (kk : G X M P kc ks (pc + 1) lv (.double x :: rest) ws) : G X M P kc ks pc lv rest ws := fun p e s m args below meth c H locs ls I hP hD hS hl => lv_dload_n I.1 I.2.1 hdg hi (lv_at hl j hj) (kk p e s m args below meth c H locs ls I hP hD hS hl)
theorem g_dload {i : Nat} {x : UInt64} (hdg : decode M.2.1 pc = .ok (.dload i, 2)) (j : Nat) (hj : lv[j]? = some (i, .double x)) (kk : G X M P kc ks (pc + 2) lv (.double x :: rest) ws) : G X M P kc ks pc lv rest ws := fun p e s m args below meth c H locs ls I hP hD hS hl => lv_dload I.1 I.2.1 hdg (lv_at hl j hj) (kk p e s m args below meth c H locs ls I hP hD hS hl)
theorem g_dstore_n {q : Fin 4} {i : Nat} {x : UInt64} {lv' : List (Nat × Value)} (hdg : decode M.2.1 pc = .ok (.dstore_n q, 1)) (hi : (q : Nat) = i) (hn : i + 1 < M.2.2.1) (hl' : zput lv i (.double x) = lv') (kk : G X M P kc ks (pc + 1) lv' rest ws) : G X M P kc ks pc lv (.double x :: rest) ws := fun p e s m args below meth c H locs ls I hP hD hS hl => lv_dstore_n I.1 I.2.1 hdg hi hl hn rfl (fun ls' hl2 => kk p e s m args below meth c H locs ls' I hP hD hS (zput_of2 hl2 rfl hl'))
theorem g_dstore {i : Nat} {x : UInt64} {lv' : List (Nat × Value)} (hdg : decode M.2.1 pc = .ok (.dstore i, 2)) (hn : i + 1 < M.2.2.1) (hl' : zput lv i (.double x) = lv') (kk : G X M P kc ks (pc + 2) lv' rest ws) : G X M P kc ks pc lv (.double x :: rest) ws := fun p e s m args below meth c H locs ls I hP hD hS hl => lv_dstore I.1 I.2.1 hdg hl hn rfl (fun ls' hl2 => kk p e s m args below meth c H locs ls' I hP hD hS (zput_of2 hl2 rfl hl'))
theorem g_fload_n {q : Fin 4} {i : Nat} {x : UInt32} (hdg : decode M.2.1 pc = .ok (.fload_n q, 1)) (j : Nat) (hj : lv[j]? = some (i, .float x)) (hi : (q : Nat) = i) (kk : G X M P kc ks (pc + 1) lv (.float x :: rest) ws) : G X M P kc ks pc lv rest ws := fun p e s m args below meth c H locs ls I hP hD hS hl => lv_fload_n I.1 I.2.1 hdg hi (lv_at hl j hj) (kk p e s m args below meth c H locs ls I hP hD hS hl)
theorem g_fload {i : Nat} {x : UInt32} (hdg : decode M.2.1 pc = .ok (.fload i, 2)) (j : Nat) (hj : lv[j]? = some (i, .float x)) (kk : G X M P kc ks (pc + 2) lv (.float x :: rest) ws) : G X M P kc ks pc lv rest ws := fun p e s m args below meth c H locs ls I hP hD hS hl => lv_fload I.1 I.2.1 hdg (lv_at hl j hj) (kk p e s m args below meth c H locs ls I hP hD hS hl)
theorem g_fstore_n {q : Fin 4} {i : Nat} {x : UInt32} {lv' : List (Nat × Value)} (hdg : decode M.2.1 pc = .ok (.fstore_n q, 1)) (hi : (q : Nat) = i) (hn : i < M.2.2.1) (hl' : zput lv i (.float x) = lv') (kk : G X M P kc ks (pc + 1) lv' rest ws) : G X M P kc ks pc lv (.float x :: rest) ws := fun p e s m args below meth c H locs ls I hP hD hS hl => lv_fstore_n I.1 I.2.1 hdg hi hl hn rfl (fun ls' hl2 => kk p e s m args below meth c H locs ls' I hP hD hS (zput_of1 hl2 rfl hl'))
theorem g_fstore {i : Nat} {x : UInt32} {lv' : List (Nat × Value)} (hdg : decode M.2.1 pc = .ok (.fstore i, 2)) (hn : i < M.2.2.1) (hl' : zput lv i (.float x) = lv') (kk : G X M P kc ks (pc + 2) lv' rest ws) : G X M P kc ks pc lv (.float x :: rest) ws := fun p e s m args below meth c H locs ls I hP hD hS hl => lv_fstore I.1 I.2.1 hdg hl hn rfl (fun ls' hl2 => kk p e s m args below meth c H locs ls' I hP hD hS (zput_of1 hl2 rfl hl'))
theorem g_iinc {i j : Nat} {d : Int} {x v : Int32} {lv' : List (Nat × Value)} (hdg : decode M.2.1 pc = .ok (.iinc i d, 3)) (hj : lv[j]? = some (i, .int x)) (hv : x + Int32.ofInt d = v) (hn : i < M.2.2.1) (hl' : zput lv i (.int v) = lv') (kk : G X M P kc ks (pc + 3) lv' rest ws) : G X M P kc ks pc lv rest ws := fun p e s m args below meth c H locs ls I hP hD hS hl => lv_iinc I.1 I.2.1 hdg hl hj hv hn rfl (fun ls' hl2 => kk p e s m args below meth c H locs ls' I hP hD hS (zput_of1 hl2 rfl hl'))
theorem g_ldc {ix : Nat} {v : Int32} (hdg : decode M.2.1 pc = .ok (.ldc ix, 2)) (hw : Cond.constant M.1 ix v ∈ zW) (kk : G X M P kc ks (pc + 2) lv (.int v :: rest) ws) : G X M P kc ks pc lv rest ws := fun p e s m args below meth c H locs ls I hP hD hS hl => lv_ldc I.1 I.2.1 I.2.2.2.2.1 (I.2.2.2.2.2.1 _ hw) hdg (kk p e s m args below meth c H locs ls I hP hD hS hl)
theorem g_ldcw {ix : Nat} {v : Int32} (hdg : decode M.2.1 pc = .ok (.ldc_w ix, 3)) (hw : Cond.constant M.1 ix v ∈ zW) (kk : G X M P kc ks (pc + 3) lv (.int v :: rest) ws) : G X M P kc ks pc lv rest ws := fun p e s m args below meth c H locs ls I hP hD hS hl => lv_ldcw I.1 I.2.1 I.2.2.2.2.1 (I.2.2.2.2.2.1 _ hw) hdg (kk p e s m args below meth c H locs ls I hP hD hS hl)
theorem g_ldc2 {ix : Nat} {v : Int64} (hdg : decode M.2.1 pc = .ok (.ldc2_w ix, 3)) (hw : Cond.constantLong M.1 ix v ∈ zW) (kk : G X M P kc ks (pc + 3) lv (.long v :: rest) ws) : G X M P kc ks pc lv rest ws := fun p e s m args below meth c H locs ls I hP hD hS hl => lv_ldc2 I.1 I.2.1 I.2.2.2.2.1 (I.2.2.2.2.2.1 _ hw) hdg (kk p e s m args below meth c H locs ls I hP hD hS hl)
/-- what the tables know of a field link: own class, index, class of the world, slot, type, final -/
def zF (own : String) (ix ci fi : Nat) (ty : FieldType) (fin : Bool) : Prop := ∃ (C : String) (T : u_T) (N : Nat) (ty0 : Nat → FieldType), vwCl[ci]? = some (C, T, N) ∧ (∀ w ∈ u_ws C T N, w ∈ zW) ∧ (∀ k, k < N → parseFieldDescriptor (T k).2.2.1 = some (ty0 k)) ∧ (∀ a, a < N → ∀ b, b < N → a ≠ b → (T a).2.1 ≠ (T b).2.1) ∧ fi < N ∧ Cond.fieldLink own ix (T fi).1 (T fi).2.1 (T fi).2.2.1 ∈ zW ∧ (T fi).2.2.2 = fin ∧ parseFieldDescriptor (T fi).2.2.1 = some ty ∧ (fin = true → (T fi).1 = own)
def zFr (own : String) (ix ci fi : Nat) : Prop := ∃ (C : String) (T : u_T) (N : Nat), vwCl[ci]? = some (C, T, N) ∧ (∀ w ∈ u_ws C T N, w ∈ zW) ∧ fi < N ∧ Cond.fieldLink own ix (T fi).1 (T fi).2.1 (T fi).2.2.1 ∈ zW
theorem zF.r {own : String} {ix ci fi : Nat} {ty : FieldType} {fin : Bool} (h : zF own ix ci fi ty fin) : zFr own ix ci fi := by
  obtain ⟨C, T, N, ty0, h1, h2, h3, h4, h5, h6, h7, h8, h9⟩ := h
  exact ⟨C, T, N, h1, h2, h5, h6⟩
theorem g_get {ix ci fi a : Nat} {fs : List Value} {v : Value} (hdg : decode M.2.1 pc = .ok (.getfield ix, 3)) (hF : zFr M.1 ix ci fi) (q : Nat) (he : ws[q]? = some (a, .inr (ci, fs))) (hv : fs[fi]? = some v) (kk : G X M P kc ks (pc + 3) lv (v :: rest) ws) : G X M P kc ks pc lv (.ref a :: rest) ws := by
  obtain ⟨C, T, N, h1, h2, h5, h6⟩ := hF
  exact fun p e s m args below meth c H locs ls I hP hD hS hl => va_get I.1 I.2.1 I.2.2.2.2.2.1 h2 I.2.2.2.2.1 I.2.2.2.2.2.2.2.1 hP q he h1 fi h5 (I.2.2.2.2.2.1 _ h6) (fun _ h => h) hv hdg (kk p e s m args below meth c H locs ls I hP hD hS hl)
theorem g_put {ix ci fi a : Nat} {ty : FieldType} {fs : List Value} {v : Value} (hdg : decode M.2.1 pc = .ok (.putfield ix, 3)) (hF : zF M.1 ix ci fi ty false) (q : Nat) (he : ws[q]? = some (a, .inr (ci, fs))) (hn : narrow ty v = v) (hf : fits ty v = true) (hlt : fi < fs.length) (kk : G X M P kc ks (pc + 3) lv rest (ws.set q (a, .inr (ci, fs.set fi v)))) : G X M P kc ks pc lv (v :: .ref a :: rest) ws := by
  obtain ⟨C, T, N, ty0, h1, h2, h3, h4, h5, h6, h7, h8, h9⟩ := hF
  exact fun p e s m args below meth c H locs ls I hP hD hS hl => va_put I.1 I.2.1 I.2.2.2.2.2.1 h2 ty0 h3 h4 I.2.2.2.2.1 I.2.2.2.2.2.2.2.1 hP hD hS q he h1 fi h5 (I.2.2.2.2.2.1 _ h6) (fun _ h => h) h7 h8 hn hf hlt hdg (fun H1 locs1 hP1 hD1 hS1 => kk p e s m args below meth c H1 locs1 ls I hP1 hD1 hS1 hl)
theorem g_putF {ix ci fi a : Nat} {ty : FieldType} {fs : List Value} {v : Value} (hdg : decode M.2.1 pc = .ok (.putfield ix, 3)) (hF : zF M.1 ix ci fi ty true) (hM : M.2.2.2.2.2 = true) (q : Nat) (he : ws[q]? = some (a, .inr (ci, fs))) (hn : narrow ty v = v) (hf : fits ty v = true) (hlt : fi < fs.length) (kk : G X M P kc ks (pc + 3) lv rest (ws.set q (a, .inr (ci, fs.set fi v)))) : G X M P kc ks pc lv (v :: .ref a :: rest) ws := by
  obtain ⟨C, T, N, ty0, h1, h2, h3, h4, h5, h6, h7, h8, h9⟩ := hF
  exact fun p e s m args below meth c H locs ls I hP hD hS hl => va_putF I.1 I.2.1 I.2.2.2.2.2.1 h2 ty0 h3 h4 I.2.2.2.2.1 I.2.2.2.2.2.2.2.1 hP hD hS q he h1 fi h5 (I.2.2.2.2.2.1 _ h6) (fun _ h => h) h7 (I.2.2.2.2.2.2.2.2.2.2.2 hM) (h9 rfl) h8 hn hf hlt hdg (fun H1 locs1 hP1 hD1 hS1 => kk p e s m args below meth c H1 locs1 ls I hP1 hD1 hS1 hl)
theorem g_iald {a len : Nat} {f : Nat → Int32} {i : Int32} (hdg : decode M.2.1 pc = .ok (.iaload, 1)) (q : Nat) (he : ws[q]? = some (a, aI X len f)) (hin : vp_in i len) (kk : G X M P kc ks (pc + 1) lv (.int (f i.toNatClampNeg) :: rest) ws) : G X M P kc ks pc lv (.int i :: .ref a :: rest) ws := fun p e s m args below meth c H locs ls I hP hD hS hl => va_iald I.1 I.2.1 I.2.2.2.2.2.2.2.1 hP q 0 he rfl hin hdg (kk p e s m args below meth c H locs ls I hP hD hS hl)
theorem g_lald {a len : Nat} {f : Nat → Int64} {i : Int32} (hdg : decode M.2.1 pc = .ok (.laload, 1)) (q : Nat) (he : ws[q]? = some (a, aL X len f)) (hin : vp_in i len) (kk : G X M P kc ks (pc + 1) lv (.long (f i.toNatClampNeg) :: rest) ws) : G X M P kc ks pc lv (.int i :: .ref a :: rest) ws := fun p e s m args below meth c H locs ls I hP hD hS hl => va_lald I.1 I.2.1 I.2.2.2.2.2.2.2.1 hP q 1 he rfl hin hdg (kk p e s m args below meth c H locs ls I hP hD hS hl)
theorem g_bald {a len : Nat} {f : Nat → Int32} {i : Int32} (hdg : decode M.2.1 pc = .ok (.baload, 1)) (q : Nat) (he : ws[q]? = some (a, aB X len f)) (hin : vp_in i len) (kk : G X M P kc ks (pc + 1) lv (.int (f i.toNatClampNeg) :: rest) ws) : G X M P kc ks pc lv (.int i :: .ref a :: rest) ws := fun p e s m args below meth c H locs ls I hP hD hS hl => va_bald I.1 I.2.1 I.2.2.2.2.2.2.2.1 hP q 2 he rfl hin hdg (kk p e s m args below meth c H locs ls I hP hD hS hl)
theorem g_iast {a len : Nat} {f : Nat → Int32} {i x : Int32} (hdg : decode M.2.1 pc = .ok (.iastore, 1)) (q : Nat) (he : ws[q]? = some (a, aI X len f)) (hin : vp_in i len) (kk : G X M P kc ks (pc + 1) lv rest (ws.set q (a, aI X len (upd f i.toNatClampNeg x)))) : G X M P kc ks pc lv (.int x :: .int i :: .ref a :: rest) ws := fun p e s m args below meth c H locs ls I hP hD hS hl => va_iast I.1 I.2.1 I.2.2.2.2.2.2.2.1 hP hD hS q 0 he rfl hin hdg (fun H1 locs1 hP1 hD1 hS1 => kk p e s m args below meth c H1 locs1 ls I hP1 hD1 hS1 hl)
theorem g_last {a len : Nat} {f : Nat → Int64} {i : Int32} {x : Int64} (hdg : decode M.2.1 pc = .ok (.lastore, 1)) (q : Nat) (he : ws[q]? = some (a, aL X len f)) (hin : vp_in i len) (kk : G X M P kc ks (pc + 1) lv rest (ws.set q (a, aL X len (vp_updL f i.toNatClampNeg x)))) : G X M P kc ks pc lv (.long x :: .int i :: .ref a :: rest) ws := fun p e s m args below meth c H locs ls I hP hD hS hl => va_last I.1 I.2.1 I.2.2.2.2.2.2.2.1 hP hD hS q 1 he rfl hin hdg (fun H1 locs1 hP1 hD1 hS1 => kk p e s m args below meth c H1 locs1 ls I hP1 hD1 hS1 hl)
theorem g_bast {a len : Nat} {f : Nat → Int32} {i x : Int32} (hdg : decode M.2.1 pc = .ok (.bastore, 1)) (q : Nat) (he : ws[q]? = some (a, aB X len f)) (hin : vp_in i len) (kk : G X M P kc ks (pc + 1) lv rest (ws.set q (a, aB X len (upd f i.toNatClampNeg x.toInt8.toInt32)))) : G X M P kc ks pc lv (.int x :: .int i :: .ref a :: rest) ws := fun p e s m args below meth c H locs ls I hP hD hS hl => va_bast I.1 I.2.1 I.2.2.2.2.2.2.2.1 hP hD hS q 2 he rfl hin hdg (fun H1 locs1 hP1 hD1 hS1 => kk p e s m args below meth c H1 locs1 ls I hP1 hD1 hS1 hl)
theorem g_aald {a len : Nat} {f : Nat → Option Nat} {i : Int32} (hdg : decode M.2.1 pc = .ok (.aaload, 1)) (q : Nat) (he : ws[q]? = some (a, aQ X len f)) (hin : vp_in i len) (kk : G X M P kc ks (pc + 1) lv (va_rf (f i.toNatClampNeg) :: rest) ws) : G X M P kc ks pc lv (.int i :: .ref a :: rest) ws := fun p e s m args below meth c H locs ls I hP hD hS hl => va_aldq I.1 I.2.1 I.2.2.2.2.2.2.2.1 hP q 3 he rfl hin hdg (kk p e s m args below meth c H locs ls I hP hD hS hl)
theorem g_aast {a len v qk : Nat} {vs : List Value} {f : Nat → Option Nat} {i : Int32} (hdg : decode M.2.1 pc = .ok (.aastore, 1)) (q : Nat) (he : ws[q]? = some (a, aQ X len f)) (hv : ws[qk]? = some (v, .inr (0, vs))) (hin : vp_in i len) (kk : G X M P kc ks (pc + 1) lv rest (ws.set q (a, aQ X len (va_up f i.toNatClampNeg (some v))))) : G X M P kc ks pc lv (.ref v :: .int i :: .ref a :: rest) ws := fun p e s m args below meth c H locs ls I hP hD hS hl => va_astq I.1 I.2.1 I.2.2.2.2.2.2.2.1 hP hD hS q 3 qk 0 he rfl hv rfl hin hdg (fun H1 locs1 hP1 hD1 hS1 => kk p e s m args below meth c H1 locs1 ls I hP1 hD1 hS1 hl)
theorem g_alen {a t : Nat} {cA : ClassId} {ty : FieldType} {x : vp_A} {v : Int32} (hdg : decode M.2.1 pc = .ok (.arraylength, 1)) (q : Nat) (he : ws[q]? = some (a, .inl (cA, x))) (ht : (zT X)[t]? = some (cA, ty)) (hv : Int32.ofNat x.1 = v) (kk : G X M P kc ks (pc + 1) lv (.int v :: rest) ws) : G X M P kc ks pc lv (.ref a :: rest) ws := fun p e s m args below meth c H locs ls I hP hD hS hl => va_alen I.1 I.2.1 I.2.2.2.2.2.2.2.1 hP q t he ht hv hdg (kk p e s m args below meth c H locs ls I hP hD hS hl)
end ZR
/-! ENDS -/
section ZE
variable {X : zX} {M : zM} {fr mc ms : Nat} {Q : va_W → zO → Prop} {kc ks pc : Nat} {lv : List (Nat × Value)} {ws : va_W}
theorem g_iret {v : Int32} (hdg : decode M.2.1 pc = .ok (.ireturn, 1)) (hr : M.2.2.2.1 = some .int) (hk : kc ≤ mc) (hn : ks ≤ ms) (hQ : Q ws (.inl (some (.int v)))) : G X M (zPm X fr mc ms Q) kc ks pc lv [.int v] ws := fun p e s m args below meth c H locs ls I hP hD hS hl => W.widen hk hn (vx_ret (W.iret I.1 I.2.1 (I.2.2.1.trans hr) (fun t ht hW => ⟨_, ws, rfl, hQ, by rw [ht]; exact hP, hD, hS.F ht⟩) (fun q hq => hS.2.2 q hq) hdg I.2.2.2.2.2.2.1))
theorem g_zret {v : Int32} (ty : FieldType) (hdg : decode M.2.1 pc = .ok (.ireturn, 1)) (hr : M.2.2.2.1 = some ty) (hv : narrow ty (.int v) = .int v) (hk : kc ≤ mc) (hn : ks ≤ ms) (hQ : Q ws (.inl (some (.int v)))) : G X M (zPm X fr mc ms Q) kc ks pc lv [.int v] ws := fun p e s m args below meth c H locs ls I hP hD hS hl => W.widen hk hn (vx_ret (W.zret I.1 I.2.1 (I.2.2.1.trans hr) hv (fun t ht hW => ⟨_, ws, rfl, hQ, by rw [ht]; exact hP, hD, hS.F ht⟩) (fun q hq => hS.2.2 q hq) hdg I.2.2.2.2.2.2.1))
theorem g_lret {v : Int64} (hdg : decode M.2.1 pc = .ok (.lreturn, 1)) (hr : M.2.2.2.1 = some .long) (hk : kc ≤ mc) (hn : ks ≤ ms) (hQ : Q ws (.inl (some (.long v)))) : G X M (zPm X fr mc ms Q) kc ks pc lv [.long v] ws := fun p e s m args below meth c H locs ls I hP hD hS hl => W.widen hk hn (vx_ret (W.lret I.1 I.2.1 (I.2.2.1.trans hr) (fun t ht hW => ⟨_, ws, rfl, hQ, by rw [ht]; exact hP, hD, hS.F ht⟩) (fun q hq => hS.2.2 q hq) hdg I.2.2.2.2.2.2.1))
theorem g_fret {v : UInt32} (hdg : decode M.2.1 pc = .ok (.freturn, 1)) (hr : M.2.2.2.1 = some .float) (hk : kc ≤ mc) (hn : ks ≤ ms) (hQ : Q ws (.inl (some (.float v)))) : G X M (zPm X fr mc ms Q) kc ks pc lv [.float v] ws := fun p e s m args below meth c H locs ls I hP hD hS hl => W.widen hk hn (vx_ret (W.fret I.1 I.2.1 (I.2.2.1.trans hr) (fun t ht hW => ⟨_, ws, rfl, hQ, by rw [ht]; exact hP, hD, hS.F ht⟩) (fun q hq => hS.2.2 q hq) hdg I.2.2.2.2.2.2.1))
theorem g_dret {v : UInt64} (hdg : decode M.2.1 pc = .ok (.dreturn, 1)) (hr : M.2.2.2.1 = some .double) (hk : kc ≤ mc) (hn : ks ≤ ms) (hQ : Q ws (.inl (some (.double v)))) : G X M (zPm X fr mc ms Q) kc ks pc lv [.double v] ws := fun p e s m args below meth c H locs ls I hP hD hS hl => W.widen hk hn (vx_ret (W.dret I.1 I.2.1 (I.2.2.1.trans hr) (fun t ht hW => ⟨_, ws, rfl, hQ, by rw [ht]; exact hP, hD, hS.F ht⟩) (fun q hq => hS.2.2 q hq) hdg I.2.2.2.2.2.2.1))
theorem g_aret {a : Nat} {C : String} (hdg : decode M.2.1 pc = .ok (.areturn, 1)) (hr : M.2.2.2.1 = some (.object C)) (hk : kc ≤ mc) (hn : ks ≤ ms) (hQ : Q ws (.inl (some (.ref a)))) : G X M (zPm X fr mc ms Q) kc ks pc lv [.ref a] ws := fun p e s m args below meth c H locs ls I hP hD hS hl => W.widen hk hn (vx_ret (W.aret I.1 I.2.1 (I.2.2.1.trans hr) (Or.inl ⟨_, rfl⟩) (Or.inr ⟨_, rfl⟩) (fun t ht hW => ⟨_, ws, rfl, hQ, by rw [ht]; exact hP, hD, hS.F ht⟩) (fun q hq => hS.2.2 q hq) hdg I.2.2.2.2.2.2.1))
theorem g_vret (hdg : decode M.2.1 pc = .ok (.return_, 1)) (hr : M.2.2.2.1 = none) (hk : kc ≤ mc) (hn : ks ≤ ms) (hQ : Q ws (.inl none)) : G X M (zPm X fr mc ms Q) kc ks pc lv [] ws := fun p e s m args below meth c H locs ls I hP hD hS hl => W.widen hk hn (vx_ret (W.vret I.1 I.2.1 (I.2.2.1.trans hr) (fun t ht hW => ⟨_, ws, rfl, hQ, by rw [ht]; exact hP, hD, hS.F ht⟩) (fun q hq => hS.2.2 q hq) hdg I.2.2.2.2.2.2.1))
/-- an exception goes on to the caller -/
theorem gx_out {E : String} {st : List Value} (hh : M.2.2.2.2.1 = []) (hk : kc ≤ mc) (hn : ks ≤ ms) (hQ : Q ws (.inr E)) : GX X M (zPm X fr mc ms Q) kc ks pc lv st ws E := fun p e s m args below meth c H locs ls q ce I hP hD hS hl hc hv hcl =>
  vx_out (fun x hx => absurd (I.2.2.2.2.2.2.2.2.2.2.1 ▸ hx) (by rw [hh]; exact List.not_mem_nil)) I.2.2.2.2.2.2.1 hc hv hcl (fun t ht _ => ⟨ws, hQ, by rw [ht]; exact hP, hD, hS.F ht⟩) (fun z hz => hS.2.2 z hz) hk hn
end ZE
/-! A METHOD'S CONTRACT OUT OF ITS BODY -/
set_option maxHeartbeats 1000000 in
theorem con_of {X : zX} {y : MethodName} {M : zM} {fr mc ms : Nat} {av : List Value} {ws : va_W} {Q : va_W → zO → Prop} {lv : List (Nat × Value)} (hy : plainName y.cls = true) (hc : y.cls = M.1) (hi : M.2.2.2.2.2 = true → y.name = "<init>") (hh : M.2.2.2.2.1 = []) (hn : (lg_sl av).length ≤ M.2.2.1) (hlv : lv_args 0 av = lv) (body : G X M (zPm X fr mc ms Q) 0 0 0 lv [] ws) : Con X y M fr mc ms av ws Q := by
  obtain ⟨own, bytes, nL, ret, hh', ini⟩ := M
  dsimp only at hc hi hh hn
  subst hh
  refine vx_ofW (cc := bytes) (maxL := nL) (ret := ret) hy rfl ?_
  intro p e s m args below meth c s₁ B hml htab hv
  obtain ⟨rfl, hz, hP, hD, hK, hE⟩ := hv
  have hts := atoms_spec (ws := zY y (own, bytes, nL, ret, [], ini)) B.pre
  have hown : s.vm.findClass y.cls = some m.cls := findClass_of_methodNamed B.named
  have hl := lv_entry av (n := nL) hn
  rw [lg_entry_eq]
  refine body p e s m _ below meth c s.heap [] _ ⟨B.exec, B.bytes, B.returns, hml, by rw [← hc]; exact hown, fun w hw => hts w (List.mem_cons_of_mem _ hw), B.notSynchronized, hK, hE, hz, ?_, fun h => ((name_of_methodNamed B.named B.method).1).trans (hi h)⟩ hP hD va_S.rf (by rw [← hlv]; exact hl)
  cases hq : c.exceptionTable.toList with
  | nil => rfl
  | cons a l => exact (htab a (by rw [hq]; exact List.mem_cons_self)).elim
set_option maxHeartbeats 1000000 in
theorem con_ofH {X : zX} {y : MethodName} {own : String} {bytes : ByteArray} {nL : Nat} {ret : Option FieldType} {h0 : Nat × Nat × Nat × Nat} {hh : List (Nat × Nat × Nat × Nat)} {fr mc ms : Nat} {av : List Value} {ws : va_W} {Q : va_W → zO → Prop} {lv : List (Nat × Value)} (hy : plainName y.cls = true) (hc : y.cls = own) (hn : (lg_sl av).length ≤ nL) (hlv : lv_args 0 av = lv) (body : G X (own, bytes, nL, ret, h0 :: hh, false) (zPm X fr mc ms Q) 0 0 0 lv [] ws) : Con X y (own, bytes, nL, ret, h0 :: hh, false) fr mc ms av ws Q := by
  refine vx_ofWH (cc := bytes) (maxL := nL) (ret := ret) (hh := h0 :: hh) hy rfl ?_
  intro p e s m args below meth c s₁ B hml hv
  obtain ⟨rfl, hz, hP, hD, hK, hE⟩ := hv
  have hts := atoms_spec (ws := zY y (own, bytes, nL, ret, h0 :: hh, false)) B.pre
  have hown : s.vm.findClass y.cls = some m.cls := findClass_of_methodNamed B.named
  have hl := lv_entry av (n := nL) hn
  have htab : c.exceptionTable.toList = tableOf (h0 :: hh) := vx_table (x := y) B (hts _ List.mem_cons_self)
  rw [lg_entry_eq]
  exact body p e s m _ below meth c s.heap [] _ ⟨B.exec, B.bytes, B.returns, hml, by rw [← hc]; exact hown, fun w hw => hts w (List.mem_cons_of_mem _ hw), B.notSynchronized, hK, hE, hz, htab, fun h => by cases h⟩ hP hD va_S.rf (by rw [← hlv]; exact hl)
theorem con_mono {X : zX} {y : MethodName} {M : zM} {fr mc ms : Nat} {av : List Value} {ws : va_W} {Q Q' : va_W → zO → Prop} (h : Con X y M fr mc ms av ws Q) (hQ : ∀ w o, Q w o → Q' w o) : Con X y M fr mc ms av ws Q' := by
  intro p e ha hc hk s m args below hf happ hP hT
  obtain ⟨t, o, a1, b1, b2, b3⟩ := h p e ha hc hk s m args below hf happ hP hT
  refine ⟨t, o, a1, b1, b2, ?_⟩
  rcases b3 with ⟨⟨v, w, e1, e2, e3⟩, e4⟩ | ⟨q, e1, E, ce, L, ⟨w, f1, f2⟩, f3⟩
  · exact Or.inl ⟨⟨v, w, e1, hQ _ _ e2, e3⟩, e4⟩
  · exact Or.inr ⟨q, e1, E, ce, L, ⟨w, hQ _ _ f1, f2⟩, f3⟩
/-! CALLS -/
def zMH (y : MethodName) : Prop := y.cls ≠ "java/lang/invoke/MethodHandle" ∧ y.cls ≠ "java/lang/invoke/VarHandle"
/-- a method's words: virtual, static, constructor -/
def zB0 (y : MethodName) (M' : zM) (np : Nat) : Prop := y.cls = M'.1 ∧ M'.2.2.2.2.1 = [] ∧ Cond.code y M'.2.1 M'.2.2.1 M'.2.2.2.1 ∈ zW ∧ Cond.initialized y.cls ∈ zW ∧ zMH y ∧ (parseMethodDescriptor y.desc).map (fun d => d.parameters.length) = some np
def zV (y : MethodName) (M' : zM) (np ci : Nat) : Prop := zB0 y M' np ∧ Cond.instanceMethod y ∈ zW ∧ Cond.selects y.cls y y ∈ zW ∧ ∃ r : vw_C, vwCl[ci]? = some r ∧ r.1 = y.cls
def zS (y : MethodName) (M' : zM) (np : Nat) : Prop := zB0 y M' np ∧ Cond.static y ∈ zW
def zN (y : MethodName) (M' : zM) (np : Nat) : Prop := zB0 y M' np ∧ M'.2.2.2.1 = none ∧ y.name = "<init>" ∧ Cond.instanceMethod y ∈ zW
section ZC
variable {X : zX} {M : zM} {P : zP} {kc ks pc : Nat} {lv : List (Nat × Value)} {rest : List Value} {ws : va_W}
theorem zB_at {p : Program} {s : State} {m : MethodId} {args : Array Value} {meth : Method} {c : Code} {H : Heap} {locs : List Loc} (hX : zOK X) (I : zI X M p s m args meth c) (hP : va_P (zD X) vwCl ws H) (hD : va_D (zA X) ws) (hS : va_S (zA X) s.heap H locs) (U : State) (hU : U.heap = H) (hW : s.WarmedH U.vm) : zB X ws U := by
  refine ⟨?_, by rw [hU]; exact hP, hD, va_K.moved hW.alike I.2.2.2.2.2.2.2.1, ?_⟩
  · rw [hU]; exact Nat.le_trans I.2.2.2.2.2.2.2.2.2.1 hS.1
  · exact hX.2.1 s U I.2.2.2.2.2.2.2.2.1 hW (fun q h1 h2 => by rw [hU]; exact hS.2.1 q h1 h2) (by rw [hU]; exact hS.1)
theorem zB_blind (hX : zOK X) {av : List Value} : FrameBlind (va_Pc av (zB X ws)) := by
  intro a U g mk h
  obtain ⟨h0, h1, h2, h3, h4, h5⟩ := h
  exact ⟨h0, h1, h2, h3, va_K.moved (u := U) (U := U.calling g mk a) (Vm.Alike.refl U.vm) h4, hX.2.1 U _ h5 (State.WarmedH.refl U) (fun q _ _ => rfl) (Nat.le_refl _)⟩
theorem zcb {p : Program} {s : State} {m : MethodId} {args : Array Value} {meth : Method} {c : Code} {R : Room} {y : MethodName} {M' : zM} {np ix fr mc ms : Nat} (I : zI X M p s m args meth c) (h : zB0 y M' np) (hl : Cond.methodLink M.1 ix y ∈ zW) (hR : fr + 1 ≤ R.frames ∧ 8 + (M'.2.2.1 + 11) + 64 * fr ≤ R.locals) :
    CallB R s args M.1 ix y M'.2.1 M'.2.2.1 M'.2.2.2.1 (zY y M') (zR fr mc ms) mc ms np := by
  obtain ⟨h1, h2, h3, h4, h5, h6⟩ := h
  have hts := I.2.2.2.2.2.1
  have hY : zY y M' = Cond.code y M'.2.1 M'.2.2.1 M'.2.2.2.1 :: zW := by unfold zY; rw [h2]
  refine ⟨rfl, rfl, hR.1, hR.2, ?_, by rw [hY]; exact List.mem_cons_self, hts _ h3, hts _ h4, h5, ?_, hts _ hl⟩
  · intro w hw a' U hW
    have hz : w ∈ zW := by
      rw [hY] at hw
      rcases List.mem_cons.mp hw with e | e
      · rw [e]; exact h3
      · exact e
    exact word_at hW (good_of_word (zW_good hz)) (hts _ hz)
  · intro sig h
    rw [h] at h6
    exact (Option.some.inj h6).symm
theorem z_run {y9 : Array Value} {mc ms : Nat} {st0 : List Value} {Q' : va_W → zO → Prop} {p : Program} {e : Env} {s : State} {m : MethodId} {args : Array Value} {below : List Frame} {meth : Method} {c : Code} {H : Heap} {locs : List Loc} {ls : Array Slot} (I : zI X M p s m args meth c) (hS : va_S (zA X) s.heap H locs) (hl : lv_has ls M.2.2.1 lv)
    (hr : vx_Run p X.1 e P.1 s m args below meth c H locs kc ks mc ms (F0 m pc ls st0) rest (zQc X Q' y9) (zXc X Q') (zA X))
    (kk : ∀ (w : va_W) (v : Option Value), Q' w (.inl v) → G X M P (kc + mc) (ks + ms) (pc + 3) lv (v.toList ++ rest) w)
    (kx : ∀ (w : va_W) (E : String), Q' w (.inr E) → GX X M P (kc + mc) (ks + ms) pc lv rest w E) :
    W p X.1 e P.1 s m args below meth c H locs kc ks (P.2 below args s) (F0 m pc ls st0) := by
  intro T hT X1
  rcases hr T hT X1 with ⟨v, st₀, t, T', L, h0, X', hL, e1, e2, ⟨v', w, ho, hQ, hP', hD', hF⟩, st⟩ | ⟨q, st₀, t, T', L, E, ce, h0, X', hL, e1, e2, ⟨w, hQ, hP', hD', hF⟩, hce, hcv, hcl, st⟩
  · cases ho
    obtain ⟨k1, k2, k3⟩ := vx_keep h0 e1 hS (fun q _ h => h) (fun q h => h) hL hF
    obtain ⟨t2, a1, b1⟩ := kk w v hQ p e s m args below meth c T'.heap (locs ++ L) ls I (by rw [e1]; exact hP') hD' k3 hl T' rfl X'
    exact ⟨t2, st t2 a1, b1⟩
  · obtain ⟨k1, k2, k3⟩ := vx_keep h0 e1 hS (fun q _ h => h) (fun q h => h) hL hF
    obtain ⟨t2, a1, b1⟩ := kx w E hQ p e s m args below meth c T'.heap (locs ++ L) ls q ce I (by rw [e1]; exact hP') hD' k3 hl (by rw [e1]; exact hce) hcv hcl T' rfl X'
    exact ⟨t2, st.trans a1, b1⟩
/-- invokevirtual -/
theorem g_callV {y : MethodName} {M' : zM} {np ci ix fr mc ms b : Nat} {fs : List Value} (As : List Value) {Q' : va_W → zO → Prop} (hX : zOK X) (hdg : decode M.2.1 pc = .ok (.invokevirtual ix, 3)) (hV : zV y M' np ci) (hl : Cond.methodLink M.1 ix y ∈ zW) (hM : Con X y M' fr mc ms (.ref b :: As) ws Q') (q : Nat) (hb : ws[q]? = some (b, .inr (ci, fs)))
    (hn : As.length = np) (hR : fr + 1 ≤ P.1.frames ∧ 8 + (M'.2.2.1 + 11) + 64 * fr ≤ P.1.locals) (hf : kc + mc ≤ P.1.cells ∧ ks + ms ≤ P.1.slots) (hcat : (rest.map fun v => v.category).sum ≤ 8)
    (kk : ∀ (w : va_W) (v : Option Value), Q' w (.inl v) → G X M P (kc + mc) (ks + ms) (pc + 3) lv (v.toList ++ rest) w)
    (kx : ∀ (w : va_W) (E : String), Q' w (.inr E) → GX X M P (kc + mc) (ks + ms) pc lv rest w E) : G X M P kc ks pc lv (As.reverse ++ .ref b :: rest) ws := by
  intro p e s m args below meth c H locs ls I hP hD hS hl2
  obtain ⟨h0, h1, h2, r, h3, h4⟩ := hV
  have hts := I.2.2.2.2.2.1
  refine z_run I hS hl2 (vx_runV (Ts := zW) (own := M.1) (C := y.cls) (nL := M.2.2.1) (As := As) ⟨I.1, I.2.1, I.2.2.2.1, I.2.2.2.2.1, hts⟩ hM ⟨zcb I h0 hl hR, hts _ h1, hts _ h2⟩ ⟨zB_blind hX, ?_, fun U hU hW => ⟨rfl, zB_at hX I hP hD hS U hU hW⟩⟩ rfl hn hl2.1 rfl (lv_room hcat) hdg hf) kk kx
  obtain ⟨cell, g1, g2, g3⟩ := va_recv I.2.2.2.2.2.2.2.1 hP h3 hb
  exact ⟨cell, g1, g2, by rw [← h4]; exact g3⟩
/-- invokestatic -/
theorem g_callS {y : MethodName} {M' : zM} {np ix fr mc ms : Nat} (As : List Value) {Q' : va_W → zO → Prop} (hX : zOK X) (hdg : decode M.2.1 pc = .ok (.invokestatic ix, 3)) (hV : zS y M' np) (hl : Cond.methodLink M.1 ix y ∈ zW) (hM : Con X y M' fr mc ms As ws Q')
    (hn : As.length = np) (hR : fr + 1 ≤ P.1.frames ∧ 8 + (M'.2.2.1 + 11) + 64 * fr ≤ P.1.locals) (hf : kc + mc ≤ P.1.cells ∧ ks + ms ≤ P.1.slots) (hcat : (rest.map fun v => v.category).sum ≤ 8)
    (kk : ∀ (w : va_W) (v : Option Value), Q' w (.inl v) → G X M P (kc + mc) (ks + ms) (pc + 3) lv (v.toList ++ rest) w)
    (kx : ∀ (w : va_W) (E : String), Q' w (.inr E) → GX X M P (kc + mc) (ks + ms) pc lv rest w E) : G X M P kc ks pc lv (As.reverse ++ rest) ws := by
  intro p e s m args below meth c H locs ls I hP hD hS hl2
  obtain ⟨h0, h1⟩ := hV
  have hts := I.2.2.2.2.2.1
  exact z_run I hS hl2 (vx_runS (Ts := zW) (own := M.1) (nL := M.2.2.1) (As := As) ⟨I.1, I.2.1, I.2.2.2.1, I.2.2.2.2.1, hts⟩ hM ⟨zcb I h0 hl hR, hts _ h1⟩ ⟨zB_blind hX, fun U hU hW => ⟨rfl, zB_at hX I hP hD hS U hU hW⟩⟩ rfl hn hl2.1 rfl (lv_room hcat) hdg hf) kk kx
/-- what a callee that can't throw says: the world and the answer are given -/
def zRet (ws' : va_W) (v : Option Value) : va_W → zO → Prop := fun w o => w = ws' ∧ o = .inl v
theorem g_callVr {y : MethodName} {M' : zM} {np ci ix fr mc ms b : Nat} {fs : List Value} (As : List Value) {ws' : va_W} {v : Option Value} (hX : zOK X) (hdg : decode M.2.1 pc = .ok (.invokevirtual ix, 3)) (hV : zV y M' np ci) (hl : Cond.methodLink M.1 ix y ∈ zW) (hM : Con X y M' fr mc ms (.ref b :: As) ws (zRet ws' v)) (q : Nat) (hb : ws[q]? = some (b, .inr (ci, fs)))
    (hn : As.length = np) (hR : fr + 1 ≤ P.1.frames ∧ 8 + (M'.2.2.1 + 11) + 64 * fr ≤ P.1.locals) (hf : kc + mc ≤ P.1.cells ∧ ks + ms ≤ P.1.slots) (hcat : (rest.map fun v => v.category).sum ≤ 8)
    (kk : G X M P (kc + mc) (ks + ms) (pc + 3) lv (v.toList ++ rest) ws') : G X M P kc ks pc lv (As.reverse ++ .ref b :: rest) ws :=
  g_callV As hX hdg hV hl hM q hb hn hR hf hcat (fun w v2 h => by obtain ⟨h1, h2⟩ := h; cases h2; rw [h1]; exact kk) (fun w E h => by cases h.2)
theorem g_callSr {y : MethodName} {M' : zM} {np ix fr mc ms : Nat} (As : List Value) {ws' : va_W} {v : Option Value} (hX : zOK X) (hdg : decode M.2.1 pc = .ok (.invokestatic ix, 3)) (hV : zS y M' np) (hl : Cond.methodLink M.1 ix y ∈ zW) (hM : Con X y M' fr mc ms As ws (zRet ws' v))
    (hn : As.length = np) (hR : fr + 1 ≤ P.1.frames ∧ 8 + (M'.2.2.1 + 11) + 64 * fr ≤ P.1.locals) (hf : kc + mc ≤ P.1.cells ∧ ks + ms ≤ P.1.slots) (hcat : (rest.map fun v => v.category).sum ≤ 8)
    (kk : G X M P (kc + mc) (ks + ms) (pc + 3) lv (v.toList ++ rest) ws') : G X M P kc ks pc lv (As.reverse ++ rest) ws :=
  g_callS As hX hdg hV hl hM hn hR hf hcat (fun w v2 h => by obtain ⟨h1, h2⟩ := h; cases h2; rw [h1]; exact kk) (fun w E h => by cases h.2)
end ZC
/-! OBJECTS, ARRAYS, THROWS, MATH, TABLES -/
section ZN
variable {X : zX} {M : zM} {P : zP} {kc ks pc : Nat} {lv : List (Nat × Value)} {rest : List Value} {ws : va_W}
theorem con_met {y : MethodName} {fr mc ms : Nat} {av : List Value} {Q : va_W → zO → Prop} (h : Con X y M fr mc ms av ws Q) (hQ : ∀ w E, ¬ Q w (.inr E)) : Met X.1 y (zY y M) (zR fr mc ms) (va_Pc av (zB X ws)) (zQc X Q) mc ms (zA X) := by
  intro p e ha hc hk s m args below hf happ hP hT
  obtain ⟨t, o, a1, b1, b2, b3⟩ := h p e ha hc hk s m args below hf happ hP hT
  refine ⟨t, o, a1, b1, b2, ?_⟩
  rcases b3 with h1 | ⟨q, e1, E, ce, L, ⟨w, f1, f2⟩, f3⟩
  · exact h1
  · exact absurd f1 (hQ _ _)
theorem z_run0 {y9 : Array Value} {mc ms : Nat} {st0 : List Value} {Q' : va_W → zO → Prop} {p : Program} {e : Env} {s : State} {m : MethodId} {args : Array Value} {below : List Frame} {meth : Method} {c : Code} {H : Heap} {locs : List Loc} {ls : Array Slot} (I : zI X M p s m args meth c) (hS : va_S (zA X) s.heap H locs) (hl : lv_has ls M.2.2.1 lv)
    (hr : va_Run p X.1 e P.1 s m args below meth c H locs kc ks mc ms (F0 m pc ls st0) rest (zQc X Q' y9) (zA X))
    (kk : ∀ (w : va_W) (v : Option Value), Q' w (.inl v) → G X M P (kc + mc) (ks + ms) (pc + 3) lv (v.toList ++ rest) w) :
    W p X.1 e P.1 s m args below meth c H locs kc ks (P.2 below args s) (F0 m pc ls st0) := by
  intro T hT X1
  obtain ⟨v, st₀, t, T', L, h0, X', hL, e1, e2, ⟨v', w, ho, hQ, hP', hD', hF⟩, st⟩ := hr T hT X1
  cases ho
  obtain ⟨k1, k2, k3⟩ := vx_keep h0 e1 hS (fun q _ h => h) (fun q h => h) hL hF
  obtain ⟨t2, a1, b1⟩ := kk w v hQ p e s m args below meth c T'.heap (locs ++ L) ls I (by rw [e1]; exact hP') hD' k3 hl T' rfl X'
  exact ⟨t2, st t2 a1, b1⟩
/-- invokespecial <init> of an own class -/
theorem g_callI {y : MethodName} {M' : zM} {np ix fr mc ms b : Nat} (As : List Value) {ws' : va_W} (hX : zOK X) (hdg : decode M.2.1 pc = .ok (.invokespecial ix, 3)) (hV : zN y M' np) (hl : Cond.methodLink M.1 ix y ∈ zW) (hM : Con X y M' fr mc ms (.ref b :: As) ws (zRet ws' none))
    (hn : As.length = np) (hR : fr + 1 ≤ P.1.frames ∧ 8 + (M'.2.2.1 + 11) + 64 * fr ≤ P.1.locals) (hf : kc + mc ≤ P.1.cells ∧ ks + ms ≤ P.1.slots) (hcat : (rest.map fun v => v.category).sum ≤ 8)
    (kk : G X M P (kc + mc) (ks + ms) (pc + 3) lv rest ws') : G X M P kc ks pc lv (As.reverse ++ .ref b :: rest) ws := by
  intro p e s m args below meth c H locs ls I hP hD hS hl2
  obtain ⟨h0, h1, h2, h3⟩ := hV
  have hts := I.2.2.2.2.2.1
  have hcb := zcb (ix := ix) (mc := mc) (ms := ms) I h0 hl hR
  rw [h1] at hcb
  exact z_run0 I hS hl2 (va_runI (Ts := zW) (own := M.1) (nL := M.2.2.1) (As := As) ⟨I.1, I.2.1, I.2.2.2.1, I.2.2.2.2.1, hts⟩ (con_met hM (fun w E h => by cases h.2)) ⟨hcb, h2, hts _ h3⟩ ⟨zB_blind hX, fun U hU hW => ⟨rfl, zB_at hX I hP hD hS U hU hW⟩⟩ rfl hn hl2.1 rfl (lv_room hcat) hdg hf) (fun w v h => by obtain ⟨h1, h2⟩ := h; cases h2; rw [h1]; exact kk)
/-- .. of a nest mate -/
theorem g_callIN {y : MethodName} {M' : zM} {np ix fr mc ms b : Nat} (As : List Value) {ws' : va_W} (hX : zOK X) (hdg : decode M.2.1 pc = .ok (.invokespecial ix, 3)) (hV : zN y M' np) (hown : M.1 = RX7) (hl : (ix, y) ∈ zNest) (hM : Con X y M' fr mc ms (.ref b :: As) ws (zRet ws' none))
    (hn : As.length = np) (hR : fr + 1 ≤ P.1.frames ∧ 8 + (M'.2.2.1 + 11) + 64 * fr ≤ P.1.locals) (hf : kc + mc ≤ P.1.cells ∧ ks + ms ≤ P.1.slots) (hcat : (rest.map fun v => v.category).sum ≤ 8)
    (kk : G X M P (kc + mc) (ks + ms) (pc + 3) lv rest ws') : G X M P kc ks pc lv (As.reverse ++ .ref b :: rest) ws := by
  intro p e s m args below meth c H locs ls I hP hD hS hl2
  obtain ⟨⟨h1, h2, h3, h4, h5, h6⟩, g1, g2, g3⟩ := hV
  have hts := I.2.2.2.2.2.1
  have hY : zY y M' = Cond.code y M'.2.1 M'.2.2.1 M'.2.2.2.1 :: zW := by unfold zY; rw [h2]
  have hcn : va_CN P.1 s args M.1 ix y RX7 M'.2.1 M'.2.2.1 M'.2.2.2.1 (zY y M') (zR fr mc ms) mc ms np := by
    refine ⟨⟨rfl, rfl, hR.1, hR.2, ?_, by rw [hY]; exact List.mem_cons_self⟩, hts _ h3, hts _ h4, h5, ?_, ?_⟩
    · intro w hw a' U hW
      have hz : w ∈ zW := by
        rw [hY] at hw
        rcases List.mem_cons.mp hw with e | e
        · rw [e]; exact h3
        · exact e
      exact word_at hW (good_of_word (zW_good hz)) (hts _ hz)
    · intro sig h
      rw [h] at h6
      exact (Option.some.inj h6).symm
    · rw [hown]
      exact va_Nw.use rfl (hX.2.2.2.2.2 s I.2.2.2.2.2.2.2.2.1 _ hl)
  rw [g1] at hcn
  exact z_run0 I hS hl2 (va_runIN (Ts := zW) (own := M.1) (nL := M.2.2.1) (As := As) ⟨I.1, I.2.1, I.2.2.2.1, I.2.2.2.2.1, hts⟩ (con_met hM (fun w E h => by cases h.2)) ⟨hcn, g2, hts _ g3⟩ ⟨zB_blind hX, fun U hU hW => ⟨rfl, zB_at hX I hP hD hS U hU hW⟩⟩ rfl hn hl2.1 rfl (lv_room hcat) hdg hf) (fun w v h => by obtain ⟨h1, h2⟩ := h; cases h2; rw [h1]; exact kk)
theorem g_objInit {ix b : Nat} (hdg : decode M.2.1 pc = .ok (.invokespecial ix, 3)) (hl : Cond.methodLink M.1 ix Lib.objectInit ∈ zW) (hi : Cond.instanceMethod Lib.objectInit ∈ zW) (hc : Cond.code Lib.objectInit ⟨#[0xb1]⟩ 1 none ∈ zW) (hfr : 1 ≤ P.1.frames) (hlo : (rest.map fun v => v.category).sum + 12 ≤ P.1.locals) (kk : G X M P kc ks (pc + 3) lv rest ws) : G X M P kc ks pc lv (.ref b :: rest) ws := fun p e s m args below meth c H locs ls I hP hD hS hl2 =>
  W.objInit I.1 I.2.1 I.2.2.2.2.1 (I.2.2.2.2.2.1 _ hl) (I.2.2.2.2.2.1 _ hi) (I.2.2.2.2.2.1 _ hc) rfl (hl2.1.trans I.2.2.2.1.symm) rfl hdg hfr (by show 2 * 0 + _ + 12 ≤ _; omega) (W.eq (g2 := F0 m (pc + 3) ls rest) rfl (kk p e s m args below meth c H locs ls I hP hD hS hl2))
/-- what the tables know of a 'new': own class, index, class of the world, slots, the fresh fields -/
def zNw (own : String) (ix ci N : Nat) (fs : List Value) : Prop := ∃ (C : String) (T : u_T) (ty0 : Nat → FieldType), vwCl[ci]? = some (C, T, N) ∧ (∀ w ∈ u_ws C T N, w ∈ zW) ∧ (∀ k, k < N → parseFieldDescriptor (T k).2.2.1 = some (ty0 k)) ∧ Cond.classLink own ix C ∈ zW ∧ Cond.instantiable C N ∈ zW ∧ Cond.initialized C ∈ zW ∧ ∀ j, j < N → defaultValue (ty0 j) = vp_V fs j
theorem g_new {ix ci N : Nat} {fs : List Value} (hdg : decode M.2.1 pc = .ok (.new ix, 3)) (hN : zNw M.1 ix ci N fs) (hc : kc + 1 ≤ P.1.cells) (hs : ks + N ≤ P.1.slots) (kk : ∀ q : Nat, G X M P (kc + 1) (ks + N) (pc + 3) lv (.ref q :: rest) (ws ++ [(q, .inr (ci, fs))])) : G X M P kc ks pc lv rest ws := by
  obtain ⟨C, T, ty0, h1, h2, h3, h4, h5, h6, h7⟩ := hN
  exact fun p e s m args below meth c H locs ls I hP hD hS hl => va_new I.1 I.2.1 I.2.2.2.2.2.1 h2 ty0 h3 I.2.2.2.2.1 (I.2.2.2.2.2.1 _ h4) (I.2.2.2.2.2.1 _ h5) (I.2.2.2.2.2.1 _ h6) I.2.2.2.2.2.2.2.1 hP hD hS (fun q h => Nat.le_trans I.2.2.2.2.2.2.2.2.2.1 h) h1 h7 hc hs hdg (fun q H1 hP1 hD1 hS1 => kk q p e s m args below meth c H1 locs ls I hP1 hD1 hS1 hl)
theorem z_newa {atype : ArrayType} {len t : Nat} {cA : ClassId} {nv : Int32} {x : vp_A} (hdg : decode M.2.1 pc = .ok (.newarray atype, 2)) (hw : Cond.arrayClass (newarray.typeOf atype) ∈ zW) (ht : (zT X)[t]? = some (cA, newarray.typeOf atype)) (hra : ∀ U, va_RA U cA (newarray.typeOf atype) → U.vm.findClass ("[" ++ (newarray.typeOf atype).toString) = some cA) (hx : vp_cell cA x = arrV cA len (fun _ => defaultValue (newarray.typeOf atype))) (h0 : ¬ nv < 0) (hn : nv.toNatClampNeg = len) (hlen : len * componentBytes (newarray.typeOf atype) ≤ 536870912) (hc : kc + 1 ≤ P.1.cells) (hs : ks + len ≤ P.1.slots) (kk : ∀ q : Nat, G X M P (kc + 1) (ks + len) (pc + 2) lv (.ref q :: rest) (ws ++ [(q, .inl (cA, x))])) : G X M P kc ks pc lv (.int nv :: rest) ws := by
  intro p e s m args below meth c H locs ls I hP hD hS hl
  refine va_newaK I.1 I.2.1 (I.2.2.2.2.2.1 _ hw) rfl hdg rfl h0 hn hlen hc hs rfl (fun H1 cB e1 z1 o1 hAr hNm => ?_)
  have hR := hra s (I.2.2.2.2.2.2.2.1.2 t _ ht).2
  have hcc : cB = cA := Option.some.inj (hNm.symm.trans hR)
  subst hcc
  have hk : ∀ (k : Nat) (x : Nat × va_E), ws[k]? = some x → H1[x.1]? = H[x.1]? := fun k x hx => o1 x.1 ((hP k x hx).lt)
  refine kk H.size p e s m args below meth c H1 locs ls I ((hP.kept hk).app (fun k x hx2 => ?_)) (hD.push hP rfl (Nat.le_trans I.2.2.2.2.2.2.2.2.2.1 hS.1)) ⟨Nat.le_trans hS.1 (by omega), fun x h1 h2 => (o1 x (Nat.lt_of_lt_of_le h1 hS.1)).trans (hS.2.1 x h1 h2), hS.2.2⟩ hl
  have hz : k < 1 := (List.getElem?_eq_some_iff.mp hx2).1
  rw [show k = 0 by omega] at hx2
  cases hx2
  show H1[H.size]? = some (vp_cell _ _)
  rw [hx]
  exact e1
theorem g_newI {len : Nat} {nv : Int32} (hdg : decode M.2.1 pc = .ok (.newarray .int, 2)) (hw : Cond.arrayClass .int ∈ zW) (h0 : ¬ nv < 0) (hn : nv.toNatClampNeg = len) (hlen : len ≤ 100000) (hc : kc + 1 ≤ P.1.cells) (hs : ks + len ≤ P.1.slots) (kk : ∀ q : Nat, G X M P (kc + 1) (ks + len) (pc + 2) lv (.ref q :: rest) (ws ++ [(q, aI X len (fun _ => 0))])) : G X M P kc ks pc lv (.int nv :: rest) ws :=
  z_newa (t := 0) hdg hw rfl (fun U h => h) (vp_cell_i _ _ _) h0 hn (by show len * 4 ≤ _; omega) hc hs kk
theorem g_newL {len : Nat} {nv : Int32} (hdg : decode M.2.1 pc = .ok (.newarray .long, 2)) (hw : Cond.arrayClass .long ∈ zW) (h0 : ¬ nv < 0) (hn : nv.toNatClampNeg = len) (hlen : len ≤ 100000) (hc : kc + 1 ≤ P.1.cells) (hs : ks + len ≤ P.1.slots) (kk : ∀ q : Nat, G X M P (kc + 1) (ks + len) (pc + 2) lv (.ref q :: rest) (ws ++ [(q, aL X len (fun _ => 0))])) : G X M P kc ks pc lv (.int nv :: rest) ws :=
  z_newa (t := 1) hdg hw rfl (fun U h => h) (vp_cell_l _ _ _) h0 hn (by show len * 8 ≤ _; omega) hc hs kk
theorem g_newB {len : Nat} {nv : Int32} (hdg : decode M.2.1 pc = .ok (.newarray .byte, 2)) (hw : Cond.arrayClass .byte ∈ zW) (h0 : ¬ nv < 0) (hn : nv.toNatClampNeg = len) (hlen : len ≤ 100000) (hc : kc + 1 ≤ P.1.cells) (hs : ks + len ≤ P.1.slots) (kk : ∀ q : Nat, G X M P (kc + 1) (ks + len) (pc + 2) lv (.ref q :: rest) (ws ++ [(q, aB X len (fun _ => 0))])) : G X M P kc ks pc lv (.int nv :: rest) ws :=
  z_newa (t := 2) hdg hw rfl (fun U h => h) (vp_cell_i _ _ _) h0 hn (by show len * 1 ≤ _; omega) hc hs kk
/-- Math.max, Math.min -/
theorem g_max {ix : Nat} {x y : Int32} (hdg : decode M.2.1 pc = .ok (.invokestatic ix, 3)) (hl : Cond.methodLink M.1 ix Lib.Math.max.name ∈ zW) (h1 : Cond.static Lib.Math.max.name ∈ zW) (h2 : Cond.initialized "java/lang/Math" ∈ zW) (h3 : Cond.code Lib.Math.max.name Lib.Math.max.code 2 (some .int) ∈ zW) (hf : 1 ≤ P.1.frames) (hlo : (rest.map fun v => v.category).sum + 13 ≤ P.1.locals) (hc : kc ≤ P.1.cells) (hs : ks ≤ P.1.slots) (kk : G X M P kc ks (pc + 3) lv (.int (if x < y then y else x) :: rest) ws) : G X M P kc ks pc lv (.int y :: .int x :: rest) ws := fun p e s m args below meth c H locs ls I hP hD hS hl2 =>
  va_mmax I.1 I.2.1 (I.2.2.2.1.trans hl2.1.symm) I.2.2.2.2.1 (I.2.2.2.2.2.1 _ hl) (I.2.2.2.2.2.1 _ h1) (I.2.2.2.2.2.1 _ h2) (I.2.2.2.2.2.1 _ h3) hf hlo hc hs hdg (kk p e s m args below meth c H locs ls I hP hD hS hl2)
theorem g_min {ix : Nat} {x y : Int32} (hdg : decode M.2.1 pc = .ok (.invokestatic ix, 3)) (hl : Cond.methodLink M.1 ix Lib.Math.min.name ∈ zW) (h1 : Cond.static Lib.Math.min.name ∈ zW) (h2 : Cond.initialized "java/lang/Math" ∈ zW) (h3 : Cond.code Lib.Math.min.name Lib.Math.min.code 2 (some .int) ∈ zW) (hf : 1 ≤ P.1.frames) (hlo : (rest.map fun v => v.category).sum + 13 ≤ P.1.locals) (hc : kc ≤ P.1.cells) (hs : ks ≤ P.1.slots) (kk : G X M P kc ks (pc + 3) lv (.int (if y < x then y else x) :: rest) ws) : G X M P kc ks pc lv (.int y :: .int x :: rest) ws := fun p e s m args below meth c H locs ls I hP hD hS hl2 =>
  va_mmin I.1 I.2.1 (I.2.2.2.1.trans hl2.1.symm) I.2.2.2.2.1 (I.2.2.2.2.2.1 _ hl) (I.2.2.2.2.2.1 _ h1) (I.2.2.2.2.2.1 _ h2) (I.2.2.2.2.2.1 _ h3) hf hlo hc hs hdg (kk p e s m args below meth c H locs ls I hP hD hS hl2)
end ZN
