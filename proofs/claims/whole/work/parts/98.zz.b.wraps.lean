set_option maxHeartbeats 4000000 in
set_option maxRecDepth 100000 in
theorem wL_feed {X : zX} (hX : zOK X) (hL : zOL X) {A : Nat → Nat} {n : Nat} {S : Nat → va_E} {σ : CS} (bn : 91 ≤ n) {q : Nat} (hq : 91 ≤ q ∧ q < n) {f : Nat → Int64} (hS : S q = aL X 1 f) {a1 : Int} {a2 : Int} {a3 : Int} {a4 : Int} {a5 : Int} {res : CS × (Int ⊕ String)} (h : fX7_feed σ a1 a2 a3 a4 a5 = some res) (hE : ∀ E, res.2 = .inr E → E ∈ ["java/lang/IllegalStateException"]) : Con X yL_feed mL_feed 7 1 6 [.ref (A 0), .int (iI a1), .int (iI a2), .int (iI a3), .int (iI a4), .int (iI a5), .ref (A q)] (zWs A n (zSt X A σ S)) (zRA A (fun k => 1 ≤ k ∧ k < 91) (fun A' => (zWs A' n (zSt X A' res.1 (zLo X q f S res.2)))) (fun _ => .inl (some (.int (iI (zKo ["java/lang/IllegalStateException"] res.2)))))) := by
  refine con_ofH (lv := [(0, .ref (A 0)), (1, .int (iI a1)), (2, .int (iI a2)), (3, .int (iI a3)), (4, .int (iI a4)), (5, .int (iI a5)), (6, .ref (A q))]) (by decide) rfl (Nat.le_of_ble_eq_true rfl) rfl ?_
  change G X mL_feed _ _ _ _ _ _ _
  refine g_aload (M := mL_feed) dL_feed_0 6 rfl ?_
  refine h_iconst (M := mL_feed) dL_feed_2 ?_
  refine g_aload_n (M := mL_feed) dL_feed_3 0 rfl rfl ?_
  refine g_iload_n (M := mL_feed) dL_feed_4 1 rfl rfl ?_
  refine g_iload_n (M := mL_feed) dL_feed_5 2 rfl rfl ?_
  refine g_iload_n (M := mL_feed) dL_feed_6 3 rfl rfl ?_
  refine g_iload (M := mL_feed) dL_feed_7 4 rfl ?_
  refine g_iload (M := mL_feed) dL_feed_9 5 rfl ?_
  obtain ⟨τ, r⟩ := res
  cases r with
  | inl v =>
    refine g_callVA (M := mL_feed) [.int (iI a1), .int (iI a2), .int (iI a3), .int (iI a4), .int (iI a5)] hX dL_feed_11 vX7_feed kM_L_7 (wX7_feed hX bn h) (fun _ => rfl) 0 (zWs_at (by omega) ((zSt_c 0 rfl (show σ 0 = (σ 0) from rfl))).o) rfl ⟨(Nat.le_of_ble_eq_true rfl), (Nat.le_of_ble_eq_true rfl)⟩ ⟨Nat.le_of_eq (Nat.zero_add _), Nat.le_of_eq (Nat.zero_add _)⟩ (Nat.le_of_ble_eq_true rfl) (fun A' hA' => ?_)
    have eq : A' q = A q := hA' q (fun z => absurd z.2 (Nat.not_lt.mpr hq.1))
    refine g_i2l (M := mL_feed) dL_feed_14 rfl ?_
    refine g_last (M := mL_feed) dL_feed_15 q (zo_at hq eq hS) (iI_in (by decide) (by decide) (by decide)) ?_
    refine g_ws (M := mL_feed) (zo_set hq.1 eq) ?_
    refine g_goto (M := mL_feed) (tgt := 23) dL_feed_16 (by decide) ?_
    refine g_lv (M := mL_feed) [] rfl ?_
    refine h_iconst (M := mL_feed) dL_feed_23 ?_
    exact g_iret (M := mL_feed) dL_feed_24 rfl (Nat.le_of_eq (Nat.zero_add _)) (Nat.le_of_eq (Nat.zero_add _)) ⟨A', hA', rfl, rfl⟩
  | inr E =>
    have hE1 : E = "java/lang/IllegalStateException" := List.mem_singleton.mp (hE E rfl)
    subst hE1
    refine g_callVAe (M := mL_feed) [.int (iI a1), .int (iI a2), .int (iI a3), .int (iI a4), .int (iI a5)] hX dL_feed_11 vX7_feed kM_L_7 (wX7_feed hX bn h) (fun _ => rfl) 0 (zWs_at (by omega) ((zSt_c 0 rfl (show σ 0 = (σ 0) from rfl))).o) rfl ⟨(Nat.le_of_ble_eq_true rfl), (Nat.le_of_ble_eq_true rfl)⟩ ⟨Nat.le_of_eq (Nat.zero_add _), Nat.le_of_eq (Nat.zero_add _)⟩ (Nat.le_of_ble_eq_true rfl) (fun A' hA' => ?_)
    refine gx_catch (M := mL_feed) [] (0, 16, 19, 13) [] rfl (fun z hz => by simp [tableOf] at hz) rfl (by decide) kK_L_13 (fun U hU => zOL_c hL hU (c := 83) (by simp [zExc])) (fun e => ?_)
    refine g_lv (M := mL_feed) [] rfl ?_
    refine g_astore (M := mL_feed) (lv' := [(7, .ref e)]) dL_feed_19 (Nat.le_of_ble_eq_true rfl) rfl ?_
    refine h_iconst (M := mL_feed) dL_feed_21 ?_
    exact g_iret (M := mL_feed) dL_feed_22 rfl (Nat.le_of_eq (Nat.zero_add _)) (Nat.le_of_eq (Nat.zero_add _)) ⟨A', hA', rfl, by rw [zKo_1]⟩
set_option maxHeartbeats 4000000 in
set_option maxRecDepth 100000 in
theorem wL_truncate {X : zX} (hX : zOK X) (hL : zOL X) {A : Nat → Nat} {n : Nat} {S : Nat → va_E} {σ : CS} (bn : 91 ≤ n) {q : Nat} (hq : 91 ≤ q ∧ q < n) {f : Nat → Int64} (hS : S q = aL X 1 f) {a1 : Int} {res : CS × (Int ⊕ String)} (h : fX7_truncate σ a1 = some res) (hE : ∀ E, res.2 = .inr E → E ∈ ["java/lang/IllegalArgumentException"]) : Con X yL_truncate mL_truncate 7 1 6 [.ref (A 0), .int (iI a1), .ref (A q)] (zWs A n (zSt X A σ S)) (zRA A (fun k => 1 ≤ k ∧ k < 91) (fun A' => (zWs A' n (zSt X A' res.1 (zLo X q f S res.2)))) (fun _ => .inl (some (.int (iI (zKo ["java/lang/IllegalArgumentException"] res.2)))))) := by
  refine con_ofH (lv := [(0, .ref (A 0)), (1, .int (iI a1)), (2, .ref (A q))]) (by decide) rfl (Nat.le_of_ble_eq_true rfl) rfl ?_
  change G X mL_truncate _ _ _ _ _ _ _
  refine g_aload_n (M := mL_truncate) dL_truncate_0 2 rfl rfl ?_
  refine h_iconst (M := mL_truncate) dL_truncate_1 ?_
  refine g_aload_n (M := mL_truncate) dL_truncate_2 0 rfl rfl ?_
  refine g_iload_n (M := mL_truncate) dL_truncate_3 1 rfl rfl ?_
  obtain ⟨τ, r⟩ := res
  cases r with
  | inl v =>
    refine g_callVA (M := mL_truncate) [.int (iI a1)] hX dL_truncate_4 vX7_truncate kM_L_15 (wX7_truncate hX bn h) (fun _ => rfl) 0 (zWs_at (by omega) ((zSt_c 0 rfl (show σ 0 = (σ 0) from rfl))).o) rfl ⟨(Nat.le_of_ble_eq_true rfl), (Nat.le_of_ble_eq_true rfl)⟩ ⟨Nat.le_of_eq (Nat.zero_add _), Nat.le_of_eq (Nat.zero_add _)⟩ (Nat.le_of_ble_eq_true rfl) (fun A' hA' => ?_)
    have eq : A' q = A q := hA' q (fun z => absurd z.2 (Nat.not_lt.mpr hq.1))
    refine g_i2l (M := mL_truncate) dL_truncate_7 rfl ?_
    refine g_last (M := mL_truncate) dL_truncate_8 q (zo_at hq eq hS) (iI_in (by decide) (by decide) (by decide)) ?_
    refine g_ws (M := mL_truncate) (zo_set hq.1 eq) ?_
    refine g_goto (M := mL_truncate) (tgt := 15) dL_truncate_9 (by decide) ?_
    refine g_lv (M := mL_truncate) [] rfl ?_
    refine h_iconst (M := mL_truncate) dL_truncate_15 ?_
    exact g_iret (M := mL_truncate) dL_truncate_16 rfl (Nat.le_of_eq (Nat.zero_add _)) (Nat.le_of_eq (Nat.zero_add _)) ⟨A', hA', rfl, rfl⟩
  | inr E =>
    have hE1 : E = "java/lang/IllegalArgumentException" := List.mem_singleton.mp (hE E rfl)
    subst hE1
    refine g_callVAe (M := mL_truncate) [.int (iI a1)] hX dL_truncate_4 vX7_truncate kM_L_15 (wX7_truncate hX bn h) (fun _ => rfl) 0 (zWs_at (by omega) ((zSt_c 0 rfl (show σ 0 = (σ 0) from rfl))).o) rfl ⟨(Nat.le_of_ble_eq_true rfl), (Nat.le_of_ble_eq_true rfl)⟩ ⟨Nat.le_of_eq (Nat.zero_add _), Nat.le_of_eq (Nat.zero_add _)⟩ (Nat.le_of_ble_eq_true rfl) (fun A' hA' => ?_)
    refine gx_catch (M := mL_truncate) [] (0, 9, 12, 19) [] rfl (fun z hz => by simp [tableOf] at hz) rfl (by decide) kK_L_19 (fun U hU => zOL_c hL hU (c := 94) (by simp [zExc])) (fun e => ?_)
    refine g_lv (M := mL_truncate) [] rfl ?_
    refine g_astore_n (M := mL_truncate) (i := 3) (lv' := [(3, .ref e)]) dL_truncate_12 rfl (Nat.le_of_ble_eq_true rfl) rfl ?_
    refine h_iconst (M := mL_truncate) dL_truncate_13 ?_
    exact g_iret (M := mL_truncate) dL_truncate_14 rfl (Nat.le_of_eq (Nat.zero_add _)) (Nat.le_of_eq (Nat.zero_add _)) ⟨A', hA', rfl, by rw [zKo_1]⟩
set_option maxHeartbeats 4000000 in
set_option maxRecDepth 100000 in
theorem wL_readText {X : zX} (hX2 : zOK2 X) (hL : zOL X) {A : Nat → Nat} {n : Nat} {S : Nat → va_E} {σ : CS} (bn : 91 ≤ n) {q : Nat} (hq : 91 ≤ q ∧ q < n) {f : Nat → Int64} (hS : S q = aL X 1 f) {res : CS × (Int ⊕ String)} (h : fX7_readText σ  = some res) (hE : ∀ E, res.2 = .inr E → E ∈ ["java/lang/IllegalArgumentException"]) : Con X yL_readText mL_readText 8 1 6 [.ref (A 0), .ref (A q)] (zWs A n (zSt X A σ S)) (zRA A (fun k => 1 ≤ k ∧ k < 91) (fun A' => (zWs A' n (zSt X A' res.1 (zLo X q f S res.2)))) (fun _ => .inl (some (.int (iI (zKo ["java/lang/IllegalArgumentException"] res.2)))))) := by
  have hX := hX2.1
  refine con_ofH (lv := [(0, .ref (A 0)), (1, .ref (A q))]) (by decide) rfl (Nat.le_of_ble_eq_true rfl) rfl ?_
  change G X mL_readText _ _ _ _ _ _ _
  refine g_aload_n (M := mL_readText) dL_readText_0 1 rfl rfl ?_
  refine h_iconst (M := mL_readText) dL_readText_1 ?_
  refine g_aload_n (M := mL_readText) dL_readText_2 0 rfl rfl ?_
  obtain ⟨τ, r⟩ := res
  cases r with
  | inl v =>
    refine g_callVA (M := mL_readText) [] hX dL_readText_3 vX7_readText kM_L_21 (wX7_readText hX2 bn h) (fun _ => rfl) 0 (zWs_at (by omega) ((zSt_c 0 rfl (show σ 0 = (σ 0) from rfl))).o) rfl ⟨(Nat.le_of_ble_eq_true rfl), (Nat.le_of_ble_eq_true rfl)⟩ ⟨Nat.le_of_eq (Nat.zero_add _), Nat.le_of_eq (Nat.zero_add _)⟩ (Nat.le_of_ble_eq_true rfl) (fun A' hA' => ?_)
    have eq : A' q = A q := hA' q (fun z => absurd z.2 (Nat.not_lt.mpr hq.1))
    refine g_i2l (M := mL_readText) dL_readText_6 rfl ?_
    refine g_last (M := mL_readText) dL_readText_7 q (zo_at hq eq hS) (iI_in (by decide) (by decide) (by decide)) ?_
    refine g_ws (M := mL_readText) (zo_set hq.1 eq) ?_
    refine g_goto (M := mL_readText) (tgt := 14) dL_readText_8 (by decide) ?_
    refine g_lv (M := mL_readText) [] rfl ?_
    refine h_iconst (M := mL_readText) dL_readText_14 ?_
    exact g_iret (M := mL_readText) dL_readText_15 rfl (Nat.le_of_eq (Nat.zero_add _)) (Nat.le_of_eq (Nat.zero_add _)) ⟨A', hA', rfl, rfl⟩
  | inr E =>
    have hE1 : E = "java/lang/IllegalArgumentException" := List.mem_singleton.mp (hE E rfl)
    subst hE1
    refine g_callVAe (M := mL_readText) [] hX dL_readText_3 vX7_readText kM_L_21 (wX7_readText hX2 bn h) (fun _ => rfl) 0 (zWs_at (by omega) ((zSt_c 0 rfl (show σ 0 = (σ 0) from rfl))).o) rfl ⟨(Nat.le_of_ble_eq_true rfl), (Nat.le_of_ble_eq_true rfl)⟩ ⟨Nat.le_of_eq (Nat.zero_add _), Nat.le_of_eq (Nat.zero_add _)⟩ (Nat.le_of_ble_eq_true rfl) (fun A' hA' => ?_)
    refine gx_catch (M := mL_readText) [] (0, 8, 11, 19) [] rfl (fun z hz => by simp [tableOf] at hz) rfl (by decide) kK_L_19 (fun U hU => zOL_c hL hU (c := 94) (by simp [zExc])) (fun e => ?_)
    refine g_lv (M := mL_readText) [] rfl ?_
    refine g_astore_n (M := mL_readText) (i := 2) (lv' := [(2, .ref e)]) dL_readText_11 rfl (Nat.le_of_ble_eq_true rfl) rfl ?_
    refine h_iconst (M := mL_readText) dL_readText_12 ?_
    exact g_iret (M := mL_readText) dL_readText_13 rfl (Nat.le_of_eq (Nat.zero_add _)) (Nat.le_of_eq (Nat.zero_add _)) ⟨A', hA', rfl, by rw [zKo_1]⟩
set_option maxHeartbeats 4000000 in
set_option maxRecDepth 100000 in
theorem wL_runScript {X : zX} (hX2 : zOK2 X) (hL : zOL X) {A : Nat → Nat} {n : Nat} {S : Nat → va_E} {σ : CS} (bn : 91 ≤ n) {q : Nat} (hq : 91 ≤ q ∧ q < n) {f : Nat → Int64} (hS : S q = aL X 1 f) {res : CS × (Int ⊕ String)} (h : fX7_runScript σ  = some res) (hE : ∀ E, res.2 = .inr E → E ∈ ["java/lang/IllegalArgumentException"]) : Con X yL_runScript mL_runScript 26 (2 + 3 * zNd (σ 7) (σ 4)) (12 + 13652 * zNd (σ 7) (σ 4)) [.ref (A 0), .ref (A q)] (zWs A n (zSt X A σ S)) (zRA A (fun k => 1 ≤ k ∧ k < 91) (fun A' => (zWs A' n (zSt X A' res.1 (zLo X q f S res.2)))) (fun _ => .inl (some (.int (iI (zKo ["java/lang/IllegalArgumentException"] res.2)))))) := by
  have hX := hX2.1
  refine con_ofH (lv := [(0, .ref (A 0)), (1, .ref (A q))]) (by decide) rfl (Nat.le_of_ble_eq_true rfl) rfl ?_
  change G X mL_runScript _ _ _ _ _ _ _
  refine g_aload_n (M := mL_runScript) dL_runScript_0 1 rfl rfl ?_
  refine h_iconst (M := mL_runScript) dL_runScript_1 ?_
  refine g_aload_n (M := mL_runScript) dL_runScript_2 0 rfl rfl ?_
  obtain ⟨τ, r⟩ := res
  cases r with
  | inl v =>
    refine g_callVA (M := mL_runScript) [] hX dL_runScript_3 vX7_runScript kM_L_25 (wX7_runScript hX2 bn h) (fun _ => rfl) 0 (zWs_at (by omega) ((zSt_c 0 rfl (show σ 0 = (σ 0) from rfl))).o) rfl ⟨(Nat.le_of_ble_eq_true rfl), (Nat.le_of_ble_eq_true rfl)⟩ ⟨Nat.le_of_eq (Nat.zero_add _), Nat.le_of_eq (Nat.zero_add _)⟩ (Nat.le_of_ble_eq_true rfl) (fun A' hA' => ?_)
    have eq : A' q = A q := hA' q (fun z => absurd z.2 (Nat.not_lt.mpr hq.1))
    refine g_i2l (M := mL_runScript) dL_runScript_6 rfl ?_
    refine g_last (M := mL_runScript) dL_runScript_7 q (zo_at hq eq hS) (iI_in (by decide) (by decide) (by decide)) ?_
    refine g_ws (M := mL_runScript) (zo_set hq.1 eq) ?_
    refine g_goto (M := mL_runScript) (tgt := 14) dL_runScript_8 (by decide) ?_
    refine g_lv (M := mL_runScript) [] rfl ?_
    refine h_iconst (M := mL_runScript) dL_runScript_14 ?_
    exact g_iret (M := mL_runScript) dL_runScript_15 rfl (Nat.le_of_eq (Nat.zero_add _)) (Nat.le_of_eq (Nat.zero_add _)) ⟨A', hA', rfl, rfl⟩
  | inr E =>
    have hE1 : E = "java/lang/IllegalArgumentException" := List.mem_singleton.mp (hE E rfl)
    subst hE1
    refine g_callVAe (M := mL_runScript) [] hX dL_runScript_3 vX7_runScript kM_L_25 (wX7_runScript hX2 bn h) (fun _ => rfl) 0 (zWs_at (by omega) ((zSt_c 0 rfl (show σ 0 = (σ 0) from rfl))).o) rfl ⟨(Nat.le_of_ble_eq_true rfl), (Nat.le_of_ble_eq_true rfl)⟩ ⟨Nat.le_of_eq (Nat.zero_add _), Nat.le_of_eq (Nat.zero_add _)⟩ (Nat.le_of_ble_eq_true rfl) (fun A' hA' => ?_)
    refine gx_catch (M := mL_runScript) [] (0, 8, 11, 19) [] rfl (fun z hz => by simp [tableOf] at hz) rfl (by decide) kK_L_19 (fun U hU => zOL_c hL hU (c := 94) (by simp [zExc])) (fun e => ?_)
    refine g_lv (M := mL_runScript) [] rfl ?_
    refine g_astore_n (M := mL_runScript) (i := 2) (lv' := [(2, .ref e)]) dL_runScript_11 rfl (Nat.le_of_ble_eq_true rfl) rfl ?_
    refine h_iconst (M := mL_runScript) dL_runScript_12 ?_
    exact g_iret (M := mL_runScript) dL_runScript_13 rfl (Nat.le_of_eq (Nat.zero_add _)) (Nat.le_of_eq (Nat.zero_add _)) ⟨A', hA', rfl, by rw [zKo_1]⟩
set_option maxHeartbeats 4000000 in
set_option maxRecDepth 100000 in
theorem wL_setting {X : zX} (hX : zOK X) (hL : zOL X) {A : Nat → Nat} {n : Nat} {S : Nat → va_E} {σ : CS} (bn : 91 ≤ n) {q : Nat} (hq : 91 ≤ q ∧ q < n) {f : Nat → Int64} (hS : S q = aL X 1 f) {a1 : Int} {res : (Int ⊕ String)} (h : fX7_setting σ a1 = some res) (hE : ∀ E, res = .inr E → E ∈ ["java/lang/IllegalArgumentException"]) : Con X yL_setting mL_setting 7 1 6 [.ref (A 0), .int (iI a1), .ref (A q)] (zWs A n (zSt X A σ S)) (zRA A (fun k => 1 ≤ k ∧ k < 91) (fun A' => (zWs A' n (zSt X A' σ (zLo X q f S res)))) (fun _ => .inl (some (.int (iI (zKo ["java/lang/IllegalArgumentException"] res)))))) := by
  refine con_ofH (lv := [(0, .ref (A 0)), (1, .int (iI a1)), (2, .ref (A q))]) (by decide) rfl (Nat.le_of_ble_eq_true rfl) rfl ?_
  change G X mL_setting _ _ _ _ _ _ _
  refine g_aload_n (M := mL_setting) dL_setting_0 2 rfl rfl ?_
  refine h_iconst (M := mL_setting) dL_setting_1 ?_
  refine g_aload_n (M := mL_setting) dL_setting_2 0 rfl rfl ?_
  refine g_iload_n (M := mL_setting) dL_setting_3 1 rfl rfl ?_
  cases res with
  | inl v =>
    refine g_callVx (M := mL_setting) [.int (iI a1)] hX dL_setting_4 vX7_setting kM_L_28 (wX7_setting hX bn h) rfl 0 (zWs_at (by omega) ((zSt_c 0 rfl (show σ 0 = (σ 0) from rfl))).o) rfl ⟨(Nat.le_of_ble_eq_true rfl), (Nat.le_of_ble_eq_true rfl)⟩ ⟨Nat.le_of_eq (Nat.zero_add _), Nat.le_of_eq (Nat.zero_add _)⟩ (Nat.le_of_ble_eq_true rfl) ?_
    have eq : A q = A q := rfl
    refine g_i2l (M := mL_setting) dL_setting_7 rfl ?_
    refine g_last (M := mL_setting) dL_setting_8 q (zo_at hq eq hS) (iI_in (by decide) (by decide) (by decide)) ?_
    refine g_ws (M := mL_setting) (zo_set hq.1 eq) ?_
    refine g_goto (M := mL_setting) (tgt := 15) dL_setting_9 (by decide) ?_
    refine g_lv (M := mL_setting) [] rfl ?_
    refine h_iconst (M := mL_setting) dL_setting_15 ?_
    exact g_iret (M := mL_setting) dL_setting_16 rfl (Nat.le_of_eq (Nat.zero_add _)) (Nat.le_of_eq (Nat.zero_add _)) ⟨A, (fun _ _ => rfl), rfl, rfl⟩
  | inr E =>
    have hE1 : E = "java/lang/IllegalArgumentException" := List.mem_singleton.mp (hE E rfl)
    subst hE1
    refine g_callVe (M := mL_setting) [.int (iI a1)] hX dL_setting_4 vX7_setting kM_L_28 (wX7_setting hX bn h) rfl 0 (zWs_at (by omega) ((zSt_c 0 rfl (show σ 0 = (σ 0) from rfl))).o) rfl ⟨(Nat.le_of_ble_eq_true rfl), (Nat.le_of_ble_eq_true rfl)⟩ ⟨Nat.le_of_eq (Nat.zero_add _), Nat.le_of_eq (Nat.zero_add _)⟩ (Nat.le_of_ble_eq_true rfl) ?_
    refine gx_catch (M := mL_setting) [] (0, 9, 12, 19) [] rfl (fun z hz => by simp [tableOf] at hz) rfl (by decide) kK_L_19 (fun U hU => zOL_c hL hU (c := 94) (by simp [zExc])) (fun e => ?_)
    refine g_lv (M := mL_setting) [] rfl ?_
    refine g_astore_n (M := mL_setting) (i := 3) (lv' := [(3, .ref e)]) dL_setting_12 rfl (Nat.le_of_ble_eq_true rfl) rfl ?_
    refine h_iconst (M := mL_setting) dL_setting_13 ?_
    exact g_iret (M := mL_setting) dL_setting_14 rfl (Nat.le_of_eq (Nat.zero_add _)) (Nat.le_of_eq (Nat.zero_add _)) ⟨A, (fun _ _ => rfl), rfl, by rw [zKo_1]⟩
set_option maxHeartbeats 4000000 in
set_option maxRecDepth 100000 in
theorem wL_row {X : zX} (hX : zOK X) (hL : zOL X) {A : Nat → Nat} {n : Nat} {S : Nat → va_E} {σ : CS} (bn : 91 ≤ n) {q : Nat} (hq : 91 ≤ q ∧ q < n) {f : Nat → Int64} (hS : S q = aL X 1 f) {a1 : Int} {a2 : Int} {res : (Int ⊕ String)} (h : fX7_row σ a1 a2 = some res) (hE : ∀ E, res = .inr E → E ∈ ["java/lang/IndexOutOfBoundsException", "java/lang/IllegalArgumentException"]) : Con X yL_row mL_row 8 2 12 [.ref (A 0), .int (iI a1), .int (iI a2), .ref (A q)] (zWs A n (zSt X A σ S)) (zRA A (fun k => 1 ≤ k ∧ k < 91) (fun A' => (zWs A' n (zSt X A' σ (zLo X q f S res)))) (fun _ => .inl (some (.int (iI (zKo ["java/lang/IndexOutOfBoundsException", "java/lang/IllegalArgumentException"] res)))))) := by
  refine con_ofH (lv := [(0, .ref (A 0)), (1, .int (iI a1)), (2, .int (iI a2)), (3, .ref (A q))]) (by decide) rfl (Nat.le_of_ble_eq_true rfl) rfl ?_
  change G X mL_row _ _ _ _ _ _ _
  refine g_aload_n (M := mL_row) dL_row_0 3 rfl rfl ?_
  refine h_iconst (M := mL_row) dL_row_1 ?_
  refine g_aload_n (M := mL_row) dL_row_2 0 rfl rfl ?_
  refine g_iload_n (M := mL_row) dL_row_3 1 rfl rfl ?_
  refine g_iload_n (M := mL_row) dL_row_4 2 rfl rfl ?_
  cases res with
  | inl v =>
    refine g_callVx (M := mL_row) [.int (iI a1), .int (iI a2)] hX dL_row_5 vX7_row kM_L_31 (wX7_row hX bn h) rfl 0 (zWs_at (by omega) ((zSt_c 0 rfl (show σ 0 = (σ 0) from rfl))).o) rfl ⟨(Nat.le_of_ble_eq_true rfl), (Nat.le_of_ble_eq_true rfl)⟩ ⟨Nat.le_of_eq (Nat.zero_add _), Nat.le_of_eq (Nat.zero_add _)⟩ (Nat.le_of_ble_eq_true rfl) ?_
    have eq : A q = A q := rfl
    refine g_i2l (M := mL_row) dL_row_8 rfl ?_
    refine g_last (M := mL_row) dL_row_9 q (zo_at hq eq hS) (iI_in (by decide) (by decide) (by decide)) ?_
    refine g_ws (M := mL_row) (zo_set hq.1 eq) ?_
    refine g_goto (M := mL_row) (tgt := 21) dL_row_10 (by decide) ?_
    refine g_lv (M := mL_row) [] rfl ?_
    refine h_iconst (M := mL_row) dL_row_21 ?_
    exact g_iret (M := mL_row) dL_row_22 rfl (Nat.le_of_eq (Nat.zero_add _)) (Nat.le_of_eq (Nat.zero_add _)) ⟨A, (fun _ _ => rfl), rfl, rfl⟩
  | inr E =>
    have hE1 : E = "java/lang/IndexOutOfBoundsException" ∨ E = "java/lang/IllegalArgumentException" := by have := hE E rfl; simpa using this
    rcases hE1 with hE1 | hE1
    · subst hE1
      refine g_callVe (M := mL_row) [.int (iI a1), .int (iI a2)] hX dL_row_5 vX7_row kM_L_31 (wX7_row hX bn h) rfl 0 (zWs_at (by omega) ((zSt_c 0 rfl (show σ 0 = (σ 0) from rfl))).o) rfl ⟨(Nat.le_of_ble_eq_true rfl), (Nat.le_of_ble_eq_true rfl)⟩ ⟨Nat.le_of_eq (Nat.zero_add _), Nat.le_of_eq (Nat.zero_add _)⟩ (Nat.le_of_ble_eq_true rfl) ?_
      refine gx_catch (M := mL_row) [] (0, 10, 13, 35) [(0, 10, 17, 19)] rfl (fun z hz => by simp [tableOf] at hz) rfl (by decide) kK_L_35 (fun U hU => zOL_c hL hU (c := 193) (by simp [zExc])) (fun e => ?_)
      refine g_lv (M := mL_row) [] rfl ?_
      refine g_astore (M := mL_row) (lv' := [(4, .ref e)]) dL_row_13 (Nat.le_of_ble_eq_true rfl) rfl ?_
      refine h_iconst (M := mL_row) dL_row_15 ?_
      exact g_iret (M := mL_row) dL_row_16 rfl (Nat.le_of_eq (Nat.zero_add _)) (Nat.le_of_eq (Nat.zero_add _)) ⟨A, (fun _ _ => rfl), rfl, by rw [zKo_1]⟩
    · subst hE1
      refine g_callVe (M := mL_row) [.int (iI a1), .int (iI a2)] hX dL_row_5 vX7_row kM_L_31 (wX7_row hX bn h) rfl 0 (zWs_at (by omega) ((zSt_c 0 rfl (show σ 0 = (σ 0) from rfl))).o) rfl ⟨(Nat.le_of_ble_eq_true rfl), (Nat.le_of_ble_eq_true rfl)⟩ ⟨Nat.le_of_eq (Nat.zero_add _), Nat.le_of_eq (Nat.zero_add _)⟩ (Nat.le_of_ble_eq_true rfl) ?_
      refine gx_catch (M := mL_row) [(0, 10, 13, 35)] (0, 10, 17, 19) [] rfl (fun z hz => Or.inr (by simp only [tableOf, List.map_cons, List.map_nil, List.mem_singleton] at hz; rw [hz]; exact ⟨by decide, "java/lang/IndexOutOfBoundsException", kK_L_35, hL.2 _ (by simp)⟩)) rfl (by decide) kK_L_19 (fun U hU => zOL_c hL hU (c := 94) (by simp [zExc])) (fun e => ?_)
      refine g_lv (M := mL_row) [] rfl ?_
      refine g_astore (M := mL_row) (lv' := [(4, .ref e)]) dL_row_17 (Nat.le_of_ble_eq_true rfl) rfl ?_
      refine h_iconst (M := mL_row) dL_row_19 ?_
      exact g_iret (M := mL_row) dL_row_20 rfl (Nat.le_of_eq (Nat.zero_add _)) (Nat.le_of_eq (Nat.zero_add _)) ⟨A, (fun _ _ => rfl), rfl, by rw [zKo_2 (by decide)]⟩
set_option maxHeartbeats 4000000 in
set_option maxRecDepth 100000 in
theorem wL_letter {X : zX} (hX : zOK X) (hL : zOL X) {A : Nat → Nat} {n : Nat} {S : Nat → va_E} {σ : CS} (bn : 91 ≤ n) {q : Nat} (hq : 91 ≤ q ∧ q < n) {f : Nat → Int64} (hS : S q = aL X 1 f) {a1 : Int} {a2 : Int} {res : (Int ⊕ String)} (h : fX7_letter σ a1 a2 = some res) (hE : ∀ E, res = .inr E → E ∈ ["java/lang/IndexOutOfBoundsException"]) : Con X yL_letter mL_letter 8 2 12 [.ref (A 0), .int (iI a1), .int (iI a2), .ref (A q)] (zWs A n (zSt X A σ S)) (zRA A (fun k => 1 ≤ k ∧ k < 91) (fun A' => (zWs A' n (zSt X A' σ (zLo X q f S res)))) (fun _ => .inl (some (.int (iI (zKo ["java/lang/IndexOutOfBoundsException"] res)))))) := by
  refine con_ofH (lv := [(0, .ref (A 0)), (1, .int (iI a1)), (2, .int (iI a2)), (3, .ref (A q))]) (by decide) rfl (Nat.le_of_ble_eq_true rfl) rfl ?_
  change G X mL_letter _ _ _ _ _ _ _
  refine g_aload_n (M := mL_letter) dL_letter_0 3 rfl rfl ?_
  refine h_iconst (M := mL_letter) dL_letter_1 ?_
  refine g_aload_n (M := mL_letter) dL_letter_2 0 rfl rfl ?_
  refine g_iload_n (M := mL_letter) dL_letter_3 1 rfl rfl ?_
  refine g_iload_n (M := mL_letter) dL_letter_4 2 rfl rfl ?_
  cases res with
  | inl v =>
    refine g_callVx (M := mL_letter) [.int (iI a1), .int (iI a2)] hX dL_letter_5 vX7_letter kM_L_37 (wX7_letter hX bn h) rfl 0 (zWs_at (by omega) ((zSt_c 0 rfl (show σ 0 = (σ 0) from rfl))).o) rfl ⟨(Nat.le_of_ble_eq_true rfl), (Nat.le_of_ble_eq_true rfl)⟩ ⟨Nat.le_of_eq (Nat.zero_add _), Nat.le_of_eq (Nat.zero_add _)⟩ (Nat.le_of_ble_eq_true rfl) ?_
    have eq : A q = A q := rfl
    refine g_i2l (M := mL_letter) dL_letter_8 rfl ?_
    refine g_last (M := mL_letter) dL_letter_9 q (zo_at hq eq hS) (iI_in (by decide) (by decide) (by decide)) ?_
    refine g_ws (M := mL_letter) (zo_set hq.1 eq) ?_
    refine g_goto (M := mL_letter) (tgt := 17) dL_letter_10 (by decide) ?_
    refine g_lv (M := mL_letter) [] rfl ?_
    refine h_iconst (M := mL_letter) dL_letter_17 ?_
    exact g_iret (M := mL_letter) dL_letter_18 rfl (Nat.le_of_eq (Nat.zero_add _)) (Nat.le_of_eq (Nat.zero_add _)) ⟨A, (fun _ _ => rfl), rfl, rfl⟩
  | inr E =>
    have hE1 : E = "java/lang/IndexOutOfBoundsException" := List.mem_singleton.mp (hE E rfl)
    subst hE1
    refine g_callVe (M := mL_letter) [.int (iI a1), .int (iI a2)] hX dL_letter_5 vX7_letter kM_L_37 (wX7_letter hX bn h) rfl 0 (zWs_at (by omega) ((zSt_c 0 rfl (show σ 0 = (σ 0) from rfl))).o) rfl ⟨(Nat.le_of_ble_eq_true rfl), (Nat.le_of_ble_eq_true rfl)⟩ ⟨Nat.le_of_eq (Nat.zero_add _), Nat.le_of_eq (Nat.zero_add _)⟩ (Nat.le_of_ble_eq_true rfl) ?_
    refine gx_catch (M := mL_letter) [] (0, 10, 13, 35) [] rfl (fun z hz => by simp [tableOf] at hz) rfl (by decide) kK_L_35 (fun U hU => zOL_c hL hU (c := 193) (by simp [zExc])) (fun e => ?_)
    refine g_lv (M := mL_letter) [] rfl ?_
    refine g_astore (M := mL_letter) (lv' := [(4, .ref e)]) dL_letter_13 (Nat.le_of_ble_eq_true rfl) rfl ?_
    refine h_iconst (M := mL_letter) dL_letter_15 ?_
    exact g_iret (M := mL_letter) dL_letter_16 rfl (Nat.le_of_eq (Nat.zero_add _)) (Nat.le_of_eq (Nat.zero_add _)) ⟨A, (fun _ _ => rfl), rfl, by rw [zKo_1]⟩
set_option maxHeartbeats 4000000 in
set_option maxRecDepth 100000 in
theorem wL_wordAt {X : zX} (hX : zOK X) (hL : zOL X) {A : Nat → Nat} {n : Nat} {S : Nat → va_E} {σ : CS} (bn : 91 ≤ n) {q : Nat} (hq : 91 ≤ q ∧ q < n) {f : Nat → Int64} (hS : S q = aL X 1 f) {a1 : Int} {a2 : Int} {res : (Int ⊕ String)} (h : fX7_wordAt σ a1 a2 = some res) (hE : ∀ E, res = .inr E → E ∈ ["java/lang/IndexOutOfBoundsException"]) : Con X yL_wordAt mL_wordAt 8 1 6 [.ref (A 0), .int (iI a1), .int (iI a2), .ref (A q)] (zWs A n (zSt X A σ S)) (zRA A (fun k => 1 ≤ k ∧ k < 91) (fun A' => (zWs A' n (zSt X A' σ (zLo X q f S res)))) (fun _ => .inl (some (.int (iI (zKo ["java/lang/IndexOutOfBoundsException"] res)))))) := by
  refine con_ofH (lv := [(0, .ref (A 0)), (1, .int (iI a1)), (2, .int (iI a2)), (3, .ref (A q))]) (by decide) rfl (Nat.le_of_ble_eq_true rfl) rfl ?_
  change G X mL_wordAt _ _ _ _ _ _ _
  refine g_aload_n (M := mL_wordAt) dL_wordAt_0 3 rfl rfl ?_
  refine h_iconst (M := mL_wordAt) dL_wordAt_1 ?_
  refine g_aload_n (M := mL_wordAt) dL_wordAt_2 0 rfl rfl ?_
  refine g_iload_n (M := mL_wordAt) dL_wordAt_3 1 rfl rfl ?_
  refine g_iload_n (M := mL_wordAt) dL_wordAt_4 2 rfl rfl ?_
  cases res with
  | inl v =>
    refine g_callVx (M := mL_wordAt) [.int (iI a1), .int (iI a2)] hX dL_wordAt_5 vX7_wordAt kM_L_40 (wX7_wordAt hX bn h) rfl 0 (zWs_at (by omega) ((zSt_c 0 rfl (show σ 0 = (σ 0) from rfl))).o) rfl ⟨(Nat.le_of_ble_eq_true rfl), (Nat.le_of_ble_eq_true rfl)⟩ ⟨Nat.le_of_eq (Nat.zero_add _), Nat.le_of_eq (Nat.zero_add _)⟩ (Nat.le_of_ble_eq_true rfl) ?_
    have eq : A q = A q := rfl
    refine g_i2l (M := mL_wordAt) dL_wordAt_8 rfl ?_
    refine g_last (M := mL_wordAt) dL_wordAt_9 q (zo_at hq eq hS) (iI_in (by decide) (by decide) (by decide)) ?_
    refine g_ws (M := mL_wordAt) (zo_set hq.1 eq) ?_
    refine g_goto (M := mL_wordAt) (tgt := 17) dL_wordAt_10 (by decide) ?_
    refine g_lv (M := mL_wordAt) [] rfl ?_
    refine h_iconst (M := mL_wordAt) dL_wordAt_17 ?_
    exact g_iret (M := mL_wordAt) dL_wordAt_18 rfl (Nat.le_of_eq (Nat.zero_add _)) (Nat.le_of_eq (Nat.zero_add _)) ⟨A, (fun _ _ => rfl), rfl, rfl⟩
  | inr E =>
    have hE1 : E = "java/lang/IndexOutOfBoundsException" := List.mem_singleton.mp (hE E rfl)
    subst hE1
    refine g_callVe (M := mL_wordAt) [.int (iI a1), .int (iI a2)] hX dL_wordAt_5 vX7_wordAt kM_L_40 (wX7_wordAt hX bn h) rfl 0 (zWs_at (by omega) ((zSt_c 0 rfl (show σ 0 = (σ 0) from rfl))).o) rfl ⟨(Nat.le_of_ble_eq_true rfl), (Nat.le_of_ble_eq_true rfl)⟩ ⟨Nat.le_of_eq (Nat.zero_add _), Nat.le_of_eq (Nat.zero_add _)⟩ (Nat.le_of_ble_eq_true rfl) ?_
    refine gx_catch (M := mL_wordAt) [] (0, 10, 13, 35) [] rfl (fun z hz => by simp [tableOf] at hz) rfl (by decide) kK_L_35 (fun U hU => zOL_c hL hU (c := 193) (by simp [zExc])) (fun e => ?_)
    refine g_lv (M := mL_wordAt) [] rfl ?_
    refine g_astore (M := mL_wordAt) (lv' := [(4, .ref e)]) dL_wordAt_13 (Nat.le_of_ble_eq_true rfl) rfl ?_
    refine h_iconst (M := mL_wordAt) dL_wordAt_15 ?_
    exact g_iret (M := mL_wordAt) dL_wordAt_16 rfl (Nat.le_of_eq (Nat.zero_add _)) (Nat.le_of_eq (Nat.zero_add _)) ⟨A, (fun _ _ => rfl), rfl, by rw [zKo_1]⟩
set_option maxHeartbeats 4000000 in
set_option maxRecDepth 100000 in
theorem wL_differ {X : zX} (hX : zOK X) (hL : zOL X) {A : Nat → Nat} {n : Nat} {S : Nat → va_E} {σ : CS} (bn : 91 ≤ n) {q : Nat} (hq : 91 ≤ q ∧ q < n) {f : Nat → Int64} (hS : S q = aL X 1 f) {a1 : Int} {a2 : Int} {res : (Int ⊕ String)} (h : fX7_differ σ a1 a2 = some res) (hE : ∀ E, res = .inr E → E ∈ ["java/lang/IndexOutOfBoundsException"]) : Con X yL_differ mL_differ 8 2 12 [.ref (A 0), .int (iI a1), .int (iI a2), .ref (A q)] (zWs A n (zSt X A σ S)) (zRA A (fun k => 1 ≤ k ∧ k < 91) (fun A' => (zWs A' n (zSt X A' σ (zLo X q f S res)))) (fun _ => .inl (some (.int (iI (zKo ["java/lang/IndexOutOfBoundsException"] res)))))) := by
  refine con_ofH (lv := [(0, .ref (A 0)), (1, .int (iI a1)), (2, .int (iI a2)), (3, .ref (A q))]) (by decide) rfl (Nat.le_of_ble_eq_true rfl) rfl ?_
  change G X mL_differ _ _ _ _ _ _ _
  refine g_aload_n (M := mL_differ) dL_differ_0 3 rfl rfl ?_
  refine h_iconst (M := mL_differ) dL_differ_1 ?_
  refine g_aload_n (M := mL_differ) dL_differ_2 0 rfl rfl ?_
  refine g_iload_n (M := mL_differ) dL_differ_3 1 rfl rfl ?_
  refine g_iload_n (M := mL_differ) dL_differ_4 2 rfl rfl ?_
  cases res with
  | inl v =>
    refine g_callVx (M := mL_differ) [.int (iI a1), .int (iI a2)] hX dL_differ_5 vX7_differ kM_L_43 (wX7_differ hX bn h) rfl 0 (zWs_at (by omega) ((zSt_c 0 rfl (show σ 0 = (σ 0) from rfl))).o) rfl ⟨(Nat.le_of_ble_eq_true rfl), (Nat.le_of_ble_eq_true rfl)⟩ ⟨Nat.le_of_eq (Nat.zero_add _), Nat.le_of_eq (Nat.zero_add _)⟩ (Nat.le_of_ble_eq_true rfl) ?_
    have eq : A q = A q := rfl
    refine g_i2l (M := mL_differ) dL_differ_8 rfl ?_
    refine g_last (M := mL_differ) dL_differ_9 q (zo_at hq eq hS) (iI_in (by decide) (by decide) (by decide)) ?_
    refine g_ws (M := mL_differ) (zo_set hq.1 eq) ?_
    refine g_goto (M := mL_differ) (tgt := 17) dL_differ_10 (by decide) ?_
    refine g_lv (M := mL_differ) [] rfl ?_
    refine h_iconst (M := mL_differ) dL_differ_17 ?_
    exact g_iret (M := mL_differ) dL_differ_18 rfl (Nat.le_of_eq (Nat.zero_add _)) (Nat.le_of_eq (Nat.zero_add _)) ⟨A, (fun _ _ => rfl), rfl, rfl⟩
  | inr E =>
    have hE1 : E = "java/lang/IndexOutOfBoundsException" := List.mem_singleton.mp (hE E rfl)
    subst hE1
    refine g_callVe (M := mL_differ) [.int (iI a1), .int (iI a2)] hX dL_differ_5 vX7_differ kM_L_43 (wX7_differ hX bn h) rfl 0 (zWs_at (by omega) ((zSt_c 0 rfl (show σ 0 = (σ 0) from rfl))).o) rfl ⟨(Nat.le_of_ble_eq_true rfl), (Nat.le_of_ble_eq_true rfl)⟩ ⟨Nat.le_of_eq (Nat.zero_add _), Nat.le_of_eq (Nat.zero_add _)⟩ (Nat.le_of_ble_eq_true rfl) ?_
    refine gx_catch (M := mL_differ) [] (0, 10, 13, 35) [] rfl (fun z hz => by simp [tableOf] at hz) rfl (by decide) kK_L_35 (fun U hU => zOL_c hL hU (c := 193) (by simp [zExc])) (fun e => ?_)
    refine g_lv (M := mL_differ) [] rfl ?_
    refine g_astore (M := mL_differ) (lv' := [(4, .ref e)]) dL_differ_13 (Nat.le_of_ble_eq_true rfl) rfl ?_
    refine h_iconst (M := mL_differ) dL_differ_15 ?_
    exact g_iret (M := mL_differ) dL_differ_16 rfl (Nat.le_of_eq (Nat.zero_add _)) (Nat.le_of_eq (Nat.zero_add _)) ⟨A, (fun _ _ => rfl), rfl, by rw [zKo_1]⟩
set_option maxHeartbeats 4000000 in
set_option maxRecDepth 100000 in
theorem wL_distance {X : zX} (hX : zOK X) (hL : zOL X) {A : Nat → Nat} {n : Nat} {S : Nat → va_E} {σ : CS} (bn : 91 ≤ n) {q : Nat} (hq : 91 ≤ q ∧ q < n) {f : Nat → Int64} (hS : S q = aL X 1 f) {a1 : Int} {a2 : Int} {res : (Int ⊕ String)} (h : fX7_distance σ a1 a2 = some res) (hE : ∀ E, res = .inr E → E ∈ ["java/lang/IndexOutOfBoundsException"]) : Con X yL_distance mL_distance 8 2 12 [.ref (A 0), .int (iI a1), .int (iI a2), .ref (A q)] (zWs A n (zSt X A σ S)) (zRA A (fun k => 1 ≤ k ∧ k < 91) (fun A' => (zWs A' n (zSt X A' σ (zLo X q f S res)))) (fun _ => .inl (some (.int (iI (zKo ["java/lang/IndexOutOfBoundsException"] res)))))) := by
  refine con_ofH (lv := [(0, .ref (A 0)), (1, .int (iI a1)), (2, .int (iI a2)), (3, .ref (A q))]) (by decide) rfl (Nat.le_of_ble_eq_true rfl) rfl ?_
  change G X mL_distance _ _ _ _ _ _ _
  refine g_aload_n (M := mL_distance) dL_distance_0 3 rfl rfl ?_
  refine h_iconst (M := mL_distance) dL_distance_1 ?_
  refine g_aload_n (M := mL_distance) dL_distance_2 0 rfl rfl ?_
  refine g_iload_n (M := mL_distance) dL_distance_3 1 rfl rfl ?_
  refine g_iload_n (M := mL_distance) dL_distance_4 2 rfl rfl ?_
  cases res with
  | inl v =>
    refine g_callVx (M := mL_distance) [.int (iI a1), .int (iI a2)] hX dL_distance_5 vX7_distance kM_L_46 (wX7_distance hX bn h) rfl 0 (zWs_at (by omega) ((zSt_c 0 rfl (show σ 0 = (σ 0) from rfl))).o) rfl ⟨(Nat.le_of_ble_eq_true rfl), (Nat.le_of_ble_eq_true rfl)⟩ ⟨Nat.le_of_eq (Nat.zero_add _), Nat.le_of_eq (Nat.zero_add _)⟩ (Nat.le_of_ble_eq_true rfl) ?_
    have eq : A q = A q := rfl
    refine g_i2l (M := mL_distance) dL_distance_8 rfl ?_
    refine g_last (M := mL_distance) dL_distance_9 q (zo_at hq eq hS) (iI_in (by decide) (by decide) (by decide)) ?_
    refine g_ws (M := mL_distance) (zo_set hq.1 eq) ?_
    refine g_goto (M := mL_distance) (tgt := 17) dL_distance_10 (by decide) ?_
    refine g_lv (M := mL_distance) [] rfl ?_
    refine h_iconst (M := mL_distance) dL_distance_17 ?_
    exact g_iret (M := mL_distance) dL_distance_18 rfl (Nat.le_of_eq (Nat.zero_add _)) (Nat.le_of_eq (Nat.zero_add _)) ⟨A, (fun _ _ => rfl), rfl, rfl⟩
  | inr E =>
    have hE1 : E = "java/lang/IndexOutOfBoundsException" := List.mem_singleton.mp (hE E rfl)
    subst hE1
    refine g_callVe (M := mL_distance) [.int (iI a1), .int (iI a2)] hX dL_distance_5 vX7_distance kM_L_46 (wX7_distance hX bn h) rfl 0 (zWs_at (by omega) ((zSt_c 0 rfl (show σ 0 = (σ 0) from rfl))).o) rfl ⟨(Nat.le_of_ble_eq_true rfl), (Nat.le_of_ble_eq_true rfl)⟩ ⟨Nat.le_of_eq (Nat.zero_add _), Nat.le_of_eq (Nat.zero_add _)⟩ (Nat.le_of_ble_eq_true rfl) ?_
    refine gx_catch (M := mL_distance) [] (0, 10, 13, 35) [] rfl (fun z hz => by simp [tableOf] at hz) rfl (by decide) kK_L_35 (fun U hU => zOL_c hL hU (c := 193) (by simp [zExc])) (fun e => ?_)
    refine g_lv (M := mL_distance) [] rfl ?_
    refine g_astore (M := mL_distance) (lv' := [(4, .ref e)]) dL_distance_13 (Nat.le_of_ble_eq_true rfl) rfl ?_
    refine h_iconst (M := mL_distance) dL_distance_15 ?_
    exact g_iret (M := mL_distance) dL_distance_16 rfl (Nat.le_of_eq (Nat.zero_add _)) (Nat.le_of_eq (Nat.zero_add _)) ⟨A, (fun _ _ => rfl), rfl, by rw [zKo_1]⟩
set_option maxHeartbeats 4000000 in
set_option maxRecDepth 100000 in
theorem wL_score {X : zX} (hX : zOK X) (hL : zOL X) {A : Nat → Nat} {n : Nat} {S : Nat → va_E} {σ : CS} (bn : 91 ≤ n) {q : Nat} (hq : 91 ≤ q ∧ q < n) {f : Nat → Int64} (hS : S q = aL X 1 f) {a1 : Int} {res : (Int ⊕ String)} (h : fX7_score σ a1 = some res) (hE : ∀ E, res = .inr E → E ∈ ["java/lang/IndexOutOfBoundsException"]) : Con X yL_score mL_score 8 1 6 [.ref (A 0), .int (iI a1), .ref (A q)] (zWs A n (zSt X A σ S)) (zRA A (fun k => 1 ≤ k ∧ k < 91) (fun A' => (zWs A' n (zSt X A' σ (zLo X q f S res)))) (fun _ => .inl (some (.int (iI (zKo ["java/lang/IndexOutOfBoundsException"] res)))))) := by
  refine con_ofH (lv := [(0, .ref (A 0)), (1, .int (iI a1)), (2, .ref (A q))]) (by decide) rfl (Nat.le_of_ble_eq_true rfl) rfl ?_
  change G X mL_score _ _ _ _ _ _ _
  refine g_aload_n (M := mL_score) dL_score_0 2 rfl rfl ?_
  refine h_iconst (M := mL_score) dL_score_1 ?_
  refine g_aload_n (M := mL_score) dL_score_2 0 rfl rfl ?_
  refine g_iload_n (M := mL_score) dL_score_3 1 rfl rfl ?_
  cases res with
  | inl v =>
    refine g_callVx (M := mL_score) [.int (iI a1)] hX dL_score_4 vX7_score kM_L_49 (wX7_score hX bn h) rfl 0 (zWs_at (by omega) ((zSt_c 0 rfl (show σ 0 = (σ 0) from rfl))).o) rfl ⟨(Nat.le_of_ble_eq_true rfl), (Nat.le_of_ble_eq_true rfl)⟩ ⟨Nat.le_of_eq (Nat.zero_add _), Nat.le_of_eq (Nat.zero_add _)⟩ (Nat.le_of_ble_eq_true rfl) ?_
    have eq : A q = A q := rfl
    refine g_i2l (M := mL_score) dL_score_7 rfl ?_
    refine g_last (M := mL_score) dL_score_8 q (zo_at hq eq hS) (iI_in (by decide) (by decide) (by decide)) ?_
    refine g_ws (M := mL_score) (zo_set hq.1 eq) ?_
    refine g_goto (M := mL_score) (tgt := 15) dL_score_9 (by decide) ?_
    refine g_lv (M := mL_score) [] rfl ?_
    refine h_iconst (M := mL_score) dL_score_15 ?_
    exact g_iret (M := mL_score) dL_score_16 rfl (Nat.le_of_eq (Nat.zero_add _)) (Nat.le_of_eq (Nat.zero_add _)) ⟨A, (fun _ _ => rfl), rfl, rfl⟩
  | inr E =>
    have hE1 : E = "java/lang/IndexOutOfBoundsException" := List.mem_singleton.mp (hE E rfl)
    subst hE1
    refine g_callVe (M := mL_score) [.int (iI a1)] hX dL_score_4 vX7_score kM_L_49 (wX7_score hX bn h) rfl 0 (zWs_at (by omega) ((zSt_c 0 rfl (show σ 0 = (σ 0) from rfl))).o) rfl ⟨(Nat.le_of_ble_eq_true rfl), (Nat.le_of_ble_eq_true rfl)⟩ ⟨Nat.le_of_eq (Nat.zero_add _), Nat.le_of_eq (Nat.zero_add _)⟩ (Nat.le_of_ble_eq_true rfl) ?_
    refine gx_catch (M := mL_score) [] (0, 9, 12, 35) [] rfl (fun z hz => by simp [tableOf] at hz) rfl (by decide) kK_L_35 (fun U hU => zOL_c hL hU (c := 193) (by simp [zExc])) (fun e => ?_)
    refine g_lv (M := mL_score) [] rfl ?_
    refine g_astore_n (M := mL_score) (i := 3) (lv' := [(3, .ref e)]) dL_score_12 rfl (Nat.le_of_ble_eq_true rfl) rfl ?_
    refine h_iconst (M := mL_score) dL_score_13 ?_
    exact g_iret (M := mL_score) dL_score_14 rfl (Nat.le_of_eq (Nat.zero_add _)) (Nat.le_of_eq (Nat.zero_add _)) ⟨A, (fun _ _ => rfl), rfl, by rw [zKo_1]⟩
set_option maxHeartbeats 4000000 in
set_option maxRecDepth 100000 in
theorem wL_having {X : zX} (hX : zOK X) (hL : zOL X) {A : Nat → Nat} {n : Nat} {S : Nat → va_E} {σ : CS} (bn : 91 ≤ n) {q : Nat} (hq : 91 ≤ q ∧ q < n) {f : Nat → Int64} (hS : S q = aL X 1 f) {a1 : Int} {res : (Int ⊕ String)} (h : fX7_having σ a1 = some res) (hE : ∀ E, res = .inr E → E ∈ ["java/lang/IndexOutOfBoundsException"]) : Con X yL_having mL_having 8 1 6 [.ref (A 0), .int (iI a1), .ref (A q)] (zWs A n (zSt X A σ S)) (zRA A (fun k => 1 ≤ k ∧ k < 91) (fun A' => (zWs A' n (zSt X A' σ (zLo X q f S res)))) (fun _ => .inl (some (.int (iI (zKo ["java/lang/IndexOutOfBoundsException"] res)))))) := by
  refine con_ofH (lv := [(0, .ref (A 0)), (1, .int (iI a1)), (2, .ref (A q))]) (by decide) rfl (Nat.le_of_ble_eq_true rfl) rfl ?_
  change G X mL_having _ _ _ _ _ _ _
  refine g_aload_n (M := mL_having) dL_having_0 2 rfl rfl ?_
  refine h_iconst (M := mL_having) dL_having_1 ?_
  refine g_aload_n (M := mL_having) dL_having_2 0 rfl rfl ?_
  refine g_iload_n (M := mL_having) dL_having_3 1 rfl rfl ?_
  cases res with
  | inl v =>
    refine g_callVx (M := mL_having) [.int (iI a1)] hX dL_having_4 vX7_having kM_L_52 (wX7_having hX bn h) rfl 0 (zWs_at (by omega) ((zSt_c 0 rfl (show σ 0 = (σ 0) from rfl))).o) rfl ⟨(Nat.le_of_ble_eq_true rfl), (Nat.le_of_ble_eq_true rfl)⟩ ⟨Nat.le_of_eq (Nat.zero_add _), Nat.le_of_eq (Nat.zero_add _)⟩ (Nat.le_of_ble_eq_true rfl) ?_
    have eq : A q = A q := rfl
    refine g_i2l (M := mL_having) dL_having_7 rfl ?_
    refine g_last (M := mL_having) dL_having_8 q (zo_at hq eq hS) (iI_in (by decide) (by decide) (by decide)) ?_
    refine g_ws (M := mL_having) (zo_set hq.1 eq) ?_
    refine g_goto (M := mL_having) (tgt := 15) dL_having_9 (by decide) ?_
    refine g_lv (M := mL_having) [] rfl ?_
    refine h_iconst (M := mL_having) dL_having_15 ?_
    exact g_iret (M := mL_having) dL_having_16 rfl (Nat.le_of_eq (Nat.zero_add _)) (Nat.le_of_eq (Nat.zero_add _)) ⟨A, (fun _ _ => rfl), rfl, rfl⟩
  | inr E =>
    have hE1 : E = "java/lang/IndexOutOfBoundsException" := List.mem_singleton.mp (hE E rfl)
    subst hE1
    refine g_callVe (M := mL_having) [.int (iI a1)] hX dL_having_4 vX7_having kM_L_52 (wX7_having hX bn h) rfl 0 (zWs_at (by omega) ((zSt_c 0 rfl (show σ 0 = (σ 0) from rfl))).o) rfl ⟨(Nat.le_of_ble_eq_true rfl), (Nat.le_of_ble_eq_true rfl)⟩ ⟨Nat.le_of_eq (Nat.zero_add _), Nat.le_of_eq (Nat.zero_add _)⟩ (Nat.le_of_ble_eq_true rfl) ?_
    refine gx_catch (M := mL_having) [] (0, 9, 12, 35) [] rfl (fun z hz => by simp [tableOf] at hz) rfl (by decide) kK_L_35 (fun U hU => zOL_c hL hU (c := 193) (by simp [zExc])) (fun e => ?_)
    refine g_lv (M := mL_having) [] rfl ?_
    refine g_astore_n (M := mL_having) (i := 3) (lv' := [(3, .ref e)]) dL_having_12 rfl (Nat.le_of_ble_eq_true rfl) rfl ?_
    refine h_iconst (M := mL_having) dL_having_13 ?_
    exact g_iret (M := mL_having) dL_having_14 rfl (Nat.le_of_eq (Nat.zero_add _)) (Nat.le_of_eq (Nat.zero_add _)) ⟨A, (fun _ _ => rfl), rfl, by rw [zKo_1]⟩
set_option maxHeartbeats 4000000 in
set_option maxRecDepth 100000 in
theorem wL_closest {X : zX} (hX : zOK X) (hL : zOL X) {A : Nat → Nat} {n : Nat} {S : Nat → va_E} {σ : CS} (bn : 91 ≤ n) {q : Nat} (hq : 91 ≤ q ∧ q < n) {f : Nat → Int64} (hS : S q = aL X 1 f) {a1 : Int} {a2 : Int} {res : (Int ⊕ String)} (h : fX7_closest σ a1 a2 = some res) (hE : ∀ E, res = .inr E → E ∈ ["java/lang/IndexOutOfBoundsException"]) : Con X yL_closest mL_closest 8 2 12 [.ref (A 0), .int (iI a1), .int (iI a2), .ref (A q)] (zWs A n (zSt X A σ S)) (zRA A (fun k => 1 ≤ k ∧ k < 91) (fun A' => (zWs A' n (zSt X A' σ (zLo X q f S res)))) (fun _ => .inl (some (.int (iI (zKo ["java/lang/IndexOutOfBoundsException"] res)))))) := by
  refine con_ofH (lv := [(0, .ref (A 0)), (1, .int (iI a1)), (2, .int (iI a2)), (3, .ref (A q))]) (by decide) rfl (Nat.le_of_ble_eq_true rfl) rfl ?_
  change G X mL_closest _ _ _ _ _ _ _
  refine g_aload_n (M := mL_closest) dL_closest_0 3 rfl rfl ?_
  refine h_iconst (M := mL_closest) dL_closest_1 ?_
  refine g_aload_n (M := mL_closest) dL_closest_2 0 rfl rfl ?_
  refine g_iload_n (M := mL_closest) dL_closest_3 1 rfl rfl ?_
  refine g_iload_n (M := mL_closest) dL_closest_4 2 rfl rfl ?_
  cases res with
  | inl v =>
    refine g_callVx (M := mL_closest) [.int (iI a1), .int (iI a2)] hX dL_closest_5 vX7_closest kM_L_55 (wX7_closest hX bn h) rfl 0 (zWs_at (by omega) ((zSt_c 0 rfl (show σ 0 = (σ 0) from rfl))).o) rfl ⟨(Nat.le_of_ble_eq_true rfl), (Nat.le_of_ble_eq_true rfl)⟩ ⟨Nat.le_of_eq (Nat.zero_add _), Nat.le_of_eq (Nat.zero_add _)⟩ (Nat.le_of_ble_eq_true rfl) ?_
    have eq : A q = A q := rfl
    refine g_i2l (M := mL_closest) dL_closest_8 rfl ?_
    refine g_last (M := mL_closest) dL_closest_9 q (zo_at hq eq hS) (iI_in (by decide) (by decide) (by decide)) ?_
    refine g_ws (M := mL_closest) (zo_set hq.1 eq) ?_
    refine g_goto (M := mL_closest) (tgt := 17) dL_closest_10 (by decide) ?_
    refine g_lv (M := mL_closest) [] rfl ?_
    refine h_iconst (M := mL_closest) dL_closest_17 ?_
    exact g_iret (M := mL_closest) dL_closest_18 rfl (Nat.le_of_eq (Nat.zero_add _)) (Nat.le_of_eq (Nat.zero_add _)) ⟨A, (fun _ _ => rfl), rfl, rfl⟩
  | inr E =>
    have hE1 : E = "java/lang/IndexOutOfBoundsException" := List.mem_singleton.mp (hE E rfl)
    subst hE1
    refine g_callVe (M := mL_closest) [.int (iI a1), .int (iI a2)] hX dL_closest_5 vX7_closest kM_L_55 (wX7_closest hX bn h) rfl 0 (zWs_at (by omega) ((zSt_c 0 rfl (show σ 0 = (σ 0) from rfl))).o) rfl ⟨(Nat.le_of_ble_eq_true rfl), (Nat.le_of_ble_eq_true rfl)⟩ ⟨Nat.le_of_eq (Nat.zero_add _), Nat.le_of_eq (Nat.zero_add _)⟩ (Nat.le_of_ble_eq_true rfl) ?_
    refine gx_catch (M := mL_closest) [] (0, 10, 13, 35) [] rfl (fun z hz => by simp [tableOf] at hz) rfl (by decide) kK_L_35 (fun U hU => zOL_c hL hU (c := 193) (by simp [zExc])) (fun e => ?_)
    refine g_lv (M := mL_closest) [] rfl ?_
    refine g_astore (M := mL_closest) (lv' := [(4, .ref e)]) dL_closest_13 (Nat.le_of_ble_eq_true rfl) rfl ?_
    refine h_iconst (M := mL_closest) dL_closest_15 ?_
    exact g_iret (M := mL_closest) dL_closest_16 rfl (Nat.le_of_eq (Nat.zero_add _)) (Nat.le_of_eq (Nat.zero_add _)) ⟨A, (fun _ _ => rfl), rfl, by rw [zKo_1]⟩
set_option maxHeartbeats 4000000 in
set_option maxRecDepth 100000 in
theorem wL_spread {X : zX} (hX : zOK X) (hL : zOL X) {A : Nat → Nat} {n : Nat} {S : Nat → va_E} {σ : CS} (bn : 91 ≤ n) {q : Nat} (hq : 91 ≤ q ∧ q < n) {f : Nat → Int64} (hS : S q = aL X 1 f) {a1 : Int} {res : (Int ⊕ String)} (h : fX7_spread σ a1 = some res) (hE : ∀ E, res = .inr E → E ∈ ["java/lang/IndexOutOfBoundsException"]) : Con X yL_spread mL_spread 8 1 6 [.ref (A 0), .int (iI a1), .ref (A q)] (zWs A n (zSt X A σ S)) (zRA A (fun k => 1 ≤ k ∧ k < 91) (fun A' => (zWs A' n (zSt X A' σ (zLo X q f S res)))) (fun _ => .inl (some (.int (iI (zKo ["java/lang/IndexOutOfBoundsException"] res)))))) := by
  refine con_ofH (lv := [(0, .ref (A 0)), (1, .int (iI a1)), (2, .ref (A q))]) (by decide) rfl (Nat.le_of_ble_eq_true rfl) rfl ?_
  change G X mL_spread _ _ _ _ _ _ _
  refine g_aload_n (M := mL_spread) dL_spread_0 2 rfl rfl ?_
  refine h_iconst (M := mL_spread) dL_spread_1 ?_
  refine g_aload_n (M := mL_spread) dL_spread_2 0 rfl rfl ?_
  refine g_iload_n (M := mL_spread) dL_spread_3 1 rfl rfl ?_
  cases res with
  | inl v =>
    refine g_callVx (M := mL_spread) [.int (iI a1)] hX dL_spread_4 vX7_spread kM_L_58 (wX7_spread hX bn h) rfl 0 (zWs_at (by omega) ((zSt_c 0 rfl (show σ 0 = (σ 0) from rfl))).o) rfl ⟨(Nat.le_of_ble_eq_true rfl), (Nat.le_of_ble_eq_true rfl)⟩ ⟨Nat.le_of_eq (Nat.zero_add _), Nat.le_of_eq (Nat.zero_add _)⟩ (Nat.le_of_ble_eq_true rfl) ?_
    have eq : A q = A q := rfl
    refine g_i2l (M := mL_spread) dL_spread_7 rfl ?_
    refine g_last (M := mL_spread) dL_spread_8 q (zo_at hq eq hS) (iI_in (by decide) (by decide) (by decide)) ?_
    refine g_ws (M := mL_spread) (zo_set hq.1 eq) ?_
    refine g_goto (M := mL_spread) (tgt := 15) dL_spread_9 (by decide) ?_
    refine g_lv (M := mL_spread) [] rfl ?_
    refine h_iconst (M := mL_spread) dL_spread_15 ?_
    exact g_iret (M := mL_spread) dL_spread_16 rfl (Nat.le_of_eq (Nat.zero_add _)) (Nat.le_of_eq (Nat.zero_add _)) ⟨A, (fun _ _ => rfl), rfl, rfl⟩
  | inr E =>
    have hE1 : E = "java/lang/IndexOutOfBoundsException" := List.mem_singleton.mp (hE E rfl)
    subst hE1
    refine g_callVe (M := mL_spread) [.int (iI a1)] hX dL_spread_4 vX7_spread kM_L_58 (wX7_spread hX bn h) rfl 0 (zWs_at (by omega) ((zSt_c 0 rfl (show σ 0 = (σ 0) from rfl))).o) rfl ⟨(Nat.le_of_ble_eq_true rfl), (Nat.le_of_ble_eq_true rfl)⟩ ⟨Nat.le_of_eq (Nat.zero_add _), Nat.le_of_eq (Nat.zero_add _)⟩ (Nat.le_of_ble_eq_true rfl) ?_
    refine gx_catch (M := mL_spread) [] (0, 9, 12, 35) [] rfl (fun z hz => by simp [tableOf] at hz) rfl (by decide) kK_L_35 (fun U hU => zOL_c hL hU (c := 193) (by simp [zExc])) (fun e => ?_)
    refine g_lv (M := mL_spread) [] rfl ?_
    refine g_astore_n (M := mL_spread) (i := 3) (lv' := [(3, .ref e)]) dL_spread_12 rfl (Nat.le_of_ble_eq_true rfl) rfl ?_
    refine h_iconst (M := mL_spread) dL_spread_13 ?_
    exact g_iret (M := mL_spread) dL_spread_14 rfl (Nat.le_of_eq (Nat.zero_add _)) (Nat.le_of_eq (Nat.zero_add _)) ⟨A, (fun _ _ => rfl), rfl, by rw [zKo_1]⟩
set_option maxHeartbeats 4000000 in
set_option maxRecDepth 100000 in
theorem wL_shared {X : zX} (hX : zOK X) (hL : zOL X) {A : Nat → Nat} {n : Nat} {S : Nat → va_E} {σ : CS} (bn : 91 ≤ n) {q : Nat} (hq : 91 ≤ q ∧ q < n) {f : Nat → Int64} (hS : S q = aL X 1 f) {a1 : Int} {a2 : Int} {res : CS × (Int ⊕ String)} (h : fX7_shared σ a1 a2 = some res) (hE : ∀ E, res.2 = .inr E → E ∈ ["java/lang/IndexOutOfBoundsException"]) : Con X yL_shared mL_shared 8 (3 + zNt (σ 10) (σ 4)) (18 + 4096 * zNt (σ 10) (σ 4)) [.ref (A 0), .int (iI a1), .int (iI a2), .ref (A q)] (zWs A n (zSt X A σ S)) (zRA A (fun k => 1 ≤ k ∧ k < 91) (fun A' => (zWs A' n (zSt X A' res.1 (zLo X q f S res.2)))) (fun _ => .inl (some (.int (iI (zKo ["java/lang/IndexOutOfBoundsException"] res.2)))))) := by
  refine con_ofH (lv := [(0, .ref (A 0)), (1, .int (iI a1)), (2, .int (iI a2)), (3, .ref (A q))]) (by decide) rfl (Nat.le_of_ble_eq_true rfl) rfl ?_
  change G X mL_shared _ _ _ _ _ _ _
  refine g_aload_n (M := mL_shared) dL_shared_0 3 rfl rfl ?_
  refine h_iconst (M := mL_shared) dL_shared_1 ?_
  refine g_aload_n (M := mL_shared) dL_shared_2 0 rfl rfl ?_
  refine g_iload_n (M := mL_shared) dL_shared_3 1 rfl rfl ?_
  refine g_iload_n (M := mL_shared) dL_shared_4 2 rfl rfl ?_
  obtain ⟨τ, r⟩ := res
  cases r with
  | inl v =>
    refine g_callVA (M := mL_shared) [.int (iI a1), .int (iI a2)] hX dL_shared_5 vX7_shared kM_L_61 (wX7_shared hX bn h) (fun _ => rfl) 0 (zWs_at (by omega) ((zSt_c 0 rfl (show σ 0 = (σ 0) from rfl))).o) rfl ⟨(Nat.le_of_ble_eq_true rfl), (Nat.le_of_ble_eq_true rfl)⟩ ⟨Nat.le_of_eq (Nat.zero_add _), Nat.le_of_eq (Nat.zero_add _)⟩ (Nat.le_of_ble_eq_true rfl) (fun A' hA' => ?_)
    have eq : A' q = A q := hA' q (fun z => absurd z.2 (Nat.not_lt.mpr hq.1))
    refine g_i2l (M := mL_shared) dL_shared_8 rfl ?_
    refine g_last (M := mL_shared) dL_shared_9 q (zo_at hq eq hS) (iI_in (by decide) (by decide) (by decide)) ?_
    refine g_ws (M := mL_shared) (zo_set hq.1 eq) ?_
    refine g_goto (M := mL_shared) (tgt := 17) dL_shared_10 (by decide) ?_
    refine g_lv (M := mL_shared) [] rfl ?_
    refine h_iconst (M := mL_shared) dL_shared_17 ?_
    exact g_iret (M := mL_shared) dL_shared_18 rfl (Nat.le_of_eq (Nat.zero_add _)) (Nat.le_of_eq (Nat.zero_add _)) ⟨A', hA', rfl, rfl⟩
  | inr E =>
    have hE1 : E = "java/lang/IndexOutOfBoundsException" := List.mem_singleton.mp (hE E rfl)
    subst hE1
    refine g_callVAe (M := mL_shared) [.int (iI a1), .int (iI a2)] hX dL_shared_5 vX7_shared kM_L_61 (wX7_shared hX bn h) (fun _ => rfl) 0 (zWs_at (by omega) ((zSt_c 0 rfl (show σ 0 = (σ 0) from rfl))).o) rfl ⟨(Nat.le_of_ble_eq_true rfl), (Nat.le_of_ble_eq_true rfl)⟩ ⟨Nat.le_of_eq (Nat.zero_add _), Nat.le_of_eq (Nat.zero_add _)⟩ (Nat.le_of_ble_eq_true rfl) (fun A' hA' => ?_)
    refine gx_catch (M := mL_shared) [] (0, 10, 13, 35) [] rfl (fun z hz => by simp [tableOf] at hz) rfl (by decide) kK_L_35 (fun U hU => zOL_c hL hU (c := 193) (by simp [zExc])) (fun e => ?_)
    refine g_lv (M := mL_shared) [] rfl ?_
    refine g_astore (M := mL_shared) (lv' := [(4, .ref e)]) dL_shared_13 (Nat.le_of_ble_eq_true rfl) rfl ?_
    refine h_iconst (M := mL_shared) dL_shared_15 ?_
    exact g_iret (M := mL_shared) dL_shared_16 rfl (Nat.le_of_eq (Nat.zero_add _)) (Nat.le_of_eq (Nat.zero_add _)) ⟨A', hA', rfl, by rw [zKo_1]⟩
set_option maxHeartbeats 4000000 in
set_option maxRecDepth 100000 in
theorem wL_sharedAt {X : zX} (hX : zOK X) (hL : zOL X) {A : Nat → Nat} {n : Nat} {S : Nat → va_E} {σ : CS} (bn : 91 ≤ n) {q : Nat} (hq : 91 ≤ q ∧ q < n) {f : Nat → Int64} (hS : S q = aL X 1 f) {a1 : Int} {a2 : Int} {a3 : Int} {res : CS × (Int ⊕ String)} (h : fX7_sharedAt σ a1 a2 a3 = some res) (hE : ∀ E, res.2 = .inr E → E ∈ ["java/lang/IndexOutOfBoundsException"]) : Con X yL_sharedAt mL_sharedAt 8 (3 + zNt (σ 10) (σ 4)) (18 + 4096 * zNt (σ 10) (σ 4)) [.ref (A 0), .int (iI a1), .int (iI a2), .int (iI a3), .ref (A q)] (zWs A n (zSt X A σ S)) (zRA A (fun k => 1 ≤ k ∧ k < 91) (fun A' => (zWs A' n (zSt X A' res.1 (zLo X q f S res.2)))) (fun _ => .inl (some (.int (iI (zKo ["java/lang/IndexOutOfBoundsException"] res.2)))))) := by
  refine con_ofH (lv := [(0, .ref (A 0)), (1, .int (iI a1)), (2, .int (iI a2)), (3, .int (iI a3)), (4, .ref (A q))]) (by decide) rfl (Nat.le_of_ble_eq_true rfl) rfl ?_
  change G X mL_sharedAt _ _ _ _ _ _ _
  refine g_aload (M := mL_sharedAt) dL_sharedAt_0 4 rfl ?_
  refine h_iconst (M := mL_sharedAt) dL_sharedAt_2 ?_
  refine g_aload_n (M := mL_sharedAt) dL_sharedAt_3 0 rfl rfl ?_
  refine g_iload_n (M := mL_sharedAt) dL_sharedAt_4 1 rfl rfl ?_
  refine g_iload_n (M := mL_sharedAt) dL_sharedAt_5 2 rfl rfl ?_
  refine g_iload_n (M := mL_sharedAt) dL_sharedAt_6 3 rfl rfl ?_
  obtain ⟨τ, r⟩ := res
  cases r with
  | inl v =>
    refine g_callVA (M := mL_sharedAt) [.int (iI a1), .int (iI a2), .int (iI a3)] hX dL_sharedAt_7 vX7_sharedAt kM_L_64 (wX7_sharedAt hX bn h) (fun _ => rfl) 0 (zWs_at (by omega) ((zSt_c 0 rfl (show σ 0 = (σ 0) from rfl))).o) rfl ⟨(Nat.le_of_ble_eq_true rfl), (Nat.le_of_ble_eq_true rfl)⟩ ⟨Nat.le_of_eq (Nat.zero_add _), Nat.le_of_eq (Nat.zero_add _)⟩ (Nat.le_of_ble_eq_true rfl) (fun A' hA' => ?_)
    have eq : A' q = A q := hA' q (fun z => absurd z.2 (Nat.not_lt.mpr hq.1))
    refine g_i2l (M := mL_sharedAt) dL_sharedAt_10 rfl ?_
    refine g_last (M := mL_sharedAt) dL_sharedAt_11 q (zo_at hq eq hS) (iI_in (by decide) (by decide) (by decide)) ?_
    refine g_ws (M := mL_sharedAt) (zo_set hq.1 eq) ?_
    refine g_goto (M := mL_sharedAt) (tgt := 19) dL_sharedAt_12 (by decide) ?_
    refine g_lv (M := mL_sharedAt) [] rfl ?_
    refine h_iconst (M := mL_sharedAt) dL_sharedAt_19 ?_
    exact g_iret (M := mL_sharedAt) dL_sharedAt_20 rfl (Nat.le_of_eq (Nat.zero_add _)) (Nat.le_of_eq (Nat.zero_add _)) ⟨A', hA', rfl, rfl⟩
  | inr E =>
    have hE1 : E = "java/lang/IndexOutOfBoundsException" := List.mem_singleton.mp (hE E rfl)
    subst hE1
    refine g_callVAe (M := mL_sharedAt) [.int (iI a1), .int (iI a2), .int (iI a3)] hX dL_sharedAt_7 vX7_sharedAt kM_L_64 (wX7_sharedAt hX bn h) (fun _ => rfl) 0 (zWs_at (by omega) ((zSt_c 0 rfl (show σ 0 = (σ 0) from rfl))).o) rfl ⟨(Nat.le_of_ble_eq_true rfl), (Nat.le_of_ble_eq_true rfl)⟩ ⟨Nat.le_of_eq (Nat.zero_add _), Nat.le_of_eq (Nat.zero_add _)⟩ (Nat.le_of_ble_eq_true rfl) (fun A' hA' => ?_)
    refine gx_catch (M := mL_sharedAt) [] (0, 12, 15, 35) [] rfl (fun z hz => by simp [tableOf] at hz) rfl (by decide) kK_L_35 (fun U hU => zOL_c hL hU (c := 193) (by simp [zExc])) (fun e => ?_)
    refine g_lv (M := mL_sharedAt) [] rfl ?_
    refine g_astore (M := mL_sharedAt) (lv' := [(5, .ref e)]) dL_sharedAt_15 (Nat.le_of_ble_eq_true rfl) rfl ?_
    refine h_iconst (M := mL_sharedAt) dL_sharedAt_17 ?_
    exact g_iret (M := mL_sharedAt) dL_sharedAt_18 rfl (Nat.le_of_eq (Nat.zero_add _)) (Nat.le_of_eq (Nat.zero_add _)) ⟨A', hA', rfl, by rw [zKo_1]⟩
set_option maxHeartbeats 4000000 in
set_option maxRecDepth 100000 in
theorem wL_hits {X : zX} (hX : zOK X) (hL : zOL X) {A : Nat → Nat} {n : Nat} {S : Nat → va_E} {σ : CS} (bn : 91 ≤ n) {q : Nat} (hq : 91 ≤ q ∧ q < n) {f : Nat → Int64} (hS : S q = aL X 1 f) {a1 : Int} {res : (Int ⊕ String)} (h : fX7_hits σ a1 = some res) (hE : ∀ E, res = .inr E → E ∈ ["java/lang/IndexOutOfBoundsException"]) : Con X yL_hits mL_hits 8 1 6 [.ref (A 0), .int (iI a1), .ref (A q)] (zWs A n (zSt X A σ S)) (zRA A (fun k => 1 ≤ k ∧ k < 91) (fun A' => (zWs A' n (zSt X A' σ (zLo X q f S res)))) (fun _ => .inl (some (.int (iI (zKo ["java/lang/IndexOutOfBoundsException"] res)))))) := by
  refine con_ofH (lv := [(0, .ref (A 0)), (1, .int (iI a1)), (2, .ref (A q))]) (by decide) rfl (Nat.le_of_ble_eq_true rfl) rfl ?_
  change G X mL_hits _ _ _ _ _ _ _
  refine g_aload_n (M := mL_hits) dL_hits_0 2 rfl rfl ?_
  refine h_iconst (M := mL_hits) dL_hits_1 ?_
  refine g_aload_n (M := mL_hits) dL_hits_2 0 rfl rfl ?_
  refine g_iload_n (M := mL_hits) dL_hits_3 1 rfl rfl ?_
  cases res with
  | inl v =>
    refine g_callVx (M := mL_hits) [.int (iI a1)] hX dL_hits_4 vX7_hits kM_L_68 (wX7_hits hX bn h) rfl 0 (zWs_at (by omega) ((zSt_c 0 rfl (show σ 0 = (σ 0) from rfl))).o) rfl ⟨(Nat.le_of_ble_eq_true rfl), (Nat.le_of_ble_eq_true rfl)⟩ ⟨Nat.le_of_eq (Nat.zero_add _), Nat.le_of_eq (Nat.zero_add _)⟩ (Nat.le_of_ble_eq_true rfl) ?_
    have eq : A q = A q := rfl
    refine g_i2l (M := mL_hits) dL_hits_7 rfl ?_
    refine g_last (M := mL_hits) dL_hits_8 q (zo_at hq eq hS) (iI_in (by decide) (by decide) (by decide)) ?_
    refine g_ws (M := mL_hits) (zo_set hq.1 eq) ?_
    refine g_goto (M := mL_hits) (tgt := 15) dL_hits_9 (by decide) ?_
    refine g_lv (M := mL_hits) [] rfl ?_
    refine h_iconst (M := mL_hits) dL_hits_15 ?_
    exact g_iret (M := mL_hits) dL_hits_16 rfl (Nat.le_of_eq (Nat.zero_add _)) (Nat.le_of_eq (Nat.zero_add _)) ⟨A, (fun _ _ => rfl), rfl, rfl⟩
  | inr E =>
    have hE1 : E = "java/lang/IndexOutOfBoundsException" := List.mem_singleton.mp (hE E rfl)
    subst hE1
    refine g_callVe (M := mL_hits) [.int (iI a1)] hX dL_hits_4 vX7_hits kM_L_68 (wX7_hits hX bn h) rfl 0 (zWs_at (by omega) ((zSt_c 0 rfl (show σ 0 = (σ 0) from rfl))).o) rfl ⟨(Nat.le_of_ble_eq_true rfl), (Nat.le_of_ble_eq_true rfl)⟩ ⟨Nat.le_of_eq (Nat.zero_add _), Nat.le_of_eq (Nat.zero_add _)⟩ (Nat.le_of_ble_eq_true rfl) ?_
    refine gx_catch (M := mL_hits) [] (0, 9, 12, 35) [] rfl (fun z hz => by simp [tableOf] at hz) rfl (by decide) kK_L_35 (fun U hU => zOL_c hL hU (c := 193) (by simp [zExc])) (fun e => ?_)
    refine g_lv (M := mL_hits) [] rfl ?_
    refine g_astore_n (M := mL_hits) (i := 3) (lv' := [(3, .ref e)]) dL_hits_12 rfl (Nat.le_of_ble_eq_true rfl) rfl ?_
    refine h_iconst (M := mL_hits) dL_hits_13 ?_
    exact g_iret (M := mL_hits) dL_hits_14 rfl (Nat.le_of_eq (Nat.zero_add _)) (Nat.le_of_eq (Nat.zero_add _)) ⟨A, (fun _ _ => rfl), rfl, by rw [zKo_1]⟩
set_option maxHeartbeats 4000000 in
set_option maxRecDepth 100000 in
theorem wL_hit {X : zX} (hX : zOK X) (hL : zOL X) {A : Nat → Nat} {n : Nat} {S : Nat → va_E} {σ : CS} (bn : 91 ≤ n) {q : Nat} (hq : 91 ≤ q ∧ q < n) {f : Nat → Int64} (hS : S q = aL X 1 f) {a1 : Int} {a2 : Int} {a3 : Int} {res : (Int ⊕ String)} (h : fX7_hit σ a1 a2 a3 = some res) (hE : ∀ E, res = .inr E → E ∈ ["java/lang/IndexOutOfBoundsException", "java/lang/IllegalArgumentException"]) : Con X yL_hit mL_hit 8 2 12 [.ref (A 0), .int (iI a1), .int (iI a2), .int (iI a3), .ref (A q)] (zWs A n (zSt X A σ S)) (zRA A (fun k => 1 ≤ k ∧ k < 91) (fun A' => (zWs A' n (zSt X A' σ (zLo X q f S res)))) (fun _ => .inl (some (.int (iI (zKo ["java/lang/IndexOutOfBoundsException", "java/lang/IllegalArgumentException"] res)))))) := by
  refine con_ofH (lv := [(0, .ref (A 0)), (1, .int (iI a1)), (2, .int (iI a2)), (3, .int (iI a3)), (4, .ref (A q))]) (by decide) rfl (Nat.le_of_ble_eq_true rfl) rfl ?_
  change G X mL_hit _ _ _ _ _ _ _
  refine g_aload (M := mL_hit) dL_hit_0 4 rfl ?_
  refine h_iconst (M := mL_hit) dL_hit_2 ?_
  refine g_aload_n (M := mL_hit) dL_hit_3 0 rfl rfl ?_
  refine g_iload_n (M := mL_hit) dL_hit_4 1 rfl rfl ?_
  refine g_iload_n (M := mL_hit) dL_hit_5 2 rfl rfl ?_
  refine g_iload_n (M := mL_hit) dL_hit_6 3 rfl rfl ?_
  cases res with
  | inl v =>
    refine g_callVx (M := mL_hit) [.int (iI a1), .int (iI a2), .int (iI a3)] hX dL_hit_7 vX7_hit kM_L_71 (wX7_hit hX bn h) rfl 0 (zWs_at (by omega) ((zSt_c 0 rfl (show σ 0 = (σ 0) from rfl))).o) rfl ⟨(Nat.le_of_ble_eq_true rfl), (Nat.le_of_ble_eq_true rfl)⟩ ⟨Nat.le_of_eq (Nat.zero_add _), Nat.le_of_eq (Nat.zero_add _)⟩ (Nat.le_of_ble_eq_true rfl) ?_
    have eq : A q = A q := rfl
    refine g_i2l (M := mL_hit) dL_hit_10 rfl ?_
    refine g_last (M := mL_hit) dL_hit_11 q (zo_at hq eq hS) (iI_in (by decide) (by decide) (by decide)) ?_
    refine g_ws (M := mL_hit) (zo_set hq.1 eq) ?_
    refine g_goto (M := mL_hit) (tgt := 23) dL_hit_12 (by decide) ?_
    refine g_lv (M := mL_hit) [] rfl ?_
    refine h_iconst (M := mL_hit) dL_hit_23 ?_
    exact g_iret (M := mL_hit) dL_hit_24 rfl (Nat.le_of_eq (Nat.zero_add _)) (Nat.le_of_eq (Nat.zero_add _)) ⟨A, (fun _ _ => rfl), rfl, rfl⟩
  | inr E =>
    have hE1 : E = "java/lang/IndexOutOfBoundsException" ∨ E = "java/lang/IllegalArgumentException" := by have := hE E rfl; simpa using this
    rcases hE1 with hE1 | hE1
    · subst hE1
      refine g_callVe (M := mL_hit) [.int (iI a1), .int (iI a2), .int (iI a3)] hX dL_hit_7 vX7_hit kM_L_71 (wX7_hit hX bn h) rfl 0 (zWs_at (by omega) ((zSt_c 0 rfl (show σ 0 = (σ 0) from rfl))).o) rfl ⟨(Nat.le_of_ble_eq_true rfl), (Nat.le_of_ble_eq_true rfl)⟩ ⟨Nat.le_of_eq (Nat.zero_add _), Nat.le_of_eq (Nat.zero_add _)⟩ (Nat.le_of_ble_eq_true rfl) ?_
      refine gx_catch (M := mL_hit) [] (0, 12, 15, 35) [(0, 12, 19, 19)] rfl (fun z hz => by simp [tableOf] at hz) rfl (by decide) kK_L_35 (fun U hU => zOL_c hL hU (c := 193) (by simp [zExc])) (fun e => ?_)
      refine g_lv (M := mL_hit) [] rfl ?_
      refine g_astore (M := mL_hit) (lv' := [(5, .ref e)]) dL_hit_15 (Nat.le_of_ble_eq_true rfl) rfl ?_
      refine h_iconst (M := mL_hit) dL_hit_17 ?_
      exact g_iret (M := mL_hit) dL_hit_18 rfl (Nat.le_of_eq (Nat.zero_add _)) (Nat.le_of_eq (Nat.zero_add _)) ⟨A, (fun _ _ => rfl), rfl, by rw [zKo_1]⟩
    · subst hE1
      refine g_callVe (M := mL_hit) [.int (iI a1), .int (iI a2), .int (iI a3)] hX dL_hit_7 vX7_hit kM_L_71 (wX7_hit hX bn h) rfl 0 (zWs_at (by omega) ((zSt_c 0 rfl (show σ 0 = (σ 0) from rfl))).o) rfl ⟨(Nat.le_of_ble_eq_true rfl), (Nat.le_of_ble_eq_true rfl)⟩ ⟨Nat.le_of_eq (Nat.zero_add _), Nat.le_of_eq (Nat.zero_add _)⟩ (Nat.le_of_ble_eq_true rfl) ?_
      refine gx_catch (M := mL_hit) [(0, 12, 15, 35)] (0, 12, 19, 19) [] rfl (fun z hz => Or.inr (by simp only [tableOf, List.map_cons, List.map_nil, List.mem_singleton] at hz; rw [hz]; exact ⟨by decide, "java/lang/IndexOutOfBoundsException", kK_L_35, hL.2 _ (by simp)⟩)) rfl (by decide) kK_L_19 (fun U hU => zOL_c hL hU (c := 94) (by simp [zExc])) (fun e => ?_)
      refine g_lv (M := mL_hit) [] rfl ?_
      refine g_astore (M := mL_hit) (lv' := [(5, .ref e)]) dL_hit_19 (Nat.le_of_ble_eq_true rfl) rfl ?_
      refine h_iconst (M := mL_hit) dL_hit_21 ?_
      exact g_iret (M := mL_hit) dL_hit_22 rfl (Nat.le_of_eq (Nat.zero_add _)) (Nat.le_of_eq (Nat.zero_add _)) ⟨A, (fun _ _ => rfl), rfl, by rw [zKo_2 (by decide)]⟩
set_option maxHeartbeats 4000000 in
set_option maxRecDepth 100000 in
theorem wL_timesOf {X : zX} (hX : zOK X) (hL : zOL X) {A : Nat → Nat} {n : Nat} {S : Nat → va_E} {σ : CS} (bn : 91 ≤ n) {q : Nat} (hq : 91 ≤ q ∧ q < n) {f : Nat → Int64} (hS : S q = aL X 1 f) {a1 : Int} {res : CS × (Int ⊕ String)} (h : fX7_timesOf σ a1 = some res) (hE : ∀ E, res.2 = .inr E → E ∈ ["java/lang/IndexOutOfBoundsException"]) : Con X yL_timesOf mL_timesOf 8 (3 + zNt (σ 10) (σ 4)) (18 + 4096 * zNt (σ 10) (σ 4)) [.ref (A 0), .int (iI a1), .ref (A q)] (zWs A n (zSt X A σ S)) (zRA A (fun k => 1 ≤ k ∧ k < 91) (fun A' => (zWs A' n (zSt X A' res.1 (zLo X q f S res.2)))) (fun _ => .inl (some (.int (iI (zKo ["java/lang/IndexOutOfBoundsException"] res.2)))))) := by
  refine con_ofH (lv := [(0, .ref (A 0)), (1, .int (iI a1)), (2, .ref (A q))]) (by decide) rfl (Nat.le_of_ble_eq_true rfl) rfl ?_
  change G X mL_timesOf _ _ _ _ _ _ _
  refine g_aload_n (M := mL_timesOf) dL_timesOf_0 2 rfl rfl ?_
  refine h_iconst (M := mL_timesOf) dL_timesOf_1 ?_
  refine g_aload_n (M := mL_timesOf) dL_timesOf_2 0 rfl rfl ?_
  refine g_iload_n (M := mL_timesOf) dL_timesOf_3 1 rfl rfl ?_
  obtain ⟨τ, r⟩ := res
  cases r with
  | inl v =>
    refine g_callVA (M := mL_timesOf) [.int (iI a1)] hX dL_timesOf_4 vX7_timesOf kM_L_74 (wX7_timesOf hX bn h) (fun _ => rfl) 0 (zWs_at (by omega) ((zSt_c 0 rfl (show σ 0 = (σ 0) from rfl))).o) rfl ⟨(Nat.le_of_ble_eq_true rfl), (Nat.le_of_ble_eq_true rfl)⟩ ⟨Nat.le_of_eq (Nat.zero_add _), Nat.le_of_eq (Nat.zero_add _)⟩ (Nat.le_of_ble_eq_true rfl) (fun A' hA' => ?_)
    have eq : A' q = A q := hA' q (fun z => absurd z.2 (Nat.not_lt.mpr hq.1))
    refine g_i2l (M := mL_timesOf) dL_timesOf_7 rfl ?_
    refine g_last (M := mL_timesOf) dL_timesOf_8 q (zo_at hq eq hS) (iI_in (by decide) (by decide) (by decide)) ?_
    refine g_ws (M := mL_timesOf) (zo_set hq.1 eq) ?_
    refine g_goto (M := mL_timesOf) (tgt := 15) dL_timesOf_9 (by decide) ?_
    refine g_lv (M := mL_timesOf) [] rfl ?_
    refine h_iconst (M := mL_timesOf) dL_timesOf_15 ?_
    exact g_iret (M := mL_timesOf) dL_timesOf_16 rfl (Nat.le_of_eq (Nat.zero_add _)) (Nat.le_of_eq (Nat.zero_add _)) ⟨A', hA', rfl, rfl⟩
  | inr E =>
    have hE1 : E = "java/lang/IndexOutOfBoundsException" := List.mem_singleton.mp (hE E rfl)
    subst hE1
    refine g_callVAe (M := mL_timesOf) [.int (iI a1)] hX dL_timesOf_4 vX7_timesOf kM_L_74 (wX7_timesOf hX bn h) (fun _ => rfl) 0 (zWs_at (by omega) ((zSt_c 0 rfl (show σ 0 = (σ 0) from rfl))).o) rfl ⟨(Nat.le_of_ble_eq_true rfl), (Nat.le_of_ble_eq_true rfl)⟩ ⟨Nat.le_of_eq (Nat.zero_add _), Nat.le_of_eq (Nat.zero_add _)⟩ (Nat.le_of_ble_eq_true rfl) (fun A' hA' => ?_)
    refine gx_catch (M := mL_timesOf) [] (0, 9, 12, 35) [] rfl (fun z hz => by simp [tableOf] at hz) rfl (by decide) kK_L_35 (fun U hU => zOL_c hL hU (c := 193) (by simp [zExc])) (fun e => ?_)
    refine g_lv (M := mL_timesOf) [] rfl ?_
    refine g_astore_n (M := mL_timesOf) (i := 3) (lv' := [(3, .ref e)]) dL_timesOf_12 rfl (Nat.le_of_ble_eq_true rfl) rfl ?_
    refine h_iconst (M := mL_timesOf) dL_timesOf_13 ?_
    exact g_iret (M := mL_timesOf) dL_timesOf_14 rfl (Nat.le_of_eq (Nat.zero_add _)) (Nat.le_of_eq (Nat.zero_add _)) ⟨A', hA', rfl, by rw [zKo_1]⟩
set_option maxHeartbeats 4000000 in
set_option maxRecDepth 100000 in
theorem wL_best {X : zX} (hX : zOK X) (hL : zOL X) {A : Nat → Nat} {n : Nat} {S : Nat → va_E} {σ : CS} (bn : 91 ≤ n) {q : Nat} (hq : 91 ≤ q ∧ q < n) {f : Nat → Int64} (hS : S q = aL X 1 f) {a1 : Int} {res : CS × (Int ⊕ String)} (h : fX7_best σ a1 = some res) (hE : ∀ E, res.2 = .inr E → E ∈ ["java/lang/IllegalArgumentException"]) : Con X yL_best mL_best 10 (2 + 3 * zNd (σ 7) (σ 4)) (12 + 13652 * zNd (σ 7) (σ 4)) [.ref (A 0), .int (iI a1), .ref (A q)] (zWs A n (zSt X A σ S)) (zRA A (fun k => 1 ≤ k ∧ k < 91) (fun A' => (zWs A' n (zSt X A' res.1 (zLo X q f S res.2)))) (fun _ => .inl (some (.int (iI (zKo ["java/lang/IllegalArgumentException"] res.2)))))) := by
  refine con_ofH (lv := [(0, .ref (A 0)), (1, .int (iI a1)), (2, .ref (A q))]) (by decide) rfl (Nat.le_of_ble_eq_true rfl) rfl ?_
  change G X mL_best _ _ _ _ _ _ _
  refine g_aload_n (M := mL_best) dL_best_0 2 rfl rfl ?_
  refine h_iconst (M := mL_best) dL_best_1 ?_
  refine g_aload_n (M := mL_best) dL_best_2 0 rfl rfl ?_
  refine g_iload_n (M := mL_best) dL_best_3 1 rfl rfl ?_
  obtain ⟨τ, r⟩ := res
  cases r with
  | inl v =>
    refine g_callVA (M := mL_best) [.int (iI a1)] hX dL_best_4 vX7_best kM_L_77 (wX7_best hX bn h) (fun _ => rfl) 0 (zWs_at (by omega) ((zSt_c 0 rfl (show σ 0 = (σ 0) from rfl))).o) rfl ⟨(Nat.le_of_ble_eq_true rfl), (Nat.le_of_ble_eq_true rfl)⟩ ⟨Nat.le_of_eq (Nat.zero_add _), Nat.le_of_eq (Nat.zero_add _)⟩ (Nat.le_of_ble_eq_true rfl) (fun A' hA' => ?_)
    have eq : A' q = A q := hA' q (fun z => absurd z.2 (Nat.not_lt.mpr hq.1))
    refine g_i2l (M := mL_best) dL_best_7 rfl ?_
    refine g_last (M := mL_best) dL_best_8 q (zo_at hq eq hS) (iI_in (by decide) (by decide) (by decide)) ?_
    refine g_ws (M := mL_best) (zo_set hq.1 eq) ?_
    refine g_goto (M := mL_best) (tgt := 15) dL_best_9 (by decide) ?_
    refine g_lv (M := mL_best) [] rfl ?_
    refine h_iconst (M := mL_best) dL_best_15 ?_
    exact g_iret (M := mL_best) dL_best_16 rfl (Nat.le_of_eq (Nat.zero_add _)) (Nat.le_of_eq (Nat.zero_add _)) ⟨A', hA', rfl, rfl⟩
  | inr E =>
    have hE1 : E = "java/lang/IllegalArgumentException" := List.mem_singleton.mp (hE E rfl)
    subst hE1
    refine g_callVAe (M := mL_best) [.int (iI a1)] hX dL_best_4 vX7_best kM_L_77 (wX7_best hX bn h) (fun _ => rfl) 0 (zWs_at (by omega) ((zSt_c 0 rfl (show σ 0 = (σ 0) from rfl))).o) rfl ⟨(Nat.le_of_ble_eq_true rfl), (Nat.le_of_ble_eq_true rfl)⟩ ⟨Nat.le_of_eq (Nat.zero_add _), Nat.le_of_eq (Nat.zero_add _)⟩ (Nat.le_of_ble_eq_true rfl) (fun A' hA' => ?_)
    refine gx_catch (M := mL_best) [] (0, 9, 12, 19) [] rfl (fun z hz => by simp [tableOf] at hz) rfl (by decide) kK_L_19 (fun U hU => zOL_c hL hU (c := 94) (by simp [zExc])) (fun e => ?_)
    refine g_lv (M := mL_best) [] rfl ?_
    refine g_astore_n (M := mL_best) (i := 3) (lv' := [(3, .ref e)]) dL_best_12 rfl (Nat.le_of_ble_eq_true rfl) rfl ?_
    refine h_iconst (M := mL_best) dL_best_13 ?_
    exact g_iret (M := mL_best) dL_best_14 rfl (Nat.le_of_eq (Nat.zero_add _)) (Nat.le_of_eq (Nat.zero_add _)) ⟨A', hA', rfl, by rw [zKo_1]⟩
set_option maxHeartbeats 4000000 in
set_option maxRecDepth 100000 in
theorem wL_bound {X : zX} (hX : zOK X) (hL : zOL X) {A : Nat → Nat} {n : Nat} {S : Nat → va_E} {σ : CS} (bn : 91 ≤ n) {q : Nat} (hq : 91 ≤ q ∧ q < n) {f : Nat → Int64} (hS : S q = aL X 1 f) {a1 : Int} {a2 : Int} {res : (Int ⊕ String)} (h : fX7_bound σ a1 a2 = some res) (hE : ∀ E, res = .inr E → E ∈ ["java/lang/IndexOutOfBoundsException", "java/lang/IllegalArgumentException"]) : Con X yL_bound mL_bound 8 2 12 [.ref (A 0), .int (iI a1), .int (iI a2), .ref (A q)] (zWs A n (zSt X A σ S)) (zRA A (fun k => 1 ≤ k ∧ k < 91) (fun A' => (zWs A' n (zSt X A' σ (zLo X q f S res)))) (fun _ => .inl (some (.int (iI (zKo ["java/lang/IndexOutOfBoundsException", "java/lang/IllegalArgumentException"] res)))))) := by
  refine con_ofH (lv := [(0, .ref (A 0)), (1, .int (iI a1)), (2, .int (iI a2)), (3, .ref (A q))]) (by decide) rfl (Nat.le_of_ble_eq_true rfl) rfl ?_
  change G X mL_bound _ _ _ _ _ _ _
  refine g_aload_n (M := mL_bound) dL_bound_0 3 rfl rfl ?_
  refine h_iconst (M := mL_bound) dL_bound_1 ?_
  refine g_aload_n (M := mL_bound) dL_bound_2 0 rfl rfl ?_
  refine g_iload_n (M := mL_bound) dL_bound_3 1 rfl rfl ?_
  refine g_iload_n (M := mL_bound) dL_bound_4 2 rfl rfl ?_
  cases res with
  | inl v =>
    refine g_callVx (M := mL_bound) [.int (iI a1), .int (iI a2)] hX dL_bound_5 vX7_bound kM_L_80 (wX7_bound hX bn h) rfl 0 (zWs_at (by omega) ((zSt_c 0 rfl (show σ 0 = (σ 0) from rfl))).o) rfl ⟨(Nat.le_of_ble_eq_true rfl), (Nat.le_of_ble_eq_true rfl)⟩ ⟨Nat.le_of_eq (Nat.zero_add _), Nat.le_of_eq (Nat.zero_add _)⟩ (Nat.le_of_ble_eq_true rfl) ?_
    have eq : A q = A q := rfl
    refine g_i2l (M := mL_bound) dL_bound_8 rfl ?_
    refine g_last (M := mL_bound) dL_bound_9 q (zo_at hq eq hS) (iI_in (by decide) (by decide) (by decide)) ?_
    refine g_ws (M := mL_bound) (zo_set hq.1 eq) ?_
    refine g_goto (M := mL_bound) (tgt := 21) dL_bound_10 (by decide) ?_
    refine g_lv (M := mL_bound) [] rfl ?_
    refine h_iconst (M := mL_bound) dL_bound_21 ?_
    exact g_iret (M := mL_bound) dL_bound_22 rfl (Nat.le_of_eq (Nat.zero_add _)) (Nat.le_of_eq (Nat.zero_add _)) ⟨A, (fun _ _ => rfl), rfl, rfl⟩
  | inr E =>
    have hE1 : E = "java/lang/IndexOutOfBoundsException" ∨ E = "java/lang/IllegalArgumentException" := by have := hE E rfl; simpa using this
    rcases hE1 with hE1 | hE1
    · subst hE1
      refine g_callVe (M := mL_bound) [.int (iI a1), .int (iI a2)] hX dL_bound_5 vX7_bound kM_L_80 (wX7_bound hX bn h) rfl 0 (zWs_at (by omega) ((zSt_c 0 rfl (show σ 0 = (σ 0) from rfl))).o) rfl ⟨(Nat.le_of_ble_eq_true rfl), (Nat.le_of_ble_eq_true rfl)⟩ ⟨Nat.le_of_eq (Nat.zero_add _), Nat.le_of_eq (Nat.zero_add _)⟩ (Nat.le_of_ble_eq_true rfl) ?_
      refine gx_catch (M := mL_bound) [] (0, 10, 13, 35) [(0, 10, 17, 19)] rfl (fun z hz => by simp [tableOf] at hz) rfl (by decide) kK_L_35 (fun U hU => zOL_c hL hU (c := 193) (by simp [zExc])) (fun e => ?_)
      refine g_lv (M := mL_bound) [] rfl ?_
      refine g_astore (M := mL_bound) (lv' := [(4, .ref e)]) dL_bound_13 (Nat.le_of_ble_eq_true rfl) rfl ?_
      refine h_iconst (M := mL_bound) dL_bound_15 ?_
      exact g_iret (M := mL_bound) dL_bound_16 rfl (Nat.le_of_eq (Nat.zero_add _)) (Nat.le_of_eq (Nat.zero_add _)) ⟨A, (fun _ _ => rfl), rfl, by rw [zKo_1]⟩
    · subst hE1
      refine g_callVe (M := mL_bound) [.int (iI a1), .int (iI a2)] hX dL_bound_5 vX7_bound kM_L_80 (wX7_bound hX bn h) rfl 0 (zWs_at (by omega) ((zSt_c 0 rfl (show σ 0 = (σ 0) from rfl))).o) rfl ⟨(Nat.le_of_ble_eq_true rfl), (Nat.le_of_ble_eq_true rfl)⟩ ⟨Nat.le_of_eq (Nat.zero_add _), Nat.le_of_eq (Nat.zero_add _)⟩ (Nat.le_of_ble_eq_true rfl) ?_
      refine gx_catch (M := mL_bound) [(0, 10, 13, 35)] (0, 10, 17, 19) [] rfl (fun z hz => Or.inr (by simp only [tableOf, List.map_cons, List.map_nil, List.mem_singleton] at hz; rw [hz]; exact ⟨by decide, "java/lang/IndexOutOfBoundsException", kK_L_35, hL.2 _ (by simp)⟩)) rfl (by decide) kK_L_19 (fun U hU => zOL_c hL hU (c := 94) (by simp [zExc])) (fun e => ?_)
      refine g_lv (M := mL_bound) [] rfl ?_
      refine g_astore (M := mL_bound) (lv' := [(4, .ref e)]) dL_bound_17 (Nat.le_of_ble_eq_true rfl) rfl ?_
      refine h_iconst (M := mL_bound) dL_bound_19 ?_
      exact g_iret (M := mL_bound) dL_bound_20 rfl (Nat.le_of_eq (Nat.zero_add _)) (Nat.le_of_eq (Nat.zero_add _)) ⟨A, (fun _ _ => rfl), rfl, by rw [zKo_2 (by decide)]⟩
set_option maxHeartbeats 4000000 in
set_option maxRecDepth 100000 in
theorem wL_mostHad {X : zX} (hX : zOK X) (hL : zOL X) {A : Nat → Nat} {n : Nat} {S : Nat → va_E} {σ : CS} (bn : 91 ≤ n) {q : Nat} (hq : 91 ≤ q ∧ q < n) {f : Nat → Int64} (hS : S q = aL X 1 f) {a1 : Int} {res : CS × (Int ⊕ String)} (h : fX7_mostHad σ a1 = some res) (hE : ∀ E, res.2 = .inr E → E ∈ ["java/lang/IllegalArgumentException"]) : Con X yL_mostHad mL_mostHad 10 (2 + 3 * zNd (σ 7) (σ 4)) (12 + 13652 * zNd (σ 7) (σ 4)) [.ref (A 0), .int (iI a1), .ref (A q)] (zWs A n (zSt X A σ S)) (zRA A (fun k => 1 ≤ k ∧ k < 91) (fun A' => (zWs A' n (zSt X A' res.1 (zLo X q f S res.2)))) (fun _ => .inl (some (.int (iI (zKo ["java/lang/IllegalArgumentException"] res.2)))))) := by
  refine con_ofH (lv := [(0, .ref (A 0)), (1, .int (iI a1)), (2, .ref (A q))]) (by decide) rfl (Nat.le_of_ble_eq_true rfl) rfl ?_
  change G X mL_mostHad _ _ _ _ _ _ _
  refine g_aload_n (M := mL_mostHad) dL_mostHad_0 2 rfl rfl ?_
  refine h_iconst (M := mL_mostHad) dL_mostHad_1 ?_
  refine g_aload_n (M := mL_mostHad) dL_mostHad_2 0 rfl rfl ?_
  refine g_iload_n (M := mL_mostHad) dL_mostHad_3 1 rfl rfl ?_
  obtain ⟨τ, r⟩ := res
  cases r with
  | inl v =>
    refine g_callVA (M := mL_mostHad) [.int (iI a1)] hX dL_mostHad_4 vX7_mostHad kM_L_83 (wX7_mostHad hX bn h) (fun _ => rfl) 0 (zWs_at (by omega) ((zSt_c 0 rfl (show σ 0 = (σ 0) from rfl))).o) rfl ⟨(Nat.le_of_ble_eq_true rfl), (Nat.le_of_ble_eq_true rfl)⟩ ⟨Nat.le_of_eq (Nat.zero_add _), Nat.le_of_eq (Nat.zero_add _)⟩ (Nat.le_of_ble_eq_true rfl) (fun A' hA' => ?_)
    have eq : A' q = A q := hA' q (fun z => absurd z.2 (Nat.not_lt.mpr hq.1))
    refine g_i2l (M := mL_mostHad) dL_mostHad_7 rfl ?_
    refine g_last (M := mL_mostHad) dL_mostHad_8 q (zo_at hq eq hS) (iI_in (by decide) (by decide) (by decide)) ?_
    refine g_ws (M := mL_mostHad) (zo_set hq.1 eq) ?_
    refine g_goto (M := mL_mostHad) (tgt := 15) dL_mostHad_9 (by decide) ?_
    refine g_lv (M := mL_mostHad) [] rfl ?_
    refine h_iconst (M := mL_mostHad) dL_mostHad_15 ?_
    exact g_iret (M := mL_mostHad) dL_mostHad_16 rfl (Nat.le_of_eq (Nat.zero_add _)) (Nat.le_of_eq (Nat.zero_add _)) ⟨A', hA', rfl, rfl⟩
  | inr E =>
    have hE1 : E = "java/lang/IllegalArgumentException" := List.mem_singleton.mp (hE E rfl)
    subst hE1
    refine g_callVAe (M := mL_mostHad) [.int (iI a1)] hX dL_mostHad_4 vX7_mostHad kM_L_83 (wX7_mostHad hX bn h) (fun _ => rfl) 0 (zWs_at (by omega) ((zSt_c 0 rfl (show σ 0 = (σ 0) from rfl))).o) rfl ⟨(Nat.le_of_ble_eq_true rfl), (Nat.le_of_ble_eq_true rfl)⟩ ⟨Nat.le_of_eq (Nat.zero_add _), Nat.le_of_eq (Nat.zero_add _)⟩ (Nat.le_of_ble_eq_true rfl) (fun A' hA' => ?_)
    refine gx_catch (M := mL_mostHad) [] (0, 9, 12, 19) [] rfl (fun z hz => by simp [tableOf] at hz) rfl (by decide) kK_L_19 (fun U hU => zOL_c hL hU (c := 94) (by simp [zExc])) (fun e => ?_)
    refine g_lv (M := mL_mostHad) [] rfl ?_
    refine g_astore_n (M := mL_mostHad) (i := 3) (lv' := [(3, .ref e)]) dL_mostHad_12 rfl (Nat.le_of_ble_eq_true rfl) rfl ?_
    refine h_iconst (M := mL_mostHad) dL_mostHad_13 ?_
    exact g_iret (M := mL_mostHad) dL_mostHad_14 rfl (Nat.le_of_eq (Nat.zero_add _)) (Nat.le_of_eq (Nat.zero_add _)) ⟨A', hA', rfl, by rw [zKo_1]⟩
set_option maxHeartbeats 4000000 in
set_option maxRecDepth 100000 in
theorem wL_scoreWithout {X : zX} (hX : zOK X) (hL : zOL X) {A : Nat → Nat} {n : Nat} {S : Nat → va_E} {σ : CS} (bn : 91 ≤ n) {q : Nat} (hq : 91 ≤ q ∧ q < n) {f : Nat → Int64} (hS : S q = aL X 1 f) {a1 : Int} {res : CS × (Int ⊕ String)} (h : fX7_scoreWithout σ a1 = some res) (hE : ∀ E, res.2 = .inr E → E ∈ ["java/lang/IndexOutOfBoundsException"]) : Con X yL_scoreWithout mL_scoreWithout 10 (2 + 3 * zNd (σ 7) (σ 4)) (12 + 13652 * zNd (σ 7) (σ 4)) [.ref (A 0), .int (iI a1), .ref (A q)] (zWs A n (zSt X A σ S)) (zRA A (fun k => 1 ≤ k ∧ k < 91) (fun A' => (zWs A' n (zSt X A' res.1 (zLo X q f S res.2)))) (fun _ => .inl (some (.int (iI (zKo ["java/lang/IndexOutOfBoundsException"] res.2)))))) := by
  refine con_ofH (lv := [(0, .ref (A 0)), (1, .int (iI a1)), (2, .ref (A q))]) (by decide) rfl (Nat.le_of_ble_eq_true rfl) rfl ?_
  change G X mL_scoreWithout _ _ _ _ _ _ _
  refine g_aload_n (M := mL_scoreWithout) dL_scoreWithout_0 2 rfl rfl ?_
  refine h_iconst (M := mL_scoreWithout) dL_scoreWithout_1 ?_
  refine g_aload_n (M := mL_scoreWithout) dL_scoreWithout_2 0 rfl rfl ?_
  refine g_iload_n (M := mL_scoreWithout) dL_scoreWithout_3 1 rfl rfl ?_
  obtain ⟨τ, r⟩ := res
  cases r with
  | inl v =>
    refine g_callVA (M := mL_scoreWithout) [.int (iI a1)] hX dL_scoreWithout_4 vX7_scoreWithout kM_L_86 (wX7_scoreWithout hX bn h) (fun _ => rfl) 0 (zWs_at (by omega) ((zSt_c 0 rfl (show σ 0 = (σ 0) from rfl))).o) rfl ⟨(Nat.le_of_ble_eq_true rfl), (Nat.le_of_ble_eq_true rfl)⟩ ⟨Nat.le_of_eq (Nat.zero_add _), Nat.le_of_eq (Nat.zero_add _)⟩ (Nat.le_of_ble_eq_true rfl) (fun A' hA' => ?_)
    have eq : A' q = A q := hA' q (fun z => absurd z.2 (Nat.not_lt.mpr hq.1))
    refine g_i2l (M := mL_scoreWithout) dL_scoreWithout_7 rfl ?_
    refine g_last (M := mL_scoreWithout) dL_scoreWithout_8 q (zo_at hq eq hS) (iI_in (by decide) (by decide) (by decide)) ?_
    refine g_ws (M := mL_scoreWithout) (zo_set hq.1 eq) ?_
    refine g_goto (M := mL_scoreWithout) (tgt := 15) dL_scoreWithout_9 (by decide) ?_
    refine g_lv (M := mL_scoreWithout) [] rfl ?_
    refine h_iconst (M := mL_scoreWithout) dL_scoreWithout_15 ?_
    exact g_iret (M := mL_scoreWithout) dL_scoreWithout_16 rfl (Nat.le_of_eq (Nat.zero_add _)) (Nat.le_of_eq (Nat.zero_add _)) ⟨A', hA', rfl, rfl⟩
  | inr E =>
    have hE1 : E = "java/lang/IndexOutOfBoundsException" := List.mem_singleton.mp (hE E rfl)
    subst hE1
    refine g_callVAe (M := mL_scoreWithout) [.int (iI a1)] hX dL_scoreWithout_4 vX7_scoreWithout kM_L_86 (wX7_scoreWithout hX bn h) (fun _ => rfl) 0 (zWs_at (by omega) ((zSt_c 0 rfl (show σ 0 = (σ 0) from rfl))).o) rfl ⟨(Nat.le_of_ble_eq_true rfl), (Nat.le_of_ble_eq_true rfl)⟩ ⟨Nat.le_of_eq (Nat.zero_add _), Nat.le_of_eq (Nat.zero_add _)⟩ (Nat.le_of_ble_eq_true rfl) (fun A' hA' => ?_)
    refine gx_catch (M := mL_scoreWithout) [] (0, 9, 12, 35) [] rfl (fun z hz => by simp [tableOf] at hz) rfl (by decide) kK_L_35 (fun U hU => zOL_c hL hU (c := 193) (by simp [zExc])) (fun e => ?_)
    refine g_lv (M := mL_scoreWithout) [] rfl ?_
    refine g_astore_n (M := mL_scoreWithout) (i := 3) (lv' := [(3, .ref e)]) dL_scoreWithout_12 rfl (Nat.le_of_ble_eq_true rfl) rfl ?_
    refine h_iconst (M := mL_scoreWithout) dL_scoreWithout_13 ?_
    exact g_iret (M := mL_scoreWithout) dL_scoreWithout_14 rfl (Nat.le_of_eq (Nat.zero_add _)) (Nat.le_of_eq (Nat.zero_add _)) ⟨A', hA', rfl, by rw [zKo_1]⟩
set_option maxHeartbeats 4000000 in
set_option maxRecDepth 100000 in
theorem wL_rankOf {X : zX} (hX : zOK X) (hL : zOL X) {A : Nat → Nat} {n : Nat} {S : Nat → va_E} {σ : CS} (bn : 91 ≤ n) {q : Nat} (hq : 91 ≤ q ∧ q < n) {f : Nat → Int64} (hS : S q = aL X 1 f) {a1 : Int} {res : CS × (Int ⊕ String)} (h : fX7_rankOf σ a1 = some res) (hE : ∀ E, res.2 = .inr E → E ∈ ["java/lang/IndexOutOfBoundsException"]) : Con X yL_rankOf mL_rankOf 10 (2 + 3 * zNd (σ 7) (σ 4)) (12 + 13652 * zNd (σ 7) (σ 4)) [.ref (A 0), .int (iI a1), .ref (A q)] (zWs A n (zSt X A σ S)) (zRA A (fun k => 1 ≤ k ∧ k < 91) (fun A' => (zWs A' n (zSt X A' res.1 (zLo X q f S res.2)))) (fun _ => .inl (some (.int (iI (zKo ["java/lang/IndexOutOfBoundsException"] res.2)))))) := by
  refine con_ofH (lv := [(0, .ref (A 0)), (1, .int (iI a1)), (2, .ref (A q))]) (by decide) rfl (Nat.le_of_ble_eq_true rfl) rfl ?_
  change G X mL_rankOf _ _ _ _ _ _ _
  refine g_aload_n (M := mL_rankOf) dL_rankOf_0 2 rfl rfl ?_
  refine h_iconst (M := mL_rankOf) dL_rankOf_1 ?_
  refine g_aload_n (M := mL_rankOf) dL_rankOf_2 0 rfl rfl ?_
  refine g_iload_n (M := mL_rankOf) dL_rankOf_3 1 rfl rfl ?_
  obtain ⟨τ, r⟩ := res
  cases r with
  | inl v =>
    refine g_callVA (M := mL_rankOf) [.int (iI a1)] hX dL_rankOf_4 vX7_rankOf kM_L_89 (wX7_rankOf hX bn h) (fun _ => rfl) 0 (zWs_at (by omega) ((zSt_c 0 rfl (show σ 0 = (σ 0) from rfl))).o) rfl ⟨(Nat.le_of_ble_eq_true rfl), (Nat.le_of_ble_eq_true rfl)⟩ ⟨Nat.le_of_eq (Nat.zero_add _), Nat.le_of_eq (Nat.zero_add _)⟩ (Nat.le_of_ble_eq_true rfl) (fun A' hA' => ?_)
    have eq : A' q = A q := hA' q (fun z => absurd z.2 (Nat.not_lt.mpr hq.1))
    refine g_i2l (M := mL_rankOf) dL_rankOf_7 rfl ?_
    refine g_last (M := mL_rankOf) dL_rankOf_8 q (zo_at hq eq hS) (iI_in (by decide) (by decide) (by decide)) ?_
    refine g_ws (M := mL_rankOf) (zo_set hq.1 eq) ?_
    refine g_goto (M := mL_rankOf) (tgt := 15) dL_rankOf_9 (by decide) ?_
    refine g_lv (M := mL_rankOf) [] rfl ?_
    refine h_iconst (M := mL_rankOf) dL_rankOf_15 ?_
    exact g_iret (M := mL_rankOf) dL_rankOf_16 rfl (Nat.le_of_eq (Nat.zero_add _)) (Nat.le_of_eq (Nat.zero_add _)) ⟨A', hA', rfl, rfl⟩
  | inr E =>
    have hE1 : E = "java/lang/IndexOutOfBoundsException" := List.mem_singleton.mp (hE E rfl)
    subst hE1
    refine g_callVAe (M := mL_rankOf) [.int (iI a1)] hX dL_rankOf_4 vX7_rankOf kM_L_89 (wX7_rankOf hX bn h) (fun _ => rfl) 0 (zWs_at (by omega) ((zSt_c 0 rfl (show σ 0 = (σ 0) from rfl))).o) rfl ⟨(Nat.le_of_ble_eq_true rfl), (Nat.le_of_ble_eq_true rfl)⟩ ⟨Nat.le_of_eq (Nat.zero_add _), Nat.le_of_eq (Nat.zero_add _)⟩ (Nat.le_of_ble_eq_true rfl) (fun A' hA' => ?_)
    refine gx_catch (M := mL_rankOf) [] (0, 9, 12, 35) [] rfl (fun z hz => by simp [tableOf] at hz) rfl (by decide) kK_L_35 (fun U hU => zOL_c hL hU (c := 193) (by simp [zExc])) (fun e => ?_)
    refine g_lv (M := mL_rankOf) [] rfl ?_
    refine g_astore_n (M := mL_rankOf) (i := 3) (lv' := [(3, .ref e)]) dL_rankOf_12 rfl (Nat.le_of_ble_eq_true rfl) rfl ?_
    refine h_iconst (M := mL_rankOf) dL_rankOf_13 ?_
    exact g_iret (M := mL_rankOf) dL_rankOf_14 rfl (Nat.le_of_eq (Nat.zero_add _)) (Nat.le_of_eq (Nat.zero_add _)) ⟨A', hA', rfl, by rw [zKo_1]⟩
set_option maxHeartbeats 4000000 in
set_option maxRecDepth 100000 in
theorem wL_second {X : zX} (hX : zOK X) (hL : zOL X) {A : Nat → Nat} {n : Nat} {S : Nat → va_E} {σ : CS} (bn : 91 ≤ n) {q : Nat} (hq : 91 ≤ q ∧ q < n) {f : Nat → Int64} (hS : S q = aL X 1 f) {a1 : Int} {res : CS × (Int ⊕ String)} (h : fX7_second σ a1 = some res) (hE : ∀ E, res.2 = .inr E → E ∈ ["java/lang/IllegalArgumentException"]) : Con X yL_second mL_second 10 (2 + 3 * zNd (σ 7) (σ 4) + 3 * zSb σ a1) (12 + 13652 * zNd (σ 7) (σ 4) + 13652 * zSb σ a1) [.ref (A 0), .int (iI a1), .ref (A q)] (zWs A n (zSt X A σ S)) (zRA A (fun k => 1 ≤ k ∧ k < 91) (fun A' => (zWs A' n (zSt X A' res.1 (zLo X q f S res.2)))) (fun _ => .inl (some (.int (iI (zKo ["java/lang/IllegalArgumentException"] res.2)))))) := by
  refine con_ofH (lv := [(0, .ref (A 0)), (1, .int (iI a1)), (2, .ref (A q))]) (by decide) rfl (Nat.le_of_ble_eq_true rfl) rfl ?_
  change G X mL_second _ _ _ _ _ _ _
  refine g_aload_n (M := mL_second) dL_second_0 2 rfl rfl ?_
  refine h_iconst (M := mL_second) dL_second_1 ?_
  refine g_aload_n (M := mL_second) dL_second_2 0 rfl rfl ?_
  refine g_iload_n (M := mL_second) dL_second_3 1 rfl rfl ?_
  obtain ⟨τ, r⟩ := res
  cases r with
  | inl v =>
    refine g_callVA (M := mL_second) [.int (iI a1)] hX dL_second_4 vX7_second kM_L_92 (wX7_second hX bn h) (fun _ => rfl) 0 (zWs_at (by omega) ((zSt_c 0 rfl (show σ 0 = (σ 0) from rfl))).o) rfl ⟨(Nat.le_of_ble_eq_true rfl), (Nat.le_of_ble_eq_true rfl)⟩ ⟨Nat.le_of_eq (Nat.zero_add _), Nat.le_of_eq (Nat.zero_add _)⟩ (Nat.le_of_ble_eq_true rfl) (fun A' hA' => ?_)
    have eq : A' q = A q := hA' q (fun z => absurd z.2 (Nat.not_lt.mpr hq.1))
    refine g_i2l (M := mL_second) dL_second_7 rfl ?_
    refine g_last (M := mL_second) dL_second_8 q (zo_at hq eq hS) (iI_in (by decide) (by decide) (by decide)) ?_
    refine g_ws (M := mL_second) (zo_set hq.1 eq) ?_
    refine g_goto (M := mL_second) (tgt := 15) dL_second_9 (by decide) ?_
    refine g_lv (M := mL_second) [] rfl ?_
    refine h_iconst (M := mL_second) dL_second_15 ?_
    exact g_iret (M := mL_second) dL_second_16 rfl (Nat.le_of_eq (Nat.zero_add _)) (Nat.le_of_eq (Nat.zero_add _)) ⟨A', hA', rfl, rfl⟩
  | inr E =>
    have hE1 : E = "java/lang/IllegalArgumentException" := List.mem_singleton.mp (hE E rfl)
    subst hE1
    refine g_callVAe (M := mL_second) [.int (iI a1)] hX dL_second_4 vX7_second kM_L_92 (wX7_second hX bn h) (fun _ => rfl) 0 (zWs_at (by omega) ((zSt_c 0 rfl (show σ 0 = (σ 0) from rfl))).o) rfl ⟨(Nat.le_of_ble_eq_true rfl), (Nat.le_of_ble_eq_true rfl)⟩ ⟨Nat.le_of_eq (Nat.zero_add _), Nat.le_of_eq (Nat.zero_add _)⟩ (Nat.le_of_ble_eq_true rfl) (fun A' hA' => ?_)
    refine gx_catch (M := mL_second) [] (0, 9, 12, 19) [] rfl (fun z hz => by simp [tableOf] at hz) rfl (by decide) kK_L_19 (fun U hU => zOL_c hL hU (c := 94) (by simp [zExc])) (fun e => ?_)
    refine g_lv (M := mL_second) [] rfl ?_
    refine g_astore_n (M := mL_second) (i := 3) (lv' := [(3, .ref e)]) dL_second_12 rfl (Nat.le_of_ble_eq_true rfl) rfl ?_
    refine h_iconst (M := mL_second) dL_second_13 ?_
    exact g_iret (M := mL_second) dL_second_14 rfl (Nat.le_of_eq (Nat.zero_add _)) (Nat.le_of_eq (Nat.zero_add _)) ⟨A', hA', rfl, by rw [zKo_1]⟩
set_option maxHeartbeats 4000000 in
set_option maxRecDepth 100000 in
theorem wL_count {X : zX} (hX : zOK X) (hL : zOL X) {A : Nat → Nat} {n : Nat} {S : Nat → va_E} {σ : CS} (bn : 91 ≤ n) {q : Nat} (hq : 91 ≤ q ∧ q < n) {f : Nat → Int64} (hS : S q = aL X 1 f) {a1 : Int} {a2 : Int} {res : CS × (Int ⊕ String)} (h : fX7_count σ a1 a2 = some res) (hE : ∀ E, res.2 = .inr E → E ∈ ["java/lang/IndexOutOfBoundsException"]) : Con X yL_count mL_count 7 1 6 [.ref (A 0), .int (iI a1), .int (iI a2), .ref (A q)] (zWs A n (zSt X A σ S)) (zRA A (fun k => 1 ≤ k ∧ k < 91) (fun A' => (zWs A' n (zSt X A' res.1 (zLo X q f S res.2)))) (fun _ => .inl (some (.int (iI (zKo ["java/lang/IndexOutOfBoundsException"] res.2)))))) := by
  refine con_ofH (lv := [(0, .ref (A 0)), (1, .int (iI a1)), (2, .int (iI a2)), (3, .ref (A q))]) (by decide) rfl (Nat.le_of_ble_eq_true rfl) rfl ?_
  change G X mL_count _ _ _ _ _ _ _
  refine g_aload_n (M := mL_count) dL_count_0 3 rfl rfl ?_
  refine h_iconst (M := mL_count) dL_count_1 ?_
  refine g_aload_n (M := mL_count) dL_count_2 0 rfl rfl ?_
  refine g_iload_n (M := mL_count) dL_count_3 1 rfl rfl ?_
  refine g_iload_n (M := mL_count) dL_count_4 2 rfl rfl ?_
  obtain ⟨τ, r⟩ := res
  cases r with
  | inl v =>
    refine g_callVA (M := mL_count) [.int (iI a1), .int (iI a2)] hX dL_count_5 vX7_count kM_L_95 (wX7_count hX bn h) (fun _ => rfl) 0 (zWs_at (by omega) ((zSt_c 0 rfl (show σ 0 = (σ 0) from rfl))).o) rfl ⟨(Nat.le_of_ble_eq_true rfl), (Nat.le_of_ble_eq_true rfl)⟩ ⟨Nat.le_of_eq (Nat.zero_add _), Nat.le_of_eq (Nat.zero_add _)⟩ (Nat.le_of_ble_eq_true rfl) (fun A' hA' => ?_)
    have eq : A' q = A q := hA' q (fun z => absurd z.2 (Nat.not_lt.mpr hq.1))
    refine g_i2l (M := mL_count) dL_count_8 rfl ?_
    refine g_last (M := mL_count) dL_count_9 q (zo_at hq eq hS) (iI_in (by decide) (by decide) (by decide)) ?_
    refine g_ws (M := mL_count) (zo_set hq.1 eq) ?_
    refine g_goto (M := mL_count) (tgt := 17) dL_count_10 (by decide) ?_
    refine g_lv (M := mL_count) [] rfl ?_
    refine h_iconst (M := mL_count) dL_count_17 ?_
    exact g_iret (M := mL_count) dL_count_18 rfl (Nat.le_of_eq (Nat.zero_add _)) (Nat.le_of_eq (Nat.zero_add _)) ⟨A', hA', rfl, rfl⟩
  | inr E =>
    have hE1 : E = "java/lang/IndexOutOfBoundsException" := List.mem_singleton.mp (hE E rfl)
    subst hE1
    refine g_callVAe (M := mL_count) [.int (iI a1), .int (iI a2)] hX dL_count_5 vX7_count kM_L_95 (wX7_count hX bn h) (fun _ => rfl) 0 (zWs_at (by omega) ((zSt_c 0 rfl (show σ 0 = (σ 0) from rfl))).o) rfl ⟨(Nat.le_of_ble_eq_true rfl), (Nat.le_of_ble_eq_true rfl)⟩ ⟨Nat.le_of_eq (Nat.zero_add _), Nat.le_of_eq (Nat.zero_add _)⟩ (Nat.le_of_ble_eq_true rfl) (fun A' hA' => ?_)
    refine gx_catch (M := mL_count) [] (0, 10, 13, 35) [] rfl (fun z hz => by simp [tableOf] at hz) rfl (by decide) kK_L_35 (fun U hU => zOL_c hL hU (c := 193) (by simp [zExc])) (fun e => ?_)
    refine g_lv (M := mL_count) [] rfl ?_
    refine g_astore (M := mL_count) (lv' := [(4, .ref e)]) dL_count_13 (Nat.le_of_ble_eq_true rfl) rfl ?_
    refine h_iconst (M := mL_count) dL_count_15 ?_
    exact g_iret (M := mL_count) dL_count_16 rfl (Nat.le_of_eq (Nat.zero_add _)) (Nat.le_of_eq (Nat.zero_add _)) ⟨A', hA', rfl, by rw [zKo_1]⟩
set_option maxHeartbeats 4000000 in
set_option maxRecDepth 100000 in
theorem wL_weight {X : zX} (hX : zOK X) (hL : zOL X) {A : Nat → Nat} {n : Nat} {S : Nat → va_E} {σ : CS} (bn : 91 ≤ n) {q : Nat} (hq : 91 ≤ q ∧ q < n) {f : Nat → Int64} (hS : S q = aL X 1 f) {a1 : Int} {a2 : Int} {res : CS × (Int ⊕ String)} (h : fX7_weight σ a1 a2 = some res) (hE : ∀ E, res.2 = .inr E → E ∈ ["java/lang/IndexOutOfBoundsException"]) : Con X yL_weight mL_weight 8 1 6 [.ref (A 0), .int (iI a1), .int (iI a2), .ref (A q)] (zWs A n (zSt X A σ S)) (zRA A (fun k => 1 ≤ k ∧ k < 91) (fun A' => (zWs A' n (zSt X A' res.1 (zLo X q f S res.2)))) (fun _ => .inl (some (.int (iI (zKo ["java/lang/IndexOutOfBoundsException"] res.2)))))) := by
  refine con_ofH (lv := [(0, .ref (A 0)), (1, .int (iI a1)), (2, .int (iI a2)), (3, .ref (A q))]) (by decide) rfl (Nat.le_of_ble_eq_true rfl) rfl ?_
  change G X mL_weight _ _ _ _ _ _ _
  refine g_aload_n (M := mL_weight) dL_weight_0 3 rfl rfl ?_
  refine h_iconst (M := mL_weight) dL_weight_1 ?_
  refine g_aload_n (M := mL_weight) dL_weight_2 0 rfl rfl ?_
  refine g_iload_n (M := mL_weight) dL_weight_3 1 rfl rfl ?_
  refine g_iload_n (M := mL_weight) dL_weight_4 2 rfl rfl ?_
  obtain ⟨τ, r⟩ := res
  cases r with
  | inl v =>
    refine g_callVA (M := mL_weight) [.int (iI a1), .int (iI a2)] hX dL_weight_5 vX7_weight kM_L_98 (wX7_weight hX bn h) (fun _ => rfl) 0 (zWs_at (by omega) ((zSt_c 0 rfl (show σ 0 = (σ 0) from rfl))).o) rfl ⟨(Nat.le_of_ble_eq_true rfl), (Nat.le_of_ble_eq_true rfl)⟩ ⟨Nat.le_of_eq (Nat.zero_add _), Nat.le_of_eq (Nat.zero_add _)⟩ (Nat.le_of_ble_eq_true rfl) (fun A' hA' => ?_)
    have eq : A' q = A q := hA' q (fun z => absurd z.2 (Nat.not_lt.mpr hq.1))
    refine g_i2l (M := mL_weight) dL_weight_8 rfl ?_
    refine g_last (M := mL_weight) dL_weight_9 q (zo_at hq eq hS) (iI_in (by decide) (by decide) (by decide)) ?_
    refine g_ws (M := mL_weight) (zo_set hq.1 eq) ?_
    refine g_goto (M := mL_weight) (tgt := 17) dL_weight_10 (by decide) ?_
    refine g_lv (M := mL_weight) [] rfl ?_
    refine h_iconst (M := mL_weight) dL_weight_17 ?_
    exact g_iret (M := mL_weight) dL_weight_18 rfl (Nat.le_of_eq (Nat.zero_add _)) (Nat.le_of_eq (Nat.zero_add _)) ⟨A', hA', rfl, rfl⟩
  | inr E =>
    have hE1 : E = "java/lang/IndexOutOfBoundsException" := List.mem_singleton.mp (hE E rfl)
    subst hE1
    refine g_callVAe (M := mL_weight) [.int (iI a1), .int (iI a2)] hX dL_weight_5 vX7_weight kM_L_98 (wX7_weight hX bn h) (fun _ => rfl) 0 (zWs_at (by omega) ((zSt_c 0 rfl (show σ 0 = (σ 0) from rfl))).o) rfl ⟨(Nat.le_of_ble_eq_true rfl), (Nat.le_of_ble_eq_true rfl)⟩ ⟨Nat.le_of_eq (Nat.zero_add _), Nat.le_of_eq (Nat.zero_add _)⟩ (Nat.le_of_ble_eq_true rfl) (fun A' hA' => ?_)
    refine gx_catch (M := mL_weight) [] (0, 10, 13, 35) [] rfl (fun z hz => by simp [tableOf] at hz) rfl (by decide) kK_L_35 (fun U hU => zOL_c hL hU (c := 193) (by simp [zExc])) (fun e => ?_)
    refine g_lv (M := mL_weight) [] rfl ?_
    refine g_astore (M := mL_weight) (lv' := [(4, .ref e)]) dL_weight_13 (Nat.le_of_ble_eq_true rfl) rfl ?_
    refine h_iconst (M := mL_weight) dL_weight_15 ?_
    exact g_iret (M := mL_weight) dL_weight_16 rfl (Nat.le_of_eq (Nat.zero_add _)) (Nat.le_of_eq (Nat.zero_add _)) ⟨A', hA', rfl, by rw [zKo_1]⟩
set_option maxHeartbeats 4000000 in
set_option maxRecDepth 100000 in
theorem wL_tryFrom {X : zX} (hX : zOK X) (hL : zOL X) {A : Nat → Nat} {n : Nat} {S : Nat → va_E} {σ : CS} (bn : 91 ≤ n) {q : Nat} (hq : 91 ≤ q ∧ q < n) {f : Nat → Int64} (hS : S q = aL X 1 f) {a1 : Int} {a2 : Int} {res : CS × (Int ⊕ String)} (h : fX7_tryFrom σ a1 a2 = some res) (hE : ∀ E, res.2 = .inr E → E ∈ ["java/lang/IndexOutOfBoundsException"]) : Con X yL_tryFrom mL_tryFrom 8 1 6 [.ref (A 0), .int (iI a1), .int (iI a2), .ref (A q)] (zWs A n (zSt X A σ S)) (zRA A (fun k => 1 ≤ k ∧ k < 91) (fun A' => (zWs A' n (zSt X A' res.1 (zLo X q f S res.2)))) (fun _ => .inl (some (.int (iI (zKo ["java/lang/IndexOutOfBoundsException"] res.2)))))) := by
  refine con_ofH (lv := [(0, .ref (A 0)), (1, .int (iI a1)), (2, .int (iI a2)), (3, .ref (A q))]) (by decide) rfl (Nat.le_of_ble_eq_true rfl) rfl ?_
  change G X mL_tryFrom _ _ _ _ _ _ _
  refine g_aload_n (M := mL_tryFrom) dL_tryFrom_0 3 rfl rfl ?_
  refine h_iconst (M := mL_tryFrom) dL_tryFrom_1 ?_
  refine g_aload_n (M := mL_tryFrom) dL_tryFrom_2 0 rfl rfl ?_
  refine g_iload_n (M := mL_tryFrom) dL_tryFrom_3 1 rfl rfl ?_
  refine g_iload_n (M := mL_tryFrom) dL_tryFrom_4 2 rfl rfl ?_
  obtain ⟨τ, r⟩ := res
  cases r with
  | inl v =>
    refine g_callVA (M := mL_tryFrom) [.int (iI a1), .int (iI a2)] hX dL_tryFrom_5 vX7_tryFrom kM_L_101 (wX7_tryFrom hX bn h) (fun _ => rfl) 0 (zWs_at (by omega) ((zSt_c 0 rfl (show σ 0 = (σ 0) from rfl))).o) rfl ⟨(Nat.le_of_ble_eq_true rfl), (Nat.le_of_ble_eq_true rfl)⟩ ⟨Nat.le_of_eq (Nat.zero_add _), Nat.le_of_eq (Nat.zero_add _)⟩ (Nat.le_of_ble_eq_true rfl) (fun A' hA' => ?_)
    have eq : A' q = A q := hA' q (fun z => absurd z.2 (Nat.not_lt.mpr hq.1))
    refine g_i2l (M := mL_tryFrom) dL_tryFrom_8 rfl ?_
    refine g_last (M := mL_tryFrom) dL_tryFrom_9 q (zo_at hq eq hS) (iI_in (by decide) (by decide) (by decide)) ?_
    refine g_ws (M := mL_tryFrom) (zo_set hq.1 eq) ?_
    refine g_goto (M := mL_tryFrom) (tgt := 17) dL_tryFrom_10 (by decide) ?_
    refine g_lv (M := mL_tryFrom) [] rfl ?_
    refine h_iconst (M := mL_tryFrom) dL_tryFrom_17 ?_
    exact g_iret (M := mL_tryFrom) dL_tryFrom_18 rfl (Nat.le_of_eq (Nat.zero_add _)) (Nat.le_of_eq (Nat.zero_add _)) ⟨A', hA', rfl, rfl⟩
  | inr E =>
    have hE1 : E = "java/lang/IndexOutOfBoundsException" := List.mem_singleton.mp (hE E rfl)
    subst hE1
    refine g_callVAe (M := mL_tryFrom) [.int (iI a1), .int (iI a2)] hX dL_tryFrom_5 vX7_tryFrom kM_L_101 (wX7_tryFrom hX bn h) (fun _ => rfl) 0 (zWs_at (by omega) ((zSt_c 0 rfl (show σ 0 = (σ 0) from rfl))).o) rfl ⟨(Nat.le_of_ble_eq_true rfl), (Nat.le_of_ble_eq_true rfl)⟩ ⟨Nat.le_of_eq (Nat.zero_add _), Nat.le_of_eq (Nat.zero_add _)⟩ (Nat.le_of_ble_eq_true rfl) (fun A' hA' => ?_)
    refine gx_catch (M := mL_tryFrom) [] (0, 10, 13, 35) [] rfl (fun z hz => by simp [tableOf] at hz) rfl (by decide) kK_L_35 (fun U hU => zOL_c hL hU (c := 193) (by simp [zExc])) (fun e => ?_)
    refine g_lv (M := mL_tryFrom) [] rfl ?_
    refine g_astore (M := mL_tryFrom) (lv' := [(4, .ref e)]) dL_tryFrom_13 (Nat.le_of_ble_eq_true rfl) rfl ?_
    refine h_iconst (M := mL_tryFrom) dL_tryFrom_15 ?_
    exact g_iret (M := mL_tryFrom) dL_tryFrom_16 rfl (Nat.le_of_eq (Nat.zero_add _)) (Nat.le_of_eq (Nat.zero_add _)) ⟨A', hA', rfl, by rw [zKo_1]⟩
set_option maxHeartbeats 4000000 in
set_option maxRecDepth 100000 in
theorem wL_bestStart {X : zX} (hX : zOK X) (hL : zOL X) {A : Nat → Nat} {n : Nat} {S : Nat → va_E} {σ : CS} (bn : 91 ≤ n) {q : Nat} (hq : 91 ≤ q ∧ q < n) {f : Nat → Int64} (hS : S q = aL X 1 f) {a1 : Int} {res : CS × (Int ⊕ String)} (h : fX7_bestStart σ a1 = some res) (hE : ∀ E, res.2 = .inr E → E ∈ ["java/lang/IndexOutOfBoundsException"]) : Con X yL_bestStart mL_bestStart 8 1 6 [.ref (A 0), .int (iI a1), .ref (A q)] (zWs A n (zSt X A σ S)) (zRA A (fun k => 1 ≤ k ∧ k < 91) (fun A' => (zWs A' n (zSt X A' res.1 (zLo X q f S res.2)))) (fun _ => .inl (some (.int (iI (zKo ["java/lang/IndexOutOfBoundsException"] res.2)))))) := by
  refine con_ofH (lv := [(0, .ref (A 0)), (1, .int (iI a1)), (2, .ref (A q))]) (by decide) rfl (Nat.le_of_ble_eq_true rfl) rfl ?_
  change G X mL_bestStart _ _ _ _ _ _ _
  refine g_aload_n (M := mL_bestStart) dL_bestStart_0 2 rfl rfl ?_
  refine h_iconst (M := mL_bestStart) dL_bestStart_1 ?_
  refine g_aload_n (M := mL_bestStart) dL_bestStart_2 0 rfl rfl ?_
  refine g_iload_n (M := mL_bestStart) dL_bestStart_3 1 rfl rfl ?_
  obtain ⟨τ, r⟩ := res
  cases r with
  | inl v =>
    refine g_callVA (M := mL_bestStart) [.int (iI a1)] hX dL_bestStart_4 vX7_bestStart kM_L_104 (wX7_bestStart hX bn h) (fun _ => rfl) 0 (zWs_at (by omega) ((zSt_c 0 rfl (show σ 0 = (σ 0) from rfl))).o) rfl ⟨(Nat.le_of_ble_eq_true rfl), (Nat.le_of_ble_eq_true rfl)⟩ ⟨Nat.le_of_eq (Nat.zero_add _), Nat.le_of_eq (Nat.zero_add _)⟩ (Nat.le_of_ble_eq_true rfl) (fun A' hA' => ?_)
    have eq : A' q = A q := hA' q (fun z => absurd z.2 (Nat.not_lt.mpr hq.1))
    refine g_i2l (M := mL_bestStart) dL_bestStart_7 rfl ?_
    refine g_last (M := mL_bestStart) dL_bestStart_8 q (zo_at hq eq hS) (iI_in (by decide) (by decide) (by decide)) ?_
    refine g_ws (M := mL_bestStart) (zo_set hq.1 eq) ?_
    refine g_goto (M := mL_bestStart) (tgt := 15) dL_bestStart_9 (by decide) ?_
    refine g_lv (M := mL_bestStart) [] rfl ?_
    refine h_iconst (M := mL_bestStart) dL_bestStart_15 ?_
    exact g_iret (M := mL_bestStart) dL_bestStart_16 rfl (Nat.le_of_eq (Nat.zero_add _)) (Nat.le_of_eq (Nat.zero_add _)) ⟨A', hA', rfl, rfl⟩
  | inr E =>
    have hE1 : E = "java/lang/IndexOutOfBoundsException" := List.mem_singleton.mp (hE E rfl)
    subst hE1
    refine g_callVAe (M := mL_bestStart) [.int (iI a1)] hX dL_bestStart_4 vX7_bestStart kM_L_104 (wX7_bestStart hX bn h) (fun _ => rfl) 0 (zWs_at (by omega) ((zSt_c 0 rfl (show σ 0 = (σ 0) from rfl))).o) rfl ⟨(Nat.le_of_ble_eq_true rfl), (Nat.le_of_ble_eq_true rfl)⟩ ⟨Nat.le_of_eq (Nat.zero_add _), Nat.le_of_eq (Nat.zero_add _)⟩ (Nat.le_of_ble_eq_true rfl) (fun A' hA' => ?_)
    refine gx_catch (M := mL_bestStart) [] (0, 9, 12, 35) [] rfl (fun z hz => by simp [tableOf] at hz) rfl (by decide) kK_L_35 (fun U hU => zOL_c hL hU (c := 193) (by simp [zExc])) (fun e => ?_)
    refine g_lv (M := mL_bestStart) [] rfl ?_
    refine g_astore_n (M := mL_bestStart) (i := 3) (lv' := [(3, .ref e)]) dL_bestStart_12 rfl (Nat.le_of_ble_eq_true rfl) rfl ?_
    refine h_iconst (M := mL_bestStart) dL_bestStart_13 ?_
    exact g_iret (M := mL_bestStart) dL_bestStart_14 rfl (Nat.le_of_eq (Nat.zero_add _)) (Nat.le_of_eq (Nat.zero_add _)) ⟨A', hA', rfl, by rw [zKo_1]⟩
set_option maxHeartbeats 4000000 in
set_option maxRecDepth 100000 in
theorem wL_improvesToEnd {X : zX} (hX : zOK X) (hL : zOL X) {A : Nat → Nat} {n : Nat} {S : Nat → va_E} {σ : CS} (bn : 91 ≤ n) {q : Nat} (hq : 91 ≤ q ∧ q < n) {f : Nat → Int64} (hS : S q = aL X 1 f) {a1 : Int} {res : CS × (Int ⊕ String)} (h : fX7_improvesToEnd σ a1 = some res) (hE : ∀ E, res.2 = .inr E → E ∈ ["java/lang/IllegalArgumentException"]) : Con X yL_improvesToEnd mL_improvesToEnd 7 1 6 [.ref (A 0), .int (iI a1), .ref (A q)] (zWs A n (zSt X A σ S)) (zRA A (fun k => 1 ≤ k ∧ k < 91) (fun A' => (zWs A' n (zSt X A' res.1 (zLo X q f S res.2)))) (fun _ => .inl (some (.int (iI (zKo ["java/lang/IllegalArgumentException"] res.2)))))) := by
  refine con_ofH (lv := [(0, .ref (A 0)), (1, .int (iI a1)), (2, .ref (A q))]) (by decide) rfl (Nat.le_of_ble_eq_true rfl) rfl ?_
  change G X mL_improvesToEnd _ _ _ _ _ _ _
  refine g_aload_n (M := mL_improvesToEnd) dL_improvesToEnd_0 2 rfl rfl ?_
  refine h_iconst (M := mL_improvesToEnd) dL_improvesToEnd_1 ?_
  refine g_aload_n (M := mL_improvesToEnd) dL_improvesToEnd_2 0 rfl rfl ?_
  refine g_iload_n (M := mL_improvesToEnd) dL_improvesToEnd_3 1 rfl rfl ?_
  obtain ⟨τ, r⟩ := res
  cases r with
  | inl v =>
    refine g_callVA (M := mL_improvesToEnd) [.int (iI a1)] hX dL_improvesToEnd_4 vX7_improvesToEnd kM_L_107 (wX7_improvesToEnd hX bn h) (fun _ => rfl) 0 (zWs_at (by omega) ((zSt_c 0 rfl (show σ 0 = (σ 0) from rfl))).o) rfl ⟨(Nat.le_of_ble_eq_true rfl), (Nat.le_of_ble_eq_true rfl)⟩ ⟨Nat.le_of_eq (Nat.zero_add _), Nat.le_of_eq (Nat.zero_add _)⟩ (Nat.le_of_ble_eq_true rfl) (fun A' hA' => ?_)
    have eq : A' q = A q := hA' q (fun z => absurd z.2 (Nat.not_lt.mpr hq.1))
    refine g_i2l (M := mL_improvesToEnd) dL_improvesToEnd_7 rfl ?_
    refine g_last (M := mL_improvesToEnd) dL_improvesToEnd_8 q (zo_at hq eq hS) (iI_in (by decide) (by decide) (by decide)) ?_
    refine g_ws (M := mL_improvesToEnd) (zo_set hq.1 eq) ?_
    refine g_goto (M := mL_improvesToEnd) (tgt := 15) dL_improvesToEnd_9 (by decide) ?_
    refine g_lv (M := mL_improvesToEnd) [] rfl ?_
    refine h_iconst (M := mL_improvesToEnd) dL_improvesToEnd_15 ?_
    exact g_iret (M := mL_improvesToEnd) dL_improvesToEnd_16 rfl (Nat.le_of_eq (Nat.zero_add _)) (Nat.le_of_eq (Nat.zero_add _)) ⟨A', hA', rfl, rfl⟩
  | inr E =>
    have hE1 : E = "java/lang/IllegalArgumentException" := List.mem_singleton.mp (hE E rfl)
    subst hE1
    refine g_callVAe (M := mL_improvesToEnd) [.int (iI a1)] hX dL_improvesToEnd_4 vX7_improvesToEnd kM_L_107 (wX7_improvesToEnd hX bn h) (fun _ => rfl) 0 (zWs_at (by omega) ((zSt_c 0 rfl (show σ 0 = (σ 0) from rfl))).o) rfl ⟨(Nat.le_of_ble_eq_true rfl), (Nat.le_of_ble_eq_true rfl)⟩ ⟨Nat.le_of_eq (Nat.zero_add _), Nat.le_of_eq (Nat.zero_add _)⟩ (Nat.le_of_ble_eq_true rfl) (fun A' hA' => ?_)
    refine gx_catch (M := mL_improvesToEnd) [] (0, 9, 12, 19) [] rfl (fun z hz => by simp [tableOf] at hz) rfl (by decide) kK_L_19 (fun U hU => zOL_c hL hU (c := 94) (by simp [zExc])) (fun e => ?_)
    refine g_lv (M := mL_improvesToEnd) [] rfl ?_
    refine g_astore_n (M := mL_improvesToEnd) (i := 3) (lv' := [(3, .ref e)]) dL_improvesToEnd_12 rfl (Nat.le_of_ble_eq_true rfl) rfl ?_
    refine h_iconst (M := mL_improvesToEnd) dL_improvesToEnd_13 ?_
    exact g_iret (M := mL_improvesToEnd) dL_improvesToEnd_14 rfl (Nat.le_of_eq (Nat.zero_add _)) (Nat.le_of_eq (Nat.zero_add _)) ⟨A', hA', rfl, by rw [zKo_1]⟩
set_option maxHeartbeats 4000000 in
set_option maxRecDepth 100000 in
theorem wL_choose {X : zX} (hX : zOK X) (hL : zOL X) {A : Nat → Nat} {n : Nat} {S : Nat → va_E} {σ : CS} (bn : 91 ≤ n) {q : Nat} (hq : 91 ≤ q ∧ q < n) {f : Nat → Int64} (hS : S q = aL X 1 f) {a1 : Int} {a2 : Int} {res : CS × (Int ⊕ String)} (h : fX7_choose σ a1 a2 = some res) (hE : ∀ E, res.2 = .inr E → E ∈ ["java/lang/IndexOutOfBoundsException", "java/lang/IllegalArgumentException"]) : Con X yL_choose mL_choose 8 2 12 [.ref (A 0), .int (iI a1), .int (iI a2), .ref (A q)] (zWs A n (zSt X A σ S)) (zRA A (fun k => 1 ≤ k ∧ k < 91) (fun A' => (zWs A' n (zSt X A' res.1 (zLo X q f S res.2)))) (fun _ => .inl (some (.int (iI (zKo ["java/lang/IndexOutOfBoundsException", "java/lang/IllegalArgumentException"] res.2)))))) := by
  refine con_ofH (lv := [(0, .ref (A 0)), (1, .int (iI a1)), (2, .int (iI a2)), (3, .ref (A q))]) (by decide) rfl (Nat.le_of_ble_eq_true rfl) rfl ?_
  change G X mL_choose _ _ _ _ _ _ _
  refine g_aload_n (M := mL_choose) dL_choose_0 3 rfl rfl ?_
  refine h_iconst (M := mL_choose) dL_choose_1 ?_
  refine g_aload_n (M := mL_choose) dL_choose_2 0 rfl rfl ?_
  refine g_iload_n (M := mL_choose) dL_choose_3 1 rfl rfl ?_
  refine g_iload_n (M := mL_choose) dL_choose_4 2 rfl rfl ?_
  obtain ⟨τ, r⟩ := res
  cases r with
  | inl v =>
    refine g_callVA (M := mL_choose) [.int (iI a1), .int (iI a2)] hX dL_choose_5 vX7_choose kM_L_110 (wX7_choose hX bn h) (fun _ => rfl) 0 (zWs_at (by omega) ((zSt_c 0 rfl (show σ 0 = (σ 0) from rfl))).o) rfl ⟨(Nat.le_of_ble_eq_true rfl), (Nat.le_of_ble_eq_true rfl)⟩ ⟨Nat.le_of_eq (Nat.zero_add _), Nat.le_of_eq (Nat.zero_add _)⟩ (Nat.le_of_ble_eq_true rfl) (fun A' hA' => ?_)
    have eq : A' q = A q := hA' q (fun z => absurd z.2 (Nat.not_lt.mpr hq.1))
    refine g_i2l (M := mL_choose) dL_choose_8 rfl ?_
    refine g_last (M := mL_choose) dL_choose_9 q (zo_at hq eq hS) (iI_in (by decide) (by decide) (by decide)) ?_
    refine g_ws (M := mL_choose) (zo_set hq.1 eq) ?_
    refine g_goto (M := mL_choose) (tgt := 21) dL_choose_10 (by decide) ?_
    refine g_lv (M := mL_choose) [] rfl ?_
    refine h_iconst (M := mL_choose) dL_choose_21 ?_
    exact g_iret (M := mL_choose) dL_choose_22 rfl (Nat.le_of_eq (Nat.zero_add _)) (Nat.le_of_eq (Nat.zero_add _)) ⟨A', hA', rfl, rfl⟩
  | inr E =>
    have hE1 : E = "java/lang/IndexOutOfBoundsException" ∨ E = "java/lang/IllegalArgumentException" := by have := hE E rfl; simpa using this
    rcases hE1 with hE1 | hE1
    · subst hE1
      refine g_callVAe (M := mL_choose) [.int (iI a1), .int (iI a2)] hX dL_choose_5 vX7_choose kM_L_110 (wX7_choose hX bn h) (fun _ => rfl) 0 (zWs_at (by omega) ((zSt_c 0 rfl (show σ 0 = (σ 0) from rfl))).o) rfl ⟨(Nat.le_of_ble_eq_true rfl), (Nat.le_of_ble_eq_true rfl)⟩ ⟨Nat.le_of_eq (Nat.zero_add _), Nat.le_of_eq (Nat.zero_add _)⟩ (Nat.le_of_ble_eq_true rfl) (fun A' hA' => ?_)
      refine gx_catch (M := mL_choose) [] (0, 10, 13, 35) [(0, 10, 17, 19)] rfl (fun z hz => by simp [tableOf] at hz) rfl (by decide) kK_L_35 (fun U hU => zOL_c hL hU (c := 193) (by simp [zExc])) (fun e => ?_)
      refine g_lv (M := mL_choose) [] rfl ?_
      refine g_astore (M := mL_choose) (lv' := [(4, .ref e)]) dL_choose_13 (Nat.le_of_ble_eq_true rfl) rfl ?_
      refine h_iconst (M := mL_choose) dL_choose_15 ?_
      exact g_iret (M := mL_choose) dL_choose_16 rfl (Nat.le_of_eq (Nat.zero_add _)) (Nat.le_of_eq (Nat.zero_add _)) ⟨A', hA', rfl, by rw [zKo_1]⟩
    · subst hE1
      refine g_callVAe (M := mL_choose) [.int (iI a1), .int (iI a2)] hX dL_choose_5 vX7_choose kM_L_110 (wX7_choose hX bn h) (fun _ => rfl) 0 (zWs_at (by omega) ((zSt_c 0 rfl (show σ 0 = (σ 0) from rfl))).o) rfl ⟨(Nat.le_of_ble_eq_true rfl), (Nat.le_of_ble_eq_true rfl)⟩ ⟨Nat.le_of_eq (Nat.zero_add _), Nat.le_of_eq (Nat.zero_add _)⟩ (Nat.le_of_ble_eq_true rfl) (fun A' hA' => ?_)
      refine gx_catch (M := mL_choose) [(0, 10, 13, 35)] (0, 10, 17, 19) [] rfl (fun z hz => Or.inr (by simp only [tableOf, List.map_cons, List.map_nil, List.mem_singleton] at hz; rw [hz]; exact ⟨by decide, "java/lang/IndexOutOfBoundsException", kK_L_35, hL.2 _ (by simp)⟩)) rfl (by decide) kK_L_19 (fun U hU => zOL_c hL hU (c := 94) (by simp [zExc])) (fun e => ?_)
      refine g_lv (M := mL_choose) [] rfl ?_
      refine g_astore (M := mL_choose) (lv' := [(4, .ref e)]) dL_choose_17 (Nat.le_of_ble_eq_true rfl) rfl ?_
      refine h_iconst (M := mL_choose) dL_choose_19 ?_
      exact g_iret (M := mL_choose) dL_choose_20 rfl (Nat.le_of_eq (Nat.zero_add _)) (Nat.le_of_eq (Nat.zero_add _)) ⟨A', hA', rfl, by rw [zKo_2 (by decide)]⟩
set_option maxHeartbeats 4000000 in
set_option maxRecDepth 100000 in
theorem wL_clear {X : zX} (hX : zOK X) (hL : zOL X) {A : Nat → Nat} {n : Nat} {S : Nat → va_E} {σ : CS} (bn : 91 ≤ n) {q : Nat} (hq : 91 ≤ q ∧ q < n) {f : Nat → Int64} (hS : S q = aL X 1 f) {a1 : Int} {res : CS × (Int ⊕ String)} (h : fX7_clear σ a1 = some res) (hE : ∀ E, res.2 = .inr E → E ∈ ["java/lang/IndexOutOfBoundsException", "java/lang/IllegalStateException"]) : Con X yL_clear mL_clear 8 2 12 [.ref (A 0), .int (iI a1), .ref (A q)] (zWs A n (zSt X A σ S)) (zRA A (fun k => 1 ≤ k ∧ k < 91) (fun A' => (zWs A' n (zSt X A' res.1 (zLo X q f S res.2)))) (fun _ => .inl (some (.int (iI (zKo ["java/lang/IndexOutOfBoundsException", "java/lang/IllegalStateException"] res.2)))))) := by
  refine con_ofH (lv := [(0, .ref (A 0)), (1, .int (iI a1)), (2, .ref (A q))]) (by decide) rfl (Nat.le_of_ble_eq_true rfl) rfl ?_
  change G X mL_clear _ _ _ _ _ _ _
  refine g_aload_n (M := mL_clear) dL_clear_0 2 rfl rfl ?_
  refine h_iconst (M := mL_clear) dL_clear_1 ?_
  refine g_aload_n (M := mL_clear) dL_clear_2 0 rfl rfl ?_
  refine g_iload_n (M := mL_clear) dL_clear_3 1 rfl rfl ?_
  obtain ⟨τ, r⟩ := res
  cases r with
  | inl v =>
    refine g_callVA (M := mL_clear) [.int (iI a1)] hX dL_clear_4 vX7_clear kM_L_113 (wX7_clear hX bn h) (fun _ => rfl) 0 (zWs_at (by omega) ((zSt_c 0 rfl (show σ 0 = (σ 0) from rfl))).o) rfl ⟨(Nat.le_of_ble_eq_true rfl), (Nat.le_of_ble_eq_true rfl)⟩ ⟨Nat.le_of_eq (Nat.zero_add _), Nat.le_of_eq (Nat.zero_add _)⟩ (Nat.le_of_ble_eq_true rfl) (fun A' hA' => ?_)
    have eq : A' q = A q := hA' q (fun z => absurd z.2 (Nat.not_lt.mpr hq.1))
    refine g_i2l (M := mL_clear) dL_clear_7 rfl ?_
    refine g_last (M := mL_clear) dL_clear_8 q (zo_at hq eq hS) (iI_in (by decide) (by decide) (by decide)) ?_
    refine g_ws (M := mL_clear) (zo_set hq.1 eq) ?_
    refine g_goto (M := mL_clear) (tgt := 18) dL_clear_9 (by decide) ?_
    refine g_lv (M := mL_clear) [] rfl ?_
    refine h_iconst (M := mL_clear) dL_clear_18 ?_
    exact g_iret (M := mL_clear) dL_clear_19 rfl (Nat.le_of_eq (Nat.zero_add _)) (Nat.le_of_eq (Nat.zero_add _)) ⟨A', hA', rfl, rfl⟩
  | inr E =>
    have hE1 : E = "java/lang/IndexOutOfBoundsException" ∨ E = "java/lang/IllegalStateException" := by have := hE E rfl; simpa using this
    rcases hE1 with hE1 | hE1
    · subst hE1
      refine g_callVAe (M := mL_clear) [.int (iI a1)] hX dL_clear_4 vX7_clear kM_L_113 (wX7_clear hX bn h) (fun _ => rfl) 0 (zWs_at (by omega) ((zSt_c 0 rfl (show σ 0 = (σ 0) from rfl))).o) rfl ⟨(Nat.le_of_ble_eq_true rfl), (Nat.le_of_ble_eq_true rfl)⟩ ⟨Nat.le_of_eq (Nat.zero_add _), Nat.le_of_eq (Nat.zero_add _)⟩ (Nat.le_of_ble_eq_true rfl) (fun A' hA' => ?_)
      refine gx_catch (M := mL_clear) [] (0, 9, 12, 35) [(0, 9, 15, 13)] rfl (fun z hz => by simp [tableOf] at hz) rfl (by decide) kK_L_35 (fun U hU => zOL_c hL hU (c := 193) (by simp [zExc])) (fun e => ?_)
      refine g_lv (M := mL_clear) [] rfl ?_
      refine g_astore_n (M := mL_clear) (i := 3) (lv' := [(3, .ref e)]) dL_clear_12 rfl (Nat.le_of_ble_eq_true rfl) rfl ?_
      refine h_iconst (M := mL_clear) dL_clear_13 ?_
      exact g_iret (M := mL_clear) dL_clear_14 rfl (Nat.le_of_eq (Nat.zero_add _)) (Nat.le_of_eq (Nat.zero_add _)) ⟨A', hA', rfl, by rw [zKo_1]⟩
    · subst hE1
      refine g_callVAe (M := mL_clear) [.int (iI a1)] hX dL_clear_4 vX7_clear kM_L_113 (wX7_clear hX bn h) (fun _ => rfl) 0 (zWs_at (by omega) ((zSt_c 0 rfl (show σ 0 = (σ 0) from rfl))).o) rfl ⟨(Nat.le_of_ble_eq_true rfl), (Nat.le_of_ble_eq_true rfl)⟩ ⟨Nat.le_of_eq (Nat.zero_add _), Nat.le_of_eq (Nat.zero_add _)⟩ (Nat.le_of_ble_eq_true rfl) (fun A' hA' => ?_)
      refine gx_catch (M := mL_clear) [(0, 9, 12, 35)] (0, 9, 15, 13) [] rfl (fun z hz => Or.inr (by simp only [tableOf, List.map_cons, List.map_nil, List.mem_singleton] at hz; rw [hz]; exact ⟨by decide, "java/lang/IndexOutOfBoundsException", kK_L_35, hL.2 _ (by simp)⟩)) rfl (by decide) kK_L_13 (fun U hU => zOL_c hL hU (c := 83) (by simp [zExc])) (fun e => ?_)
      refine g_lv (M := mL_clear) [] rfl ?_
      refine g_astore_n (M := mL_clear) (i := 3) (lv' := [(3, .ref e)]) dL_clear_15 rfl (Nat.le_of_ble_eq_true rfl) rfl ?_
      refine h_iconst (M := mL_clear) dL_clear_16 ?_
      exact g_iret (M := mL_clear) dL_clear_17 rfl (Nat.le_of_eq (Nat.zero_add _)) (Nat.le_of_eq (Nat.zero_add _)) ⟨A', hA', rfl, by rw [zKo_2 (by decide)]⟩
set_option maxHeartbeats 4000000 in
set_option maxRecDepth 100000 in
theorem wL_better {X : zX} (hX : zOK X) (hL : zOL X) {A : Nat → Nat} {n : Nat} {S : Nat → va_E} {σ : CS} (bn : 91 ≤ n) {q : Nat} (hq : 91 ≤ q ∧ q < n) {f : Nat → Int64} (hS : S q = aL X 1 f) {a1 : Int} {res : CS × (Int ⊕ String)} (h : fX7_better σ a1 = some res) (hE : ∀ E, res.2 = .inr E → E ∈ ["java/lang/IndexOutOfBoundsException", "java/lang/IllegalStateException"]) : Con X yL_better mL_better 8 2 12 [.ref (A 0), .int (iI a1), .ref (A q)] (zWs A n (zSt X A σ S)) (zRA A (fun k => 1 ≤ k ∧ k < 91) (fun A' => (zWs A' n (zSt X A' res.1 (zLo X q f S res.2)))) (fun _ => .inl (some (.int (iI (zKo ["java/lang/IndexOutOfBoundsException", "java/lang/IllegalStateException"] res.2)))))) := by
  refine con_ofH (lv := [(0, .ref (A 0)), (1, .int (iI a1)), (2, .ref (A q))]) (by decide) rfl (Nat.le_of_ble_eq_true rfl) rfl ?_
  change G X mL_better _ _ _ _ _ _ _
  refine g_aload_n (M := mL_better) dL_better_0 2 rfl rfl ?_
  refine h_iconst (M := mL_better) dL_better_1 ?_
  refine g_aload_n (M := mL_better) dL_better_2 0 rfl rfl ?_
  refine g_iload_n (M := mL_better) dL_better_3 1 rfl rfl ?_
  obtain ⟨τ, r⟩ := res
  cases r with
  | inl v =>
    refine g_callVA (M := mL_better) [.int (iI a1)] hX dL_better_4 vX7_better kM_L_116 (wX7_better hX bn h) (fun _ => rfl) 0 (zWs_at (by omega) ((zSt_c 0 rfl (show σ 0 = (σ 0) from rfl))).o) rfl ⟨(Nat.le_of_ble_eq_true rfl), (Nat.le_of_ble_eq_true rfl)⟩ ⟨Nat.le_of_eq (Nat.zero_add _), Nat.le_of_eq (Nat.zero_add _)⟩ (Nat.le_of_ble_eq_true rfl) (fun A' hA' => ?_)
    have eq : A' q = A q := hA' q (fun z => absurd z.2 (Nat.not_lt.mpr hq.1))
    refine g_i2l (M := mL_better) dL_better_7 rfl ?_
    refine g_last (M := mL_better) dL_better_8 q (zo_at hq eq hS) (iI_in (by decide) (by decide) (by decide)) ?_
    refine g_ws (M := mL_better) (zo_set hq.1 eq) ?_
    refine g_goto (M := mL_better) (tgt := 18) dL_better_9 (by decide) ?_
    refine g_lv (M := mL_better) [] rfl ?_
    refine h_iconst (M := mL_better) dL_better_18 ?_
    exact g_iret (M := mL_better) dL_better_19 rfl (Nat.le_of_eq (Nat.zero_add _)) (Nat.le_of_eq (Nat.zero_add _)) ⟨A', hA', rfl, rfl⟩
  | inr E =>
    have hE1 : E = "java/lang/IndexOutOfBoundsException" ∨ E = "java/lang/IllegalStateException" := by have := hE E rfl; simpa using this
    rcases hE1 with hE1 | hE1
    · subst hE1
      refine g_callVAe (M := mL_better) [.int (iI a1)] hX dL_better_4 vX7_better kM_L_116 (wX7_better hX bn h) (fun _ => rfl) 0 (zWs_at (by omega) ((zSt_c 0 rfl (show σ 0 = (σ 0) from rfl))).o) rfl ⟨(Nat.le_of_ble_eq_true rfl), (Nat.le_of_ble_eq_true rfl)⟩ ⟨Nat.le_of_eq (Nat.zero_add _), Nat.le_of_eq (Nat.zero_add _)⟩ (Nat.le_of_ble_eq_true rfl) (fun A' hA' => ?_)
      refine gx_catch (M := mL_better) [] (0, 9, 12, 35) [(0, 9, 15, 13)] rfl (fun z hz => by simp [tableOf] at hz) rfl (by decide) kK_L_35 (fun U hU => zOL_c hL hU (c := 193) (by simp [zExc])) (fun e => ?_)
      refine g_lv (M := mL_better) [] rfl ?_
      refine g_astore_n (M := mL_better) (i := 3) (lv' := [(3, .ref e)]) dL_better_12 rfl (Nat.le_of_ble_eq_true rfl) rfl ?_
      refine h_iconst (M := mL_better) dL_better_13 ?_
      exact g_iret (M := mL_better) dL_better_14 rfl (Nat.le_of_eq (Nat.zero_add _)) (Nat.le_of_eq (Nat.zero_add _)) ⟨A', hA', rfl, by rw [zKo_1]⟩
    · subst hE1
      refine g_callVAe (M := mL_better) [.int (iI a1)] hX dL_better_4 vX7_better kM_L_116 (wX7_better hX bn h) (fun _ => rfl) 0 (zWs_at (by omega) ((zSt_c 0 rfl (show σ 0 = (σ 0) from rfl))).o) rfl ⟨(Nat.le_of_ble_eq_true rfl), (Nat.le_of_ble_eq_true rfl)⟩ ⟨Nat.le_of_eq (Nat.zero_add _), Nat.le_of_eq (Nat.zero_add _)⟩ (Nat.le_of_ble_eq_true rfl) (fun A' hA' => ?_)
      refine gx_catch (M := mL_better) [(0, 9, 12, 35)] (0, 9, 15, 13) [] rfl (fun z hz => Or.inr (by simp only [tableOf, List.map_cons, List.map_nil, List.mem_singleton] at hz; rw [hz]; exact ⟨by decide, "java/lang/IndexOutOfBoundsException", kK_L_35, hL.2 _ (by simp)⟩)) rfl (by decide) kK_L_13 (fun U hU => zOL_c hL hU (c := 83) (by simp [zExc])) (fun e => ?_)
      refine g_lv (M := mL_better) [] rfl ?_
      refine g_astore_n (M := mL_better) (i := 3) (lv' := [(3, .ref e)]) dL_better_15 rfl (Nat.le_of_ble_eq_true rfl) rfl ?_
      refine h_iconst (M := mL_better) dL_better_16 ?_
      exact g_iret (M := mL_better) dL_better_17 rfl (Nat.le_of_eq (Nat.zero_add _)) (Nat.le_of_eq (Nat.zero_add _)) ⟨A', hA', rfl, by rw [zKo_2 (by decide)]⟩
set_option maxHeartbeats 4000000 in
set_option maxRecDepth 100000 in
theorem wL_improve {X : zX} (hX : zOK X) (hL : zOL X) {A : Nat → Nat} {n : Nat} {S : Nat → va_E} {σ : CS} (bn : 91 ≤ n) {q : Nat} (hq : 91 ≤ q ∧ q < n) {f : Nat → Int64} (hS : S q = aL X 1 f) {a1 : Int} {res : CS × (Int ⊕ String)} (h : fX7_improve σ a1 = some res) (hE : ∀ E, res.2 = .inr E → E ∈ ["java/lang/IllegalArgumentException"]) : Con X yL_improve mL_improve 7 1 6 [.ref (A 0), .int (iI a1), .ref (A q)] (zWs A n (zSt X A σ S)) (zRA A (fun k => 1 ≤ k ∧ k < 91) (fun A' => (zWs A' n (zSt X A' res.1 (zLo X q f S res.2)))) (fun _ => .inl (some (.int (iI (zKo ["java/lang/IllegalArgumentException"] res.2)))))) := by
  refine con_ofH (lv := [(0, .ref (A 0)), (1, .int (iI a1)), (2, .ref (A q))]) (by decide) rfl (Nat.le_of_ble_eq_true rfl) rfl ?_
  change G X mL_improve _ _ _ _ _ _ _
  refine g_aload_n (M := mL_improve) dL_improve_0 2 rfl rfl ?_
  refine h_iconst (M := mL_improve) dL_improve_1 ?_
  refine g_aload_n (M := mL_improve) dL_improve_2 0 rfl rfl ?_
  refine g_iload_n (M := mL_improve) dL_improve_3 1 rfl rfl ?_
  obtain ⟨τ, r⟩ := res
  cases r with
  | inl v =>
    refine g_callVA (M := mL_improve) [.int (iI a1)] hX dL_improve_4 vX7_improve kM_L_119 (wX7_improve hX bn h) (fun _ => rfl) 0 (zWs_at (by omega) ((zSt_c 0 rfl (show σ 0 = (σ 0) from rfl))).o) rfl ⟨(Nat.le_of_ble_eq_true rfl), (Nat.le_of_ble_eq_true rfl)⟩ ⟨Nat.le_of_eq (Nat.zero_add _), Nat.le_of_eq (Nat.zero_add _)⟩ (Nat.le_of_ble_eq_true rfl) (fun A' hA' => ?_)
    have eq : A' q = A q := hA' q (fun z => absurd z.2 (Nat.not_lt.mpr hq.1))
    refine g_i2l (M := mL_improve) dL_improve_7 rfl ?_
    refine g_last (M := mL_improve) dL_improve_8 q (zo_at hq eq hS) (iI_in (by decide) (by decide) (by decide)) ?_
    refine g_ws (M := mL_improve) (zo_set hq.1 eq) ?_
    refine g_goto (M := mL_improve) (tgt := 15) dL_improve_9 (by decide) ?_
    refine g_lv (M := mL_improve) [] rfl ?_
    refine h_iconst (M := mL_improve) dL_improve_15 ?_
    exact g_iret (M := mL_improve) dL_improve_16 rfl (Nat.le_of_eq (Nat.zero_add _)) (Nat.le_of_eq (Nat.zero_add _)) ⟨A', hA', rfl, rfl⟩
  | inr E =>
    have hE1 : E = "java/lang/IllegalArgumentException" := List.mem_singleton.mp (hE E rfl)
    subst hE1
    refine g_callVAe (M := mL_improve) [.int (iI a1)] hX dL_improve_4 vX7_improve kM_L_119 (wX7_improve hX bn h) (fun _ => rfl) 0 (zWs_at (by omega) ((zSt_c 0 rfl (show σ 0 = (σ 0) from rfl))).o) rfl ⟨(Nat.le_of_ble_eq_true rfl), (Nat.le_of_ble_eq_true rfl)⟩ ⟨Nat.le_of_eq (Nat.zero_add _), Nat.le_of_eq (Nat.zero_add _)⟩ (Nat.le_of_ble_eq_true rfl) (fun A' hA' => ?_)
    refine gx_catch (M := mL_improve) [] (0, 9, 12, 19) [] rfl (fun z hz => by simp [tableOf] at hz) rfl (by decide) kK_L_19 (fun U hU => zOL_c hL hU (c := 94) (by simp [zExc])) (fun e => ?_)
    refine g_lv (M := mL_improve) [] rfl ?_
    refine g_astore_n (M := mL_improve) (i := 3) (lv' := [(3, .ref e)]) dL_improve_12 rfl (Nat.le_of_ble_eq_true rfl) rfl ?_
    refine h_iconst (M := mL_improve) dL_improve_13 ?_
    exact g_iret (M := mL_improve) dL_improve_14 rfl (Nat.le_of_eq (Nat.zero_add _)) (Nat.le_of_eq (Nat.zero_add _)) ⟨A', hA', rfl, by rw [zKo_1]⟩
set_option maxHeartbeats 4000000 in
set_option maxRecDepth 100000 in
theorem wL_take {X : zX} (hX : zOK X) (hL : zOL X) {A : Nat → Nat} {n : Nat} {S : Nat → va_E} {σ : CS} (bn : 91 ≤ n) {q : Nat} (hq : 91 ≤ q ∧ q < n) {f : Nat → Int64} (hS : S q = aL X 1 f) {a1 : Int} {res : CS × (Int ⊕ String)} (h : fX7_take σ a1 = some res) (hE : ∀ E, res.2 = .inr E → E ∈ ["java/lang/IndexOutOfBoundsException", "java/lang/IllegalStateException"]) : Con X yL_take mL_take 8 2 12 [.ref (A 0), .int (iI a1), .ref (A q)] (zWs A n (zSt X A σ S)) (zRA A (fun k => 1 ≤ k ∧ k < 91) (fun A' => (zWs A' n (zSt X A' res.1 (zLo X q f S res.2)))) (fun _ => .inl (some (.int (iI (zKo ["java/lang/IndexOutOfBoundsException", "java/lang/IllegalStateException"] res.2)))))) := by
  refine con_ofH (lv := [(0, .ref (A 0)), (1, .int (iI a1)), (2, .ref (A q))]) (by decide) rfl (Nat.le_of_ble_eq_true rfl) rfl ?_
  change G X mL_take _ _ _ _ _ _ _
  refine g_aload_n (M := mL_take) dL_take_0 2 rfl rfl ?_
  refine h_iconst (M := mL_take) dL_take_1 ?_
  refine g_aload_n (M := mL_take) dL_take_2 0 rfl rfl ?_
  refine g_iload_n (M := mL_take) dL_take_3 1 rfl rfl ?_
  obtain ⟨τ, r⟩ := res
  cases r with
  | inl v =>
    refine g_callVA (M := mL_take) [.int (iI a1)] hX dL_take_4 vX7_take kM_L_122 (wX7_take hX bn h) (fun _ => rfl) 0 (zWs_at (by omega) ((zSt_c 0 rfl (show σ 0 = (σ 0) from rfl))).o) rfl ⟨(Nat.le_of_ble_eq_true rfl), (Nat.le_of_ble_eq_true rfl)⟩ ⟨Nat.le_of_eq (Nat.zero_add _), Nat.le_of_eq (Nat.zero_add _)⟩ (Nat.le_of_ble_eq_true rfl) (fun A' hA' => ?_)
    have eq : A' q = A q := hA' q (fun z => absurd z.2 (Nat.not_lt.mpr hq.1))
    refine g_i2l (M := mL_take) dL_take_7 rfl ?_
    refine g_last (M := mL_take) dL_take_8 q (zo_at hq eq hS) (iI_in (by decide) (by decide) (by decide)) ?_
    refine g_ws (M := mL_take) (zo_set hq.1 eq) ?_
    refine g_goto (M := mL_take) (tgt := 18) dL_take_9 (by decide) ?_
    refine g_lv (M := mL_take) [] rfl ?_
    refine h_iconst (M := mL_take) dL_take_18 ?_
    exact g_iret (M := mL_take) dL_take_19 rfl (Nat.le_of_eq (Nat.zero_add _)) (Nat.le_of_eq (Nat.zero_add _)) ⟨A', hA', rfl, rfl⟩
  | inr E =>
    have hE1 : E = "java/lang/IndexOutOfBoundsException" ∨ E = "java/lang/IllegalStateException" := by have := hE E rfl; simpa using this
    rcases hE1 with hE1 | hE1
    · subst hE1
      refine g_callVAe (M := mL_take) [.int (iI a1)] hX dL_take_4 vX7_take kM_L_122 (wX7_take hX bn h) (fun _ => rfl) 0 (zWs_at (by omega) ((zSt_c 0 rfl (show σ 0 = (σ 0) from rfl))).o) rfl ⟨(Nat.le_of_ble_eq_true rfl), (Nat.le_of_ble_eq_true rfl)⟩ ⟨Nat.le_of_eq (Nat.zero_add _), Nat.le_of_eq (Nat.zero_add _)⟩ (Nat.le_of_ble_eq_true rfl) (fun A' hA' => ?_)
      refine gx_catch (M := mL_take) [] (0, 9, 12, 35) [(0, 9, 15, 13)] rfl (fun z hz => by simp [tableOf] at hz) rfl (by decide) kK_L_35 (fun U hU => zOL_c hL hU (c := 193) (by simp [zExc])) (fun e => ?_)
      refine g_lv (M := mL_take) [] rfl ?_
      refine g_astore_n (M := mL_take) (i := 3) (lv' := [(3, .ref e)]) dL_take_12 rfl (Nat.le_of_ble_eq_true rfl) rfl ?_
      refine h_iconst (M := mL_take) dL_take_13 ?_
      exact g_iret (M := mL_take) dL_take_14 rfl (Nat.le_of_eq (Nat.zero_add _)) (Nat.le_of_eq (Nat.zero_add _)) ⟨A', hA', rfl, by rw [zKo_1]⟩
    · subst hE1
      refine g_callVAe (M := mL_take) [.int (iI a1)] hX dL_take_4 vX7_take kM_L_122 (wX7_take hX bn h) (fun _ => rfl) 0 (zWs_at (by omega) ((zSt_c 0 rfl (show σ 0 = (σ 0) from rfl))).o) rfl ⟨(Nat.le_of_ble_eq_true rfl), (Nat.le_of_ble_eq_true rfl)⟩ ⟨Nat.le_of_eq (Nat.zero_add _), Nat.le_of_eq (Nat.zero_add _)⟩ (Nat.le_of_ble_eq_true rfl) (fun A' hA' => ?_)
      refine gx_catch (M := mL_take) [(0, 9, 12, 35)] (0, 9, 15, 13) [] rfl (fun z hz => Or.inr (by simp only [tableOf, List.map_cons, List.map_nil, List.mem_singleton] at hz; rw [hz]; exact ⟨by decide, "java/lang/IndexOutOfBoundsException", kK_L_35, hL.2 _ (by simp)⟩)) rfl (by decide) kK_L_13 (fun U hU => zOL_c hL hU (c := 83) (by simp [zExc])) (fun e => ?_)
      refine g_lv (M := mL_take) [] rfl ?_
      refine g_astore_n (M := mL_take) (i := 3) (lv' := [(3, .ref e)]) dL_take_15 rfl (Nat.le_of_ble_eq_true rfl) rfl ?_
      refine h_iconst (M := mL_take) dL_take_16 ?_
      exact g_iret (M := mL_take) dL_take_17 rfl (Nat.le_of_eq (Nat.zero_add _)) (Nat.le_of_eq (Nat.zero_add _)) ⟨A', hA', rfl, by rw [zKo_2 (by decide)]⟩
set_option maxHeartbeats 4000000 in
set_option maxRecDepth 100000 in
theorem wL_takeBest {X : zX} (hX : zOK X) (hL : zOL X) {A : Nat → Nat} {n : Nat} {S : Nat → va_E} {σ : CS} (bn : 91 ≤ n) {q : Nat} (hq : 91 ≤ q ∧ q < n) {f : Nat → Int64} (hS : S q = aL X 1 f) {res : CS × (Int ⊕ String)} (h : fX7_takeBest σ  = some res) (hE : ∀ E, res.2 = .inr E → E ∈ ["java/lang/IllegalStateException"]) : Con X yL_takeBest mL_takeBest 10 (2 + 3 * zNd (σ 7) (σ 4)) (12 + 13652 * zNd (σ 7) (σ 4)) [.ref (A 0), .ref (A q)] (zWs A n (zSt X A σ S)) (zRA A (fun k => 1 ≤ k ∧ k < 91) (fun A' => (zWs A' n (zSt X A' res.1 (zLo X q f S res.2)))) (fun _ => .inl (some (.int (iI (zKo ["java/lang/IllegalStateException"] res.2)))))) := by
  refine con_ofH (lv := [(0, .ref (A 0)), (1, .ref (A q))]) (by decide) rfl (Nat.le_of_ble_eq_true rfl) rfl ?_
  change G X mL_takeBest _ _ _ _ _ _ _
  refine g_aload_n (M := mL_takeBest) dL_takeBest_0 1 rfl rfl ?_
  refine h_iconst (M := mL_takeBest) dL_takeBest_1 ?_
  refine g_aload_n (M := mL_takeBest) dL_takeBest_2 0 rfl rfl ?_
  obtain ⟨τ, r⟩ := res
  cases r with
  | inl v =>
    refine g_callVA (M := mL_takeBest) [] hX dL_takeBest_3 vX7_takeBest kM_L_125 (wX7_takeBest hX bn h) (fun _ => rfl) 0 (zWs_at (by omega) ((zSt_c 0 rfl (show σ 0 = (σ 0) from rfl))).o) rfl ⟨(Nat.le_of_ble_eq_true rfl), (Nat.le_of_ble_eq_true rfl)⟩ ⟨Nat.le_of_eq (Nat.zero_add _), Nat.le_of_eq (Nat.zero_add _)⟩ (Nat.le_of_ble_eq_true rfl) (fun A' hA' => ?_)
    have eq : A' q = A q := hA' q (fun z => absurd z.2 (Nat.not_lt.mpr hq.1))
    refine g_i2l (M := mL_takeBest) dL_takeBest_6 rfl ?_
    refine g_last (M := mL_takeBest) dL_takeBest_7 q (zo_at hq eq hS) (iI_in (by decide) (by decide) (by decide)) ?_
    refine g_ws (M := mL_takeBest) (zo_set hq.1 eq) ?_
    refine g_goto (M := mL_takeBest) (tgt := 14) dL_takeBest_8 (by decide) ?_
    refine g_lv (M := mL_takeBest) [] rfl ?_
    refine h_iconst (M := mL_takeBest) dL_takeBest_14 ?_
    exact g_iret (M := mL_takeBest) dL_takeBest_15 rfl (Nat.le_of_eq (Nat.zero_add _)) (Nat.le_of_eq (Nat.zero_add _)) ⟨A', hA', rfl, rfl⟩
  | inr E =>
    have hE1 : E = "java/lang/IllegalStateException" := List.mem_singleton.mp (hE E rfl)
    subst hE1
    refine g_callVAe (M := mL_takeBest) [] hX dL_takeBest_3 vX7_takeBest kM_L_125 (wX7_takeBest hX bn h) (fun _ => rfl) 0 (zWs_at (by omega) ((zSt_c 0 rfl (show σ 0 = (σ 0) from rfl))).o) rfl ⟨(Nat.le_of_ble_eq_true rfl), (Nat.le_of_ble_eq_true rfl)⟩ ⟨Nat.le_of_eq (Nat.zero_add _), Nat.le_of_eq (Nat.zero_add _)⟩ (Nat.le_of_ble_eq_true rfl) (fun A' hA' => ?_)
    refine gx_catch (M := mL_takeBest) [] (0, 8, 11, 13) [] rfl (fun z hz => by simp [tableOf] at hz) rfl (by decide) kK_L_13 (fun U hU => zOL_c hL hU (c := 83) (by simp [zExc])) (fun e => ?_)
    refine g_lv (M := mL_takeBest) [] rfl ?_
    refine g_astore_n (M := mL_takeBest) (i := 2) (lv' := [(2, .ref e)]) dL_takeBest_11 rfl (Nat.le_of_ble_eq_true rfl) rfl ?_
    refine h_iconst (M := mL_takeBest) dL_takeBest_12 ?_
    exact g_iret (M := mL_takeBest) dL_takeBest_13 rfl (Nat.le_of_eq (Nat.zero_add _)) (Nat.le_of_eq (Nat.zero_add _)) ⟨A', hA', rfl, by rw [zKo_1]⟩
set_option maxHeartbeats 4000000 in
set_option maxRecDepth 100000 in
theorem wL_whyNotTake {X : zX} (hX : zOK X) (hL : zOL X) {A : Nat → Nat} {n : Nat} {S : Nat → va_E} {σ : CS} (bn : 91 ≤ n) {q : Nat} (hq : 91 ≤ q ∧ q < n) {f : Nat → Int64} (hS : S q = aL X 1 f) {a1 : Int} {res : (Int ⊕ String)} (h : fX7_whyNotTake σ a1 = some res) (hE : ∀ E, res = .inr E → E ∈ ["java/lang/IndexOutOfBoundsException"]) : Con X yL_whyNotTake mL_whyNotTake 8 1 6 [.ref (A 0), .int (iI a1), .ref (A q)] (zWs A n (zSt X A σ S)) (zRA A (fun k => 1 ≤ k ∧ k < 91) (fun A' => (zWs A' n (zSt X A' σ (zLo X q f S res)))) (fun _ => .inl (some (.int (iI (zKo ["java/lang/IndexOutOfBoundsException"] res)))))) := by
  refine con_ofH (lv := [(0, .ref (A 0)), (1, .int (iI a1)), (2, .ref (A q))]) (by decide) rfl (Nat.le_of_ble_eq_true rfl) rfl ?_
  change G X mL_whyNotTake _ _ _ _ _ _ _
  refine g_aload_n (M := mL_whyNotTake) dL_whyNotTake_0 2 rfl rfl ?_
  refine h_iconst (M := mL_whyNotTake) dL_whyNotTake_1 ?_
  refine g_aload_n (M := mL_whyNotTake) dL_whyNotTake_2 0 rfl rfl ?_
  refine g_iload_n (M := mL_whyNotTake) dL_whyNotTake_3 1 rfl rfl ?_
  cases res with
  | inl v =>
    refine g_callVx (M := mL_whyNotTake) [.int (iI a1)] hX dL_whyNotTake_4 vX7_whyNotTake kM_L_128 (wX7_whyNotTake hX bn h) rfl 0 (zWs_at (by omega) ((zSt_c 0 rfl (show σ 0 = (σ 0) from rfl))).o) rfl ⟨(Nat.le_of_ble_eq_true rfl), (Nat.le_of_ble_eq_true rfl)⟩ ⟨Nat.le_of_eq (Nat.zero_add _), Nat.le_of_eq (Nat.zero_add _)⟩ (Nat.le_of_ble_eq_true rfl) ?_
    have eq : A q = A q := rfl
    refine g_i2l (M := mL_whyNotTake) dL_whyNotTake_7 rfl ?_
    refine g_last (M := mL_whyNotTake) dL_whyNotTake_8 q (zo_at hq eq hS) (iI_in (by decide) (by decide) (by decide)) ?_
    refine g_ws (M := mL_whyNotTake) (zo_set hq.1 eq) ?_
    refine g_goto (M := mL_whyNotTake) (tgt := 15) dL_whyNotTake_9 (by decide) ?_
    refine g_lv (M := mL_whyNotTake) [] rfl ?_
    refine h_iconst (M := mL_whyNotTake) dL_whyNotTake_15 ?_
    exact g_iret (M := mL_whyNotTake) dL_whyNotTake_16 rfl (Nat.le_of_eq (Nat.zero_add _)) (Nat.le_of_eq (Nat.zero_add _)) ⟨A, (fun _ _ => rfl), rfl, rfl⟩
  | inr E =>
    have hE1 : E = "java/lang/IndexOutOfBoundsException" := List.mem_singleton.mp (hE E rfl)
    subst hE1
    refine g_callVe (M := mL_whyNotTake) [.int (iI a1)] hX dL_whyNotTake_4 vX7_whyNotTake kM_L_128 (wX7_whyNotTake hX bn h) rfl 0 (zWs_at (by omega) ((zSt_c 0 rfl (show σ 0 = (σ 0) from rfl))).o) rfl ⟨(Nat.le_of_ble_eq_true rfl), (Nat.le_of_ble_eq_true rfl)⟩ ⟨Nat.le_of_eq (Nat.zero_add _), Nat.le_of_eq (Nat.zero_add _)⟩ (Nat.le_of_ble_eq_true rfl) ?_
    refine gx_catch (M := mL_whyNotTake) [] (0, 9, 12, 35) [] rfl (fun z hz => by simp [tableOf] at hz) rfl (by decide) kK_L_35 (fun U hU => zOL_c hL hU (c := 193) (by simp [zExc])) (fun e => ?_)
    refine g_lv (M := mL_whyNotTake) [] rfl ?_
    refine g_astore_n (M := mL_whyNotTake) (i := 3) (lv' := [(3, .ref e)]) dL_whyNotTake_12 rfl (Nat.le_of_ble_eq_true rfl) rfl ?_
    refine h_iconst (M := mL_whyNotTake) dL_whyNotTake_13 ?_
    exact g_iret (M := mL_whyNotTake) dL_whyNotTake_14 rfl (Nat.le_of_eq (Nat.zero_add _)) (Nat.le_of_eq (Nat.zero_add _)) ⟨A, (fun _ _ => rfl), rfl, by rw [zKo_1]⟩
set_option maxHeartbeats 4000000 in
set_option maxRecDepth 100000 in
theorem wL_setOut {X : zX} (hX : zOK X) (hL : zOL X) {A : Nat → Nat} {n : Nat} {S : Nat → va_E} {σ : CS} (bn : 91 ≤ n) {q : Nat} (hq : 91 ≤ q ∧ q < n) {f : Nat → Int64} (hS : S q = aL X 1 f) {a1 : Int} {a2 : Int} {res : CS × (Int ⊕ String)} (h : fX7_setOut σ a1 a2 = some res) (hE : ∀ E, res.2 = .inr E → E ∈ ["java/lang/IndexOutOfBoundsException", "java/lang/IllegalStateException"]) : Con X yL_setOut mL_setOut 8 2 12 [.ref (A 0), .int (iI a1), .int (iI a2), .ref (A q)] (zWs A n (zSt X A σ S)) (zRA A (fun k => 1 ≤ k ∧ k < 91) (fun A' => (zWs A' n (zSt X A' res.1 (zLo X q f S res.2)))) (fun _ => .inl (some (.int (iI (zKo ["java/lang/IndexOutOfBoundsException", "java/lang/IllegalStateException"] res.2)))))) := by
  refine con_ofH (lv := [(0, .ref (A 0)), (1, .int (iI a1)), (2, .int (iI a2)), (3, .ref (A q))]) (by decide) rfl (Nat.le_of_ble_eq_true rfl) rfl ?_
  change G X mL_setOut _ _ _ _ _ _ _
  refine g_aload_n (M := mL_setOut) dL_setOut_0 3 rfl rfl ?_
  refine h_iconst (M := mL_setOut) dL_setOut_1 ?_
  refine g_aload_n (M := mL_setOut) dL_setOut_2 0 rfl rfl ?_
  refine g_iload_n (M := mL_setOut) dL_setOut_3 1 rfl rfl ?_
  refine g_iload_n (M := mL_setOut) dL_setOut_4 2 rfl rfl ?_
  obtain ⟨τ, r⟩ := res
  cases r with
  | inl v =>
    refine g_callVA (M := mL_setOut) [.int (iI a1), .int (iI a2)] hX dL_setOut_5 vX7_setOut kM_L_131 (wX7_setOut hX bn h) (fun _ => rfl) 0 (zWs_at (by omega) ((zSt_c 0 rfl (show σ 0 = (σ 0) from rfl))).o) rfl ⟨(Nat.le_of_ble_eq_true rfl), (Nat.le_of_ble_eq_true rfl)⟩ ⟨Nat.le_of_eq (Nat.zero_add _), Nat.le_of_eq (Nat.zero_add _)⟩ (Nat.le_of_ble_eq_true rfl) (fun A' hA' => ?_)
    have eq : A' q = A q := hA' q (fun z => absurd z.2 (Nat.not_lt.mpr hq.1))
    refine g_i2l (M := mL_setOut) dL_setOut_8 rfl ?_
    refine g_last (M := mL_setOut) dL_setOut_9 q (zo_at hq eq hS) (iI_in (by decide) (by decide) (by decide)) ?_
    refine g_ws (M := mL_setOut) (zo_set hq.1 eq) ?_
    refine g_goto (M := mL_setOut) (tgt := 21) dL_setOut_10 (by decide) ?_
    refine g_lv (M := mL_setOut) [] rfl ?_
    refine h_iconst (M := mL_setOut) dL_setOut_21 ?_
    exact g_iret (M := mL_setOut) dL_setOut_22 rfl (Nat.le_of_eq (Nat.zero_add _)) (Nat.le_of_eq (Nat.zero_add _)) ⟨A', hA', rfl, rfl⟩
  | inr E =>
    have hE1 : E = "java/lang/IndexOutOfBoundsException" ∨ E = "java/lang/IllegalStateException" := by have := hE E rfl; simpa using this
    rcases hE1 with hE1 | hE1
    · subst hE1
      refine g_callVAe (M := mL_setOut) [.int (iI a1), .int (iI a2)] hX dL_setOut_5 vX7_setOut kM_L_131 (wX7_setOut hX bn h) (fun _ => rfl) 0 (zWs_at (by omega) ((zSt_c 0 rfl (show σ 0 = (σ 0) from rfl))).o) rfl ⟨(Nat.le_of_ble_eq_true rfl), (Nat.le_of_ble_eq_true rfl)⟩ ⟨Nat.le_of_eq (Nat.zero_add _), Nat.le_of_eq (Nat.zero_add _)⟩ (Nat.le_of_ble_eq_true rfl) (fun A' hA' => ?_)
      refine gx_catch (M := mL_setOut) [] (0, 10, 13, 35) [(0, 10, 17, 13)] rfl (fun z hz => by simp [tableOf] at hz) rfl (by decide) kK_L_35 (fun U hU => zOL_c hL hU (c := 193) (by simp [zExc])) (fun e => ?_)
      refine g_lv (M := mL_setOut) [] rfl ?_
      refine g_astore (M := mL_setOut) (lv' := [(4, .ref e)]) dL_setOut_13 (Nat.le_of_ble_eq_true rfl) rfl ?_
      refine h_iconst (M := mL_setOut) dL_setOut_15 ?_
      exact g_iret (M := mL_setOut) dL_setOut_16 rfl (Nat.le_of_eq (Nat.zero_add _)) (Nat.le_of_eq (Nat.zero_add _)) ⟨A', hA', rfl, by rw [zKo_1]⟩
    · subst hE1
      refine g_callVAe (M := mL_setOut) [.int (iI a1), .int (iI a2)] hX dL_setOut_5 vX7_setOut kM_L_131 (wX7_setOut hX bn h) (fun _ => rfl) 0 (zWs_at (by omega) ((zSt_c 0 rfl (show σ 0 = (σ 0) from rfl))).o) rfl ⟨(Nat.le_of_ble_eq_true rfl), (Nat.le_of_ble_eq_true rfl)⟩ ⟨Nat.le_of_eq (Nat.zero_add _), Nat.le_of_eq (Nat.zero_add _)⟩ (Nat.le_of_ble_eq_true rfl) (fun A' hA' => ?_)
      refine gx_catch (M := mL_setOut) [(0, 10, 13, 35)] (0, 10, 17, 13) [] rfl (fun z hz => Or.inr (by simp only [tableOf, List.map_cons, List.map_nil, List.mem_singleton] at hz; rw [hz]; exact ⟨by decide, "java/lang/IndexOutOfBoundsException", kK_L_35, hL.2 _ (by simp)⟩)) rfl (by decide) kK_L_13 (fun U hU => zOL_c hL hU (c := 83) (by simp [zExc])) (fun e => ?_)
      refine g_lv (M := mL_setOut) [] rfl ?_
      refine g_astore (M := mL_setOut) (lv' := [(4, .ref e)]) dL_setOut_17 (Nat.le_of_ble_eq_true rfl) rfl ?_
      refine h_iconst (M := mL_setOut) dL_setOut_19 ?_
      exact g_iret (M := mL_setOut) dL_setOut_20 rfl (Nat.le_of_eq (Nat.zero_add _)) (Nat.le_of_eq (Nat.zero_add _)) ⟨A', hA', rfl, by rw [zKo_2 (by decide)]⟩
set_option maxHeartbeats 4000000 in
set_option maxRecDepth 100000 in
theorem wL_setChanges {X : zX} (hX : zOK X) (hL : zOL X) {A : Nat → Nat} {n : Nat} {S : Nat → va_E} {σ : CS} (bn : 91 ≤ n) {q : Nat} (hq : 91 ≤ q ∧ q < n) {f : Nat → Int64} (hS : S q = aL X 1 f) {a1 : Int} {res : CS × (Int ⊕ String)} (h : fX7_setChanges σ a1 = some res) (hE : ∀ E, res.2 = .inr E → E ∈ ["java/lang/IllegalArgumentException"]) : Con X yL_setChanges mL_setChanges 7 1 6 [.ref (A 0), .int (iI a1), .ref (A q)] (zWs A n (zSt X A σ S)) (zRA A (fun k => 1 ≤ k ∧ k < 91) (fun A' => (zWs A' n (zSt X A' res.1 (zLo X q f S res.2)))) (fun _ => .inl (some (.int (iI (zKo ["java/lang/IllegalArgumentException"] res.2)))))) := by
  refine con_ofH (lv := [(0, .ref (A 0)), (1, .int (iI a1)), (2, .ref (A q))]) (by decide) rfl (Nat.le_of_ble_eq_true rfl) rfl ?_
  change G X mL_setChanges _ _ _ _ _ _ _
  refine g_aload_n (M := mL_setChanges) dL_setChanges_0 2 rfl rfl ?_
  refine h_iconst (M := mL_setChanges) dL_setChanges_1 ?_
  refine g_aload_n (M := mL_setChanges) dL_setChanges_2 0 rfl rfl ?_
  refine g_iload_n (M := mL_setChanges) dL_setChanges_3 1 rfl rfl ?_
  obtain ⟨τ, r⟩ := res
  cases r with
  | inl v =>
    refine g_callVA (M := mL_setChanges) [.int (iI a1)] hX dL_setChanges_4 vX7_setChanges kM_L_135 (wX7_setChanges hX bn h) (fun _ => rfl) 0 (zWs_at (by omega) ((zSt_c 0 rfl (show σ 0 = (σ 0) from rfl))).o) rfl ⟨(Nat.le_of_ble_eq_true rfl), (Nat.le_of_ble_eq_true rfl)⟩ ⟨Nat.le_of_eq (Nat.zero_add _), Nat.le_of_eq (Nat.zero_add _)⟩ (Nat.le_of_ble_eq_true rfl) (fun A' hA' => ?_)
    have eq : A' q = A q := hA' q (fun z => absurd z.2 (Nat.not_lt.mpr hq.1))
    refine g_i2l (M := mL_setChanges) dL_setChanges_7 rfl ?_
    refine g_last (M := mL_setChanges) dL_setChanges_8 q (zo_at hq eq hS) (iI_in (by decide) (by decide) (by decide)) ?_
    refine g_ws (M := mL_setChanges) (zo_set hq.1 eq) ?_
    refine g_goto (M := mL_setChanges) (tgt := 15) dL_setChanges_9 (by decide) ?_
    refine g_lv (M := mL_setChanges) [] rfl ?_
    refine h_iconst (M := mL_setChanges) dL_setChanges_15 ?_
    exact g_iret (M := mL_setChanges) dL_setChanges_16 rfl (Nat.le_of_eq (Nat.zero_add _)) (Nat.le_of_eq (Nat.zero_add _)) ⟨A', hA', rfl, rfl⟩
  | inr E =>
    have hE1 : E = "java/lang/IllegalArgumentException" := List.mem_singleton.mp (hE E rfl)
    subst hE1
    refine g_callVAe (M := mL_setChanges) [.int (iI a1)] hX dL_setChanges_4 vX7_setChanges kM_L_135 (wX7_setChanges hX bn h) (fun _ => rfl) 0 (zWs_at (by omega) ((zSt_c 0 rfl (show σ 0 = (σ 0) from rfl))).o) rfl ⟨(Nat.le_of_ble_eq_true rfl), (Nat.le_of_ble_eq_true rfl)⟩ ⟨Nat.le_of_eq (Nat.zero_add _), Nat.le_of_eq (Nat.zero_add _)⟩ (Nat.le_of_ble_eq_true rfl) (fun A' hA' => ?_)
    refine gx_catch (M := mL_setChanges) [] (0, 9, 12, 19) [] rfl (fun z hz => by simp [tableOf] at hz) rfl (by decide) kK_L_19 (fun U hU => zOL_c hL hU (c := 94) (by simp [zExc])) (fun e => ?_)
    refine g_lv (M := mL_setChanges) [] rfl ?_
    refine g_astore_n (M := mL_setChanges) (i := 3) (lv' := [(3, .ref e)]) dL_setChanges_12 rfl (Nat.le_of_ble_eq_true rfl) rfl ?_
    refine h_iconst (M := mL_setChanges) dL_setChanges_13 ?_
    exact g_iret (M := mL_setChanges) dL_setChanges_14 rfl (Nat.le_of_eq (Nat.zero_add _)) (Nat.le_of_eq (Nat.zero_add _)) ⟨A', hA', rfl, by rw [zKo_1]⟩
set_option maxHeartbeats 4000000 in
set_option maxRecDepth 100000 in
theorem wL_reportByte {X : zX} (hX : zOK X) (hL : zOL X) {A : Nat → Nat} {n : Nat} {S : Nat → va_E} {σ : CS} (bn : 91 ≤ n) {q : Nat} (hq : 91 ≤ q ∧ q < n) {f : Nat → Int64} (hS : S q = aL X 1 f) {a1 : Int} {res : (Int ⊕ String)} (h : fX7_reportByte σ a1 = some res) (hE : ∀ E, res = .inr E → E ∈ ["java/lang/IndexOutOfBoundsException"]) : Con X yL_reportByte mL_reportByte 7 1 6 [.ref (A 0), .int (iI a1), .ref (A q)] (zWs A n (zSt X A σ S)) (zRA A (fun k => 1 ≤ k ∧ k < 91) (fun A' => (zWs A' n (zSt X A' σ (zLo X q f S res)))) (fun _ => .inl (some (.int (iI (zKo ["java/lang/IndexOutOfBoundsException"] res)))))) := by
  refine con_ofH (lv := [(0, .ref (A 0)), (1, .int (iI a1)), (2, .ref (A q))]) (by decide) rfl (Nat.le_of_ble_eq_true rfl) rfl ?_
  change G X mL_reportByte _ _ _ _ _ _ _
  refine g_aload_n (M := mL_reportByte) dL_reportByte_0 2 rfl rfl ?_
  refine h_iconst (M := mL_reportByte) dL_reportByte_1 ?_
  refine g_aload_n (M := mL_reportByte) dL_reportByte_2 0 rfl rfl ?_
  refine g_iload_n (M := mL_reportByte) dL_reportByte_3 1 rfl rfl ?_
  cases res with
  | inl v =>
    refine g_callVx (M := mL_reportByte) [.int (iI a1)] hX dL_reportByte_4 vX7_reportByte kM_L_138 (wX7_reportByte hX bn h) rfl 0 (zWs_at (by omega) ((zSt_c 0 rfl (show σ 0 = (σ 0) from rfl))).o) rfl ⟨(Nat.le_of_ble_eq_true rfl), (Nat.le_of_ble_eq_true rfl)⟩ ⟨Nat.le_of_eq (Nat.zero_add _), Nat.le_of_eq (Nat.zero_add _)⟩ (Nat.le_of_ble_eq_true rfl) ?_
    have eq : A q = A q := rfl
    refine g_i2l (M := mL_reportByte) dL_reportByte_7 rfl ?_
    refine g_last (M := mL_reportByte) dL_reportByte_8 q (zo_at hq eq hS) (iI_in (by decide) (by decide) (by decide)) ?_
    refine g_ws (M := mL_reportByte) (zo_set hq.1 eq) ?_
    refine g_goto (M := mL_reportByte) (tgt := 15) dL_reportByte_9 (by decide) ?_
    refine g_lv (M := mL_reportByte) [] rfl ?_
    refine h_iconst (M := mL_reportByte) dL_reportByte_15 ?_
    exact g_iret (M := mL_reportByte) dL_reportByte_16 rfl (Nat.le_of_eq (Nat.zero_add _)) (Nat.le_of_eq (Nat.zero_add _)) ⟨A, (fun _ _ => rfl), rfl, rfl⟩
  | inr E =>
    have hE1 : E = "java/lang/IndexOutOfBoundsException" := List.mem_singleton.mp (hE E rfl)
    subst hE1
    refine g_callVe (M := mL_reportByte) [.int (iI a1)] hX dL_reportByte_4 vX7_reportByte kM_L_138 (wX7_reportByte hX bn h) rfl 0 (zWs_at (by omega) ((zSt_c 0 rfl (show σ 0 = (σ 0) from rfl))).o) rfl ⟨(Nat.le_of_ble_eq_true rfl), (Nat.le_of_ble_eq_true rfl)⟩ ⟨Nat.le_of_eq (Nat.zero_add _), Nat.le_of_eq (Nat.zero_add _)⟩ (Nat.le_of_ble_eq_true rfl) ?_
    refine gx_catch (M := mL_reportByte) [] (0, 9, 12, 35) [] rfl (fun z hz => by simp [tableOf] at hz) rfl (by decide) kK_L_35 (fun U hU => zOL_c hL hU (c := 193) (by simp [zExc])) (fun e => ?_)
    refine g_lv (M := mL_reportByte) [] rfl ?_
    refine g_astore_n (M := mL_reportByte) (i := 3) (lv' := [(3, .ref e)]) dL_reportByte_12 rfl (Nat.le_of_ble_eq_true rfl) rfl ?_
    refine h_iconst (M := mL_reportByte) dL_reportByte_13 ?_
    exact g_iret (M := mL_reportByte) dL_reportByte_14 rfl (Nat.le_of_eq (Nat.zero_add _)) (Nat.le_of_eq (Nat.zero_add _)) ⟨A, (fun _ _ => rfl), rfl, by rw [zKo_1]⟩
set_option maxHeartbeats 4000000 in
set_option maxRecDepth 100000 in
theorem wL_restore {X : zX} (hX : zOK X) (hL : zOL X) {A : Nat → Nat} {n : Nat} {S : Nat → va_E} {σ : CS} (bn : 91 ≤ n) {q : Nat} (hq : 91 ≤ q ∧ q < n) {f : Nat → Int64} (hS : S q = aL X 1 f) {res : CS × (Int ⊕ String)} (h : fX7_restore σ  = some res) (hE : ∀ E, res.2 = .inr E → E ∈ ["java/lang/IllegalStateException"]) : Con X yL_restore mL_restore 7 1 6 [.ref (A 0), .ref (A q)] (zWs A n (zSt X A σ S)) (zRA A (fun k => 1 ≤ k ∧ k < 91) (fun A' => (zWs A' n (zSt X A' res.1 (zLo X q f S res.2)))) (fun _ => .inl (some (.int (iI (zKo ["java/lang/IllegalStateException"] res.2)))))) := by
  refine con_ofH (lv := [(0, .ref (A 0)), (1, .ref (A q))]) (by decide) rfl (Nat.le_of_ble_eq_true rfl) rfl ?_
  change G X mL_restore _ _ _ _ _ _ _
  refine g_aload_n (M := mL_restore) dL_restore_0 1 rfl rfl ?_
  refine h_iconst (M := mL_restore) dL_restore_1 ?_
  refine g_aload_n (M := mL_restore) dL_restore_2 0 rfl rfl ?_
  obtain ⟨τ, r⟩ := res
  cases r with
  | inl v =>
    refine g_callVA (M := mL_restore) [] hX dL_restore_3 vX7_restore kM_L_141 (wX7_restore hX bn h) (fun _ => rfl) 0 (zWs_at (by omega) ((zSt_c 0 rfl (show σ 0 = (σ 0) from rfl))).o) rfl ⟨(Nat.le_of_ble_eq_true rfl), (Nat.le_of_ble_eq_true rfl)⟩ ⟨Nat.le_of_eq (Nat.zero_add _), Nat.le_of_eq (Nat.zero_add _)⟩ (Nat.le_of_ble_eq_true rfl) (fun A' hA' => ?_)
    have eq : A' q = A q := hA' q (fun z => absurd z.2 (Nat.not_lt.mpr hq.1))
    refine g_i2l (M := mL_restore) dL_restore_6 rfl ?_
    refine g_last (M := mL_restore) dL_restore_7 q (zo_at hq eq hS) (iI_in (by decide) (by decide) (by decide)) ?_
    refine g_ws (M := mL_restore) (zo_set hq.1 eq) ?_
    refine g_goto (M := mL_restore) (tgt := 14) dL_restore_8 (by decide) ?_
    refine g_lv (M := mL_restore) [] rfl ?_
    refine h_iconst (M := mL_restore) dL_restore_14 ?_
    exact g_iret (M := mL_restore) dL_restore_15 rfl (Nat.le_of_eq (Nat.zero_add _)) (Nat.le_of_eq (Nat.zero_add _)) ⟨A', hA', rfl, rfl⟩
  | inr E =>
    have hE1 : E = "java/lang/IllegalStateException" := List.mem_singleton.mp (hE E rfl)
    subst hE1
    refine g_callVAe (M := mL_restore) [] hX dL_restore_3 vX7_restore kM_L_141 (wX7_restore hX bn h) (fun _ => rfl) 0 (zWs_at (by omega) ((zSt_c 0 rfl (show σ 0 = (σ 0) from rfl))).o) rfl ⟨(Nat.le_of_ble_eq_true rfl), (Nat.le_of_ble_eq_true rfl)⟩ ⟨Nat.le_of_eq (Nat.zero_add _), Nat.le_of_eq (Nat.zero_add _)⟩ (Nat.le_of_ble_eq_true rfl) (fun A' hA' => ?_)
    refine gx_catch (M := mL_restore) [] (0, 8, 11, 13) [] rfl (fun z hz => by simp [tableOf] at hz) rfl (by decide) kK_L_13 (fun U hU => zOL_c hL hU (c := 83) (by simp [zExc])) (fun e => ?_)
    refine g_lv (M := mL_restore) [] rfl ?_
    refine g_astore_n (M := mL_restore) (i := 2) (lv' := [(2, .ref e)]) dL_restore_11 rfl (Nat.le_of_ble_eq_true rfl) rfl ?_
    refine h_iconst (M := mL_restore) dL_restore_12 ?_
    exact g_iret (M := mL_restore) dL_restore_13 rfl (Nat.le_of_eq (Nat.zero_add _)) (Nat.le_of_eq (Nat.zero_add _)) ⟨A', hA', rfl, by rw [zKo_1]⟩
