def gGr (G : gG) (a0 n : Nat) (E : Nat → va_E) (ex : List Nat) (H : Heap) : Prop := ∀ k, k < n → k ∉ ex → gC G (a0 + k) (E k) H
theorem gGr_k {G : gG} {a0 n : Nat} {E : Nat → va_E} {ex : List Nat} {H H1 : Heap} (h : gGr G a0 n E ex H) (hk : ∀ q : Nat, G.1 + a0 ≤ q → q < G.1 + (a0 + n) → (∀ k ∈ ex, q ≠ G.1 + (a0 + k)) → H1[q]? = H[q]?) : gGr G a0 n E ex H1 := fun k h1 h2 => gC_k (h k h1 h2) (hk _ (by omega) (by omega) (fun j hj e => by
  have : k = j := by omega
  subst this
  exact h2 hj))
theorem gGr_0 {G : gG} {a0 : Nat} {E : Nat → va_E} {ex : List Nat} {H : Heap} : gGr G a0 0 E ex H := fun k h => absurd h (Nat.not_lt_zero k)
theorem gGr_s {G : gG} {a0 n : Nat} {E : Nat → va_E} {ex : List Nat} {H : Heap} (h : gGr G a0 n E ex H) (hn : gC G (a0 + n) (E n) H) : gGr G a0 (n + 1) E ex H := fun k h1 h2 => by
  rcases Nat.lt_or_ge k n with q | q
  · exact h k q h2
  · have : k = n := by omega
    subst this
    exact hn
theorem gGr_ex {G : gG} {a0 n : Nat} {E : Nat → va_E} (ex : List Nat) {H : Heap} (h : gGr G a0 n E [] H) : gGr G a0 n E ex H := fun k h1 _ => h k h1 List.not_mem_nil
theorem gup {g : Nat → Nat} (i : Nat) : va_up (fun k => if k < i then some (g k) else none) i (some (g i)) = fun k => if k < i + 1 then some (g k) else none := by
  funext k
  unfold va_up
  by_cases h : k = i
  · subst h
    simp
  · by_cases h2 : k < i
    · simp [h, h2, show k < i + 1 by omega]
    · simp [h, h2, show ¬ k < i + 1 by omega]
theorem gup0 {g : Nat → Nat} : (fun _ => none : Nat → Option Nat) = fun k => if k < 0 then some (g k) else none := by
  funext k
  simp
def eX1 (_ : Nat) : va_E := .inr (3, [.int 0, .int 0, .int 0, .int 0, .int 0, .int 0, .int 0])
theorem gCA_up {G : gG} {p0 z0 p1 z1 q : Nat} (h1 : z0 ≤ p1) (h2 : z0 ≤ z1) (h : gCA G p1 z1 q) : gCA G p0 z0 q := by
  rcases h with h | h
  · exact Or.inr (by rw [h]; omega)
  · exact Or.inr (by omega)
def C_X0_init (G : gG) (p0 z0 : Nat) (v1 : Int) (v2 : Int) (H : Heap) : Prop := gC G (p0) (.inr (0, [.int (iI v1), .int (iI v2), .int (iI ((-1))), .int 0, .int 0, .int 0, .int 0, .int 0])) H
theorem C_X0_init_k {G : gG} {p0 z0 : Nat} {v1 : Int} {v2 : Int} {H H1 : Heap} (h : C_X0_init G p0 z0 v1 v2 H) (hk : ∀ q : Nat, (q = G.1 + p0 ∨ (G.1 + z0 ≤ q ∧ q < G.1 + (z0 + 0))) → H1[q]? = H[q]?) : C_X0_init G p0 z0 v1 v2 H1 := by
  exact gC_k h (hk _ (by omega))
set_option maxRecDepth 20000 in
set_option maxHeartbeats 4000000 in
theorem m_X0_init (l : Launch) (G : gG) (p0 z0 : Nat) (v1 : Int) (nv1 : nmI v1) (v2 : Int) (nv2 : nmI v2) (hpz : p0 < z0) : gCMet l yX0_init cX0_init 3 1 20 0 0 G p0 z0 0 [.ref (G.1 + (p0)), .int (iI v1), .int (iI v2)] (fun H => gC G p0 (.inr (0, [.int 0, .int 0, .int 0, .int 0, .int 0, .int 0, .int 0, .int 0])) H) (fun H => C_X0_init G p0 z0 v1 v2 H) := by
  refine gOfC (by decide) (by show _ ≤ 3; exact Nat.le_of_ble_eq_true rfl) rfl rfl ?_
  intro p e s m below meth c X hini ho hz ls hl
  have hS : va_S (gCA G p0 z0) s.heap s.heap [] := va_S.rf
  generalize hargs : ([.ref (G.1 + (p0)), .int (iI v1), .int (iI v2)] : List Value).toArray = args at X ⊢
  clear hargs
  replace hl : gLv ls 3 [(0, .ref (G.1 + (p0))), (1, .int (iI v1)), (2, .int (iI v2))] := hl
  refine lv_aload_n X.1 X.2.1 dX0_init_0 rfl (lv_at hl.1 0 rfl) ?_
  refine c_obj X k_138 k_56 k_57 hl dX0_init_1 (by decide) (by decide) ?_
  refine lv_aload_n X.1 X.2.1 dX0_init_4 rfl (lv_at hl.1 0 rfl) ?_
  refine lv_iconst X.1 X.2.1 dX0_init_5 (v := iI (-1)) rfl ?_
  refine c_put X cX0 ho (Or.inl rfl) hS 2 (by decide) k_143 rfl rfl (tk := .int) (by decide +kernel) (v := .int (iI ((-1)))) rfl rfl (Nat.le_of_ble_eq_true rfl) dX0_init_6 ?_
  clear hS ho
  intro H locs ho hz9 hk hS
  replace ho : gC G (p0) (.inr (0, [.int 0, .int 0, .int (iI ((-1))), .int 0, .int 0, .int 0, .int 0, .int 0])) H := ho
  rw [← hz9] at hz; clear hz9 hk
  refine lv_aload_n X.1 X.2.1 dX0_init_9 rfl (lv_at hl.1 0 rfl) ?_
  refine lv_iload_n X.1 X.2.1 dX0_init_10 rfl (lv_at hl.1 1 rfl) ?_
  refine c_putF X hini cX0 ho (Or.inl rfl) hS 0 (by decide) k_139 rfl rfl rfl (tk := .int) (by decide +kernel) (v := .int (iI v1)) rfl rfl (Nat.le_of_ble_eq_true rfl) dX0_init_11 ?_
  clear hS ho
  intro H locs ho hz9 hk hS
  replace ho : gC G (p0) (.inr (0, [.int (iI v1), .int 0, .int (iI ((-1))), .int 0, .int 0, .int 0, .int 0, .int 0])) H := ho
  rw [← hz9] at hz; clear hz9 hk
  refine lv_aload_n X.1 X.2.1 dX0_init_14 rfl (lv_at hl.1 0 rfl) ?_
  refine lv_iload_n X.1 X.2.1 dX0_init_15 rfl (lv_at hl.1 2 rfl) ?_
  refine c_putF X hini cX0 ho (Or.inl rfl) hS 1 (by decide) k_141 rfl rfl rfl (tk := .int) (by decide +kernel) (v := .int (iI v2)) rfl rfl (Nat.le_of_ble_eq_true rfl) dX0_init_16 ?_
  clear hS ho
  intro H locs ho hz9 hk hS
  replace ho : gC G (p0) (.inr (0, [.int (iI v1), .int (iI v2), .int (iI ((-1))), .int 0, .int 0, .int 0, .int 0, .int 0])) H := ho
  rw [← hz9] at hz; clear hz9 hk
  exact c_vret X (Post := fun H => C_X0_init G p0 z0 v1 v2 H) ho hz hS ⟨Nat.le_of_ble_eq_true rfl, Nat.le_of_ble_eq_true rfl⟩ dX0_init_19
def C_X3_init (G : gG) (p0 z0 : Nat) (H : Heap) : Prop := gC G (p0) (.inr (3, [.int 0, .int 0, .int 0, .int 0, .int 0, .int 0, .int 0])) H
theorem C_X3_init_k {G : gG} {p0 z0 : Nat} {H H1 : Heap} (h : C_X3_init G p0 z0 H) (hk : ∀ q : Nat, (q = G.1 + p0 ∨ (G.1 + z0 ≤ q ∧ q < G.1 + (z0 + 0))) → H1[q]? = H[q]?) : C_X3_init G p0 z0 H1 := by
  exact gC_k h (hk _ (by omega))
set_option maxRecDepth 20000 in
set_option maxHeartbeats 4000000 in
theorem m_X3_init (l : Launch) (G : gG) (p0 z0 : Nat) (hpz : p0 < z0) : gCMet l yX3_init cX3_init 1 1 20 0 0 G p0 z0 0 [.ref (G.1 + (p0))] (fun H => gC G p0 (.inr (3, [.int 0, .int 0, .int 0, .int 0, .int 0, .int 0, .int 0])) H) (fun H => C_X3_init G p0 z0 H) := by
  refine gOfC (by decide) (by show _ ≤ 1; exact Nat.le_of_ble_eq_true rfl) rfl rfl ?_
  intro p e s m below meth c X hini ho hz ls hl
  have hS : va_S (gCA G p0 z0) s.heap s.heap [] := va_S.rf
  generalize hargs : ([.ref (G.1 + (p0))] : List Value).toArray = args at X ⊢
  clear hargs
  replace hl : gLv ls 1 [(0, .ref (G.1 + (p0)))] := hl
  refine lv_aload_n X.1 X.2.1 dX3_init_0 rfl (lv_at hl.1 0 rfl) ?_
  refine c_obj X k_279 k_56 k_57 hl dX3_init_1 (by decide) (by decide) ?_
  exact c_vret X (Post := fun H => C_X3_init G p0 z0 H) ho hz hS ⟨Nat.le_of_ble_eq_true rfl, Nat.le_of_ble_eq_true rfl⟩ dX3_init_4
def C_X10_init (G : gG) (p0 z0 : Nat) (v1 : Int) (v2 : Int) (H : Heap) : Prop := gC G (p0) (.inr (10, [.int (iI v1), .int (iI v2), .int (iI ((-1))), .null, .int 0, .int 0, .int 0, .int 0])) H
theorem C_X10_init_k {G : gG} {p0 z0 : Nat} {v1 : Int} {v2 : Int} {H H1 : Heap} (h : C_X10_init G p0 z0 v1 v2 H) (hk : ∀ q : Nat, (q = G.1 + p0 ∨ (G.1 + z0 ≤ q ∧ q < G.1 + (z0 + 0))) → H1[q]? = H[q]?) : C_X10_init G p0 z0 v1 v2 H1 := by
  exact gC_k h (hk _ (by omega))
set_option maxRecDepth 20000 in
set_option maxHeartbeats 4000000 in
theorem m_X10_init (l : Launch) (G : gG) (p0 z0 : Nat) (v1 : Int) (nv1 : nmI v1) (v2 : Int) (nv2 : nmI v2) (hpz : p0 < z0) : gCMet l yX10_init cX10_init 3 1 20 0 0 G p0 z0 0 [.ref (G.1 + (p0)), .int (iI v1), .int (iI v2)] (fun H => gC G p0 (.inr (10, [.int 0, .int 0, .int 0, .null, .int 0, .int 0, .int 0, .int 0])) H) (fun H => C_X10_init G p0 z0 v1 v2 H) := by
  refine gOfC (by decide) (by show _ ≤ 3; exact Nat.le_of_ble_eq_true rfl) rfl rfl ?_
  intro p e s m below meth c X hini ho hz ls hl
  have hS : va_S (gCA G p0 z0) s.heap s.heap [] := va_S.rf
  generalize hargs : ([.ref (G.1 + (p0)), .int (iI v1), .int (iI v2)] : List Value).toArray = args at X ⊢
  clear hargs
  replace hl : gLv ls 3 [(0, .ref (G.1 + (p0))), (1, .int (iI v1)), (2, .int (iI v2))] := hl
  refine lv_aload_n X.1 X.2.1 dX10_init_0 rfl (lv_at hl.1 0 rfl) ?_
  refine c_obj X k_347 k_56 k_57 hl dX10_init_1 (by decide) (by decide) ?_
  refine lv_aload_n X.1 X.2.1 dX10_init_4 rfl (lv_at hl.1 0 rfl) ?_
  refine lv_iconst X.1 X.2.1 dX10_init_5 (v := iI (-1)) rfl ?_
  refine c_put X cX10 ho (Or.inl rfl) hS 2 (by decide) k_353 rfl rfl (tk := .int) (by decide +kernel) (v := .int (iI ((-1)))) rfl rfl (Nat.le_of_ble_eq_true rfl) dX10_init_6 ?_
  clear hS ho
  intro H locs ho hz9 hk hS
  replace ho : gC G (p0) (.inr (10, [.int 0, .int 0, .int (iI ((-1))), .null, .int 0, .int 0, .int 0, .int 0])) H := ho
  rw [← hz9] at hz; clear hz9 hk
  refine lv_aload_n X.1 X.2.1 dX10_init_9 rfl (lv_at hl.1 0 rfl) ?_
  refine lv_iload_n X.1 X.2.1 dX10_init_10 rfl (lv_at hl.1 1 rfl) ?_
  refine c_putF X hini cX10 ho (Or.inl rfl) hS 0 (by decide) k_348 rfl rfl rfl (tk := .int) (by decide +kernel) (v := .int (iI v1)) rfl rfl (Nat.le_of_ble_eq_true rfl) dX10_init_11 ?_
  clear hS ho
  intro H locs ho hz9 hk hS
  replace ho : gC G (p0) (.inr (10, [.int (iI v1), .int 0, .int (iI ((-1))), .null, .int 0, .int 0, .int 0, .int 0])) H := ho
  rw [← hz9] at hz; clear hz9 hk
  refine lv_aload_n X.1 X.2.1 dX10_init_14 rfl (lv_at hl.1 0 rfl) ?_
  refine lv_iload_n X.1 X.2.1 dX10_init_15 rfl (lv_at hl.1 2 rfl) ?_
  refine c_put X cX10 ho (Or.inl rfl) hS 1 (by decide) k_350 rfl rfl (tk := .int) (by decide +kernel) (v := .int (iI v2)) rfl rfl (Nat.le_of_ble_eq_true rfl) dX10_init_16 ?_
  clear hS ho
  intro H locs ho hz9 hk hS
  replace ho : gC G (p0) (.inr (10, [.int (iI v1), .int (iI v2), .int (iI ((-1))), .null, .int 0, .int 0, .int 0, .int 0])) H := ho
  rw [← hz9] at hz; clear hz9 hk
  exact c_vret X (Post := fun H => C_X10_init G p0 z0 v1 v2 H) ho hz hS ⟨Nat.le_of_ble_eq_true rfl, Nat.le_of_ble_eq_true rfl⟩ dX10_init_19
def C_X6_init (G : gG) (p0 z0 : Nat) (s1 : Nat) (H : Heap) : Prop := gC G (p0) (.inr (6, [.ref (G.1 + (s1)), .ref (G.1 + (z0)), .ref (G.1 + (z0 + 1)), .ref (G.1 + (z0 + 2)), .ref (G.1 + (z0 + 3)), .int 0])) H ∧ gC G (z0) (.inl (G.2.2 0, 4, .inl (fun _ => 0))) H ∧ gC G (z0 + 1) (.inl (G.2.2 0, 4, .inl (fun _ => 0))) H ∧ gC G (z0 + 2) (.inl (G.2.2 0, 4, .inl (fun _ => 0))) H ∧ gC G (z0 + 3) (.inl (G.2.2 0, 4, .inl (fun _ => 0))) H
theorem C_X6_init_k {G : gG} {p0 z0 : Nat} {s1 : Nat} {H H1 : Heap} (h : C_X6_init G p0 z0 s1 H) (hk : ∀ q : Nat, (q = G.1 + p0 ∨ (G.1 + z0 ≤ q ∧ q < G.1 + (z0 + 4))) → H1[q]? = H[q]?) : C_X6_init G p0 z0 s1 H1 := by
  obtain ⟨h0, h1, h2, h3, h4⟩ := h
  exact ⟨gC_k h0 (hk _ (by omega)), gC_k h1 (hk _ (by omega)), gC_k h2 (hk _ (by omega)), gC_k h3 (hk _ (by omega)), gC_k h4 (hk _ (by omega))⟩
set_option maxRecDepth 20000 in
set_option maxHeartbeats 4000000 in
theorem m_X6_init (l : Launch) (G : gG) (p0 z0 : Nat) (s1 : Nat) (hpz : p0 < z0) : gCMet l yX6_init cX6_init 2 1 20 4 16 G p0 z0 4 [.ref (G.1 + (p0)), .ref (G.1 + (s1))] (fun H => gC G p0 (.inr (6, [.null, .null, .null, .null, .null, .int 0])) H) (fun H => C_X6_init G p0 z0 s1 H) := by
  refine gOfC (by decide) (by show _ ≤ 2; exact Nat.le_of_ble_eq_true rfl) rfl rfl ?_
  intro p e s m below meth c X hini ho hz ls hl
  have hS : va_S (gCA G p0 z0) s.heap s.heap [] := va_S.rf
  generalize hargs : ([.ref (G.1 + (p0)), .ref (G.1 + (s1))] : List Value).toArray = args at X ⊢
  clear hargs
  replace hl : gLv ls 2 [(0, .ref (G.1 + (p0))), (1, .ref (G.1 + (s1)))] := hl
  refine lv_aload_n X.1 X.2.1 dX6_init_0 rfl (lv_at hl.1 0 rfl) ?_
  refine c_obj X k_110 k_56 k_57 hl dX6_init_1 (by decide) (by decide) ?_
  refine lv_aload_n X.1 X.2.1 dX6_init_4 rfl (lv_at hl.1 0 rfl) ?_
  refine lv_iconst X.1 X.2.1 dX6_init_5 (v := iI 4) rfl ?_
  refine c_newa X (t0 := 0) k_89 rfl rfl (fun cA h1 h2 => gRA_eq h1 h2) hz hS (a0 := (4, .inl (fun _ => 0))) (fun _ => rfl) (by decide) (N' := 4) (by decide) (by decide) (Nat.le_of_ble_eq_true rfl) (Nat.le_of_ble_eq_true rfl) dX6_init_6 ?_
  clear hS
  intro H hn0 hz9 hk hS
  replace ho := gC_k ho (hk _ (by omega))
  replace hz : H.size = G.1 + (z0 + 1) := hz9.trans (by omega)
  clear hz9 hk
  refine c_putF X hini cX6 ho (Or.inl rfl) hS 1 (by decide) k_112 rfl rfl rfl (tk := (.array .int)) (by decide +kernel) (v := .ref (G.1 + (z0))) rfl rfl (Nat.le_of_ble_eq_true rfl) dX6_init_8 ?_
  clear hS ho
  intro H locs ho hz9 hk hS
  replace ho : gC G (p0) (.inr (6, [.null, .ref (G.1 + (z0)), .null, .null, .null, .int 0])) H := ho
  replace hn0 := gC_k hn0 (hk _ (by omega))
  rw [← hz9] at hz; clear hz9 hk
  refine lv_aload_n X.1 X.2.1 dX6_init_11 rfl (lv_at hl.1 0 rfl) ?_
  refine lv_iconst X.1 X.2.1 dX6_init_12 (v := iI 4) rfl ?_
  refine c_newa X (t0 := 0) k_89 rfl rfl (fun cA h1 h2 => gRA_eq h1 h2) hz hS (a0 := (4, .inl (fun _ => 0))) (fun _ => rfl) (by decide) (N' := 4) (by decide) (by decide) (Nat.le_of_ble_eq_true rfl) (Nat.le_of_ble_eq_true rfl) dX6_init_13 ?_
  clear hS
  intro H hn1 hz9 hk hS
  replace ho := gC_k ho (hk _ (by omega))
  replace hn0 := gC_k hn0 (hk _ (by omega))
  replace hz : H.size = G.1 + (z0 + 2) := hz9.trans (by omega)
  clear hz9 hk
  refine c_putF X hini cX6 ho (Or.inl rfl) hS 2 (by decide) k_113 rfl rfl rfl (tk := (.array .int)) (by decide +kernel) (v := .ref (G.1 + (z0 + 1))) rfl rfl (Nat.le_of_ble_eq_true rfl) dX6_init_15 ?_
  clear hS ho
  intro H locs ho hz9 hk hS
  replace ho : gC G (p0) (.inr (6, [.null, .ref (G.1 + (z0)), .ref (G.1 + (z0 + 1)), .null, .null, .int 0])) H := ho
  replace hn0 := gC_k hn0 (hk _ (by omega))
  replace hn1 := gC_k hn1 (hk _ (by omega))
  rw [← hz9] at hz; clear hz9 hk
  refine lv_aload_n X.1 X.2.1 dX6_init_18 rfl (lv_at hl.1 0 rfl) ?_
  refine lv_iconst X.1 X.2.1 dX6_init_19 (v := iI 4) rfl ?_
  refine c_newa X (t0 := 0) k_89 rfl rfl (fun cA h1 h2 => gRA_eq h1 h2) hz hS (a0 := (4, .inl (fun _ => 0))) (fun _ => rfl) (by decide) (N' := 4) (by decide) (by decide) (Nat.le_of_ble_eq_true rfl) (Nat.le_of_ble_eq_true rfl) dX6_init_20 ?_
  clear hS
  intro H hn2 hz9 hk hS
  replace ho := gC_k ho (hk _ (by omega))
  replace hn0 := gC_k hn0 (hk _ (by omega))
  replace hn1 := gC_k hn1 (hk _ (by omega))
  replace hz : H.size = G.1 + (z0 + 3) := hz9.trans (by omega)
  clear hz9 hk
  refine c_putF X hini cX6 ho (Or.inl rfl) hS 3 (by decide) k_114 rfl rfl rfl (tk := (.array .int)) (by decide +kernel) (v := .ref (G.1 + (z0 + 2))) rfl rfl (Nat.le_of_ble_eq_true rfl) dX6_init_22 ?_
  clear hS ho
  intro H locs ho hz9 hk hS
  replace ho : gC G (p0) (.inr (6, [.null, .ref (G.1 + (z0)), .ref (G.1 + (z0 + 1)), .ref (G.1 + (z0 + 2)), .null, .int 0])) H := ho
  replace hn0 := gC_k hn0 (hk _ (by omega))
  replace hn1 := gC_k hn1 (hk _ (by omega))
  replace hn2 := gC_k hn2 (hk _ (by omega))
  rw [← hz9] at hz; clear hz9 hk
  refine lv_aload_n X.1 X.2.1 dX6_init_25 rfl (lv_at hl.1 0 rfl) ?_
  refine lv_iconst X.1 X.2.1 dX6_init_26 (v := iI 4) rfl ?_
  refine c_newa X (t0 := 0) k_89 rfl rfl (fun cA h1 h2 => gRA_eq h1 h2) hz hS (a0 := (4, .inl (fun _ => 0))) (fun _ => rfl) (by decide) (N' := 4) (by decide) (by decide) (Nat.le_of_ble_eq_true rfl) (Nat.le_of_ble_eq_true rfl) dX6_init_27 ?_
  clear hS
  intro H hn3 hz9 hk hS
  replace ho := gC_k ho (hk _ (by omega))
  replace hn0 := gC_k hn0 (hk _ (by omega))
  replace hn1 := gC_k hn1 (hk _ (by omega))
  replace hn2 := gC_k hn2 (hk _ (by omega))
  replace hz : H.size = G.1 + (z0 + 4) := hz9.trans (by omega)
  clear hz9 hk
  refine c_putF X hini cX6 ho (Or.inl rfl) hS 4 (by decide) k_115 rfl rfl rfl (tk := (.array .int)) (by decide +kernel) (v := .ref (G.1 + (z0 + 3))) rfl rfl (Nat.le_of_ble_eq_true rfl) dX6_init_29 ?_
  clear hS ho
  intro H locs ho hz9 hk hS
  replace ho : gC G (p0) (.inr (6, [.null, .ref (G.1 + (z0)), .ref (G.1 + (z0 + 1)), .ref (G.1 + (z0 + 2)), .ref (G.1 + (z0 + 3)), .int 0])) H := ho
  replace hn0 := gC_k hn0 (hk _ (by omega))
  replace hn1 := gC_k hn1 (hk _ (by omega))
  replace hn2 := gC_k hn2 (hk _ (by omega))
  replace hn3 := gC_k hn3 (hk _ (by omega))
  rw [← hz9] at hz; clear hz9 hk
  refine lv_aload_n X.1 X.2.1 dX6_init_32 rfl (lv_at hl.1 0 rfl) ?_
  refine lv_aload_n X.1 X.2.1 dX6_init_33 rfl (lv_at hl.1 1 rfl) ?_
  refine c_putF X hini cX6 ho (Or.inl rfl) hS 0 (by decide) k_111 rfl rfl rfl (tk := (.array .int)) (by decide +kernel) (v := .ref (G.1 + (s1))) rfl rfl (Nat.le_of_ble_eq_true rfl) dX6_init_34 ?_
  clear hS ho
  intro H locs ho hz9 hk hS
  replace ho : gC G (p0) (.inr (6, [.ref (G.1 + (s1)), .ref (G.1 + (z0)), .ref (G.1 + (z0 + 1)), .ref (G.1 + (z0 + 2)), .ref (G.1 + (z0 + 3)), .int 0])) H := ho
  replace hn0 := gC_k hn0 (hk _ (by omega))
  replace hn1 := gC_k hn1 (hk _ (by omega))
  replace hn2 := gC_k hn2 (hk _ (by omega))
  replace hn3 := gC_k hn3 (hk _ (by omega))
  rw [← hz9] at hz; clear hz9 hk
  exact c_vret X (Post := fun H => C_X6_init G p0 z0 s1 H) ⟨ho, hn0, hn1, hn2, hn3⟩ hz hS ⟨Nat.le_of_ble_eq_true rfl, Nat.le_of_ble_eq_true rfl⟩ dX6_init_37
def C_X7_init (G : gG) (p0 z0 : Nat) (H : Heap) : Prop := gC G (p0) (.inr (7, [.ref (G.1 + (z0)), .ref (G.1 + (z0 + 1)), .ref (G.1 + (z0 + 2)), .ref (G.1 + (z0 + 3)), .ref (G.1 + (z0 + 4)), .int 0])) H ∧ gC G (z0) (.inl (G.2.2 0, 16, .inl (fun _ => 0))) H ∧ gC G (z0 + 1) (.inl (G.2.2 0, 4, .inl (fun _ => 0))) H ∧ gC G (z0 + 2) (.inl (G.2.2 0, 4, .inl (fun _ => 0))) H ∧ gC G (z0 + 3) (.inl (G.2.2 0, 30, .inl (fun _ => 0))) H ∧ gC G (z0 + 4) (.inl (G.2.2 0, 30, .inl (fun _ => 0))) H
theorem C_X7_init_k {G : gG} {p0 z0 : Nat} {H H1 : Heap} (h : C_X7_init G p0 z0 H) (hk : ∀ q : Nat, (q = G.1 + p0 ∨ (G.1 + z0 ≤ q ∧ q < G.1 + (z0 + 5))) → H1[q]? = H[q]?) : C_X7_init G p0 z0 H1 := by
  obtain ⟨h0, h1, h2, h3, h4, h5⟩ := h
  exact ⟨gC_k h0 (hk _ (by omega)), gC_k h1 (hk _ (by omega)), gC_k h2 (hk _ (by omega)), gC_k h3 (hk _ (by omega)), gC_k h4 (hk _ (by omega)), gC_k h5 (hk _ (by omega))⟩
set_option maxRecDepth 20000 in
set_option maxHeartbeats 4000000 in
theorem m_X7_init (l : Launch) (G : gG) (p0 z0 : Nat) (hpz : p0 < z0) : gCMet l yX7_init cX7_init 1 1 20 5 84 G p0 z0 5 [.ref (G.1 + (p0))] (fun H => gC G p0 (.inr (7, [.null, .null, .null, .null, .null, .int 0])) H) (fun H => C_X7_init G p0 z0 H) := by
  refine gOfC (by decide) (by show _ ≤ 1; exact Nat.le_of_ble_eq_true rfl) rfl rfl ?_
  intro p e s m below meth c X hini ho hz ls hl
  have hS : va_S (gCA G p0 z0) s.heap s.heap [] := va_S.rf
  generalize hargs : ([.ref (G.1 + (p0))] : List Value).toArray = args at X ⊢
  clear hargs
  replace hl : gLv ls 1 [(0, .ref (G.1 + (p0)))] := hl
  refine lv_aload_n X.1 X.2.1 dX7_init_0 rfl (lv_at hl.1 0 rfl) ?_
  refine c_obj X k_63 k_56 k_57 hl dX7_init_1 (by decide) (by decide) ?_
  refine lv_aload_n X.1 X.2.1 dX7_init_4 rfl (lv_at hl.1 0 rfl) ?_
  refine lv_bipush X.1 X.2.1 dX7_init_5 (v := iI 16) (by decide) ?_
  refine c_newa X (t0 := 0) k_89 rfl rfl (fun cA h1 h2 => gRA_eq h1 h2) hz hS (a0 := (16, .inl (fun _ => 0))) (fun _ => rfl) (by decide) (N' := 16) (by decide) (by decide) (Nat.le_of_ble_eq_true rfl) (Nat.le_of_ble_eq_true rfl) dX7_init_7 ?_
  clear hS
  intro H hn0 hz9 hk hS
  replace ho := gC_k ho (hk _ (by omega))
  replace hz : H.size = G.1 + (z0 + 1) := hz9.trans (by omega)
  clear hz9 hk
  refine c_putF X hini cX7 ho (Or.inl rfl) hS 0 (by decide) k_64 rfl rfl rfl (tk := (.array .int)) (by decide +kernel) (v := .ref (G.1 + (z0))) rfl rfl (Nat.le_of_ble_eq_true rfl) dX7_init_9 ?_
  clear hS ho
  intro H locs ho hz9 hk hS
  replace ho : gC G (p0) (.inr (7, [.ref (G.1 + (z0)), .null, .null, .null, .null, .int 0])) H := ho
  replace hn0 := gC_k hn0 (hk _ (by omega))
  rw [← hz9] at hz; clear hz9 hk
  refine lv_aload_n X.1 X.2.1 dX7_init_12 rfl (lv_at hl.1 0 rfl) ?_
  refine lv_iconst X.1 X.2.1 dX7_init_13 (v := iI 4) rfl ?_
  refine c_newa X (t0 := 0) k_89 rfl rfl (fun cA h1 h2 => gRA_eq h1 h2) hz hS (a0 := (4, .inl (fun _ => 0))) (fun _ => rfl) (by decide) (N' := 4) (by decide) (by decide) (Nat.le_of_ble_eq_true rfl) (Nat.le_of_ble_eq_true rfl) dX7_init_14 ?_
  clear hS
  intro H hn1 hz9 hk hS
  replace ho := gC_k ho (hk _ (by omega))
  replace hn0 := gC_k hn0 (hk _ (by omega))
  replace hz : H.size = G.1 + (z0 + 2) := hz9.trans (by omega)
  clear hz9 hk
  refine c_putF X hini cX7 ho (Or.inl rfl) hS 1 (by decide) k_66 rfl rfl rfl (tk := (.array .int)) (by decide +kernel) (v := .ref (G.1 + (z0 + 1))) rfl rfl (Nat.le_of_ble_eq_true rfl) dX7_init_16 ?_
  clear hS ho
  intro H locs ho hz9 hk hS
  replace ho : gC G (p0) (.inr (7, [.ref (G.1 + (z0)), .ref (G.1 + (z0 + 1)), .null, .null, .null, .int 0])) H := ho
  replace hn0 := gC_k hn0 (hk _ (by omega))
  replace hn1 := gC_k hn1 (hk _ (by omega))
  rw [← hz9] at hz; clear hz9 hk
  refine lv_aload_n X.1 X.2.1 dX7_init_19 rfl (lv_at hl.1 0 rfl) ?_
  refine lv_iconst X.1 X.2.1 dX7_init_20 (v := iI 4) rfl ?_
  refine c_newa X (t0 := 0) k_89 rfl rfl (fun cA h1 h2 => gRA_eq h1 h2) hz hS (a0 := (4, .inl (fun _ => 0))) (fun _ => rfl) (by decide) (N' := 4) (by decide) (by decide) (Nat.le_of_ble_eq_true rfl) (Nat.le_of_ble_eq_true rfl) dX7_init_21 ?_
  clear hS
  intro H hn2 hz9 hk hS
  replace ho := gC_k ho (hk _ (by omega))
  replace hn0 := gC_k hn0 (hk _ (by omega))
  replace hn1 := gC_k hn1 (hk _ (by omega))
  replace hz : H.size = G.1 + (z0 + 3) := hz9.trans (by omega)
  clear hz9 hk
  refine c_putF X hini cX7 ho (Or.inl rfl) hS 2 (by decide) k_69 rfl rfl rfl (tk := (.array .int)) (by decide +kernel) (v := .ref (G.1 + (z0 + 2))) rfl rfl (Nat.le_of_ble_eq_true rfl) dX7_init_23 ?_
  clear hS ho
  intro H locs ho hz9 hk hS
  replace ho : gC G (p0) (.inr (7, [.ref (G.1 + (z0)), .ref (G.1 + (z0 + 1)), .ref (G.1 + (z0 + 2)), .null, .null, .int 0])) H := ho
  replace hn0 := gC_k hn0 (hk _ (by omega))
  replace hn1 := gC_k hn1 (hk _ (by omega))
  replace hn2 := gC_k hn2 (hk _ (by omega))
  rw [← hz9] at hz; clear hz9 hk
  refine lv_aload_n X.1 X.2.1 dX7_init_26 rfl (lv_at hl.1 0 rfl) ?_
  refine lv_bipush X.1 X.2.1 dX7_init_27 (v := iI 30) (by decide) ?_
  refine c_newa X (t0 := 0) k_89 rfl rfl (fun cA h1 h2 => gRA_eq h1 h2) hz hS (a0 := (30, .inl (fun _ => 0))) (fun _ => rfl) (by decide) (N' := 30) (by decide) (by decide) (Nat.le_of_ble_eq_true rfl) (Nat.le_of_ble_eq_true rfl) dX7_init_29 ?_
  clear hS
  intro H hn3 hz9 hk hS
  replace ho := gC_k ho (hk _ (by omega))
  replace hn0 := gC_k hn0 (hk _ (by omega))
  replace hn1 := gC_k hn1 (hk _ (by omega))
  replace hn2 := gC_k hn2 (hk _ (by omega))
  replace hz : H.size = G.1 + (z0 + 4) := hz9.trans (by omega)
  clear hz9 hk
  refine c_putF X hini cX7 ho (Or.inl rfl) hS 3 (by decide) k_71 rfl rfl rfl (tk := (.array .int)) (by decide +kernel) (v := .ref (G.1 + (z0 + 3))) rfl rfl (Nat.le_of_ble_eq_true rfl) dX7_init_31 ?_
  clear hS ho
  intro H locs ho hz9 hk hS
  replace ho : gC G (p0) (.inr (7, [.ref (G.1 + (z0)), .ref (G.1 + (z0 + 1)), .ref (G.1 + (z0 + 2)), .ref (G.1 + (z0 + 3)), .null, .int 0])) H := ho
  replace hn0 := gC_k hn0 (hk _ (by omega))
  replace hn1 := gC_k hn1 (hk _ (by omega))
  replace hn2 := gC_k hn2 (hk _ (by omega))
  replace hn3 := gC_k hn3 (hk _ (by omega))
  rw [← hz9] at hz; clear hz9 hk
  refine lv_aload_n X.1 X.2.1 dX7_init_34 rfl (lv_at hl.1 0 rfl) ?_
  refine lv_bipush X.1 X.2.1 dX7_init_35 (v := iI 30) (by decide) ?_
  refine c_newa X (t0 := 0) k_89 rfl rfl (fun cA h1 h2 => gRA_eq h1 h2) hz hS (a0 := (30, .inl (fun _ => 0))) (fun _ => rfl) (by decide) (N' := 30) (by decide) (by decide) (Nat.le_of_ble_eq_true rfl) (Nat.le_of_ble_eq_true rfl) dX7_init_37 ?_
  clear hS
  intro H hn4 hz9 hk hS
  replace ho := gC_k ho (hk _ (by omega))
  replace hn0 := gC_k hn0 (hk _ (by omega))
  replace hn1 := gC_k hn1 (hk _ (by omega))
  replace hn2 := gC_k hn2 (hk _ (by omega))
  replace hn3 := gC_k hn3 (hk _ (by omega))
  replace hz : H.size = G.1 + (z0 + 5) := hz9.trans (by omega)
  clear hz9 hk
  refine c_putF X hini cX7 ho (Or.inl rfl) hS 4 (by decide) k_72 rfl rfl rfl (tk := (.array .int)) (by decide +kernel) (v := .ref (G.1 + (z0 + 4))) rfl rfl (Nat.le_of_ble_eq_true rfl) dX7_init_39 ?_
  clear hS ho
  intro H locs ho hz9 hk hS
  replace ho : gC G (p0) (.inr (7, [.ref (G.1 + (z0)), .ref (G.1 + (z0 + 1)), .ref (G.1 + (z0 + 2)), .ref (G.1 + (z0 + 3)), .ref (G.1 + (z0 + 4)), .int 0])) H := ho
  replace hn0 := gC_k hn0 (hk _ (by omega))
  replace hn1 := gC_k hn1 (hk _ (by omega))
  replace hn2 := gC_k hn2 (hk _ (by omega))
  replace hn3 := gC_k hn3 (hk _ (by omega))
  replace hn4 := gC_k hn4 (hk _ (by omega))
  rw [← hz9] at hz; clear hz9 hk
  exact c_vret X (Post := fun H => C_X7_init G p0 z0 H) ⟨ho, hn0, hn1, hn2, hn3, hn4⟩ hz hS ⟨Nat.le_of_ble_eq_true rfl, Nat.le_of_ble_eq_true rfl⟩ dX7_init_42
def C_X9_init (G : gG) (p0 z0 : Nat) (s1 : Nat) (s2 : Nat) (H : Heap) : Prop := gC G (p0) (.inr (9, [.ref (G.1 + (s1)), .ref (G.1 + (s2)), .ref (G.1 + (z0))])) H ∧ gC G (z0) (.inl (G.2.2 0, 14, .inl (fun _ => 0))) H
theorem C_X9_init_k {G : gG} {p0 z0 : Nat} {s1 : Nat} {s2 : Nat} {H H1 : Heap} (h : C_X9_init G p0 z0 s1 s2 H) (hk : ∀ q : Nat, (q = G.1 + p0 ∨ (G.1 + z0 ≤ q ∧ q < G.1 + (z0 + 1))) → H1[q]? = H[q]?) : C_X9_init G p0 z0 s1 s2 H1 := by
  obtain ⟨h0, h1⟩ := h
  exact ⟨gC_k h0 (hk _ (by omega)), gC_k h1 (hk _ (by omega))⟩
set_option maxRecDepth 20000 in
set_option maxHeartbeats 4000000 in
theorem m_X9_init (l : Launch) (G : gG) (p0 z0 : Nat) (s1 : Nat) (s2 : Nat) (hpz : p0 < z0) : gCMet l yX9_init cX9_init 3 1 20 1 14 G p0 z0 1 [.ref (G.1 + (p0)), .ref (G.1 + (s1)), .ref (G.1 + (s2))] (fun H => gC G p0 (.inr (9, [.null, .null, .null])) H) (fun H => C_X9_init G p0 z0 s1 s2 H) := by
  refine gOfC (by decide) (by show _ ≤ 3; exact Nat.le_of_ble_eq_true rfl) rfl rfl ?_
  intro p e s m below meth c X hini ho hz ls hl
  have hS : va_S (gCA G p0 z0) s.heap s.heap [] := va_S.rf
  generalize hargs : ([.ref (G.1 + (p0)), .ref (G.1 + (s1)), .ref (G.1 + (s2))] : List Value).toArray = args at X ⊢
  clear hargs
  replace hl : gLv ls 3 [(0, .ref (G.1 + (p0))), (1, .ref (G.1 + (s1))), (2, .ref (G.1 + (s2)))] := hl
  refine lv_aload_n X.1 X.2.1 dX9_init_0 rfl (lv_at hl.1 0 rfl) ?_
  refine c_obj X k_324 k_56 k_57 hl dX9_init_1 (by decide) (by decide) ?_
  refine lv_aload_n X.1 X.2.1 dX9_init_4 rfl (lv_at hl.1 0 rfl) ?_
  refine lv_bipush X.1 X.2.1 dX9_init_5 (v := iI 14) (by decide) ?_
  refine c_newa X (t0 := 0) k_89 rfl rfl (fun cA h1 h2 => gRA_eq h1 h2) hz hS (a0 := (14, .inl (fun _ => 0))) (fun _ => rfl) (by decide) (N' := 14) (by decide) (by decide) (Nat.le_of_ble_eq_true rfl) (Nat.le_of_ble_eq_true rfl) dX9_init_7 ?_
  clear hS
  intro H hn0 hz9 hk hS
  replace ho := gC_k ho (hk _ (by omega))
  replace hz : H.size = G.1 + (z0 + 1) := hz9.trans (by omega)
  clear hz9 hk
  refine c_putF X hini cX9 ho (Or.inl rfl) hS 2 (by decide) k_328 rfl rfl rfl (tk := (.array .int)) (by decide +kernel) (v := .ref (G.1 + (z0))) rfl rfl (Nat.le_of_ble_eq_true rfl) dX9_init_9 ?_
  clear hS ho
  intro H locs ho hz9 hk hS
  replace ho : gC G (p0) (.inr (9, [.null, .null, .ref (G.1 + (z0))])) H := ho
  replace hn0 := gC_k hn0 (hk _ (by omega))
  rw [← hz9] at hz; clear hz9 hk
  refine lv_aload_n X.1 X.2.1 dX9_init_12 rfl (lv_at hl.1 0 rfl) ?_
  refine lv_aload_n X.1 X.2.1 dX9_init_13 rfl (lv_at hl.1 1 rfl) ?_
  refine c_putF X hini cX9 ho (Or.inl rfl) hS 0 (by decide) k_325 rfl rfl rfl (tk := (.array .int)) (by decide +kernel) (v := .ref (G.1 + (s1))) rfl rfl (Nat.le_of_ble_eq_true rfl) dX9_init_14 ?_
  clear hS ho
  intro H locs ho hz9 hk hS
  replace ho : gC G (p0) (.inr (9, [.ref (G.1 + (s1)), .null, .ref (G.1 + (z0))])) H := ho
  replace hn0 := gC_k hn0 (hk _ (by omega))
  rw [← hz9] at hz; clear hz9 hk
  refine lv_aload_n X.1 X.2.1 dX9_init_17 rfl (lv_at hl.1 0 rfl) ?_
  refine lv_aload_n X.1 X.2.1 dX9_init_18 rfl (lv_at hl.1 2 rfl) ?_
  refine c_putF X hini cX9 ho (Or.inl rfl) hS 1 (by decide) k_326 rfl rfl rfl (tk := (.array .int)) (by decide +kernel) (v := .ref (G.1 + (s2))) rfl rfl (Nat.le_of_ble_eq_true rfl) dX9_init_19 ?_
  clear hS ho
  intro H locs ho hz9 hk hS
  replace ho : gC G (p0) (.inr (9, [.ref (G.1 + (s1)), .ref (G.1 + (s2)), .ref (G.1 + (z0))])) H := ho
  replace hn0 := gC_k hn0 (hk _ (by omega))
  rw [← hz9] at hz; clear hz9 hk
  exact c_vret X (Post := fun H => C_X9_init G p0 z0 s1 s2 H) ⟨ho, hn0⟩ hz hS ⟨Nat.le_of_ble_eq_true rfl, Nat.le_of_ble_eq_true rfl⟩ dX9_init_22
