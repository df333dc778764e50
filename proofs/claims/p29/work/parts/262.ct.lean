def C_X1_init (G : gG) (p0 z0 : Nat) (H : Heap) : Prop := gC G (p0) (.inr (1, [.ref (G.1 + (z0)), .int 0, .int 0])) H ∧ gGr G (z0 + 1) 40 eX1 [] H ∧ gC G (z0) (.inl (G.2.2 3, 40, .inr (.inr (.inr (.inr (fun k => some (G.1 + (z0 + 1 + k)))))))) H
theorem C_X1_init_k {G : gG} {p0 z0 : Nat} {H H1 : Heap} (h : C_X1_init G p0 z0 H) (hk : ∀ q : Nat, (q = G.1 + p0 ∨ (G.1 + z0 ≤ q ∧ q < G.1 + (z0 + 41))) → H1[q]? = H[q]?) : C_X1_init G p0 z0 H1 := by
  obtain ⟨h0, h1, h2⟩ := h
  exact ⟨gC_k h0 (hk _ (by omega)), gGr_k h1 (fun q h1 h2 h3 => hk q (by omega)), gC_k h2 (hk _ (by omega))⟩
set_option maxRecDepth 20000 in
set_option maxHeartbeats 4000000 in
theorem m_X1_init (l : Launch) (G : gG) (p0 z0 : Nat) (hpz : p0 < z0) : gCMet l yX1_init cX1_init 2 2 40 41 320 G p0 z0 41 [.ref (G.1 + (p0))] (fun H => gC G p0 (.inr (1, [.null, .int 0, .int 0])) H) (fun H => C_X1_init G p0 z0 H) := by
  refine gOfC (by decide) (by show _ ≤ 2; exact Nat.le_of_ble_eq_true rfl) rfl rfl ?_
  intro p e s m below meth c X hini ho hz ls hl
  have hS : va_S (gCA G p0 z0) s.heap s.heap [] := va_S.rf
  generalize hargs : ([.ref (G.1 + (p0))] : List Value).toArray = args at X ⊢
  clear hargs
  replace hl : gLv ls 2 [(0, .ref (G.1 + (p0)))] := hl
  have gr : gGr G (z0 + 1) 0 eX1 [] s.heap := gGr_0
  refine lv_aload_n X.1 X.2.1 dX1_init_0 rfl (lv_at hl.1 0 rfl) ?_
  refine c_obj X k_272 k_56 k_57 hl dX1_init_1 (by decide) (by decide) ?_
  refine lv_aload_n X.1 X.2.1 dX1_init_4 rfl (lv_at hl.1 0 rfl) ?_
  refine lv_bipush X.1 X.2.1 dX1_init_5 (v := iI 40) (by decide) ?_
  refine c_newq X (t0 := 3) k_273 k_274 rfl hz hS (N' := 40) (by decide) (by decide) (by decide) (Nat.le_of_ble_eq_true rfl) (Nat.le_of_ble_eq_true rfl) dX1_init_7 ?_
  clear hS
  intro H hn0 hz9 hk hS
  replace ho := gC_k ho (hk _ (by omega))
  replace gr := gGr_k gr (fun q h1 h2 h3 => hk q (by omega))
  replace hz : H.size = G.1 + (z0 + 1) := hz9.trans (by omega)
  clear hz9 hk
  refine c_putF X hini cX1 ho (Or.inl rfl) hS 0 (by decide) k_306 rfl rfl rfl (tk := (.array (.object "BuildGrid$Entry"))) (by decide +kernel) (v := .ref (G.1 + (z0))) rfl rfl (Nat.le_of_ble_eq_true rfl) dX1_init_10 ?_
  clear hS ho
  intro H locs ho hz9 hk hS
  replace ho : gC G (p0) (.inr (1, [.ref (G.1 + (z0)), .int 0, .int 0])) H := ho
  replace gr := gGr_k gr (fun q h1 h2 h3 => hk q (by omega))
  replace hn0 := gC_k hn0 (hk _ (by omega))
  rw [← hz9] at hz; clear hz9 hk
  refine lv_iconst X.1 X.2.1 dX1_init_13 (v := iI 0) rfl ?_
  refine g_istore_n X (lv' := [(1, .int (iI 0)), (0, .ref (G.1 + (p0)))]) dX1_init_14 rfl hl (by decide) rfl ?_
  clear hl
  intro ls hl
  refine lv_iload_n X.1 X.2.1 dX1_init_15 rfl (lv_at hl.1 0 rfl) ?_
  refine lv_bipush X.1 X.2.1 dX1_init_16 (v := iI 40) (by decide) ?_
  refine g_icmp_ge X (nmI_l (by decide)) (nmI_l (by decide)) (tgt := 40) dX1_init_18 (by decide) (fun hc => absurd (by decide) hc) (fun _ => ?_)
  refine lv_aload_n X.1 X.2.1 dX1_init_21 rfl (lv_at hl.1 1 rfl) ?_
  refine c_get X cX1 ho 0 (by decide) k_306 rfl (v := .ref (G.1 + (z0))) rfl dX1_init_22 ?_
  refine lv_iload_n X.1 X.2.1 dX1_init_25 rfl (lv_at hl.1 0 rfl) ?_
  refine c_new X cX3 k_273 k_275 k_38 hz hS (fs := [.int 0, .int 0, .int 0, .int 0, .int 0, .int 0, .int 0]) (fun j hj => by rcases (show j = 0 ∨ j = 1 ∨ j = 2 ∨ j = 3 ∨ j = 4 ∨ j = 5 ∨ j = 6 by omega) with rfl | rfl | rfl | rfl | rfl | rfl | rfl <;> rfl) (Nat.le_of_ble_eq_true rfl) (Nat.le_of_ble_eq_true rfl) dX1_init_26 ?_
  clear hS
  intro H hn1 hz9 hk hS
  replace ho := gC_k ho (hk _ (by omega))
  replace gr := gGr_k gr (fun q h1 h2 h3 => hk q (by omega))
  replace hn0 := gC_k hn0 (hk _ (by omega))
  replace hz : H.size = G.1 + (z0 + 2) := hz9.trans (by omega)
  clear hz9 hk
  refine lv_dup X.1 X.2.1 dX1_init_29 rfl ?_
  refine c_callN X (As := []) (m_X3_init l G (z0 + 1) (z0 + 2) (by omega)) calX3_init k_277 k_276 rfl hn1 hz hS (fun q h => gCA_up (by omega) (by omega) h) ⟨by decide, by decide⟩ rfl hl rfl (Nat.le_of_ble_eq_true rfl) ⟨Nat.le_of_ble_eq_true rfl, Nat.le_of_ble_eq_true rfl⟩ dX1_init_30 ?_
  clear hS hn1
  intro H locs hn1 hz9 hk hS
  replace ho := gC_k ho (hk _ (by omega) (fun z => by rcases z with z | z <;> omega))
  replace gr := gGr_k gr (fun q h1 h2 h3 => hk q (by omega) (fun z => by rcases z with z | z <;> omega))
  replace hn0 := gC_k hn0 (hk _ (by omega) (fun z => by rcases z with z | z <;> omega))
  replace hz : H.size = G.1 + (z0 + 2) := hz9.trans (by omega)
  clear hz9 hk
  replace hn1 : gC G (z0 + 1) (.inr (3, [.int 0, .int 0, .int 0, .int 0, .int 0, .int 0, .int 0])) H := hn1
  refine c_astq X hn0 (t0 := 3) rfl hn1 (r := (RX3, TX3, 7)) rfl (Or.inr (by show G.1 + z0 ≤ G.1 + (z0); omega)) hS (iI_in (n := 40) (nmI_l (by decide)) ⟨by decide, by decide⟩) dX1_init_33 ?_
  clear hS hn0
  intro H locs hn0 hz9 hk hS
  replace hn0 : gC G (z0) (.inl (G.2.2 3, 40, .inr (.inr (.inr (.inr (va_up (fun _ => none) 0 (some (G.1 + (z0 + 1))))))))) H := hn0
  rw [gup0 (g := fun k => G.1 + (z0 + 1 + k))] at hn0
  replace hn0 : gC G (z0) (.inl (G.2.2 3, 40, .inr (.inr (.inr (.inr (va_up (fun k => if k < 0 then some (G.1 + (z0 + 1 + k)) else none) 0 (some ((fun k => G.1 + (z0 + 1 + k)) 0)))))))) H := hn0
  rw [gup (g := fun k => G.1 + (z0 + 1 + k))] at hn0
  replace hn0 : gC G (z0) (.inl (G.2.2 3, 40, .inr (.inr (.inr (.inr (fun k => if k < 1 then some (G.1 + (z0 + 1 + k)) else none)))))) H := hn0
  replace ho := gC_k ho (hk _ (by omega))
  replace gr := gGr_k gr (fun q h1 h2 h3 => hk q (by omega))
  replace hn1 := gC_k hn1 (hk _ (by omega))
  rw [← hz9] at hz; clear hz9 hk
  replace gr := gGr_s (n := 0) gr hn1
  clear hn1
  refine g_iinc X (a := 0) (lv' := [(1, .int (iI 1)), (0, .ref (G.1 + (p0)))]) dX1_init_34 hl (k := 0) rfl (by decide) rfl ?_
  clear hl
  intro ls hl
  refine lv_goto (tgt := 15) X.1 X.2.1 dX1_init_37 (by decide) ?_
  refine lv_iload_n X.1 X.2.1 dX1_init_15 rfl (lv_at hl.1 0 rfl) ?_
  refine lv_bipush X.1 X.2.1 dX1_init_16 (v := iI 40) (by decide) ?_
  refine g_icmp_ge X (nmI_l (by decide)) (nmI_l (by decide)) (tgt := 40) dX1_init_18 (by decide) (fun hc => absurd (by decide) hc) (fun _ => ?_)
  refine lv_aload_n X.1 X.2.1 dX1_init_21 rfl (lv_at hl.1 1 rfl) ?_
  refine c_get X cX1 ho 0 (by decide) k_306 rfl (v := .ref (G.1 + (z0))) rfl dX1_init_22 ?_
  refine lv_iload_n X.1 X.2.1 dX1_init_25 rfl (lv_at hl.1 0 rfl) ?_
  refine c_new X cX3 k_273 k_275 k_38 hz hS (fs := [.int 0, .int 0, .int 0, .int 0, .int 0, .int 0, .int 0]) (fun j hj => by rcases (show j = 0 ∨ j = 1 ∨ j = 2 ∨ j = 3 ∨ j = 4 ∨ j = 5 ∨ j = 6 by omega) with rfl | rfl | rfl | rfl | rfl | rfl | rfl <;> rfl) (Nat.le_of_ble_eq_true rfl) (Nat.le_of_ble_eq_true rfl) dX1_init_26 ?_
  clear hS
  intro H hn2 hz9 hk hS
  replace ho := gC_k ho (hk _ (by omega))
  replace gr := gGr_k gr (fun q h1 h2 h3 => hk q (by omega))
  replace hn0 := gC_k hn0 (hk _ (by omega))
  replace hz : H.size = G.1 + (z0 + 3) := hz9.trans (by omega)
  clear hz9 hk
  refine lv_dup X.1 X.2.1 dX1_init_29 rfl ?_
  refine c_callN X (As := []) (m_X3_init l G (z0 + 2) (z0 + 3) (by omega)) calX3_init k_277 k_276 rfl hn2 hz hS (fun q h => gCA_up (by omega) (by omega) h) ⟨by decide, by decide⟩ rfl hl rfl (Nat.le_of_ble_eq_true rfl) ⟨Nat.le_of_ble_eq_true rfl, Nat.le_of_ble_eq_true rfl⟩ dX1_init_30 ?_
  clear hS hn2
  intro H locs hn2 hz9 hk hS
  replace ho := gC_k ho (hk _ (by omega) (fun z => by rcases z with z | z <;> omega))
  replace gr := gGr_k gr (fun q h1 h2 h3 => hk q (by omega) (fun z => by rcases z with z | z <;> omega))
  replace hn0 := gC_k hn0 (hk _ (by omega) (fun z => by rcases z with z | z <;> omega))
  replace hz : H.size = G.1 + (z0 + 3) := hz9.trans (by omega)
  clear hz9 hk
  replace hn2 : gC G (z0 + 2) (.inr (3, [.int 0, .int 0, .int 0, .int 0, .int 0, .int 0, .int 0])) H := hn2
  refine c_astq X hn0 (t0 := 3) rfl hn2 (r := (RX3, TX3, 7)) rfl (Or.inr (by show G.1 + z0 ≤ G.1 + (z0); omega)) hS (iI_in (n := 40) (nmI_l (by decide)) ⟨by decide, by decide⟩) dX1_init_33 ?_
  clear hS hn0
  intro H locs hn0 hz9 hk hS
  replace hn0 : gC G (z0) (.inl (G.2.2 3, 40, .inr (.inr (.inr (.inr (va_up (fun k => if k < 1 then some (G.1 + (z0 + 1 + k)) else none) 1 (some (G.1 + (z0 + 2))))))))) H := hn0
  replace hn0 : gC G (z0) (.inl (G.2.2 3, 40, .inr (.inr (.inr (.inr (va_up (fun k => if k < 1 then some (G.1 + (z0 + 1 + k)) else none) 1 (some ((fun k => G.1 + (z0 + 1 + k)) 1)))))))) H := hn0
  rw [gup (g := fun k => G.1 + (z0 + 1 + k))] at hn0
  replace hn0 : gC G (z0) (.inl (G.2.2 3, 40, .inr (.inr (.inr (.inr (fun k => if k < 2 then some (G.1 + (z0 + 1 + k)) else none)))))) H := hn0
  replace ho := gC_k ho (hk _ (by omega))
  replace gr := gGr_k gr (fun q h1 h2 h3 => hk q (by omega))
  replace hn2 := gC_k hn2 (hk _ (by omega))
  rw [← hz9] at hz; clear hz9 hk
  replace gr := gGr_s (n := 1) gr hn2
  clear hn2
  refine g_iinc X (a := 1) (lv' := [(1, .int (iI 2)), (0, .ref (G.1 + (p0)))]) dX1_init_34 hl (k := 0) rfl (by decide) rfl ?_
  clear hl
  intro ls hl
  refine lv_goto (tgt := 15) X.1 X.2.1 dX1_init_37 (by decide) ?_
  refine lv_iload_n X.1 X.2.1 dX1_init_15 rfl (lv_at hl.1 0 rfl) ?_
  refine lv_bipush X.1 X.2.1 dX1_init_16 (v := iI 40) (by decide) ?_
  refine g_icmp_ge X (nmI_l (by decide)) (nmI_l (by decide)) (tgt := 40) dX1_init_18 (by decide) (fun hc => absurd (by decide) hc) (fun _ => ?_)
  refine lv_aload_n X.1 X.2.1 dX1_init_21 rfl (lv_at hl.1 1 rfl) ?_
  refine c_get X cX1 ho 0 (by decide) k_306 rfl (v := .ref (G.1 + (z0))) rfl dX1_init_22 ?_
  refine lv_iload_n X.1 X.2.1 dX1_init_25 rfl (lv_at hl.1 0 rfl) ?_
  refine c_new X cX3 k_273 k_275 k_38 hz hS (fs := [.int 0, .int 0, .int 0, .int 0, .int 0, .int 0, .int 0]) (fun j hj => by rcases (show j = 0 ∨ j = 1 ∨ j = 2 ∨ j = 3 ∨ j = 4 ∨ j = 5 ∨ j = 6 by omega) with rfl | rfl | rfl | rfl | rfl | rfl | rfl <;> rfl) (Nat.le_of_ble_eq_true rfl) (Nat.le_of_ble_eq_true rfl) dX1_init_26 ?_
  clear hS
  intro H hn3 hz9 hk hS
  replace ho := gC_k ho (hk _ (by omega))
  replace gr := gGr_k gr (fun q h1 h2 h3 => hk q (by omega))
  replace hn0 := gC_k hn0 (hk _ (by omega))
  replace hz : H.size = G.1 + (z0 + 4) := hz9.trans (by omega)
  clear hz9 hk
  refine lv_dup X.1 X.2.1 dX1_init_29 rfl ?_
  refine c_callN X (As := []) (m_X3_init l G (z0 + 3) (z0 + 4) (by omega)) calX3_init k_277 k_276 rfl hn3 hz hS (fun q h => gCA_up (by omega) (by omega) h) ⟨by decide, by decide⟩ rfl hl rfl (Nat.le_of_ble_eq_true rfl) ⟨Nat.le_of_ble_eq_true rfl, Nat.le_of_ble_eq_true rfl⟩ dX1_init_30 ?_
  clear hS hn3
  intro H locs hn3 hz9 hk hS
  replace ho := gC_k ho (hk _ (by omega) (fun z => by rcases z with z | z <;> omega))
  replace gr := gGr_k gr (fun q h1 h2 h3 => hk q (by omega) (fun z => by rcases z with z | z <;> omega))
  replace hn0 := gC_k hn0 (hk _ (by omega) (fun z => by rcases z with z | z <;> omega))
  replace hz : H.size = G.1 + (z0 + 4) := hz9.trans (by omega)
  clear hz9 hk
  replace hn3 : gC G (z0 + 3) (.inr (3, [.int 0, .int 0, .int 0, .int 0, .int 0, .int 0, .int 0])) H := hn3
  refine c_astq X hn0 (t0 := 3) rfl hn3 (r := (RX3, TX3, 7)) rfl (Or.inr (by show G.1 + z0 ≤ G.1 + (z0); omega)) hS (iI_in (n := 40) (nmI_l (by decide)) ⟨by decide, by decide⟩) dX1_init_33 ?_
  clear hS hn0
  intro H locs hn0 hz9 hk hS
  replace hn0 : gC G (z0) (.inl (G.2.2 3, 40, .inr (.inr (.inr (.inr (va_up (fun k => if k < 2 then some (G.1 + (z0 + 1 + k)) else none) 2 (some (G.1 + (z0 + 3))))))))) H := hn0
  replace hn0 : gC G (z0) (.inl (G.2.2 3, 40, .inr (.inr (.inr (.inr (va_up (fun k => if k < 2 then some (G.1 + (z0 + 1 + k)) else none) 2 (some ((fun k => G.1 + (z0 + 1 + k)) 2)))))))) H := hn0
  rw [gup (g := fun k => G.1 + (z0 + 1 + k))] at hn0
  replace hn0 : gC G (z0) (.inl (G.2.2 3, 40, .inr (.inr (.inr (.inr (fun k => if k < 3 then some (G.1 + (z0 + 1 + k)) else none)))))) H := hn0
  replace ho := gC_k ho (hk _ (by omega))
  replace gr := gGr_k gr (fun q h1 h2 h3 => hk q (by omega))
  replace hn3 := gC_k hn3 (hk _ (by omega))
  rw [← hz9] at hz; clear hz9 hk
  replace gr := gGr_s (n := 2) gr hn3
  clear hn3
  refine g_iinc X (a := 2) (lv' := [(1, .int (iI 3)), (0, .ref (G.1 + (p0)))]) dX1_init_34 hl (k := 0) rfl (by decide) rfl ?_
  clear hl
  intro ls hl
  refine lv_goto (tgt := 15) X.1 X.2.1 dX1_init_37 (by decide) ?_
  refine lv_iload_n X.1 X.2.1 dX1_init_15 rfl (lv_at hl.1 0 rfl) ?_
  refine lv_bipush X.1 X.2.1 dX1_init_16 (v := iI 40) (by decide) ?_
  refine g_icmp_ge X (nmI_l (by decide)) (nmI_l (by decide)) (tgt := 40) dX1_init_18 (by decide) (fun hc => absurd (by decide) hc) (fun _ => ?_)
  refine lv_aload_n X.1 X.2.1 dX1_init_21 rfl (lv_at hl.1 1 rfl) ?_
  refine c_get X cX1 ho 0 (by decide) k_306 rfl (v := .ref (G.1 + (z0))) rfl dX1_init_22 ?_
  refine lv_iload_n X.1 X.2.1 dX1_init_25 rfl (lv_at hl.1 0 rfl) ?_
  refine c_new X cX3 k_273 k_275 k_38 hz hS (fs := [.int 0, .int 0, .int 0, .int 0, .int 0, .int 0, .int 0]) (fun j hj => by rcases (show j = 0 ∨ j = 1 ∨ j = 2 ∨ j = 3 ∨ j = 4 ∨ j = 5 ∨ j = 6 by omega) with rfl | rfl | rfl | rfl | rfl | rfl | rfl <;> rfl) (Nat.le_of_ble_eq_true rfl) (Nat.le_of_ble_eq_true rfl) dX1_init_26 ?_
  clear hS
  intro H hn4 hz9 hk hS
  replace ho := gC_k ho (hk _ (by omega))
  replace gr := gGr_k gr (fun q h1 h2 h3 => hk q (by omega))
  replace hn0 := gC_k hn0 (hk _ (by omega))
  replace hz : H.size = G.1 + (z0 + 5) := hz9.trans (by omega)
  clear hz9 hk
  refine lv_dup X.1 X.2.1 dX1_init_29 rfl ?_
  refine c_callN X (As := []) (m_X3_init l G (z0 + 4) (z0 + 5) (by omega)) calX3_init k_277 k_276 rfl hn4 hz hS (fun q h => gCA_up (by omega) (by omega) h) ⟨by decide, by decide⟩ rfl hl rfl (Nat.le_of_ble_eq_true rfl) ⟨Nat.le_of_ble_eq_true rfl, Nat.le_of_ble_eq_true rfl⟩ dX1_init_30 ?_
  clear hS hn4
  intro H locs hn4 hz9 hk hS
  replace ho := gC_k ho (hk _ (by omega) (fun z => by rcases z with z | z <;> omega))
  replace gr := gGr_k gr (fun q h1 h2 h3 => hk q (by omega) (fun z => by rcases z with z | z <;> omega))
  replace hn0 := gC_k hn0 (hk _ (by omega) (fun z => by rcases z with z | z <;> omega))
  replace hz : H.size = G.1 + (z0 + 5) := hz9.trans (by omega)
  clear hz9 hk
  replace hn4 : gC G (z0 + 4) (.inr (3, [.int 0, .int 0, .int 0, .int 0, .int 0, .int 0, .int 0])) H := hn4
  refine c_astq X hn0 (t0 := 3) rfl hn4 (r := (RX3, TX3, 7)) rfl (Or.inr (by show G.1 + z0 ≤ G.1 + (z0); omega)) hS (iI_in (n := 40) (nmI_l (by decide)) ⟨by decide, by decide⟩) dX1_init_33 ?_
  clear hS hn0
  intro H locs hn0 hz9 hk hS
  replace hn0 : gC G (z0) (.inl (G.2.2 3, 40, .inr (.inr (.inr (.inr (va_up (fun k => if k < 3 then some (G.1 + (z0 + 1 + k)) else none) 3 (some (G.1 + (z0 + 4))))))))) H := hn0
  replace hn0 : gC G (z0) (.inl (G.2.2 3, 40, .inr (.inr (.inr (.inr (va_up (fun k => if k < 3 then some (G.1 + (z0 + 1 + k)) else none) 3 (some ((fun k => G.1 + (z0 + 1 + k)) 3)))))))) H := hn0
  rw [gup (g := fun k => G.1 + (z0 + 1 + k))] at hn0
  replace hn0 : gC G (z0) (.inl (G.2.2 3, 40, .inr (.inr (.inr (.inr (fun k => if k < 4 then some (G.1 + (z0 + 1 + k)) else none)))))) H := hn0
  replace ho := gC_k ho (hk _ (by omega))
  replace gr := gGr_k gr (fun q h1 h2 h3 => hk q (by omega))
  replace hn4 := gC_k hn4 (hk _ (by omega))
  rw [← hz9] at hz; clear hz9 hk
  replace gr := gGr_s (n := 3) gr hn4
  clear hn4
  refine g_iinc X (a := 3) (lv' := [(1, .int (iI 4)), (0, .ref (G.1 + (p0)))]) dX1_init_34 hl (k := 0) rfl (by decide) rfl ?_
  clear hl
  intro ls hl
  refine lv_goto (tgt := 15) X.1 X.2.1 dX1_init_37 (by decide) ?_
  refine lv_iload_n X.1 X.2.1 dX1_init_15 rfl (lv_at hl.1 0 rfl) ?_
  refine lv_bipush X.1 X.2.1 dX1_init_16 (v := iI 40) (by decide) ?_
  refine g_icmp_ge X (nmI_l (by decide)) (nmI_l (by decide)) (tgt := 40) dX1_init_18 (by decide) (fun hc => absurd (by decide) hc) (fun _ => ?_)
  refine lv_aload_n X.1 X.2.1 dX1_init_21 rfl (lv_at hl.1 1 rfl) ?_
  refine c_get X cX1 ho 0 (by decide) k_306 rfl (v := .ref (G.1 + (z0))) rfl dX1_init_22 ?_
  refine lv_iload_n X.1 X.2.1 dX1_init_25 rfl (lv_at hl.1 0 rfl) ?_
  refine c_new X cX3 k_273 k_275 k_38 hz hS (fs := [.int 0, .int 0, .int 0, .int 0, .int 0, .int 0, .int 0]) (fun j hj => by rcases (show j = 0 ∨ j = 1 ∨ j = 2 ∨ j = 3 ∨ j = 4 ∨ j = 5 ∨ j = 6 by omega) with rfl | rfl | rfl | rfl | rfl | rfl | rfl <;> rfl) (Nat.le_of_ble_eq_true rfl) (Nat.le_of_ble_eq_true rfl) dX1_init_26 ?_
  clear hS
  intro H hn5 hz9 hk hS
  replace ho := gC_k ho (hk _ (by omega))
  replace gr := gGr_k gr (fun q h1 h2 h3 => hk q (by omega))
  replace hn0 := gC_k hn0 (hk _ (by omega))
  replace hz : H.size = G.1 + (z0 + 6) := hz9.trans (by omega)
  clear hz9 hk
  refine lv_dup X.1 X.2.1 dX1_init_29 rfl ?_
  refine c_callN X (As := []) (m_X3_init l G (z0 + 5) (z0 + 6) (by omega)) calX3_init k_277 k_276 rfl hn5 hz hS (fun q h => gCA_up (by omega) (by omega) h) ⟨by decide, by decide⟩ rfl hl rfl (Nat.le_of_ble_eq_true rfl) ⟨Nat.le_of_ble_eq_true rfl, Nat.le_of_ble_eq_true rfl⟩ dX1_init_30 ?_
  clear hS hn5
  intro H locs hn5 hz9 hk hS
  replace ho := gC_k ho (hk _ (by omega) (fun z => by rcases z with z | z <;> omega))
  replace gr := gGr_k gr (fun q h1 h2 h3 => hk q (by omega) (fun z => by rcases z with z | z <;> omega))
  replace hn0 := gC_k hn0 (hk _ (by omega) (fun z => by rcases z with z | z <;> omega))
  replace hz : H.size = G.1 + (z0 + 6) := hz9.trans (by omega)
  clear hz9 hk
  replace hn5 : gC G (z0 + 5) (.inr (3, [.int 0, .int 0, .int 0, .int 0, .int 0, .int 0, .int 0])) H := hn5
  refine c_astq X hn0 (t0 := 3) rfl hn5 (r := (RX3, TX3, 7)) rfl (Or.inr (by show G.1 + z0 ≤ G.1 + (z0); omega)) hS (iI_in (n := 40) (nmI_l (by decide)) ⟨by decide, by decide⟩) dX1_init_33 ?_
  clear hS hn0
  intro H locs hn0 hz9 hk hS
  replace hn0 : gC G (z0) (.inl (G.2.2 3, 40, .inr (.inr (.inr (.inr (va_up (fun k => if k < 4 then some (G.1 + (z0 + 1 + k)) else none) 4 (some (G.1 + (z0 + 5))))))))) H := hn0
  replace hn0 : gC G (z0) (.inl (G.2.2 3, 40, .inr (.inr (.inr (.inr (va_up (fun k => if k < 4 then some (G.1 + (z0 + 1 + k)) else none) 4 (some ((fun k => G.1 + (z0 + 1 + k)) 4)))))))) H := hn0
  rw [gup (g := fun k => G.1 + (z0 + 1 + k))] at hn0
  replace hn0 : gC G (z0) (.inl (G.2.2 3, 40, .inr (.inr (.inr (.inr (fun k => if k < 5 then some (G.1 + (z0 + 1 + k)) else none)))))) H := hn0
  replace ho := gC_k ho (hk _ (by omega))
  replace gr := gGr_k gr (fun q h1 h2 h3 => hk q (by omega))
  replace hn5 := gC_k hn5 (hk _ (by omega))
  rw [← hz9] at hz; clear hz9 hk
  replace gr := gGr_s (n := 4) gr hn5
  clear hn5
  refine g_iinc X (a := 4) (lv' := [(1, .int (iI 5)), (0, .ref (G.1 + (p0)))]) dX1_init_34 hl (k := 0) rfl (by decide) rfl ?_
  clear hl
  intro ls hl
  refine lv_goto (tgt := 15) X.1 X.2.1 dX1_init_37 (by decide) ?_
  refine lv_iload_n X.1 X.2.1 dX1_init_15 rfl (lv_at hl.1 0 rfl) ?_
  refine lv_bipush X.1 X.2.1 dX1_init_16 (v := iI 40) (by decide) ?_
  refine g_icmp_ge X (nmI_l (by decide)) (nmI_l (by decide)) (tgt := 40) dX1_init_18 (by decide) (fun hc => absurd (by decide) hc) (fun _ => ?_)
  refine lv_aload_n X.1 X.2.1 dX1_init_21 rfl (lv_at hl.1 1 rfl) ?_
  refine c_get X cX1 ho 0 (by decide) k_306 rfl (v := .ref (G.1 + (z0))) rfl dX1_init_22 ?_
  refine lv_iload_n X.1 X.2.1 dX1_init_25 rfl (lv_at hl.1 0 rfl) ?_
  refine c_new X cX3 k_273 k_275 k_38 hz hS (fs := [.int 0, .int 0, .int 0, .int 0, .int 0, .int 0, .int 0]) (fun j hj => by rcases (show j = 0 ∨ j = 1 ∨ j = 2 ∨ j = 3 ∨ j = 4 ∨ j = 5 ∨ j = 6 by omega) with rfl | rfl | rfl | rfl | rfl | rfl | rfl <;> rfl) (Nat.le_of_ble_eq_true rfl) (Nat.le_of_ble_eq_true rfl) dX1_init_26 ?_
  clear hS
  intro H hn6 hz9 hk hS
  replace ho := gC_k ho (hk _ (by omega))
  replace gr := gGr_k gr (fun q h1 h2 h3 => hk q (by omega))
  replace hn0 := gC_k hn0 (hk _ (by omega))
  replace hz : H.size = G.1 + (z0 + 7) := hz9.trans (by omega)
  clear hz9 hk
  refine lv_dup X.1 X.2.1 dX1_init_29 rfl ?_
  refine c_callN X (As := []) (m_X3_init l G (z0 + 6) (z0 + 7) (by omega)) calX3_init k_277 k_276 rfl hn6 hz hS (fun q h => gCA_up (by omega) (by omega) h) ⟨by decide, by decide⟩ rfl hl rfl (Nat.le_of_ble_eq_true rfl) ⟨Nat.le_of_ble_eq_true rfl, Nat.le_of_ble_eq_true rfl⟩ dX1_init_30 ?_
  clear hS hn6
  intro H locs hn6 hz9 hk hS
  replace ho := gC_k ho (hk _ (by omega) (fun z => by rcases z with z | z <;> omega))
  replace gr := gGr_k gr (fun q h1 h2 h3 => hk q (by omega) (fun z => by rcases z with z | z <;> omega))
  replace hn0 := gC_k hn0 (hk _ (by omega) (fun z => by rcases z with z | z <;> omega))
  replace hz : H.size = G.1 + (z0 + 7) := hz9.trans (by omega)
  clear hz9 hk
  replace hn6 : gC G (z0 + 6) (.inr (3, [.int 0, .int 0, .int 0, .int 0, .int 0, .int 0, .int 0])) H := hn6
  refine c_astq X hn0 (t0 := 3) rfl hn6 (r := (RX3, TX3, 7)) rfl (Or.inr (by show G.1 + z0 ≤ G.1 + (z0); omega)) hS (iI_in (n := 40) (nmI_l (by decide)) ⟨by decide, by decide⟩) dX1_init_33 ?_
  clear hS hn0
  intro H locs hn0 hz9 hk hS
  replace hn0 : gC G (z0) (.inl (G.2.2 3, 40, .inr (.inr (.inr (.inr (va_up (fun k => if k < 5 then some (G.1 + (z0 + 1 + k)) else none) 5 (some (G.1 + (z0 + 6))))))))) H := hn0
  replace hn0 : gC G (z0) (.inl (G.2.2 3, 40, .inr (.inr (.inr (.inr (va_up (fun k => if k < 5 then some (G.1 + (z0 + 1 + k)) else none) 5 (some ((fun k => G.1 + (z0 + 1 + k)) 5)))))))) H := hn0
  rw [gup (g := fun k => G.1 + (z0 + 1 + k))] at hn0
  replace hn0 : gC G (z0) (.inl (G.2.2 3, 40, .inr (.inr (.inr (.inr (fun k => if k < 6 then some (G.1 + (z0 + 1 + k)) else none)))))) H := hn0
  replace ho := gC_k ho (hk _ (by omega))
  replace gr := gGr_k gr (fun q h1 h2 h3 => hk q (by omega))
  replace hn6 := gC_k hn6 (hk _ (by omega))
  rw [← hz9] at hz; clear hz9 hk
  replace gr := gGr_s (n := 5) gr hn6
  clear hn6
  refine g_iinc X (a := 5) (lv' := [(1, .int (iI 6)), (0, .ref (G.1 + (p0)))]) dX1_init_34 hl (k := 0) rfl (by decide) rfl ?_
  clear hl
  intro ls hl
  refine lv_goto (tgt := 15) X.1 X.2.1 dX1_init_37 (by decide) ?_
  refine lv_iload_n X.1 X.2.1 dX1_init_15 rfl (lv_at hl.1 0 rfl) ?_
  refine lv_bipush X.1 X.2.1 dX1_init_16 (v := iI 40) (by decide) ?_
  refine g_icmp_ge X (nmI_l (by decide)) (nmI_l (by decide)) (tgt := 40) dX1_init_18 (by decide) (fun hc => absurd (by decide) hc) (fun _ => ?_)
  refine lv_aload_n X.1 X.2.1 dX1_init_21 rfl (lv_at hl.1 1 rfl) ?_
  refine c_get X cX1 ho 0 (by decide) k_306 rfl (v := .ref (G.1 + (z0))) rfl dX1_init_22 ?_
  refine lv_iload_n X.1 X.2.1 dX1_init_25 rfl (lv_at hl.1 0 rfl) ?_
  refine c_new X cX3 k_273 k_275 k_38 hz hS (fs := [.int 0, .int 0, .int 0, .int 0, .int 0, .int 0, .int 0]) (fun j hj => by rcases (show j = 0 ∨ j = 1 ∨ j = 2 ∨ j = 3 ∨ j = 4 ∨ j = 5 ∨ j = 6 by omega) with rfl | rfl | rfl | rfl | rfl | rfl | rfl <;> rfl) (Nat.le_of_ble_eq_true rfl) (Nat.le_of_ble_eq_true rfl) dX1_init_26 ?_
  clear hS
  intro H hn7 hz9 hk hS
  replace ho := gC_k ho (hk _ (by omega))
  replace gr := gGr_k gr (fun q h1 h2 h3 => hk q (by omega))
  replace hn0 := gC_k hn0 (hk _ (by omega))
  replace hz : H.size = G.1 + (z0 + 8) := hz9.trans (by omega)
  clear hz9 hk
  refine lv_dup X.1 X.2.1 dX1_init_29 rfl ?_
  refine c_callN X (As := []) (m_X3_init l G (z0 + 7) (z0 + 8) (by omega)) calX3_init k_277 k_276 rfl hn7 hz hS (fun q h => gCA_up (by omega) (by omega) h) ⟨by decide, by decide⟩ rfl hl rfl (Nat.le_of_ble_eq_true rfl) ⟨Nat.le_of_ble_eq_true rfl, Nat.le_of_ble_eq_true rfl⟩ dX1_init_30 ?_
  clear hS hn7
  intro H locs hn7 hz9 hk hS
  replace ho := gC_k ho (hk _ (by omega) (fun z => by rcases z with z | z <;> omega))
  replace gr := gGr_k gr (fun q h1 h2 h3 => hk q (by omega) (fun z => by rcases z with z | z <;> omega))
  replace hn0 := gC_k hn0 (hk _ (by omega) (fun z => by rcases z with z | z <;> omega))
  replace hz : H.size = G.1 + (z0 + 8) := hz9.trans (by omega)
  clear hz9 hk
  replace hn7 : gC G (z0 + 7) (.inr (3, [.int 0, .int 0, .int 0, .int 0, .int 0, .int 0, .int 0])) H := hn7
  refine c_astq X hn0 (t0 := 3) rfl hn7 (r := (RX3, TX3, 7)) rfl (Or.inr (by show G.1 + z0 ≤ G.1 + (z0); omega)) hS (iI_in (n := 40) (nmI_l (by decide)) ⟨by decide, by decide⟩) dX1_init_33 ?_
  clear hS hn0
  intro H locs hn0 hz9 hk hS
  replace hn0 : gC G (z0) (.inl (G.2.2 3, 40, .inr (.inr (.inr (.inr (va_up (fun k => if k < 6 then some (G.1 + (z0 + 1 + k)) else none) 6 (some (G.1 + (z0 + 7))))))))) H := hn0
  replace hn0 : gC G (z0) (.inl (G.2.2 3, 40, .inr (.inr (.inr (.inr (va_up (fun k => if k < 6 then some (G.1 + (z0 + 1 + k)) else none) 6 (some ((fun k => G.1 + (z0 + 1 + k)) 6)))))))) H := hn0
  rw [gup (g := fun k => G.1 + (z0 + 1 + k))] at hn0
  replace hn0 : gC G (z0) (.inl (G.2.2 3, 40, .inr (.inr (.inr (.inr (fun k => if k < 7 then some (G.1 + (z0 + 1 + k)) else none)))))) H := hn0
  replace ho := gC_k ho (hk _ (by omega))
  replace gr := gGr_k gr (fun q h1 h2 h3 => hk q (by omega))
  replace hn7 := gC_k hn7 (hk _ (by omega))
  rw [← hz9] at hz; clear hz9 hk
  replace gr := gGr_s (n := 6) gr hn7
  clear hn7
  refine g_iinc X (a := 6) (lv' := [(1, .int (iI 7)), (0, .ref (G.1 + (p0)))]) dX1_init_34 hl (k := 0) rfl (by decide) rfl ?_
  clear hl
  intro ls hl
  refine lv_goto (tgt := 15) X.1 X.2.1 dX1_init_37 (by decide) ?_
  refine lv_iload_n X.1 X.2.1 dX1_init_15 rfl (lv_at hl.1 0 rfl) ?_
  refine lv_bipush X.1 X.2.1 dX1_init_16 (v := iI 40) (by decide) ?_
  refine g_icmp_ge X (nmI_l (by decide)) (nmI_l (by decide)) (tgt := 40) dX1_init_18 (by decide) (fun hc => absurd (by decide) hc) (fun _ => ?_)
  refine lv_aload_n X.1 X.2.1 dX1_init_21 rfl (lv_at hl.1 1 rfl) ?_
  refine c_get X cX1 ho 0 (by decide) k_306 rfl (v := .ref (G.1 + (z0))) rfl dX1_init_22 ?_
  refine lv_iload_n X.1 X.2.1 dX1_init_25 rfl (lv_at hl.1 0 rfl) ?_
  refine c_new X cX3 k_273 k_275 k_38 hz hS (fs := [.int 0, .int 0, .int 0, .int 0, .int 0, .int 0, .int 0]) (fun j hj => by rcases (show j = 0 ∨ j = 1 ∨ j = 2 ∨ j = 3 ∨ j = 4 ∨ j = 5 ∨ j = 6 by omega) with rfl | rfl | rfl | rfl | rfl | rfl | rfl <;> rfl) (Nat.le_of_ble_eq_true rfl) (Nat.le_of_ble_eq_true rfl) dX1_init_26 ?_
  clear hS
  intro H hn8 hz9 hk hS
  replace ho := gC_k ho (hk _ (by omega))
  replace gr := gGr_k gr (fun q h1 h2 h3 => hk q (by omega))
  replace hn0 := gC_k hn0 (hk _ (by omega))
  replace hz : H.size = G.1 + (z0 + 9) := hz9.trans (by omega)
  clear hz9 hk
  refine lv_dup X.1 X.2.1 dX1_init_29 rfl ?_
  refine c_callN X (As := []) (m_X3_init l G (z0 + 8) (z0 + 9) (by omega)) calX3_init k_277 k_276 rfl hn8 hz hS (fun q h => gCA_up (by omega) (by omega) h) ⟨by decide, by decide⟩ rfl hl rfl (Nat.le_of_ble_eq_true rfl) ⟨Nat.le_of_ble_eq_true rfl, Nat.le_of_ble_eq_true rfl⟩ dX1_init_30 ?_
  clear hS hn8
  intro H locs hn8 hz9 hk hS
  replace ho := gC_k ho (hk _ (by omega) (fun z => by rcases z with z | z <;> omega))
  replace gr := gGr_k gr (fun q h1 h2 h3 => hk q (by omega) (fun z => by rcases z with z | z <;> omega))
  replace hn0 := gC_k hn0 (hk _ (by omega) (fun z => by rcases z with z | z <;> omega))
  replace hz : H.size = G.1 + (z0 + 9) := hz9.trans (by omega)
  clear hz9 hk
  replace hn8 : gC G (z0 + 8) (.inr (3, [.int 0, .int 0, .int 0, .int 0, .int 0, .int 0, .int 0])) H := hn8
  refine c_astq X hn0 (t0 := 3) rfl hn8 (r := (RX3, TX3, 7)) rfl (Or.inr (by show G.1 + z0 ≤ G.1 + (z0); omega)) hS (iI_in (n := 40) (nmI_l (by decide)) ⟨by decide, by decide⟩) dX1_init_33 ?_
  clear hS hn0
  intro H locs hn0 hz9 hk hS
  replace hn0 : gC G (z0) (.inl (G.2.2 3, 40, .inr (.inr (.inr (.inr (va_up (fun k => if k < 7 then some (G.1 + (z0 + 1 + k)) else none) 7 (some (G.1 + (z0 + 8))))))))) H := hn0
  replace hn0 : gC G (z0) (.inl (G.2.2 3, 40, .inr (.inr (.inr (.inr (va_up (fun k => if k < 7 then some (G.1 + (z0 + 1 + k)) else none) 7 (some ((fun k => G.1 + (z0 + 1 + k)) 7)))))))) H := hn0
  rw [gup (g := fun k => G.1 + (z0 + 1 + k))] at hn0
  replace hn0 : gC G (z0) (.inl (G.2.2 3, 40, .inr (.inr (.inr (.inr (fun k => if k < 8 then some (G.1 + (z0 + 1 + k)) else none)))))) H := hn0
  replace ho := gC_k ho (hk _ (by omega))
  replace gr := gGr_k gr (fun q h1 h2 h3 => hk q (by omega))
  replace hn8 := gC_k hn8 (hk _ (by omega))
  rw [← hz9] at hz; clear hz9 hk
  replace gr := gGr_s (n := 7) gr hn8
  clear hn8
  refine g_iinc X (a := 7) (lv' := [(1, .int (iI 8)), (0, .ref (G.1 + (p0)))]) dX1_init_34 hl (k := 0) rfl (by decide) rfl ?_
  clear hl
  intro ls hl
  refine lv_goto (tgt := 15) X.1 X.2.1 dX1_init_37 (by decide) ?_
  refine lv_iload_n X.1 X.2.1 dX1_init_15 rfl (lv_at hl.1 0 rfl) ?_
  refine lv_bipush X.1 X.2.1 dX1_init_16 (v := iI 40) (by decide) ?_
  refine g_icmp_ge X (nmI_l (by decide)) (nmI_l (by decide)) (tgt := 40) dX1_init_18 (by decide) (fun hc => absurd (by decide) hc) (fun _ => ?_)
  refine lv_aload_n X.1 X.2.1 dX1_init_21 rfl (lv_at hl.1 1 rfl) ?_
  refine c_get X cX1 ho 0 (by decide) k_306 rfl (v := .ref (G.1 + (z0))) rfl dX1_init_22 ?_
  refine lv_iload_n X.1 X.2.1 dX1_init_25 rfl (lv_at hl.1 0 rfl) ?_
  refine c_new X cX3 k_273 k_275 k_38 hz hS (fs := [.int 0, .int 0, .int 0, .int 0, .int 0, .int 0, .int 0]) (fun j hj => by rcases (show j = 0 ∨ j = 1 ∨ j = 2 ∨ j = 3 ∨ j = 4 ∨ j = 5 ∨ j = 6 by omega) with rfl | rfl | rfl | rfl | rfl | rfl | rfl <;> rfl) (Nat.le_of_ble_eq_true rfl) (Nat.le_of_ble_eq_true rfl) dX1_init_26 ?_
  clear hS
  intro H hn9 hz9 hk hS
  replace ho := gC_k ho (hk _ (by omega))
  replace gr := gGr_k gr (fun q h1 h2 h3 => hk q (by omega))
  replace hn0 := gC_k hn0 (hk _ (by omega))
  replace hz : H.size = G.1 + (z0 + 10) := hz9.trans (by omega)
  clear hz9 hk
  refine lv_dup X.1 X.2.1 dX1_init_29 rfl ?_
  refine c_callN X (As := []) (m_X3_init l G (z0 + 9) (z0 + 10) (by omega)) calX3_init k_277 k_276 rfl hn9 hz hS (fun q h => gCA_up (by omega) (by omega) h) ⟨by decide, by decide⟩ rfl hl rfl (Nat.le_of_ble_eq_true rfl) ⟨Nat.le_of_ble_eq_true rfl, Nat.le_of_ble_eq_true rfl⟩ dX1_init_30 ?_
  clear hS hn9
  intro H locs hn9 hz9 hk hS
  replace ho := gC_k ho (hk _ (by omega) (fun z => by rcases z with z | z <;> omega))
  replace gr := gGr_k gr (fun q h1 h2 h3 => hk q (by omega) (fun z => by rcases z with z | z <;> omega))
  replace hn0 := gC_k hn0 (hk _ (by omega) (fun z => by rcases z with z | z <;> omega))
  replace hz : H.size = G.1 + (z0 + 10) := hz9.trans (by omega)
  clear hz9 hk
  replace hn9 : gC G (z0 + 9) (.inr (3, [.int 0, .int 0, .int 0, .int 0, .int 0, .int 0, .int 0])) H := hn9
  refine c_astq X hn0 (t0 := 3) rfl hn9 (r := (RX3, TX3, 7)) rfl (Or.inr (by show G.1 + z0 ≤ G.1 + (z0); omega)) hS (iI_in (n := 40) (nmI_l (by decide)) ⟨by decide, by decide⟩) dX1_init_33 ?_
  clear hS hn0
  intro H locs hn0 hz9 hk hS
  replace hn0 : gC G (z0) (.inl (G.2.2 3, 40, .inr (.inr (.inr (.inr (va_up (fun k => if k < 8 then some (G.1 + (z0 + 1 + k)) else none) 8 (some (G.1 + (z0 + 9))))))))) H := hn0
  replace hn0 : gC G (z0) (.inl (G.2.2 3, 40, .inr (.inr (.inr (.inr (va_up (fun k => if k < 8 then some (G.1 + (z0 + 1 + k)) else none) 8 (some ((fun k => G.1 + (z0 + 1 + k)) 8)))))))) H := hn0
  rw [gup (g := fun k => G.1 + (z0 + 1 + k))] at hn0
  replace hn0 : gC G (z0) (.inl (G.2.2 3, 40, .inr (.inr (.inr (.inr (fun k => if k < 9 then some (G.1 + (z0 + 1 + k)) else none)))))) H := hn0
  replace ho := gC_k ho (hk _ (by omega))
  replace gr := gGr_k gr (fun q h1 h2 h3 => hk q (by omega))
  replace hn9 := gC_k hn9 (hk _ (by omega))
  rw [← hz9] at hz; clear hz9 hk
  replace gr := gGr_s (n := 8) gr hn9
  clear hn9
  refine g_iinc X (a := 8) (lv' := [(1, .int (iI 9)), (0, .ref (G.1 + (p0)))]) dX1_init_34 hl (k := 0) rfl (by decide) rfl ?_
  clear hl
  intro ls hl
  refine lv_goto (tgt := 15) X.1 X.2.1 dX1_init_37 (by decide) ?_
  refine lv_iload_n X.1 X.2.1 dX1_init_15 rfl (lv_at hl.1 0 rfl) ?_
  refine lv_bipush X.1 X.2.1 dX1_init_16 (v := iI 40) (by decide) ?_
  refine g_icmp_ge X (nmI_l (by decide)) (nmI_l (by decide)) (tgt := 40) dX1_init_18 (by decide) (fun hc => absurd (by decide) hc) (fun _ => ?_)
  refine lv_aload_n X.1 X.2.1 dX1_init_21 rfl (lv_at hl.1 1 rfl) ?_
  refine c_get X cX1 ho 0 (by decide) k_306 rfl (v := .ref (G.1 + (z0))) rfl dX1_init_22 ?_
  refine lv_iload_n X.1 X.2.1 dX1_init_25 rfl (lv_at hl.1 0 rfl) ?_
  refine c_new X cX3 k_273 k_275 k_38 hz hS (fs := [.int 0, .int 0, .int 0, .int 0, .int 0, .int 0, .int 0]) (fun j hj => by rcases (show j = 0 ∨ j = 1 ∨ j = 2 ∨ j = 3 ∨ j = 4 ∨ j = 5 ∨ j = 6 by omega) with rfl | rfl | rfl | rfl | rfl | rfl | rfl <;> rfl) (Nat.le_of_ble_eq_true rfl) (Nat.le_of_ble_eq_true rfl) dX1_init_26 ?_
  clear hS
  intro H hn10 hz9 hk hS
  replace ho := gC_k ho (hk _ (by omega))
  replace gr := gGr_k gr (fun q h1 h2 h3 => hk q (by omega))
  replace hn0 := gC_k hn0 (hk _ (by omega))
  replace hz : H.size = G.1 + (z0 + 11) := hz9.trans (by omega)
  clear hz9 hk
  refine lv_dup X.1 X.2.1 dX1_init_29 rfl ?_
  refine c_callN X (As := []) (m_X3_init l G (z0 + 10) (z0 + 11) (by omega)) calX3_init k_277 k_276 rfl hn10 hz hS (fun q h => gCA_up (by omega) (by omega) h) ⟨by decide, by decide⟩ rfl hl rfl (Nat.le_of_ble_eq_true rfl) ⟨Nat.le_of_ble_eq_true rfl, Nat.le_of_ble_eq_true rfl⟩ dX1_init_30 ?_
  clear hS hn10
  intro H locs hn10 hz9 hk hS
  replace ho := gC_k ho (hk _ (by omega) (fun z => by rcases z with z | z <;> omega))
  replace gr := gGr_k gr (fun q h1 h2 h3 => hk q (by omega) (fun z => by rcases z with z | z <;> omega))
  replace hn0 := gC_k hn0 (hk _ (by omega) (fun z => by rcases z with z | z <;> omega))
  replace hz : H.size = G.1 + (z0 + 11) := hz9.trans (by omega)
  clear hz9 hk
  replace hn10 : gC G (z0 + 10) (.inr (3, [.int 0, .int 0, .int 0, .int 0, .int 0, .int 0, .int 0])) H := hn10
  refine c_astq X hn0 (t0 := 3) rfl hn10 (r := (RX3, TX3, 7)) rfl (Or.inr (by show G.1 + z0 ≤ G.1 + (z0); omega)) hS (iI_in (n := 40) (nmI_l (by decide)) ⟨by decide, by decide⟩) dX1_init_33 ?_
  clear hS hn0
  intro H locs hn0 hz9 hk hS
  replace hn0 : gC G (z0) (.inl (G.2.2 3, 40, .inr (.inr (.inr (.inr (va_up (fun k => if k < 9 then some (G.1 + (z0 + 1 + k)) else none) 9 (some (G.1 + (z0 + 10))))))))) H := hn0
  replace hn0 : gC G (z0) (.inl (G.2.2 3, 40, .inr (.inr (.inr (.inr (va_up (fun k => if k < 9 then some (G.1 + (z0 + 1 + k)) else none) 9 (some ((fun k => G.1 + (z0 + 1 + k)) 9)))))))) H := hn0
  rw [gup (g := fun k => G.1 + (z0 + 1 + k))] at hn0
  replace hn0 : gC G (z0) (.inl (G.2.2 3, 40, .inr (.inr (.inr (.inr (fun k => if k < 10 then some (G.1 + (z0 + 1 + k)) else none)))))) H := hn0
  replace ho := gC_k ho (hk _ (by omega))
  replace gr := gGr_k gr (fun q h1 h2 h3 => hk q (by omega))
  replace hn10 := gC_k hn10 (hk _ (by omega))
  rw [← hz9] at hz; clear hz9 hk
  replace gr := gGr_s (n := 9) gr hn10
  clear hn10
  refine g_iinc X (a := 9) (lv' := [(1, .int (iI 10)), (0, .ref (G.1 + (p0)))]) dX1_init_34 hl (k := 0) rfl (by decide) rfl ?_
  clear hl
  intro ls hl
  refine lv_goto (tgt := 15) X.1 X.2.1 dX1_init_37 (by decide) ?_
  refine lv_iload_n X.1 X.2.1 dX1_init_15 rfl (lv_at hl.1 0 rfl) ?_
  refine lv_bipush X.1 X.2.1 dX1_init_16 (v := iI 40) (by decide) ?_
  refine g_icmp_ge X (nmI_l (by decide)) (nmI_l (by decide)) (tgt := 40) dX1_init_18 (by decide) (fun hc => absurd (by decide) hc) (fun _ => ?_)
  refine lv_aload_n X.1 X.2.1 dX1_init_21 rfl (lv_at hl.1 1 rfl) ?_
  refine c_get X cX1 ho 0 (by decide) k_306 rfl (v := .ref (G.1 + (z0))) rfl dX1_init_22 ?_
  refine lv_iload_n X.1 X.2.1 dX1_init_25 rfl (lv_at hl.1 0 rfl) ?_
  refine c_new X cX3 k_273 k_275 k_38 hz hS (fs := [.int 0, .int 0, .int 0, .int 0, .int 0, .int 0, .int 0]) (fun j hj => by rcases (show j = 0 ∨ j = 1 ∨ j = 2 ∨ j = 3 ∨ j = 4 ∨ j = 5 ∨ j = 6 by omega) with rfl | rfl | rfl | rfl | rfl | rfl | rfl <;> rfl) (Nat.le_of_ble_eq_true rfl) (Nat.le_of_ble_eq_true rfl) dX1_init_26 ?_
  clear hS
  intro H hn11 hz9 hk hS
  replace ho := gC_k ho (hk _ (by omega))
  replace gr := gGr_k gr (fun q h1 h2 h3 => hk q (by omega))
  replace hn0 := gC_k hn0 (hk _ (by omega))
  replace hz : H.size = G.1 + (z0 + 12) := hz9.trans (by omega)
  clear hz9 hk
  refine lv_dup X.1 X.2.1 dX1_init_29 rfl ?_
  refine c_callN X (As := []) (m_X3_init l G (z0 + 11) (z0 + 12) (by omega)) calX3_init k_277 k_276 rfl hn11 hz hS (fun q h => gCA_up (by omega) (by omega) h) ⟨by decide, by decide⟩ rfl hl rfl (Nat.le_of_ble_eq_true rfl) ⟨Nat.le_of_ble_eq_true rfl, Nat.le_of_ble_eq_true rfl⟩ dX1_init_30 ?_
  clear hS hn11
  intro H locs hn11 hz9 hk hS
  replace ho := gC_k ho (hk _ (by omega) (fun z => by rcases z with z | z <;> omega))
  replace gr := gGr_k gr (fun q h1 h2 h3 => hk q (by omega) (fun z => by rcases z with z | z <;> omega))
  replace hn0 := gC_k hn0 (hk _ (by omega) (fun z => by rcases z with z | z <;> omega))
  replace hz : H.size = G.1 + (z0 + 12) := hz9.trans (by omega)
  clear hz9 hk
  replace hn11 : gC G (z0 + 11) (.inr (3, [.int 0, .int 0, .int 0, .int 0, .int 0, .int 0, .int 0])) H := hn11
  refine c_astq X hn0 (t0 := 3) rfl hn11 (r := (RX3, TX3, 7)) rfl (Or.inr (by show G.1 + z0 ≤ G.1 + (z0); omega)) hS (iI_in (n := 40) (nmI_l (by decide)) ⟨by decide, by decide⟩) dX1_init_33 ?_
  clear hS hn0
  intro H locs hn0 hz9 hk hS
  replace hn0 : gC G (z0) (.inl (G.2.2 3, 40, .inr (.inr (.inr (.inr (va_up (fun k => if k < 10 then some (G.1 + (z0 + 1 + k)) else none) 10 (some (G.1 + (z0 + 11))))))))) H := hn0
  replace hn0 : gC G (z0) (.inl (G.2.2 3, 40, .inr (.inr (.inr (.inr (va_up (fun k => if k < 10 then some (G.1 + (z0 + 1 + k)) else none) 10 (some ((fun k => G.1 + (z0 + 1 + k)) 10)))))))) H := hn0
  rw [gup (g := fun k => G.1 + (z0 + 1 + k))] at hn0
  replace hn0 : gC G (z0) (.inl (G.2.2 3, 40, .inr (.inr (.inr (.inr (fun k => if k < 11 then some (G.1 + (z0 + 1 + k)) else none)))))) H := hn0
  replace ho := gC_k ho (hk _ (by omega))
  replace gr := gGr_k gr (fun q h1 h2 h3 => hk q (by omega))
  replace hn11 := gC_k hn11 (hk _ (by omega))
  rw [← hz9] at hz; clear hz9 hk
  replace gr := gGr_s (n := 10) gr hn11
  clear hn11
  refine g_iinc X (a := 10) (lv' := [(1, .int (iI 11)), (0, .ref (G.1 + (p0)))]) dX1_init_34 hl (k := 0) rfl (by decide) rfl ?_
  clear hl
  intro ls hl
  refine lv_goto (tgt := 15) X.1 X.2.1 dX1_init_37 (by decide) ?_
  refine lv_iload_n X.1 X.2.1 dX1_init_15 rfl (lv_at hl.1 0 rfl) ?_
  refine lv_bipush X.1 X.2.1 dX1_init_16 (v := iI 40) (by decide) ?_
  refine g_icmp_ge X (nmI_l (by decide)) (nmI_l (by decide)) (tgt := 40) dX1_init_18 (by decide) (fun hc => absurd (by decide) hc) (fun _ => ?_)
  refine lv_aload_n X.1 X.2.1 dX1_init_21 rfl (lv_at hl.1 1 rfl) ?_
  refine c_get X cX1 ho 0 (by decide) k_306 rfl (v := .ref (G.1 + (z0))) rfl dX1_init_22 ?_
  refine lv_iload_n X.1 X.2.1 dX1_init_25 rfl (lv_at hl.1 0 rfl) ?_
  refine c_new X cX3 k_273 k_275 k_38 hz hS (fs := [.int 0, .int 0, .int 0, .int 0, .int 0, .int 0, .int 0]) (fun j hj => by rcases (show j = 0 ∨ j = 1 ∨ j = 2 ∨ j = 3 ∨ j = 4 ∨ j = 5 ∨ j = 6 by omega) with rfl | rfl | rfl | rfl | rfl | rfl | rfl <;> rfl) (Nat.le_of_ble_eq_true rfl) (Nat.le_of_ble_eq_true rfl) dX1_init_26 ?_
  clear hS
  intro H hn12 hz9 hk hS
  replace ho := gC_k ho (hk _ (by omega))
  replace gr := gGr_k gr (fun q h1 h2 h3 => hk q (by omega))
  replace hn0 := gC_k hn0 (hk _ (by omega))
  replace hz : H.size = G.1 + (z0 + 13) := hz9.trans (by omega)
  clear hz9 hk
  refine lv_dup X.1 X.2.1 dX1_init_29 rfl ?_
  refine c_callN X (As := []) (m_X3_init l G (z0 + 12) (z0 + 13) (by omega)) calX3_init k_277 k_276 rfl hn12 hz hS (fun q h => gCA_up (by omega) (by omega) h) ⟨by decide, by decide⟩ rfl hl rfl (Nat.le_of_ble_eq_true rfl) ⟨Nat.le_of_ble_eq_true rfl, Nat.le_of_ble_eq_true rfl⟩ dX1_init_30 ?_
  clear hS hn12
  intro H locs hn12 hz9 hk hS
  replace ho := gC_k ho (hk _ (by omega) (fun z => by rcases z with z | z <;> omega))
  replace gr := gGr_k gr (fun q h1 h2 h3 => hk q (by omega) (fun z => by rcases z with z | z <;> omega))
  replace hn0 := gC_k hn0 (hk _ (by omega) (fun z => by rcases z with z | z <;> omega))
  replace hz : H.size = G.1 + (z0 + 13) := hz9.trans (by omega)
  clear hz9 hk
  replace hn12 : gC G (z0 + 12) (.inr (3, [.int 0, .int 0, .int 0, .int 0, .int 0, .int 0, .int 0])) H := hn12
  refine c_astq X hn0 (t0 := 3) rfl hn12 (r := (RX3, TX3, 7)) rfl (Or.inr (by show G.1 + z0 ≤ G.1 + (z0); omega)) hS (iI_in (n := 40) (nmI_l (by decide)) ⟨by decide, by decide⟩) dX1_init_33 ?_
  clear hS hn0
  intro H locs hn0 hz9 hk hS
  replace hn0 : gC G (z0) (.inl (G.2.2 3, 40, .inr (.inr (.inr (.inr (va_up (fun k => if k < 11 then some (G.1 + (z0 + 1 + k)) else none) 11 (some (G.1 + (z0 + 12))))))))) H := hn0
  replace hn0 : gC G (z0) (.inl (G.2.2 3, 40, .inr (.inr (.inr (.inr (va_up (fun k => if k < 11 then some (G.1 + (z0 + 1 + k)) else none) 11 (some ((fun k => G.1 + (z0 + 1 + k)) 11)))))))) H := hn0
  rw [gup (g := fun k => G.1 + (z0 + 1 + k))] at hn0
  replace hn0 : gC G (z0) (.inl (G.2.2 3, 40, .inr (.inr (.inr (.inr (fun k => if k < 12 then some (G.1 + (z0 + 1 + k)) else none)))))) H := hn0
  replace ho := gC_k ho (hk _ (by omega))
  replace gr := gGr_k gr (fun q h1 h2 h3 => hk q (by omega))
  replace hn12 := gC_k hn12 (hk _ (by omega))
  rw [← hz9] at hz; clear hz9 hk
  replace gr := gGr_s (n := 11) gr hn12
  clear hn12
  refine g_iinc X (a := 11) (lv' := [(1, .int (iI 12)), (0, .ref (G.1 + (p0)))]) dX1_init_34 hl (k := 0) rfl (by decide) rfl ?_
  clear hl
  intro ls hl
  refine lv_goto (tgt := 15) X.1 X.2.1 dX1_init_37 (by decide) ?_
  refine lv_iload_n X.1 X.2.1 dX1_init_15 rfl (lv_at hl.1 0 rfl) ?_
  refine lv_bipush X.1 X.2.1 dX1_init_16 (v := iI 40) (by decide) ?_
  refine g_icmp_ge X (nmI_l (by decide)) (nmI_l (by decide)) (tgt := 40) dX1_init_18 (by decide) (fun hc => absurd (by decide) hc) (fun _ => ?_)
  refine lv_aload_n X.1 X.2.1 dX1_init_21 rfl (lv_at hl.1 1 rfl) ?_
  refine c_get X cX1 ho 0 (by decide) k_306 rfl (v := .ref (G.1 + (z0))) rfl dX1_init_22 ?_
  refine lv_iload_n X.1 X.2.1 dX1_init_25 rfl (lv_at hl.1 0 rfl) ?_
  refine c_new X cX3 k_273 k_275 k_38 hz hS (fs := [.int 0, .int 0, .int 0, .int 0, .int 0, .int 0, .int 0]) (fun j hj => by rcases (show j = 0 ∨ j = 1 ∨ j = 2 ∨ j = 3 ∨ j = 4 ∨ j = 5 ∨ j = 6 by omega) with rfl | rfl | rfl | rfl | rfl | rfl | rfl <;> rfl) (Nat.le_of_ble_eq_true rfl) (Nat.le_of_ble_eq_true rfl) dX1_init_26 ?_
  clear hS
  intro H hn13 hz9 hk hS
  replace ho := gC_k ho (hk _ (by omega))
  replace gr := gGr_k gr (fun q h1 h2 h3 => hk q (by omega))
  replace hn0 := gC_k hn0 (hk _ (by omega))
  replace hz : H.size = G.1 + (z0 + 14) := hz9.trans (by omega)
  clear hz9 hk
  refine lv_dup X.1 X.2.1 dX1_init_29 rfl ?_
  refine c_callN X (As := []) (m_X3_init l G (z0 + 13) (z0 + 14) (by omega)) calX3_init k_277 k_276 rfl hn13 hz hS (fun q h => gCA_up (by omega) (by omega) h) ⟨by decide, by decide⟩ rfl hl rfl (Nat.le_of_ble_eq_true rfl) ⟨Nat.le_of_ble_eq_true rfl, Nat.le_of_ble_eq_true rfl⟩ dX1_init_30 ?_
  clear hS hn13
  intro H locs hn13 hz9 hk hS
  replace ho := gC_k ho (hk _ (by omega) (fun z => by rcases z with z | z <;> omega))
  replace gr := gGr_k gr (fun q h1 h2 h3 => hk q (by omega) (fun z => by rcases z with z | z <;> omega))
  replace hn0 := gC_k hn0 (hk _ (by omega) (fun z => by rcases z with z | z <;> omega))
  replace hz : H.size = G.1 + (z0 + 14) := hz9.trans (by omega)
  clear hz9 hk
  replace hn13 : gC G (z0 + 13) (.inr (3, [.int 0, .int 0, .int 0, .int 0, .int 0, .int 0, .int 0])) H := hn13
  refine c_astq X hn0 (t0 := 3) rfl hn13 (r := (RX3, TX3, 7)) rfl (Or.inr (by show G.1 + z0 ≤ G.1 + (z0); omega)) hS (iI_in (n := 40) (nmI_l (by decide)) ⟨by decide, by decide⟩) dX1_init_33 ?_
  clear hS hn0
  intro H locs hn0 hz9 hk hS
  replace hn0 : gC G (z0) (.inl (G.2.2 3, 40, .inr (.inr (.inr (.inr (va_up (fun k => if k < 12 then some (G.1 + (z0 + 1 + k)) else none) 12 (some (G.1 + (z0 + 13))))))))) H := hn0
  replace hn0 : gC G (z0) (.inl (G.2.2 3, 40, .inr (.inr (.inr (.inr (va_up (fun k => if k < 12 then some (G.1 + (z0 + 1 + k)) else none) 12 (some ((fun k => G.1 + (z0 + 1 + k)) 12)))))))) H := hn0
  rw [gup (g := fun k => G.1 + (z0 + 1 + k))] at hn0
  replace hn0 : gC G (z0) (.inl (G.2.2 3, 40, .inr (.inr (.inr (.inr (fun k => if k < 13 then some (G.1 + (z0 + 1 + k)) else none)))))) H := hn0
  replace ho := gC_k ho (hk _ (by omega))
  replace gr := gGr_k gr (fun q h1 h2 h3 => hk q (by omega))
  replace hn13 := gC_k hn13 (hk _ (by omega))
  rw [← hz9] at hz; clear hz9 hk
  replace gr := gGr_s (n := 12) gr hn13
  clear hn13
  refine g_iinc X (a := 12) (lv' := [(1, .int (iI 13)), (0, .ref (G.1 + (p0)))]) dX1_init_34 hl (k := 0) rfl (by decide) rfl ?_
  clear hl
  intro ls hl
  refine lv_goto (tgt := 15) X.1 X.2.1 dX1_init_37 (by decide) ?_
  refine lv_iload_n X.1 X.2.1 dX1_init_15 rfl (lv_at hl.1 0 rfl) ?_
  refine lv_bipush X.1 X.2.1 dX1_init_16 (v := iI 40) (by decide) ?_
  refine g_icmp_ge X (nmI_l (by decide)) (nmI_l (by decide)) (tgt := 40) dX1_init_18 (by decide) (fun hc => absurd (by decide) hc) (fun _ => ?_)
  refine lv_aload_n X.1 X.2.1 dX1_init_21 rfl (lv_at hl.1 1 rfl) ?_
  refine c_get X cX1 ho 0 (by decide) k_306 rfl (v := .ref (G.1 + (z0))) rfl dX1_init_22 ?_
  refine lv_iload_n X.1 X.2.1 dX1_init_25 rfl (lv_at hl.1 0 rfl) ?_
  refine c_new X cX3 k_273 k_275 k_38 hz hS (fs := [.int 0, .int 0, .int 0, .int 0, .int 0, .int 0, .int 0]) (fun j hj => by rcases (show j = 0 ∨ j = 1 ∨ j = 2 ∨ j = 3 ∨ j = 4 ∨ j = 5 ∨ j = 6 by omega) with rfl | rfl | rfl | rfl | rfl | rfl | rfl <;> rfl) (Nat.le_of_ble_eq_true rfl) (Nat.le_of_ble_eq_true rfl) dX1_init_26 ?_
  clear hS
  intro H hn14 hz9 hk hS
  replace ho := gC_k ho (hk _ (by omega))
  replace gr := gGr_k gr (fun q h1 h2 h3 => hk q (by omega))
  replace hn0 := gC_k hn0 (hk _ (by omega))
  replace hz : H.size = G.1 + (z0 + 15) := hz9.trans (by omega)
  clear hz9 hk
  refine lv_dup X.1 X.2.1 dX1_init_29 rfl ?_
  refine c_callN X (As := []) (m_X3_init l G (z0 + 14) (z0 + 15) (by omega)) calX3_init k_277 k_276 rfl hn14 hz hS (fun q h => gCA_up (by omega) (by omega) h) ⟨by decide, by decide⟩ rfl hl rfl (Nat.le_of_ble_eq_true rfl) ⟨Nat.le_of_ble_eq_true rfl, Nat.le_of_ble_eq_true rfl⟩ dX1_init_30 ?_
  clear hS hn14
  intro H locs hn14 hz9 hk hS
  replace ho := gC_k ho (hk _ (by omega) (fun z => by rcases z with z | z <;> omega))
  replace gr := gGr_k gr (fun q h1 h2 h3 => hk q (by omega) (fun z => by rcases z with z | z <;> omega))
  replace hn0 := gC_k hn0 (hk _ (by omega) (fun z => by rcases z with z | z <;> omega))
  replace hz : H.size = G.1 + (z0 + 15) := hz9.trans (by omega)
  clear hz9 hk
  replace hn14 : gC G (z0 + 14) (.inr (3, [.int 0, .int 0, .int 0, .int 0, .int 0, .int 0, .int 0])) H := hn14
  refine c_astq X hn0 (t0 := 3) rfl hn14 (r := (RX3, TX3, 7)) rfl (Or.inr (by show G.1 + z0 ≤ G.1 + (z0); omega)) hS (iI_in (n := 40) (nmI_l (by decide)) ⟨by decide, by decide⟩) dX1_init_33 ?_
  clear hS hn0
  intro H locs hn0 hz9 hk hS
  replace hn0 : gC G (z0) (.inl (G.2.2 3, 40, .inr (.inr (.inr (.inr (va_up (fun k => if k < 13 then some (G.1 + (z0 + 1 + k)) else none) 13 (some (G.1 + (z0 + 14))))))))) H := hn0
  replace hn0 : gC G (z0) (.inl (G.2.2 3, 40, .inr (.inr (.inr (.inr (va_up (fun k => if k < 13 then some (G.1 + (z0 + 1 + k)) else none) 13 (some ((fun k => G.1 + (z0 + 1 + k)) 13)))))))) H := hn0
  rw [gup (g := fun k => G.1 + (z0 + 1 + k))] at hn0
  replace hn0 : gC G (z0) (.inl (G.2.2 3, 40, .inr (.inr (.inr (.inr (fun k => if k < 14 then some (G.1 + (z0 + 1 + k)) else none)))))) H := hn0
  replace ho := gC_k ho (hk _ (by omega))
  replace gr := gGr_k gr (fun q h1 h2 h3 => hk q (by omega))
  replace hn14 := gC_k hn14 (hk _ (by omega))
  rw [← hz9] at hz; clear hz9 hk
  replace gr := gGr_s (n := 13) gr hn14
  clear hn14
  refine g_iinc X (a := 13) (lv' := [(1, .int (iI 14)), (0, .ref (G.1 + (p0)))]) dX1_init_34 hl (k := 0) rfl (by decide) rfl ?_
  clear hl
  intro ls hl
  refine lv_goto (tgt := 15) X.1 X.2.1 dX1_init_37 (by decide) ?_
  refine lv_iload_n X.1 X.2.1 dX1_init_15 rfl (lv_at hl.1 0 rfl) ?_
  refine lv_bipush X.1 X.2.1 dX1_init_16 (v := iI 40) (by decide) ?_
  refine g_icmp_ge X (nmI_l (by decide)) (nmI_l (by decide)) (tgt := 40) dX1_init_18 (by decide) (fun hc => absurd (by decide) hc) (fun _ => ?_)
  refine lv_aload_n X.1 X.2.1 dX1_init_21 rfl (lv_at hl.1 1 rfl) ?_
  refine c_get X cX1 ho 0 (by decide) k_306 rfl (v := .ref (G.1 + (z0))) rfl dX1_init_22 ?_
  refine lv_iload_n X.1 X.2.1 dX1_init_25 rfl (lv_at hl.1 0 rfl) ?_
  refine c_new X cX3 k_273 k_275 k_38 hz hS (fs := [.int 0, .int 0, .int 0, .int 0, .int 0, .int 0, .int 0]) (fun j hj => by rcases (show j = 0 ∨ j = 1 ∨ j = 2 ∨ j = 3 ∨ j = 4 ∨ j = 5 ∨ j = 6 by omega) with rfl | rfl | rfl | rfl | rfl | rfl | rfl <;> rfl) (Nat.le_of_ble_eq_true rfl) (Nat.le_of_ble_eq_true rfl) dX1_init_26 ?_
  clear hS
  intro H hn15 hz9 hk hS
  replace ho := gC_k ho (hk _ (by omega))
  replace gr := gGr_k gr (fun q h1 h2 h3 => hk q (by omega))
  replace hn0 := gC_k hn0 (hk _ (by omega))
  replace hz : H.size = G.1 + (z0 + 16) := hz9.trans (by omega)
  clear hz9 hk
  refine lv_dup X.1 X.2.1 dX1_init_29 rfl ?_
  refine c_callN X (As := []) (m_X3_init l G (z0 + 15) (z0 + 16) (by omega)) calX3_init k_277 k_276 rfl hn15 hz hS (fun q h => gCA_up (by omega) (by omega) h) ⟨by decide, by decide⟩ rfl hl rfl (Nat.le_of_ble_eq_true rfl) ⟨Nat.le_of_ble_eq_true rfl, Nat.le_of_ble_eq_true rfl⟩ dX1_init_30 ?_
  clear hS hn15
  intro H locs hn15 hz9 hk hS
  replace ho := gC_k ho (hk _ (by omega) (fun z => by rcases z with z | z <;> omega))
  replace gr := gGr_k gr (fun q h1 h2 h3 => hk q (by omega) (fun z => by rcases z with z | z <;> omega))
  replace hn0 := gC_k hn0 (hk _ (by omega) (fun z => by rcases z with z | z <;> omega))
  replace hz : H.size = G.1 + (z0 + 16) := hz9.trans (by omega)
  clear hz9 hk
  replace hn15 : gC G (z0 + 15) (.inr (3, [.int 0, .int 0, .int 0, .int 0, .int 0, .int 0, .int 0])) H := hn15
  refine c_astq X hn0 (t0 := 3) rfl hn15 (r := (RX3, TX3, 7)) rfl (Or.inr (by show G.1 + z0 ≤ G.1 + (z0); omega)) hS (iI_in (n := 40) (nmI_l (by decide)) ⟨by decide, by decide⟩) dX1_init_33 ?_
  clear hS hn0
  intro H locs hn0 hz9 hk hS
  replace hn0 : gC G (z0) (.inl (G.2.2 3, 40, .inr (.inr (.inr (.inr (va_up (fun k => if k < 14 then some (G.1 + (z0 + 1 + k)) else none) 14 (some (G.1 + (z0 + 15))))))))) H := hn0
  replace hn0 : gC G (z0) (.inl (G.2.2 3, 40, .inr (.inr (.inr (.inr (va_up (fun k => if k < 14 then some (G.1 + (z0 + 1 + k)) else none) 14 (some ((fun k => G.1 + (z0 + 1 + k)) 14)))))))) H := hn0
  rw [gup (g := fun k => G.1 + (z0 + 1 + k))] at hn0
  replace hn0 : gC G (z0) (.inl (G.2.2 3, 40, .inr (.inr (.inr (.inr (fun k => if k < 15 then some (G.1 + (z0 + 1 + k)) else none)))))) H := hn0
  replace ho := gC_k ho (hk _ (by omega))
  replace gr := gGr_k gr (fun q h1 h2 h3 => hk q (by omega))
  replace hn15 := gC_k hn15 (hk _ (by omega))
  rw [← hz9] at hz; clear hz9 hk
  replace gr := gGr_s (n := 14) gr hn15
  clear hn15
  refine g_iinc X (a := 14) (lv' := [(1, .int (iI 15)), (0, .ref (G.1 + (p0)))]) dX1_init_34 hl (k := 0) rfl (by decide) rfl ?_
  clear hl
  intro ls hl
  refine lv_goto (tgt := 15) X.1 X.2.1 dX1_init_37 (by decide) ?_
  refine lv_iload_n X.1 X.2.1 dX1_init_15 rfl (lv_at hl.1 0 rfl) ?_
  refine lv_bipush X.1 X.2.1 dX1_init_16 (v := iI 40) (by decide) ?_
  refine g_icmp_ge X (nmI_l (by decide)) (nmI_l (by decide)) (tgt := 40) dX1_init_18 (by decide) (fun hc => absurd (by decide) hc) (fun _ => ?_)
  refine lv_aload_n X.1 X.2.1 dX1_init_21 rfl (lv_at hl.1 1 rfl) ?_
  refine c_get X cX1 ho 0 (by decide) k_306 rfl (v := .ref (G.1 + (z0))) rfl dX1_init_22 ?_
  refine lv_iload_n X.1 X.2.1 dX1_init_25 rfl (lv_at hl.1 0 rfl) ?_
  refine c_new X cX3 k_273 k_275 k_38 hz hS (fs := [.int 0, .int 0, .int 0, .int 0, .int 0, .int 0, .int 0]) (fun j hj => by rcases (show j = 0 ∨ j = 1 ∨ j = 2 ∨ j = 3 ∨ j = 4 ∨ j = 5 ∨ j = 6 by omega) with rfl | rfl | rfl | rfl | rfl | rfl | rfl <;> rfl) (Nat.le_of_ble_eq_true rfl) (Nat.le_of_ble_eq_true rfl) dX1_init_26 ?_
  clear hS
  intro H hn16 hz9 hk hS
  replace ho := gC_k ho (hk _ (by omega))
  replace gr := gGr_k gr (fun q h1 h2 h3 => hk q (by omega))
  replace hn0 := gC_k hn0 (hk _ (by omega))
  replace hz : H.size = G.1 + (z0 + 17) := hz9.trans (by omega)
  clear hz9 hk
  refine lv_dup X.1 X.2.1 dX1_init_29 rfl ?_
  refine c_callN X (As := []) (m_X3_init l G (z0 + 16) (z0 + 17) (by omega)) calX3_init k_277 k_276 rfl hn16 hz hS (fun q h => gCA_up (by omega) (by omega) h) ⟨by decide, by decide⟩ rfl hl rfl (Nat.le_of_ble_eq_true rfl) ⟨Nat.le_of_ble_eq_true rfl, Nat.le_of_ble_eq_true rfl⟩ dX1_init_30 ?_
  clear hS hn16
  intro H locs hn16 hz9 hk hS
  replace ho := gC_k ho (hk _ (by omega) (fun z => by rcases z with z | z <;> omega))
  replace gr := gGr_k gr (fun q h1 h2 h3 => hk q (by omega) (fun z => by rcases z with z | z <;> omega))
  replace hn0 := gC_k hn0 (hk _ (by omega) (fun z => by rcases z with z | z <;> omega))
  replace hz : H.size = G.1 + (z0 + 17) := hz9.trans (by omega)
  clear hz9 hk
  replace hn16 : gC G (z0 + 16) (.inr (3, [.int 0, .int 0, .int 0, .int 0, .int 0, .int 0, .int 0])) H := hn16
  refine c_astq X hn0 (t0 := 3) rfl hn16 (r := (RX3, TX3, 7)) rfl (Or.inr (by show G.1 + z0 ≤ G.1 + (z0); omega)) hS (iI_in (n := 40) (nmI_l (by decide)) ⟨by decide, by decide⟩) dX1_init_33 ?_
  clear hS hn0
  intro H locs hn0 hz9 hk hS
  replace hn0 : gC G (z0) (.inl (G.2.2 3, 40, .inr (.inr (.inr (.inr (va_up (fun k => if k < 15 then some (G.1 + (z0 + 1 + k)) else none) 15 (some (G.1 + (z0 + 16))))))))) H := hn0
  replace hn0 : gC G (z0) (.inl (G.2.2 3, 40, .inr (.inr (.inr (.inr (va_up (fun k => if k < 15 then some (G.1 + (z0 + 1 + k)) else none) 15 (some ((fun k => G.1 + (z0 + 1 + k)) 15)))))))) H := hn0
  rw [gup (g := fun k => G.1 + (z0 + 1 + k))] at hn0
  replace hn0 : gC G (z0) (.inl (G.2.2 3, 40, .inr (.inr (.inr (.inr (fun k => if k < 16 then some (G.1 + (z0 + 1 + k)) else none)))))) H := hn0
  replace ho := gC_k ho (hk _ (by omega))
  replace gr := gGr_k gr (fun q h1 h2 h3 => hk q (by omega))
  replace hn16 := gC_k hn16 (hk _ (by omega))
  rw [← hz9] at hz; clear hz9 hk
  replace gr := gGr_s (n := 15) gr hn16
  clear hn16
  refine g_iinc X (a := 15) (lv' := [(1, .int (iI 16)), (0, .ref (G.1 + (p0)))]) dX1_init_34 hl (k := 0) rfl (by decide) rfl ?_
  clear hl
  intro ls hl
  refine lv_goto (tgt := 15) X.1 X.2.1 dX1_init_37 (by decide) ?_
  refine lv_iload_n X.1 X.2.1 dX1_init_15 rfl (lv_at hl.1 0 rfl) ?_
  refine lv_bipush X.1 X.2.1 dX1_init_16 (v := iI 40) (by decide) ?_
  refine g_icmp_ge X (nmI_l (by decide)) (nmI_l (by decide)) (tgt := 40) dX1_init_18 (by decide) (fun hc => absurd (by decide) hc) (fun _ => ?_)
  refine lv_aload_n X.1 X.2.1 dX1_init_21 rfl (lv_at hl.1 1 rfl) ?_
  refine c_get X cX1 ho 0 (by decide) k_306 rfl (v := .ref (G.1 + (z0))) rfl dX1_init_22 ?_
  refine lv_iload_n X.1 X.2.1 dX1_init_25 rfl (lv_at hl.1 0 rfl) ?_
  refine c_new X cX3 k_273 k_275 k_38 hz hS (fs := [.int 0, .int 0, .int 0, .int 0, .int 0, .int 0, .int 0]) (fun j hj => by rcases (show j = 0 ∨ j = 1 ∨ j = 2 ∨ j = 3 ∨ j = 4 ∨ j = 5 ∨ j = 6 by omega) with rfl | rfl | rfl | rfl | rfl | rfl | rfl <;> rfl) (Nat.le_of_ble_eq_true rfl) (Nat.le_of_ble_eq_true rfl) dX1_init_26 ?_
  clear hS
  intro H hn17 hz9 hk hS
  replace ho := gC_k ho (hk _ (by omega))
  replace gr := gGr_k gr (fun q h1 h2 h3 => hk q (by omega))
  replace hn0 := gC_k hn0 (hk _ (by omega))
  replace hz : H.size = G.1 + (z0 + 18) := hz9.trans (by omega)
  clear hz9 hk
  refine lv_dup X.1 X.2.1 dX1_init_29 rfl ?_
  refine c_callN X (As := []) (m_X3_init l G (z0 + 17) (z0 + 18) (by omega)) calX3_init k_277 k_276 rfl hn17 hz hS (fun q h => gCA_up (by omega) (by omega) h) ⟨by decide, by decide⟩ rfl hl rfl (Nat.le_of_ble_eq_true rfl) ⟨Nat.le_of_ble_eq_true rfl, Nat.le_of_ble_eq_true rfl⟩ dX1_init_30 ?_
  clear hS hn17
  intro H locs hn17 hz9 hk hS
  replace ho := gC_k ho (hk _ (by omega) (fun z => by rcases z with z | z <;> omega))
  replace gr := gGr_k gr (fun q h1 h2 h3 => hk q (by omega) (fun z => by rcases z with z | z <;> omega))
  replace hn0 := gC_k hn0 (hk _ (by omega) (fun z => by rcases z with z | z <;> omega))
  replace hz : H.size = G.1 + (z0 + 18) := hz9.trans (by omega)
  clear hz9 hk
  replace hn17 : gC G (z0 + 17) (.inr (3, [.int 0, .int 0, .int 0, .int 0, .int 0, .int 0, .int 0])) H := hn17
  refine c_astq X hn0 (t0 := 3) rfl hn17 (r := (RX3, TX3, 7)) rfl (Or.inr (by show G.1 + z0 ≤ G.1 + (z0); omega)) hS (iI_in (n := 40) (nmI_l (by decide)) ⟨by decide, by decide⟩) dX1_init_33 ?_
  clear hS hn0
  intro H locs hn0 hz9 hk hS
  replace hn0 : gC G (z0) (.inl (G.2.2 3, 40, .inr (.inr (.inr (.inr (va_up (fun k => if k < 16 then some (G.1 + (z0 + 1 + k)) else none) 16 (some (G.1 + (z0 + 17))))))))) H := hn0
  replace hn0 : gC G (z0) (.inl (G.2.2 3, 40, .inr (.inr (.inr (.inr (va_up (fun k => if k < 16 then some (G.1 + (z0 + 1 + k)) else none) 16 (some ((fun k => G.1 + (z0 + 1 + k)) 16)))))))) H := hn0
  rw [gup (g := fun k => G.1 + (z0 + 1 + k))] at hn0
  replace hn0 : gC G (z0) (.inl (G.2.2 3, 40, .inr (.inr (.inr (.inr (fun k => if k < 17 then some (G.1 + (z0 + 1 + k)) else none)))))) H := hn0
  replace ho := gC_k ho (hk _ (by omega))
  replace gr := gGr_k gr (fun q h1 h2 h3 => hk q (by omega))
  replace hn17 := gC_k hn17 (hk _ (by omega))
  rw [← hz9] at hz; clear hz9 hk
  replace gr := gGr_s (n := 16) gr hn17
  clear hn17
  refine g_iinc X (a := 16) (lv' := [(1, .int (iI 17)), (0, .ref (G.1 + (p0)))]) dX1_init_34 hl (k := 0) rfl (by decide) rfl ?_
  clear hl
  intro ls hl
  refine lv_goto (tgt := 15) X.1 X.2.1 dX1_init_37 (by decide) ?_
  refine lv_iload_n X.1 X.2.1 dX1_init_15 rfl (lv_at hl.1 0 rfl) ?_
  refine lv_bipush X.1 X.2.1 dX1_init_16 (v := iI 40) (by decide) ?_
  refine g_icmp_ge X (nmI_l (by decide)) (nmI_l (by decide)) (tgt := 40) dX1_init_18 (by decide) (fun hc => absurd (by decide) hc) (fun _ => ?_)
  refine lv_aload_n X.1 X.2.1 dX1_init_21 rfl (lv_at hl.1 1 rfl) ?_
  refine c_get X cX1 ho 0 (by decide) k_306 rfl (v := .ref (G.1 + (z0))) rfl dX1_init_22 ?_
  refine lv_iload_n X.1 X.2.1 dX1_init_25 rfl (lv_at hl.1 0 rfl) ?_
  refine c_new X cX3 k_273 k_275 k_38 hz hS (fs := [.int 0, .int 0, .int 0, .int 0, .int 0, .int 0, .int 0]) (fun j hj => by rcases (show j = 0 ∨ j = 1 ∨ j = 2 ∨ j = 3 ∨ j = 4 ∨ j = 5 ∨ j = 6 by omega) with rfl | rfl | rfl | rfl | rfl | rfl | rfl <;> rfl) (Nat.le_of_ble_eq_true rfl) (Nat.le_of_ble_eq_true rfl) dX1_init_26 ?_
  clear hS
  intro H hn18 hz9 hk hS
  replace ho := gC_k ho (hk _ (by omega))
  replace gr := gGr_k gr (fun q h1 h2 h3 => hk q (by omega))
  replace hn0 := gC_k hn0 (hk _ (by omega))
  replace hz : H.size = G.1 + (z0 + 19) := hz9.trans (by omega)
  clear hz9 hk
  refine lv_dup X.1 X.2.1 dX1_init_29 rfl ?_
  refine c_callN X (As := []) (m_X3_init l G (z0 + 18) (z0 + 19) (by omega)) calX3_init k_277 k_276 rfl hn18 hz hS (fun q h => gCA_up (by omega) (by omega) h) ⟨by decide, by decide⟩ rfl hl rfl (Nat.le_of_ble_eq_true rfl) ⟨Nat.le_of_ble_eq_true rfl, Nat.le_of_ble_eq_true rfl⟩ dX1_init_30 ?_
  clear hS hn18
  intro H locs hn18 hz9 hk hS
  replace ho := gC_k ho (hk _ (by omega) (fun z => by rcases z with z | z <;> omega))
  replace gr := gGr_k gr (fun q h1 h2 h3 => hk q (by omega) (fun z => by rcases z with z | z <;> omega))
  replace hn0 := gC_k hn0 (hk _ (by omega) (fun z => by rcases z with z | z <;> omega))
  replace hz : H.size = G.1 + (z0 + 19) := hz9.trans (by omega)
  clear hz9 hk
  replace hn18 : gC G (z0 + 18) (.inr (3, [.int 0, .int 0, .int 0, .int 0, .int 0, .int 0, .int 0])) H := hn18
  refine c_astq X hn0 (t0 := 3) rfl hn18 (r := (RX3, TX3, 7)) rfl (Or.inr (by show G.1 + z0 ≤ G.1 + (z0); omega)) hS (iI_in (n := 40) (nmI_l (by decide)) ⟨by decide, by decide⟩) dX1_init_33 ?_
  clear hS hn0
  intro H locs hn0 hz9 hk hS
  replace hn0 : gC G (z0) (.inl (G.2.2 3, 40, .inr (.inr (.inr (.inr (va_up (fun k => if k < 17 then some (G.1 + (z0 + 1 + k)) else none) 17 (some (G.1 + (z0 + 18))))))))) H := hn0
  replace hn0 : gC G (z0) (.inl (G.2.2 3, 40, .inr (.inr (.inr (.inr (va_up (fun k => if k < 17 then some (G.1 + (z0 + 1 + k)) else none) 17 (some ((fun k => G.1 + (z0 + 1 + k)) 17)))))))) H := hn0
  rw [gup (g := fun k => G.1 + (z0 + 1 + k))] at hn0
  replace hn0 : gC G (z0) (.inl (G.2.2 3, 40, .inr (.inr (.inr (.inr (fun k => if k < 18 then some (G.1 + (z0 + 1 + k)) else none)))))) H := hn0
  replace ho := gC_k ho (hk _ (by omega))
  replace gr := gGr_k gr (fun q h1 h2 h3 => hk q (by omega))
  replace hn18 := gC_k hn18 (hk _ (by omega))
  rw [← hz9] at hz; clear hz9 hk
  replace gr := gGr_s (n := 17) gr hn18
  clear hn18
  refine g_iinc X (a := 17) (lv' := [(1, .int (iI 18)), (0, .ref (G.1 + (p0)))]) dX1_init_34 hl (k := 0) rfl (by decide) rfl ?_
  clear hl
  intro ls hl
  refine lv_goto (tgt := 15) X.1 X.2.1 dX1_init_37 (by decide) ?_
  refine lv_iload_n X.1 X.2.1 dX1_init_15 rfl (lv_at hl.1 0 rfl) ?_
  refine lv_bipush X.1 X.2.1 dX1_init_16 (v := iI 40) (by decide) ?_
  refine g_icmp_ge X (nmI_l (by decide)) (nmI_l (by decide)) (tgt := 40) dX1_init_18 (by decide) (fun hc => absurd (by decide) hc) (fun _ => ?_)
  refine lv_aload_n X.1 X.2.1 dX1_init_21 rfl (lv_at hl.1 1 rfl) ?_
  refine c_get X cX1 ho 0 (by decide) k_306 rfl (v := .ref (G.1 + (z0))) rfl dX1_init_22 ?_
  refine lv_iload_n X.1 X.2.1 dX1_init_25 rfl (lv_at hl.1 0 rfl) ?_
  refine c_new X cX3 k_273 k_275 k_38 hz hS (fs := [.int 0, .int 0, .int 0, .int 0, .int 0, .int 0, .int 0]) (fun j hj => by rcases (show j = 0 ∨ j = 1 ∨ j = 2 ∨ j = 3 ∨ j = 4 ∨ j = 5 ∨ j = 6 by omega) with rfl | rfl | rfl | rfl | rfl | rfl | rfl <;> rfl) (Nat.le_of_ble_eq_true rfl) (Nat.le_of_ble_eq_true rfl) dX1_init_26 ?_
  clear hS
  intro H hn19 hz9 hk hS
  replace ho := gC_k ho (hk _ (by omega))
  replace gr := gGr_k gr (fun q h1 h2 h3 => hk q (by omega))
  replace hn0 := gC_k hn0 (hk _ (by omega))
  replace hz : H.size = G.1 + (z0 + 20) := hz9.trans (by omega)
  clear hz9 hk
  refine lv_dup X.1 X.2.1 dX1_init_29 rfl ?_
  refine c_callN X (As := []) (m_X3_init l G (z0 + 19) (z0 + 20) (by omega)) calX3_init k_277 k_276 rfl hn19 hz hS (fun q h => gCA_up (by omega) (by omega) h) ⟨by decide, by decide⟩ rfl hl rfl (Nat.le_of_ble_eq_true rfl) ⟨Nat.le_of_ble_eq_true rfl, Nat.le_of_ble_eq_true rfl⟩ dX1_init_30 ?_
  clear hS hn19
  intro H locs hn19 hz9 hk hS
  replace ho := gC_k ho (hk _ (by omega) (fun z => by rcases z with z | z <;> omega))
  replace gr := gGr_k gr (fun q h1 h2 h3 => hk q (by omega) (fun z => by rcases z with z | z <;> omega))
  replace hn0 := gC_k hn0 (hk _ (by omega) (fun z => by rcases z with z | z <;> omega))
  replace hz : H.size = G.1 + (z0 + 20) := hz9.trans (by omega)
  clear hz9 hk
  replace hn19 : gC G (z0 + 19) (.inr (3, [.int 0, .int 0, .int 0, .int 0, .int 0, .int 0, .int 0])) H := hn19
  refine c_astq X hn0 (t0 := 3) rfl hn19 (r := (RX3, TX3, 7)) rfl (Or.inr (by show G.1 + z0 ≤ G.1 + (z0); omega)) hS (iI_in (n := 40) (nmI_l (by decide)) ⟨by decide, by decide⟩) dX1_init_33 ?_
  clear hS hn0
  intro H locs hn0 hz9 hk hS
  replace hn0 : gC G (z0) (.inl (G.2.2 3, 40, .inr (.inr (.inr (.inr (va_up (fun k => if k < 18 then some (G.1 + (z0 + 1 + k)) else none) 18 (some (G.1 + (z0 + 19))))))))) H := hn0
  replace hn0 : gC G (z0) (.inl (G.2.2 3, 40, .inr (.inr (.inr (.inr (va_up (fun k => if k < 18 then some (G.1 + (z0 + 1 + k)) else none) 18 (some ((fun k => G.1 + (z0 + 1 + k)) 18)))))))) H := hn0
  rw [gup (g := fun k => G.1 + (z0 + 1 + k))] at hn0
  replace hn0 : gC G (z0) (.inl (G.2.2 3, 40, .inr (.inr (.inr (.inr (fun k => if k < 19 then some (G.1 + (z0 + 1 + k)) else none)))))) H := hn0
  replace ho := gC_k ho (hk _ (by omega))
  replace gr := gGr_k gr (fun q h1 h2 h3 => hk q (by omega))
  replace hn19 := gC_k hn19 (hk _ (by omega))
  rw [← hz9] at hz; clear hz9 hk
  replace gr := gGr_s (n := 18) gr hn19
  clear hn19
  refine g_iinc X (a := 18) (lv' := [(1, .int (iI 19)), (0, .ref (G.1 + (p0)))]) dX1_init_34 hl (k := 0) rfl (by decide) rfl ?_
  clear hl
  intro ls hl
  refine lv_goto (tgt := 15) X.1 X.2.1 dX1_init_37 (by decide) ?_
  refine lv_iload_n X.1 X.2.1 dX1_init_15 rfl (lv_at hl.1 0 rfl) ?_
  refine lv_bipush X.1 X.2.1 dX1_init_16 (v := iI 40) (by decide) ?_
  refine g_icmp_ge X (nmI_l (by decide)) (nmI_l (by decide)) (tgt := 40) dX1_init_18 (by decide) (fun hc => absurd (by decide) hc) (fun _ => ?_)
  refine lv_aload_n X.1 X.2.1 dX1_init_21 rfl (lv_at hl.1 1 rfl) ?_
  refine c_get X cX1 ho 0 (by decide) k_306 rfl (v := .ref (G.1 + (z0))) rfl dX1_init_22 ?_
  refine lv_iload_n X.1 X.2.1 dX1_init_25 rfl (lv_at hl.1 0 rfl) ?_
  refine c_new X cX3 k_273 k_275 k_38 hz hS (fs := [.int 0, .int 0, .int 0, .int 0, .int 0, .int 0, .int 0]) (fun j hj => by rcases (show j = 0 ∨ j = 1 ∨ j = 2 ∨ j = 3 ∨ j = 4 ∨ j = 5 ∨ j = 6 by omega) with rfl | rfl | rfl | rfl | rfl | rfl | rfl <;> rfl) (Nat.le_of_ble_eq_true rfl) (Nat.le_of_ble_eq_true rfl) dX1_init_26 ?_
  clear hS
  intro H hn20 hz9 hk hS
  replace ho := gC_k ho (hk _ (by omega))
  replace gr := gGr_k gr (fun q h1 h2 h3 => hk q (by omega))
  replace hn0 := gC_k hn0 (hk _ (by omega))
  replace hz : H.size = G.1 + (z0 + 21) := hz9.trans (by omega)
  clear hz9 hk
  refine lv_dup X.1 X.2.1 dX1_init_29 rfl ?_
  refine c_callN X (As := []) (m_X3_init l G (z0 + 20) (z0 + 21) (by omega)) calX3_init k_277 k_276 rfl hn20 hz hS (fun q h => gCA_up (by omega) (by omega) h) ⟨by decide, by decide⟩ rfl hl rfl (Nat.le_of_ble_eq_true rfl) ⟨Nat.le_of_ble_eq_true rfl, Nat.le_of_ble_eq_true rfl⟩ dX1_init_30 ?_
  clear hS hn20
  intro H locs hn20 hz9 hk hS
  replace ho := gC_k ho (hk _ (by omega) (fun z => by rcases z with z | z <;> omega))
  replace gr := gGr_k gr (fun q h1 h2 h3 => hk q (by omega) (fun z => by rcases z with z | z <;> omega))
  replace hn0 := gC_k hn0 (hk _ (by omega) (fun z => by rcases z with z | z <;> omega))
  replace hz : H.size = G.1 + (z0 + 21) := hz9.trans (by omega)
  clear hz9 hk
  replace hn20 : gC G (z0 + 20) (.inr (3, [.int 0, .int 0, .int 0, .int 0, .int 0, .int 0, .int 0])) H := hn20
  refine c_astq X hn0 (t0 := 3) rfl hn20 (r := (RX3, TX3, 7)) rfl (Or.inr (by show G.1 + z0 ≤ G.1 + (z0); omega)) hS (iI_in (n := 40) (nmI_l (by decide)) ⟨by decide, by decide⟩) dX1_init_33 ?_
  clear hS hn0
  intro H locs hn0 hz9 hk hS
  replace hn0 : gC G (z0) (.inl (G.2.2 3, 40, .inr (.inr (.inr (.inr (va_up (fun k => if k < 19 then some (G.1 + (z0 + 1 + k)) else none) 19 (some (G.1 + (z0 + 20))))))))) H := hn0
  replace hn0 : gC G (z0) (.inl (G.2.2 3, 40, .inr (.inr (.inr (.inr (va_up (fun k => if k < 19 then some (G.1 + (z0 + 1 + k)) else none) 19 (some ((fun k => G.1 + (z0 + 1 + k)) 19)))))))) H := hn0
  rw [gup (g := fun k => G.1 + (z0 + 1 + k))] at hn0
  replace hn0 : gC G (z0) (.inl (G.2.2 3, 40, .inr (.inr (.inr (.inr (fun k => if k < 20 then some (G.1 + (z0 + 1 + k)) else none)))))) H := hn0
  replace ho := gC_k ho (hk _ (by omega))
  replace gr := gGr_k gr (fun q h1 h2 h3 => hk q (by omega))
  replace hn20 := gC_k hn20 (hk _ (by omega))
  rw [← hz9] at hz; clear hz9 hk
  replace gr := gGr_s (n := 19) gr hn20
  clear hn20
  refine g_iinc X (a := 19) (lv' := [(1, .int (iI 20)), (0, .ref (G.1 + (p0)))]) dX1_init_34 hl (k := 0) rfl (by decide) rfl ?_
  clear hl
  intro ls hl
  refine lv_goto (tgt := 15) X.1 X.2.1 dX1_init_37 (by decide) ?_
  refine lv_iload_n X.1 X.2.1 dX1_init_15 rfl (lv_at hl.1 0 rfl) ?_
  refine lv_bipush X.1 X.2.1 dX1_init_16 (v := iI 40) (by decide) ?_
  refine g_icmp_ge X (nmI_l (by decide)) (nmI_l (by decide)) (tgt := 40) dX1_init_18 (by decide) (fun hc => absurd (by decide) hc) (fun _ => ?_)
  refine lv_aload_n X.1 X.2.1 dX1_init_21 rfl (lv_at hl.1 1 rfl) ?_
  refine c_get X cX1 ho 0 (by decide) k_306 rfl (v := .ref (G.1 + (z0))) rfl dX1_init_22 ?_
  refine lv_iload_n X.1 X.2.1 dX1_init_25 rfl (lv_at hl.1 0 rfl) ?_
  refine c_new X cX3 k_273 k_275 k_38 hz hS (fs := [.int 0, .int 0, .int 0, .int 0, .int 0, .int 0, .int 0]) (fun j hj => by rcases (show j = 0 ∨ j = 1 ∨ j = 2 ∨ j = 3 ∨ j = 4 ∨ j = 5 ∨ j = 6 by omega) with rfl | rfl | rfl | rfl | rfl | rfl | rfl <;> rfl) (Nat.le_of_ble_eq_true rfl) (Nat.le_of_ble_eq_true rfl) dX1_init_26 ?_
  clear hS
  intro H hn21 hz9 hk hS
  replace ho := gC_k ho (hk _ (by omega))
  replace gr := gGr_k gr (fun q h1 h2 h3 => hk q (by omega))
  replace hn0 := gC_k hn0 (hk _ (by omega))
  replace hz : H.size = G.1 + (z0 + 22) := hz9.trans (by omega)
  clear hz9 hk
  refine lv_dup X.1 X.2.1 dX1_init_29 rfl ?_
  refine c_callN X (As := []) (m_X3_init l G (z0 + 21) (z0 + 22) (by omega)) calX3_init k_277 k_276 rfl hn21 hz hS (fun q h => gCA_up (by omega) (by omega) h) ⟨by decide, by decide⟩ rfl hl rfl (Nat.le_of_ble_eq_true rfl) ⟨Nat.le_of_ble_eq_true rfl, Nat.le_of_ble_eq_true rfl⟩ dX1_init_30 ?_
  clear hS hn21
  intro H locs hn21 hz9 hk hS
  replace ho := gC_k ho (hk _ (by omega) (fun z => by rcases z with z | z <;> omega))
  replace gr := gGr_k gr (fun q h1 h2 h3 => hk q (by omega) (fun z => by rcases z with z | z <;> omega))
  replace hn0 := gC_k hn0 (hk _ (by omega) (fun z => by rcases z with z | z <;> omega))
  replace hz : H.size = G.1 + (z0 + 22) := hz9.trans (by omega)
  clear hz9 hk
  replace hn21 : gC G (z0 + 21) (.inr (3, [.int 0, .int 0, .int 0, .int 0, .int 0, .int 0, .int 0])) H := hn21
  refine c_astq X hn0 (t0 := 3) rfl hn21 (r := (RX3, TX3, 7)) rfl (Or.inr (by show G.1 + z0 ≤ G.1 + (z0); omega)) hS (iI_in (n := 40) (nmI_l (by decide)) ⟨by decide, by decide⟩) dX1_init_33 ?_
  clear hS hn0
  intro H locs hn0 hz9 hk hS
  replace hn0 : gC G (z0) (.inl (G.2.2 3, 40, .inr (.inr (.inr (.inr (va_up (fun k => if k < 20 then some (G.1 + (z0 + 1 + k)) else none) 20 (some (G.1 + (z0 + 21))))))))) H := hn0
  replace hn0 : gC G (z0) (.inl (G.2.2 3, 40, .inr (.inr (.inr (.inr (va_up (fun k => if k < 20 then some (G.1 + (z0 + 1 + k)) else none) 20 (some ((fun k => G.1 + (z0 + 1 + k)) 20)))))))) H := hn0
  rw [gup (g := fun k => G.1 + (z0 + 1 + k))] at hn0
  replace hn0 : gC G (z0) (.inl (G.2.2 3, 40, .inr (.inr (.inr (.inr (fun k => if k < 21 then some (G.1 + (z0 + 1 + k)) else none)))))) H := hn0
  replace ho := gC_k ho (hk _ (by omega))
  replace gr := gGr_k gr (fun q h1 h2 h3 => hk q (by omega))
  replace hn21 := gC_k hn21 (hk _ (by omega))
  rw [← hz9] at hz; clear hz9 hk
  replace gr := gGr_s (n := 20) gr hn21
  clear hn21
  refine g_iinc X (a := 20) (lv' := [(1, .int (iI 21)), (0, .ref (G.1 + (p0)))]) dX1_init_34 hl (k := 0) rfl (by decide) rfl ?_
  clear hl
  intro ls hl
  refine lv_goto (tgt := 15) X.1 X.2.1 dX1_init_37 (by decide) ?_
  refine lv_iload_n X.1 X.2.1 dX1_init_15 rfl (lv_at hl.1 0 rfl) ?_
  refine lv_bipush X.1 X.2.1 dX1_init_16 (v := iI 40) (by decide) ?_
  refine g_icmp_ge X (nmI_l (by decide)) (nmI_l (by decide)) (tgt := 40) dX1_init_18 (by decide) (fun hc => absurd (by decide) hc) (fun _ => ?_)
  refine lv_aload_n X.1 X.2.1 dX1_init_21 rfl (lv_at hl.1 1 rfl) ?_
  refine c_get X cX1 ho 0 (by decide) k_306 rfl (v := .ref (G.1 + (z0))) rfl dX1_init_22 ?_
  refine lv_iload_n X.1 X.2.1 dX1_init_25 rfl (lv_at hl.1 0 rfl) ?_
  refine c_new X cX3 k_273 k_275 k_38 hz hS (fs := [.int 0, .int 0, .int 0, .int 0, .int 0, .int 0, .int 0]) (fun j hj => by rcases (show j = 0 ∨ j = 1 ∨ j = 2 ∨ j = 3 ∨ j = 4 ∨ j = 5 ∨ j = 6 by omega) with rfl | rfl | rfl | rfl | rfl | rfl | rfl <;> rfl) (Nat.le_of_ble_eq_true rfl) (Nat.le_of_ble_eq_true rfl) dX1_init_26 ?_
  clear hS
  intro H hn22 hz9 hk hS
  replace ho := gC_k ho (hk _ (by omega))
  replace gr := gGr_k gr (fun q h1 h2 h3 => hk q (by omega))
  replace hn0 := gC_k hn0 (hk _ (by omega))
  replace hz : H.size = G.1 + (z0 + 23) := hz9.trans (by omega)
  clear hz9 hk
  refine lv_dup X.1 X.2.1 dX1_init_29 rfl ?_
  refine c_callN X (As := []) (m_X3_init l G (z0 + 22) (z0 + 23) (by omega)) calX3_init k_277 k_276 rfl hn22 hz hS (fun q h => gCA_up (by omega) (by omega) h) ⟨by decide, by decide⟩ rfl hl rfl (Nat.le_of_ble_eq_true rfl) ⟨Nat.le_of_ble_eq_true rfl, Nat.le_of_ble_eq_true rfl⟩ dX1_init_30 ?_
  clear hS hn22
  intro H locs hn22 hz9 hk hS
  replace ho := gC_k ho (hk _ (by omega) (fun z => by rcases z with z | z <;> omega))
  replace gr := gGr_k gr (fun q h1 h2 h3 => hk q (by omega) (fun z => by rcases z with z | z <;> omega))
  replace hn0 := gC_k hn0 (hk _ (by omega) (fun z => by rcases z with z | z <;> omega))
  replace hz : H.size = G.1 + (z0 + 23) := hz9.trans (by omega)
  clear hz9 hk
  replace hn22 : gC G (z0 + 22) (.inr (3, [.int 0, .int 0, .int 0, .int 0, .int 0, .int 0, .int 0])) H := hn22
  refine c_astq X hn0 (t0 := 3) rfl hn22 (r := (RX3, TX3, 7)) rfl (Or.inr (by show G.1 + z0 ≤ G.1 + (z0); omega)) hS (iI_in (n := 40) (nmI_l (by decide)) ⟨by decide, by decide⟩) dX1_init_33 ?_
  clear hS hn0
  intro H locs hn0 hz9 hk hS
  replace hn0 : gC G (z0) (.inl (G.2.2 3, 40, .inr (.inr (.inr (.inr (va_up (fun k => if k < 21 then some (G.1 + (z0 + 1 + k)) else none) 21 (some (G.1 + (z0 + 22))))))))) H := hn0
  replace hn0 : gC G (z0) (.inl (G.2.2 3, 40, .inr (.inr (.inr (.inr (va_up (fun k => if k < 21 then some (G.1 + (z0 + 1 + k)) else none) 21 (some ((fun k => G.1 + (z0 + 1 + k)) 21)))))))) H := hn0
  rw [gup (g := fun k => G.1 + (z0 + 1 + k))] at hn0
  replace hn0 : gC G (z0) (.inl (G.2.2 3, 40, .inr (.inr (.inr (.inr (fun k => if k < 22 then some (G.1 + (z0 + 1 + k)) else none)))))) H := hn0
  replace ho := gC_k ho (hk _ (by omega))
  replace gr := gGr_k gr (fun q h1 h2 h3 => hk q (by omega))
  replace hn22 := gC_k hn22 (hk _ (by omega))
  rw [← hz9] at hz; clear hz9 hk
  replace gr := gGr_s (n := 21) gr hn22
  clear hn22
  refine g_iinc X (a := 21) (lv' := [(1, .int (iI 22)), (0, .ref (G.1 + (p0)))]) dX1_init_34 hl (k := 0) rfl (by decide) rfl ?_
  clear hl
  intro ls hl
  refine lv_goto (tgt := 15) X.1 X.2.1 dX1_init_37 (by decide) ?_
  refine lv_iload_n X.1 X.2.1 dX1_init_15 rfl (lv_at hl.1 0 rfl) ?_
  refine lv_bipush X.1 X.2.1 dX1_init_16 (v := iI 40) (by decide) ?_
  refine g_icmp_ge X (nmI_l (by decide)) (nmI_l (by decide)) (tgt := 40) dX1_init_18 (by decide) (fun hc => absurd (by decide) hc) (fun _ => ?_)
  refine lv_aload_n X.1 X.2.1 dX1_init_21 rfl (lv_at hl.1 1 rfl) ?_
  refine c_get X cX1 ho 0 (by decide) k_306 rfl (v := .ref (G.1 + (z0))) rfl dX1_init_22 ?_
  refine lv_iload_n X.1 X.2.1 dX1_init_25 rfl (lv_at hl.1 0 rfl) ?_
  refine c_new X cX3 k_273 k_275 k_38 hz hS (fs := [.int 0, .int 0, .int 0, .int 0, .int 0, .int 0, .int 0]) (fun j hj => by rcases (show j = 0 ∨ j = 1 ∨ j = 2 ∨ j = 3 ∨ j = 4 ∨ j = 5 ∨ j = 6 by omega) with rfl | rfl | rfl | rfl | rfl | rfl | rfl <;> rfl) (Nat.le_of_ble_eq_true rfl) (Nat.le_of_ble_eq_true rfl) dX1_init_26 ?_
  clear hS
  intro H hn23 hz9 hk hS
  replace ho := gC_k ho (hk _ (by omega))
  replace gr := gGr_k gr (fun q h1 h2 h3 => hk q (by omega))
  replace hn0 := gC_k hn0 (hk _ (by omega))
  replace hz : H.size = G.1 + (z0 + 24) := hz9.trans (by omega)
  clear hz9 hk
  refine lv_dup X.1 X.2.1 dX1_init_29 rfl ?_
  refine c_callN X (As := []) (m_X3_init l G (z0 + 23) (z0 + 24) (by omega)) calX3_init k_277 k_276 rfl hn23 hz hS (fun q h => gCA_up (by omega) (by omega) h) ⟨by decide, by decide⟩ rfl hl rfl (Nat.le_of_ble_eq_true rfl) ⟨Nat.le_of_ble_eq_true rfl, Nat.le_of_ble_eq_true rfl⟩ dX1_init_30 ?_
  clear hS hn23
  intro H locs hn23 hz9 hk hS
  replace ho := gC_k ho (hk _ (by omega) (fun z => by rcases z with z | z <;> omega))
  replace gr := gGr_k gr (fun q h1 h2 h3 => hk q (by omega) (fun z => by rcases z with z | z <;> omega))
  replace hn0 := gC_k hn0 (hk _ (by omega) (fun z => by rcases z with z | z <;> omega))
  replace hz : H.size = G.1 + (z0 + 24) := hz9.trans (by omega)
  clear hz9 hk
  replace hn23 : gC G (z0 + 23) (.inr (3, [.int 0, .int 0, .int 0, .int 0, .int 0, .int 0, .int 0])) H := hn23
  refine c_astq X hn0 (t0 := 3) rfl hn23 (r := (RX3, TX3, 7)) rfl (Or.inr (by show G.1 + z0 ≤ G.1 + (z0); omega)) hS (iI_in (n := 40) (nmI_l (by decide)) ⟨by decide, by decide⟩) dX1_init_33 ?_
  clear hS hn0
  intro H locs hn0 hz9 hk hS
  replace hn0 : gC G (z0) (.inl (G.2.2 3, 40, .inr (.inr (.inr (.inr (va_up (fun k => if k < 22 then some (G.1 + (z0 + 1 + k)) else none) 22 (some (G.1 + (z0 + 23))))))))) H := hn0
  replace hn0 : gC G (z0) (.inl (G.2.2 3, 40, .inr (.inr (.inr (.inr (va_up (fun k => if k < 22 then some (G.1 + (z0 + 1 + k)) else none) 22 (some ((fun k => G.1 + (z0 + 1 + k)) 22)))))))) H := hn0
  rw [gup (g := fun k => G.1 + (z0 + 1 + k))] at hn0
  replace hn0 : gC G (z0) (.inl (G.2.2 3, 40, .inr (.inr (.inr (.inr (fun k => if k < 23 then some (G.1 + (z0 + 1 + k)) else none)))))) H := hn0
  replace ho := gC_k ho (hk _ (by omega))
  replace gr := gGr_k gr (fun q h1 h2 h3 => hk q (by omega))
  replace hn23 := gC_k hn23 (hk _ (by omega))
  rw [← hz9] at hz; clear hz9 hk
  replace gr := gGr_s (n := 22) gr hn23
  clear hn23
  refine g_iinc X (a := 22) (lv' := [(1, .int (iI 23)), (0, .ref (G.1 + (p0)))]) dX1_init_34 hl (k := 0) rfl (by decide) rfl ?_
  clear hl
  intro ls hl
  refine lv_goto (tgt := 15) X.1 X.2.1 dX1_init_37 (by decide) ?_
  refine lv_iload_n X.1 X.2.1 dX1_init_15 rfl (lv_at hl.1 0 rfl) ?_
  refine lv_bipush X.1 X.2.1 dX1_init_16 (v := iI 40) (by decide) ?_
  refine g_icmp_ge X (nmI_l (by decide)) (nmI_l (by decide)) (tgt := 40) dX1_init_18 (by decide) (fun hc => absurd (by decide) hc) (fun _ => ?_)
  refine lv_aload_n X.1 X.2.1 dX1_init_21 rfl (lv_at hl.1 1 rfl) ?_
  refine c_get X cX1 ho 0 (by decide) k_306 rfl (v := .ref (G.1 + (z0))) rfl dX1_init_22 ?_
  refine lv_iload_n X.1 X.2.1 dX1_init_25 rfl (lv_at hl.1 0 rfl) ?_
  refine c_new X cX3 k_273 k_275 k_38 hz hS (fs := [.int 0, .int 0, .int 0, .int 0, .int 0, .int 0, .int 0]) (fun j hj => by rcases (show j = 0 ∨ j = 1 ∨ j = 2 ∨ j = 3 ∨ j = 4 ∨ j = 5 ∨ j = 6 by omega) with rfl | rfl | rfl | rfl | rfl | rfl | rfl <;> rfl) (Nat.le_of_ble_eq_true rfl) (Nat.le_of_ble_eq_true rfl) dX1_init_26 ?_
  clear hS
  intro H hn24 hz9 hk hS
  replace ho := gC_k ho (hk _ (by omega))
  replace gr := gGr_k gr (fun q h1 h2 h3 => hk q (by omega))
  replace hn0 := gC_k hn0 (hk _ (by omega))
  replace hz : H.size = G.1 + (z0 + 25) := hz9.trans (by omega)
  clear hz9 hk
  refine lv_dup X.1 X.2.1 dX1_init_29 rfl ?_
  refine c_callN X (As := []) (m_X3_init l G (z0 + 24) (z0 + 25) (by omega)) calX3_init k_277 k_276 rfl hn24 hz hS (fun q h => gCA_up (by omega) (by omega) h) ⟨by decide, by decide⟩ rfl hl rfl (Nat.le_of_ble_eq_true rfl) ⟨Nat.le_of_ble_eq_true rfl, Nat.le_of_ble_eq_true rfl⟩ dX1_init_30 ?_
  clear hS hn24
  intro H locs hn24 hz9 hk hS
  replace ho := gC_k ho (hk _ (by omega) (fun z => by rcases z with z | z <;> omega))
  replace gr := gGr_k gr (fun q h1 h2 h3 => hk q (by omega) (fun z => by rcases z with z | z <;> omega))
  replace hn0 := gC_k hn0 (hk _ (by omega) (fun z => by rcases z with z | z <;> omega))
  replace hz : H.size = G.1 + (z0 + 25) := hz9.trans (by omega)
  clear hz9 hk
  replace hn24 : gC G (z0 + 24) (.inr (3, [.int 0, .int 0, .int 0, .int 0, .int 0, .int 0, .int 0])) H := hn24
  refine c_astq X hn0 (t0 := 3) rfl hn24 (r := (RX3, TX3, 7)) rfl (Or.inr (by show G.1 + z0 ≤ G.1 + (z0); omega)) hS (iI_in (n := 40) (nmI_l (by decide)) ⟨by decide, by decide⟩) dX1_init_33 ?_
  clear hS hn0
  intro H locs hn0 hz9 hk hS
  replace hn0 : gC G (z0) (.inl (G.2.2 3, 40, .inr (.inr (.inr (.inr (va_up (fun k => if k < 23 then some (G.1 + (z0 + 1 + k)) else none) 23 (some (G.1 + (z0 + 24))))))))) H := hn0
  replace hn0 : gC G (z0) (.inl (G.2.2 3, 40, .inr (.inr (.inr (.inr (va_up (fun k => if k < 23 then some (G.1 + (z0 + 1 + k)) else none) 23 (some ((fun k => G.1 + (z0 + 1 + k)) 23)))))))) H := hn0
  rw [gup (g := fun k => G.1 + (z0 + 1 + k))] at hn0
  replace hn0 : gC G (z0) (.inl (G.2.2 3, 40, .inr (.inr (.inr (.inr (fun k => if k < 24 then some (G.1 + (z0 + 1 + k)) else none)))))) H := hn0
  replace ho := gC_k ho (hk _ (by omega))
  replace gr := gGr_k gr (fun q h1 h2 h3 => hk q (by omega))
  replace hn24 := gC_k hn24 (hk _ (by omega))
  rw [← hz9] at hz; clear hz9 hk
  replace gr := gGr_s (n := 23) gr hn24
  clear hn24
  refine g_iinc X (a := 23) (lv' := [(1, .int (iI 24)), (0, .ref (G.1 + (p0)))]) dX1_init_34 hl (k := 0) rfl (by decide) rfl ?_
  clear hl
  intro ls hl
  refine lv_goto (tgt := 15) X.1 X.2.1 dX1_init_37 (by decide) ?_
  refine lv_iload_n X.1 X.2.1 dX1_init_15 rfl (lv_at hl.1 0 rfl) ?_
  refine lv_bipush X.1 X.2.1 dX1_init_16 (v := iI 40) (by decide) ?_
  refine g_icmp_ge X (nmI_l (by decide)) (nmI_l (by decide)) (tgt := 40) dX1_init_18 (by decide) (fun hc => absurd (by decide) hc) (fun _ => ?_)
  refine lv_aload_n X.1 X.2.1 dX1_init_21 rfl (lv_at hl.1 1 rfl) ?_
  refine c_get X cX1 ho 0 (by decide) k_306 rfl (v := .ref (G.1 + (z0))) rfl dX1_init_22 ?_
  refine lv_iload_n X.1 X.2.1 dX1_init_25 rfl (lv_at hl.1 0 rfl) ?_
  refine c_new X cX3 k_273 k_275 k_38 hz hS (fs := [.int 0, .int 0, .int 0, .int 0, .int 0, .int 0, .int 0]) (fun j hj => by rcases (show j = 0 ∨ j = 1 ∨ j = 2 ∨ j = 3 ∨ j = 4 ∨ j = 5 ∨ j = 6 by omega) with rfl | rfl | rfl | rfl | rfl | rfl | rfl <;> rfl) (Nat.le_of_ble_eq_true rfl) (Nat.le_of_ble_eq_true rfl) dX1_init_26 ?_
  clear hS
  intro H hn25 hz9 hk hS
  replace ho := gC_k ho (hk _ (by omega))
  replace gr := gGr_k gr (fun q h1 h2 h3 => hk q (by omega))
  replace hn0 := gC_k hn0 (hk _ (by omega))
  replace hz : H.size = G.1 + (z0 + 26) := hz9.trans (by omega)
  clear hz9 hk
  refine lv_dup X.1 X.2.1 dX1_init_29 rfl ?_
  refine c_callN X (As := []) (m_X3_init l G (z0 + 25) (z0 + 26) (by omega)) calX3_init k_277 k_276 rfl hn25 hz hS (fun q h => gCA_up (by omega) (by omega) h) ⟨by decide, by decide⟩ rfl hl rfl (Nat.le_of_ble_eq_true rfl) ⟨Nat.le_of_ble_eq_true rfl, Nat.le_of_ble_eq_true rfl⟩ dX1_init_30 ?_
  clear hS hn25
  intro H locs hn25 hz9 hk hS
  replace ho := gC_k ho (hk _ (by omega) (fun z => by rcases z with z | z <;> omega))
  replace gr := gGr_k gr (fun q h1 h2 h3 => hk q (by omega) (fun z => by rcases z with z | z <;> omega))
  replace hn0 := gC_k hn0 (hk _ (by omega) (fun z => by rcases z with z | z <;> omega))
  replace hz : H.size = G.1 + (z0 + 26) := hz9.trans (by omega)
  clear hz9 hk
  replace hn25 : gC G (z0 + 25) (.inr (3, [.int 0, .int 0, .int 0, .int 0, .int 0, .int 0, .int 0])) H := hn25
  refine c_astq X hn0 (t0 := 3) rfl hn25 (r := (RX3, TX3, 7)) rfl (Or.inr (by show G.1 + z0 ≤ G.1 + (z0); omega)) hS (iI_in (n := 40) (nmI_l (by decide)) ⟨by decide, by decide⟩) dX1_init_33 ?_
  clear hS hn0
  intro H locs hn0 hz9 hk hS
  replace hn0 : gC G (z0) (.inl (G.2.2 3, 40, .inr (.inr (.inr (.inr (va_up (fun k => if k < 24 then some (G.1 + (z0 + 1 + k)) else none) 24 (some (G.1 + (z0 + 25))))))))) H := hn0
  replace hn0 : gC G (z0) (.inl (G.2.2 3, 40, .inr (.inr (.inr (.inr (va_up (fun k => if k < 24 then some (G.1 + (z0 + 1 + k)) else none) 24 (some ((fun k => G.1 + (z0 + 1 + k)) 24)))))))) H := hn0
  rw [gup (g := fun k => G.1 + (z0 + 1 + k))] at hn0
  replace hn0 : gC G (z0) (.inl (G.2.2 3, 40, .inr (.inr (.inr (.inr (fun k => if k < 25 then some (G.1 + (z0 + 1 + k)) else none)))))) H := hn0
  replace ho := gC_k ho (hk _ (by omega))
  replace gr := gGr_k gr (fun q h1 h2 h3 => hk q (by omega))
  replace hn25 := gC_k hn25 (hk _ (by omega))
  rw [← hz9] at hz; clear hz9 hk
  replace gr := gGr_s (n := 24) gr hn25
  clear hn25
  refine g_iinc X (a := 24) (lv' := [(1, .int (iI 25)), (0, .ref (G.1 + (p0)))]) dX1_init_34 hl (k := 0) rfl (by decide) rfl ?_
  clear hl
  intro ls hl
  refine lv_goto (tgt := 15) X.1 X.2.1 dX1_init_37 (by decide) ?_
  refine lv_iload_n X.1 X.2.1 dX1_init_15 rfl (lv_at hl.1 0 rfl) ?_
  refine lv_bipush X.1 X.2.1 dX1_init_16 (v := iI 40) (by decide) ?_
  refine g_icmp_ge X (nmI_l (by decide)) (nmI_l (by decide)) (tgt := 40) dX1_init_18 (by decide) (fun hc => absurd (by decide) hc) (fun _ => ?_)
  refine lv_aload_n X.1 X.2.1 dX1_init_21 rfl (lv_at hl.1 1 rfl) ?_
  refine c_get X cX1 ho 0 (by decide) k_306 rfl (v := .ref (G.1 + (z0))) rfl dX1_init_22 ?_
  refine lv_iload_n X.1 X.2.1 dX1_init_25 rfl (lv_at hl.1 0 rfl) ?_
  refine c_new X cX3 k_273 k_275 k_38 hz hS (fs := [.int 0, .int 0, .int 0, .int 0, .int 0, .int 0, .int 0]) (fun j hj => by rcases (show j = 0 ∨ j = 1 ∨ j = 2 ∨ j = 3 ∨ j = 4 ∨ j = 5 ∨ j = 6 by omega) with rfl | rfl | rfl | rfl | rfl | rfl | rfl <;> rfl) (Nat.le_of_ble_eq_true rfl) (Nat.le_of_ble_eq_true rfl) dX1_init_26 ?_
  clear hS
  intro H hn26 hz9 hk hS
  replace ho := gC_k ho (hk _ (by omega))
  replace gr := gGr_k gr (fun q h1 h2 h3 => hk q (by omega))
  replace hn0 := gC_k hn0 (hk _ (by omega))
  replace hz : H.size = G.1 + (z0 + 27) := hz9.trans (by omega)
  clear hz9 hk
  refine lv_dup X.1 X.2.1 dX1_init_29 rfl ?_
  refine c_callN X (As := []) (m_X3_init l G (z0 + 26) (z0 + 27) (by omega)) calX3_init k_277 k_276 rfl hn26 hz hS (fun q h => gCA_up (by omega) (by omega) h) ⟨by decide, by decide⟩ rfl hl rfl (Nat.le_of_ble_eq_true rfl) ⟨Nat.le_of_ble_eq_true rfl, Nat.le_of_ble_eq_true rfl⟩ dX1_init_30 ?_
  clear hS hn26
  intro H locs hn26 hz9 hk hS
  replace ho := gC_k ho (hk _ (by omega) (fun z => by rcases z with z | z <;> omega))
  replace gr := gGr_k gr (fun q h1 h2 h3 => hk q (by omega) (fun z => by rcases z with z | z <;> omega))
  replace hn0 := gC_k hn0 (hk _ (by omega) (fun z => by rcases z with z | z <;> omega))
  replace hz : H.size = G.1 + (z0 + 27) := hz9.trans (by omega)
  clear hz9 hk
  replace hn26 : gC G (z0 + 26) (.inr (3, [.int 0, .int 0, .int 0, .int 0, .int 0, .int 0, .int 0])) H := hn26
  refine c_astq X hn0 (t0 := 3) rfl hn26 (r := (RX3, TX3, 7)) rfl (Or.inr (by show G.1 + z0 ≤ G.1 + (z0); omega)) hS (iI_in (n := 40) (nmI_l (by decide)) ⟨by decide, by decide⟩) dX1_init_33 ?_
  clear hS hn0
  intro H locs hn0 hz9 hk hS
  replace hn0 : gC G (z0) (.inl (G.2.2 3, 40, .inr (.inr (.inr (.inr (va_up (fun k => if k < 25 then some (G.1 + (z0 + 1 + k)) else none) 25 (some (G.1 + (z0 + 26))))))))) H := hn0
  replace hn0 : gC G (z0) (.inl (G.2.2 3, 40, .inr (.inr (.inr (.inr (va_up (fun k => if k < 25 then some (G.1 + (z0 + 1 + k)) else none) 25 (some ((fun k => G.1 + (z0 + 1 + k)) 25)))))))) H := hn0
  rw [gup (g := fun k => G.1 + (z0 + 1 + k))] at hn0
  replace hn0 : gC G (z0) (.inl (G.2.2 3, 40, .inr (.inr (.inr (.inr (fun k => if k < 26 then some (G.1 + (z0 + 1 + k)) else none)))))) H := hn0
  replace ho := gC_k ho (hk _ (by omega))
  replace gr := gGr_k gr (fun q h1 h2 h3 => hk q (by omega))
  replace hn26 := gC_k hn26 (hk _ (by omega))
  rw [← hz9] at hz; clear hz9 hk
  replace gr := gGr_s (n := 25) gr hn26
  clear hn26
  refine g_iinc X (a := 25) (lv' := [(1, .int (iI 26)), (0, .ref (G.1 + (p0)))]) dX1_init_34 hl (k := 0) rfl (by decide) rfl ?_
  clear hl
  intro ls hl
  refine lv_goto (tgt := 15) X.1 X.2.1 dX1_init_37 (by decide) ?_
  refine lv_iload_n X.1 X.2.1 dX1_init_15 rfl (lv_at hl.1 0 rfl) ?_
  refine lv_bipush X.1 X.2.1 dX1_init_16 (v := iI 40) (by decide) ?_
  refine g_icmp_ge X (nmI_l (by decide)) (nmI_l (by decide)) (tgt := 40) dX1_init_18 (by decide) (fun hc => absurd (by decide) hc) (fun _ => ?_)
  refine lv_aload_n X.1 X.2.1 dX1_init_21 rfl (lv_at hl.1 1 rfl) ?_
  refine c_get X cX1 ho 0 (by decide) k_306 rfl (v := .ref (G.1 + (z0))) rfl dX1_init_22 ?_
  refine lv_iload_n X.1 X.2.1 dX1_init_25 rfl (lv_at hl.1 0 rfl) ?_
  refine c_new X cX3 k_273 k_275 k_38 hz hS (fs := [.int 0, .int 0, .int 0, .int 0, .int 0, .int 0, .int 0]) (fun j hj => by rcases (show j = 0 ∨ j = 1 ∨ j = 2 ∨ j = 3 ∨ j = 4 ∨ j = 5 ∨ j = 6 by omega) with rfl | rfl | rfl | rfl | rfl | rfl | rfl <;> rfl) (Nat.le_of_ble_eq_true rfl) (Nat.le_of_ble_eq_true rfl) dX1_init_26 ?_
  clear hS
  intro H hn27 hz9 hk hS
  replace ho := gC_k ho (hk _ (by omega))
  replace gr := gGr_k gr (fun q h1 h2 h3 => hk q (by omega))
  replace hn0 := gC_k hn0 (hk _ (by omega))
  replace hz : H.size = G.1 + (z0 + 28) := hz9.trans (by omega)
  clear hz9 hk
  refine lv_dup X.1 X.2.1 dX1_init_29 rfl ?_
  refine c_callN X (As := []) (m_X3_init l G (z0 + 27) (z0 + 28) (by omega)) calX3_init k_277 k_276 rfl hn27 hz hS (fun q h => gCA_up (by omega) (by omega) h) ⟨by decide, by decide⟩ rfl hl rfl (Nat.le_of_ble_eq_true rfl) ⟨Nat.le_of_ble_eq_true rfl, Nat.le_of_ble_eq_true rfl⟩ dX1_init_30 ?_
  clear hS hn27
  intro H locs hn27 hz9 hk hS
  replace ho := gC_k ho (hk _ (by omega) (fun z => by rcases z with z | z <;> omega))
  replace gr := gGr_k gr (fun q h1 h2 h3 => hk q (by omega) (fun z => by rcases z with z | z <;> omega))
  replace hn0 := gC_k hn0 (hk _ (by omega) (fun z => by rcases z with z | z <;> omega))
  replace hz : H.size = G.1 + (z0 + 28) := hz9.trans (by omega)
  clear hz9 hk
  replace hn27 : gC G (z0 + 27) (.inr (3, [.int 0, .int 0, .int 0, .int 0, .int 0, .int 0, .int 0])) H := hn27
  refine c_astq X hn0 (t0 := 3) rfl hn27 (r := (RX3, TX3, 7)) rfl (Or.inr (by show G.1 + z0 ≤ G.1 + (z0); omega)) hS (iI_in (n := 40) (nmI_l (by decide)) ⟨by decide, by decide⟩) dX1_init_33 ?_
  clear hS hn0
  intro H locs hn0 hz9 hk hS
  replace hn0 : gC G (z0) (.inl (G.2.2 3, 40, .inr (.inr (.inr (.inr (va_up (fun k => if k < 26 then some (G.1 + (z0 + 1 + k)) else none) 26 (some (G.1 + (z0 + 27))))))))) H := hn0
  replace hn0 : gC G (z0) (.inl (G.2.2 3, 40, .inr (.inr (.inr (.inr (va_up (fun k => if k < 26 then some (G.1 + (z0 + 1 + k)) else none) 26 (some ((fun k => G.1 + (z0 + 1 + k)) 26)))))))) H := hn0
  rw [gup (g := fun k => G.1 + (z0 + 1 + k))] at hn0
  replace hn0 : gC G (z0) (.inl (G.2.2 3, 40, .inr (.inr (.inr (.inr (fun k => if k < 27 then some (G.1 + (z0 + 1 + k)) else none)))))) H := hn0
  replace ho := gC_k ho (hk _ (by omega))
  replace gr := gGr_k gr (fun q h1 h2 h3 => hk q (by omega))
  replace hn27 := gC_k hn27 (hk _ (by omega))
  rw [← hz9] at hz; clear hz9 hk
  replace gr := gGr_s (n := 26) gr hn27
  clear hn27
  refine g_iinc X (a := 26) (lv' := [(1, .int (iI 27)), (0, .ref (G.1 + (p0)))]) dX1_init_34 hl (k := 0) rfl (by decide) rfl ?_
  clear hl
  intro ls hl
  refine lv_goto (tgt := 15) X.1 X.2.1 dX1_init_37 (by decide) ?_
  refine lv_iload_n X.1 X.2.1 dX1_init_15 rfl (lv_at hl.1 0 rfl) ?_
  refine lv_bipush X.1 X.2.1 dX1_init_16 (v := iI 40) (by decide) ?_
  refine g_icmp_ge X (nmI_l (by decide)) (nmI_l (by decide)) (tgt := 40) dX1_init_18 (by decide) (fun hc => absurd (by decide) hc) (fun _ => ?_)
  refine lv_aload_n X.1 X.2.1 dX1_init_21 rfl (lv_at hl.1 1 rfl) ?_
  refine c_get X cX1 ho 0 (by decide) k_306 rfl (v := .ref (G.1 + (z0))) rfl dX1_init_22 ?_
  refine lv_iload_n X.1 X.2.1 dX1_init_25 rfl (lv_at hl.1 0 rfl) ?_
  refine c_new X cX3 k_273 k_275 k_38 hz hS (fs := [.int 0, .int 0, .int 0, .int 0, .int 0, .int 0, .int 0]) (fun j hj => by rcases (show j = 0 ∨ j = 1 ∨ j = 2 ∨ j = 3 ∨ j = 4 ∨ j = 5 ∨ j = 6 by omega) with rfl | rfl | rfl | rfl | rfl | rfl | rfl <;> rfl) (Nat.le_of_ble_eq_true rfl) (Nat.le_of_ble_eq_true rfl) dX1_init_26 ?_
  clear hS
  intro H hn28 hz9 hk hS
  replace ho := gC_k ho (hk _ (by omega))
  replace gr := gGr_k gr (fun q h1 h2 h3 => hk q (by omega))
  replace hn0 := gC_k hn0 (hk _ (by omega))
  replace hz : H.size = G.1 + (z0 + 29) := hz9.trans (by omega)
  clear hz9 hk
  refine lv_dup X.1 X.2.1 dX1_init_29 rfl ?_
  refine c_callN X (As := []) (m_X3_init l G (z0 + 28) (z0 + 29) (by omega)) calX3_init k_277 k_276 rfl hn28 hz hS (fun q h => gCA_up (by omega) (by omega) h) ⟨by decide, by decide⟩ rfl hl rfl (Nat.le_of_ble_eq_true rfl) ⟨Nat.le_of_ble_eq_true rfl, Nat.le_of_ble_eq_true rfl⟩ dX1_init_30 ?_
  clear hS hn28
  intro H locs hn28 hz9 hk hS
  replace ho := gC_k ho (hk _ (by omega) (fun z => by rcases z with z | z <;> omega))
  replace gr := gGr_k gr (fun q h1 h2 h3 => hk q (by omega) (fun z => by rcases z with z | z <;> omega))
  replace hn0 := gC_k hn0 (hk _ (by omega) (fun z => by rcases z with z | z <;> omega))
  replace hz : H.size = G.1 + (z0 + 29) := hz9.trans (by omega)
  clear hz9 hk
  replace hn28 : gC G (z0 + 28) (.inr (3, [.int 0, .int 0, .int 0, .int 0, .int 0, .int 0, .int 0])) H := hn28
  refine c_astq X hn0 (t0 := 3) rfl hn28 (r := (RX3, TX3, 7)) rfl (Or.inr (by show G.1 + z0 ≤ G.1 + (z0); omega)) hS (iI_in (n := 40) (nmI_l (by decide)) ⟨by decide, by decide⟩) dX1_init_33 ?_
  clear hS hn0
  intro H locs hn0 hz9 hk hS
  replace hn0 : gC G (z0) (.inl (G.2.2 3, 40, .inr (.inr (.inr (.inr (va_up (fun k => if k < 27 then some (G.1 + (z0 + 1 + k)) else none) 27 (some (G.1 + (z0 + 28))))))))) H := hn0
  replace hn0 : gC G (z0) (.inl (G.2.2 3, 40, .inr (.inr (.inr (.inr (va_up (fun k => if k < 27 then some (G.1 + (z0 + 1 + k)) else none) 27 (some ((fun k => G.1 + (z0 + 1 + k)) 27)))))))) H := hn0
  rw [gup (g := fun k => G.1 + (z0 + 1 + k))] at hn0
  replace hn0 : gC G (z0) (.inl (G.2.2 3, 40, .inr (.inr (.inr (.inr (fun k => if k < 28 then some (G.1 + (z0 + 1 + k)) else none)))))) H := hn0
  replace ho := gC_k ho (hk _ (by omega))
  replace gr := gGr_k gr (fun q h1 h2 h3 => hk q (by omega))
  replace hn28 := gC_k hn28 (hk _ (by omega))
  rw [← hz9] at hz; clear hz9 hk
  replace gr := gGr_s (n := 27) gr hn28
  clear hn28
  refine g_iinc X (a := 27) (lv' := [(1, .int (iI 28)), (0, .ref (G.1 + (p0)))]) dX1_init_34 hl (k := 0) rfl (by decide) rfl ?_
  clear hl
  intro ls hl
  refine lv_goto (tgt := 15) X.1 X.2.1 dX1_init_37 (by decide) ?_
  refine lv_iload_n X.1 X.2.1 dX1_init_15 rfl (lv_at hl.1 0 rfl) ?_
  refine lv_bipush X.1 X.2.1 dX1_init_16 (v := iI 40) (by decide) ?_
  refine g_icmp_ge X (nmI_l (by decide)) (nmI_l (by decide)) (tgt := 40) dX1_init_18 (by decide) (fun hc => absurd (by decide) hc) (fun _ => ?_)
  refine lv_aload_n X.1 X.2.1 dX1_init_21 rfl (lv_at hl.1 1 rfl) ?_
  refine c_get X cX1 ho 0 (by decide) k_306 rfl (v := .ref (G.1 + (z0))) rfl dX1_init_22 ?_
  refine lv_iload_n X.1 X.2.1 dX1_init_25 rfl (lv_at hl.1 0 rfl) ?_
  refine c_new X cX3 k_273 k_275 k_38 hz hS (fs := [.int 0, .int 0, .int 0, .int 0, .int 0, .int 0, .int 0]) (fun j hj => by rcases (show j = 0 ∨ j = 1 ∨ j = 2 ∨ j = 3 ∨ j = 4 ∨ j = 5 ∨ j = 6 by omega) with rfl | rfl | rfl | rfl | rfl | rfl | rfl <;> rfl) (Nat.le_of_ble_eq_true rfl) (Nat.le_of_ble_eq_true rfl) dX1_init_26 ?_
  clear hS
  intro H hn29 hz9 hk hS
  replace ho := gC_k ho (hk _ (by omega))
  replace gr := gGr_k gr (fun q h1 h2 h3 => hk q (by omega))
  replace hn0 := gC_k hn0 (hk _ (by omega))
  replace hz : H.size = G.1 + (z0 + 30) := hz9.trans (by omega)
  clear hz9 hk
  refine lv_dup X.1 X.2.1 dX1_init_29 rfl ?_
  refine c_callN X (As := []) (m_X3_init l G (z0 + 29) (z0 + 30) (by omega)) calX3_init k_277 k_276 rfl hn29 hz hS (fun q h => gCA_up (by omega) (by omega) h) ⟨by decide, by decide⟩ rfl hl rfl (Nat.le_of_ble_eq_true rfl) ⟨Nat.le_of_ble_eq_true rfl, Nat.le_of_ble_eq_true rfl⟩ dX1_init_30 ?_
  clear hS hn29
  intro H locs hn29 hz9 hk hS
  replace ho := gC_k ho (hk _ (by omega) (fun z => by rcases z with z | z <;> omega))
  replace gr := gGr_k gr (fun q h1 h2 h3 => hk q (by omega) (fun z => by rcases z with z | z <;> omega))
  replace hn0 := gC_k hn0 (hk _ (by omega) (fun z => by rcases z with z | z <;> omega))
  replace hz : H.size = G.1 + (z0 + 30) := hz9.trans (by omega)
  clear hz9 hk
  replace hn29 : gC G (z0 + 29) (.inr (3, [.int 0, .int 0, .int 0, .int 0, .int 0, .int 0, .int 0])) H := hn29
  refine c_astq X hn0 (t0 := 3) rfl hn29 (r := (RX3, TX3, 7)) rfl (Or.inr (by show G.1 + z0 ≤ G.1 + (z0); omega)) hS (iI_in (n := 40) (nmI_l (by decide)) ⟨by decide, by decide⟩) dX1_init_33 ?_
  clear hS hn0
  intro H locs hn0 hz9 hk hS
  replace hn0 : gC G (z0) (.inl (G.2.2 3, 40, .inr (.inr (.inr (.inr (va_up (fun k => if k < 28 then some (G.1 + (z0 + 1 + k)) else none) 28 (some (G.1 + (z0 + 29))))))))) H := hn0
  replace hn0 : gC G (z0) (.inl (G.2.2 3, 40, .inr (.inr (.inr (.inr (va_up (fun k => if k < 28 then some (G.1 + (z0 + 1 + k)) else none) 28 (some ((fun k => G.1 + (z0 + 1 + k)) 28)))))))) H := hn0
  rw [gup (g := fun k => G.1 + (z0 + 1 + k))] at hn0
  replace hn0 : gC G (z0) (.inl (G.2.2 3, 40, .inr (.inr (.inr (.inr (fun k => if k < 29 then some (G.1 + (z0 + 1 + k)) else none)))))) H := hn0
  replace ho := gC_k ho (hk _ (by omega))
  replace gr := gGr_k gr (fun q h1 h2 h3 => hk q (by omega))
  replace hn29 := gC_k hn29 (hk _ (by omega))
  rw [← hz9] at hz; clear hz9 hk
  replace gr := gGr_s (n := 28) gr hn29
  clear hn29
  refine g_iinc X (a := 28) (lv' := [(1, .int (iI 29)), (0, .ref (G.1 + (p0)))]) dX1_init_34 hl (k := 0) rfl (by decide) rfl ?_
  clear hl
  intro ls hl
  refine lv_goto (tgt := 15) X.1 X.2.1 dX1_init_37 (by decide) ?_
  refine lv_iload_n X.1 X.2.1 dX1_init_15 rfl (lv_at hl.1 0 rfl) ?_
  refine lv_bipush X.1 X.2.1 dX1_init_16 (v := iI 40) (by decide) ?_
  refine g_icmp_ge X (nmI_l (by decide)) (nmI_l (by decide)) (tgt := 40) dX1_init_18 (by decide) (fun hc => absurd (by decide) hc) (fun _ => ?_)
  refine lv_aload_n X.1 X.2.1 dX1_init_21 rfl (lv_at hl.1 1 rfl) ?_
  refine c_get X cX1 ho 0 (by decide) k_306 rfl (v := .ref (G.1 + (z0))) rfl dX1_init_22 ?_
  refine lv_iload_n X.1 X.2.1 dX1_init_25 rfl (lv_at hl.1 0 rfl) ?_
  refine c_new X cX3 k_273 k_275 k_38 hz hS (fs := [.int 0, .int 0, .int 0, .int 0, .int 0, .int 0, .int 0]) (fun j hj => by rcases (show j = 0 ∨ j = 1 ∨ j = 2 ∨ j = 3 ∨ j = 4 ∨ j = 5 ∨ j = 6 by omega) with rfl | rfl | rfl | rfl | rfl | rfl | rfl <;> rfl) (Nat.le_of_ble_eq_true rfl) (Nat.le_of_ble_eq_true rfl) dX1_init_26 ?_
  clear hS
  intro H hn30 hz9 hk hS
  replace ho := gC_k ho (hk _ (by omega))
  replace gr := gGr_k gr (fun q h1 h2 h3 => hk q (by omega))
  replace hn0 := gC_k hn0 (hk _ (by omega))
  replace hz : H.size = G.1 + (z0 + 31) := hz9.trans (by omega)
  clear hz9 hk
  refine lv_dup X.1 X.2.1 dX1_init_29 rfl ?_
  refine c_callN X (As := []) (m_X3_init l G (z0 + 30) (z0 + 31) (by omega)) calX3_init k_277 k_276 rfl hn30 hz hS (fun q h => gCA_up (by omega) (by omega) h) ⟨by decide, by decide⟩ rfl hl rfl (Nat.le_of_ble_eq_true rfl) ⟨Nat.le_of_ble_eq_true rfl, Nat.le_of_ble_eq_true rfl⟩ dX1_init_30 ?_
  clear hS hn30
  intro H locs hn30 hz9 hk hS
  replace ho := gC_k ho (hk _ (by omega) (fun z => by rcases z with z | z <;> omega))
  replace gr := gGr_k gr (fun q h1 h2 h3 => hk q (by omega) (fun z => by rcases z with z | z <;> omega))
  replace hn0 := gC_k hn0 (hk _ (by omega) (fun z => by rcases z with z | z <;> omega))
  replace hz : H.size = G.1 + (z0 + 31) := hz9.trans (by omega)
  clear hz9 hk
  replace hn30 : gC G (z0 + 30) (.inr (3, [.int 0, .int 0, .int 0, .int 0, .int 0, .int 0, .int 0])) H := hn30
  refine c_astq X hn0 (t0 := 3) rfl hn30 (r := (RX3, TX3, 7)) rfl (Or.inr (by show G.1 + z0 ≤ G.1 + (z0); omega)) hS (iI_in (n := 40) (nmI_l (by decide)) ⟨by decide, by decide⟩) dX1_init_33 ?_
  clear hS hn0
  intro H locs hn0 hz9 hk hS
  replace hn0 : gC G (z0) (.inl (G.2.2 3, 40, .inr (.inr (.inr (.inr (va_up (fun k => if k < 29 then some (G.1 + (z0 + 1 + k)) else none) 29 (some (G.1 + (z0 + 30))))))))) H := hn0
  replace hn0 : gC G (z0) (.inl (G.2.2 3, 40, .inr (.inr (.inr (.inr (va_up (fun k => if k < 29 then some (G.1 + (z0 + 1 + k)) else none) 29 (some ((fun k => G.1 + (z0 + 1 + k)) 29)))))))) H := hn0
  rw [gup (g := fun k => G.1 + (z0 + 1 + k))] at hn0
  replace hn0 : gC G (z0) (.inl (G.2.2 3, 40, .inr (.inr (.inr (.inr (fun k => if k < 30 then some (G.1 + (z0 + 1 + k)) else none)))))) H := hn0
  replace ho := gC_k ho (hk _ (by omega))
  replace gr := gGr_k gr (fun q h1 h2 h3 => hk q (by omega))
  replace hn30 := gC_k hn30 (hk _ (by omega))
  rw [← hz9] at hz; clear hz9 hk
  replace gr := gGr_s (n := 29) gr hn30
  clear hn30
  refine g_iinc X (a := 29) (lv' := [(1, .int (iI 30)), (0, .ref (G.1 + (p0)))]) dX1_init_34 hl (k := 0) rfl (by decide) rfl ?_
  clear hl
  intro ls hl
  refine lv_goto (tgt := 15) X.1 X.2.1 dX1_init_37 (by decide) ?_
  refine lv_iload_n X.1 X.2.1 dX1_init_15 rfl (lv_at hl.1 0 rfl) ?_
  refine lv_bipush X.1 X.2.1 dX1_init_16 (v := iI 40) (by decide) ?_
  refine g_icmp_ge X (nmI_l (by decide)) (nmI_l (by decide)) (tgt := 40) dX1_init_18 (by decide) (fun hc => absurd (by decide) hc) (fun _ => ?_)
  refine lv_aload_n X.1 X.2.1 dX1_init_21 rfl (lv_at hl.1 1 rfl) ?_
  refine c_get X cX1 ho 0 (by decide) k_306 rfl (v := .ref (G.1 + (z0))) rfl dX1_init_22 ?_
  refine lv_iload_n X.1 X.2.1 dX1_init_25 rfl (lv_at hl.1 0 rfl) ?_
  refine c_new X cX3 k_273 k_275 k_38 hz hS (fs := [.int 0, .int 0, .int 0, .int 0, .int 0, .int 0, .int 0]) (fun j hj => by rcases (show j = 0 ∨ j = 1 ∨ j = 2 ∨ j = 3 ∨ j = 4 ∨ j = 5 ∨ j = 6 by omega) with rfl | rfl | rfl | rfl | rfl | rfl | rfl <;> rfl) (Nat.le_of_ble_eq_true rfl) (Nat.le_of_ble_eq_true rfl) dX1_init_26 ?_
  clear hS
  intro H hn31 hz9 hk hS
  replace ho := gC_k ho (hk _ (by omega))
  replace gr := gGr_k gr (fun q h1 h2 h3 => hk q (by omega))
  replace hn0 := gC_k hn0 (hk _ (by omega))
  replace hz : H.size = G.1 + (z0 + 32) := hz9.trans (by omega)
  clear hz9 hk
  refine lv_dup X.1 X.2.1 dX1_init_29 rfl ?_
  refine c_callN X (As := []) (m_X3_init l G (z0 + 31) (z0 + 32) (by omega)) calX3_init k_277 k_276 rfl hn31 hz hS (fun q h => gCA_up (by omega) (by omega) h) ⟨by decide, by decide⟩ rfl hl rfl (Nat.le_of_ble_eq_true rfl) ⟨Nat.le_of_ble_eq_true rfl, Nat.le_of_ble_eq_true rfl⟩ dX1_init_30 ?_
  clear hS hn31
  intro H locs hn31 hz9 hk hS
  replace ho := gC_k ho (hk _ (by omega) (fun z => by rcases z with z | z <;> omega))
  replace gr := gGr_k gr (fun q h1 h2 h3 => hk q (by omega) (fun z => by rcases z with z | z <;> omega))
  replace hn0 := gC_k hn0 (hk _ (by omega) (fun z => by rcases z with z | z <;> omega))
  replace hz : H.size = G.1 + (z0 + 32) := hz9.trans (by omega)
  clear hz9 hk
  replace hn31 : gC G (z0 + 31) (.inr (3, [.int 0, .int 0, .int 0, .int 0, .int 0, .int 0, .int 0])) H := hn31
  refine c_astq X hn0 (t0 := 3) rfl hn31 (r := (RX3, TX3, 7)) rfl (Or.inr (by show G.1 + z0 ≤ G.1 + (z0); omega)) hS (iI_in (n := 40) (nmI_l (by decide)) ⟨by decide, by decide⟩) dX1_init_33 ?_
  clear hS hn0
  intro H locs hn0 hz9 hk hS
  replace hn0 : gC G (z0) (.inl (G.2.2 3, 40, .inr (.inr (.inr (.inr (va_up (fun k => if k < 30 then some (G.1 + (z0 + 1 + k)) else none) 30 (some (G.1 + (z0 + 31))))))))) H := hn0
  replace hn0 : gC G (z0) (.inl (G.2.2 3, 40, .inr (.inr (.inr (.inr (va_up (fun k => if k < 30 then some (G.1 + (z0 + 1 + k)) else none) 30 (some ((fun k => G.1 + (z0 + 1 + k)) 30)))))))) H := hn0
  rw [gup (g := fun k => G.1 + (z0 + 1 + k))] at hn0
  replace hn0 : gC G (z0) (.inl (G.2.2 3, 40, .inr (.inr (.inr (.inr (fun k => if k < 31 then some (G.1 + (z0 + 1 + k)) else none)))))) H := hn0
  replace ho := gC_k ho (hk _ (by omega))
  replace gr := gGr_k gr (fun q h1 h2 h3 => hk q (by omega))
  replace hn31 := gC_k hn31 (hk _ (by omega))
  rw [← hz9] at hz; clear hz9 hk
  replace gr := gGr_s (n := 30) gr hn31
  clear hn31
  refine g_iinc X (a := 30) (lv' := [(1, .int (iI 31)), (0, .ref (G.1 + (p0)))]) dX1_init_34 hl (k := 0) rfl (by decide) rfl ?_
  clear hl
  intro ls hl
  refine lv_goto (tgt := 15) X.1 X.2.1 dX1_init_37 (by decide) ?_
  refine lv_iload_n X.1 X.2.1 dX1_init_15 rfl (lv_at hl.1 0 rfl) ?_
  refine lv_bipush X.1 X.2.1 dX1_init_16 (v := iI 40) (by decide) ?_
  refine g_icmp_ge X (nmI_l (by decide)) (nmI_l (by decide)) (tgt := 40) dX1_init_18 (by decide) (fun hc => absurd (by decide) hc) (fun _ => ?_)
  refine lv_aload_n X.1 X.2.1 dX1_init_21 rfl (lv_at hl.1 1 rfl) ?_
  refine c_get X cX1 ho 0 (by decide) k_306 rfl (v := .ref (G.1 + (z0))) rfl dX1_init_22 ?_
  refine lv_iload_n X.1 X.2.1 dX1_init_25 rfl (lv_at hl.1 0 rfl) ?_
  refine c_new X cX3 k_273 k_275 k_38 hz hS (fs := [.int 0, .int 0, .int 0, .int 0, .int 0, .int 0, .int 0]) (fun j hj => by rcases (show j = 0 ∨ j = 1 ∨ j = 2 ∨ j = 3 ∨ j = 4 ∨ j = 5 ∨ j = 6 by omega) with rfl | rfl | rfl | rfl | rfl | rfl | rfl <;> rfl) (Nat.le_of_ble_eq_true rfl) (Nat.le_of_ble_eq_true rfl) dX1_init_26 ?_
  clear hS
  intro H hn32 hz9 hk hS
  replace ho := gC_k ho (hk _ (by omega))
  replace gr := gGr_k gr (fun q h1 h2 h3 => hk q (by omega))
  replace hn0 := gC_k hn0 (hk _ (by omega))
  replace hz : H.size = G.1 + (z0 + 33) := hz9.trans (by omega)
  clear hz9 hk
  refine lv_dup X.1 X.2.1 dX1_init_29 rfl ?_
  refine c_callN X (As := []) (m_X3_init l G (z0 + 32) (z0 + 33) (by omega)) calX3_init k_277 k_276 rfl hn32 hz hS (fun q h => gCA_up (by omega) (by omega) h) ⟨by decide, by decide⟩ rfl hl rfl (Nat.le_of_ble_eq_true rfl) ⟨Nat.le_of_ble_eq_true rfl, Nat.le_of_ble_eq_true rfl⟩ dX1_init_30 ?_
  clear hS hn32
  intro H locs hn32 hz9 hk hS
  replace ho := gC_k ho (hk _ (by omega) (fun z => by rcases z with z | z <;> omega))
  replace gr := gGr_k gr (fun q h1 h2 h3 => hk q (by omega) (fun z => by rcases z with z | z <;> omega))
  replace hn0 := gC_k hn0 (hk _ (by omega) (fun z => by rcases z with z | z <;> omega))
  replace hz : H.size = G.1 + (z0 + 33) := hz9.trans (by omega)
  clear hz9 hk
  replace hn32 : gC G (z0 + 32) (.inr (3, [.int 0, .int 0, .int 0, .int 0, .int 0, .int 0, .int 0])) H := hn32
  refine c_astq X hn0 (t0 := 3) rfl hn32 (r := (RX3, TX3, 7)) rfl (Or.inr (by show G.1 + z0 ≤ G.1 + (z0); omega)) hS (iI_in (n := 40) (nmI_l (by decide)) ⟨by decide, by decide⟩) dX1_init_33 ?_
  clear hS hn0
  intro H locs hn0 hz9 hk hS
  replace hn0 : gC G (z0) (.inl (G.2.2 3, 40, .inr (.inr (.inr (.inr (va_up (fun k => if k < 31 then some (G.1 + (z0 + 1 + k)) else none) 31 (some (G.1 + (z0 + 32))))))))) H := hn0
  replace hn0 : gC G (z0) (.inl (G.2.2 3, 40, .inr (.inr (.inr (.inr (va_up (fun k => if k < 31 then some (G.1 + (z0 + 1 + k)) else none) 31 (some ((fun k => G.1 + (z0 + 1 + k)) 31)))))))) H := hn0
  rw [gup (g := fun k => G.1 + (z0 + 1 + k))] at hn0
  replace hn0 : gC G (z0) (.inl (G.2.2 3, 40, .inr (.inr (.inr (.inr (fun k => if k < 32 then some (G.1 + (z0 + 1 + k)) else none)))))) H := hn0
  replace ho := gC_k ho (hk _ (by omega))
  replace gr := gGr_k gr (fun q h1 h2 h3 => hk q (by omega))
  replace hn32 := gC_k hn32 (hk _ (by omega))
  rw [← hz9] at hz; clear hz9 hk
  replace gr := gGr_s (n := 31) gr hn32
  clear hn32
  refine g_iinc X (a := 31) (lv' := [(1, .int (iI 32)), (0, .ref (G.1 + (p0)))]) dX1_init_34 hl (k := 0) rfl (by decide) rfl ?_
  clear hl
  intro ls hl
  refine lv_goto (tgt := 15) X.1 X.2.1 dX1_init_37 (by decide) ?_
  refine lv_iload_n X.1 X.2.1 dX1_init_15 rfl (lv_at hl.1 0 rfl) ?_
  refine lv_bipush X.1 X.2.1 dX1_init_16 (v := iI 40) (by decide) ?_
  refine g_icmp_ge X (nmI_l (by decide)) (nmI_l (by decide)) (tgt := 40) dX1_init_18 (by decide) (fun hc => absurd (by decide) hc) (fun _ => ?_)
  refine lv_aload_n X.1 X.2.1 dX1_init_21 rfl (lv_at hl.1 1 rfl) ?_
  refine c_get X cX1 ho 0 (by decide) k_306 rfl (v := .ref (G.1 + (z0))) rfl dX1_init_22 ?_
  refine lv_iload_n X.1 X.2.1 dX1_init_25 rfl (lv_at hl.1 0 rfl) ?_
  refine c_new X cX3 k_273 k_275 k_38 hz hS (fs := [.int 0, .int 0, .int 0, .int 0, .int 0, .int 0, .int 0]) (fun j hj => by rcases (show j = 0 ∨ j = 1 ∨ j = 2 ∨ j = 3 ∨ j = 4 ∨ j = 5 ∨ j = 6 by omega) with rfl | rfl | rfl | rfl | rfl | rfl | rfl <;> rfl) (Nat.le_of_ble_eq_true rfl) (Nat.le_of_ble_eq_true rfl) dX1_init_26 ?_
  clear hS
  intro H hn33 hz9 hk hS
  replace ho := gC_k ho (hk _ (by omega))
  replace gr := gGr_k gr (fun q h1 h2 h3 => hk q (by omega))
  replace hn0 := gC_k hn0 (hk _ (by omega))
  replace hz : H.size = G.1 + (z0 + 34) := hz9.trans (by omega)
  clear hz9 hk
  refine lv_dup X.1 X.2.1 dX1_init_29 rfl ?_
  refine c_callN X (As := []) (m_X3_init l G (z0 + 33) (z0 + 34) (by omega)) calX3_init k_277 k_276 rfl hn33 hz hS (fun q h => gCA_up (by omega) (by omega) h) ⟨by decide, by decide⟩ rfl hl rfl (Nat.le_of_ble_eq_true rfl) ⟨Nat.le_of_ble_eq_true rfl, Nat.le_of_ble_eq_true rfl⟩ dX1_init_30 ?_
  clear hS hn33
  intro H locs hn33 hz9 hk hS
  replace ho := gC_k ho (hk _ (by omega) (fun z => by rcases z with z | z <;> omega))
  replace gr := gGr_k gr (fun q h1 h2 h3 => hk q (by omega) (fun z => by rcases z with z | z <;> omega))
  replace hn0 := gC_k hn0 (hk _ (by omega) (fun z => by rcases z with z | z <;> omega))
  replace hz : H.size = G.1 + (z0 + 34) := hz9.trans (by omega)
  clear hz9 hk
  replace hn33 : gC G (z0 + 33) (.inr (3, [.int 0, .int 0, .int 0, .int 0, .int 0, .int 0, .int 0])) H := hn33
  refine c_astq X hn0 (t0 := 3) rfl hn33 (r := (RX3, TX3, 7)) rfl (Or.inr (by show G.1 + z0 ≤ G.1 + (z0); omega)) hS (iI_in (n := 40) (nmI_l (by decide)) ⟨by decide, by decide⟩) dX1_init_33 ?_
  clear hS hn0
  intro H locs hn0 hz9 hk hS
  replace hn0 : gC G (z0) (.inl (G.2.2 3, 40, .inr (.inr (.inr (.inr (va_up (fun k => if k < 32 then some (G.1 + (z0 + 1 + k)) else none) 32 (some (G.1 + (z0 + 33))))))))) H := hn0
  replace hn0 : gC G (z0) (.inl (G.2.2 3, 40, .inr (.inr (.inr (.inr (va_up (fun k => if k < 32 then some (G.1 + (z0 + 1 + k)) else none) 32 (some ((fun k => G.1 + (z0 + 1 + k)) 32)))))))) H := hn0
  rw [gup (g := fun k => G.1 + (z0 + 1 + k))] at hn0
  replace hn0 : gC G (z0) (.inl (G.2.2 3, 40, .inr (.inr (.inr (.inr (fun k => if k < 33 then some (G.1 + (z0 + 1 + k)) else none)))))) H := hn0
  replace ho := gC_k ho (hk _ (by omega))
  replace gr := gGr_k gr (fun q h1 h2 h3 => hk q (by omega))
  replace hn33 := gC_k hn33 (hk _ (by omega))
  rw [← hz9] at hz; clear hz9 hk
  replace gr := gGr_s (n := 32) gr hn33
  clear hn33
  refine g_iinc X (a := 32) (lv' := [(1, .int (iI 33)), (0, .ref (G.1 + (p0)))]) dX1_init_34 hl (k := 0) rfl (by decide) rfl ?_
  clear hl
  intro ls hl
  refine lv_goto (tgt := 15) X.1 X.2.1 dX1_init_37 (by decide) ?_
  refine lv_iload_n X.1 X.2.1 dX1_init_15 rfl (lv_at hl.1 0 rfl) ?_
  refine lv_bipush X.1 X.2.1 dX1_init_16 (v := iI 40) (by decide) ?_
  refine g_icmp_ge X (nmI_l (by decide)) (nmI_l (by decide)) (tgt := 40) dX1_init_18 (by decide) (fun hc => absurd (by decide) hc) (fun _ => ?_)
  refine lv_aload_n X.1 X.2.1 dX1_init_21 rfl (lv_at hl.1 1 rfl) ?_
  refine c_get X cX1 ho 0 (by decide) k_306 rfl (v := .ref (G.1 + (z0))) rfl dX1_init_22 ?_
  refine lv_iload_n X.1 X.2.1 dX1_init_25 rfl (lv_at hl.1 0 rfl) ?_
  refine c_new X cX3 k_273 k_275 k_38 hz hS (fs := [.int 0, .int 0, .int 0, .int 0, .int 0, .int 0, .int 0]) (fun j hj => by rcases (show j = 0 ∨ j = 1 ∨ j = 2 ∨ j = 3 ∨ j = 4 ∨ j = 5 ∨ j = 6 by omega) with rfl | rfl | rfl | rfl | rfl | rfl | rfl <;> rfl) (Nat.le_of_ble_eq_true rfl) (Nat.le_of_ble_eq_true rfl) dX1_init_26 ?_
  clear hS
  intro H hn34 hz9 hk hS
  replace ho := gC_k ho (hk _ (by omega))
  replace gr := gGr_k gr (fun q h1 h2 h3 => hk q (by omega))
  replace hn0 := gC_k hn0 (hk _ (by omega))
  replace hz : H.size = G.1 + (z0 + 35) := hz9.trans (by omega)
  clear hz9 hk
  refine lv_dup X.1 X.2.1 dX1_init_29 rfl ?_
  refine c_callN X (As := []) (m_X3_init l G (z0 + 34) (z0 + 35) (by omega)) calX3_init k_277 k_276 rfl hn34 hz hS (fun q h => gCA_up (by omega) (by omega) h) ⟨by decide, by decide⟩ rfl hl rfl (Nat.le_of_ble_eq_true rfl) ⟨Nat.le_of_ble_eq_true rfl, Nat.le_of_ble_eq_true rfl⟩ dX1_init_30 ?_
  clear hS hn34
  intro H locs hn34 hz9 hk hS
  replace ho := gC_k ho (hk _ (by omega) (fun z => by rcases z with z | z <;> omega))
  replace gr := gGr_k gr (fun q h1 h2 h3 => hk q (by omega) (fun z => by rcases z with z | z <;> omega))
  replace hn0 := gC_k hn0 (hk _ (by omega) (fun z => by rcases z with z | z <;> omega))
  replace hz : H.size = G.1 + (z0 + 35) := hz9.trans (by omega)
  clear hz9 hk
  replace hn34 : gC G (z0 + 34) (.inr (3, [.int 0, .int 0, .int 0, .int 0, .int 0, .int 0, .int 0])) H := hn34
  refine c_astq X hn0 (t0 := 3) rfl hn34 (r := (RX3, TX3, 7)) rfl (Or.inr (by show G.1 + z0 ≤ G.1 + (z0); omega)) hS (iI_in (n := 40) (nmI_l (by decide)) ⟨by decide, by decide⟩) dX1_init_33 ?_
  clear hS hn0
  intro H locs hn0 hz9 hk hS
  replace hn0 : gC G (z0) (.inl (G.2.2 3, 40, .inr (.inr (.inr (.inr (va_up (fun k => if k < 33 then some (G.1 + (z0 + 1 + k)) else none) 33 (some (G.1 + (z0 + 34))))))))) H := hn0
  replace hn0 : gC G (z0) (.inl (G.2.2 3, 40, .inr (.inr (.inr (.inr (va_up (fun k => if k < 33 then some (G.1 + (z0 + 1 + k)) else none) 33 (some ((fun k => G.1 + (z0 + 1 + k)) 33)))))))) H := hn0
  rw [gup (g := fun k => G.1 + (z0 + 1 + k))] at hn0
  replace hn0 : gC G (z0) (.inl (G.2.2 3, 40, .inr (.inr (.inr (.inr (fun k => if k < 34 then some (G.1 + (z0 + 1 + k)) else none)))))) H := hn0
  replace ho := gC_k ho (hk _ (by omega))
  replace gr := gGr_k gr (fun q h1 h2 h3 => hk q (by omega))
  replace hn34 := gC_k hn34 (hk _ (by omega))
  rw [← hz9] at hz; clear hz9 hk
  replace gr := gGr_s (n := 33) gr hn34
  clear hn34
  refine g_iinc X (a := 33) (lv' := [(1, .int (iI 34)), (0, .ref (G.1 + (p0)))]) dX1_init_34 hl (k := 0) rfl (by decide) rfl ?_
  clear hl
  intro ls hl
  refine lv_goto (tgt := 15) X.1 X.2.1 dX1_init_37 (by decide) ?_
  refine lv_iload_n X.1 X.2.1 dX1_init_15 rfl (lv_at hl.1 0 rfl) ?_
  refine lv_bipush X.1 X.2.1 dX1_init_16 (v := iI 40) (by decide) ?_
  refine g_icmp_ge X (nmI_l (by decide)) (nmI_l (by decide)) (tgt := 40) dX1_init_18 (by decide) (fun hc => absurd (by decide) hc) (fun _ => ?_)
  refine lv_aload_n X.1 X.2.1 dX1_init_21 rfl (lv_at hl.1 1 rfl) ?_
  refine c_get X cX1 ho 0 (by decide) k_306 rfl (v := .ref (G.1 + (z0))) rfl dX1_init_22 ?_
  refine lv_iload_n X.1 X.2.1 dX1_init_25 rfl (lv_at hl.1 0 rfl) ?_
  refine c_new X cX3 k_273 k_275 k_38 hz hS (fs := [.int 0, .int 0, .int 0, .int 0, .int 0, .int 0, .int 0]) (fun j hj => by rcases (show j = 0 ∨ j = 1 ∨ j = 2 ∨ j = 3 ∨ j = 4 ∨ j = 5 ∨ j = 6 by omega) with rfl | rfl | rfl | rfl | rfl | rfl | rfl <;> rfl) (Nat.le_of_ble_eq_true rfl) (Nat.le_of_ble_eq_true rfl) dX1_init_26 ?_
  clear hS
  intro H hn35 hz9 hk hS
  replace ho := gC_k ho (hk _ (by omega))
  replace gr := gGr_k gr (fun q h1 h2 h3 => hk q (by omega))
  replace hn0 := gC_k hn0 (hk _ (by omega))
  replace hz : H.size = G.1 + (z0 + 36) := hz9.trans (by omega)
  clear hz9 hk
  refine lv_dup X.1 X.2.1 dX1_init_29 rfl ?_
  refine c_callN X (As := []) (m_X3_init l G (z0 + 35) (z0 + 36) (by omega)) calX3_init k_277 k_276 rfl hn35 hz hS (fun q h => gCA_up (by omega) (by omega) h) ⟨by decide, by decide⟩ rfl hl rfl (Nat.le_of_ble_eq_true rfl) ⟨Nat.le_of_ble_eq_true rfl, Nat.le_of_ble_eq_true rfl⟩ dX1_init_30 ?_
  clear hS hn35
  intro H locs hn35 hz9 hk hS
  replace ho := gC_k ho (hk _ (by omega) (fun z => by rcases z with z | z <;> omega))
  replace gr := gGr_k gr (fun q h1 h2 h3 => hk q (by omega) (fun z => by rcases z with z | z <;> omega))
  replace hn0 := gC_k hn0 (hk _ (by omega) (fun z => by rcases z with z | z <;> omega))
  replace hz : H.size = G.1 + (z0 + 36) := hz9.trans (by omega)
  clear hz9 hk
  replace hn35 : gC G (z0 + 35) (.inr (3, [.int 0, .int 0, .int 0, .int 0, .int 0, .int 0, .int 0])) H := hn35
  refine c_astq X hn0 (t0 := 3) rfl hn35 (r := (RX3, TX3, 7)) rfl (Or.inr (by show G.1 + z0 ≤ G.1 + (z0); omega)) hS (iI_in (n := 40) (nmI_l (by decide)) ⟨by decide, by decide⟩) dX1_init_33 ?_
  clear hS hn0
  intro H locs hn0 hz9 hk hS
  replace hn0 : gC G (z0) (.inl (G.2.2 3, 40, .inr (.inr (.inr (.inr (va_up (fun k => if k < 34 then some (G.1 + (z0 + 1 + k)) else none) 34 (some (G.1 + (z0 + 35))))))))) H := hn0
  replace hn0 : gC G (z0) (.inl (G.2.2 3, 40, .inr (.inr (.inr (.inr (va_up (fun k => if k < 34 then some (G.1 + (z0 + 1 + k)) else none) 34 (some ((fun k => G.1 + (z0 + 1 + k)) 34)))))))) H := hn0
  rw [gup (g := fun k => G.1 + (z0 + 1 + k))] at hn0
  replace hn0 : gC G (z0) (.inl (G.2.2 3, 40, .inr (.inr (.inr (.inr (fun k => if k < 35 then some (G.1 + (z0 + 1 + k)) else none)))))) H := hn0
  replace ho := gC_k ho (hk _ (by omega))
  replace gr := gGr_k gr (fun q h1 h2 h3 => hk q (by omega))
  replace hn35 := gC_k hn35 (hk _ (by omega))
  rw [← hz9] at hz; clear hz9 hk
  replace gr := gGr_s (n := 34) gr hn35
  clear hn35
  refine g_iinc X (a := 34) (lv' := [(1, .int (iI 35)), (0, .ref (G.1 + (p0)))]) dX1_init_34 hl (k := 0) rfl (by decide) rfl ?_
  clear hl
  intro ls hl
  refine lv_goto (tgt := 15) X.1 X.2.1 dX1_init_37 (by decide) ?_
  refine lv_iload_n X.1 X.2.1 dX1_init_15 rfl (lv_at hl.1 0 rfl) ?_
  refine lv_bipush X.1 X.2.1 dX1_init_16 (v := iI 40) (by decide) ?_
  refine g_icmp_ge X (nmI_l (by decide)) (nmI_l (by decide)) (tgt := 40) dX1_init_18 (by decide) (fun hc => absurd (by decide) hc) (fun _ => ?_)
  refine lv_aload_n X.1 X.2.1 dX1_init_21 rfl (lv_at hl.1 1 rfl) ?_
  refine c_get X cX1 ho 0 (by decide) k_306 rfl (v := .ref (G.1 + (z0))) rfl dX1_init_22 ?_
  refine lv_iload_n X.1 X.2.1 dX1_init_25 rfl (lv_at hl.1 0 rfl) ?_
  refine c_new X cX3 k_273 k_275 k_38 hz hS (fs := [.int 0, .int 0, .int 0, .int 0, .int 0, .int 0, .int 0]) (fun j hj => by rcases (show j = 0 ∨ j = 1 ∨ j = 2 ∨ j = 3 ∨ j = 4 ∨ j = 5 ∨ j = 6 by omega) with rfl | rfl | rfl | rfl | rfl | rfl | rfl <;> rfl) (Nat.le_of_ble_eq_true rfl) (Nat.le_of_ble_eq_true rfl) dX1_init_26 ?_
  clear hS
  intro H hn36 hz9 hk hS
  replace ho := gC_k ho (hk _ (by omega))
  replace gr := gGr_k gr (fun q h1 h2 h3 => hk q (by omega))
  replace hn0 := gC_k hn0 (hk _ (by omega))
  replace hz : H.size = G.1 + (z0 + 37) := hz9.trans (by omega)
  clear hz9 hk
  refine lv_dup X.1 X.2.1 dX1_init_29 rfl ?_
  refine c_callN X (As := []) (m_X3_init l G (z0 + 36) (z0 + 37) (by omega)) calX3_init k_277 k_276 rfl hn36 hz hS (fun q h => gCA_up (by omega) (by omega) h) ⟨by decide, by decide⟩ rfl hl rfl (Nat.le_of_ble_eq_true rfl) ⟨Nat.le_of_ble_eq_true rfl, Nat.le_of_ble_eq_true rfl⟩ dX1_init_30 ?_
  clear hS hn36
  intro H locs hn36 hz9 hk hS
  replace ho := gC_k ho (hk _ (by omega) (fun z => by rcases z with z | z <;> omega))
  replace gr := gGr_k gr (fun q h1 h2 h3 => hk q (by omega) (fun z => by rcases z with z | z <;> omega))
  replace hn0 := gC_k hn0 (hk _ (by omega) (fun z => by rcases z with z | z <;> omega))
  replace hz : H.size = G.1 + (z0 + 37) := hz9.trans (by omega)
  clear hz9 hk
  replace hn36 : gC G (z0 + 36) (.inr (3, [.int 0, .int 0, .int 0, .int 0, .int 0, .int 0, .int 0])) H := hn36
  refine c_astq X hn0 (t0 := 3) rfl hn36 (r := (RX3, TX3, 7)) rfl (Or.inr (by show G.1 + z0 ≤ G.1 + (z0); omega)) hS (iI_in (n := 40) (nmI_l (by decide)) ⟨by decide, by decide⟩) dX1_init_33 ?_
  clear hS hn0
  intro H locs hn0 hz9 hk hS
  replace hn0 : gC G (z0) (.inl (G.2.2 3, 40, .inr (.inr (.inr (.inr (va_up (fun k => if k < 35 then some (G.1 + (z0 + 1 + k)) else none) 35 (some (G.1 + (z0 + 36))))))))) H := hn0
  replace hn0 : gC G (z0) (.inl (G.2.2 3, 40, .inr (.inr (.inr (.inr (va_up (fun k => if k < 35 then some (G.1 + (z0 + 1 + k)) else none) 35 (some ((fun k => G.1 + (z0 + 1 + k)) 35)))))))) H := hn0
  rw [gup (g := fun k => G.1 + (z0 + 1 + k))] at hn0
  replace hn0 : gC G (z0) (.inl (G.2.2 3, 40, .inr (.inr (.inr (.inr (fun k => if k < 36 then some (G.1 + (z0 + 1 + k)) else none)))))) H := hn0
  replace ho := gC_k ho (hk _ (by omega))
  replace gr := gGr_k gr (fun q h1 h2 h3 => hk q (by omega))
  replace hn36 := gC_k hn36 (hk _ (by omega))
  rw [← hz9] at hz; clear hz9 hk
  replace gr := gGr_s (n := 35) gr hn36
  clear hn36
  refine g_iinc X (a := 35) (lv' := [(1, .int (iI 36)), (0, .ref (G.1 + (p0)))]) dX1_init_34 hl (k := 0) rfl (by decide) rfl ?_
  clear hl
  intro ls hl
  refine lv_goto (tgt := 15) X.1 X.2.1 dX1_init_37 (by decide) ?_
  refine lv_iload_n X.1 X.2.1 dX1_init_15 rfl (lv_at hl.1 0 rfl) ?_
  refine lv_bipush X.1 X.2.1 dX1_init_16 (v := iI 40) (by decide) ?_
  refine g_icmp_ge X (nmI_l (by decide)) (nmI_l (by decide)) (tgt := 40) dX1_init_18 (by decide) (fun hc => absurd (by decide) hc) (fun _ => ?_)
  refine lv_aload_n X.1 X.2.1 dX1_init_21 rfl (lv_at hl.1 1 rfl) ?_
  refine c_get X cX1 ho 0 (by decide) k_306 rfl (v := .ref (G.1 + (z0))) rfl dX1_init_22 ?_
  refine lv_iload_n X.1 X.2.1 dX1_init_25 rfl (lv_at hl.1 0 rfl) ?_
  refine c_new X cX3 k_273 k_275 k_38 hz hS (fs := [.int 0, .int 0, .int 0, .int 0, .int 0, .int 0, .int 0]) (fun j hj => by rcases (show j = 0 ∨ j = 1 ∨ j = 2 ∨ j = 3 ∨ j = 4 ∨ j = 5 ∨ j = 6 by omega) with rfl | rfl | rfl | rfl | rfl | rfl | rfl <;> rfl) (Nat.le_of_ble_eq_true rfl) (Nat.le_of_ble_eq_true rfl) dX1_init_26 ?_
  clear hS
  intro H hn37 hz9 hk hS
  replace ho := gC_k ho (hk _ (by omega))
  replace gr := gGr_k gr (fun q h1 h2 h3 => hk q (by omega))
  replace hn0 := gC_k hn0 (hk _ (by omega))
  replace hz : H.size = G.1 + (z0 + 38) := hz9.trans (by omega)
  clear hz9 hk
  refine lv_dup X.1 X.2.1 dX1_init_29 rfl ?_
  refine c_callN X (As := []) (m_X3_init l G (z0 + 37) (z0 + 38) (by omega)) calX3_init k_277 k_276 rfl hn37 hz hS (fun q h => gCA_up (by omega) (by omega) h) ⟨by decide, by decide⟩ rfl hl rfl (Nat.le_of_ble_eq_true rfl) ⟨Nat.le_of_ble_eq_true rfl, Nat.le_of_ble_eq_true rfl⟩ dX1_init_30 ?_
  clear hS hn37
  intro H locs hn37 hz9 hk hS
  replace ho := gC_k ho (hk _ (by omega) (fun z => by rcases z with z | z <;> omega))
  replace gr := gGr_k gr (fun q h1 h2 h3 => hk q (by omega) (fun z => by rcases z with z | z <;> omega))
  replace hn0 := gC_k hn0 (hk _ (by omega) (fun z => by rcases z with z | z <;> omega))
  replace hz : H.size = G.1 + (z0 + 38) := hz9.trans (by omega)
  clear hz9 hk
  replace hn37 : gC G (z0 + 37) (.inr (3, [.int 0, .int 0, .int 0, .int 0, .int 0, .int 0, .int 0])) H := hn37
  refine c_astq X hn0 (t0 := 3) rfl hn37 (r := (RX3, TX3, 7)) rfl (Or.inr (by show G.1 + z0 ≤ G.1 + (z0); omega)) hS (iI_in (n := 40) (nmI_l (by decide)) ⟨by decide, by decide⟩) dX1_init_33 ?_
  clear hS hn0
  intro H locs hn0 hz9 hk hS
  replace hn0 : gC G (z0) (.inl (G.2.2 3, 40, .inr (.inr (.inr (.inr (va_up (fun k => if k < 36 then some (G.1 + (z0 + 1 + k)) else none) 36 (some (G.1 + (z0 + 37))))))))) H := hn0
  replace hn0 : gC G (z0) (.inl (G.2.2 3, 40, .inr (.inr (.inr (.inr (va_up (fun k => if k < 36 then some (G.1 + (z0 + 1 + k)) else none) 36 (some ((fun k => G.1 + (z0 + 1 + k)) 36)))))))) H := hn0
  rw [gup (g := fun k => G.1 + (z0 + 1 + k))] at hn0
  replace hn0 : gC G (z0) (.inl (G.2.2 3, 40, .inr (.inr (.inr (.inr (fun k => if k < 37 then some (G.1 + (z0 + 1 + k)) else none)))))) H := hn0
  replace ho := gC_k ho (hk _ (by omega))
  replace gr := gGr_k gr (fun q h1 h2 h3 => hk q (by omega))
  replace hn37 := gC_k hn37 (hk _ (by omega))
  rw [← hz9] at hz; clear hz9 hk
  replace gr := gGr_s (n := 36) gr hn37
  clear hn37
  refine g_iinc X (a := 36) (lv' := [(1, .int (iI 37)), (0, .ref (G.1 + (p0)))]) dX1_init_34 hl (k := 0) rfl (by decide) rfl ?_
  clear hl
  intro ls hl
  refine lv_goto (tgt := 15) X.1 X.2.1 dX1_init_37 (by decide) ?_
  refine lv_iload_n X.1 X.2.1 dX1_init_15 rfl (lv_at hl.1 0 rfl) ?_
  refine lv_bipush X.1 X.2.1 dX1_init_16 (v := iI 40) (by decide) ?_
  refine g_icmp_ge X (nmI_l (by decide)) (nmI_l (by decide)) (tgt := 40) dX1_init_18 (by decide) (fun hc => absurd (by decide) hc) (fun _ => ?_)
  refine lv_aload_n X.1 X.2.1 dX1_init_21 rfl (lv_at hl.1 1 rfl) ?_
  refine c_get X cX1 ho 0 (by decide) k_306 rfl (v := .ref (G.1 + (z0))) rfl dX1_init_22 ?_
  refine lv_iload_n X.1 X.2.1 dX1_init_25 rfl (lv_at hl.1 0 rfl) ?_
  refine c_new X cX3 k_273 k_275 k_38 hz hS (fs := [.int 0, .int 0, .int 0, .int 0, .int 0, .int 0, .int 0]) (fun j hj => by rcases (show j = 0 ∨ j = 1 ∨ j = 2 ∨ j = 3 ∨ j = 4 ∨ j = 5 ∨ j = 6 by omega) with rfl | rfl | rfl | rfl | rfl | rfl | rfl <;> rfl) (Nat.le_of_ble_eq_true rfl) (Nat.le_of_ble_eq_true rfl) dX1_init_26 ?_
  clear hS
  intro H hn38 hz9 hk hS
  replace ho := gC_k ho (hk _ (by omega))
  replace gr := gGr_k gr (fun q h1 h2 h3 => hk q (by omega))
  replace hn0 := gC_k hn0 (hk _ (by omega))
  replace hz : H.size = G.1 + (z0 + 39) := hz9.trans (by omega)
  clear hz9 hk
  refine lv_dup X.1 X.2.1 dX1_init_29 rfl ?_
  refine c_callN X (As := []) (m_X3_init l G (z0 + 38) (z0 + 39) (by omega)) calX3_init k_277 k_276 rfl hn38 hz hS (fun q h => gCA_up (by omega) (by omega) h) ⟨by decide, by decide⟩ rfl hl rfl (Nat.le_of_ble_eq_true rfl) ⟨Nat.le_of_ble_eq_true rfl, Nat.le_of_ble_eq_true rfl⟩ dX1_init_30 ?_
  clear hS hn38
  intro H locs hn38 hz9 hk hS
  replace ho := gC_k ho (hk _ (by omega) (fun z => by rcases z with z | z <;> omega))
  replace gr := gGr_k gr (fun q h1 h2 h3 => hk q (by omega) (fun z => by rcases z with z | z <;> omega))
  replace hn0 := gC_k hn0 (hk _ (by omega) (fun z => by rcases z with z | z <;> omega))
  replace hz : H.size = G.1 + (z0 + 39) := hz9.trans (by omega)
  clear hz9 hk
  replace hn38 : gC G (z0 + 38) (.inr (3, [.int 0, .int 0, .int 0, .int 0, .int 0, .int 0, .int 0])) H := hn38
  refine c_astq X hn0 (t0 := 3) rfl hn38 (r := (RX3, TX3, 7)) rfl (Or.inr (by show G.1 + z0 ≤ G.1 + (z0); omega)) hS (iI_in (n := 40) (nmI_l (by decide)) ⟨by decide, by decide⟩) dX1_init_33 ?_
  clear hS hn0
  intro H locs hn0 hz9 hk hS
  replace hn0 : gC G (z0) (.inl (G.2.2 3, 40, .inr (.inr (.inr (.inr (va_up (fun k => if k < 37 then some (G.1 + (z0 + 1 + k)) else none) 37 (some (G.1 + (z0 + 38))))))))) H := hn0
  replace hn0 : gC G (z0) (.inl (G.2.2 3, 40, .inr (.inr (.inr (.inr (va_up (fun k => if k < 37 then some (G.1 + (z0 + 1 + k)) else none) 37 (some ((fun k => G.1 + (z0 + 1 + k)) 37)))))))) H := hn0
  rw [gup (g := fun k => G.1 + (z0 + 1 + k))] at hn0
  replace hn0 : gC G (z0) (.inl (G.2.2 3, 40, .inr (.inr (.inr (.inr (fun k => if k < 38 then some (G.1 + (z0 + 1 + k)) else none)))))) H := hn0
  replace ho := gC_k ho (hk _ (by omega))
  replace gr := gGr_k gr (fun q h1 h2 h3 => hk q (by omega))
  replace hn38 := gC_k hn38 (hk _ (by omega))
  rw [← hz9] at hz; clear hz9 hk
  replace gr := gGr_s (n := 37) gr hn38
  clear hn38
  refine g_iinc X (a := 37) (lv' := [(1, .int (iI 38)), (0, .ref (G.1 + (p0)))]) dX1_init_34 hl (k := 0) rfl (by decide) rfl ?_
  clear hl
  intro ls hl
  refine lv_goto (tgt := 15) X.1 X.2.1 dX1_init_37 (by decide) ?_
  refine lv_iload_n X.1 X.2.1 dX1_init_15 rfl (lv_at hl.1 0 rfl) ?_
  refine lv_bipush X.1 X.2.1 dX1_init_16 (v := iI 40) (by decide) ?_
  refine g_icmp_ge X (nmI_l (by decide)) (nmI_l (by decide)) (tgt := 40) dX1_init_18 (by decide) (fun hc => absurd (by decide) hc) (fun _ => ?_)
  refine lv_aload_n X.1 X.2.1 dX1_init_21 rfl (lv_at hl.1 1 rfl) ?_
  refine c_get X cX1 ho 0 (by decide) k_306 rfl (v := .ref (G.1 + (z0))) rfl dX1_init_22 ?_
  refine lv_iload_n X.1 X.2.1 dX1_init_25 rfl (lv_at hl.1 0 rfl) ?_
  refine c_new X cX3 k_273 k_275 k_38 hz hS (fs := [.int 0, .int 0, .int 0, .int 0, .int 0, .int 0, .int 0]) (fun j hj => by rcases (show j = 0 ∨ j = 1 ∨ j = 2 ∨ j = 3 ∨ j = 4 ∨ j = 5 ∨ j = 6 by omega) with rfl | rfl | rfl | rfl | rfl | rfl | rfl <;> rfl) (Nat.le_of_ble_eq_true rfl) (Nat.le_of_ble_eq_true rfl) dX1_init_26 ?_
  clear hS
  intro H hn39 hz9 hk hS
  replace ho := gC_k ho (hk _ (by omega))
  replace gr := gGr_k gr (fun q h1 h2 h3 => hk q (by omega))
  replace hn0 := gC_k hn0 (hk _ (by omega))
  replace hz : H.size = G.1 + (z0 + 40) := hz9.trans (by omega)
  clear hz9 hk
  refine lv_dup X.1 X.2.1 dX1_init_29 rfl ?_
  refine c_callN X (As := []) (m_X3_init l G (z0 + 39) (z0 + 40) (by omega)) calX3_init k_277 k_276 rfl hn39 hz hS (fun q h => gCA_up (by omega) (by omega) h) ⟨by decide, by decide⟩ rfl hl rfl (Nat.le_of_ble_eq_true rfl) ⟨Nat.le_of_ble_eq_true rfl, Nat.le_of_ble_eq_true rfl⟩ dX1_init_30 ?_
  clear hS hn39
  intro H locs hn39 hz9 hk hS
  replace ho := gC_k ho (hk _ (by omega) (fun z => by rcases z with z | z <;> omega))
  replace gr := gGr_k gr (fun q h1 h2 h3 => hk q (by omega) (fun z => by rcases z with z | z <;> omega))
  replace hn0 := gC_k hn0 (hk _ (by omega) (fun z => by rcases z with z | z <;> omega))
  replace hz : H.size = G.1 + (z0 + 40) := hz9.trans (by omega)
  clear hz9 hk
  replace hn39 : gC G (z0 + 39) (.inr (3, [.int 0, .int 0, .int 0, .int 0, .int 0, .int 0, .int 0])) H := hn39
  refine c_astq X hn0 (t0 := 3) rfl hn39 (r := (RX3, TX3, 7)) rfl (Or.inr (by show G.1 + z0 ≤ G.1 + (z0); omega)) hS (iI_in (n := 40) (nmI_l (by decide)) ⟨by decide, by decide⟩) dX1_init_33 ?_
  clear hS hn0
  intro H locs hn0 hz9 hk hS
  replace hn0 : gC G (z0) (.inl (G.2.2 3, 40, .inr (.inr (.inr (.inr (va_up (fun k => if k < 38 then some (G.1 + (z0 + 1 + k)) else none) 38 (some (G.1 + (z0 + 39))))))))) H := hn0
  replace hn0 : gC G (z0) (.inl (G.2.2 3, 40, .inr (.inr (.inr (.inr (va_up (fun k => if k < 38 then some (G.1 + (z0 + 1 + k)) else none) 38 (some ((fun k => G.1 + (z0 + 1 + k)) 38)))))))) H := hn0
  rw [gup (g := fun k => G.1 + (z0 + 1 + k))] at hn0
  replace hn0 : gC G (z0) (.inl (G.2.2 3, 40, .inr (.inr (.inr (.inr (fun k => if k < 39 then some (G.1 + (z0 + 1 + k)) else none)))))) H := hn0
  replace ho := gC_k ho (hk _ (by omega))
  replace gr := gGr_k gr (fun q h1 h2 h3 => hk q (by omega))
  replace hn39 := gC_k hn39 (hk _ (by omega))
  rw [← hz9] at hz; clear hz9 hk
  replace gr := gGr_s (n := 38) gr hn39
  clear hn39
  refine g_iinc X (a := 38) (lv' := [(1, .int (iI 39)), (0, .ref (G.1 + (p0)))]) dX1_init_34 hl (k := 0) rfl (by decide) rfl ?_
  clear hl
  intro ls hl
  refine lv_goto (tgt := 15) X.1 X.2.1 dX1_init_37 (by decide) ?_
  refine lv_iload_n X.1 X.2.1 dX1_init_15 rfl (lv_at hl.1 0 rfl) ?_
  refine lv_bipush X.1 X.2.1 dX1_init_16 (v := iI 40) (by decide) ?_
  refine g_icmp_ge X (nmI_l (by decide)) (nmI_l (by decide)) (tgt := 40) dX1_init_18 (by decide) (fun hc => absurd (by decide) hc) (fun _ => ?_)
  refine lv_aload_n X.1 X.2.1 dX1_init_21 rfl (lv_at hl.1 1 rfl) ?_
  refine c_get X cX1 ho 0 (by decide) k_306 rfl (v := .ref (G.1 + (z0))) rfl dX1_init_22 ?_
  refine lv_iload_n X.1 X.2.1 dX1_init_25 rfl (lv_at hl.1 0 rfl) ?_
  refine c_new X cX3 k_273 k_275 k_38 hz hS (fs := [.int 0, .int 0, .int 0, .int 0, .int 0, .int 0, .int 0]) (fun j hj => by rcases (show j = 0 ∨ j = 1 ∨ j = 2 ∨ j = 3 ∨ j = 4 ∨ j = 5 ∨ j = 6 by omega) with rfl | rfl | rfl | rfl | rfl | rfl | rfl <;> rfl) (Nat.le_of_ble_eq_true rfl) (Nat.le_of_ble_eq_true rfl) dX1_init_26 ?_
  clear hS
  intro H hn40 hz9 hk hS
  replace ho := gC_k ho (hk _ (by omega))
  replace gr := gGr_k gr (fun q h1 h2 h3 => hk q (by omega))
  replace hn0 := gC_k hn0 (hk _ (by omega))
  replace hz : H.size = G.1 + (z0 + 41) := hz9.trans (by omega)
  clear hz9 hk
  refine lv_dup X.1 X.2.1 dX1_init_29 rfl ?_
  refine c_callN X (As := []) (m_X3_init l G (z0 + 40) (z0 + 41) (by omega)) calX3_init k_277 k_276 rfl hn40 hz hS (fun q h => gCA_up (by omega) (by omega) h) ⟨by decide, by decide⟩ rfl hl rfl (Nat.le_of_ble_eq_true rfl) ⟨Nat.le_of_ble_eq_true rfl, Nat.le_of_ble_eq_true rfl⟩ dX1_init_30 ?_
  clear hS hn40
  intro H locs hn40 hz9 hk hS
  replace ho := gC_k ho (hk _ (by omega) (fun z => by rcases z with z | z <;> omega))
  replace gr := gGr_k gr (fun q h1 h2 h3 => hk q (by omega) (fun z => by rcases z with z | z <;> omega))
  replace hn0 := gC_k hn0 (hk _ (by omega) (fun z => by rcases z with z | z <;> omega))
  replace hz : H.size = G.1 + (z0 + 41) := hz9.trans (by omega)
  clear hz9 hk
  replace hn40 : gC G (z0 + 40) (.inr (3, [.int 0, .int 0, .int 0, .int 0, .int 0, .int 0, .int 0])) H := hn40
  refine c_astq X hn0 (t0 := 3) rfl hn40 (r := (RX3, TX3, 7)) rfl (Or.inr (by show G.1 + z0 ≤ G.1 + (z0); omega)) hS (iI_in (n := 40) (nmI_l (by decide)) ⟨by decide, by decide⟩) dX1_init_33 ?_
  clear hS hn0
  intro H locs hn0 hz9 hk hS
  replace hn0 : gC G (z0) (.inl (G.2.2 3, 40, .inr (.inr (.inr (.inr (va_up (fun k => if k < 39 then some (G.1 + (z0 + 1 + k)) else none) 39 (some (G.1 + (z0 + 40))))))))) H := hn0
  replace hn0 : gC G (z0) (.inl (G.2.2 3, 40, .inr (.inr (.inr (.inr (va_up (fun k => if k < 39 then some (G.1 + (z0 + 1 + k)) else none) 39 (some ((fun k => G.1 + (z0 + 1 + k)) 39)))))))) H := hn0
  rw [gup (g := fun k => G.1 + (z0 + 1 + k))] at hn0
  replace hn0 : gC G (z0) (.inl (G.2.2 3, 40, .inr (.inr (.inr (.inr (fun k => if k < 40 then some (G.1 + (z0 + 1 + k)) else none)))))) H := hn0
  replace ho := gC_k ho (hk _ (by omega))
  replace gr := gGr_k gr (fun q h1 h2 h3 => hk q (by omega))
  replace hn40 := gC_k hn40 (hk _ (by omega))
  rw [← hz9] at hz; clear hz9 hk
  replace gr := gGr_s (n := 39) gr hn40
  clear hn40
  refine g_iinc X (a := 39) (lv' := [(1, .int (iI 40)), (0, .ref (G.1 + (p0)))]) dX1_init_34 hl (k := 0) rfl (by decide) rfl ?_
  clear hl
  intro ls hl
  refine lv_goto (tgt := 15) X.1 X.2.1 dX1_init_37 (by decide) ?_
  refine lv_iload_n X.1 X.2.1 dX1_init_15 rfl (lv_at hl.1 0 rfl) ?_
  refine lv_bipush X.1 X.2.1 dX1_init_16 (v := iI 40) (by decide) ?_
  refine g_icmp_ge X (nmI_l (by decide)) (nmI_l (by decide)) (tgt := 40) dX1_init_18 (by decide) (fun _ => ?_) (fun hc => absurd hc (by decide))
  exact c_vret X (Post := fun H => C_X1_init G p0 z0 H) ⟨ho, gr, (gC_q (fun j hj => if_pos hj) hn0)⟩ hz hS ⟨Nat.le_of_ble_eq_true rfl, Nat.le_of_ble_eq_true rfl⟩ dX1_init_40
