def C_X8_init (G : gG) (p0 z0 : Nat) (v1 : Int) (s2 : Nat) (H : Heap) : Prop := gC G (p0) (.inr (8, [.int (iI v1), .ref (G.1 + (z0 + 1)), .ref (G.1 + (z0)), .int 0, .int 0, .int 0, .int 0, .int 0, .int 0, .int (iI 5), .int 0, .int 0, .int 0])) H ∧ gC G (z0) (.inl (G.2.2 2, 4, .inr (.inr (.inr (.inr (fun k => some (G.1 + (z0 + 6 + k)))))))) H ∧ C_X6_init G (z0 + 1) (z0 + 2) s2 H ∧ gC G (z0 + 6) (.inr (0, [.int (iI v1), .int (iI 0), .int (iI ((-1))), .int 0, .int 0, .int 0, .int 0, .int 0])) H ∧ gC G (z0 + 7) (.inr (0, [.int (iI v1), .int (iI 1), .int (iI ((-1))), .int 0, .int 0, .int 0, .int 0, .int 0])) H ∧ gC G (z0 + 8) (.inr (0, [.int (iI v1), .int (iI 2), .int (iI ((-1))), .int 0, .int 0, .int 0, .int 0, .int 0])) H ∧ gC G (z0 + 9) (.inr (0, [.int (iI v1), .int (iI 3), .int (iI ((-1))), .int 0, .int 0, .int 0, .int 0, .int 0])) H
theorem C_X8_init_k {G : gG} {p0 z0 : Nat} {v1 : Int} {s2 : Nat} {H H1 : Heap} (h : C_X8_init G p0 z0 v1 s2 H) (hk : ∀ q : Nat, (q = G.1 + p0 ∨ (G.1 + z0 ≤ q ∧ q < G.1 + (z0 + 10))) → H1[q]? = H[q]?) : C_X8_init G p0 z0 v1 s2 H1 := by
  obtain ⟨h0, h1, h2, h3, h4, h5, h6⟩ := h
  exact ⟨gC_k h0 (hk _ (by omega)), gC_k h1 (hk _ (by omega)), C_X6_init_k h2 (fun q h9 => hk q (by omega)), gC_k h3 (hk _ (by omega)), gC_k h4 (hk _ (by omega)), gC_k h5 (hk _ (by omega)), gC_k h6 (hk _ (by omega))⟩
set_option maxRecDepth 20000 in
set_option maxHeartbeats 4000000 in
theorem m_X8_init (l : Launch) (G : gG) (p0 z0 : Nat) (v1 : Int) (nv1 : nmI v1) (s2 : Nat) (hpz : p0 < z0) : gCMet l yX8_init cX8_init 4 2 42 10 58 G p0 z0 10 [.ref (G.1 + (p0)), .int (iI v1), .ref (G.1 + (s2))] (fun H => gC G p0 (.inr (8, [.int 0, .null, .null, .int 0, .int 0, .int 0, .int 0, .int 0, .int 0, .int 0, .int 0, .int 0, .int 0])) H) (fun H => C_X8_init G p0 z0 v1 s2 H) := by
  refine gOfC (by decide) (by show _ ≤ 4; exact Nat.le_of_ble_eq_true rfl) rfl rfl ?_
  intro p e s m below meth c X hini ho hz ls hl
  have hS : va_S (gCA G p0 z0) s.heap s.heap [] := va_S.rf
  generalize hargs : ([.ref (G.1 + (p0)), .int (iI v1), .ref (G.1 + (s2))] : List Value).toArray = args at X ⊢
  clear hargs
  replace hl : gLv ls 4 [(0, .ref (G.1 + (p0))), (1, .int (iI v1)), (2, .ref (G.1 + (s2)))] := hl
  refine lv_aload_n X.1 X.2.1 dX8_init_0 rfl (lv_at hl.1 0 rfl) ?_
  refine c_obj X k_102 k_56 k_57 hl dX8_init_1 (by decide) (by decide) ?_
  refine lv_aload_n X.1 X.2.1 dX8_init_4 rfl (lv_at hl.1 0 rfl) ?_
  refine lv_iconst X.1 X.2.1 dX8_init_5 (v := iI 4) rfl ?_
  refine c_newq X (t0 := 2) k_103 k_104 rfl hz hS (N' := 4) (by decide) (by decide) (by decide) (Nat.le_of_ble_eq_true rfl) (Nat.le_of_ble_eq_true rfl) dX8_init_6 ?_
  clear hS
  intro H hn0 hz9 hk hS
  replace ho := gC_k ho (hk _ (by omega))
  replace hz : H.size = G.1 + (z0 + 1) := hz9.trans (by omega)
  clear hz9 hk
  refine c_putF X hini cX8 ho (Or.inl rfl) hS 2 (by decide) k_186 rfl rfl rfl (tk := (.array (.object "BuildGrid$Action"))) (by decide +kernel) (v := .ref (G.1 + (z0))) rfl rfl (Nat.le_of_ble_eq_true rfl) dX8_init_9 ?_
  clear hS ho
  intro H locs ho hz9 hk hS
  replace ho : gC G (p0) (.inr (8, [.int 0, .null, .ref (G.1 + (z0)), .int 0, .int 0, .int 0, .int 0, .int 0, .int 0, .int 0, .int 0, .int 0, .int 0])) H := ho
  replace hn0 := gC_k hn0 (hk _ (by omega))
  rw [← hz9] at hz; clear hz9 hk
  refine lv_aload_n X.1 X.2.1 dX8_init_12 rfl (lv_at hl.1 0 rfl) ?_
  refine lv_iconst X.1 X.2.1 dX8_init_13 (v := iI 5) rfl ?_
  refine c_put X cX8 ho (Or.inl rfl) hS 9 (by decide) k_208 rfl rfl (tk := .int) (by decide +kernel) (v := .int (iI 5)) rfl rfl (Nat.le_of_ble_eq_true rfl) dX8_init_14 ?_
  clear hS ho
  intro H locs ho hz9 hk hS
  replace ho : gC G (p0) (.inr (8, [.int 0, .null, .ref (G.1 + (z0)), .int 0, .int 0, .int 0, .int 0, .int 0, .int 0, .int (iI 5), .int 0, .int 0, .int 0])) H := ho
  replace hn0 := gC_k hn0 (hk _ (by omega))
  rw [← hz9] at hz; clear hz9 hk
  refine lv_aload_n X.1 X.2.1 dX8_init_17 rfl (lv_at hl.1 0 rfl) ?_
  refine lv_iload_n X.1 X.2.1 dX8_init_18 rfl (lv_at hl.1 1 rfl) ?_
  refine c_putF X hini cX8 ho (Or.inl rfl) hS 0 (by decide) k_177 rfl rfl rfl (tk := .int) (by decide +kernel) (v := .int (iI v1)) rfl rfl (Nat.le_of_ble_eq_true rfl) dX8_init_19 ?_
  clear hS ho
  intro H locs ho hz9 hk hS
  replace ho : gC G (p0) (.inr (8, [.int (iI v1), .null, .ref (G.1 + (z0)), .int 0, .int 0, .int 0, .int 0, .int 0, .int 0, .int (iI 5), .int 0, .int 0, .int 0])) H := ho
  replace hn0 := gC_k hn0 (hk _ (by omega))
  rw [← hz9] at hz; clear hz9 hk
  refine lv_aload_n X.1 X.2.1 dX8_init_22 rfl (lv_at hl.1 0 rfl) ?_
  refine c_new X cX6 k_105 k_106 k_35 hz hS (fs := [.null, .null, .null, .null, .null, .int 0]) (fun j hj => by rcases (show j = 0 ∨ j = 1 ∨ j = 2 ∨ j = 3 ∨ j = 4 ∨ j = 5 by omega) with rfl | rfl | rfl | rfl | rfl | rfl <;> rfl) (Nat.le_of_ble_eq_true rfl) (Nat.le_of_ble_eq_true rfl) dX8_init_23 ?_
  clear hS
  intro H hn1 hz9 hk hS
  replace ho := gC_k ho (hk _ (by omega))
  replace hn0 := gC_k hn0 (hk _ (by omega))
  replace hz : H.size = G.1 + (z0 + 2) := hz9.trans (by omega)
  clear hz9 hk
  refine lv_dup X.1 X.2.1 dX8_init_26 rfl ?_
  refine lv_aload_n X.1 X.2.1 dX8_init_27 rfl (lv_at hl.1 2 rfl) ?_
  refine c_call X (As := [.ref (G.1 + (s2))]) (m_X6_init l G (z0 + 1) (z0 + 2) s2 (by omega)) calX6_init k_108 k_107 rfl hn1 hz hS (fun q h => gCA_up (by omega) (by omega) h) ⟨by decide, by decide⟩ rfl hl rfl (Nat.le_of_ble_eq_true rfl) ⟨Nat.le_of_ble_eq_true rfl, Nat.le_of_ble_eq_true rfl⟩ dX8_init_28 ?_
  clear hS hn1
  intro H locs hn1 hz9 hk hS
  replace ho := gC_k ho (hk _ (by omega) (fun z => by rcases z with z | z <;> omega))
  replace hn0 := gC_k hn0 (hk _ (by omega) (fun z => by rcases z with z | z <;> omega))
  replace hz : H.size = G.1 + (z0 + 6) := hz9.trans (by omega)
  clear hz9 hk
  refine c_putF X hini cX8 ho (Or.inl rfl) hS 1 (by decide) k_182 rfl rfl rfl (tk := (.object "BuildGrid$Inputs")) (by decide +kernel) (v := .ref (G.1 + (z0 + 1))) rfl rfl (Nat.le_of_ble_eq_true rfl) dX8_init_31 ?_
  clear hS ho
  intro H locs ho hz9 hk hS
  replace ho : gC G (p0) (.inr (8, [.int (iI v1), .ref (G.1 + (z0 + 1)), .ref (G.1 + (z0)), .int 0, .int 0, .int 0, .int 0, .int 0, .int 0, .int (iI 5), .int 0, .int 0, .int 0])) H := ho
  replace hn0 := gC_k hn0 (hk _ (by omega))
  replace hn1 := C_X6_init_k hn1 (fun q h9 => hk _ (by omega))
  rw [← hz9] at hz; clear hz9 hk
  refine lv_iconst X.1 X.2.1 dX8_init_34 (v := iI 0) rfl ?_
  refine g_istore_n X (lv' := [(3, .int (iI 0)), (0, .ref (G.1 + (p0))), (1, .int (iI v1)), (2, .ref (G.1 + (s2)))]) dX8_init_35 rfl hl (by decide) rfl ?_
  clear hl
  intro ls hl
  refine lv_iload_n X.1 X.2.1 dX8_init_36 rfl (lv_at hl.1 0 rfl) ?_
  refine lv_iconst X.1 X.2.1 dX8_init_37 (v := iI 4) rfl ?_
  refine g_icmp_ge X (nmI_l (by decide)) (nmI_l (by decide)) (tgt := 62) dX8_init_38 (by decide) (fun hc => absurd (by decide) hc) (fun _ => ?_)
  refine lv_aload_n X.1 X.2.1 dX8_init_41 rfl (lv_at hl.1 1 rfl) ?_
  refine c_get X cX8 ho 2 (by decide) k_186 rfl (v := .ref (G.1 + (z0))) rfl dX8_init_42 ?_
  refine lv_iload_n X.1 X.2.1 dX8_init_45 rfl (lv_at hl.1 0 rfl) ?_
  refine c_new X cX0 k_103 k_134 k_36 hz hS (fs := [.int 0, .int 0, .int 0, .int 0, .int 0, .int 0, .int 0, .int 0]) (fun j hj => by rcases (show j = 0 ∨ j = 1 ∨ j = 2 ∨ j = 3 ∨ j = 4 ∨ j = 5 ∨ j = 6 ∨ j = 7 by omega) with rfl | rfl | rfl | rfl | rfl | rfl | rfl | rfl <;> rfl) (Nat.le_of_ble_eq_true rfl) (Nat.le_of_ble_eq_true rfl) dX8_init_46 ?_
  clear hS
  intro H hn6 hz9 hk hS
  replace ho := gC_k ho (hk _ (by omega))
  replace hn0 := gC_k hn0 (hk _ (by omega))
  replace hn1 := C_X6_init_k hn1 (fun q h9 => hk _ (by omega))
  replace hz : H.size = G.1 + (z0 + 7) := hz9.trans (by omega)
  clear hz9 hk
  refine lv_dup X.1 X.2.1 dX8_init_49 rfl ?_
  refine lv_iload_n X.1 X.2.1 dX8_init_50 rfl (lv_at hl.1 2 rfl) ?_
  refine lv_iload_n X.1 X.2.1 dX8_init_51 rfl (lv_at hl.1 0 rfl) ?_
  refine c_call X (As := [.int (iI v1), .int (iI 0)]) (m_X0_init l G (z0 + 6) (z0 + 7) v1 nv1 0 (nmI_l (by decide)) (by omega)) calX0_init k_136 k_135 rfl hn6 hz hS (fun q h => gCA_up (by omega) (by omega) h) ⟨by decide, by decide⟩ rfl hl rfl (Nat.le_of_ble_eq_true rfl) ⟨Nat.le_of_ble_eq_true rfl, Nat.le_of_ble_eq_true rfl⟩ dX8_init_52 ?_
  clear hS hn6
  intro H locs hn6 hz9 hk hS
  replace ho := gC_k ho (hk _ (by omega) (fun z => by rcases z with z | z <;> omega))
  replace hn0 := gC_k hn0 (hk _ (by omega) (fun z => by rcases z with z | z <;> omega))
  replace hn1 := C_X6_init_k hn1 (fun q h9 => hk _ (by omega) (fun z => by rcases z with z | z <;> omega))
  replace hz : H.size = G.1 + (z0 + 7) := hz9.trans (by omega)
  clear hz9 hk
  replace hn6 : gC G (z0 + 6) (.inr (0, [.int (iI v1), .int (iI 0), .int (iI ((-1))), .int 0, .int 0, .int 0, .int 0, .int 0])) H := hn6
  refine c_astq X hn0 (t0 := 2) rfl hn6 (r := (RX0, TX0, 8)) rfl (Or.inr (by show G.1 + z0 ≤ G.1 + (z0); omega)) hS (iI_in (n := 4) (nmI_l (by decide)) ⟨by decide, by decide⟩) dX8_init_55 ?_
  clear hS hn0
  intro H locs hn0 hz9 hk hS
  replace hn0 : gC G (z0) (.inl (G.2.2 2, 4, .inr (.inr (.inr (.inr (va_up (fun _ => none) 0 (some (G.1 + (z0 + 6))))))))) H := hn0
  replace ho := gC_k ho (hk _ (by omega))
  replace hn1 := C_X6_init_k hn1 (fun q h9 => hk _ (by omega))
  replace hn6 := gC_k hn6 (hk _ (by omega))
  rw [← hz9] at hz; clear hz9 hk
  refine g_iinc X (a := 0) (lv' := [(3, .int (iI 1)), (0, .ref (G.1 + (p0))), (1, .int (iI v1)), (2, .ref (G.1 + (s2)))]) dX8_init_56 hl (k := 0) rfl (by decide) rfl ?_
  clear hl
  intro ls hl
  refine lv_goto (tgt := 36) X.1 X.2.1 dX8_init_59 (by decide) ?_
  refine lv_iload_n X.1 X.2.1 dX8_init_36 rfl (lv_at hl.1 0 rfl) ?_
  refine lv_iconst X.1 X.2.1 dX8_init_37 (v := iI 4) rfl ?_
  refine g_icmp_ge X (nmI_l (by decide)) (nmI_l (by decide)) (tgt := 62) dX8_init_38 (by decide) (fun hc => absurd (by decide) hc) (fun _ => ?_)
  refine lv_aload_n X.1 X.2.1 dX8_init_41 rfl (lv_at hl.1 1 rfl) ?_
  refine c_get X cX8 ho 2 (by decide) k_186 rfl (v := .ref (G.1 + (z0))) rfl dX8_init_42 ?_
  refine lv_iload_n X.1 X.2.1 dX8_init_45 rfl (lv_at hl.1 0 rfl) ?_
  refine c_new X cX0 k_103 k_134 k_36 hz hS (fs := [.int 0, .int 0, .int 0, .int 0, .int 0, .int 0, .int 0, .int 0]) (fun j hj => by rcases (show j = 0 ∨ j = 1 ∨ j = 2 ∨ j = 3 ∨ j = 4 ∨ j = 5 ∨ j = 6 ∨ j = 7 by omega) with rfl | rfl | rfl | rfl | rfl | rfl | rfl | rfl <;> rfl) (Nat.le_of_ble_eq_true rfl) (Nat.le_of_ble_eq_true rfl) dX8_init_46 ?_
  clear hS
  intro H hn7 hz9 hk hS
  replace ho := gC_k ho (hk _ (by omega))
  replace hn0 := gC_k hn0 (hk _ (by omega))
  replace hn1 := C_X6_init_k hn1 (fun q h9 => hk _ (by omega))
  replace hn6 := gC_k hn6 (hk _ (by omega))
  replace hz : H.size = G.1 + (z0 + 8) := hz9.trans (by omega)
  clear hz9 hk
  refine lv_dup X.1 X.2.1 dX8_init_49 rfl ?_
  refine lv_iload_n X.1 X.2.1 dX8_init_50 rfl (lv_at hl.1 2 rfl) ?_
  refine lv_iload_n X.1 X.2.1 dX8_init_51 rfl (lv_at hl.1 0 rfl) ?_
  refine c_call X (As := [.int (iI v1), .int (iI 1)]) (m_X0_init l G (z0 + 7) (z0 + 8) v1 nv1 1 (nmI_l (by decide)) (by omega)) calX0_init k_136 k_135 rfl hn7 hz hS (fun q h => gCA_up (by omega) (by omega) h) ⟨by decide, by decide⟩ rfl hl rfl (Nat.le_of_ble_eq_true rfl) ⟨Nat.le_of_ble_eq_true rfl, Nat.le_of_ble_eq_true rfl⟩ dX8_init_52 ?_
  clear hS hn7
  intro H locs hn7 hz9 hk hS
  replace ho := gC_k ho (hk _ (by omega) (fun z => by rcases z with z | z <;> omega))
  replace hn0 := gC_k hn0 (hk _ (by omega) (fun z => by rcases z with z | z <;> omega))
  replace hn1 := C_X6_init_k hn1 (fun q h9 => hk _ (by omega) (fun z => by rcases z with z | z <;> omega))
  replace hn6 := gC_k hn6 (hk _ (by omega) (fun z => by rcases z with z | z <;> omega))
  replace hz : H.size = G.1 + (z0 + 8) := hz9.trans (by omega)
  clear hz9 hk
  replace hn7 : gC G (z0 + 7) (.inr (0, [.int (iI v1), .int (iI 1), .int (iI ((-1))), .int 0, .int 0, .int 0, .int 0, .int 0])) H := hn7
  refine c_astq X hn0 (t0 := 2) rfl hn7 (r := (RX0, TX0, 8)) rfl (Or.inr (by show G.1 + z0 ≤ G.1 + (z0); omega)) hS (iI_in (n := 4) (nmI_l (by decide)) ⟨by decide, by decide⟩) dX8_init_55 ?_
  clear hS hn0
  intro H locs hn0 hz9 hk hS
  replace hn0 : gC G (z0) (.inl (G.2.2 2, 4, .inr (.inr (.inr (.inr (va_up (va_up (fun _ => none) 0 (some (G.1 + (z0 + 6)))) 1 (some (G.1 + (z0 + 7))))))))) H := hn0
  replace ho := gC_k ho (hk _ (by omega))
  replace hn1 := C_X6_init_k hn1 (fun q h9 => hk _ (by omega))
  replace hn6 := gC_k hn6 (hk _ (by omega))
  replace hn7 := gC_k hn7 (hk _ (by omega))
  rw [← hz9] at hz; clear hz9 hk
  refine g_iinc X (a := 1) (lv' := [(3, .int (iI 2)), (0, .ref (G.1 + (p0))), (1, .int (iI v1)), (2, .ref (G.1 + (s2)))]) dX8_init_56 hl (k := 0) rfl (by decide) rfl ?_
  clear hl
  intro ls hl
  refine lv_goto (tgt := 36) X.1 X.2.1 dX8_init_59 (by decide) ?_
  refine lv_iload_n X.1 X.2.1 dX8_init_36 rfl (lv_at hl.1 0 rfl) ?_
  refine lv_iconst X.1 X.2.1 dX8_init_37 (v := iI 4) rfl ?_
  refine g_icmp_ge X (nmI_l (by decide)) (nmI_l (by decide)) (tgt := 62) dX8_init_38 (by decide) (fun hc => absurd (by decide) hc) (fun _ => ?_)
  refine lv_aload_n X.1 X.2.1 dX8_init_41 rfl (lv_at hl.1 1 rfl) ?_
  refine c_get X cX8 ho 2 (by decide) k_186 rfl (v := .ref (G.1 + (z0))) rfl dX8_init_42 ?_
  refine lv_iload_n X.1 X.2.1 dX8_init_45 rfl (lv_at hl.1 0 rfl) ?_
  refine c_new X cX0 k_103 k_134 k_36 hz hS (fs := [.int 0, .int 0, .int 0, .int 0, .int 0, .int 0, .int 0, .int 0]) (fun j hj => by rcases (show j = 0 ∨ j = 1 ∨ j = 2 ∨ j = 3 ∨ j = 4 ∨ j = 5 ∨ j = 6 ∨ j = 7 by omega) with rfl | rfl | rfl | rfl | rfl | rfl | rfl | rfl <;> rfl) (Nat.le_of_ble_eq_true rfl) (Nat.le_of_ble_eq_true rfl) dX8_init_46 ?_
  clear hS
  intro H hn8 hz9 hk hS
  replace ho := gC_k ho (hk _ (by omega))
  replace hn0 := gC_k hn0 (hk _ (by omega))
  replace hn1 := C_X6_init_k hn1 (fun q h9 => hk _ (by omega))
  replace hn6 := gC_k hn6 (hk _ (by omega))
  replace hn7 := gC_k hn7 (hk _ (by omega))
  replace hz : H.size = G.1 + (z0 + 9) := hz9.trans (by omega)
  clear hz9 hk
  refine lv_dup X.1 X.2.1 dX8_init_49 rfl ?_
  refine lv_iload_n X.1 X.2.1 dX8_init_50 rfl (lv_at hl.1 2 rfl) ?_
  refine lv_iload_n X.1 X.2.1 dX8_init_51 rfl (lv_at hl.1 0 rfl) ?_
  refine c_call X (As := [.int (iI v1), .int (iI 2)]) (m_X0_init l G (z0 + 8) (z0 + 9) v1 nv1 2 (nmI_l (by decide)) (by omega)) calX0_init k_136 k_135 rfl hn8 hz hS (fun q h => gCA_up (by omega) (by omega) h) ⟨by decide, by decide⟩ rfl hl rfl (Nat.le_of_ble_eq_true rfl) ⟨Nat.le_of_ble_eq_true rfl, Nat.le_of_ble_eq_true rfl⟩ dX8_init_52 ?_
  clear hS hn8
  intro H locs hn8 hz9 hk hS
  replace ho := gC_k ho (hk _ (by omega) (fun z => by rcases z with z | z <;> omega))
  replace hn0 := gC_k hn0 (hk _ (by omega) (fun z => by rcases z with z | z <;> omega))
  replace hn1 := C_X6_init_k hn1 (fun q h9 => hk _ (by omega) (fun z => by rcases z with z | z <;> omega))
  replace hn6 := gC_k hn6 (hk _ (by omega) (fun z => by rcases z with z | z <;> omega))
  replace hn7 := gC_k hn7 (hk _ (by omega) (fun z => by rcases z with z | z <;> omega))
  replace hz : H.size = G.1 + (z0 + 9) := hz9.trans (by omega)
  clear hz9 hk
  replace hn8 : gC G (z0 + 8) (.inr (0, [.int (iI v1), .int (iI 2), .int (iI ((-1))), .int 0, .int 0, .int 0, .int 0, .int 0])) H := hn8
  refine c_astq X hn0 (t0 := 2) rfl hn8 (r := (RX0, TX0, 8)) rfl (Or.inr (by show G.1 + z0 ≤ G.1 + (z0); omega)) hS (iI_in (n := 4) (nmI_l (by decide)) ⟨by decide, by decide⟩) dX8_init_55 ?_
  clear hS hn0
  intro H locs hn0 hz9 hk hS
  replace hn0 : gC G (z0) (.inl (G.2.2 2, 4, .inr (.inr (.inr (.inr (va_up (va_up (va_up (fun _ => none) 0 (some (G.1 + (z0 + 6)))) 1 (some (G.1 + (z0 + 7)))) 2 (some (G.1 + (z0 + 8))))))))) H := hn0
  replace ho := gC_k ho (hk _ (by omega))
  replace hn1 := C_X6_init_k hn1 (fun q h9 => hk _ (by omega))
  replace hn6 := gC_k hn6 (hk _ (by omega))
  replace hn7 := gC_k hn7 (hk _ (by omega))
  replace hn8 := gC_k hn8 (hk _ (by omega))
  rw [← hz9] at hz; clear hz9 hk
  refine g_iinc X (a := 2) (lv' := [(3, .int (iI 3)), (0, .ref (G.1 + (p0))), (1, .int (iI v1)), (2, .ref (G.1 + (s2)))]) dX8_init_56 hl (k := 0) rfl (by decide) rfl ?_
  clear hl
  intro ls hl
  refine lv_goto (tgt := 36) X.1 X.2.1 dX8_init_59 (by decide) ?_
  refine lv_iload_n X.1 X.2.1 dX8_init_36 rfl (lv_at hl.1 0 rfl) ?_
  refine lv_iconst X.1 X.2.1 dX8_init_37 (v := iI 4) rfl ?_
  refine g_icmp_ge X (nmI_l (by decide)) (nmI_l (by decide)) (tgt := 62) dX8_init_38 (by decide) (fun hc => absurd (by decide) hc) (fun _ => ?_)
  refine lv_aload_n X.1 X.2.1 dX8_init_41 rfl (lv_at hl.1 1 rfl) ?_
  refine c_get X cX8 ho 2 (by decide) k_186 rfl (v := .ref (G.1 + (z0))) rfl dX8_init_42 ?_
  refine lv_iload_n X.1 X.2.1 dX8_init_45 rfl (lv_at hl.1 0 rfl) ?_
  refine c_new X cX0 k_103 k_134 k_36 hz hS (fs := [.int 0, .int 0, .int 0, .int 0, .int 0, .int 0, .int 0, .int 0]) (fun j hj => by rcases (show j = 0 ∨ j = 1 ∨ j = 2 ∨ j = 3 ∨ j = 4 ∨ j = 5 ∨ j = 6 ∨ j = 7 by omega) with rfl | rfl | rfl | rfl | rfl | rfl | rfl | rfl <;> rfl) (Nat.le_of_ble_eq_true rfl) (Nat.le_of_ble_eq_true rfl) dX8_init_46 ?_
  clear hS
  intro H hn9 hz9 hk hS
  replace ho := gC_k ho (hk _ (by omega))
  replace hn0 := gC_k hn0 (hk _ (by omega))
  replace hn1 := C_X6_init_k hn1 (fun q h9 => hk _ (by omega))
  replace hn6 := gC_k hn6 (hk _ (by omega))
  replace hn7 := gC_k hn7 (hk _ (by omega))
  replace hn8 := gC_k hn8 (hk _ (by omega))
  replace hz : H.size = G.1 + (z0 + 10) := hz9.trans (by omega)
  clear hz9 hk
  refine lv_dup X.1 X.2.1 dX8_init_49 rfl ?_
  refine lv_iload_n X.1 X.2.1 dX8_init_50 rfl (lv_at hl.1 2 rfl) ?_
  refine lv_iload_n X.1 X.2.1 dX8_init_51 rfl (lv_at hl.1 0 rfl) ?_
  refine c_call X (As := [.int (iI v1), .int (iI 3)]) (m_X0_init l G (z0 + 9) (z0 + 10) v1 nv1 3 (nmI_l (by decide)) (by omega)) calX0_init k_136 k_135 rfl hn9 hz hS (fun q h => gCA_up (by omega) (by omega) h) ⟨by decide, by decide⟩ rfl hl rfl (Nat.le_of_ble_eq_true rfl) ⟨Nat.le_of_ble_eq_true rfl, Nat.le_of_ble_eq_true rfl⟩ dX8_init_52 ?_
  clear hS hn9
  intro H locs hn9 hz9 hk hS
  replace ho := gC_k ho (hk _ (by omega) (fun z => by rcases z with z | z <;> omega))
  replace hn0 := gC_k hn0 (hk _ (by omega) (fun z => by rcases z with z | z <;> omega))
  replace hn1 := C_X6_init_k hn1 (fun q h9 => hk _ (by omega) (fun z => by rcases z with z | z <;> omega))
  replace hn6 := gC_k hn6 (hk _ (by omega) (fun z => by rcases z with z | z <;> omega))
  replace hn7 := gC_k hn7 (hk _ (by omega) (fun z => by rcases z with z | z <;> omega))
  replace hn8 := gC_k hn8 (hk _ (by omega) (fun z => by rcases z with z | z <;> omega))
  replace hz : H.size = G.1 + (z0 + 10) := hz9.trans (by omega)
  clear hz9 hk
  replace hn9 : gC G (z0 + 9) (.inr (0, [.int (iI v1), .int (iI 3), .int (iI ((-1))), .int 0, .int 0, .int 0, .int 0, .int 0])) H := hn9
  refine c_astq X hn0 (t0 := 2) rfl hn9 (r := (RX0, TX0, 8)) rfl (Or.inr (by show G.1 + z0 ≤ G.1 + (z0); omega)) hS (iI_in (n := 4) (nmI_l (by decide)) ⟨by decide, by decide⟩) dX8_init_55 ?_
  clear hS hn0
  intro H locs hn0 hz9 hk hS
  replace hn0 : gC G (z0) (.inl (G.2.2 2, 4, .inr (.inr (.inr (.inr (va_up (va_up (va_up (va_up (fun _ => none) 0 (some (G.1 + (z0 + 6)))) 1 (some (G.1 + (z0 + 7)))) 2 (some (G.1 + (z0 + 8)))) 3 (some (G.1 + (z0 + 9))))))))) H := hn0
  replace ho := gC_k ho (hk _ (by omega))
  replace hn1 := C_X6_init_k hn1 (fun q h9 => hk _ (by omega))
  replace hn6 := gC_k hn6 (hk _ (by omega))
  replace hn7 := gC_k hn7 (hk _ (by omega))
  replace hn8 := gC_k hn8 (hk _ (by omega))
  replace hn9 := gC_k hn9 (hk _ (by omega))
  rw [← hz9] at hz; clear hz9 hk
  refine g_iinc X (a := 3) (lv' := [(3, .int (iI 4)), (0, .ref (G.1 + (p0))), (1, .int (iI v1)), (2, .ref (G.1 + (s2)))]) dX8_init_56 hl (k := 0) rfl (by decide) rfl ?_
  clear hl
  intro ls hl
  refine lv_goto (tgt := 36) X.1 X.2.1 dX8_init_59 (by decide) ?_
  refine lv_iload_n X.1 X.2.1 dX8_init_36 rfl (lv_at hl.1 0 rfl) ?_
  refine lv_iconst X.1 X.2.1 dX8_init_37 (v := iI 4) rfl ?_
  refine g_icmp_ge X (nmI_l (by decide)) (nmI_l (by decide)) (tgt := 62) dX8_init_38 (by decide) (fun _ => ?_) (fun hc => absurd hc (by decide))
  exact c_vret X (Post := fun H => C_X8_init G p0 z0 v1 s2 H) ⟨ho, (gC_q (fun j hj => by
    match j, hj with
    | 0, _ => rfl
    | 1, _ => rfl
    | 2, _ => rfl
    | 3, _ => rfl
    | j + 4, hj => exact absurd hj (by omega)) hn0), hn1, hn6, hn7, hn8, hn9⟩ hz hS ⟨Nat.le_of_ble_eq_true rfl, Nat.le_of_ble_eq_true rfl⟩ dX8_init_62
