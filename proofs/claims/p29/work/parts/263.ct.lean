def C_X2_init (G : gG) (p0 z0 : Nat) (s1 : Nat) (s2 : Nat) (s3 : Nat) (H : Heap) : Prop := gC G (p0) (.inr (2, [.ref (G.1 + (s1)), .ref (G.1 + (s2)), .ref (G.1 + (s3)), .ref (G.1 + (z0)), .ref (G.1 + (z0 + 1)), .ref (G.1 + (z0 + 2)), .int 0, .int 0, .int 0, .int (iI 1), .int 0])) H ∧ gC G (z0) (.inr (10, [.int (iI 0), .int (iI 1), .int (iI ((-1))), .null, .int 0, .int 0, .int 0, .int 0])) H ∧ gC G (z0 + 1) (.inl (G.2.2 5, 4, .inr (.inr (.inr (.inr (fun k => if k = 0 then some (G.1 + (z0)) else some (G.1 + (z0 + 2 + k)))))))) H ∧ gC G (z0 + 2) (.inl (G.2.2 0, 5, .inl (fun _ => 0))) H ∧ gC G (z0 + 3) (.inr (10, [.int (iI 1), .int (iI 0), .int (iI ((-1))), .null, .int 0, .int 0, .int 0, .int 0])) H ∧ gC G (z0 + 4) (.inr (10, [.int (iI 2), .int (iI 0), .int (iI ((-1))), .null, .int 0, .int 0, .int 0, .int 0])) H ∧ gC G (z0 + 5) (.inr (10, [.int (iI 3), .int (iI 0), .int (iI ((-1))), .null, .int 0, .int 0, .int 0, .int 0])) H
theorem C_X2_init_k {G : gG} {p0 z0 : Nat} {s1 : Nat} {s2 : Nat} {s3 : Nat} {H H1 : Heap} (h : C_X2_init G p0 z0 s1 s2 s3 H) (hk : ∀ q : Nat, (q = G.1 + p0 ∨ (G.1 + z0 ≤ q ∧ q < G.1 + (z0 + 6))) → H1[q]? = H[q]?) : C_X2_init G p0 z0 s1 s2 s3 H1 := by
  obtain ⟨h0, h1, h2, h3, h4, h5, h6⟩ := h
  exact ⟨gC_k h0 (hk _ (by omega)), gC_k h1 (hk _ (by omega)), gC_k h2 (hk _ (by omega)), gC_k h3 (hk _ (by omega)), gC_k h4 (hk _ (by omega)), gC_k h5 (hk _ (by omega)), gC_k h6 (hk _ (by omega))⟩
set_option maxRecDepth 20000 in
set_option maxHeartbeats 4000000 in
theorem m_X2_init (l : Launch) (G : gG) (p0 z0 : Nat) (s1 : Nat) (s2 : Nat) (s3 : Nat) (hpz : p0 < z0) : gCMet l yX2_init cX2_init 5 2 42 6 41 G p0 z0 6 [.ref (G.1 + (p0)), .ref (G.1 + (s1)), .ref (G.1 + (s2)), .ref (G.1 + (s3))] (fun H => gC G p0 (.inr (2, [.null, .null, .null, .null, .null, .null, .int 0, .int 0, .int 0, .int 0, .int 0])) H) (fun H => C_X2_init G p0 z0 s1 s2 s3 H) := by
  refine gOfC (by decide) (by show _ ≤ 5; exact Nat.le_of_ble_eq_true rfl) rfl rfl ?_
  intro p e s m below meth c X hini ho hz ls hl
  have hS : va_S (gCA G p0 z0) s.heap s.heap [] := va_S.rf
  generalize hargs : ([.ref (G.1 + (p0)), .ref (G.1 + (s1)), .ref (G.1 + (s2)), .ref (G.1 + (s3))] : List Value).toArray = args at X ⊢
  clear hargs
  replace hl : gLv ls 5 [(0, .ref (G.1 + (p0))), (1, .ref (G.1 + (s1))), (2, .ref (G.1 + (s2))), (3, .ref (G.1 + (s3)))] := hl
  refine lv_aload_n X.1 X.2.1 dX2_init_0 rfl (lv_at hl.1 0 rfl) ?_
  refine c_obj X k_341 k_56 k_57 hl dX2_init_1 (by decide) (by decide) ?_
  refine lv_aload_n X.1 X.2.1 dX2_init_4 rfl (lv_at hl.1 0 rfl) ?_
  refine c_new X cX10 k_342 k_343 k_41 hz hS (fs := [.int 0, .int 0, .int 0, .null, .int 0, .int 0, .int 0, .int 0]) (fun j hj => by rcases (show j = 0 ∨ j = 1 ∨ j = 2 ∨ j = 3 ∨ j = 4 ∨ j = 5 ∨ j = 6 ∨ j = 7 by omega) with rfl | rfl | rfl | rfl | rfl | rfl | rfl | rfl <;> rfl) (Nat.le_of_ble_eq_true rfl) (Nat.le_of_ble_eq_true rfl) dX2_init_5 ?_
  clear hS
  intro H hn0 hz9 hk hS
  replace ho := gC_k ho (hk _ (by omega))
  replace hz : H.size = G.1 + (z0 + 1) := hz9.trans (by omega)
  clear hz9 hk
  refine lv_dup X.1 X.2.1 dX2_init_8 rfl ?_
  refine lv_iconst X.1 X.2.1 dX2_init_9 (v := iI 0) rfl ?_
  refine lv_iconst X.1 X.2.1 dX2_init_10 (v := iI 1) rfl ?_
  refine c_call X (As := [.int (iI 0), .int (iI 1)]) (m_X10_init l G (z0) (z0 + 1) 0 (nmI_l (by decide)) 1 (nmI_l (by decide)) (by omega)) calX10_init k_345 k_344 rfl hn0 hz hS (fun q h => gCA_up (by omega) (by omega) h) ⟨by decide, by decide⟩ rfl hl rfl (Nat.le_of_ble_eq_true rfl) ⟨Nat.le_of_ble_eq_true rfl, Nat.le_of_ble_eq_true rfl⟩ dX2_init_11 ?_
  clear hS hn0
  intro H locs hn0 hz9 hk hS
  replace ho := gC_k ho (hk _ (by omega) (fun z => by rcases z with z | z <;> omega))
  replace hz : H.size = G.1 + (z0 + 1) := hz9.trans (by omega)
  clear hz9 hk
  replace hn0 : gC G (z0) (.inr (10, [.int (iI 0), .int (iI 1), .int (iI ((-1))), .null, .int 0, .int 0, .int 0, .int 0])) H := hn0
  refine c_putF X hini cX2 ho (Or.inl rfl) hS 3 (by decide) k_385 rfl rfl rfl (tk := (.object "BuildGrid$Worker")) (by decide +kernel) (v := .ref (G.1 + (z0))) rfl rfl (Nat.le_of_ble_eq_true rfl) dX2_init_14 ?_
  clear hS ho
  intro H locs ho hz9 hk hS
  replace ho : gC G (p0) (.inr (2, [.null, .null, .null, .ref (G.1 + (z0)), .null, .null, .int 0, .int 0, .int 0, .int 0, .int 0])) H := ho
  replace hn0 := gC_k hn0 (hk _ (by omega))
  rw [← hz9] at hz; clear hz9 hk
  refine lv_aload_n X.1 X.2.1 dX2_init_17 rfl (lv_at hl.1 0 rfl) ?_
  refine lv_iconst X.1 X.2.1 dX2_init_18 (v := iI 4) rfl ?_
  refine c_newq X (t0 := 5) k_342 k_381 rfl hz hS (N' := 4) (by decide) (by decide) (by decide) (Nat.le_of_ble_eq_true rfl) (Nat.le_of_ble_eq_true rfl) dX2_init_19 ?_
  clear hS
  intro H hn1 hz9 hk hS
  replace ho := gC_k ho (hk _ (by omega))
  replace hn0 := gC_k hn0 (hk _ (by omega))
  replace hz : H.size = G.1 + (z0 + 2) := hz9.trans (by omega)
  clear hz9 hk
  refine c_putF X hini cX2 ho (Or.inl rfl) hS 4 (by decide) k_386 rfl rfl rfl (tk := (.array (.object "BuildGrid$Worker"))) (by decide +kernel) (v := .ref (G.1 + (z0 + 1))) rfl rfl (Nat.le_of_ble_eq_true rfl) dX2_init_22 ?_
  clear hS ho
  intro H locs ho hz9 hk hS
  replace ho : gC G (p0) (.inr (2, [.null, .null, .null, .ref (G.1 + (z0)), .ref (G.1 + (z0 + 1)), .null, .int 0, .int 0, .int 0, .int 0, .int 0])) H := ho
  replace hn0 := gC_k hn0 (hk _ (by omega))
  replace hn1 := gC_k hn1 (hk _ (by omega))
  rw [← hz9] at hz; clear hz9 hk
  refine lv_aload_n X.1 X.2.1 dX2_init_25 rfl (lv_at hl.1 0 rfl) ?_
  refine lv_iconst X.1 X.2.1 dX2_init_26 (v := iI 5) rfl ?_
  refine c_newa X (t0 := 0) k_89 rfl rfl (fun cA h1 h2 => gRA_eq h1 h2) hz hS (a0 := (5, .inl (fun _ => 0))) (fun _ => rfl) (by decide) (N' := 5) (by decide) (by decide) (Nat.le_of_ble_eq_true rfl) (Nat.le_of_ble_eq_true rfl) dX2_init_27 ?_
  clear hS
  intro H hn2 hz9 hk hS
  replace ho := gC_k ho (hk _ (by omega))
  replace hn0 := gC_k hn0 (hk _ (by omega))
  replace hn1 := gC_k hn1 (hk _ (by omega))
  replace hz : H.size = G.1 + (z0 + 3) := hz9.trans (by omega)
  clear hz9 hk
  refine c_putF X hini cX2 ho (Or.inl rfl) hS 5 (by decide) k_387 rfl rfl rfl (tk := (.array .int)) (by decide +kernel) (v := .ref (G.1 + (z0 + 2))) rfl rfl (Nat.le_of_ble_eq_true rfl) dX2_init_29 ?_
  clear hS ho
  intro H locs ho hz9 hk hS
  replace ho : gC G (p0) (.inr (2, [.null, .null, .null, .ref (G.1 + (z0)), .ref (G.1 + (z0 + 1)), .ref (G.1 + (z0 + 2)), .int 0, .int 0, .int 0, .int 0, .int 0])) H := ho
  replace hn0 := gC_k hn0 (hk _ (by omega))
  replace hn1 := gC_k hn1 (hk _ (by omega))
  replace hn2 := gC_k hn2 (hk _ (by omega))
  rw [← hz9] at hz; clear hz9 hk
  refine lv_aload_n X.1 X.2.1 dX2_init_32 rfl (lv_at hl.1 0 rfl) ?_
  refine lv_iconst X.1 X.2.1 dX2_init_33 (v := iI 1) rfl ?_
  refine c_put X cX2 ho (Or.inl rfl) hS 9 (by decide) k_393 rfl rfl (tk := .boolean) (by decide +kernel) (v := .int (iI 1)) rfl rfl (Nat.le_of_ble_eq_true rfl) dX2_init_34 ?_
  clear hS ho
  intro H locs ho hz9 hk hS
  replace ho : gC G (p0) (.inr (2, [.null, .null, .null, .ref (G.1 + (z0)), .ref (G.1 + (z0 + 1)), .ref (G.1 + (z0 + 2)), .int 0, .int 0, .int 0, .int (iI 1), .int 0])) H := ho
  replace hn0 := gC_k hn0 (hk _ (by omega))
  replace hn1 := gC_k hn1 (hk _ (by omega))
  replace hn2 := gC_k hn2 (hk _ (by omega))
  rw [← hz9] at hz; clear hz9 hk
  refine lv_aload_n X.1 X.2.1 dX2_init_37 rfl (lv_at hl.1 0 rfl) ?_
  refine lv_aload_n X.1 X.2.1 dX2_init_38 rfl (lv_at hl.1 1 rfl) ?_
  refine c_putF X hini cX2 ho (Or.inl rfl) hS 0 (by decide) k_382 rfl rfl rfl (tk := (.object "BuildGrid$Graph")) (by decide +kernel) (v := .ref (G.1 + (s1))) rfl rfl (Nat.le_of_ble_eq_true rfl) dX2_init_39 ?_
  clear hS ho
  intro H locs ho hz9 hk hS
  replace ho : gC G (p0) (.inr (2, [.ref (G.1 + (s1)), .null, .null, .ref (G.1 + (z0)), .ref (G.1 + (z0 + 1)), .ref (G.1 + (z0 + 2)), .int 0, .int 0, .int 0, .int (iI 1), .int 0])) H := ho
  replace hn0 := gC_k hn0 (hk _ (by omega))
  replace hn1 := gC_k hn1 (hk _ (by omega))
  replace hn2 := gC_k hn2 (hk _ (by omega))
  rw [← hz9] at hz; clear hz9 hk
  refine lv_aload_n X.1 X.2.1 dX2_init_42 rfl (lv_at hl.1 0 rfl) ?_
  refine lv_aload_n X.1 X.2.1 dX2_init_43 rfl (lv_at hl.1 2 rfl) ?_
  refine c_putF X hini cX2 ho (Or.inl rfl) hS 1 (by decide) k_383 rfl rfl rfl (tk := (.object "BuildGrid$Cache")) (by decide +kernel) (v := .ref (G.1 + (s2))) rfl rfl (Nat.le_of_ble_eq_true rfl) dX2_init_44 ?_
  clear hS ho
  intro H locs ho hz9 hk hS
  replace ho : gC G (p0) (.inr (2, [.ref (G.1 + (s1)), .ref (G.1 + (s2)), .null, .ref (G.1 + (z0)), .ref (G.1 + (z0 + 1)), .ref (G.1 + (z0 + 2)), .int 0, .int 0, .int 0, .int (iI 1), .int 0])) H := ho
  replace hn0 := gC_k hn0 (hk _ (by omega))
  replace hn1 := gC_k hn1 (hk _ (by omega))
  replace hn2 := gC_k hn2 (hk _ (by omega))
  rw [← hz9] at hz; clear hz9 hk
  refine lv_aload_n X.1 X.2.1 dX2_init_47 rfl (lv_at hl.1 0 rfl) ?_
  refine lv_aload_n X.1 X.2.1 dX2_init_48 rfl (lv_at hl.1 3 rfl) ?_
  refine c_putF X hini cX2 ho (Or.inl rfl) hS 2 (by decide) k_384 rfl rfl rfl (tk := (.object "BuildGrid$View")) (by decide +kernel) (v := .ref (G.1 + (s3))) rfl rfl (Nat.le_of_ble_eq_true rfl) dX2_init_49 ?_
  clear hS ho
  intro H locs ho hz9 hk hS
  replace ho : gC G (p0) (.inr (2, [.ref (G.1 + (s1)), .ref (G.1 + (s2)), .ref (G.1 + (s3)), .ref (G.1 + (z0)), .ref (G.1 + (z0 + 1)), .ref (G.1 + (z0 + 2)), .int 0, .int 0, .int 0, .int (iI 1), .int 0])) H := ho
  replace hn0 := gC_k hn0 (hk _ (by omega))
  replace hn1 := gC_k hn1 (hk _ (by omega))
  replace hn2 := gC_k hn2 (hk _ (by omega))
  rw [← hz9] at hz; clear hz9 hk
  refine lv_aload_n X.1 X.2.1 dX2_init_52 rfl (lv_at hl.1 0 rfl) ?_
  refine c_get X cX2 ho 4 (by decide) k_386 rfl (v := .ref (G.1 + (z0 + 1))) rfl dX2_init_53 ?_
  refine lv_iconst X.1 X.2.1 dX2_init_56 (v := iI 0) rfl ?_
  refine lv_aload_n X.1 X.2.1 dX2_init_57 rfl (lv_at hl.1 0 rfl) ?_
  refine c_get X cX2 ho 3 (by decide) k_385 rfl (v := .ref (G.1 + (z0))) rfl dX2_init_58 ?_
  refine c_astq X hn1 (t0 := 5) rfl hn0 (r := (RX10, TX10, 8)) rfl (Or.inr (by show G.1 + z0 ≤ G.1 + (z0 + 1); omega)) hS (iI_in (n := 4) (nmI_l (by decide)) ⟨by decide, by decide⟩) dX2_init_61 ?_
  clear hS hn1
  intro H locs hn1 hz9 hk hS
  replace hn1 : gC G (z0 + 1) (.inl (G.2.2 5, 4, .inr (.inr (.inr (.inr (va_up (fun _ => none) 0 (some (G.1 + (z0))))))))) H := hn1
  replace ho := gC_k ho (hk _ (by omega))
  replace hn0 := gC_k hn0 (hk _ (by omega))
  replace hn2 := gC_k hn2 (hk _ (by omega))
  rw [← hz9] at hz; clear hz9 hk
  refine lv_iconst X.1 X.2.1 dX2_init_62 (v := iI 1) rfl ?_
  refine g_istore X (lv' := [(4, .int (iI 1)), (0, .ref (G.1 + (p0))), (1, .ref (G.1 + (s1))), (2, .ref (G.1 + (s2))), (3, .ref (G.1 + (s3)))]) dX2_init_63 hl (by decide) rfl ?_
  clear hl
  intro ls hl
  refine lv_iload X.1 X.2.1 dX2_init_65 (lv_at hl.1 0 rfl) ?_
  refine lv_iconst X.1 X.2.1 dX2_init_67 (v := iI 4) rfl ?_
  refine g_icmp_ge X (nmI_l (by decide)) (nmI_l (by decide)) (tgt := 94) dX2_init_68 (by decide) (fun hc => absurd (by decide) hc) (fun _ => ?_)
  refine lv_aload_n X.1 X.2.1 dX2_init_71 rfl (lv_at hl.1 1 rfl) ?_
  refine c_get X cX2 ho 4 (by decide) k_386 rfl (v := .ref (G.1 + (z0 + 1))) rfl dX2_init_72 ?_
  refine lv_iload X.1 X.2.1 dX2_init_75 (lv_at hl.1 0 rfl) ?_
  refine c_new X cX10 k_342 k_343 k_41 hz hS (fs := [.int 0, .int 0, .int 0, .null, .int 0, .int 0, .int 0, .int 0]) (fun j hj => by rcases (show j = 0 ∨ j = 1 ∨ j = 2 ∨ j = 3 ∨ j = 4 ∨ j = 5 ∨ j = 6 ∨ j = 7 by omega) with rfl | rfl | rfl | rfl | rfl | rfl | rfl | rfl <;> rfl) (Nat.le_of_ble_eq_true rfl) (Nat.le_of_ble_eq_true rfl) dX2_init_77 ?_
  clear hS
  intro H hn3 hz9 hk hS
  replace ho := gC_k ho (hk _ (by omega))
  replace hn0 := gC_k hn0 (hk _ (by omega))
  replace hn1 := gC_k hn1 (hk _ (by omega))
  replace hn2 := gC_k hn2 (hk _ (by omega))
  replace hz : H.size = G.1 + (z0 + 4) := hz9.trans (by omega)
  clear hz9 hk
  refine lv_dup X.1 X.2.1 dX2_init_80 rfl ?_
  refine lv_iload X.1 X.2.1 dX2_init_81 (lv_at hl.1 0 rfl) ?_
  refine lv_iconst X.1 X.2.1 dX2_init_83 (v := iI 0) rfl ?_
  refine c_call X (As := [.int (iI 1), .int (iI 0)]) (m_X10_init l G (z0 + 3) (z0 + 4) 1 (nmI_l (by decide)) 0 (nmI_l (by decide)) (by omega)) calX10_init k_345 k_344 rfl hn3 hz hS (fun q h => gCA_up (by omega) (by omega) h) ⟨by decide, by decide⟩ rfl hl rfl (Nat.le_of_ble_eq_true rfl) ⟨Nat.le_of_ble_eq_true rfl, Nat.le_of_ble_eq_true rfl⟩ dX2_init_84 ?_
  clear hS hn3
  intro H locs hn3 hz9 hk hS
  replace ho := gC_k ho (hk _ (by omega) (fun z => by rcases z with z | z <;> omega))
  replace hn0 := gC_k hn0 (hk _ (by omega) (fun z => by rcases z with z | z <;> omega))
  replace hn1 := gC_k hn1 (hk _ (by omega) (fun z => by rcases z with z | z <;> omega))
  replace hn2 := gC_k hn2 (hk _ (by omega) (fun z => by rcases z with z | z <;> omega))
  replace hz : H.size = G.1 + (z0 + 4) := hz9.trans (by omega)
  clear hz9 hk
  replace hn3 : gC G (z0 + 3) (.inr (10, [.int (iI 1), .int (iI 0), .int (iI ((-1))), .null, .int 0, .int 0, .int 0, .int 0])) H := hn3
  refine c_astq X hn1 (t0 := 5) rfl hn3 (r := (RX10, TX10, 8)) rfl (Or.inr (by show G.1 + z0 ≤ G.1 + (z0 + 1); omega)) hS (iI_in (n := 4) (nmI_l (by decide)) ⟨by decide, by decide⟩) dX2_init_87 ?_
  clear hS hn1
  intro H locs hn1 hz9 hk hS
  replace hn1 : gC G (z0 + 1) (.inl (G.2.2 5, 4, .inr (.inr (.inr (.inr (va_up (va_up (fun _ => none) 0 (some (G.1 + (z0)))) 1 (some (G.1 + (z0 + 3))))))))) H := hn1
  replace ho := gC_k ho (hk _ (by omega))
  replace hn0 := gC_k hn0 (hk _ (by omega))
  replace hn2 := gC_k hn2 (hk _ (by omega))
  replace hn3 := gC_k hn3 (hk _ (by omega))
  rw [← hz9] at hz; clear hz9 hk
  refine g_iinc X (a := 1) (lv' := [(4, .int (iI 2)), (0, .ref (G.1 + (p0))), (1, .ref (G.1 + (s1))), (2, .ref (G.1 + (s2))), (3, .ref (G.1 + (s3)))]) dX2_init_88 hl (k := 0) rfl (by decide) rfl ?_
  clear hl
  intro ls hl
  refine lv_goto (tgt := 65) X.1 X.2.1 dX2_init_91 (by decide) ?_
  refine lv_iload X.1 X.2.1 dX2_init_65 (lv_at hl.1 0 rfl) ?_
  refine lv_iconst X.1 X.2.1 dX2_init_67 (v := iI 4) rfl ?_
  refine g_icmp_ge X (nmI_l (by decide)) (nmI_l (by decide)) (tgt := 94) dX2_init_68 (by decide) (fun hc => absurd (by decide) hc) (fun _ => ?_)
  refine lv_aload_n X.1 X.2.1 dX2_init_71 rfl (lv_at hl.1 1 rfl) ?_
  refine c_get X cX2 ho 4 (by decide) k_386 rfl (v := .ref (G.1 + (z0 + 1))) rfl dX2_init_72 ?_
  refine lv_iload X.1 X.2.1 dX2_init_75 (lv_at hl.1 0 rfl) ?_
  refine c_new X cX10 k_342 k_343 k_41 hz hS (fs := [.int 0, .int 0, .int 0, .null, .int 0, .int 0, .int 0, .int 0]) (fun j hj => by rcases (show j = 0 ∨ j = 1 ∨ j = 2 ∨ j = 3 ∨ j = 4 ∨ j = 5 ∨ j = 6 ∨ j = 7 by omega) with rfl | rfl | rfl | rfl | rfl | rfl | rfl | rfl <;> rfl) (Nat.le_of_ble_eq_true rfl) (Nat.le_of_ble_eq_true rfl) dX2_init_77 ?_
  clear hS
  intro H hn4 hz9 hk hS
  replace ho := gC_k ho (hk _ (by omega))
  replace hn0 := gC_k hn0 (hk _ (by omega))
  replace hn1 := gC_k hn1 (hk _ (by omega))
  replace hn2 := gC_k hn2 (hk _ (by omega))
  replace hn3 := gC_k hn3 (hk _ (by omega))
  replace hz : H.size = G.1 + (z0 + 5) := hz9.trans (by omega)
  clear hz9 hk
  refine lv_dup X.1 X.2.1 dX2_init_80 rfl ?_
  refine lv_iload X.1 X.2.1 dX2_init_81 (lv_at hl.1 0 rfl) ?_
  refine lv_iconst X.1 X.2.1 dX2_init_83 (v := iI 0) rfl ?_
  refine c_call X (As := [.int (iI 2), .int (iI 0)]) (m_X10_init l G (z0 + 4) (z0 + 5) 2 (nmI_l (by decide)) 0 (nmI_l (by decide)) (by omega)) calX10_init k_345 k_344 rfl hn4 hz hS (fun q h => gCA_up (by omega) (by omega) h) ⟨by decide, by decide⟩ rfl hl rfl (Nat.le_of_ble_eq_true rfl) ⟨Nat.le_of_ble_eq_true rfl, Nat.le_of_ble_eq_true rfl⟩ dX2_init_84 ?_
  clear hS hn4
  intro H locs hn4 hz9 hk hS
  replace ho := gC_k ho (hk _ (by omega) (fun z => by rcases z with z | z <;> omega))
  replace hn0 := gC_k hn0 (hk _ (by omega) (fun z => by rcases z with z | z <;> omega))
  replace hn1 := gC_k hn1 (hk _ (by omega) (fun z => by rcases z with z | z <;> omega))
  replace hn2 := gC_k hn2 (hk _ (by omega) (fun z => by rcases z with z | z <;> omega))
  replace hn3 := gC_k hn3 (hk _ (by omega) (fun z => by rcases z with z | z <;> omega))
  replace hz : H.size = G.1 + (z0 + 5) := hz9.trans (by omega)
  clear hz9 hk
  replace hn4 : gC G (z0 + 4) (.inr (10, [.int (iI 2), .int (iI 0), .int (iI ((-1))), .null, .int 0, .int 0, .int 0, .int 0])) H := hn4
  refine c_astq X hn1 (t0 := 5) rfl hn4 (r := (RX10, TX10, 8)) rfl (Or.inr (by show G.1 + z0 ≤ G.1 + (z0 + 1); omega)) hS (iI_in (n := 4) (nmI_l (by decide)) ⟨by decide, by decide⟩) dX2_init_87 ?_
  clear hS hn1
  intro H locs hn1 hz9 hk hS
  replace hn1 : gC G (z0 + 1) (.inl (G.2.2 5, 4, .inr (.inr (.inr (.inr (va_up (va_up (va_up (fun _ => none) 0 (some (G.1 + (z0)))) 1 (some (G.1 + (z0 + 3)))) 2 (some (G.1 + (z0 + 4))))))))) H := hn1
  replace ho := gC_k ho (hk _ (by omega))
  replace hn0 := gC_k hn0 (hk _ (by omega))
  replace hn2 := gC_k hn2 (hk _ (by omega))
  replace hn3 := gC_k hn3 (hk _ (by omega))
  replace hn4 := gC_k hn4 (hk _ (by omega))
  rw [← hz9] at hz; clear hz9 hk
  refine g_iinc X (a := 2) (lv' := [(4, .int (iI 3)), (0, .ref (G.1 + (p0))), (1, .ref (G.1 + (s1))), (2, .ref (G.1 + (s2))), (3, .ref (G.1 + (s3)))]) dX2_init_88 hl (k := 0) rfl (by decide) rfl ?_
  clear hl
  intro ls hl
  refine lv_goto (tgt := 65) X.1 X.2.1 dX2_init_91 (by decide) ?_
  refine lv_iload X.1 X.2.1 dX2_init_65 (lv_at hl.1 0 rfl) ?_
  refine lv_iconst X.1 X.2.1 dX2_init_67 (v := iI 4) rfl ?_
  refine g_icmp_ge X (nmI_l (by decide)) (nmI_l (by decide)) (tgt := 94) dX2_init_68 (by decide) (fun hc => absurd (by decide) hc) (fun _ => ?_)
  refine lv_aload_n X.1 X.2.1 dX2_init_71 rfl (lv_at hl.1 1 rfl) ?_
  refine c_get X cX2 ho 4 (by decide) k_386 rfl (v := .ref (G.1 + (z0 + 1))) rfl dX2_init_72 ?_
  refine lv_iload X.1 X.2.1 dX2_init_75 (lv_at hl.1 0 rfl) ?_
  refine c_new X cX10 k_342 k_343 k_41 hz hS (fs := [.int 0, .int 0, .int 0, .null, .int 0, .int 0, .int 0, .int 0]) (fun j hj => by rcases (show j = 0 ∨ j = 1 ∨ j = 2 ∨ j = 3 ∨ j = 4 ∨ j = 5 ∨ j = 6 ∨ j = 7 by omega) with rfl | rfl | rfl | rfl | rfl | rfl | rfl | rfl <;> rfl) (Nat.le_of_ble_eq_true rfl) (Nat.le_of_ble_eq_true rfl) dX2_init_77 ?_
  clear hS
  intro H hn5 hz9 hk hS
  replace ho := gC_k ho (hk _ (by omega))
  replace hn0 := gC_k hn0 (hk _ (by omega))
  replace hn1 := gC_k hn1 (hk _ (by omega))
  replace hn2 := gC_k hn2 (hk _ (by omega))
  replace hn3 := gC_k hn3 (hk _ (by omega))
  replace hn4 := gC_k hn4 (hk _ (by omega))
  replace hz : H.size = G.1 + (z0 + 6) := hz9.trans (by omega)
  clear hz9 hk
  refine lv_dup X.1 X.2.1 dX2_init_80 rfl ?_
  refine lv_iload X.1 X.2.1 dX2_init_81 (lv_at hl.1 0 rfl) ?_
  refine lv_iconst X.1 X.2.1 dX2_init_83 (v := iI 0) rfl ?_
  refine c_call X (As := [.int (iI 3), .int (iI 0)]) (m_X10_init l G (z0 + 5) (z0 + 6) 3 (nmI_l (by decide)) 0 (nmI_l (by decide)) (by omega)) calX10_init k_345 k_344 rfl hn5 hz hS (fun q h => gCA_up (by omega) (by omega) h) ⟨by decide, by decide⟩ rfl hl rfl (Nat.le_of_ble_eq_true rfl) ⟨Nat.le_of_ble_eq_true rfl, Nat.le_of_ble_eq_true rfl⟩ dX2_init_84 ?_
  clear hS hn5
  intro H locs hn5 hz9 hk hS
  replace ho := gC_k ho (hk _ (by omega) (fun z => by rcases z with z | z <;> omega))
  replace hn0 := gC_k hn0 (hk _ (by omega) (fun z => by rcases z with z | z <;> omega))
  replace hn1 := gC_k hn1 (hk _ (by omega) (fun z => by rcases z with z | z <;> omega))
  replace hn2 := gC_k hn2 (hk _ (by omega) (fun z => by rcases z with z | z <;> omega))
  replace hn3 := gC_k hn3 (hk _ (by omega) (fun z => by rcases z with z | z <;> omega))
  replace hn4 := gC_k hn4 (hk _ (by omega) (fun z => by rcases z with z | z <;> omega))
  replace hz : H.size = G.1 + (z0 + 6) := hz9.trans (by omega)
  clear hz9 hk
  replace hn5 : gC G (z0 + 5) (.inr (10, [.int (iI 3), .int (iI 0), .int (iI ((-1))), .null, .int 0, .int 0, .int 0, .int 0])) H := hn5
  refine c_astq X hn1 (t0 := 5) rfl hn5 (r := (RX10, TX10, 8)) rfl (Or.inr (by show G.1 + z0 ≤ G.1 + (z0 + 1); omega)) hS (iI_in (n := 4) (nmI_l (by decide)) ⟨by decide, by decide⟩) dX2_init_87 ?_
  clear hS hn1
  intro H locs hn1 hz9 hk hS
  replace hn1 : gC G (z0 + 1) (.inl (G.2.2 5, 4, .inr (.inr (.inr (.inr (va_up (va_up (va_up (va_up (fun _ => none) 0 (some (G.1 + (z0)))) 1 (some (G.1 + (z0 + 3)))) 2 (some (G.1 + (z0 + 4)))) 3 (some (G.1 + (z0 + 5))))))))) H := hn1
  replace ho := gC_k ho (hk _ (by omega))
  replace hn0 := gC_k hn0 (hk _ (by omega))
  replace hn2 := gC_k hn2 (hk _ (by omega))
  replace hn3 := gC_k hn3 (hk _ (by omega))
  replace hn4 := gC_k hn4 (hk _ (by omega))
  replace hn5 := gC_k hn5 (hk _ (by omega))
  rw [← hz9] at hz; clear hz9 hk
  refine g_iinc X (a := 3) (lv' := [(4, .int (iI 4)), (0, .ref (G.1 + (p0))), (1, .ref (G.1 + (s1))), (2, .ref (G.1 + (s2))), (3, .ref (G.1 + (s3)))]) dX2_init_88 hl (k := 0) rfl (by decide) rfl ?_
  clear hl
  intro ls hl
  refine lv_goto (tgt := 65) X.1 X.2.1 dX2_init_91 (by decide) ?_
  refine lv_iload X.1 X.2.1 dX2_init_65 (lv_at hl.1 0 rfl) ?_
  refine lv_iconst X.1 X.2.1 dX2_init_67 (v := iI 4) rfl ?_
  refine g_icmp_ge X (nmI_l (by decide)) (nmI_l (by decide)) (tgt := 94) dX2_init_68 (by decide) (fun _ => ?_) (fun hc => absurd hc (by decide))
  exact c_vret X (Post := fun H => C_X2_init G p0 z0 s1 s2 s3 H) ⟨ho, hn0, (gC_q (fun j hj => by
    match j, hj with
    | 0, _ => rfl
    | 1, _ => rfl
    | 2, _ => rfl
    | 3, _ => rfl
    | j + 4, hj => exact absurd hj (by omega)) hn1), hn2, hn3, hn4, hn5⟩ hz hS ⟨Nat.le_of_ble_eq_true rfl, Nat.le_of_ble_eq_true rfl⟩ dX2_init_94
def C_X4_init (G : gG) (p0 z0 : Nat) (s1 : Nat) (s2 : Nat) (H : Heap) : Prop := gC G (p0) (.inr (4, [.ref (G.1 + (s1)), .ref (G.1 + (s2)), .ref (G.1 + (z0)), .int 0])) H ∧ C_X9_init G (z0) (z0 + 2) (s2 + 3) (z0 + 1) H ∧ gC G (z0 + 1) (.inl (G.2.2 0, 16, .inl (fun _ => 0))) H
theorem C_X4_init_k {G : gG} {p0 z0 : Nat} {s1 : Nat} {s2 : Nat} {H H1 : Heap} (h : C_X4_init G p0 z0 s1 s2 H) (hk : ∀ q : Nat, (q = G.1 + p0 ∨ (G.1 + z0 ≤ q ∧ q < G.1 + (z0 + 3))) → H1[q]? = H[q]?) : C_X4_init G p0 z0 s1 s2 H1 := by
  obtain ⟨h0, h1, h2⟩ := h
  exact ⟨gC_k h0 (hk _ (by omega)), C_X9_init_k h1 (fun q h9 => hk q (by omega)), gC_k h2 (hk _ (by omega))⟩
set_option maxRecDepth 20000 in
set_option maxHeartbeats 4000000 in
theorem m_X4_init (l : Launch) (G : gG) (p0 z0 : Nat) (s1 : Nat) (s2 : Nat) (hpz : p0 < z0) (hs2 : s2 < p0) : gCMet l yX4_init cX4_init 3 2 42 3 33 G p0 z0 3 [.ref (G.1 + (p0)), .ref (G.1 + (s1)), .ref (G.1 + (s2))] (fun H => gC G p0 (.inr (4, [.null, .null, .null, .int 0])) H ∧ gC G s2 (.inr (7, [.ref (G.1 + (s2 + 1)), .ref (G.1 + (s2 + 2)), .ref (G.1 + (s2 + 3)), .ref (G.1 + (s2 + 4)), .ref (G.1 + (s2 + 5)), .int 0])) H) (fun H => C_X4_init G p0 z0 s1 s2 H) := by
  refine gOfC (by decide) (by show _ ≤ 3; exact Nat.le_of_ble_eq_true rfl) rfl rfl ?_
  intro p e s m below meth c X hini ⟨ho, hsrc⟩ hz ls hl
  have hS : va_S (gCA G p0 z0) s.heap s.heap [] := va_S.rf
  generalize hargs : ([.ref (G.1 + (p0)), .ref (G.1 + (s1)), .ref (G.1 + (s2))] : List Value).toArray = args at X ⊢
  clear hargs
  replace hl : gLv ls 3 [(0, .ref (G.1 + (p0))), (1, .ref (G.1 + (s1))), (2, .ref (G.1 + (s2)))] := hl
  refine lv_aload_n X.1 X.2.1 dX4_init_0 rfl (lv_at hl.1 0 rfl) ?_
  refine c_obj X k_425 k_56 k_57 hl dX4_init_1 (by decide) (by decide) ?_
  refine lv_aload_n X.1 X.2.1 dX4_init_4 rfl (lv_at hl.1 0 rfl) ?_
  refine lv_aload_n X.1 X.2.1 dX4_init_5 rfl (lv_at hl.1 1 rfl) ?_
  refine c_putF X hini cX4 ho (Or.inl rfl) hS 0 (by decide) k_428 rfl rfl rfl (tk := (.object "BuildGrid$Graph")) (by decide +kernel) (v := .ref (G.1 + (s1))) rfl rfl (Nat.le_of_ble_eq_true rfl) dX4_init_6 ?_
  clear hS ho
  intro H locs ho hz9 hk hS
  replace ho : gC G (p0) (.inr (4, [.ref (G.1 + (s1)), .null, .null, .int 0])) H := ho
  replace hsrc := gC_k hsrc (hk _ (by omega))
  rw [← hz9] at hz; clear hz9 hk
  refine lv_aload_n X.1 X.2.1 dX4_init_9 rfl (lv_at hl.1 0 rfl) ?_
  refine lv_aload_n X.1 X.2.1 dX4_init_10 rfl (lv_at hl.1 2 rfl) ?_
  refine c_putF X hini cX4 ho (Or.inl rfl) hS 1 (by decide) k_429 rfl rfl rfl (tk := (.object "BuildGrid$Sources")) (by decide +kernel) (v := .ref (G.1 + (s2))) rfl rfl (Nat.le_of_ble_eq_true rfl) dX4_init_11 ?_
  clear hS ho
  intro H locs ho hz9 hk hS
  replace ho : gC G (p0) (.inr (4, [.ref (G.1 + (s1)), .ref (G.1 + (s2)), .null, .int 0])) H := ho
  replace hsrc := gC_k hsrc (hk _ (by omega))
  rw [← hz9] at hz; clear hz9 hk
  refine lv_aload_n X.1 X.2.1 dX4_init_14 rfl (lv_at hl.1 0 rfl) ?_
  refine c_new X cX9 k_426 k_320 k_40 hz hS (fs := [.null, .null, .null]) (fun j hj => by rcases (show j = 0 ∨ j = 1 ∨ j = 2 by omega) with rfl | rfl | rfl <;> rfl) (Nat.le_of_ble_eq_true rfl) (Nat.le_of_ble_eq_true rfl) dX4_init_15 ?_
  clear hS
  intro H hn0 hz9 hk hS
  replace ho := gC_k ho (hk _ (by omega))
  replace hsrc := gC_k hsrc (hk _ (by omega))
  replace hz : H.size = G.1 + (z0 + 1) := hz9.trans (by omega)
  clear hz9 hk
  refine lv_dup X.1 X.2.1 dX4_init_18 rfl ?_
  refine lv_aload_n X.1 X.2.1 dX4_init_19 rfl (lv_at hl.1 2 rfl) ?_
  refine c_get X cX7 hsrc 2 (by decide) k_68 rfl (v := .ref (G.1 + (s2 + 3))) rfl dX4_init_20 ?_
  refine lv_bipush X.1 X.2.1 dX4_init_23 (v := iI 16) (by decide) ?_
  refine c_newa X (t0 := 0) k_89 rfl rfl (fun cA h1 h2 => gRA_eq h1 h2) hz hS (a0 := (16, .inl (fun _ => 0))) (fun _ => rfl) (by decide) (N' := 16) (by decide) (by decide) (Nat.le_of_ble_eq_true rfl) (Nat.le_of_ble_eq_true rfl) dX4_init_25 ?_
  clear hS
  intro H hn1 hz9 hk hS
  replace ho := gC_k ho (hk _ (by omega))
  replace hsrc := gC_k hsrc (hk _ (by omega))
  replace hn0 := gC_k hn0 (hk _ (by omega))
  replace hz : H.size = G.1 + (z0 + 2) := hz9.trans (by omega)
  clear hz9 hk
  refine c_call X (As := [.ref (G.1 + (s2 + 3)), .ref (G.1 + (z0 + 1))]) (m_X9_init l G (z0) (z0 + 2) (s2 + 3) (z0 + 1) (by omega)) calX9_init k_322 k_427 rfl hn0 hz hS (fun q h => gCA_up (by omega) (by omega) h) ⟨by decide, by decide⟩ rfl hl rfl (Nat.le_of_ble_eq_true rfl) ⟨Nat.le_of_ble_eq_true rfl, Nat.le_of_ble_eq_true rfl⟩ dX4_init_27 ?_
  clear hS hn0
  intro H locs hn0 hz9 hk hS
  replace ho := gC_k ho (hk _ (by omega) (fun z => by rcases z with z | z <;> omega))
  replace hsrc := gC_k hsrc (hk _ (by omega) (fun z => by rcases z with z | z <;> omega))
  replace hn1 := gC_k hn1 (hk _ (by omega) (fun z => by rcases z with z | z <;> omega))
  replace hz : H.size = G.1 + (z0 + 3) := hz9.trans (by omega)
  clear hz9 hk
  refine c_putF X hini cX4 ho (Or.inl rfl) hS 2 (by decide) k_430 rfl rfl rfl (tk := (.object "BuildGrid$View")) (by decide +kernel) (v := .ref (G.1 + (z0))) rfl rfl (Nat.le_of_ble_eq_true rfl) dX4_init_30 ?_
  clear hS ho
  intro H locs ho hz9 hk hS
  replace ho : gC G (p0) (.inr (4, [.ref (G.1 + (s1)), .ref (G.1 + (s2)), .ref (G.1 + (z0)), .int 0])) H := ho
  replace hsrc := gC_k hsrc (hk _ (by omega))
  replace hn0 := C_X9_init_k hn0 (fun q h9 => hk _ (by omega))
  replace hn1 := gC_k hn1 (hk _ (by omega))
  rw [← hz9] at hz; clear hz9 hk
  exact c_vret X (Post := fun H => C_X4_init G p0 z0 s1 s2 H) ⟨ho, hn0, hn1⟩ hz hS ⟨Nat.le_of_ble_eq_true rfl, Nat.le_of_ble_eq_true rfl⟩ dX4_init_33
def C_X5_init (G : gG) (p0 z0 : Nat) (s1 : Nat) (H : Heap) : Prop := gC G (p0) (.inr (5, [.ref (G.1 + (z0)), .ref (G.1 + (z0 + 3)), .ref (G.1 + (z0 + 1)), .ref (G.1 + (z0 + 2)), .ref (G.1 + (z0 + 14)), .int 0])) H ∧ gC G (z0) (.inl (G.2.2 4, 14, .inr (.inr (.inr (.inr (fun k => some (G.1 + (z0 + 19 + 11 * k)))))))) H ∧ gC G (z0 + 1) (.inl (G.2.2 0, 14, .inl (fun _ => 0))) H ∧ gC G (z0 + 2) (.inl (G.2.2 0, 14, .inl (fun _ => 0))) H ∧ C_X8_init G (z0 + 3) (z0 + 4) ((-1)) s1 H ∧ C_X6_init G (z0 + 14) (z0 + 15) s1 H ∧ C_X8_init G (z0 + 19) (z0 + 20) 0 s1 H ∧ C_X8_init G (z0 + 30) (z0 + 31) 1 s1 H ∧ C_X8_init G (z0 + 41) (z0 + 42) 2 s1 H ∧ C_X8_init G (z0 + 52) (z0 + 53) 3 s1 H ∧ C_X8_init G (z0 + 63) (z0 + 64) 4 s1 H ∧ C_X8_init G (z0 + 74) (z0 + 75) 5 s1 H ∧ C_X8_init G (z0 + 85) (z0 + 86) 6 s1 H ∧ C_X8_init G (z0 + 96) (z0 + 97) 7 s1 H ∧ C_X8_init G (z0 + 107) (z0 + 108) 8 s1 H ∧ C_X8_init G (z0 + 118) (z0 + 119) 9 s1 H ∧ C_X8_init G (z0 + 129) (z0 + 130) 10 s1 H ∧ C_X8_init G (z0 + 140) (z0 + 141) 11 s1 H ∧ C_X8_init G (z0 + 151) (z0 + 152) 12 s1 H ∧ C_X8_init G (z0 + 162) (z0 + 163) 13 s1 H
theorem C_X5_init_k {G : gG} {p0 z0 : Nat} {s1 : Nat} {H H1 : Heap} (h : C_X5_init G p0 z0 s1 H) (hk : ∀ q : Nat, (q = G.1 + p0 ∨ (G.1 + z0 ≤ q ∧ q < G.1 + (z0 + 173))) → H1[q]? = H[q]?) : C_X5_init G p0 z0 s1 H1 := by
  obtain ⟨h0, h1, h2, h3, h4, h5, h6, h7, h8, h9, h10, h11, h12, h13, h14, h15, h16, h17, h18, h19⟩ := h
  exact ⟨gC_k h0 (hk _ (by omega)), gC_k h1 (hk _ (by omega)), gC_k h2 (hk _ (by omega)), gC_k h3 (hk _ (by omega)), C_X8_init_k h4 (fun q h9 => hk q (by omega)), C_X6_init_k h5 (fun q h9 => hk q (by omega)), C_X8_init_k h6 (fun q h9 => hk q (by omega)), C_X8_init_k h7 (fun q h9 => hk q (by omega)), C_X8_init_k h8 (fun q h9 => hk q (by omega)), C_X8_init_k h9 (fun q h9 => hk q (by omega)), C_X8_init_k h10 (fun q h9 => hk q (by omega)), C_X8_init_k h11 (fun q h9 => hk q (by omega)), C_X8_init_k h12 (fun q h9 => hk q (by omega)), C_X8_init_k h13 (fun q h9 => hk q (by omega)), C_X8_init_k h14 (fun q h9 => hk q (by omega)), C_X8_init_k h15 (fun q h9 => hk q (by omega)), C_X8_init_k h16 (fun q h9 => hk q (by omega)), C_X8_init_k h17 (fun q h9 => hk q (by omega)), C_X8_init_k h18 (fun q h9 => hk q (by omega)), C_X8_init_k h19 (fun q h9 => hk q (by omega))⟩
set_option maxRecDepth 20000 in
set_option maxHeartbeats 4000000 in
theorem m_X5_init (l : Launch) (G : gG) (p0 z0 : Nat) (s1 : Nat) (hpz : p0 < z0) : gCMet l yX5_init cX5_init 3 3 65 173 1129 G p0 z0 173 [.ref (G.1 + (p0)), .ref (G.1 + (s1))] (fun H => gC G p0 (.inr (5, [.null, .null, .null, .null, .null, .int 0])) H) (fun H => C_X5_init G p0 z0 s1 H) := by
  refine gOfC (by decide) (by show _ ≤ 3; exact Nat.le_of_ble_eq_true rfl) rfl rfl ?_
  intro p e s m below meth c X hini ho hz ls hl
  have hS : va_S (gCA G p0 z0) s.heap s.heap [] := va_S.rf
  generalize hargs : ([.ref (G.1 + (p0)), .ref (G.1 + (s1))] : List Value).toArray = args at X ⊢
  clear hargs
  replace hl : gLv ls 3 [(0, .ref (G.1 + (p0))), (1, .ref (G.1 + (s1)))] := hl
  refine lv_aload_n X.1 X.2.1 dX5_init_0 rfl (lv_at hl.1 0 rfl) ?_
  refine c_obj X k_95 k_56 k_57 hl dX5_init_1 (by decide) (by decide) ?_
  refine lv_aload_n X.1 X.2.1 dX5_init_4 rfl (lv_at hl.1 0 rfl) ?_
  refine lv_bipush X.1 X.2.1 dX5_init_5 (v := iI 14) (by decide) ?_
  refine c_newq X (t0 := 4) k_96 k_97 rfl hz hS (N' := 14) (by decide) (by decide) (by decide) (Nat.le_of_ble_eq_true rfl) (Nat.le_of_ble_eq_true rfl) dX5_init_7 ?_
  clear hS
  intro H hn0 hz9 hk hS
  replace ho := gC_k ho (hk _ (by omega))
  replace hz : H.size = G.1 + (z0 + 1) := hz9.trans (by omega)
  clear hz9 hk
  refine c_putF X hini cX5 ho (Or.inl rfl) hS 0 (by decide) k_244 rfl rfl rfl (tk := (.array (.object "BuildGrid$Target"))) (by decide +kernel) (v := .ref (G.1 + (z0))) rfl rfl (Nat.le_of_ble_eq_true rfl) dX5_init_10 ?_
  clear hS ho
  intro H locs ho hz9 hk hS
  replace ho : gC G (p0) (.inr (5, [.ref (G.1 + (z0)), .null, .null, .null, .null, .int 0])) H := ho
  replace hn0 := gC_k hn0 (hk _ (by omega))
  rw [← hz9] at hz; clear hz9 hk
  refine lv_aload_n X.1 X.2.1 dX5_init_13 rfl (lv_at hl.1 0 rfl) ?_
  refine lv_bipush X.1 X.2.1 dX5_init_14 (v := iI 14) (by decide) ?_
  refine c_newa X (t0 := 0) k_89 rfl rfl (fun cA h1 h2 => gRA_eq h1 h2) hz hS (a0 := (14, .inl (fun _ => 0))) (fun _ => rfl) (by decide) (N' := 14) (by decide) (by decide) (Nat.le_of_ble_eq_true rfl) (Nat.le_of_ble_eq_true rfl) dX5_init_16 ?_
  clear hS
  intro H hn1 hz9 hk hS
  replace ho := gC_k ho (hk _ (by omega))
  replace hn0 := gC_k hn0 (hk _ (by omega))
  replace hz : H.size = G.1 + (z0 + 2) := hz9.trans (by omega)
  clear hz9 hk
  refine c_putF X hini cX5 ho (Or.inl rfl) hS 2 (by decide) k_246 rfl rfl rfl (tk := (.array .int)) (by decide +kernel) (v := .ref (G.1 + (z0 + 1))) rfl rfl (Nat.le_of_ble_eq_true rfl) dX5_init_18 ?_
  clear hS ho
  intro H locs ho hz9 hk hS
  replace ho : gC G (p0) (.inr (5, [.ref (G.1 + (z0)), .null, .ref (G.1 + (z0 + 1)), .null, .null, .int 0])) H := ho
  replace hn0 := gC_k hn0 (hk _ (by omega))
  replace hn1 := gC_k hn1 (hk _ (by omega))
  rw [← hz9] at hz; clear hz9 hk
  refine lv_aload_n X.1 X.2.1 dX5_init_21 rfl (lv_at hl.1 0 rfl) ?_
  refine lv_bipush X.1 X.2.1 dX5_init_22 (v := iI 14) (by decide) ?_
  refine c_newa X (t0 := 0) k_89 rfl rfl (fun cA h1 h2 => gRA_eq h1 h2) hz hS (a0 := (14, .inl (fun _ => 0))) (fun _ => rfl) (by decide) (N' := 14) (by decide) (by decide) (Nat.le_of_ble_eq_true rfl) (Nat.le_of_ble_eq_true rfl) dX5_init_24 ?_
  clear hS
  intro H hn2 hz9 hk hS
  replace ho := gC_k ho (hk _ (by omega))
  replace hn0 := gC_k hn0 (hk _ (by omega))
  replace hn1 := gC_k hn1 (hk _ (by omega))
  replace hz : H.size = G.1 + (z0 + 3) := hz9.trans (by omega)
  clear hz9 hk
  refine c_putF X hini cX5 ho (Or.inl rfl) hS 3 (by decide) k_247 rfl rfl rfl (tk := (.array .int)) (by decide +kernel) (v := .ref (G.1 + (z0 + 2))) rfl rfl (Nat.le_of_ble_eq_true rfl) dX5_init_26 ?_
  clear hS ho
  intro H locs ho hz9 hk hS
  replace ho : gC G (p0) (.inr (5, [.ref (G.1 + (z0)), .null, .ref (G.1 + (z0 + 1)), .ref (G.1 + (z0 + 2)), .null, .int 0])) H := ho
  replace hn0 := gC_k hn0 (hk _ (by omega))
  replace hn1 := gC_k hn1 (hk _ (by omega))
  replace hn2 := gC_k hn2 (hk _ (by omega))
  rw [← hz9] at hz; clear hz9 hk
  refine lv_aload_n X.1 X.2.1 dX5_init_29 rfl (lv_at hl.1 0 rfl) ?_
  refine c_new X cX8 k_96 k_98 k_34 hz hS (fs := [.int 0, .null, .null, .int 0, .int 0, .int 0, .int 0, .int 0, .int 0, .int 0, .int 0, .int 0, .int 0]) (fun j hj => by rcases (show j = 0 ∨ j = 1 ∨ j = 2 ∨ j = 3 ∨ j = 4 ∨ j = 5 ∨ j = 6 ∨ j = 7 ∨ j = 8 ∨ j = 9 ∨ j = 10 ∨ j = 11 ∨ j = 12 by omega) with rfl | rfl | rfl | rfl | rfl | rfl | rfl | rfl | rfl | rfl | rfl | rfl | rfl <;> rfl) (Nat.le_of_ble_eq_true rfl) (Nat.le_of_ble_eq_true rfl) dX5_init_30 ?_
  clear hS
  intro H hn3 hz9 hk hS
  replace ho := gC_k ho (hk _ (by omega))
  replace hn0 := gC_k hn0 (hk _ (by omega))
  replace hn1 := gC_k hn1 (hk _ (by omega))
  replace hn2 := gC_k hn2 (hk _ (by omega))
  replace hz : H.size = G.1 + (z0 + 4) := hz9.trans (by omega)
  clear hz9 hk
  refine lv_dup X.1 X.2.1 dX5_init_33 rfl ?_
  refine lv_iconst X.1 X.2.1 dX5_init_34 (v := iI (-1)) rfl ?_
  refine lv_aload_n X.1 X.2.1 dX5_init_35 rfl (lv_at hl.1 1 rfl) ?_
  refine c_call X (As := [.int (iI ((-1))), .ref (G.1 + (s1))]) (m_X8_init l G (z0 + 3) (z0 + 4) ((-1)) (nmI_l (by decide)) s1 (by omega)) calX8_init k_100 k_99 rfl hn3 hz hS (fun q h => gCA_up (by omega) (by omega) h) ⟨by decide, by decide⟩ rfl hl rfl (Nat.le_of_ble_eq_true rfl) ⟨Nat.le_of_ble_eq_true rfl, Nat.le_of_ble_eq_true rfl⟩ dX5_init_36 ?_
  clear hS hn3
  intro H locs hn3 hz9 hk hS
  replace ho := gC_k ho (hk _ (by omega) (fun z => by rcases z with z | z <;> omega))
  replace hn0 := gC_k hn0 (hk _ (by omega) (fun z => by rcases z with z | z <;> omega))
  replace hn1 := gC_k hn1 (hk _ (by omega) (fun z => by rcases z with z | z <;> omega))
  replace hn2 := gC_k hn2 (hk _ (by omega) (fun z => by rcases z with z | z <;> omega))
  replace hz : H.size = G.1 + (z0 + 14) := hz9.trans (by omega)
  clear hz9 hk
  refine c_putF X hini cX5 ho (Or.inl rfl) hS 1 (by decide) k_245 rfl rfl rfl (tk := (.object "BuildGrid$Target")) (by decide +kernel) (v := .ref (G.1 + (z0 + 3))) rfl rfl (Nat.le_of_ble_eq_true rfl) dX5_init_39 ?_
  clear hS ho
  intro H locs ho hz9 hk hS
  replace ho : gC G (p0) (.inr (5, [.ref (G.1 + (z0)), .ref (G.1 + (z0 + 3)), .ref (G.1 + (z0 + 1)), .ref (G.1 + (z0 + 2)), .null, .int 0])) H := ho
  replace hn0 := gC_k hn0 (hk _ (by omega))
  replace hn1 := gC_k hn1 (hk _ (by omega))
  replace hn2 := gC_k hn2 (hk _ (by omega))
  replace hn3 := C_X8_init_k hn3 (fun q h9 => hk _ (by omega))
  rw [← hz9] at hz; clear hz9 hk
  refine lv_aload_n X.1 X.2.1 dX5_init_42 rfl (lv_at hl.1 0 rfl) ?_
  refine c_new X cX6 k_242 k_106 k_35 hz hS (fs := [.null, .null, .null, .null, .null, .int 0]) (fun j hj => by rcases (show j = 0 ∨ j = 1 ∨ j = 2 ∨ j = 3 ∨ j = 4 ∨ j = 5 by omega) with rfl | rfl | rfl | rfl | rfl | rfl <;> rfl) (Nat.le_of_ble_eq_true rfl) (Nat.le_of_ble_eq_true rfl) dX5_init_43 ?_
  clear hS
  intro H hn14 hz9 hk hS
  replace ho := gC_k ho (hk _ (by omega))
  replace hn0 := gC_k hn0 (hk _ (by omega))
  replace hn1 := gC_k hn1 (hk _ (by omega))
  replace hn2 := gC_k hn2 (hk _ (by omega))
  replace hn3 := C_X8_init_k hn3 (fun q h9 => hk _ (by omega))
  replace hz : H.size = G.1 + (z0 + 15) := hz9.trans (by omega)
  clear hz9 hk
  refine lv_dup X.1 X.2.1 dX5_init_46 rfl ?_
  refine lv_aload_n X.1 X.2.1 dX5_init_47 rfl (lv_at hl.1 1 rfl) ?_
  refine c_call X (As := [.ref (G.1 + (s1))]) (m_X6_init l G (z0 + 14) (z0 + 15) s1 (by omega)) calX6_init k_108 k_243 rfl hn14 hz hS (fun q h => gCA_up (by omega) (by omega) h) ⟨by decide, by decide⟩ rfl hl rfl (Nat.le_of_ble_eq_true rfl) ⟨Nat.le_of_ble_eq_true rfl, Nat.le_of_ble_eq_true rfl⟩ dX5_init_48 ?_
  clear hS hn14
  intro H locs hn14 hz9 hk hS
  replace ho := gC_k ho (hk _ (by omega) (fun z => by rcases z with z | z <;> omega))
  replace hn0 := gC_k hn0 (hk _ (by omega) (fun z => by rcases z with z | z <;> omega))
  replace hn1 := gC_k hn1 (hk _ (by omega) (fun z => by rcases z with z | z <;> omega))
  replace hn2 := gC_k hn2 (hk _ (by omega) (fun z => by rcases z with z | z <;> omega))
  replace hn3 := C_X8_init_k hn3 (fun q h9 => hk _ (by omega) (fun z => by rcases z with z | z <;> omega))
  replace hz : H.size = G.1 + (z0 + 19) := hz9.trans (by omega)
  clear hz9 hk
  refine c_putF X hini cX5 ho (Or.inl rfl) hS 4 (by decide) k_248 rfl rfl rfl (tk := (.object "BuildGrid$Inputs")) (by decide +kernel) (v := .ref (G.1 + (z0 + 14))) rfl rfl (Nat.le_of_ble_eq_true rfl) dX5_init_51 ?_
  clear hS ho
  intro H locs ho hz9 hk hS
  replace ho : gC G (p0) (.inr (5, [.ref (G.1 + (z0)), .ref (G.1 + (z0 + 3)), .ref (G.1 + (z0 + 1)), .ref (G.1 + (z0 + 2)), .ref (G.1 + (z0 + 14)), .int 0])) H := ho
  replace hn0 := gC_k hn0 (hk _ (by omega))
  replace hn1 := gC_k hn1 (hk _ (by omega))
  replace hn2 := gC_k hn2 (hk _ (by omega))
  replace hn3 := C_X8_init_k hn3 (fun q h9 => hk _ (by omega))
  replace hn14 := C_X6_init_k hn14 (fun q h9 => hk _ (by omega))
  rw [← hz9] at hz; clear hz9 hk
  refine lv_iconst X.1 X.2.1 dX5_init_54 (v := iI 0) rfl ?_
  refine g_istore_n X (lv' := [(2, .int (iI 0)), (0, .ref (G.1 + (p0))), (1, .ref (G.1 + (s1)))]) dX5_init_55 rfl hl (by decide) rfl ?_
  clear hl
  intro ls hl
  refine lv_iload_n X.1 X.2.1 dX5_init_56 rfl (lv_at hl.1 0 rfl) ?_
  refine lv_bipush X.1 X.2.1 dX5_init_57 (v := iI 14) (by decide) ?_
  refine g_icmp_ge X (nmI_l (by decide)) (nmI_l (by decide)) (tgt := 83) dX5_init_59 (by decide) (fun hc => absurd (by decide) hc) (fun _ => ?_)
  refine lv_aload_n X.1 X.2.1 dX5_init_62 rfl (lv_at hl.1 1 rfl) ?_
  refine c_get X cX5 ho 0 (by decide) k_244 rfl (v := .ref (G.1 + (z0))) rfl dX5_init_63 ?_
  refine lv_iload_n X.1 X.2.1 dX5_init_66 rfl (lv_at hl.1 0 rfl) ?_
  refine c_new X cX8 k_96 k_98 k_34 hz hS (fs := [.int 0, .null, .null, .int 0, .int 0, .int 0, .int 0, .int 0, .int 0, .int 0, .int 0, .int 0, .int 0]) (fun j hj => by rcases (show j = 0 ∨ j = 1 ∨ j = 2 ∨ j = 3 ∨ j = 4 ∨ j = 5 ∨ j = 6 ∨ j = 7 ∨ j = 8 ∨ j = 9 ∨ j = 10 ∨ j = 11 ∨ j = 12 by omega) with rfl | rfl | rfl | rfl | rfl | rfl | rfl | rfl | rfl | rfl | rfl | rfl | rfl <;> rfl) (Nat.le_of_ble_eq_true rfl) (Nat.le_of_ble_eq_true rfl) dX5_init_67 ?_
  clear hS
  intro H hn19 hz9 hk hS
  replace ho := gC_k ho (hk _ (by omega))
  replace hn0 := gC_k hn0 (hk _ (by omega))
  replace hn1 := gC_k hn1 (hk _ (by omega))
  replace hn2 := gC_k hn2 (hk _ (by omega))
  replace hn3 := C_X8_init_k hn3 (fun q h9 => hk _ (by omega))
  replace hn14 := C_X6_init_k hn14 (fun q h9 => hk _ (by omega))
  replace hz : H.size = G.1 + (z0 + 20) := hz9.trans (by omega)
  clear hz9 hk
  refine lv_dup X.1 X.2.1 dX5_init_70 rfl ?_
  refine lv_iload_n X.1 X.2.1 dX5_init_71 rfl (lv_at hl.1 0 rfl) ?_
  refine lv_aload_n X.1 X.2.1 dX5_init_72 rfl (lv_at hl.1 2 rfl) ?_
  refine c_call X (As := [.int (iI 0), .ref (G.1 + (s1))]) (m_X8_init l G (z0 + 19) (z0 + 20) 0 (nmI_l (by decide)) s1 (by omega)) calX8_init k_100 k_99 rfl hn19 hz hS (fun q h => gCA_up (by omega) (by omega) h) ⟨by decide, by decide⟩ rfl hl rfl (Nat.le_of_ble_eq_true rfl) ⟨Nat.le_of_ble_eq_true rfl, Nat.le_of_ble_eq_true rfl⟩ dX5_init_73 ?_
  clear hS hn19
  intro H locs hn19 hz9 hk hS
  replace ho := gC_k ho (hk _ (by omega) (fun z => by rcases z with z | z <;> omega))
  replace hn0 := gC_k hn0 (hk _ (by omega) (fun z => by rcases z with z | z <;> omega))
  replace hn1 := gC_k hn1 (hk _ (by omega) (fun z => by rcases z with z | z <;> omega))
  replace hn2 := gC_k hn2 (hk _ (by omega) (fun z => by rcases z with z | z <;> omega))
  replace hn3 := C_X8_init_k hn3 (fun q h9 => hk _ (by omega) (fun z => by rcases z with z | z <;> omega))
  replace hn14 := C_X6_init_k hn14 (fun q h9 => hk _ (by omega) (fun z => by rcases z with z | z <;> omega))
  replace hz : H.size = G.1 + (z0 + 30) := hz9.trans (by omega)
  clear hz9 hk
  refine c_astq X hn0 (t0 := 4) rfl hn19.1 (r := (RX8, TX8, 13)) rfl (Or.inr (by show G.1 + z0 ≤ G.1 + (z0); omega)) hS (iI_in (n := 14) (nmI_l (by decide)) ⟨by decide, by decide⟩) dX5_init_76 ?_
  clear hS hn0
  intro H locs hn0 hz9 hk hS
  replace hn0 : gC G (z0) (.inl (G.2.2 4, 14, .inr (.inr (.inr (.inr (va_up (fun _ => none) 0 (some (G.1 + (z0 + 19))))))))) H := hn0
  replace ho := gC_k ho (hk _ (by omega))
  replace hn1 := gC_k hn1 (hk _ (by omega))
  replace hn2 := gC_k hn2 (hk _ (by omega))
  replace hn3 := C_X8_init_k hn3 (fun q h9 => hk _ (by omega))
  replace hn14 := C_X6_init_k hn14 (fun q h9 => hk _ (by omega))
  replace hn19 := C_X8_init_k hn19 (fun q h9 => hk _ (by omega))
  rw [← hz9] at hz; clear hz9 hk
  refine g_iinc X (a := 0) (lv' := [(2, .int (iI 1)), (0, .ref (G.1 + (p0))), (1, .ref (G.1 + (s1)))]) dX5_init_77 hl (k := 0) rfl (by decide) rfl ?_
  clear hl
  intro ls hl
  refine lv_goto (tgt := 56) X.1 X.2.1 dX5_init_80 (by decide) ?_
  refine lv_iload_n X.1 X.2.1 dX5_init_56 rfl (lv_at hl.1 0 rfl) ?_
  refine lv_bipush X.1 X.2.1 dX5_init_57 (v := iI 14) (by decide) ?_
  refine g_icmp_ge X (nmI_l (by decide)) (nmI_l (by decide)) (tgt := 83) dX5_init_59 (by decide) (fun hc => absurd (by decide) hc) (fun _ => ?_)
  refine lv_aload_n X.1 X.2.1 dX5_init_62 rfl (lv_at hl.1 1 rfl) ?_
  refine c_get X cX5 ho 0 (by decide) k_244 rfl (v := .ref (G.1 + (z0))) rfl dX5_init_63 ?_
  refine lv_iload_n X.1 X.2.1 dX5_init_66 rfl (lv_at hl.1 0 rfl) ?_
  refine c_new X cX8 k_96 k_98 k_34 hz hS (fs := [.int 0, .null, .null, .int 0, .int 0, .int 0, .int 0, .int 0, .int 0, .int 0, .int 0, .int 0, .int 0]) (fun j hj => by rcases (show j = 0 ∨ j = 1 ∨ j = 2 ∨ j = 3 ∨ j = 4 ∨ j = 5 ∨ j = 6 ∨ j = 7 ∨ j = 8 ∨ j = 9 ∨ j = 10 ∨ j = 11 ∨ j = 12 by omega) with rfl | rfl | rfl | rfl | rfl | rfl | rfl | rfl | rfl | rfl | rfl | rfl | rfl <;> rfl) (Nat.le_of_ble_eq_true rfl) (Nat.le_of_ble_eq_true rfl) dX5_init_67 ?_
  clear hS
  intro H hn30 hz9 hk hS
  replace ho := gC_k ho (hk _ (by omega))
  replace hn0 := gC_k hn0 (hk _ (by omega))
  replace hn1 := gC_k hn1 (hk _ (by omega))
  replace hn2 := gC_k hn2 (hk _ (by omega))
  replace hn3 := C_X8_init_k hn3 (fun q h9 => hk _ (by omega))
  replace hn14 := C_X6_init_k hn14 (fun q h9 => hk _ (by omega))
  replace hn19 := C_X8_init_k hn19 (fun q h9 => hk _ (by omega))
  replace hz : H.size = G.1 + (z0 + 31) := hz9.trans (by omega)
  clear hz9 hk
  refine lv_dup X.1 X.2.1 dX5_init_70 rfl ?_
  refine lv_iload_n X.1 X.2.1 dX5_init_71 rfl (lv_at hl.1 0 rfl) ?_
  refine lv_aload_n X.1 X.2.1 dX5_init_72 rfl (lv_at hl.1 2 rfl) ?_
  refine c_call X (As := [.int (iI 1), .ref (G.1 + (s1))]) (m_X8_init l G (z0 + 30) (z0 + 31) 1 (nmI_l (by decide)) s1 (by omega)) calX8_init k_100 k_99 rfl hn30 hz hS (fun q h => gCA_up (by omega) (by omega) h) ⟨by decide, by decide⟩ rfl hl rfl (Nat.le_of_ble_eq_true rfl) ⟨Nat.le_of_ble_eq_true rfl, Nat.le_of_ble_eq_true rfl⟩ dX5_init_73 ?_
  clear hS hn30
  intro H locs hn30 hz9 hk hS
  replace ho := gC_k ho (hk _ (by omega) (fun z => by rcases z with z | z <;> omega))
  replace hn0 := gC_k hn0 (hk _ (by omega) (fun z => by rcases z with z | z <;> omega))
  replace hn1 := gC_k hn1 (hk _ (by omega) (fun z => by rcases z with z | z <;> omega))
  replace hn2 := gC_k hn2 (hk _ (by omega) (fun z => by rcases z with z | z <;> omega))
  replace hn3 := C_X8_init_k hn3 (fun q h9 => hk _ (by omega) (fun z => by rcases z with z | z <;> omega))
  replace hn14 := C_X6_init_k hn14 (fun q h9 => hk _ (by omega) (fun z => by rcases z with z | z <;> omega))
  replace hn19 := C_X8_init_k hn19 (fun q h9 => hk _ (by omega) (fun z => by rcases z with z | z <;> omega))
  replace hz : H.size = G.1 + (z0 + 41) := hz9.trans (by omega)
  clear hz9 hk
  refine c_astq X hn0 (t0 := 4) rfl hn30.1 (r := (RX8, TX8, 13)) rfl (Or.inr (by show G.1 + z0 ≤ G.1 + (z0); omega)) hS (iI_in (n := 14) (nmI_l (by decide)) ⟨by decide, by decide⟩) dX5_init_76 ?_
  clear hS hn0
  intro H locs hn0 hz9 hk hS
  replace hn0 : gC G (z0) (.inl (G.2.2 4, 14, .inr (.inr (.inr (.inr (va_up (va_up (fun _ => none) 0 (some (G.1 + (z0 + 19)))) 1 (some (G.1 + (z0 + 30))))))))) H := hn0
  replace ho := gC_k ho (hk _ (by omega))
  replace hn1 := gC_k hn1 (hk _ (by omega))
  replace hn2 := gC_k hn2 (hk _ (by omega))
  replace hn3 := C_X8_init_k hn3 (fun q h9 => hk _ (by omega))
  replace hn14 := C_X6_init_k hn14 (fun q h9 => hk _ (by omega))
  replace hn19 := C_X8_init_k hn19 (fun q h9 => hk _ (by omega))
  replace hn30 := C_X8_init_k hn30 (fun q h9 => hk _ (by omega))
  rw [← hz9] at hz; clear hz9 hk
  refine g_iinc X (a := 1) (lv' := [(2, .int (iI 2)), (0, .ref (G.1 + (p0))), (1, .ref (G.1 + (s1)))]) dX5_init_77 hl (k := 0) rfl (by decide) rfl ?_
  clear hl
  intro ls hl
  refine lv_goto (tgt := 56) X.1 X.2.1 dX5_init_80 (by decide) ?_
  refine lv_iload_n X.1 X.2.1 dX5_init_56 rfl (lv_at hl.1 0 rfl) ?_
  refine lv_bipush X.1 X.2.1 dX5_init_57 (v := iI 14) (by decide) ?_
  refine g_icmp_ge X (nmI_l (by decide)) (nmI_l (by decide)) (tgt := 83) dX5_init_59 (by decide) (fun hc => absurd (by decide) hc) (fun _ => ?_)
  refine lv_aload_n X.1 X.2.1 dX5_init_62 rfl (lv_at hl.1 1 rfl) ?_
  refine c_get X cX5 ho 0 (by decide) k_244 rfl (v := .ref (G.1 + (z0))) rfl dX5_init_63 ?_
  refine lv_iload_n X.1 X.2.1 dX5_init_66 rfl (lv_at hl.1 0 rfl) ?_
  refine c_new X cX8 k_96 k_98 k_34 hz hS (fs := [.int 0, .null, .null, .int 0, .int 0, .int 0, .int 0, .int 0, .int 0, .int 0, .int 0, .int 0, .int 0]) (fun j hj => by rcases (show j = 0 ∨ j = 1 ∨ j = 2 ∨ j = 3 ∨ j = 4 ∨ j = 5 ∨ j = 6 ∨ j = 7 ∨ j = 8 ∨ j = 9 ∨ j = 10 ∨ j = 11 ∨ j = 12 by omega) with rfl | rfl | rfl | rfl | rfl | rfl | rfl | rfl | rfl | rfl | rfl | rfl | rfl <;> rfl) (Nat.le_of_ble_eq_true rfl) (Nat.le_of_ble_eq_true rfl) dX5_init_67 ?_
  clear hS
  intro H hn41 hz9 hk hS
  replace ho := gC_k ho (hk _ (by omega))
  replace hn0 := gC_k hn0 (hk _ (by omega))
  replace hn1 := gC_k hn1 (hk _ (by omega))
  replace hn2 := gC_k hn2 (hk _ (by omega))
  replace hn3 := C_X8_init_k hn3 (fun q h9 => hk _ (by omega))
  replace hn14 := C_X6_init_k hn14 (fun q h9 => hk _ (by omega))
  replace hn19 := C_X8_init_k hn19 (fun q h9 => hk _ (by omega))
  replace hn30 := C_X8_init_k hn30 (fun q h9 => hk _ (by omega))
  replace hz : H.size = G.1 + (z0 + 42) := hz9.trans (by omega)
  clear hz9 hk
  refine lv_dup X.1 X.2.1 dX5_init_70 rfl ?_
  refine lv_iload_n X.1 X.2.1 dX5_init_71 rfl (lv_at hl.1 0 rfl) ?_
  refine lv_aload_n X.1 X.2.1 dX5_init_72 rfl (lv_at hl.1 2 rfl) ?_
  refine c_call X (As := [.int (iI 2), .ref (G.1 + (s1))]) (m_X8_init l G (z0 + 41) (z0 + 42) 2 (nmI_l (by decide)) s1 (by omega)) calX8_init k_100 k_99 rfl hn41 hz hS (fun q h => gCA_up (by omega) (by omega) h) ⟨by decide, by decide⟩ rfl hl rfl (Nat.le_of_ble_eq_true rfl) ⟨Nat.le_of_ble_eq_true rfl, Nat.le_of_ble_eq_true rfl⟩ dX5_init_73 ?_
  clear hS hn41
  intro H locs hn41 hz9 hk hS
  replace ho := gC_k ho (hk _ (by omega) (fun z => by rcases z with z | z <;> omega))
  replace hn0 := gC_k hn0 (hk _ (by omega) (fun z => by rcases z with z | z <;> omega))
  replace hn1 := gC_k hn1 (hk _ (by omega) (fun z => by rcases z with z | z <;> omega))
  replace hn2 := gC_k hn2 (hk _ (by omega) (fun z => by rcases z with z | z <;> omega))
  replace hn3 := C_X8_init_k hn3 (fun q h9 => hk _ (by omega) (fun z => by rcases z with z | z <;> omega))
  replace hn14 := C_X6_init_k hn14 (fun q h9 => hk _ (by omega) (fun z => by rcases z with z | z <;> omega))
  replace hn19 := C_X8_init_k hn19 (fun q h9 => hk _ (by omega) (fun z => by rcases z with z | z <;> omega))
  replace hn30 := C_X8_init_k hn30 (fun q h9 => hk _ (by omega) (fun z => by rcases z with z | z <;> omega))
  replace hz : H.size = G.1 + (z0 + 52) := hz9.trans (by omega)
  clear hz9 hk
  refine c_astq X hn0 (t0 := 4) rfl hn41.1 (r := (RX8, TX8, 13)) rfl (Or.inr (by show G.1 + z0 ≤ G.1 + (z0); omega)) hS (iI_in (n := 14) (nmI_l (by decide)) ⟨by decide, by decide⟩) dX5_init_76 ?_
  clear hS hn0
  intro H locs hn0 hz9 hk hS
  replace hn0 : gC G (z0) (.inl (G.2.2 4, 14, .inr (.inr (.inr (.inr (va_up (va_up (va_up (fun _ => none) 0 (some (G.1 + (z0 + 19)))) 1 (some (G.1 + (z0 + 30)))) 2 (some (G.1 + (z0 + 41))))))))) H := hn0
  replace ho := gC_k ho (hk _ (by omega))
  replace hn1 := gC_k hn1 (hk _ (by omega))
  replace hn2 := gC_k hn2 (hk _ (by omega))
  replace hn3 := C_X8_init_k hn3 (fun q h9 => hk _ (by omega))
  replace hn14 := C_X6_init_k hn14 (fun q h9 => hk _ (by omega))
  replace hn19 := C_X8_init_k hn19 (fun q h9 => hk _ (by omega))
  replace hn30 := C_X8_init_k hn30 (fun q h9 => hk _ (by omega))
  replace hn41 := C_X8_init_k hn41 (fun q h9 => hk _ (by omega))
  rw [← hz9] at hz; clear hz9 hk
  refine g_iinc X (a := 2) (lv' := [(2, .int (iI 3)), (0, .ref (G.1 + (p0))), (1, .ref (G.1 + (s1)))]) dX5_init_77 hl (k := 0) rfl (by decide) rfl ?_
  clear hl
  intro ls hl
  refine lv_goto (tgt := 56) X.1 X.2.1 dX5_init_80 (by decide) ?_
  refine lv_iload_n X.1 X.2.1 dX5_init_56 rfl (lv_at hl.1 0 rfl) ?_
  refine lv_bipush X.1 X.2.1 dX5_init_57 (v := iI 14) (by decide) ?_
  refine g_icmp_ge X (nmI_l (by decide)) (nmI_l (by decide)) (tgt := 83) dX5_init_59 (by decide) (fun hc => absurd (by decide) hc) (fun _ => ?_)
  refine lv_aload_n X.1 X.2.1 dX5_init_62 rfl (lv_at hl.1 1 rfl) ?_
  refine c_get X cX5 ho 0 (by decide) k_244 rfl (v := .ref (G.1 + (z0))) rfl dX5_init_63 ?_
  refine lv_iload_n X.1 X.2.1 dX5_init_66 rfl (lv_at hl.1 0 rfl) ?_
  refine c_new X cX8 k_96 k_98 k_34 hz hS (fs := [.int 0, .null, .null, .int 0, .int 0, .int 0, .int 0, .int 0, .int 0, .int 0, .int 0, .int 0, .int 0]) (fun j hj => by rcases (show j = 0 ∨ j = 1 ∨ j = 2 ∨ j = 3 ∨ j = 4 ∨ j = 5 ∨ j = 6 ∨ j = 7 ∨ j = 8 ∨ j = 9 ∨ j = 10 ∨ j = 11 ∨ j = 12 by omega) with rfl | rfl | rfl | rfl | rfl | rfl | rfl | rfl | rfl | rfl | rfl | rfl | rfl <;> rfl) (Nat.le_of_ble_eq_true rfl) (Nat.le_of_ble_eq_true rfl) dX5_init_67 ?_
  clear hS
  intro H hn52 hz9 hk hS
  replace ho := gC_k ho (hk _ (by omega))
  replace hn0 := gC_k hn0 (hk _ (by omega))
  replace hn1 := gC_k hn1 (hk _ (by omega))
  replace hn2 := gC_k hn2 (hk _ (by omega))
  replace hn3 := C_X8_init_k hn3 (fun q h9 => hk _ (by omega))
  replace hn14 := C_X6_init_k hn14 (fun q h9 => hk _ (by omega))
  replace hn19 := C_X8_init_k hn19 (fun q h9 => hk _ (by omega))
  replace hn30 := C_X8_init_k hn30 (fun q h9 => hk _ (by omega))
  replace hn41 := C_X8_init_k hn41 (fun q h9 => hk _ (by omega))
  replace hz : H.size = G.1 + (z0 + 53) := hz9.trans (by omega)
  clear hz9 hk
  refine lv_dup X.1 X.2.1 dX5_init_70 rfl ?_
  refine lv_iload_n X.1 X.2.1 dX5_init_71 rfl (lv_at hl.1 0 rfl) ?_
  refine lv_aload_n X.1 X.2.1 dX5_init_72 rfl (lv_at hl.1 2 rfl) ?_
  refine c_call X (As := [.int (iI 3), .ref (G.1 + (s1))]) (m_X8_init l G (z0 + 52) (z0 + 53) 3 (nmI_l (by decide)) s1 (by omega)) calX8_init k_100 k_99 rfl hn52 hz hS (fun q h => gCA_up (by omega) (by omega) h) ⟨by decide, by decide⟩ rfl hl rfl (Nat.le_of_ble_eq_true rfl) ⟨Nat.le_of_ble_eq_true rfl, Nat.le_of_ble_eq_true rfl⟩ dX5_init_73 ?_
  clear hS hn52
  intro H locs hn52 hz9 hk hS
  replace ho := gC_k ho (hk _ (by omega) (fun z => by rcases z with z | z <;> omega))
  replace hn0 := gC_k hn0 (hk _ (by omega) (fun z => by rcases z with z | z <;> omega))
  replace hn1 := gC_k hn1 (hk _ (by omega) (fun z => by rcases z with z | z <;> omega))
  replace hn2 := gC_k hn2 (hk _ (by omega) (fun z => by rcases z with z | z <;> omega))
  replace hn3 := C_X8_init_k hn3 (fun q h9 => hk _ (by omega) (fun z => by rcases z with z | z <;> omega))
  replace hn14 := C_X6_init_k hn14 (fun q h9 => hk _ (by omega) (fun z => by rcases z with z | z <;> omega))
  replace hn19 := C_X8_init_k hn19 (fun q h9 => hk _ (by omega) (fun z => by rcases z with z | z <;> omega))
  replace hn30 := C_X8_init_k hn30 (fun q h9 => hk _ (by omega) (fun z => by rcases z with z | z <;> omega))
  replace hn41 := C_X8_init_k hn41 (fun q h9 => hk _ (by omega) (fun z => by rcases z with z | z <;> omega))
  replace hz : H.size = G.1 + (z0 + 63) := hz9.trans (by omega)
  clear hz9 hk
  refine c_astq X hn0 (t0 := 4) rfl hn52.1 (r := (RX8, TX8, 13)) rfl (Or.inr (by show G.1 + z0 ≤ G.1 + (z0); omega)) hS (iI_in (n := 14) (nmI_l (by decide)) ⟨by decide, by decide⟩) dX5_init_76 ?_
  clear hS hn0
  intro H locs hn0 hz9 hk hS
  replace hn0 : gC G (z0) (.inl (G.2.2 4, 14, .inr (.inr (.inr (.inr (va_up (va_up (va_up (va_up (fun _ => none) 0 (some (G.1 + (z0 + 19)))) 1 (some (G.1 + (z0 + 30)))) 2 (some (G.1 + (z0 + 41)))) 3 (some (G.1 + (z0 + 52))))))))) H := hn0
  replace ho := gC_k ho (hk _ (by omega))
  replace hn1 := gC_k hn1 (hk _ (by omega))
  replace hn2 := gC_k hn2 (hk _ (by omega))
  replace hn3 := C_X8_init_k hn3 (fun q h9 => hk _ (by omega))
  replace hn14 := C_X6_init_k hn14 (fun q h9 => hk _ (by omega))
  replace hn19 := C_X8_init_k hn19 (fun q h9 => hk _ (by omega))
  replace hn30 := C_X8_init_k hn30 (fun q h9 => hk _ (by omega))
  replace hn41 := C_X8_init_k hn41 (fun q h9 => hk _ (by omega))
  replace hn52 := C_X8_init_k hn52 (fun q h9 => hk _ (by omega))
  rw [← hz9] at hz; clear hz9 hk
  refine g_iinc X (a := 3) (lv' := [(2, .int (iI 4)), (0, .ref (G.1 + (p0))), (1, .ref (G.1 + (s1)))]) dX5_init_77 hl (k := 0) rfl (by decide) rfl ?_
  clear hl
  intro ls hl
  refine lv_goto (tgt := 56) X.1 X.2.1 dX5_init_80 (by decide) ?_
  refine lv_iload_n X.1 X.2.1 dX5_init_56 rfl (lv_at hl.1 0 rfl) ?_
  refine lv_bipush X.1 X.2.1 dX5_init_57 (v := iI 14) (by decide) ?_
  refine g_icmp_ge X (nmI_l (by decide)) (nmI_l (by decide)) (tgt := 83) dX5_init_59 (by decide) (fun hc => absurd (by decide) hc) (fun _ => ?_)
  refine lv_aload_n X.1 X.2.1 dX5_init_62 rfl (lv_at hl.1 1 rfl) ?_
  refine c_get X cX5 ho 0 (by decide) k_244 rfl (v := .ref (G.1 + (z0))) rfl dX5_init_63 ?_
  refine lv_iload_n X.1 X.2.1 dX5_init_66 rfl (lv_at hl.1 0 rfl) ?_
  refine c_new X cX8 k_96 k_98 k_34 hz hS (fs := [.int 0, .null, .null, .int 0, .int 0, .int 0, .int 0, .int 0, .int 0, .int 0, .int 0, .int 0, .int 0]) (fun j hj => by rcases (show j = 0 ∨ j = 1 ∨ j = 2 ∨ j = 3 ∨ j = 4 ∨ j = 5 ∨ j = 6 ∨ j = 7 ∨ j = 8 ∨ j = 9 ∨ j = 10 ∨ j = 11 ∨ j = 12 by omega) with rfl | rfl | rfl | rfl | rfl | rfl | rfl | rfl | rfl | rfl | rfl | rfl | rfl <;> rfl) (Nat.le_of_ble_eq_true rfl) (Nat.le_of_ble_eq_true rfl) dX5_init_67 ?_
  clear hS
  intro H hn63 hz9 hk hS
  replace ho := gC_k ho (hk _ (by omega))
  replace hn0 := gC_k hn0 (hk _ (by omega))
  replace hn1 := gC_k hn1 (hk _ (by omega))
  replace hn2 := gC_k hn2 (hk _ (by omega))
  replace hn3 := C_X8_init_k hn3 (fun q h9 => hk _ (by omega))
  replace hn14 := C_X6_init_k hn14 (fun q h9 => hk _ (by omega))
  replace hn19 := C_X8_init_k hn19 (fun q h9 => hk _ (by omega))
  replace hn30 := C_X8_init_k hn30 (fun q h9 => hk _ (by omega))
  replace hn41 := C_X8_init_k hn41 (fun q h9 => hk _ (by omega))
  replace hn52 := C_X8_init_k hn52 (fun q h9 => hk _ (by omega))
  replace hz : H.size = G.1 + (z0 + 64) := hz9.trans (by omega)
  clear hz9 hk
  refine lv_dup X.1 X.2.1 dX5_init_70 rfl ?_
  refine lv_iload_n X.1 X.2.1 dX5_init_71 rfl (lv_at hl.1 0 rfl) ?_
  refine lv_aload_n X.1 X.2.1 dX5_init_72 rfl (lv_at hl.1 2 rfl) ?_
  refine c_call X (As := [.int (iI 4), .ref (G.1 + (s1))]) (m_X8_init l G (z0 + 63) (z0 + 64) 4 (nmI_l (by decide)) s1 (by omega)) calX8_init k_100 k_99 rfl hn63 hz hS (fun q h => gCA_up (by omega) (by omega) h) ⟨by decide, by decide⟩ rfl hl rfl (Nat.le_of_ble_eq_true rfl) ⟨Nat.le_of_ble_eq_true rfl, Nat.le_of_ble_eq_true rfl⟩ dX5_init_73 ?_
  clear hS hn63
  intro H locs hn63 hz9 hk hS
  replace ho := gC_k ho (hk _ (by omega) (fun z => by rcases z with z | z <;> omega))
  replace hn0 := gC_k hn0 (hk _ (by omega) (fun z => by rcases z with z | z <;> omega))
  replace hn1 := gC_k hn1 (hk _ (by omega) (fun z => by rcases z with z | z <;> omega))
  replace hn2 := gC_k hn2 (hk _ (by omega) (fun z => by rcases z with z | z <;> omega))
  replace hn3 := C_X8_init_k hn3 (fun q h9 => hk _ (by omega) (fun z => by rcases z with z | z <;> omega))
  replace hn14 := C_X6_init_k hn14 (fun q h9 => hk _ (by omega) (fun z => by rcases z with z | z <;> omega))
  replace hn19 := C_X8_init_k hn19 (fun q h9 => hk _ (by omega) (fun z => by rcases z with z | z <;> omega))
  replace hn30 := C_X8_init_k hn30 (fun q h9 => hk _ (by omega) (fun z => by rcases z with z | z <;> omega))
  replace hn41 := C_X8_init_k hn41 (fun q h9 => hk _ (by omega) (fun z => by rcases z with z | z <;> omega))
  replace hn52 := C_X8_init_k hn52 (fun q h9 => hk _ (by omega) (fun z => by rcases z with z | z <;> omega))
  replace hz : H.size = G.1 + (z0 + 74) := hz9.trans (by omega)
  clear hz9 hk
  refine c_astq X hn0 (t0 := 4) rfl hn63.1 (r := (RX8, TX8, 13)) rfl (Or.inr (by show G.1 + z0 ≤ G.1 + (z0); omega)) hS (iI_in (n := 14) (nmI_l (by decide)) ⟨by decide, by decide⟩) dX5_init_76 ?_
  clear hS hn0
  intro H locs hn0 hz9 hk hS
  replace hn0 : gC G (z0) (.inl (G.2.2 4, 14, .inr (.inr (.inr (.inr (va_up (va_up (va_up (va_up (va_up (fun _ => none) 0 (some (G.1 + (z0 + 19)))) 1 (some (G.1 + (z0 + 30)))) 2 (some (G.1 + (z0 + 41)))) 3 (some (G.1 + (z0 + 52)))) 4 (some (G.1 + (z0 + 63))))))))) H := hn0
  replace ho := gC_k ho (hk _ (by omega))
  replace hn1 := gC_k hn1 (hk _ (by omega))
  replace hn2 := gC_k hn2 (hk _ (by omega))
  replace hn3 := C_X8_init_k hn3 (fun q h9 => hk _ (by omega))
  replace hn14 := C_X6_init_k hn14 (fun q h9 => hk _ (by omega))
  replace hn19 := C_X8_init_k hn19 (fun q h9 => hk _ (by omega))
  replace hn30 := C_X8_init_k hn30 (fun q h9 => hk _ (by omega))
  replace hn41 := C_X8_init_k hn41 (fun q h9 => hk _ (by omega))
  replace hn52 := C_X8_init_k hn52 (fun q h9 => hk _ (by omega))
  replace hn63 := C_X8_init_k hn63 (fun q h9 => hk _ (by omega))
  rw [← hz9] at hz; clear hz9 hk
  refine g_iinc X (a := 4) (lv' := [(2, .int (iI 5)), (0, .ref (G.1 + (p0))), (1, .ref (G.1 + (s1)))]) dX5_init_77 hl (k := 0) rfl (by decide) rfl ?_
  clear hl
  intro ls hl
  refine lv_goto (tgt := 56) X.1 X.2.1 dX5_init_80 (by decide) ?_
  refine lv_iload_n X.1 X.2.1 dX5_init_56 rfl (lv_at hl.1 0 rfl) ?_
  refine lv_bipush X.1 X.2.1 dX5_init_57 (v := iI 14) (by decide) ?_
  refine g_icmp_ge X (nmI_l (by decide)) (nmI_l (by decide)) (tgt := 83) dX5_init_59 (by decide) (fun hc => absurd (by decide) hc) (fun _ => ?_)
  refine lv_aload_n X.1 X.2.1 dX5_init_62 rfl (lv_at hl.1 1 rfl) ?_
  refine c_get X cX5 ho 0 (by decide) k_244 rfl (v := .ref (G.1 + (z0))) rfl dX5_init_63 ?_
  refine lv_iload_n X.1 X.2.1 dX5_init_66 rfl (lv_at hl.1 0 rfl) ?_
  refine c_new X cX8 k_96 k_98 k_34 hz hS (fs := [.int 0, .null, .null, .int 0, .int 0, .int 0, .int 0, .int 0, .int 0, .int 0, .int 0, .int 0, .int 0]) (fun j hj => by rcases (show j = 0 ∨ j = 1 ∨ j = 2 ∨ j = 3 ∨ j = 4 ∨ j = 5 ∨ j = 6 ∨ j = 7 ∨ j = 8 ∨ j = 9 ∨ j = 10 ∨ j = 11 ∨ j = 12 by omega) with rfl | rfl | rfl | rfl | rfl | rfl | rfl | rfl | rfl | rfl | rfl | rfl | rfl <;> rfl) (Nat.le_of_ble_eq_true rfl) (Nat.le_of_ble_eq_true rfl) dX5_init_67 ?_
  clear hS
  intro H hn74 hz9 hk hS
  replace ho := gC_k ho (hk _ (by omega))
  replace hn0 := gC_k hn0 (hk _ (by omega))
  replace hn1 := gC_k hn1 (hk _ (by omega))
  replace hn2 := gC_k hn2 (hk _ (by omega))
  replace hn3 := C_X8_init_k hn3 (fun q h9 => hk _ (by omega))
  replace hn14 := C_X6_init_k hn14 (fun q h9 => hk _ (by omega))
  replace hn19 := C_X8_init_k hn19 (fun q h9 => hk _ (by omega))
  replace hn30 := C_X8_init_k hn30 (fun q h9 => hk _ (by omega))
  replace hn41 := C_X8_init_k hn41 (fun q h9 => hk _ (by omega))
  replace hn52 := C_X8_init_k hn52 (fun q h9 => hk _ (by omega))
  replace hn63 := C_X8_init_k hn63 (fun q h9 => hk _ (by omega))
  replace hz : H.size = G.1 + (z0 + 75) := hz9.trans (by omega)
  clear hz9 hk
  refine lv_dup X.1 X.2.1 dX5_init_70 rfl ?_
  refine lv_iload_n X.1 X.2.1 dX5_init_71 rfl (lv_at hl.1 0 rfl) ?_
  refine lv_aload_n X.1 X.2.1 dX5_init_72 rfl (lv_at hl.1 2 rfl) ?_
  refine c_call X (As := [.int (iI 5), .ref (G.1 + (s1))]) (m_X8_init l G (z0 + 74) (z0 + 75) 5 (nmI_l (by decide)) s1 (by omega)) calX8_init k_100 k_99 rfl hn74 hz hS (fun q h => gCA_up (by omega) (by omega) h) ⟨by decide, by decide⟩ rfl hl rfl (Nat.le_of_ble_eq_true rfl) ⟨Nat.le_of_ble_eq_true rfl, Nat.le_of_ble_eq_true rfl⟩ dX5_init_73 ?_
  clear hS hn74
  intro H locs hn74 hz9 hk hS
  replace ho := gC_k ho (hk _ (by omega) (fun z => by rcases z with z | z <;> omega))
  replace hn0 := gC_k hn0 (hk _ (by omega) (fun z => by rcases z with z | z <;> omega))
  replace hn1 := gC_k hn1 (hk _ (by omega) (fun z => by rcases z with z | z <;> omega))
  replace hn2 := gC_k hn2 (hk _ (by omega) (fun z => by rcases z with z | z <;> omega))
  replace hn3 := C_X8_init_k hn3 (fun q h9 => hk _ (by omega) (fun z => by rcases z with z | z <;> omega))
  replace hn14 := C_X6_init_k hn14 (fun q h9 => hk _ (by omega) (fun z => by rcases z with z | z <;> omega))
  replace hn19 := C_X8_init_k hn19 (fun q h9 => hk _ (by omega) (fun z => by rcases z with z | z <;> omega))
  replace hn30 := C_X8_init_k hn30 (fun q h9 => hk _ (by omega) (fun z => by rcases z with z | z <;> omega))
  replace hn41 := C_X8_init_k hn41 (fun q h9 => hk _ (by omega) (fun z => by rcases z with z | z <;> omega))
  replace hn52 := C_X8_init_k hn52 (fun q h9 => hk _ (by omega) (fun z => by rcases z with z | z <;> omega))
  replace hn63 := C_X8_init_k hn63 (fun q h9 => hk _ (by omega) (fun z => by rcases z with z | z <;> omega))
  replace hz : H.size = G.1 + (z0 + 85) := hz9.trans (by omega)
  clear hz9 hk
  refine c_astq X hn0 (t0 := 4) rfl hn74.1 (r := (RX8, TX8, 13)) rfl (Or.inr (by show G.1 + z0 ≤ G.1 + (z0); omega)) hS (iI_in (n := 14) (nmI_l (by decide)) ⟨by decide, by decide⟩) dX5_init_76 ?_
  clear hS hn0
  intro H locs hn0 hz9 hk hS
  replace hn0 : gC G (z0) (.inl (G.2.2 4, 14, .inr (.inr (.inr (.inr (va_up (va_up (va_up (va_up (va_up (va_up (fun _ => none) 0 (some (G.1 + (z0 + 19)))) 1 (some (G.1 + (z0 + 30)))) 2 (some (G.1 + (z0 + 41)))) 3 (some (G.1 + (z0 + 52)))) 4 (some (G.1 + (z0 + 63)))) 5 (some (G.1 + (z0 + 74))))))))) H := hn0
  replace ho := gC_k ho (hk _ (by omega))
  replace hn1 := gC_k hn1 (hk _ (by omega))
  replace hn2 := gC_k hn2 (hk _ (by omega))
  replace hn3 := C_X8_init_k hn3 (fun q h9 => hk _ (by omega))
  replace hn14 := C_X6_init_k hn14 (fun q h9 => hk _ (by omega))
  replace hn19 := C_X8_init_k hn19 (fun q h9 => hk _ (by omega))
  replace hn30 := C_X8_init_k hn30 (fun q h9 => hk _ (by omega))
  replace hn41 := C_X8_init_k hn41 (fun q h9 => hk _ (by omega))
  replace hn52 := C_X8_init_k hn52 (fun q h9 => hk _ (by omega))
  replace hn63 := C_X8_init_k hn63 (fun q h9 => hk _ (by omega))
  replace hn74 := C_X8_init_k hn74 (fun q h9 => hk _ (by omega))
  rw [← hz9] at hz; clear hz9 hk
  refine g_iinc X (a := 5) (lv' := [(2, .int (iI 6)), (0, .ref (G.1 + (p0))), (1, .ref (G.1 + (s1)))]) dX5_init_77 hl (k := 0) rfl (by decide) rfl ?_
  clear hl
  intro ls hl
  refine lv_goto (tgt := 56) X.1 X.2.1 dX5_init_80 (by decide) ?_
  refine lv_iload_n X.1 X.2.1 dX5_init_56 rfl (lv_at hl.1 0 rfl) ?_
  refine lv_bipush X.1 X.2.1 dX5_init_57 (v := iI 14) (by decide) ?_
  refine g_icmp_ge X (nmI_l (by decide)) (nmI_l (by decide)) (tgt := 83) dX5_init_59 (by decide) (fun hc => absurd (by decide) hc) (fun _ => ?_)
  refine lv_aload_n X.1 X.2.1 dX5_init_62 rfl (lv_at hl.1 1 rfl) ?_
  refine c_get X cX5 ho 0 (by decide) k_244 rfl (v := .ref (G.1 + (z0))) rfl dX5_init_63 ?_
  refine lv_iload_n X.1 X.2.1 dX5_init_66 rfl (lv_at hl.1 0 rfl) ?_
  refine c_new X cX8 k_96 k_98 k_34 hz hS (fs := [.int 0, .null, .null, .int 0, .int 0, .int 0, .int 0, .int 0, .int 0, .int 0, .int 0, .int 0, .int 0]) (fun j hj => by rcases (show j = 0 ∨ j = 1 ∨ j = 2 ∨ j = 3 ∨ j = 4 ∨ j = 5 ∨ j = 6 ∨ j = 7 ∨ j = 8 ∨ j = 9 ∨ j = 10 ∨ j = 11 ∨ j = 12 by omega) with rfl | rfl | rfl | rfl | rfl | rfl | rfl | rfl | rfl | rfl | rfl | rfl | rfl <;> rfl) (Nat.le_of_ble_eq_true rfl) (Nat.le_of_ble_eq_true rfl) dX5_init_67 ?_
  clear hS
  intro H hn85 hz9 hk hS
  replace ho := gC_k ho (hk _ (by omega))
  replace hn0 := gC_k hn0 (hk _ (by omega))
  replace hn1 := gC_k hn1 (hk _ (by omega))
  replace hn2 := gC_k hn2 (hk _ (by omega))
  replace hn3 := C_X8_init_k hn3 (fun q h9 => hk _ (by omega))
  replace hn14 := C_X6_init_k hn14 (fun q h9 => hk _ (by omega))
  replace hn19 := C_X8_init_k hn19 (fun q h9 => hk _ (by omega))
  replace hn30 := C_X8_init_k hn30 (fun q h9 => hk _ (by omega))
  replace hn41 := C_X8_init_k hn41 (fun q h9 => hk _ (by omega))
  replace hn52 := C_X8_init_k hn52 (fun q h9 => hk _ (by omega))
  replace hn63 := C_X8_init_k hn63 (fun q h9 => hk _ (by omega))
  replace hn74 := C_X8_init_k hn74 (fun q h9 => hk _ (by omega))
  replace hz : H.size = G.1 + (z0 + 86) := hz9.trans (by omega)
  clear hz9 hk
  refine lv_dup X.1 X.2.1 dX5_init_70 rfl ?_
  refine lv_iload_n X.1 X.2.1 dX5_init_71 rfl (lv_at hl.1 0 rfl) ?_
  refine lv_aload_n X.1 X.2.1 dX5_init_72 rfl (lv_at hl.1 2 rfl) ?_
  refine c_call X (As := [.int (iI 6), .ref (G.1 + (s1))]) (m_X8_init l G (z0 + 85) (z0 + 86) 6 (nmI_l (by decide)) s1 (by omega)) calX8_init k_100 k_99 rfl hn85 hz hS (fun q h => gCA_up (by omega) (by omega) h) ⟨by decide, by decide⟩ rfl hl rfl (Nat.le_of_ble_eq_true rfl) ⟨Nat.le_of_ble_eq_true rfl, Nat.le_of_ble_eq_true rfl⟩ dX5_init_73 ?_
  clear hS hn85
  intro H locs hn85 hz9 hk hS
  replace ho := gC_k ho (hk _ (by omega) (fun z => by rcases z with z | z <;> omega))
  replace hn0 := gC_k hn0 (hk _ (by omega) (fun z => by rcases z with z | z <;> omega))
  replace hn1 := gC_k hn1 (hk _ (by omega) (fun z => by rcases z with z | z <;> omega))
  replace hn2 := gC_k hn2 (hk _ (by omega) (fun z => by rcases z with z | z <;> omega))
  replace hn3 := C_X8_init_k hn3 (fun q h9 => hk _ (by omega) (fun z => by rcases z with z | z <;> omega))
  replace hn14 := C_X6_init_k hn14 (fun q h9 => hk _ (by omega) (fun z => by rcases z with z | z <;> omega))
  replace hn19 := C_X8_init_k hn19 (fun q h9 => hk _ (by omega) (fun z => by rcases z with z | z <;> omega))
  replace hn30 := C_X8_init_k hn30 (fun q h9 => hk _ (by omega) (fun z => by rcases z with z | z <;> omega))
  replace hn41 := C_X8_init_k hn41 (fun q h9 => hk _ (by omega) (fun z => by rcases z with z | z <;> omega))
  replace hn52 := C_X8_init_k hn52 (fun q h9 => hk _ (by omega) (fun z => by rcases z with z | z <;> omega))
  replace hn63 := C_X8_init_k hn63 (fun q h9 => hk _ (by omega) (fun z => by rcases z with z | z <;> omega))
  replace hn74 := C_X8_init_k hn74 (fun q h9 => hk _ (by omega) (fun z => by rcases z with z | z <;> omega))
  replace hz : H.size = G.1 + (z0 + 96) := hz9.trans (by omega)
  clear hz9 hk
  refine c_astq X hn0 (t0 := 4) rfl hn85.1 (r := (RX8, TX8, 13)) rfl (Or.inr (by show G.1 + z0 ≤ G.1 + (z0); omega)) hS (iI_in (n := 14) (nmI_l (by decide)) ⟨by decide, by decide⟩) dX5_init_76 ?_
  clear hS hn0
  intro H locs hn0 hz9 hk hS
  replace hn0 : gC G (z0) (.inl (G.2.2 4, 14, .inr (.inr (.inr (.inr (va_up (va_up (va_up (va_up (va_up (va_up (va_up (fun _ => none) 0 (some (G.1 + (z0 + 19)))) 1 (some (G.1 + (z0 + 30)))) 2 (some (G.1 + (z0 + 41)))) 3 (some (G.1 + (z0 + 52)))) 4 (some (G.1 + (z0 + 63)))) 5 (some (G.1 + (z0 + 74)))) 6 (some (G.1 + (z0 + 85))))))))) H := hn0
  replace ho := gC_k ho (hk _ (by omega))
  replace hn1 := gC_k hn1 (hk _ (by omega))
  replace hn2 := gC_k hn2 (hk _ (by omega))
  replace hn3 := C_X8_init_k hn3 (fun q h9 => hk _ (by omega))
  replace hn14 := C_X6_init_k hn14 (fun q h9 => hk _ (by omega))
  replace hn19 := C_X8_init_k hn19 (fun q h9 => hk _ (by omega))
  replace hn30 := C_X8_init_k hn30 (fun q h9 => hk _ (by omega))
  replace hn41 := C_X8_init_k hn41 (fun q h9 => hk _ (by omega))
  replace hn52 := C_X8_init_k hn52 (fun q h9 => hk _ (by omega))
  replace hn63 := C_X8_init_k hn63 (fun q h9 => hk _ (by omega))
  replace hn74 := C_X8_init_k hn74 (fun q h9 => hk _ (by omega))
  replace hn85 := C_X8_init_k hn85 (fun q h9 => hk _ (by omega))
  rw [← hz9] at hz; clear hz9 hk
  refine g_iinc X (a := 6) (lv' := [(2, .int (iI 7)), (0, .ref (G.1 + (p0))), (1, .ref (G.1 + (s1)))]) dX5_init_77 hl (k := 0) rfl (by decide) rfl ?_
  clear hl
  intro ls hl
  refine lv_goto (tgt := 56) X.1 X.2.1 dX5_init_80 (by decide) ?_
  refine lv_iload_n X.1 X.2.1 dX5_init_56 rfl (lv_at hl.1 0 rfl) ?_
  refine lv_bipush X.1 X.2.1 dX5_init_57 (v := iI 14) (by decide) ?_
  refine g_icmp_ge X (nmI_l (by decide)) (nmI_l (by decide)) (tgt := 83) dX5_init_59 (by decide) (fun hc => absurd (by decide) hc) (fun _ => ?_)
  refine lv_aload_n X.1 X.2.1 dX5_init_62 rfl (lv_at hl.1 1 rfl) ?_
  refine c_get X cX5 ho 0 (by decide) k_244 rfl (v := .ref (G.1 + (z0))) rfl dX5_init_63 ?_
  refine lv_iload_n X.1 X.2.1 dX5_init_66 rfl (lv_at hl.1 0 rfl) ?_
  refine c_new X cX8 k_96 k_98 k_34 hz hS (fs := [.int 0, .null, .null, .int 0, .int 0, .int 0, .int 0, .int 0, .int 0, .int 0, .int 0, .int 0, .int 0]) (fun j hj => by rcases (show j = 0 ∨ j = 1 ∨ j = 2 ∨ j = 3 ∨ j = 4 ∨ j = 5 ∨ j = 6 ∨ j = 7 ∨ j = 8 ∨ j = 9 ∨ j = 10 ∨ j = 11 ∨ j = 12 by omega) with rfl | rfl | rfl | rfl | rfl | rfl | rfl | rfl | rfl | rfl | rfl | rfl | rfl <;> rfl) (Nat.le_of_ble_eq_true rfl) (Nat.le_of_ble_eq_true rfl) dX5_init_67 ?_
  clear hS
  intro H hn96 hz9 hk hS
  replace ho := gC_k ho (hk _ (by omega))
  replace hn0 := gC_k hn0 (hk _ (by omega))
  replace hn1 := gC_k hn1 (hk _ (by omega))
  replace hn2 := gC_k hn2 (hk _ (by omega))
  replace hn3 := C_X8_init_k hn3 (fun q h9 => hk _ (by omega))
  replace hn14 := C_X6_init_k hn14 (fun q h9 => hk _ (by omega))
  replace hn19 := C_X8_init_k hn19 (fun q h9 => hk _ (by omega))
  replace hn30 := C_X8_init_k hn30 (fun q h9 => hk _ (by omega))
  replace hn41 := C_X8_init_k hn41 (fun q h9 => hk _ (by omega))
  replace hn52 := C_X8_init_k hn52 (fun q h9 => hk _ (by omega))
  replace hn63 := C_X8_init_k hn63 (fun q h9 => hk _ (by omega))
  replace hn74 := C_X8_init_k hn74 (fun q h9 => hk _ (by omega))
  replace hn85 := C_X8_init_k hn85 (fun q h9 => hk _ (by omega))
  replace hz : H.size = G.1 + (z0 + 97) := hz9.trans (by omega)
  clear hz9 hk
  refine lv_dup X.1 X.2.1 dX5_init_70 rfl ?_
  refine lv_iload_n X.1 X.2.1 dX5_init_71 rfl (lv_at hl.1 0 rfl) ?_
  refine lv_aload_n X.1 X.2.1 dX5_init_72 rfl (lv_at hl.1 2 rfl) ?_
  refine c_call X (As := [.int (iI 7), .ref (G.1 + (s1))]) (m_X8_init l G (z0 + 96) (z0 + 97) 7 (nmI_l (by decide)) s1 (by omega)) calX8_init k_100 k_99 rfl hn96 hz hS (fun q h => gCA_up (by omega) (by omega) h) ⟨by decide, by decide⟩ rfl hl rfl (Nat.le_of_ble_eq_true rfl) ⟨Nat.le_of_ble_eq_true rfl, Nat.le_of_ble_eq_true rfl⟩ dX5_init_73 ?_
  clear hS hn96
  intro H locs hn96 hz9 hk hS
  replace ho := gC_k ho (hk _ (by omega) (fun z => by rcases z with z | z <;> omega))
  replace hn0 := gC_k hn0 (hk _ (by omega) (fun z => by rcases z with z | z <;> omega))
  replace hn1 := gC_k hn1 (hk _ (by omega) (fun z => by rcases z with z | z <;> omega))
  replace hn2 := gC_k hn2 (hk _ (by omega) (fun z => by rcases z with z | z <;> omega))
  replace hn3 := C_X8_init_k hn3 (fun q h9 => hk _ (by omega) (fun z => by rcases z with z | z <;> omega))
  replace hn14 := C_X6_init_k hn14 (fun q h9 => hk _ (by omega) (fun z => by rcases z with z | z <;> omega))
  replace hn19 := C_X8_init_k hn19 (fun q h9 => hk _ (by omega) (fun z => by rcases z with z | z <;> omega))
  replace hn30 := C_X8_init_k hn30 (fun q h9 => hk _ (by omega) (fun z => by rcases z with z | z <;> omega))
  replace hn41 := C_X8_init_k hn41 (fun q h9 => hk _ (by omega) (fun z => by rcases z with z | z <;> omega))
  replace hn52 := C_X8_init_k hn52 (fun q h9 => hk _ (by omega) (fun z => by rcases z with z | z <;> omega))
  replace hn63 := C_X8_init_k hn63 (fun q h9 => hk _ (by omega) (fun z => by rcases z with z | z <;> omega))
  replace hn74 := C_X8_init_k hn74 (fun q h9 => hk _ (by omega) (fun z => by rcases z with z | z <;> omega))
  replace hn85 := C_X8_init_k hn85 (fun q h9 => hk _ (by omega) (fun z => by rcases z with z | z <;> omega))
  replace hz : H.size = G.1 + (z0 + 107) := hz9.trans (by omega)
  clear hz9 hk
  refine c_astq X hn0 (t0 := 4) rfl hn96.1 (r := (RX8, TX8, 13)) rfl (Or.inr (by show G.1 + z0 ≤ G.1 + (z0); omega)) hS (iI_in (n := 14) (nmI_l (by decide)) ⟨by decide, by decide⟩) dX5_init_76 ?_
  clear hS hn0
  intro H locs hn0 hz9 hk hS
  replace hn0 : gC G (z0) (.inl (G.2.2 4, 14, .inr (.inr (.inr (.inr (va_up (va_up (va_up (va_up (va_up (va_up (va_up (va_up (fun _ => none) 0 (some (G.1 + (z0 + 19)))) 1 (some (G.1 + (z0 + 30)))) 2 (some (G.1 + (z0 + 41)))) 3 (some (G.1 + (z0 + 52)))) 4 (some (G.1 + (z0 + 63)))) 5 (some (G.1 + (z0 + 74)))) 6 (some (G.1 + (z0 + 85)))) 7 (some (G.1 + (z0 + 96))))))))) H := hn0
  replace ho := gC_k ho (hk _ (by omega))
  replace hn1 := gC_k hn1 (hk _ (by omega))
  replace hn2 := gC_k hn2 (hk _ (by omega))
  replace hn3 := C_X8_init_k hn3 (fun q h9 => hk _ (by omega))
  replace hn14 := C_X6_init_k hn14 (fun q h9 => hk _ (by omega))
  replace hn19 := C_X8_init_k hn19 (fun q h9 => hk _ (by omega))
  replace hn30 := C_X8_init_k hn30 (fun q h9 => hk _ (by omega))
  replace hn41 := C_X8_init_k hn41 (fun q h9 => hk _ (by omega))
  replace hn52 := C_X8_init_k hn52 (fun q h9 => hk _ (by omega))
  replace hn63 := C_X8_init_k hn63 (fun q h9 => hk _ (by omega))
  replace hn74 := C_X8_init_k hn74 (fun q h9 => hk _ (by omega))
  replace hn85 := C_X8_init_k hn85 (fun q h9 => hk _ (by omega))
  replace hn96 := C_X8_init_k hn96 (fun q h9 => hk _ (by omega))
  rw [← hz9] at hz; clear hz9 hk
  refine g_iinc X (a := 7) (lv' := [(2, .int (iI 8)), (0, .ref (G.1 + (p0))), (1, .ref (G.1 + (s1)))]) dX5_init_77 hl (k := 0) rfl (by decide) rfl ?_
  clear hl
  intro ls hl
  refine lv_goto (tgt := 56) X.1 X.2.1 dX5_init_80 (by decide) ?_
  refine lv_iload_n X.1 X.2.1 dX5_init_56 rfl (lv_at hl.1 0 rfl) ?_
  refine lv_bipush X.1 X.2.1 dX5_init_57 (v := iI 14) (by decide) ?_
  refine g_icmp_ge X (nmI_l (by decide)) (nmI_l (by decide)) (tgt := 83) dX5_init_59 (by decide) (fun hc => absurd (by decide) hc) (fun _ => ?_)
  refine lv_aload_n X.1 X.2.1 dX5_init_62 rfl (lv_at hl.1 1 rfl) ?_
  refine c_get X cX5 ho 0 (by decide) k_244 rfl (v := .ref (G.1 + (z0))) rfl dX5_init_63 ?_
  refine lv_iload_n X.1 X.2.1 dX5_init_66 rfl (lv_at hl.1 0 rfl) ?_
  refine c_new X cX8 k_96 k_98 k_34 hz hS (fs := [.int 0, .null, .null, .int 0, .int 0, .int 0, .int 0, .int 0, .int 0, .int 0, .int 0, .int 0, .int 0]) (fun j hj => by rcases (show j = 0 ∨ j = 1 ∨ j = 2 ∨ j = 3 ∨ j = 4 ∨ j = 5 ∨ j = 6 ∨ j = 7 ∨ j = 8 ∨ j = 9 ∨ j = 10 ∨ j = 11 ∨ j = 12 by omega) with rfl | rfl | rfl | rfl | rfl | rfl | rfl | rfl | rfl | rfl | rfl | rfl | rfl <;> rfl) (Nat.le_of_ble_eq_true rfl) (Nat.le_of_ble_eq_true rfl) dX5_init_67 ?_
  clear hS
  intro H hn107 hz9 hk hS
  replace ho := gC_k ho (hk _ (by omega))
  replace hn0 := gC_k hn0 (hk _ (by omega))
  replace hn1 := gC_k hn1 (hk _ (by omega))
  replace hn2 := gC_k hn2 (hk _ (by omega))
  replace hn3 := C_X8_init_k hn3 (fun q h9 => hk _ (by omega))
  replace hn14 := C_X6_init_k hn14 (fun q h9 => hk _ (by omega))
  replace hn19 := C_X8_init_k hn19 (fun q h9 => hk _ (by omega))
  replace hn30 := C_X8_init_k hn30 (fun q h9 => hk _ (by omega))
  replace hn41 := C_X8_init_k hn41 (fun q h9 => hk _ (by omega))
  replace hn52 := C_X8_init_k hn52 (fun q h9 => hk _ (by omega))
  replace hn63 := C_X8_init_k hn63 (fun q h9 => hk _ (by omega))
  replace hn74 := C_X8_init_k hn74 (fun q h9 => hk _ (by omega))
  replace hn85 := C_X8_init_k hn85 (fun q h9 => hk _ (by omega))
  replace hn96 := C_X8_init_k hn96 (fun q h9 => hk _ (by omega))
  replace hz : H.size = G.1 + (z0 + 108) := hz9.trans (by omega)
  clear hz9 hk
  refine lv_dup X.1 X.2.1 dX5_init_70 rfl ?_
  refine lv_iload_n X.1 X.2.1 dX5_init_71 rfl (lv_at hl.1 0 rfl) ?_
  refine lv_aload_n X.1 X.2.1 dX5_init_72 rfl (lv_at hl.1 2 rfl) ?_
  refine c_call X (As := [.int (iI 8), .ref (G.1 + (s1))]) (m_X8_init l G (z0 + 107) (z0 + 108) 8 (nmI_l (by decide)) s1 (by omega)) calX8_init k_100 k_99 rfl hn107 hz hS (fun q h => gCA_up (by omega) (by omega) h) ⟨by decide, by decide⟩ rfl hl rfl (Nat.le_of_ble_eq_true rfl) ⟨Nat.le_of_ble_eq_true rfl, Nat.le_of_ble_eq_true rfl⟩ dX5_init_73 ?_
  clear hS hn107
  intro H locs hn107 hz9 hk hS
  replace ho := gC_k ho (hk _ (by omega) (fun z => by rcases z with z | z <;> omega))
  replace hn0 := gC_k hn0 (hk _ (by omega) (fun z => by rcases z with z | z <;> omega))
  replace hn1 := gC_k hn1 (hk _ (by omega) (fun z => by rcases z with z | z <;> omega))
  replace hn2 := gC_k hn2 (hk _ (by omega) (fun z => by rcases z with z | z <;> omega))
  replace hn3 := C_X8_init_k hn3 (fun q h9 => hk _ (by omega) (fun z => by rcases z with z | z <;> omega))
  replace hn14 := C_X6_init_k hn14 (fun q h9 => hk _ (by omega) (fun z => by rcases z with z | z <;> omega))
  replace hn19 := C_X8_init_k hn19 (fun q h9 => hk _ (by omega) (fun z => by rcases z with z | z <;> omega))
  replace hn30 := C_X8_init_k hn30 (fun q h9 => hk _ (by omega) (fun z => by rcases z with z | z <;> omega))
  replace hn41 := C_X8_init_k hn41 (fun q h9 => hk _ (by omega) (fun z => by rcases z with z | z <;> omega))
  replace hn52 := C_X8_init_k hn52 (fun q h9 => hk _ (by omega) (fun z => by rcases z with z | z <;> omega))
  replace hn63 := C_X8_init_k hn63 (fun q h9 => hk _ (by omega) (fun z => by rcases z with z | z <;> omega))
  replace hn74 := C_X8_init_k hn74 (fun q h9 => hk _ (by omega) (fun z => by rcases z with z | z <;> omega))
  replace hn85 := C_X8_init_k hn85 (fun q h9 => hk _ (by omega) (fun z => by rcases z with z | z <;> omega))
  replace hn96 := C_X8_init_k hn96 (fun q h9 => hk _ (by omega) (fun z => by rcases z with z | z <;> omega))
  replace hz : H.size = G.1 + (z0 + 118) := hz9.trans (by omega)
  clear hz9 hk
  refine c_astq X hn0 (t0 := 4) rfl hn107.1 (r := (RX8, TX8, 13)) rfl (Or.inr (by show G.1 + z0 ≤ G.1 + (z0); omega)) hS (iI_in (n := 14) (nmI_l (by decide)) ⟨by decide, by decide⟩) dX5_init_76 ?_
  clear hS hn0
  intro H locs hn0 hz9 hk hS
  replace hn0 : gC G (z0) (.inl (G.2.2 4, 14, .inr (.inr (.inr (.inr (va_up (va_up (va_up (va_up (va_up (va_up (va_up (va_up (va_up (fun _ => none) 0 (some (G.1 + (z0 + 19)))) 1 (some (G.1 + (z0 + 30)))) 2 (some (G.1 + (z0 + 41)))) 3 (some (G.1 + (z0 + 52)))) 4 (some (G.1 + (z0 + 63)))) 5 (some (G.1 + (z0 + 74)))) 6 (some (G.1 + (z0 + 85)))) 7 (some (G.1 + (z0 + 96)))) 8 (some (G.1 + (z0 + 107))))))))) H := hn0
  replace ho := gC_k ho (hk _ (by omega))
  replace hn1 := gC_k hn1 (hk _ (by omega))
  replace hn2 := gC_k hn2 (hk _ (by omega))
  replace hn3 := C_X8_init_k hn3 (fun q h9 => hk _ (by omega))
  replace hn14 := C_X6_init_k hn14 (fun q h9 => hk _ (by omega))
  replace hn19 := C_X8_init_k hn19 (fun q h9 => hk _ (by omega))
  replace hn30 := C_X8_init_k hn30 (fun q h9 => hk _ (by omega))
  replace hn41 := C_X8_init_k hn41 (fun q h9 => hk _ (by omega))
  replace hn52 := C_X8_init_k hn52 (fun q h9 => hk _ (by omega))
  replace hn63 := C_X8_init_k hn63 (fun q h9 => hk _ (by omega))
  replace hn74 := C_X8_init_k hn74 (fun q h9 => hk _ (by omega))
  replace hn85 := C_X8_init_k hn85 (fun q h9 => hk _ (by omega))
  replace hn96 := C_X8_init_k hn96 (fun q h9 => hk _ (by omega))
  replace hn107 := C_X8_init_k hn107 (fun q h9 => hk _ (by omega))
  rw [← hz9] at hz; clear hz9 hk
  refine g_iinc X (a := 8) (lv' := [(2, .int (iI 9)), (0, .ref (G.1 + (p0))), (1, .ref (G.1 + (s1)))]) dX5_init_77 hl (k := 0) rfl (by decide) rfl ?_
  clear hl
  intro ls hl
  refine lv_goto (tgt := 56) X.1 X.2.1 dX5_init_80 (by decide) ?_
  refine lv_iload_n X.1 X.2.1 dX5_init_56 rfl (lv_at hl.1 0 rfl) ?_
  refine lv_bipush X.1 X.2.1 dX5_init_57 (v := iI 14) (by decide) ?_
  refine g_icmp_ge X (nmI_l (by decide)) (nmI_l (by decide)) (tgt := 83) dX5_init_59 (by decide) (fun hc => absurd (by decide) hc) (fun _ => ?_)
  refine lv_aload_n X.1 X.2.1 dX5_init_62 rfl (lv_at hl.1 1 rfl) ?_
  refine c_get X cX5 ho 0 (by decide) k_244 rfl (v := .ref (G.1 + (z0))) rfl dX5_init_63 ?_
  refine lv_iload_n X.1 X.2.1 dX5_init_66 rfl (lv_at hl.1 0 rfl) ?_
  refine c_new X cX8 k_96 k_98 k_34 hz hS (fs := [.int 0, .null, .null, .int 0, .int 0, .int 0, .int 0, .int 0, .int 0, .int 0, .int 0, .int 0, .int 0]) (fun j hj => by rcases (show j = 0 ∨ j = 1 ∨ j = 2 ∨ j = 3 ∨ j = 4 ∨ j = 5 ∨ j = 6 ∨ j = 7 ∨ j = 8 ∨ j = 9 ∨ j = 10 ∨ j = 11 ∨ j = 12 by omega) with rfl | rfl | rfl | rfl | rfl | rfl | rfl | rfl | rfl | rfl | rfl | rfl | rfl <;> rfl) (Nat.le_of_ble_eq_true rfl) (Nat.le_of_ble_eq_true rfl) dX5_init_67 ?_
  clear hS
  intro H hn118 hz9 hk hS
  replace ho := gC_k ho (hk _ (by omega))
  replace hn0 := gC_k hn0 (hk _ (by omega))
  replace hn1 := gC_k hn1 (hk _ (by omega))
  replace hn2 := gC_k hn2 (hk _ (by omega))
  replace hn3 := C_X8_init_k hn3 (fun q h9 => hk _ (by omega))
  replace hn14 := C_X6_init_k hn14 (fun q h9 => hk _ (by omega))
  replace hn19 := C_X8_init_k hn19 (fun q h9 => hk _ (by omega))
  replace hn30 := C_X8_init_k hn30 (fun q h9 => hk _ (by omega))
  replace hn41 := C_X8_init_k hn41 (fun q h9 => hk _ (by omega))
  replace hn52 := C_X8_init_k hn52 (fun q h9 => hk _ (by omega))
  replace hn63 := C_X8_init_k hn63 (fun q h9 => hk _ (by omega))
  replace hn74 := C_X8_init_k hn74 (fun q h9 => hk _ (by omega))
  replace hn85 := C_X8_init_k hn85 (fun q h9 => hk _ (by omega))
  replace hn96 := C_X8_init_k hn96 (fun q h9 => hk _ (by omega))
  replace hn107 := C_X8_init_k hn107 (fun q h9 => hk _ (by omega))
  replace hz : H.size = G.1 + (z0 + 119) := hz9.trans (by omega)
  clear hz9 hk
  refine lv_dup X.1 X.2.1 dX5_init_70 rfl ?_
  refine lv_iload_n X.1 X.2.1 dX5_init_71 rfl (lv_at hl.1 0 rfl) ?_
  refine lv_aload_n X.1 X.2.1 dX5_init_72 rfl (lv_at hl.1 2 rfl) ?_
  refine c_call X (As := [.int (iI 9), .ref (G.1 + (s1))]) (m_X8_init l G (z0 + 118) (z0 + 119) 9 (nmI_l (by decide)) s1 (by omega)) calX8_init k_100 k_99 rfl hn118 hz hS (fun q h => gCA_up (by omega) (by omega) h) ⟨by decide, by decide⟩ rfl hl rfl (Nat.le_of_ble_eq_true rfl) ⟨Nat.le_of_ble_eq_true rfl, Nat.le_of_ble_eq_true rfl⟩ dX5_init_73 ?_
  clear hS hn118
  intro H locs hn118 hz9 hk hS
  replace ho := gC_k ho (hk _ (by omega) (fun z => by rcases z with z | z <;> omega))
  replace hn0 := gC_k hn0 (hk _ (by omega) (fun z => by rcases z with z | z <;> omega))
  replace hn1 := gC_k hn1 (hk _ (by omega) (fun z => by rcases z with z | z <;> omega))
  replace hn2 := gC_k hn2 (hk _ (by omega) (fun z => by rcases z with z | z <;> omega))
  replace hn3 := C_X8_init_k hn3 (fun q h9 => hk _ (by omega) (fun z => by rcases z with z | z <;> omega))
  replace hn14 := C_X6_init_k hn14 (fun q h9 => hk _ (by omega) (fun z => by rcases z with z | z <;> omega))
  replace hn19 := C_X8_init_k hn19 (fun q h9 => hk _ (by omega) (fun z => by rcases z with z | z <;> omega))
  replace hn30 := C_X8_init_k hn30 (fun q h9 => hk _ (by omega) (fun z => by rcases z with z | z <;> omega))
  replace hn41 := C_X8_init_k hn41 (fun q h9 => hk _ (by omega) (fun z => by rcases z with z | z <;> omega))
  replace hn52 := C_X8_init_k hn52 (fun q h9 => hk _ (by omega) (fun z => by rcases z with z | z <;> omega))
  replace hn63 := C_X8_init_k hn63 (fun q h9 => hk _ (by omega) (fun z => by rcases z with z | z <;> omega))
  replace hn74 := C_X8_init_k hn74 (fun q h9 => hk _ (by omega) (fun z => by rcases z with z | z <;> omega))
  replace hn85 := C_X8_init_k hn85 (fun q h9 => hk _ (by omega) (fun z => by rcases z with z | z <;> omega))
  replace hn96 := C_X8_init_k hn96 (fun q h9 => hk _ (by omega) (fun z => by rcases z with z | z <;> omega))
  replace hn107 := C_X8_init_k hn107 (fun q h9 => hk _ (by omega) (fun z => by rcases z with z | z <;> omega))
  replace hz : H.size = G.1 + (z0 + 129) := hz9.trans (by omega)
  clear hz9 hk
  refine c_astq X hn0 (t0 := 4) rfl hn118.1 (r := (RX8, TX8, 13)) rfl (Or.inr (by show G.1 + z0 ≤ G.1 + (z0); omega)) hS (iI_in (n := 14) (nmI_l (by decide)) ⟨by decide, by decide⟩) dX5_init_76 ?_
  clear hS hn0
  intro H locs hn0 hz9 hk hS
  replace hn0 : gC G (z0) (.inl (G.2.2 4, 14, .inr (.inr (.inr (.inr (va_up (va_up (va_up (va_up (va_up (va_up (va_up (va_up (va_up (va_up (fun _ => none) 0 (some (G.1 + (z0 + 19)))) 1 (some (G.1 + (z0 + 30)))) 2 (some (G.1 + (z0 + 41)))) 3 (some (G.1 + (z0 + 52)))) 4 (some (G.1 + (z0 + 63)))) 5 (some (G.1 + (z0 + 74)))) 6 (some (G.1 + (z0 + 85)))) 7 (some (G.1 + (z0 + 96)))) 8 (some (G.1 + (z0 + 107)))) 9 (some (G.1 + (z0 + 118))))))))) H := hn0
  replace ho := gC_k ho (hk _ (by omega))
  replace hn1 := gC_k hn1 (hk _ (by omega))
  replace hn2 := gC_k hn2 (hk _ (by omega))
  replace hn3 := C_X8_init_k hn3 (fun q h9 => hk _ (by omega))
  replace hn14 := C_X6_init_k hn14 (fun q h9 => hk _ (by omega))
  replace hn19 := C_X8_init_k hn19 (fun q h9 => hk _ (by omega))
  replace hn30 := C_X8_init_k hn30 (fun q h9 => hk _ (by omega))
  replace hn41 := C_X8_init_k hn41 (fun q h9 => hk _ (by omega))
  replace hn52 := C_X8_init_k hn52 (fun q h9 => hk _ (by omega))
  replace hn63 := C_X8_init_k hn63 (fun q h9 => hk _ (by omega))
  replace hn74 := C_X8_init_k hn74 (fun q h9 => hk _ (by omega))
  replace hn85 := C_X8_init_k hn85 (fun q h9 => hk _ (by omega))
  replace hn96 := C_X8_init_k hn96 (fun q h9 => hk _ (by omega))
  replace hn107 := C_X8_init_k hn107 (fun q h9 => hk _ (by omega))
  replace hn118 := C_X8_init_k hn118 (fun q h9 => hk _ (by omega))
  rw [← hz9] at hz; clear hz9 hk
  refine g_iinc X (a := 9) (lv' := [(2, .int (iI 10)), (0, .ref (G.1 + (p0))), (1, .ref (G.1 + (s1)))]) dX5_init_77 hl (k := 0) rfl (by decide) rfl ?_
  clear hl
  intro ls hl
  refine lv_goto (tgt := 56) X.1 X.2.1 dX5_init_80 (by decide) ?_
  refine lv_iload_n X.1 X.2.1 dX5_init_56 rfl (lv_at hl.1 0 rfl) ?_
  refine lv_bipush X.1 X.2.1 dX5_init_57 (v := iI 14) (by decide) ?_
  refine g_icmp_ge X (nmI_l (by decide)) (nmI_l (by decide)) (tgt := 83) dX5_init_59 (by decide) (fun hc => absurd (by decide) hc) (fun _ => ?_)
  refine lv_aload_n X.1 X.2.1 dX5_init_62 rfl (lv_at hl.1 1 rfl) ?_
  refine c_get X cX5 ho 0 (by decide) k_244 rfl (v := .ref (G.1 + (z0))) rfl dX5_init_63 ?_
  refine lv_iload_n X.1 X.2.1 dX5_init_66 rfl (lv_at hl.1 0 rfl) ?_
  refine c_new X cX8 k_96 k_98 k_34 hz hS (fs := [.int 0, .null, .null, .int 0, .int 0, .int 0, .int 0, .int 0, .int 0, .int 0, .int 0, .int 0, .int 0]) (fun j hj => by rcases (show j = 0 ∨ j = 1 ∨ j = 2 ∨ j = 3 ∨ j = 4 ∨ j = 5 ∨ j = 6 ∨ j = 7 ∨ j = 8 ∨ j = 9 ∨ j = 10 ∨ j = 11 ∨ j = 12 by omega) with rfl | rfl | rfl | rfl | rfl | rfl | rfl | rfl | rfl | rfl | rfl | rfl | rfl <;> rfl) (Nat.le_of_ble_eq_true rfl) (Nat.le_of_ble_eq_true rfl) dX5_init_67 ?_
  clear hS
  intro H hn129 hz9 hk hS
  replace ho := gC_k ho (hk _ (by omega))
  replace hn0 := gC_k hn0 (hk _ (by omega))
  replace hn1 := gC_k hn1 (hk _ (by omega))
  replace hn2 := gC_k hn2 (hk _ (by omega))
  replace hn3 := C_X8_init_k hn3 (fun q h9 => hk _ (by omega))
  replace hn14 := C_X6_init_k hn14 (fun q h9 => hk _ (by omega))
  replace hn19 := C_X8_init_k hn19 (fun q h9 => hk _ (by omega))
  replace hn30 := C_X8_init_k hn30 (fun q h9 => hk _ (by omega))
  replace hn41 := C_X8_init_k hn41 (fun q h9 => hk _ (by omega))
  replace hn52 := C_X8_init_k hn52 (fun q h9 => hk _ (by omega))
  replace hn63 := C_X8_init_k hn63 (fun q h9 => hk _ (by omega))
  replace hn74 := C_X8_init_k hn74 (fun q h9 => hk _ (by omega))
  replace hn85 := C_X8_init_k hn85 (fun q h9 => hk _ (by omega))
  replace hn96 := C_X8_init_k hn96 (fun q h9 => hk _ (by omega))
  replace hn107 := C_X8_init_k hn107 (fun q h9 => hk _ (by omega))
  replace hn118 := C_X8_init_k hn118 (fun q h9 => hk _ (by omega))
  replace hz : H.size = G.1 + (z0 + 130) := hz9.trans (by omega)
  clear hz9 hk
  refine lv_dup X.1 X.2.1 dX5_init_70 rfl ?_
  refine lv_iload_n X.1 X.2.1 dX5_init_71 rfl (lv_at hl.1 0 rfl) ?_
  refine lv_aload_n X.1 X.2.1 dX5_init_72 rfl (lv_at hl.1 2 rfl) ?_
  refine c_call X (As := [.int (iI 10), .ref (G.1 + (s1))]) (m_X8_init l G (z0 + 129) (z0 + 130) 10 (nmI_l (by decide)) s1 (by omega)) calX8_init k_100 k_99 rfl hn129 hz hS (fun q h => gCA_up (by omega) (by omega) h) ⟨by decide, by decide⟩ rfl hl rfl (Nat.le_of_ble_eq_true rfl) ⟨Nat.le_of_ble_eq_true rfl, Nat.le_of_ble_eq_true rfl⟩ dX5_init_73 ?_
  clear hS hn129
  intro H locs hn129 hz9 hk hS
  replace ho := gC_k ho (hk _ (by omega) (fun z => by rcases z with z | z <;> omega))
  replace hn0 := gC_k hn0 (hk _ (by omega) (fun z => by rcases z with z | z <;> omega))
  replace hn1 := gC_k hn1 (hk _ (by omega) (fun z => by rcases z with z | z <;> omega))
  replace hn2 := gC_k hn2 (hk _ (by omega) (fun z => by rcases z with z | z <;> omega))
  replace hn3 := C_X8_init_k hn3 (fun q h9 => hk _ (by omega) (fun z => by rcases z with z | z <;> omega))
  replace hn14 := C_X6_init_k hn14 (fun q h9 => hk _ (by omega) (fun z => by rcases z with z | z <;> omega))
  replace hn19 := C_X8_init_k hn19 (fun q h9 => hk _ (by omega) (fun z => by rcases z with z | z <;> omega))
  replace hn30 := C_X8_init_k hn30 (fun q h9 => hk _ (by omega) (fun z => by rcases z with z | z <;> omega))
  replace hn41 := C_X8_init_k hn41 (fun q h9 => hk _ (by omega) (fun z => by rcases z with z | z <;> omega))
  replace hn52 := C_X8_init_k hn52 (fun q h9 => hk _ (by omega) (fun z => by rcases z with z | z <;> omega))
  replace hn63 := C_X8_init_k hn63 (fun q h9 => hk _ (by omega) (fun z => by rcases z with z | z <;> omega))
  replace hn74 := C_X8_init_k hn74 (fun q h9 => hk _ (by omega) (fun z => by rcases z with z | z <;> omega))
  replace hn85 := C_X8_init_k hn85 (fun q h9 => hk _ (by omega) (fun z => by rcases z with z | z <;> omega))
  replace hn96 := C_X8_init_k hn96 (fun q h9 => hk _ (by omega) (fun z => by rcases z with z | z <;> omega))
  replace hn107 := C_X8_init_k hn107 (fun q h9 => hk _ (by omega) (fun z => by rcases z with z | z <;> omega))
  replace hn118 := C_X8_init_k hn118 (fun q h9 => hk _ (by omega) (fun z => by rcases z with z | z <;> omega))
  replace hz : H.size = G.1 + (z0 + 140) := hz9.trans (by omega)
  clear hz9 hk
  refine c_astq X hn0 (t0 := 4) rfl hn129.1 (r := (RX8, TX8, 13)) rfl (Or.inr (by show G.1 + z0 ≤ G.1 + (z0); omega)) hS (iI_in (n := 14) (nmI_l (by decide)) ⟨by decide, by decide⟩) dX5_init_76 ?_
  clear hS hn0
  intro H locs hn0 hz9 hk hS
  replace hn0 : gC G (z0) (.inl (G.2.2 4, 14, .inr (.inr (.inr (.inr (va_up (va_up (va_up (va_up (va_up (va_up (va_up (va_up (va_up (va_up (va_up (fun _ => none) 0 (some (G.1 + (z0 + 19)))) 1 (some (G.1 + (z0 + 30)))) 2 (some (G.1 + (z0 + 41)))) 3 (some (G.1 + (z0 + 52)))) 4 (some (G.1 + (z0 + 63)))) 5 (some (G.1 + (z0 + 74)))) 6 (some (G.1 + (z0 + 85)))) 7 (some (G.1 + (z0 + 96)))) 8 (some (G.1 + (z0 + 107)))) 9 (some (G.1 + (z0 + 118)))) 10 (some (G.1 + (z0 + 129))))))))) H := hn0
  replace ho := gC_k ho (hk _ (by omega))
  replace hn1 := gC_k hn1 (hk _ (by omega))
  replace hn2 := gC_k hn2 (hk _ (by omega))
  replace hn3 := C_X8_init_k hn3 (fun q h9 => hk _ (by omega))
  replace hn14 := C_X6_init_k hn14 (fun q h9 => hk _ (by omega))
  replace hn19 := C_X8_init_k hn19 (fun q h9 => hk _ (by omega))
  replace hn30 := C_X8_init_k hn30 (fun q h9 => hk _ (by omega))
  replace hn41 := C_X8_init_k hn41 (fun q h9 => hk _ (by omega))
  replace hn52 := C_X8_init_k hn52 (fun q h9 => hk _ (by omega))
  replace hn63 := C_X8_init_k hn63 (fun q h9 => hk _ (by omega))
  replace hn74 := C_X8_init_k hn74 (fun q h9 => hk _ (by omega))
  replace hn85 := C_X8_init_k hn85 (fun q h9 => hk _ (by omega))
  replace hn96 := C_X8_init_k hn96 (fun q h9 => hk _ (by omega))
  replace hn107 := C_X8_init_k hn107 (fun q h9 => hk _ (by omega))
  replace hn118 := C_X8_init_k hn118 (fun q h9 => hk _ (by omega))
  replace hn129 := C_X8_init_k hn129 (fun q h9 => hk _ (by omega))
  rw [← hz9] at hz; clear hz9 hk
  refine g_iinc X (a := 10) (lv' := [(2, .int (iI 11)), (0, .ref (G.1 + (p0))), (1, .ref (G.1 + (s1)))]) dX5_init_77 hl (k := 0) rfl (by decide) rfl ?_
  clear hl
  intro ls hl
  refine lv_goto (tgt := 56) X.1 X.2.1 dX5_init_80 (by decide) ?_
  refine lv_iload_n X.1 X.2.1 dX5_init_56 rfl (lv_at hl.1 0 rfl) ?_
  refine lv_bipush X.1 X.2.1 dX5_init_57 (v := iI 14) (by decide) ?_
  refine g_icmp_ge X (nmI_l (by decide)) (nmI_l (by decide)) (tgt := 83) dX5_init_59 (by decide) (fun hc => absurd (by decide) hc) (fun _ => ?_)
  refine lv_aload_n X.1 X.2.1 dX5_init_62 rfl (lv_at hl.1 1 rfl) ?_
  refine c_get X cX5 ho 0 (by decide) k_244 rfl (v := .ref (G.1 + (z0))) rfl dX5_init_63 ?_
  refine lv_iload_n X.1 X.2.1 dX5_init_66 rfl (lv_at hl.1 0 rfl) ?_
  refine c_new X cX8 k_96 k_98 k_34 hz hS (fs := [.int 0, .null, .null, .int 0, .int 0, .int 0, .int 0, .int 0, .int 0, .int 0, .int 0, .int 0, .int 0]) (fun j hj => by rcases (show j = 0 ∨ j = 1 ∨ j = 2 ∨ j = 3 ∨ j = 4 ∨ j = 5 ∨ j = 6 ∨ j = 7 ∨ j = 8 ∨ j = 9 ∨ j = 10 ∨ j = 11 ∨ j = 12 by omega) with rfl | rfl | rfl | rfl | rfl | rfl | rfl | rfl | rfl | rfl | rfl | rfl | rfl <;> rfl) (Nat.le_of_ble_eq_true rfl) (Nat.le_of_ble_eq_true rfl) dX5_init_67 ?_
  clear hS
  intro H hn140 hz9 hk hS
  replace ho := gC_k ho (hk _ (by omega))
  replace hn0 := gC_k hn0 (hk _ (by omega))
  replace hn1 := gC_k hn1 (hk _ (by omega))
  replace hn2 := gC_k hn2 (hk _ (by omega))
  replace hn3 := C_X8_init_k hn3 (fun q h9 => hk _ (by omega))
  replace hn14 := C_X6_init_k hn14 (fun q h9 => hk _ (by omega))
  replace hn19 := C_X8_init_k hn19 (fun q h9 => hk _ (by omega))
  replace hn30 := C_X8_init_k hn30 (fun q h9 => hk _ (by omega))
  replace hn41 := C_X8_init_k hn41 (fun q h9 => hk _ (by omega))
  replace hn52 := C_X8_init_k hn52 (fun q h9 => hk _ (by omega))
  replace hn63 := C_X8_init_k hn63 (fun q h9 => hk _ (by omega))
  replace hn74 := C_X8_init_k hn74 (fun q h9 => hk _ (by omega))
  replace hn85 := C_X8_init_k hn85 (fun q h9 => hk _ (by omega))
  replace hn96 := C_X8_init_k hn96 (fun q h9 => hk _ (by omega))
  replace hn107 := C_X8_init_k hn107 (fun q h9 => hk _ (by omega))
  replace hn118 := C_X8_init_k hn118 (fun q h9 => hk _ (by omega))
  replace hn129 := C_X8_init_k hn129 (fun q h9 => hk _ (by omega))
  replace hz : H.size = G.1 + (z0 + 141) := hz9.trans (by omega)
  clear hz9 hk
  refine lv_dup X.1 X.2.1 dX5_init_70 rfl ?_
  refine lv_iload_n X.1 X.2.1 dX5_init_71 rfl (lv_at hl.1 0 rfl) ?_
  refine lv_aload_n X.1 X.2.1 dX5_init_72 rfl (lv_at hl.1 2 rfl) ?_
  refine c_call X (As := [.int (iI 11), .ref (G.1 + (s1))]) (m_X8_init l G (z0 + 140) (z0 + 141) 11 (nmI_l (by decide)) s1 (by omega)) calX8_init k_100 k_99 rfl hn140 hz hS (fun q h => gCA_up (by omega) (by omega) h) ⟨by decide, by decide⟩ rfl hl rfl (Nat.le_of_ble_eq_true rfl) ⟨Nat.le_of_ble_eq_true rfl, Nat.le_of_ble_eq_true rfl⟩ dX5_init_73 ?_
  clear hS hn140
  intro H locs hn140 hz9 hk hS
  replace ho := gC_k ho (hk _ (by omega) (fun z => by rcases z with z | z <;> omega))
  replace hn0 := gC_k hn0 (hk _ (by omega) (fun z => by rcases z with z | z <;> omega))
  replace hn1 := gC_k hn1 (hk _ (by omega) (fun z => by rcases z with z | z <;> omega))
  replace hn2 := gC_k hn2 (hk _ (by omega) (fun z => by rcases z with z | z <;> omega))
  replace hn3 := C_X8_init_k hn3 (fun q h9 => hk _ (by omega) (fun z => by rcases z with z | z <;> omega))
  replace hn14 := C_X6_init_k hn14 (fun q h9 => hk _ (by omega) (fun z => by rcases z with z | z <;> omega))
  replace hn19 := C_X8_init_k hn19 (fun q h9 => hk _ (by omega) (fun z => by rcases z with z | z <;> omega))
  replace hn30 := C_X8_init_k hn30 (fun q h9 => hk _ (by omega) (fun z => by rcases z with z | z <;> omega))
  replace hn41 := C_X8_init_k hn41 (fun q h9 => hk _ (by omega) (fun z => by rcases z with z | z <;> omega))
  replace hn52 := C_X8_init_k hn52 (fun q h9 => hk _ (by omega) (fun z => by rcases z with z | z <;> omega))
  replace hn63 := C_X8_init_k hn63 (fun q h9 => hk _ (by omega) (fun z => by rcases z with z | z <;> omega))
  replace hn74 := C_X8_init_k hn74 (fun q h9 => hk _ (by omega) (fun z => by rcases z with z | z <;> omega))
  replace hn85 := C_X8_init_k hn85 (fun q h9 => hk _ (by omega) (fun z => by rcases z with z | z <;> omega))
  replace hn96 := C_X8_init_k hn96 (fun q h9 => hk _ (by omega) (fun z => by rcases z with z | z <;> omega))
  replace hn107 := C_X8_init_k hn107 (fun q h9 => hk _ (by omega) (fun z => by rcases z with z | z <;> omega))
  replace hn118 := C_X8_init_k hn118 (fun q h9 => hk _ (by omega) (fun z => by rcases z with z | z <;> omega))
  replace hn129 := C_X8_init_k hn129 (fun q h9 => hk _ (by omega) (fun z => by rcases z with z | z <;> omega))
  replace hz : H.size = G.1 + (z0 + 151) := hz9.trans (by omega)
  clear hz9 hk
  refine c_astq X hn0 (t0 := 4) rfl hn140.1 (r := (RX8, TX8, 13)) rfl (Or.inr (by show G.1 + z0 ≤ G.1 + (z0); omega)) hS (iI_in (n := 14) (nmI_l (by decide)) ⟨by decide, by decide⟩) dX5_init_76 ?_
  clear hS hn0
  intro H locs hn0 hz9 hk hS
  replace hn0 : gC G (z0) (.inl (G.2.2 4, 14, .inr (.inr (.inr (.inr (va_up (va_up (va_up (va_up (va_up (va_up (va_up (va_up (va_up (va_up (va_up (va_up (fun _ => none) 0 (some (G.1 + (z0 + 19)))) 1 (some (G.1 + (z0 + 30)))) 2 (some (G.1 + (z0 + 41)))) 3 (some (G.1 + (z0 + 52)))) 4 (some (G.1 + (z0 + 63)))) 5 (some (G.1 + (z0 + 74)))) 6 (some (G.1 + (z0 + 85)))) 7 (some (G.1 + (z0 + 96)))) 8 (some (G.1 + (z0 + 107)))) 9 (some (G.1 + (z0 + 118)))) 10 (some (G.1 + (z0 + 129)))) 11 (some (G.1 + (z0 + 140))))))))) H := hn0
  replace ho := gC_k ho (hk _ (by omega))
  replace hn1 := gC_k hn1 (hk _ (by omega))
  replace hn2 := gC_k hn2 (hk _ (by omega))
  replace hn3 := C_X8_init_k hn3 (fun q h9 => hk _ (by omega))
  replace hn14 := C_X6_init_k hn14 (fun q h9 => hk _ (by omega))
  replace hn19 := C_X8_init_k hn19 (fun q h9 => hk _ (by omega))
  replace hn30 := C_X8_init_k hn30 (fun q h9 => hk _ (by omega))
  replace hn41 := C_X8_init_k hn41 (fun q h9 => hk _ (by omega))
  replace hn52 := C_X8_init_k hn52 (fun q h9 => hk _ (by omega))
  replace hn63 := C_X8_init_k hn63 (fun q h9 => hk _ (by omega))
  replace hn74 := C_X8_init_k hn74 (fun q h9 => hk _ (by omega))
  replace hn85 := C_X8_init_k hn85 (fun q h9 => hk _ (by omega))
  replace hn96 := C_X8_init_k hn96 (fun q h9 => hk _ (by omega))
  replace hn107 := C_X8_init_k hn107 (fun q h9 => hk _ (by omega))
  replace hn118 := C_X8_init_k hn118 (fun q h9 => hk _ (by omega))
  replace hn129 := C_X8_init_k hn129 (fun q h9 => hk _ (by omega))
  replace hn140 := C_X8_init_k hn140 (fun q h9 => hk _ (by omega))
  rw [← hz9] at hz; clear hz9 hk
  refine g_iinc X (a := 11) (lv' := [(2, .int (iI 12)), (0, .ref (G.1 + (p0))), (1, .ref (G.1 + (s1)))]) dX5_init_77 hl (k := 0) rfl (by decide) rfl ?_
  clear hl
  intro ls hl
  refine lv_goto (tgt := 56) X.1 X.2.1 dX5_init_80 (by decide) ?_
  refine lv_iload_n X.1 X.2.1 dX5_init_56 rfl (lv_at hl.1 0 rfl) ?_
  refine lv_bipush X.1 X.2.1 dX5_init_57 (v := iI 14) (by decide) ?_
  refine g_icmp_ge X (nmI_l (by decide)) (nmI_l (by decide)) (tgt := 83) dX5_init_59 (by decide) (fun hc => absurd (by decide) hc) (fun _ => ?_)
  refine lv_aload_n X.1 X.2.1 dX5_init_62 rfl (lv_at hl.1 1 rfl) ?_
  refine c_get X cX5 ho 0 (by decide) k_244 rfl (v := .ref (G.1 + (z0))) rfl dX5_init_63 ?_
  refine lv_iload_n X.1 X.2.1 dX5_init_66 rfl (lv_at hl.1 0 rfl) ?_
  refine c_new X cX8 k_96 k_98 k_34 hz hS (fs := [.int 0, .null, .null, .int 0, .int 0, .int 0, .int 0, .int 0, .int 0, .int 0, .int 0, .int 0, .int 0]) (fun j hj => by rcases (show j = 0 ∨ j = 1 ∨ j = 2 ∨ j = 3 ∨ j = 4 ∨ j = 5 ∨ j = 6 ∨ j = 7 ∨ j = 8 ∨ j = 9 ∨ j = 10 ∨ j = 11 ∨ j = 12 by omega) with rfl | rfl | rfl | rfl | rfl | rfl | rfl | rfl | rfl | rfl | rfl | rfl | rfl <;> rfl) (Nat.le_of_ble_eq_true rfl) (Nat.le_of_ble_eq_true rfl) dX5_init_67 ?_
  clear hS
  intro H hn151 hz9 hk hS
  replace ho := gC_k ho (hk _ (by omega))
  replace hn0 := gC_k hn0 (hk _ (by omega))
  replace hn1 := gC_k hn1 (hk _ (by omega))
  replace hn2 := gC_k hn2 (hk _ (by omega))
  replace hn3 := C_X8_init_k hn3 (fun q h9 => hk _ (by omega))
  replace hn14 := C_X6_init_k hn14 (fun q h9 => hk _ (by omega))
  replace hn19 := C_X8_init_k hn19 (fun q h9 => hk _ (by omega))
  replace hn30 := C_X8_init_k hn30 (fun q h9 => hk _ (by omega))
  replace hn41 := C_X8_init_k hn41 (fun q h9 => hk _ (by omega))
  replace hn52 := C_X8_init_k hn52 (fun q h9 => hk _ (by omega))
  replace hn63 := C_X8_init_k hn63 (fun q h9 => hk _ (by omega))
  replace hn74 := C_X8_init_k hn74 (fun q h9 => hk _ (by omega))
  replace hn85 := C_X8_init_k hn85 (fun q h9 => hk _ (by omega))
  replace hn96 := C_X8_init_k hn96 (fun q h9 => hk _ (by omega))
  replace hn107 := C_X8_init_k hn107 (fun q h9 => hk _ (by omega))
  replace hn118 := C_X8_init_k hn118 (fun q h9 => hk _ (by omega))
  replace hn129 := C_X8_init_k hn129 (fun q h9 => hk _ (by omega))
  replace hn140 := C_X8_init_k hn140 (fun q h9 => hk _ (by omega))
  replace hz : H.size = G.1 + (z0 + 152) := hz9.trans (by omega)
  clear hz9 hk
  refine lv_dup X.1 X.2.1 dX5_init_70 rfl ?_
  refine lv_iload_n X.1 X.2.1 dX5_init_71 rfl (lv_at hl.1 0 rfl) ?_
  refine lv_aload_n X.1 X.2.1 dX5_init_72 rfl (lv_at hl.1 2 rfl) ?_
  refine c_call X (As := [.int (iI 12), .ref (G.1 + (s1))]) (m_X8_init l G (z0 + 151) (z0 + 152) 12 (nmI_l (by decide)) s1 (by omega)) calX8_init k_100 k_99 rfl hn151 hz hS (fun q h => gCA_up (by omega) (by omega) h) ⟨by decide, by decide⟩ rfl hl rfl (Nat.le_of_ble_eq_true rfl) ⟨Nat.le_of_ble_eq_true rfl, Nat.le_of_ble_eq_true rfl⟩ dX5_init_73 ?_
  clear hS hn151
  intro H locs hn151 hz9 hk hS
  replace ho := gC_k ho (hk _ (by omega) (fun z => by rcases z with z | z <;> omega))
  replace hn0 := gC_k hn0 (hk _ (by omega) (fun z => by rcases z with z | z <;> omega))
  replace hn1 := gC_k hn1 (hk _ (by omega) (fun z => by rcases z with z | z <;> omega))
  replace hn2 := gC_k hn2 (hk _ (by omega) (fun z => by rcases z with z | z <;> omega))
  replace hn3 := C_X8_init_k hn3 (fun q h9 => hk _ (by omega) (fun z => by rcases z with z | z <;> omega))
  replace hn14 := C_X6_init_k hn14 (fun q h9 => hk _ (by omega) (fun z => by rcases z with z | z <;> omega))
  replace hn19 := C_X8_init_k hn19 (fun q h9 => hk _ (by omega) (fun z => by rcases z with z | z <;> omega))
  replace hn30 := C_X8_init_k hn30 (fun q h9 => hk _ (by omega) (fun z => by rcases z with z | z <;> omega))
  replace hn41 := C_X8_init_k hn41 (fun q h9 => hk _ (by omega) (fun z => by rcases z with z | z <;> omega))
  replace hn52 := C_X8_init_k hn52 (fun q h9 => hk _ (by omega) (fun z => by rcases z with z | z <;> omega))
  replace hn63 := C_X8_init_k hn63 (fun q h9 => hk _ (by omega) (fun z => by rcases z with z | z <;> omega))
  replace hn74 := C_X8_init_k hn74 (fun q h9 => hk _ (by omega) (fun z => by rcases z with z | z <;> omega))
  replace hn85 := C_X8_init_k hn85 (fun q h9 => hk _ (by omega) (fun z => by rcases z with z | z <;> omega))
  replace hn96 := C_X8_init_k hn96 (fun q h9 => hk _ (by omega) (fun z => by rcases z with z | z <;> omega))
  replace hn107 := C_X8_init_k hn107 (fun q h9 => hk _ (by omega) (fun z => by rcases z with z | z <;> omega))
  replace hn118 := C_X8_init_k hn118 (fun q h9 => hk _ (by omega) (fun z => by rcases z with z | z <;> omega))
  replace hn129 := C_X8_init_k hn129 (fun q h9 => hk _ (by omega) (fun z => by rcases z with z | z <;> omega))
  replace hn140 := C_X8_init_k hn140 (fun q h9 => hk _ (by omega) (fun z => by rcases z with z | z <;> omega))
  replace hz : H.size = G.1 + (z0 + 162) := hz9.trans (by omega)
  clear hz9 hk
  refine c_astq X hn0 (t0 := 4) rfl hn151.1 (r := (RX8, TX8, 13)) rfl (Or.inr (by show G.1 + z0 ≤ G.1 + (z0); omega)) hS (iI_in (n := 14) (nmI_l (by decide)) ⟨by decide, by decide⟩) dX5_init_76 ?_
  clear hS hn0
  intro H locs hn0 hz9 hk hS
  replace hn0 : gC G (z0) (.inl (G.2.2 4, 14, .inr (.inr (.inr (.inr (va_up (va_up (va_up (va_up (va_up (va_up (va_up (va_up (va_up (va_up (va_up (va_up (va_up (fun _ => none) 0 (some (G.1 + (z0 + 19)))) 1 (some (G.1 + (z0 + 30)))) 2 (some (G.1 + (z0 + 41)))) 3 (some (G.1 + (z0 + 52)))) 4 (some (G.1 + (z0 + 63)))) 5 (some (G.1 + (z0 + 74)))) 6 (some (G.1 + (z0 + 85)))) 7 (some (G.1 + (z0 + 96)))) 8 (some (G.1 + (z0 + 107)))) 9 (some (G.1 + (z0 + 118)))) 10 (some (G.1 + (z0 + 129)))) 11 (some (G.1 + (z0 + 140)))) 12 (some (G.1 + (z0 + 151))))))))) H := hn0
  replace ho := gC_k ho (hk _ (by omega))
  replace hn1 := gC_k hn1 (hk _ (by omega))
  replace hn2 := gC_k hn2 (hk _ (by omega))
  replace hn3 := C_X8_init_k hn3 (fun q h9 => hk _ (by omega))
  replace hn14 := C_X6_init_k hn14 (fun q h9 => hk _ (by omega))
  replace hn19 := C_X8_init_k hn19 (fun q h9 => hk _ (by omega))
  replace hn30 := C_X8_init_k hn30 (fun q h9 => hk _ (by omega))
  replace hn41 := C_X8_init_k hn41 (fun q h9 => hk _ (by omega))
  replace hn52 := C_X8_init_k hn52 (fun q h9 => hk _ (by omega))
  replace hn63 := C_X8_init_k hn63 (fun q h9 => hk _ (by omega))
  replace hn74 := C_X8_init_k hn74 (fun q h9 => hk _ (by omega))
  replace hn85 := C_X8_init_k hn85 (fun q h9 => hk _ (by omega))
  replace hn96 := C_X8_init_k hn96 (fun q h9 => hk _ (by omega))
  replace hn107 := C_X8_init_k hn107 (fun q h9 => hk _ (by omega))
  replace hn118 := C_X8_init_k hn118 (fun q h9 => hk _ (by omega))
  replace hn129 := C_X8_init_k hn129 (fun q h9 => hk _ (by omega))
  replace hn140 := C_X8_init_k hn140 (fun q h9 => hk _ (by omega))
  replace hn151 := C_X8_init_k hn151 (fun q h9 => hk _ (by omega))
  rw [← hz9] at hz; clear hz9 hk
  refine g_iinc X (a := 12) (lv' := [(2, .int (iI 13)), (0, .ref (G.1 + (p0))), (1, .ref (G.1 + (s1)))]) dX5_init_77 hl (k := 0) rfl (by decide) rfl ?_
  clear hl
  intro ls hl
  refine lv_goto (tgt := 56) X.1 X.2.1 dX5_init_80 (by decide) ?_
  refine lv_iload_n X.1 X.2.1 dX5_init_56 rfl (lv_at hl.1 0 rfl) ?_
  refine lv_bipush X.1 X.2.1 dX5_init_57 (v := iI 14) (by decide) ?_
  refine g_icmp_ge X (nmI_l (by decide)) (nmI_l (by decide)) (tgt := 83) dX5_init_59 (by decide) (fun hc => absurd (by decide) hc) (fun _ => ?_)
  refine lv_aload_n X.1 X.2.1 dX5_init_62 rfl (lv_at hl.1 1 rfl) ?_
  refine c_get X cX5 ho 0 (by decide) k_244 rfl (v := .ref (G.1 + (z0))) rfl dX5_init_63 ?_
  refine lv_iload_n X.1 X.2.1 dX5_init_66 rfl (lv_at hl.1 0 rfl) ?_
  refine c_new X cX8 k_96 k_98 k_34 hz hS (fs := [.int 0, .null, .null, .int 0, .int 0, .int 0, .int 0, .int 0, .int 0, .int 0, .int 0, .int 0, .int 0]) (fun j hj => by rcases (show j = 0 ∨ j = 1 ∨ j = 2 ∨ j = 3 ∨ j = 4 ∨ j = 5 ∨ j = 6 ∨ j = 7 ∨ j = 8 ∨ j = 9 ∨ j = 10 ∨ j = 11 ∨ j = 12 by omega) with rfl | rfl | rfl | rfl | rfl | rfl | rfl | rfl | rfl | rfl | rfl | rfl | rfl <;> rfl) (Nat.le_of_ble_eq_true rfl) (Nat.le_of_ble_eq_true rfl) dX5_init_67 ?_
  clear hS
  intro H hn162 hz9 hk hS
  replace ho := gC_k ho (hk _ (by omega))
  replace hn0 := gC_k hn0 (hk _ (by omega))
  replace hn1 := gC_k hn1 (hk _ (by omega))
  replace hn2 := gC_k hn2 (hk _ (by omega))
  replace hn3 := C_X8_init_k hn3 (fun q h9 => hk _ (by omega))
  replace hn14 := C_X6_init_k hn14 (fun q h9 => hk _ (by omega))
  replace hn19 := C_X8_init_k hn19 (fun q h9 => hk _ (by omega))
  replace hn30 := C_X8_init_k hn30 (fun q h9 => hk _ (by omega))
  replace hn41 := C_X8_init_k hn41 (fun q h9 => hk _ (by omega))
  replace hn52 := C_X8_init_k hn52 (fun q h9 => hk _ (by omega))
  replace hn63 := C_X8_init_k hn63 (fun q h9 => hk _ (by omega))
  replace hn74 := C_X8_init_k hn74 (fun q h9 => hk _ (by omega))
  replace hn85 := C_X8_init_k hn85 (fun q h9 => hk _ (by omega))
  replace hn96 := C_X8_init_k hn96 (fun q h9 => hk _ (by omega))
  replace hn107 := C_X8_init_k hn107 (fun q h9 => hk _ (by omega))
  replace hn118 := C_X8_init_k hn118 (fun q h9 => hk _ (by omega))
  replace hn129 := C_X8_init_k hn129 (fun q h9 => hk _ (by omega))
  replace hn140 := C_X8_init_k hn140 (fun q h9 => hk _ (by omega))
  replace hn151 := C_X8_init_k hn151 (fun q h9 => hk _ (by omega))
  replace hz : H.size = G.1 + (z0 + 163) := hz9.trans (by omega)
  clear hz9 hk
  refine lv_dup X.1 X.2.1 dX5_init_70 rfl ?_
  refine lv_iload_n X.1 X.2.1 dX5_init_71 rfl (lv_at hl.1 0 rfl) ?_
  refine lv_aload_n X.1 X.2.1 dX5_init_72 rfl (lv_at hl.1 2 rfl) ?_
  refine c_call X (As := [.int (iI 13), .ref (G.1 + (s1))]) (m_X8_init l G (z0 + 162) (z0 + 163) 13 (nmI_l (by decide)) s1 (by omega)) calX8_init k_100 k_99 rfl hn162 hz hS (fun q h => gCA_up (by omega) (by omega) h) ⟨by decide, by decide⟩ rfl hl rfl (Nat.le_of_ble_eq_true rfl) ⟨Nat.le_of_ble_eq_true rfl, Nat.le_of_ble_eq_true rfl⟩ dX5_init_73 ?_
  clear hS hn162
  intro H locs hn162 hz9 hk hS
  replace ho := gC_k ho (hk _ (by omega) (fun z => by rcases z with z | z <;> omega))
  replace hn0 := gC_k hn0 (hk _ (by omega) (fun z => by rcases z with z | z <;> omega))
  replace hn1 := gC_k hn1 (hk _ (by omega) (fun z => by rcases z with z | z <;> omega))
  replace hn2 := gC_k hn2 (hk _ (by omega) (fun z => by rcases z with z | z <;> omega))
  replace hn3 := C_X8_init_k hn3 (fun q h9 => hk _ (by omega) (fun z => by rcases z with z | z <;> omega))
  replace hn14 := C_X6_init_k hn14 (fun q h9 => hk _ (by omega) (fun z => by rcases z with z | z <;> omega))
  replace hn19 := C_X8_init_k hn19 (fun q h9 => hk _ (by omega) (fun z => by rcases z with z | z <;> omega))
  replace hn30 := C_X8_init_k hn30 (fun q h9 => hk _ (by omega) (fun z => by rcases z with z | z <;> omega))
  replace hn41 := C_X8_init_k hn41 (fun q h9 => hk _ (by omega) (fun z => by rcases z with z | z <;> omega))
  replace hn52 := C_X8_init_k hn52 (fun q h9 => hk _ (by omega) (fun z => by rcases z with z | z <;> omega))
  replace hn63 := C_X8_init_k hn63 (fun q h9 => hk _ (by omega) (fun z => by rcases z with z | z <;> omega))
  replace hn74 := C_X8_init_k hn74 (fun q h9 => hk _ (by omega) (fun z => by rcases z with z | z <;> omega))
  replace hn85 := C_X8_init_k hn85 (fun q h9 => hk _ (by omega) (fun z => by rcases z with z | z <;> omega))
  replace hn96 := C_X8_init_k hn96 (fun q h9 => hk _ (by omega) (fun z => by rcases z with z | z <;> omega))
  replace hn107 := C_X8_init_k hn107 (fun q h9 => hk _ (by omega) (fun z => by rcases z with z | z <;> omega))
  replace hn118 := C_X8_init_k hn118 (fun q h9 => hk _ (by omega) (fun z => by rcases z with z | z <;> omega))
  replace hn129 := C_X8_init_k hn129 (fun q h9 => hk _ (by omega) (fun z => by rcases z with z | z <;> omega))
  replace hn140 := C_X8_init_k hn140 (fun q h9 => hk _ (by omega) (fun z => by rcases z with z | z <;> omega))
  replace hn151 := C_X8_init_k hn151 (fun q h9 => hk _ (by omega) (fun z => by rcases z with z | z <;> omega))
  replace hz : H.size = G.1 + (z0 + 173) := hz9.trans (by omega)
  clear hz9 hk
  refine c_astq X hn0 (t0 := 4) rfl hn162.1 (r := (RX8, TX8, 13)) rfl (Or.inr (by show G.1 + z0 ≤ G.1 + (z0); omega)) hS (iI_in (n := 14) (nmI_l (by decide)) ⟨by decide, by decide⟩) dX5_init_76 ?_
  clear hS hn0
  intro H locs hn0 hz9 hk hS
  replace hn0 : gC G (z0) (.inl (G.2.2 4, 14, .inr (.inr (.inr (.inr (va_up (va_up (va_up (va_up (va_up (va_up (va_up (va_up (va_up (va_up (va_up (va_up (va_up (va_up (fun _ => none) 0 (some (G.1 + (z0 + 19)))) 1 (some (G.1 + (z0 + 30)))) 2 (some (G.1 + (z0 + 41)))) 3 (some (G.1 + (z0 + 52)))) 4 (some (G.1 + (z0 + 63)))) 5 (some (G.1 + (z0 + 74)))) 6 (some (G.1 + (z0 + 85)))) 7 (some (G.1 + (z0 + 96)))) 8 (some (G.1 + (z0 + 107)))) 9 (some (G.1 + (z0 + 118)))) 10 (some (G.1 + (z0 + 129)))) 11 (some (G.1 + (z0 + 140)))) 12 (some (G.1 + (z0 + 151)))) 13 (some (G.1 + (z0 + 162))))))))) H := hn0
  replace ho := gC_k ho (hk _ (by omega))
  replace hn1 := gC_k hn1 (hk _ (by omega))
  replace hn2 := gC_k hn2 (hk _ (by omega))
  replace hn3 := C_X8_init_k hn3 (fun q h9 => hk _ (by omega))
  replace hn14 := C_X6_init_k hn14 (fun q h9 => hk _ (by omega))
  replace hn19 := C_X8_init_k hn19 (fun q h9 => hk _ (by omega))
  replace hn30 := C_X8_init_k hn30 (fun q h9 => hk _ (by omega))
  replace hn41 := C_X8_init_k hn41 (fun q h9 => hk _ (by omega))
  replace hn52 := C_X8_init_k hn52 (fun q h9 => hk _ (by omega))
  replace hn63 := C_X8_init_k hn63 (fun q h9 => hk _ (by omega))
  replace hn74 := C_X8_init_k hn74 (fun q h9 => hk _ (by omega))
  replace hn85 := C_X8_init_k hn85 (fun q h9 => hk _ (by omega))
  replace hn96 := C_X8_init_k hn96 (fun q h9 => hk _ (by omega))
  replace hn107 := C_X8_init_k hn107 (fun q h9 => hk _ (by omega))
  replace hn118 := C_X8_init_k hn118 (fun q h9 => hk _ (by omega))
  replace hn129 := C_X8_init_k hn129 (fun q h9 => hk _ (by omega))
  replace hn140 := C_X8_init_k hn140 (fun q h9 => hk _ (by omega))
  replace hn151 := C_X8_init_k hn151 (fun q h9 => hk _ (by omega))
  replace hn162 := C_X8_init_k hn162 (fun q h9 => hk _ (by omega))
  rw [← hz9] at hz; clear hz9 hk
  refine g_iinc X (a := 13) (lv' := [(2, .int (iI 14)), (0, .ref (G.1 + (p0))), (1, .ref (G.1 + (s1)))]) dX5_init_77 hl (k := 0) rfl (by decide) rfl ?_
  clear hl
  intro ls hl
  refine lv_goto (tgt := 56) X.1 X.2.1 dX5_init_80 (by decide) ?_
  refine lv_iload_n X.1 X.2.1 dX5_init_56 rfl (lv_at hl.1 0 rfl) ?_
  refine lv_bipush X.1 X.2.1 dX5_init_57 (v := iI 14) (by decide) ?_
  refine g_icmp_ge X (nmI_l (by decide)) (nmI_l (by decide)) (tgt := 83) dX5_init_59 (by decide) (fun _ => ?_) (fun hc => absurd hc (by decide))
  exact c_vret X (Post := fun H => C_X5_init G p0 z0 s1 H) ⟨ho, (gC_q (fun j hj => by
    match j, hj with
    | 0, _ => rfl
    | 1, _ => rfl
    | 2, _ => rfl
    | 3, _ => rfl
    | 4, _ => rfl
    | 5, _ => rfl
    | 6, _ => rfl
    | 7, _ => rfl
    | 8, _ => rfl
    | 9, _ => rfl
    | 10, _ => rfl
    | 11, _ => rfl
    | 12, _ => rfl
    | 13, _ => rfl
    | j + 14, hj => exact absurd hj (by omega)) hn0), hn1, hn2, hn3, hn14, hn19, hn30, hn41, hn52, hn63, hn74, hn85, hn96, hn107, hn118, hn129, hn140, hn151, hn162⟩ hz hS ⟨Nat.le_of_ble_eq_true rfl, Nat.le_of_ble_eq_true rfl⟩ dX5_init_83
