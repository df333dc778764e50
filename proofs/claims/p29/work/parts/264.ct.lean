def C_X11_init (G : gG) (p0 z0 : Nat) (H : Heap) : Prop := gC G (p0) (.inr (11, [.ref (G.1 + (z0)), .ref (G.1 + (z0 + 6)), .ref (G.1 + (z0 + 180)), .ref (G.1 + (z0 + 222)), .ref (G.1 + (z0 + 231)), .int 0, .int 0])) H ∧ C_X7_init G (z0) (z0 + 1) H ∧ C_X5_init G (z0 + 6) (z0 + 7) ((z0 + 1) + 1) H ∧ C_X1_init G (z0 + 180) (z0 + 181) H ∧ C_X2_init G (z0 + 222) (z0 + 225) (z0 + 6) (z0 + 180) (z0 + 223) H ∧ C_X9_init G (z0 + 223) (z0 + 224) ((z0 + 1) + 2) ((z0 + 1)) H ∧ C_X4_init G (z0 + 231) (z0 + 232) (z0 + 6) z0 H
theorem C_X11_init_k {G : gG} {p0 z0 : Nat} {H H1 : Heap} (h : C_X11_init G p0 z0 H) (hk : ∀ q : Nat, (q = G.1 + p0 ∨ (G.1 + z0 ≤ q ∧ q < G.1 + (z0 + 235))) → H1[q]? = H[q]?) : C_X11_init G p0 z0 H1 := by
  obtain ⟨h0, h1, h2, h3, h4, h5, h6⟩ := h
  exact ⟨gC_k h0 (hk _ (by omega)), C_X7_init_k h1 (fun q h9 => hk q (by omega)), C_X5_init_k h2 (fun q h9 => hk q (by omega)), C_X1_init_k h3 (fun q h9 => hk q (by omega)), C_X2_init_k h4 (fun q h9 => hk q (by omega)), C_X9_init_k h5 (fun q h9 => hk q (by omega)), C_X4_init_k h6 (fun q h9 => hk q (by omega))⟩
set_option maxRecDepth 20000 in
set_option maxHeartbeats 4000000 in
theorem m_X11_init (l : Launch) (G : gG) (p0 z0 : Nat) (hpz : p0 < z0) : gCMet l yX11_init cX11_init 1 4 87 235 1654 G p0 z0 235 [.ref (G.1 + (p0))] (fun H => gC G p0 (.inr (11, [.null, .null, .null, .null, .null, .int 0, .int 0])) H) (fun H => C_X11_init G p0 z0 H) := by
  refine gOfC (by decide) (by show _ ≤ 1; exact Nat.le_of_ble_eq_true rfl) rfl rfl ?_
  intro p e s m below meth c X hini ho hz ls hl
  have hS : va_S (gCA G p0 z0) s.heap s.heap [] := va_S.rf
  generalize hargs : ([.ref (G.1 + (p0))] : List Value).toArray = args at X ⊢
  clear hargs
  replace hl : gLv ls 1 [(0, .ref (G.1 + (p0)))] := hl
  refine lv_aload_n X.1 X.2.1 dX11_init_0 rfl (lv_at hl.1 0 rfl) ?_
  refine c_obj X k_55 k_56 k_57 hl dX11_init_1 (by decide) (by decide) ?_
  refine lv_aload_n X.1 X.2.1 dX11_init_4 rfl (lv_at hl.1 0 rfl) ?_
  refine c_new X cX7 k_58 k_59 k_32 hz hS (fs := [.null, .null, .null, .null, .null, .int 0]) (fun j hj => by rcases (show j = 0 ∨ j = 1 ∨ j = 2 ∨ j = 3 ∨ j = 4 ∨ j = 5 by omega) with rfl | rfl | rfl | rfl | rfl | rfl <;> rfl) (Nat.le_of_ble_eq_true rfl) (Nat.le_of_ble_eq_true rfl) dX11_init_5 ?_
  clear hS
  intro H hn0 hz9 hk hS
  replace ho := gC_k ho (hk _ (by omega))
  replace hz : H.size = G.1 + (z0 + 1) := hz9.trans (by omega)
  clear hz9 hk
  refine lv_dup X.1 X.2.1 dX11_init_8 rfl ?_
  refine c_callN X (As := []) (m_X7_init l G (z0) (z0 + 1) (by omega)) calX7_init k_61 k_60 rfl hn0 hz hS (fun q h => gCA_up (by omega) (by omega) h) ⟨by decide, by decide⟩ rfl hl rfl (Nat.le_of_ble_eq_true rfl) ⟨Nat.le_of_ble_eq_true rfl, Nat.le_of_ble_eq_true rfl⟩ dX11_init_9 ?_
  clear hS hn0
  intro H locs hn0 hz9 hk hS
  replace ho := gC_k ho (hk _ (by omega) (fun z => by rcases z with z | z <;> omega))
  replace hz : H.size = G.1 + (z0 + 6) := hz9.trans (by omega)
  clear hz9 hk
  refine c_putF X hini cX11 ho (Or.inl rfl) hS 0 (by decide) k_441 rfl rfl rfl (tk := (.object "BuildGrid$Sources")) (by decide +kernel) (v := .ref (G.1 + (z0))) rfl rfl (Nat.le_of_ble_eq_true rfl) dX11_init_12 ?_
  clear hS ho
  intro H locs ho hz9 hk hS
  replace ho : gC G (p0) (.inr (11, [.ref (G.1 + (z0)), .null, .null, .null, .null, .int 0, .int 0])) H := ho
  replace hn0 := C_X7_init_k hn0 (fun q h9 => hk _ (by omega))
  rw [← hz9] at hz; clear hz9 hk
  refine lv_aload_n X.1 X.2.1 dX11_init_15 rfl (lv_at hl.1 0 rfl) ?_
  refine c_new X cX5 k_90 k_91 k_33 hz hS (fs := [.null, .null, .null, .null, .null, .int 0]) (fun j hj => by rcases (show j = 0 ∨ j = 1 ∨ j = 2 ∨ j = 3 ∨ j = 4 ∨ j = 5 by omega) with rfl | rfl | rfl | rfl | rfl | rfl <;> rfl) (Nat.le_of_ble_eq_true rfl) (Nat.le_of_ble_eq_true rfl) dX11_init_16 ?_
  clear hS
  intro H hn6 hz9 hk hS
  replace ho := gC_k ho (hk _ (by omega))
  replace hn0 := C_X7_init_k hn0 (fun q h9 => hk _ (by omega))
  replace hz : H.size = G.1 + (z0 + 7) := hz9.trans (by omega)
  clear hz9 hk
  refine lv_dup X.1 X.2.1 dX11_init_19 rfl ?_
  refine lv_aload_n X.1 X.2.1 dX11_init_20 rfl (lv_at hl.1 0 rfl) ?_
  refine c_get X cX11 ho 0 (by decide) k_441 rfl (v := .ref (G.1 + (z0))) rfl dX11_init_21 ?_
  refine c_get X cX7 hn0.1 1 (by decide) k_67 rfl (v := .ref (G.1 + ((z0 + 1) + 1))) rfl dX11_init_24 ?_
  refine c_call X (As := [.ref (G.1 + ((z0 + 1) + 1))]) (m_X5_init l G (z0 + 6) (z0 + 7) ((z0 + 1) + 1) (by omega)) calX5_init k_93 k_92 rfl hn6 hz hS (fun q h => gCA_up (by omega) (by omega) h) ⟨by decide, by decide⟩ rfl hl rfl (Nat.le_of_ble_eq_true rfl) ⟨Nat.le_of_ble_eq_true rfl, Nat.le_of_ble_eq_true rfl⟩ dX11_init_27 ?_
  clear hS hn6
  intro H locs hn6 hz9 hk hS
  replace ho := gC_k ho (hk _ (by omega) (fun z => by rcases z with z | z <;> omega))
  replace hn0 := C_X7_init_k hn0 (fun q h9 => hk _ (by omega) (fun z => by rcases z with z | z <;> omega))
  replace hz : H.size = G.1 + (z0 + 180) := hz9.trans (by omega)
  clear hz9 hk
  refine c_putF X hini cX11 ho (Or.inl rfl) hS 1 (by decide) k_442 rfl rfl rfl (tk := (.object "BuildGrid$Graph")) (by decide +kernel) (v := .ref (G.1 + (z0 + 6))) rfl rfl (Nat.le_of_ble_eq_true rfl) dX11_init_30 ?_
  clear hS ho
  intro H locs ho hz9 hk hS
  replace ho : gC G (p0) (.inr (11, [.ref (G.1 + (z0)), .ref (G.1 + (z0 + 6)), .null, .null, .null, .int 0, .int 0])) H := ho
  replace hn0 := C_X7_init_k hn0 (fun q h9 => hk _ (by omega))
  replace hn6 := C_X5_init_k hn6 (fun q h9 => hk _ (by omega))
  rw [← hz9] at hz; clear hz9 hk
  refine lv_aload_n X.1 X.2.1 dX11_init_33 rfl (lv_at hl.1 0 rfl) ?_
  refine c_new X cX1 k_267 k_268 k_37 hz hS (fs := [.null, .int 0, .int 0]) (fun j hj => by rcases (show j = 0 ∨ j = 1 ∨ j = 2 by omega) with rfl | rfl | rfl <;> rfl) (Nat.le_of_ble_eq_true rfl) (Nat.le_of_ble_eq_true rfl) dX11_init_34 ?_
  clear hS
  intro H hn180 hz9 hk hS
  replace ho := gC_k ho (hk _ (by omega))
  replace hn0 := C_X7_init_k hn0 (fun q h9 => hk _ (by omega))
  replace hn6 := C_X5_init_k hn6 (fun q h9 => hk _ (by omega))
  replace hz : H.size = G.1 + (z0 + 181) := hz9.trans (by omega)
  clear hz9 hk
  refine lv_dup X.1 X.2.1 dX11_init_37 rfl ?_
  refine c_call X (As := []) (m_X1_init l G (z0 + 180) (z0 + 181) (by omega)) calX1_init k_270 k_269 rfl hn180 hz hS (fun q h => gCA_up (by omega) (by omega) h) ⟨by decide, by decide⟩ rfl hl rfl (Nat.le_of_ble_eq_true rfl) ⟨Nat.le_of_ble_eq_true rfl, Nat.le_of_ble_eq_true rfl⟩ dX11_init_38 ?_
  clear hS hn180
  intro H locs hn180 hz9 hk hS
  replace ho := gC_k ho (hk _ (by omega) (fun z => by rcases z with z | z <;> omega))
  replace hn0 := C_X7_init_k hn0 (fun q h9 => hk _ (by omega) (fun z => by rcases z with z | z <;> omega))
  replace hn6 := C_X5_init_k hn6 (fun q h9 => hk _ (by omega) (fun z => by rcases z with z | z <;> omega))
  replace hz : H.size = G.1 + (z0 + 222) := hz9.trans (by omega)
  clear hz9 hk
  refine c_putF X hini cX11 ho (Or.inl rfl) hS 2 (by decide) k_443 rfl rfl rfl (tk := (.object "BuildGrid$Cache")) (by decide +kernel) (v := .ref (G.1 + (z0 + 180))) rfl rfl (Nat.le_of_ble_eq_true rfl) dX11_init_41 ?_
  clear hS ho
  intro H locs ho hz9 hk hS
  replace ho : gC G (p0) (.inr (11, [.ref (G.1 + (z0)), .ref (G.1 + (z0 + 6)), .ref (G.1 + (z0 + 180)), .null, .null, .int 0, .int 0])) H := ho
  replace hn0 := C_X7_init_k hn0 (fun q h9 => hk _ (by omega))
  replace hn6 := C_X5_init_k hn6 (fun q h9 => hk _ (by omega))
  replace hn180 := C_X1_init_k hn180 (fun q h9 => hk _ (by omega))
  rw [← hz9] at hz; clear hz9 hk
  refine lv_aload_n X.1 X.2.1 dX11_init_44 rfl (lv_at hl.1 0 rfl) ?_
  refine c_new X cX2 k_317 k_318 k_39 hz hS (fs := [.null, .null, .null, .null, .null, .null, .int 0, .int 0, .int 0, .int 0, .int 0]) (fun j hj => by rcases (show j = 0 ∨ j = 1 ∨ j = 2 ∨ j = 3 ∨ j = 4 ∨ j = 5 ∨ j = 6 ∨ j = 7 ∨ j = 8 ∨ j = 9 ∨ j = 10 by omega) with rfl | rfl | rfl | rfl | rfl | rfl | rfl | rfl | rfl | rfl | rfl <;> rfl) (Nat.le_of_ble_eq_true rfl) (Nat.le_of_ble_eq_true rfl) dX11_init_45 ?_
  clear hS
  intro H hn222 hz9 hk hS
  replace ho := gC_k ho (hk _ (by omega))
  replace hn0 := C_X7_init_k hn0 (fun q h9 => hk _ (by omega))
  replace hn6 := C_X5_init_k hn6 (fun q h9 => hk _ (by omega))
  replace hn180 := C_X1_init_k hn180 (fun q h9 => hk _ (by omega))
  replace hz : H.size = G.1 + (z0 + 223) := hz9.trans (by omega)
  clear hz9 hk
  refine lv_dup X.1 X.2.1 dX11_init_48 rfl ?_
  refine lv_aload_n X.1 X.2.1 dX11_init_49 rfl (lv_at hl.1 0 rfl) ?_
  refine c_get X cX11 ho 1 (by decide) k_442 rfl (v := .ref (G.1 + (z0 + 6))) rfl dX11_init_50 ?_
  refine lv_aload_n X.1 X.2.1 dX11_init_53 rfl (lv_at hl.1 0 rfl) ?_
  refine c_get X cX11 ho 2 (by decide) k_443 rfl (v := .ref (G.1 + (z0 + 180))) rfl dX11_init_54 ?_
  refine c_new X cX9 k_319 k_320 k_40 hz hS (fs := [.null, .null, .null]) (fun j hj => by rcases (show j = 0 ∨ j = 1 ∨ j = 2 by omega) with rfl | rfl | rfl <;> rfl) (Nat.le_of_ble_eq_true rfl) (Nat.le_of_ble_eq_true rfl) dX11_init_57 ?_
  clear hS
  intro H hn223 hz9 hk hS
  replace ho := gC_k ho (hk _ (by omega))
  replace hn0 := C_X7_init_k hn0 (fun q h9 => hk _ (by omega))
  replace hn6 := C_X5_init_k hn6 (fun q h9 => hk _ (by omega))
  replace hn180 := C_X1_init_k hn180 (fun q h9 => hk _ (by omega))
  replace hn222 := gC_k hn222 (hk _ (by omega))
  replace hz : H.size = G.1 + (z0 + 224) := hz9.trans (by omega)
  clear hz9 hk
  refine lv_dup X.1 X.2.1 dX11_init_60 rfl ?_
  refine lv_aload_n X.1 X.2.1 dX11_init_61 rfl (lv_at hl.1 0 rfl) ?_
  refine c_get X cX11 ho 0 (by decide) k_441 rfl (v := .ref (G.1 + (z0))) rfl dX11_init_62 ?_
  refine c_get X cX7 hn0.1 2 (by decide) k_70 rfl (v := .ref (G.1 + ((z0 + 1) + 2))) rfl dX11_init_65 ?_
  refine lv_aload_n X.1 X.2.1 dX11_init_68 rfl (lv_at hl.1 0 rfl) ?_
  refine c_get X cX11 ho 0 (by decide) k_441 rfl (v := .ref (G.1 + (z0))) rfl dX11_init_69 ?_
  refine c_get X cX7 hn0.1 0 (by decide) k_65 rfl (v := .ref (G.1 + ((z0 + 1)))) rfl dX11_init_72 ?_
  refine c_call X (As := [.ref (G.1 + ((z0 + 1) + 2)), .ref (G.1 + ((z0 + 1)))]) (m_X9_init l G (z0 + 223) (z0 + 224) ((z0 + 1) + 2) ((z0 + 1)) (by omega)) calX9_init k_322 k_321 rfl hn223 hz hS (fun q h => gCA_up (by omega) (by omega) h) ⟨by decide, by decide⟩ rfl hl rfl (Nat.le_of_ble_eq_true rfl) ⟨Nat.le_of_ble_eq_true rfl, Nat.le_of_ble_eq_true rfl⟩ dX11_init_75 ?_
  clear hS hn223
  intro H locs hn223 hz9 hk hS
  replace ho := gC_k ho (hk _ (by omega) (fun z => by rcases z with z | z <;> omega))
  replace hn0 := C_X7_init_k hn0 (fun q h9 => hk _ (by omega) (fun z => by rcases z with z | z <;> omega))
  replace hn6 := C_X5_init_k hn6 (fun q h9 => hk _ (by omega) (fun z => by rcases z with z | z <;> omega))
  replace hn180 := C_X1_init_k hn180 (fun q h9 => hk _ (by omega) (fun z => by rcases z with z | z <;> omega))
  replace hn222 := gC_k hn222 (hk _ (by omega) (fun z => by rcases z with z | z <;> omega))
  replace hz : H.size = G.1 + (z0 + 225) := hz9.trans (by omega)
  clear hz9 hk
  refine c_call X (As := [.ref (G.1 + (z0 + 6)), .ref (G.1 + (z0 + 180)), .ref (G.1 + (z0 + 223))]) (m_X2_init l G (z0 + 222) (z0 + 225) (z0 + 6) (z0 + 180) (z0 + 223) (by omega)) calX2_init k_339 k_338 rfl hn222 hz hS (fun q h => gCA_up (by omega) (by omega) h) ⟨by decide, by decide⟩ rfl hl rfl (Nat.le_of_ble_eq_true rfl) ⟨Nat.le_of_ble_eq_true rfl, Nat.le_of_ble_eq_true rfl⟩ dX11_init_78 ?_
  clear hS hn222
  intro H locs hn222 hz9 hk hS
  replace ho := gC_k ho (hk _ (by omega) (fun z => by rcases z with z | z <;> omega))
  replace hn0 := C_X7_init_k hn0 (fun q h9 => hk _ (by omega) (fun z => by rcases z with z | z <;> omega))
  replace hn6 := C_X5_init_k hn6 (fun q h9 => hk _ (by omega) (fun z => by rcases z with z | z <;> omega))
  replace hn180 := C_X1_init_k hn180 (fun q h9 => hk _ (by omega) (fun z => by rcases z with z | z <;> omega))
  replace hn223 := C_X9_init_k hn223 (fun q h9 => hk _ (by omega) (fun z => by rcases z with z | z <;> omega))
  replace hz : H.size = G.1 + (z0 + 231) := hz9.trans (by omega)
  clear hz9 hk
  refine c_putF X hini cX11 ho (Or.inl rfl) hS 3 (by decide) k_444 rfl rfl rfl (tk := (.object "BuildGrid$Course")) (by decide +kernel) (v := .ref (G.1 + (z0 + 222))) rfl rfl (Nat.le_of_ble_eq_true rfl) dX11_init_81 ?_
  clear hS ho
  intro H locs ho hz9 hk hS
  replace ho : gC G (p0) (.inr (11, [.ref (G.1 + (z0)), .ref (G.1 + (z0 + 6)), .ref (G.1 + (z0 + 180)), .ref (G.1 + (z0 + 222)), .null, .int 0, .int 0])) H := ho
  replace hn0 := C_X7_init_k hn0 (fun q h9 => hk _ (by omega))
  replace hn6 := C_X5_init_k hn6 (fun q h9 => hk _ (by omega))
  replace hn180 := C_X1_init_k hn180 (fun q h9 => hk _ (by omega))
  replace hn222 := C_X2_init_k hn222 (fun q h9 => hk _ (by omega))
  replace hn223 := C_X9_init_k hn223 (fun q h9 => hk _ (by omega))
  rw [← hz9] at hz; clear hz9 hk
  refine lv_aload_n X.1 X.2.1 dX11_init_84 rfl (lv_at hl.1 0 rfl) ?_
  refine c_new X cX4 k_420 k_421 k_42 hz hS (fs := [.null, .null, .null, .int 0]) (fun j hj => by rcases (show j = 0 ∨ j = 1 ∨ j = 2 ∨ j = 3 by omega) with rfl | rfl | rfl | rfl <;> rfl) (Nat.le_of_ble_eq_true rfl) (Nat.le_of_ble_eq_true rfl) dX11_init_85 ?_
  clear hS
  intro H hn231 hz9 hk hS
  replace ho := gC_k ho (hk _ (by omega))
  replace hn0 := C_X7_init_k hn0 (fun q h9 => hk _ (by omega))
  replace hn6 := C_X5_init_k hn6 (fun q h9 => hk _ (by omega))
  replace hn180 := C_X1_init_k hn180 (fun q h9 => hk _ (by omega))
  replace hn222 := C_X2_init_k hn222 (fun q h9 => hk _ (by omega))
  replace hn223 := C_X9_init_k hn223 (fun q h9 => hk _ (by omega))
  replace hz : H.size = G.1 + (z0 + 232) := hz9.trans (by omega)
  clear hz9 hk
  refine lv_dup X.1 X.2.1 dX11_init_88 rfl ?_
  refine lv_aload_n X.1 X.2.1 dX11_init_89 rfl (lv_at hl.1 0 rfl) ?_
  refine c_get X cX11 ho 1 (by decide) k_442 rfl (v := .ref (G.1 + (z0 + 6))) rfl dX11_init_90 ?_
  refine lv_aload_n X.1 X.2.1 dX11_init_93 rfl (lv_at hl.1 0 rfl) ?_
  refine c_get X cX11 ho 0 (by decide) k_441 rfl (v := .ref (G.1 + (z0))) rfl dX11_init_94 ?_
  refine c_call X (As := [.ref (G.1 + (z0 + 6)), .ref (G.1 + (z0))]) (m_X4_init l G (z0 + 231) (z0 + 232) (z0 + 6) z0 (by omega) (by omega)) calX4_init k_423 k_422 rfl ⟨hn231, hn0.1⟩ hz hS (fun q h => gCA_up (by omega) (by omega) h) ⟨by decide, by decide⟩ rfl hl rfl (Nat.le_of_ble_eq_true rfl) ⟨Nat.le_of_ble_eq_true rfl, Nat.le_of_ble_eq_true rfl⟩ dX11_init_97 ?_
  clear hS hn231
  intro H locs hn231 hz9 hk hS
  replace ho := gC_k ho (hk _ (by omega) (fun z => by rcases z with z | z <;> omega))
  replace hn0 := C_X7_init_k hn0 (fun q h9 => hk _ (by omega) (fun z => by rcases z with z | z <;> omega))
  replace hn6 := C_X5_init_k hn6 (fun q h9 => hk _ (by omega) (fun z => by rcases z with z | z <;> omega))
  replace hn180 := C_X1_init_k hn180 (fun q h9 => hk _ (by omega) (fun z => by rcases z with z | z <;> omega))
  replace hn222 := C_X2_init_k hn222 (fun q h9 => hk _ (by omega) (fun z => by rcases z with z | z <;> omega))
  replace hn223 := C_X9_init_k hn223 (fun q h9 => hk _ (by omega) (fun z => by rcases z with z | z <;> omega))
  replace hz : H.size = G.1 + (z0 + 235) := hz9.trans (by omega)
  clear hz9 hk
  refine c_putF X hini cX11 ho (Or.inl rfl) hS 4 (by decide) k_445 rfl rfl rfl (tk := (.object "BuildGrid$Fresh")) (by decide +kernel) (v := .ref (G.1 + (z0 + 231))) rfl rfl (Nat.le_of_ble_eq_true rfl) dX11_init_100 ?_
  clear hS ho
  intro H locs ho hz9 hk hS
  replace ho : gC G (p0) (.inr (11, [.ref (G.1 + (z0)), .ref (G.1 + (z0 + 6)), .ref (G.1 + (z0 + 180)), .ref (G.1 + (z0 + 222)), .ref (G.1 + (z0 + 231)), .int 0, .int 0])) H := ho
  replace hn0 := C_X7_init_k hn0 (fun q h9 => hk _ (by omega))
  replace hn6 := C_X5_init_k hn6 (fun q h9 => hk _ (by omega))
  replace hn180 := C_X1_init_k hn180 (fun q h9 => hk _ (by omega))
  replace hn222 := C_X2_init_k hn222 (fun q h9 => hk _ (by omega))
  replace hn223 := C_X9_init_k hn223 (fun q h9 => hk _ (by omega))
  replace hn231 := C_X4_init_k hn231 (fun q h9 => hk _ (by omega))
  rw [← hz9] at hz; clear hz9 hk
  exact c_vret X (Post := fun H => C_X11_init G p0 z0 H) ⟨ho, hn0, hn6, hn180, hn222, hn223, hn231⟩ hz hS ⟨Nat.le_of_ble_eq_true rfl, Nat.le_of_ble_eq_true rfl⟩ dX11_init_103
