def C_X12_init (G : gG) (p0 z0 : Nat) (H : Heap) : Prop := gC G (p0) (.inr (12, [.int 0, .ref (G.1 + (z0)), .ref (G.1 + (z0 + 1)), .ref (G.1 + (z0 + 2)), .int 0, .ref (G.1 + (z0 + 3)), .ref (G.1 + (z0 + 4)), .int 0, .ref (G.1 + (z0 + 5)), .ref (G.1 + (z0 + 6)), .ref (G.1 + (z0 + 7)), .ref (G.1 + (z0 + 8)), .ref (G.1 + (z0 + 9)), .ref (G.1 + (z0 + 10)), .ref (G.1 + (z0 + 11)), .ref (G.1 + (z0 + 12)), .ref (G.1 + (z0 + 13)), .ref (G.1 + (z0 + 14)), .ref (G.1 + (z0 + 15)), .int (iI 1), .int 0, .int 0, .ref (G.1 + (z0 + 16)), .ref (G.1 + (z0 + 17)), .ref (G.1 + (z0 + 18)), .ref (G.1 + (z0 + 19)), .ref (G.1 + (z0 + 20)), .ref (G.1 + (z0 + 21)), .ref (G.1 + (z0 + 22)), .ref (G.1 + (z0 + 23)), .ref (G.1 + (z0 + 24)), .ref (G.1 + (z0 + 25)), .ref (G.1 + (z0 + 26)), .ref (G.1 + (z0 + 27)), .ref (G.1 + (z0 + 28)), .ref (G.1 + (z0 + 29)), .int 0, .int 0, .ref (G.1 + (z0 + 30)), .ref (G.1 + (z0 + 31)), .ref (G.1 + (z0 + 32)), .ref (G.1 + (z0 + 33)), .ref (G.1 + (z0 + 34)), .int 0, .ref (G.1 + (z0 + 35)), .ref (G.1 + (z0 + 36)), .ref (G.1 + (z0 + 37)), .ref (G.1 + (z0 + 38)), .int 0, .int 0, .ref (G.1 + (z0 + 39)), .ref (G.1 + (z0 + 40)), .ref (G.1 + (z0 + 41)), .ref (G.1 + (z0 + 42)), .ref (G.1 + (z0 + 43)), .ref (G.1 + (z0 + 44))])) H ∧ gGr G (z0) 45 (eX12 G) [23, 24, 29, 37] H ∧ gC G (z0 + 23) (.inl (G.2.2 0, 4, .inl (upd (fun _ => 0) 0 (iI 1)))) H ∧ gC G (z0 + 24) (.inl (G.2.2 0, 4, .inl (upd (upd (upd (upd (fun _ => 0) 0 (iI (-1))) 1 (iI (-1))) 2 (iI (-1))) 3 (iI (-1))))) H ∧ gC G (z0 + 29) (.inl (G.2.2 0, 4, .inl (upd (upd (upd (upd (fun _ => 0) 0 (iI (-1))) 1 (iI (-1))) 2 (iI (-1))) 3 (iI (-1))))) H ∧ gC G (z0 + 37) (.inl (G.2.2 0, 14, .inl (upd (upd (upd (upd (upd (upd (upd (upd (upd (upd (upd (upd (upd (upd (fun _ => 0) 0 (iI (-1))) 1 (iI (-1))) 2 (iI (-1))) 3 (iI (-1))) 4 (iI (-1))) 5 (iI (-1))) 6 (iI (-1))) 7 (iI (-1))) 8 (iI (-1))) 9 (iI (-1))) 10 (iI (-1))) 11 (iI (-1))) 12 (iI (-1))) 13 (iI (-1))))) H
theorem C_X12_init_k {G : gG} {p0 z0 : Nat} {H H1 : Heap} (h : C_X12_init G p0 z0 H) (hk : ∀ q : Nat, (q = G.1 + p0 ∨ (G.1 + z0 ≤ q ∧ q < G.1 + (z0 + 45))) → H1[q]? = H[q]?) : C_X12_init G p0 z0 H1 := by
  obtain ⟨h0, h1, h2, h3, h4, h5⟩ := h
  exact ⟨gC_k h0 (hk _ (by omega)), gGr_k h1 (fun q h1 h2 h3 => hk q (by omega)), gC_k h2 (hk _ (by omega)), gC_k h3 (hk _ (by omega)), gC_k h4 (hk _ (by omega)), gC_k h5 (hk _ (by omega))⟩
set_option maxRecDepth 20000 in
set_option maxHeartbeats 4000000 in
theorem m_X12_init (l : Launch) (G : gG) (p0 z0 : Nat) (hpz : p0 < z0) : gCMet l yX12_init cX12_init 2 1 20 45 1228 G p0 z0 45 [.ref (G.1 + (p0))] (fun H => gC G p0 (.inr (12, [.int 0, .null, .null, .null, .int 0, .null, .null, .int 0, .null, .null, .null, .null, .null, .null, .null, .null, .null, .null, .null, .int 0, .int 0, .int 0, .null, .null, .null, .null, .null, .null, .null, .null, .null, .null, .null, .null, .null, .null, .int 0, .int 0, .null, .null, .null, .null, .null, .int 0, .null, .null, .null, .null, .int 0, .int 0, .null, .null, .null, .null, .null, .null])) H) (fun H => C_X12_init G p0 z0 H) := by
  refine gOfC (by decide) (by show _ ≤ 2; exact Nat.le_of_ble_eq_true rfl) rfl rfl ?_
  intro p e s m below meth c X hini ho hz ls hl
  have hS : va_S (gCA G p0 z0) s.heap s.heap [] := va_S.rf
  generalize hargs : ([.ref (G.1 + (p0))] : List Value).toArray = args at X ⊢
  clear hargs
  replace hl : gLv ls 2 [(0, .ref (G.1 + (p0)))] := hl
  have gr : gGr G z0 0 (eX12 G) [] s.heap := gGr_0
  refine lv_aload_n X.1 X.2.1 dX12_init_0 rfl (lv_at hl.1 0 rfl) ?_
  refine c_obj X k_1209 k_91 k_92 hl dX12_init_1 (by decide) (by decide) ?_
  refine lv_aload_n X.1 X.2.1 dX12_init_4 rfl (lv_at hl.1 0 rfl) ?_
  refine lv_bipush X.1 X.2.1 dX12_init_5 (v := iI 16) (by decide) ?_
  refine c_newa X (t0 := 0) k_124 rfl rfl (fun cA h1 h2 => gRA_eq h1 h2) hz hS (a0 := (16, .inl (fun _ => 0))) (fun _ => rfl) (by decide) (N' := 16) (by decide) (by decide) (Nat.le_of_ble_eq_true rfl) (Nat.le_of_ble_eq_true rfl) dX12_init_7 ?_
  clear hS
  intro H hn0 hz9 hk hS
  replace ho := gC_k ho (hk _ (by omega))
  replace gr := gGr_k gr (fun q h1 h2 h3 => hk q (by omega))
  replace hz : H.size = G.1 + (z0 + 1) := hz9.trans (by omega)
  clear hz9 hk
  replace gr := gGr_s (n := 0) gr hn0
  refine c_putF X hini cX12 ho (Or.inl rfl) hS 1 (by decide) k_1211 rfl rfl rfl (tk := (.array .int)) (by decide +kernel) (v := .ref (G.1 + (z0))) rfl rfl (Nat.le_of_ble_eq_true rfl) dX12_init_9 ?_
  clear hS ho
  intro H locs ho hz9 hk hS
  replace ho : gC G (p0) (.inr (12, [.int 0, .ref (G.1 + (z0)), .null, .null, .int 0, .null, .null, .int 0, .null, .null, .null, .null, .null, .null, .null, .null, .null, .null, .null, .int 0, .int 0, .int 0, .null, .null, .null, .null, .null, .null, .null, .null, .null, .null, .null, .null, .null, .null, .int 0, .int 0, .null, .null, .null, .null, .null, .int 0, .null, .null, .null, .null, .int 0, .int 0, .null, .null, .null, .null, .null, .null])) H := ho
  replace gr := gGr_k gr (fun q h1 h2 h3 => hk q (by omega))
  rw [← hz9] at hz; clear hz9 hk
  refine lv_aload_n X.1 X.2.1 dX12_init_12 rfl (lv_at hl.1 0 rfl) ?_
  refine lv_iconst X.1 X.2.1 dX12_init_13 (v := iI 4) rfl ?_
  refine c_newa X (t0 := 0) k_124 rfl rfl (fun cA h1 h2 => gRA_eq h1 h2) hz hS (a0 := (4, .inl (fun _ => 0))) (fun _ => rfl) (by decide) (N' := 4) (by decide) (by decide) (Nat.le_of_ble_eq_true rfl) (Nat.le_of_ble_eq_true rfl) dX12_init_14 ?_
  clear hS
  intro H hn1 hz9 hk hS
  replace ho := gC_k ho (hk _ (by omega))
  replace gr := gGr_k gr (fun q h1 h2 h3 => hk q (by omega))
  replace hz : H.size = G.1 + (z0 + 2) := hz9.trans (by omega)
  clear hz9 hk
  replace gr := gGr_s (n := 1) gr hn1
  refine c_putF X hini cX12 ho (Or.inl rfl) hS 2 (by decide) k_1212 rfl rfl rfl (tk := (.array .int)) (by decide +kernel) (v := .ref (G.1 + (z0 + 1))) rfl rfl (Nat.le_of_ble_eq_true rfl) dX12_init_16 ?_
  clear hS ho
  intro H locs ho hz9 hk hS
  replace ho : gC G (p0) (.inr (12, [.int 0, .ref (G.1 + (z0)), .ref (G.1 + (z0 + 1)), .null, .int 0, .null, .null, .int 0, .null, .null, .null, .null, .null, .null, .null, .null, .null, .null, .null, .int 0, .int 0, .int 0, .null, .null, .null, .null, .null, .null, .null, .null, .null, .null, .null, .null, .null, .null, .int 0, .int 0, .null, .null, .null, .null, .null, .int 0, .null, .null, .null, .null, .int 0, .int 0, .null, .null, .null, .null, .null, .null])) H := ho
  replace gr := gGr_k gr (fun q h1 h2 h3 => hk q (by omega))
  rw [← hz9] at hz; clear hz9 hk
  refine lv_aload_n X.1 X.2.1 dX12_init_19 rfl (lv_at hl.1 0 rfl) ?_
  refine lv_iconst X.1 X.2.1 dX12_init_20 (v := iI 4) rfl ?_
  refine c_newa X (t0 := 0) k_124 rfl rfl (fun cA h1 h2 => gRA_eq h1 h2) hz hS (a0 := (4, .inl (fun _ => 0))) (fun _ => rfl) (by decide) (N' := 4) (by decide) (by decide) (Nat.le_of_ble_eq_true rfl) (Nat.le_of_ble_eq_true rfl) dX12_init_21 ?_
  clear hS
  intro H hn2 hz9 hk hS
  replace ho := gC_k ho (hk _ (by omega))
  replace gr := gGr_k gr (fun q h1 h2 h3 => hk q (by omega))
  replace hz : H.size = G.1 + (z0 + 3) := hz9.trans (by omega)
  clear hz9 hk
  replace gr := gGr_s (n := 2) gr hn2
  refine c_putF X hini cX12 ho (Or.inl rfl) hS 3 (by decide) k_1213 rfl rfl rfl (tk := (.array .int)) (by decide +kernel) (v := .ref (G.1 + (z0 + 2))) rfl rfl (Nat.le_of_ble_eq_true rfl) dX12_init_23 ?_
  clear hS ho
  intro H locs ho hz9 hk hS
  replace ho : gC G (p0) (.inr (12, [.int 0, .ref (G.1 + (z0)), .ref (G.1 + (z0 + 1)), .ref (G.1 + (z0 + 2)), .int 0, .null, .null, .int 0, .null, .null, .null, .null, .null, .null, .null, .null, .null, .null, .null, .int 0, .int 0, .int 0, .null, .null, .null, .null, .null, .null, .null, .null, .null, .null, .null, .null, .null, .null, .int 0, .int 0, .null, .null, .null, .null, .null, .int 0, .null, .null, .null, .null, .int 0, .int 0, .null, .null, .null, .null, .null, .null])) H := ho
  replace gr := gGr_k gr (fun q h1 h2 h3 => hk q (by omega))
  rw [← hz9] at hz; clear hz9 hk
  refine lv_aload_n X.1 X.2.1 dX12_init_26 rfl (lv_at hl.1 0 rfl) ?_
  refine lv_bipush X.1 X.2.1 dX12_init_27 (v := iI 30) (by decide) ?_
  refine c_newa X (t0 := 0) k_124 rfl rfl (fun cA h1 h2 => gRA_eq h1 h2) hz hS (a0 := (30, .inl (fun _ => 0))) (fun _ => rfl) (by decide) (N' := 30) (by decide) (by decide) (Nat.le_of_ble_eq_true rfl) (Nat.le_of_ble_eq_true rfl) dX12_init_29 ?_
  clear hS
  intro H hn3 hz9 hk hS
  replace ho := gC_k ho (hk _ (by omega))
  replace gr := gGr_k gr (fun q h1 h2 h3 => hk q (by omega))
  replace hz : H.size = G.1 + (z0 + 4) := hz9.trans (by omega)
  clear hz9 hk
  replace gr := gGr_s (n := 3) gr hn3
  refine c_putF X hini cX12 ho (Or.inl rfl) hS 5 (by decide) k_1215 rfl rfl rfl (tk := (.array .int)) (by decide +kernel) (v := .ref (G.1 + (z0 + 3))) rfl rfl (Nat.le_of_ble_eq_true rfl) dX12_init_31 ?_
  clear hS ho
  intro H locs ho hz9 hk hS
  replace ho : gC G (p0) (.inr (12, [.int 0, .ref (G.1 + (z0)), .ref (G.1 + (z0 + 1)), .ref (G.1 + (z0 + 2)), .int 0, .ref (G.1 + (z0 + 3)), .null, .int 0, .null, .null, .null, .null, .null, .null, .null, .null, .null, .null, .null, .int 0, .int 0, .int 0, .null, .null, .null, .null, .null, .null, .null, .null, .null, .null, .null, .null, .null, .null, .int 0, .int 0, .null, .null, .null, .null, .null, .int 0, .null, .null, .null, .null, .int 0, .int 0, .null, .null, .null, .null, .null, .null])) H := ho
  replace gr := gGr_k gr (fun q h1 h2 h3 => hk q (by omega))
  rw [← hz9] at hz; clear hz9 hk
  refine lv_aload_n X.1 X.2.1 dX12_init_34 rfl (lv_at hl.1 0 rfl) ?_
  refine lv_bipush X.1 X.2.1 dX12_init_35 (v := iI 30) (by decide) ?_
  refine c_newa X (t0 := 0) k_124 rfl rfl (fun cA h1 h2 => gRA_eq h1 h2) hz hS (a0 := (30, .inl (fun _ => 0))) (fun _ => rfl) (by decide) (N' := 30) (by decide) (by decide) (Nat.le_of_ble_eq_true rfl) (Nat.le_of_ble_eq_true rfl) dX12_init_37 ?_
  clear hS
  intro H hn4 hz9 hk hS
  replace ho := gC_k ho (hk _ (by omega))
  replace gr := gGr_k gr (fun q h1 h2 h3 => hk q (by omega))
  replace hz : H.size = G.1 + (z0 + 5) := hz9.trans (by omega)
  clear hz9 hk
  replace gr := gGr_s (n := 4) gr hn4
  refine c_putF X hini cX12 ho (Or.inl rfl) hS 6 (by decide) k_1216 rfl rfl rfl (tk := (.array .int)) (by decide +kernel) (v := .ref (G.1 + (z0 + 4))) rfl rfl (Nat.le_of_ble_eq_true rfl) dX12_init_39 ?_
  clear hS ho
  intro H locs ho hz9 hk hS
  replace ho : gC G (p0) (.inr (12, [.int 0, .ref (G.1 + (z0)), .ref (G.1 + (z0 + 1)), .ref (G.1 + (z0 + 2)), .int 0, .ref (G.1 + (z0 + 3)), .ref (G.1 + (z0 + 4)), .int 0, .null, .null, .null, .null, .null, .null, .null, .null, .null, .null, .null, .int 0, .int 0, .int 0, .null, .null, .null, .null, .null, .null, .null, .null, .null, .null, .null, .null, .null, .null, .int 0, .int 0, .null, .null, .null, .null, .null, .int 0, .null, .null, .null, .null, .int 0, .int 0, .null, .null, .null, .null, .null, .null])) H := ho
  replace gr := gGr_k gr (fun q h1 h2 h3 => hk q (by omega))
  rw [← hz9] at hz; clear hz9 hk
  refine lv_aload_n X.1 X.2.1 dX12_init_42 rfl (lv_at hl.1 0 rfl) ?_
  refine lv_bipush X.1 X.2.1 dX12_init_43 (v := iI 14) (by decide) ?_
  refine c_newa X (t0 := 0) k_124 rfl rfl (fun cA h1 h2 => gRA_eq h1 h2) hz hS (a0 := (14, .inl (fun _ => 0))) (fun _ => rfl) (by decide) (N' := 14) (by decide) (by decide) (Nat.le_of_ble_eq_true rfl) (Nat.le_of_ble_eq_true rfl) dX12_init_45 ?_
  clear hS
  intro H hn5 hz9 hk hS
  replace ho := gC_k ho (hk _ (by omega))
  replace gr := gGr_k gr (fun q h1 h2 h3 => hk q (by omega))
  replace hz : H.size = G.1 + (z0 + 6) := hz9.trans (by omega)
  clear hz9 hk
  replace gr := gGr_s (n := 5) gr hn5
  refine c_putF X hini cX12 ho (Or.inl rfl) hS 8 (by decide) k_1218 rfl rfl rfl (tk := (.array .int)) (by decide +kernel) (v := .ref (G.1 + (z0 + 5))) rfl rfl (Nat.le_of_ble_eq_true rfl) dX12_init_47 ?_
  clear hS ho
  intro H locs ho hz9 hk hS
  replace ho : gC G (p0) (.inr (12, [.int 0, .ref (G.1 + (z0)), .ref (G.1 + (z0 + 1)), .ref (G.1 + (z0 + 2)), .int 0, .ref (G.1 + (z0 + 3)), .ref (G.1 + (z0 + 4)), .int 0, .ref (G.1 + (z0 + 5)), .null, .null, .null, .null, .null, .null, .null, .null, .null, .null, .int 0, .int 0, .int 0, .null, .null, .null, .null, .null, .null, .null, .null, .null, .null, .null, .null, .null, .null, .int 0, .int 0, .null, .null, .null, .null, .null, .int 0, .null, .null, .null, .null, .int 0, .int 0, .null, .null, .null, .null, .null, .null])) H := ho
  replace gr := gGr_k gr (fun q h1 h2 h3 => hk q (by omega))
  rw [← hz9] at hz; clear hz9 hk
  refine lv_aload_n X.1 X.2.1 dX12_init_50 rfl (lv_at hl.1 0 rfl) ?_
  refine lv_bipush X.1 X.2.1 dX12_init_51 (v := iI 14) (by decide) ?_
  refine c_newa X (t0 := 0) k_124 rfl rfl (fun cA h1 h2 => gRA_eq h1 h2) hz hS (a0 := (14, .inl (fun _ => 0))) (fun _ => rfl) (by decide) (N' := 14) (by decide) (by decide) (Nat.le_of_ble_eq_true rfl) (Nat.le_of_ble_eq_true rfl) dX12_init_53 ?_
  clear hS
  intro H hn6 hz9 hk hS
  replace ho := gC_k ho (hk _ (by omega))
  replace gr := gGr_k gr (fun q h1 h2 h3 => hk q (by omega))
  replace hz : H.size = G.1 + (z0 + 7) := hz9.trans (by omega)
  clear hz9 hk
  replace gr := gGr_s (n := 6) gr hn6
  refine c_putF X hini cX12 ho (Or.inl rfl) hS 9 (by decide) k_1219 rfl rfl rfl (tk := (.array .int)) (by decide +kernel) (v := .ref (G.1 + (z0 + 6))) rfl rfl (Nat.le_of_ble_eq_true rfl) dX12_init_55 ?_
  clear hS ho
  intro H locs ho hz9 hk hS
  replace ho : gC G (p0) (.inr (12, [.int 0, .ref (G.1 + (z0)), .ref (G.1 + (z0 + 1)), .ref (G.1 + (z0 + 2)), .int 0, .ref (G.1 + (z0 + 3)), .ref (G.1 + (z0 + 4)), .int 0, .ref (G.1 + (z0 + 5)), .ref (G.1 + (z0 + 6)), .null, .null, .null, .null, .null, .null, .null, .null, .null, .int 0, .int 0, .int 0, .null, .null, .null, .null, .null, .null, .null, .null, .null, .null, .null, .null, .null, .null, .int 0, .int 0, .null, .null, .null, .null, .null, .int 0, .null, .null, .null, .null, .int 0, .int 0, .null, .null, .null, .null, .null, .null])) H := ho
  replace gr := gGr_k gr (fun q h1 h2 h3 => hk q (by omega))
  rw [← hz9] at hz; clear hz9 hk
  refine lv_aload_n X.1 X.2.1 dX12_init_58 rfl (lv_at hl.1 0 rfl) ?_
  refine lv_bipush X.1 X.2.1 dX12_init_59 (v := iI 14) (by decide) ?_
  refine c_newa X (t0 := 0) k_124 rfl rfl (fun cA h1 h2 => gRA_eq h1 h2) hz hS (a0 := (14, .inl (fun _ => 0))) (fun _ => rfl) (by decide) (N' := 14) (by decide) (by decide) (Nat.le_of_ble_eq_true rfl) (Nat.le_of_ble_eq_true rfl) dX12_init_61 ?_
  clear hS
  intro H hn7 hz9 hk hS
  replace ho := gC_k ho (hk _ (by omega))
  replace gr := gGr_k gr (fun q h1 h2 h3 => hk q (by omega))
  replace hz : H.size = G.1 + (z0 + 8) := hz9.trans (by omega)
  clear hz9 hk
  replace gr := gGr_s (n := 7) gr hn7
  refine c_putF X hini cX12 ho (Or.inl rfl) hS 10 (by decide) k_1220 rfl rfl rfl (tk := (.array .int)) (by decide +kernel) (v := .ref (G.1 + (z0 + 7))) rfl rfl (Nat.le_of_ble_eq_true rfl) dX12_init_63 ?_
  clear hS ho
  intro H locs ho hz9 hk hS
  replace ho : gC G (p0) (.inr (12, [.int 0, .ref (G.1 + (z0)), .ref (G.1 + (z0 + 1)), .ref (G.1 + (z0 + 2)), .int 0, .ref (G.1 + (z0 + 3)), .ref (G.1 + (z0 + 4)), .int 0, .ref (G.1 + (z0 + 5)), .ref (G.1 + (z0 + 6)), .ref (G.1 + (z0 + 7)), .null, .null, .null, .null, .null, .null, .null, .null, .int 0, .int 0, .int 0, .null, .null, .null, .null, .null, .null, .null, .null, .null, .null, .null, .null, .null, .null, .int 0, .int 0, .null, .null, .null, .null, .null, .int 0, .null, .null, .null, .null, .int 0, .int 0, .null, .null, .null, .null, .null, .null])) H := ho
  replace gr := gGr_k gr (fun q h1 h2 h3 => hk q (by omega))
  rw [← hz9] at hz; clear hz9 hk
  refine lv_aload_n X.1 X.2.1 dX12_init_66 rfl (lv_at hl.1 0 rfl) ?_
  refine lv_bipush X.1 X.2.1 dX12_init_67 (v := iI 14) (by decide) ?_
  refine c_newa X (t0 := 0) k_124 rfl rfl (fun cA h1 h2 => gRA_eq h1 h2) hz hS (a0 := (14, .inl (fun _ => 0))) (fun _ => rfl) (by decide) (N' := 14) (by decide) (by decide) (Nat.le_of_ble_eq_true rfl) (Nat.le_of_ble_eq_true rfl) dX12_init_69 ?_
  clear hS
  intro H hn8 hz9 hk hS
  replace ho := gC_k ho (hk _ (by omega))
  replace gr := gGr_k gr (fun q h1 h2 h3 => hk q (by omega))
  replace hz : H.size = G.1 + (z0 + 9) := hz9.trans (by omega)
  clear hz9 hk
  replace gr := gGr_s (n := 8) gr hn8
  refine c_putF X hini cX12 ho (Or.inl rfl) hS 11 (by decide) k_1221 rfl rfl rfl (tk := (.array .int)) (by decide +kernel) (v := .ref (G.1 + (z0 + 8))) rfl rfl (Nat.le_of_ble_eq_true rfl) dX12_init_71 ?_
  clear hS ho
  intro H locs ho hz9 hk hS
  replace ho : gC G (p0) (.inr (12, [.int 0, .ref (G.1 + (z0)), .ref (G.1 + (z0 + 1)), .ref (G.1 + (z0 + 2)), .int 0, .ref (G.1 + (z0 + 3)), .ref (G.1 + (z0 + 4)), .int 0, .ref (G.1 + (z0 + 5)), .ref (G.1 + (z0 + 6)), .ref (G.1 + (z0 + 7)), .ref (G.1 + (z0 + 8)), .null, .null, .null, .null, .null, .null, .null, .int 0, .int 0, .int 0, .null, .null, .null, .null, .null, .null, .null, .null, .null, .null, .null, .null, .null, .null, .int 0, .int 0, .null, .null, .null, .null, .null, .int 0, .null, .null, .null, .null, .int 0, .int 0, .null, .null, .null, .null, .null, .null])) H := ho
  replace gr := gGr_k gr (fun q h1 h2 h3 => hk q (by omega))
  rw [← hz9] at hz; clear hz9 hk
  refine lv_aload_n X.1 X.2.1 dX12_init_74 rfl (lv_at hl.1 0 rfl) ?_
  refine lv_bipush X.1 X.2.1 dX12_init_75 (v := iI 14) (by decide) ?_
  refine c_newa X (t0 := 0) k_124 rfl rfl (fun cA h1 h2 => gRA_eq h1 h2) hz hS (a0 := (14, .inl (fun _ => 0))) (fun _ => rfl) (by decide) (N' := 14) (by decide) (by decide) (Nat.le_of_ble_eq_true rfl) (Nat.le_of_ble_eq_true rfl) dX12_init_77 ?_
  clear hS
  intro H hn9 hz9 hk hS
  replace ho := gC_k ho (hk _ (by omega))
  replace gr := gGr_k gr (fun q h1 h2 h3 => hk q (by omega))
  replace hz : H.size = G.1 + (z0 + 10) := hz9.trans (by omega)
  clear hz9 hk
  replace gr := gGr_s (n := 9) gr hn9
  refine c_putF X hini cX12 ho (Or.inl rfl) hS 12 (by decide) k_1222 rfl rfl rfl (tk := (.array .int)) (by decide +kernel) (v := .ref (G.1 + (z0 + 9))) rfl rfl (Nat.le_of_ble_eq_true rfl) dX12_init_79 ?_
  clear hS ho
  intro H locs ho hz9 hk hS
  replace ho : gC G (p0) (.inr (12, [.int 0, .ref (G.1 + (z0)), .ref (G.1 + (z0 + 1)), .ref (G.1 + (z0 + 2)), .int 0, .ref (G.1 + (z0 + 3)), .ref (G.1 + (z0 + 4)), .int 0, .ref (G.1 + (z0 + 5)), .ref (G.1 + (z0 + 6)), .ref (G.1 + (z0 + 7)), .ref (G.1 + (z0 + 8)), .ref (G.1 + (z0 + 9)), .null, .null, .null, .null, .null, .null, .int 0, .int 0, .int 0, .null, .null, .null, .null, .null, .null, .null, .null, .null, .null, .null, .null, .null, .null, .int 0, .int 0, .null, .null, .null, .null, .null, .int 0, .null, .null, .null, .null, .int 0, .int 0, .null, .null, .null, .null, .null, .null])) H := ho
  replace gr := gGr_k gr (fun q h1 h2 h3 => hk q (by omega))
  rw [← hz9] at hz; clear hz9 hk
  refine lv_aload_n X.1 X.2.1 dX12_init_82 rfl (lv_at hl.1 0 rfl) ?_
  refine lv_bipush X.1 X.2.1 dX12_init_83 (v := iI 14) (by decide) ?_
  refine c_newa X (t0 := 0) k_124 rfl rfl (fun cA h1 h2 => gRA_eq h1 h2) hz hS (a0 := (14, .inl (fun _ => 0))) (fun _ => rfl) (by decide) (N' := 14) (by decide) (by decide) (Nat.le_of_ble_eq_true rfl) (Nat.le_of_ble_eq_true rfl) dX12_init_85 ?_
  clear hS
  intro H hn10 hz9 hk hS
  replace ho := gC_k ho (hk _ (by omega))
  replace gr := gGr_k gr (fun q h1 h2 h3 => hk q (by omega))
  replace hz : H.size = G.1 + (z0 + 11) := hz9.trans (by omega)
  clear hz9 hk
  replace gr := gGr_s (n := 10) gr hn10
  refine c_putF X hini cX12 ho (Or.inl rfl) hS 13 (by decide) k_1223 rfl rfl rfl (tk := (.array .int)) (by decide +kernel) (v := .ref (G.1 + (z0 + 10))) rfl rfl (Nat.le_of_ble_eq_true rfl) dX12_init_87 ?_
  clear hS ho
  intro H locs ho hz9 hk hS
  replace ho : gC G (p0) (.inr (12, [.int 0, .ref (G.1 + (z0)), .ref (G.1 + (z0 + 1)), .ref (G.1 + (z0 + 2)), .int 0, .ref (G.1 + (z0 + 3)), .ref (G.1 + (z0 + 4)), .int 0, .ref (G.1 + (z0 + 5)), .ref (G.1 + (z0 + 6)), .ref (G.1 + (z0 + 7)), .ref (G.1 + (z0 + 8)), .ref (G.1 + (z0 + 9)), .ref (G.1 + (z0 + 10)), .null, .null, .null, .null, .null, .int 0, .int 0, .int 0, .null, .null, .null, .null, .null, .null, .null, .null, .null, .null, .null, .null, .null, .null, .int 0, .int 0, .null, .null, .null, .null, .null, .int 0, .null, .null, .null, .null, .int 0, .int 0, .null, .null, .null, .null, .null, .null])) H := ho
  replace gr := gGr_k gr (fun q h1 h2 h3 => hk q (by omega))
  rw [← hz9] at hz; clear hz9 hk
  refine lv_aload_n X.1 X.2.1 dX12_init_90 rfl (lv_at hl.1 0 rfl) ?_
  refine lv_bipush X.1 X.2.1 dX12_init_91 (v := iI 15) (by decide) ?_
  refine c_newa X (t0 := 0) k_124 rfl rfl (fun cA h1 h2 => gRA_eq h1 h2) hz hS (a0 := (15, .inl (fun _ => 0))) (fun _ => rfl) (by decide) (N' := 15) (by decide) (by decide) (Nat.le_of_ble_eq_true rfl) (Nat.le_of_ble_eq_true rfl) dX12_init_93 ?_
  clear hS
  intro H hn11 hz9 hk hS
  replace ho := gC_k ho (hk _ (by omega))
  replace gr := gGr_k gr (fun q h1 h2 h3 => hk q (by omega))
  replace hz : H.size = G.1 + (z0 + 12) := hz9.trans (by omega)
  clear hz9 hk
  replace gr := gGr_s (n := 11) gr hn11
  refine c_putF X hini cX12 ho (Or.inl rfl) hS 14 (by decide) k_1224 rfl rfl rfl (tk := (.array .int)) (by decide +kernel) (v := .ref (G.1 + (z0 + 11))) rfl rfl (Nat.le_of_ble_eq_true rfl) dX12_init_95 ?_
  clear hS ho
  intro H locs ho hz9 hk hS
  replace ho : gC G (p0) (.inr (12, [.int 0, .ref (G.1 + (z0)), .ref (G.1 + (z0 + 1)), .ref (G.1 + (z0 + 2)), .int 0, .ref (G.1 + (z0 + 3)), .ref (G.1 + (z0 + 4)), .int 0, .ref (G.1 + (z0 + 5)), .ref (G.1 + (z0 + 6)), .ref (G.1 + (z0 + 7)), .ref (G.1 + (z0 + 8)), .ref (G.1 + (z0 + 9)), .ref (G.1 + (z0 + 10)), .ref (G.1 + (z0 + 11)), .null, .null, .null, .null, .int 0, .int 0, .int 0, .null, .null, .null, .null, .null, .null, .null, .null, .null, .null, .null, .null, .null, .null, .int 0, .int 0, .null, .null, .null, .null, .null, .int 0, .null, .null, .null, .null, .int 0, .int 0, .null, .null, .null, .null, .null, .null])) H := ho
  replace gr := gGr_k gr (fun q h1 h2 h3 => hk q (by omega))
  rw [← hz9] at hz; clear hz9 hk
  refine lv_aload_n X.1 X.2.1 dX12_init_98 rfl (lv_at hl.1 0 rfl) ?_
  refine lv_bipush X.1 X.2.1 dX12_init_99 (v := iI 60) (by decide) ?_
  refine c_newa X (t0 := 0) k_124 rfl rfl (fun cA h1 h2 => gRA_eq h1 h2) hz hS (a0 := (60, .inl (fun _ => 0))) (fun _ => rfl) (by decide) (N' := 60) (by decide) (by decide) (Nat.le_of_ble_eq_true rfl) (Nat.le_of_ble_eq_true rfl) dX12_init_101 ?_
  clear hS
  intro H hn12 hz9 hk hS
  replace ho := gC_k ho (hk _ (by omega))
  replace gr := gGr_k gr (fun q h1 h2 h3 => hk q (by omega))
  replace hz : H.size = G.1 + (z0 + 13) := hz9.trans (by omega)
  clear hz9 hk
  replace gr := gGr_s (n := 12) gr hn12
  refine c_putF X hini cX12 ho (Or.inl rfl) hS 15 (by decide) k_1225 rfl rfl rfl (tk := (.array .int)) (by decide +kernel) (v := .ref (G.1 + (z0 + 12))) rfl rfl (Nat.le_of_ble_eq_true rfl) dX12_init_103 ?_
  clear hS ho
  intro H locs ho hz9 hk hS
  replace ho : gC G (p0) (.inr (12, [.int 0, .ref (G.1 + (z0)), .ref (G.1 + (z0 + 1)), .ref (G.1 + (z0 + 2)), .int 0, .ref (G.1 + (z0 + 3)), .ref (G.1 + (z0 + 4)), .int 0, .ref (G.1 + (z0 + 5)), .ref (G.1 + (z0 + 6)), .ref (G.1 + (z0 + 7)), .ref (G.1 + (z0 + 8)), .ref (G.1 + (z0 + 9)), .ref (G.1 + (z0 + 10)), .ref (G.1 + (z0 + 11)), .ref (G.1 + (z0 + 12)), .null, .null, .null, .int 0, .int 0, .int 0, .null, .null, .null, .null, .null, .null, .null, .null, .null, .null, .null, .null, .null, .null, .int 0, .int 0, .null, .null, .null, .null, .null, .int 0, .null, .null, .null, .null, .int 0, .int 0, .null, .null, .null, .null, .null, .null])) H := ho
  replace gr := gGr_k gr (fun q h1 h2 h3 => hk q (by omega))
  rw [← hz9] at hz; clear hz9 hk
  refine lv_aload_n X.1 X.2.1 dX12_init_106 rfl (lv_at hl.1 0 rfl) ?_
  refine lv_bipush X.1 X.2.1 dX12_init_107 (v := iI 60) (by decide) ?_
  refine c_newa X (t0 := 0) k_124 rfl rfl (fun cA h1 h2 => gRA_eq h1 h2) hz hS (a0 := (60, .inl (fun _ => 0))) (fun _ => rfl) (by decide) (N' := 60) (by decide) (by decide) (Nat.le_of_ble_eq_true rfl) (Nat.le_of_ble_eq_true rfl) dX12_init_109 ?_
  clear hS
  intro H hn13 hz9 hk hS
  replace ho := gC_k ho (hk _ (by omega))
  replace gr := gGr_k gr (fun q h1 h2 h3 => hk q (by omega))
  replace hz : H.size = G.1 + (z0 + 14) := hz9.trans (by omega)
  clear hz9 hk
  replace gr := gGr_s (n := 13) gr hn13
  refine c_putF X hini cX12 ho (Or.inl rfl) hS 16 (by decide) k_1226 rfl rfl rfl (tk := (.array .int)) (by decide +kernel) (v := .ref (G.1 + (z0 + 13))) rfl rfl (Nat.le_of_ble_eq_true rfl) dX12_init_111 ?_
  clear hS ho
  intro H locs ho hz9 hk hS
  replace ho : gC G (p0) (.inr (12, [.int 0, .ref (G.1 + (z0)), .ref (G.1 + (z0 + 1)), .ref (G.1 + (z0 + 2)), .int 0, .ref (G.1 + (z0 + 3)), .ref (G.1 + (z0 + 4)), .int 0, .ref (G.1 + (z0 + 5)), .ref (G.1 + (z0 + 6)), .ref (G.1 + (z0 + 7)), .ref (G.1 + (z0 + 8)), .ref (G.1 + (z0 + 9)), .ref (G.1 + (z0 + 10)), .ref (G.1 + (z0 + 11)), .ref (G.1 + (z0 + 12)), .ref (G.1 + (z0 + 13)), .null, .null, .int 0, .int 0, .int 0, .null, .null, .null, .null, .null, .null, .null, .null, .null, .null, .null, .null, .null, .null, .int 0, .int 0, .null, .null, .null, .null, .null, .int 0, .null, .null, .null, .null, .int 0, .int 0, .null, .null, .null, .null, .null, .null])) H := ho
  replace gr := gGr_k gr (fun q h1 h2 h3 => hk q (by omega))
  rw [← hz9] at hz; clear hz9 hk
  refine lv_aload_n X.1 X.2.1 dX12_init_114 rfl (lv_at hl.1 0 rfl) ?_
  refine lv_bipush X.1 X.2.1 dX12_init_115 (v := iI 60) (by decide) ?_
  refine c_newa X (t0 := 0) k_124 rfl rfl (fun cA h1 h2 => gRA_eq h1 h2) hz hS (a0 := (60, .inl (fun _ => 0))) (fun _ => rfl) (by decide) (N' := 60) (by decide) (by decide) (Nat.le_of_ble_eq_true rfl) (Nat.le_of_ble_eq_true rfl) dX12_init_117 ?_
  clear hS
  intro H hn14 hz9 hk hS
  replace ho := gC_k ho (hk _ (by omega))
  replace gr := gGr_k gr (fun q h1 h2 h3 => hk q (by omega))
  replace hz : H.size = G.1 + (z0 + 15) := hz9.trans (by omega)
  clear hz9 hk
  replace gr := gGr_s (n := 14) gr hn14
  refine c_putF X hini cX12 ho (Or.inl rfl) hS 17 (by decide) k_1227 rfl rfl rfl (tk := (.array .int)) (by decide +kernel) (v := .ref (G.1 + (z0 + 14))) rfl rfl (Nat.le_of_ble_eq_true rfl) dX12_init_119 ?_
  clear hS ho
  intro H locs ho hz9 hk hS
  replace ho : gC G (p0) (.inr (12, [.int 0, .ref (G.1 + (z0)), .ref (G.1 + (z0 + 1)), .ref (G.1 + (z0 + 2)), .int 0, .ref (G.1 + (z0 + 3)), .ref (G.1 + (z0 + 4)), .int 0, .ref (G.1 + (z0 + 5)), .ref (G.1 + (z0 + 6)), .ref (G.1 + (z0 + 7)), .ref (G.1 + (z0 + 8)), .ref (G.1 + (z0 + 9)), .ref (G.1 + (z0 + 10)), .ref (G.1 + (z0 + 11)), .ref (G.1 + (z0 + 12)), .ref (G.1 + (z0 + 13)), .ref (G.1 + (z0 + 14)), .null, .int 0, .int 0, .int 0, .null, .null, .null, .null, .null, .null, .null, .null, .null, .null, .null, .null, .null, .null, .int 0, .int 0, .null, .null, .null, .null, .null, .int 0, .null, .null, .null, .null, .int 0, .int 0, .null, .null, .null, .null, .null, .null])) H := ho
  replace gr := gGr_k gr (fun q h1 h2 h3 => hk q (by omega))
  rw [← hz9] at hz; clear hz9 hk
  refine lv_aload_n X.1 X.2.1 dX12_init_122 rfl (lv_at hl.1 0 rfl) ?_
  refine lv_bipush X.1 X.2.1 dX12_init_123 (v := iI 60) (by decide) ?_
  refine c_newa X (t0 := 0) k_124 rfl rfl (fun cA h1 h2 => gRA_eq h1 h2) hz hS (a0 := (60, .inl (fun _ => 0))) (fun _ => rfl) (by decide) (N' := 60) (by decide) (by decide) (Nat.le_of_ble_eq_true rfl) (Nat.le_of_ble_eq_true rfl) dX12_init_125 ?_
  clear hS
  intro H hn15 hz9 hk hS
  replace ho := gC_k ho (hk _ (by omega))
  replace gr := gGr_k gr (fun q h1 h2 h3 => hk q (by omega))
  replace hz : H.size = G.1 + (z0 + 16) := hz9.trans (by omega)
  clear hz9 hk
  replace gr := gGr_s (n := 15) gr hn15
  refine c_putF X hini cX12 ho (Or.inl rfl) hS 18 (by decide) k_1228 rfl rfl rfl (tk := (.array .int)) (by decide +kernel) (v := .ref (G.1 + (z0 + 15))) rfl rfl (Nat.le_of_ble_eq_true rfl) dX12_init_127 ?_
  clear hS ho
  intro H locs ho hz9 hk hS
  replace ho : gC G (p0) (.inr (12, [.int 0, .ref (G.1 + (z0)), .ref (G.1 + (z0 + 1)), .ref (G.1 + (z0 + 2)), .int 0, .ref (G.1 + (z0 + 3)), .ref (G.1 + (z0 + 4)), .int 0, .ref (G.1 + (z0 + 5)), .ref (G.1 + (z0 + 6)), .ref (G.1 + (z0 + 7)), .ref (G.1 + (z0 + 8)), .ref (G.1 + (z0 + 9)), .ref (G.1 + (z0 + 10)), .ref (G.1 + (z0 + 11)), .ref (G.1 + (z0 + 12)), .ref (G.1 + (z0 + 13)), .ref (G.1 + (z0 + 14)), .ref (G.1 + (z0 + 15)), .int 0, .int 0, .int 0, .null, .null, .null, .null, .null, .null, .null, .null, .null, .null, .null, .null, .null, .null, .int 0, .int 0, .null, .null, .null, .null, .null, .int 0, .null, .null, .null, .null, .int 0, .int 0, .null, .null, .null, .null, .null, .null])) H := ho
  replace gr := gGr_k gr (fun q h1 h2 h3 => hk q (by omega))
  rw [← hz9] at hz; clear hz9 hk
  refine lv_aload_n X.1 X.2.1 dX12_init_130 rfl (lv_at hl.1 0 rfl) ?_
  refine lv_iconst X.1 X.2.1 dX12_init_131 (v := iI 1) rfl ?_
  refine c_put X cX12 ho (Or.inl rfl) hS 19 (by decide) k_1229 rfl rfl (tk := .boolean) (by decide +kernel) (v := .int (iI 1)) rfl rfl (Nat.le_of_ble_eq_true rfl) dX12_init_132 ?_
  clear hS ho
  intro H locs ho hz9 hk hS
  replace ho : gC G (p0) (.inr (12, [.int 0, .ref (G.1 + (z0)), .ref (G.1 + (z0 + 1)), .ref (G.1 + (z0 + 2)), .int 0, .ref (G.1 + (z0 + 3)), .ref (G.1 + (z0 + 4)), .int 0, .ref (G.1 + (z0 + 5)), .ref (G.1 + (z0 + 6)), .ref (G.1 + (z0 + 7)), .ref (G.1 + (z0 + 8)), .ref (G.1 + (z0 + 9)), .ref (G.1 + (z0 + 10)), .ref (G.1 + (z0 + 11)), .ref (G.1 + (z0 + 12)), .ref (G.1 + (z0 + 13)), .ref (G.1 + (z0 + 14)), .ref (G.1 + (z0 + 15)), .int (iI 1), .int 0, .int 0, .null, .null, .null, .null, .null, .null, .null, .null, .null, .null, .null, .null, .null, .null, .int 0, .int 0, .null, .null, .null, .null, .null, .int 0, .null, .null, .null, .null, .int 0, .int 0, .null, .null, .null, .null, .null, .null])) H := ho
  replace gr := gGr_k gr (fun q h1 h2 h3 => hk q (by omega))
  rw [← hz9] at hz; clear hz9 hk
  refine lv_aload_n X.1 X.2.1 dX12_init_135 rfl (lv_at hl.1 0 rfl) ?_
  refine lv_bipush X.1 X.2.1 dX12_init_136 (v := iI 40) (by decide) ?_
  refine c_newa X (t0 := 0) k_124 rfl rfl (fun cA h1 h2 => gRA_eq h1 h2) hz hS (a0 := (40, .inl (fun _ => 0))) (fun _ => rfl) (by decide) (N' := 40) (by decide) (by decide) (Nat.le_of_ble_eq_true rfl) (Nat.le_of_ble_eq_true rfl) dX12_init_138 ?_
  clear hS
  intro H hn16 hz9 hk hS
  replace ho := gC_k ho (hk _ (by omega))
  replace gr := gGr_k gr (fun q h1 h2 h3 => hk q (by omega))
  replace hz : H.size = G.1 + (z0 + 17) := hz9.trans (by omega)
  clear hz9 hk
  replace gr := gGr_s (n := 16) gr hn16
  refine c_putF X hini cX12 ho (Or.inl rfl) hS 22 (by decide) k_1232 rfl rfl rfl (tk := (.array .int)) (by decide +kernel) (v := .ref (G.1 + (z0 + 16))) rfl rfl (Nat.le_of_ble_eq_true rfl) dX12_init_140 ?_
  clear hS ho
  intro H locs ho hz9 hk hS
  replace ho : gC G (p0) (.inr (12, [.int 0, .ref (G.1 + (z0)), .ref (G.1 + (z0 + 1)), .ref (G.1 + (z0 + 2)), .int 0, .ref (G.1 + (z0 + 3)), .ref (G.1 + (z0 + 4)), .int 0, .ref (G.1 + (z0 + 5)), .ref (G.1 + (z0 + 6)), .ref (G.1 + (z0 + 7)), .ref (G.1 + (z0 + 8)), .ref (G.1 + (z0 + 9)), .ref (G.1 + (z0 + 10)), .ref (G.1 + (z0 + 11)), .ref (G.1 + (z0 + 12)), .ref (G.1 + (z0 + 13)), .ref (G.1 + (z0 + 14)), .ref (G.1 + (z0 + 15)), .int (iI 1), .int 0, .int 0, .ref (G.1 + (z0 + 16)), .null, .null, .null, .null, .null, .null, .null, .null, .null, .null, .null, .null, .null, .int 0, .int 0, .null, .null, .null, .null, .null, .int 0, .null, .null, .null, .null, .int 0, .int 0, .null, .null, .null, .null, .null, .null])) H := ho
  replace gr := gGr_k gr (fun q h1 h2 h3 => hk q (by omega))
  rw [← hz9] at hz; clear hz9 hk
  refine lv_aload_n X.1 X.2.1 dX12_init_143 rfl (lv_at hl.1 0 rfl) ?_
  refine lv_bipush X.1 X.2.1 dX12_init_144 (v := iI 40) (by decide) ?_
  refine c_newa X (t0 := 0) k_124 rfl rfl (fun cA h1 h2 => gRA_eq h1 h2) hz hS (a0 := (40, .inl (fun _ => 0))) (fun _ => rfl) (by decide) (N' := 40) (by decide) (by decide) (Nat.le_of_ble_eq_true rfl) (Nat.le_of_ble_eq_true rfl) dX12_init_146 ?_
  clear hS
  intro H hn17 hz9 hk hS
  replace ho := gC_k ho (hk _ (by omega))
  replace gr := gGr_k gr (fun q h1 h2 h3 => hk q (by omega))
  replace hz : H.size = G.1 + (z0 + 18) := hz9.trans (by omega)
  clear hz9 hk
  replace gr := gGr_s (n := 17) gr hn17
  refine c_putF X hini cX12 ho (Or.inl rfl) hS 23 (by decide) k_1233 rfl rfl rfl (tk := (.array .int)) (by decide +kernel) (v := .ref (G.1 + (z0 + 17))) rfl rfl (Nat.le_of_ble_eq_true rfl) dX12_init_148 ?_
  clear hS ho
  intro H locs ho hz9 hk hS
  replace ho : gC G (p0) (.inr (12, [.int 0, .ref (G.1 + (z0)), .ref (G.1 + (z0 + 1)), .ref (G.1 + (z0 + 2)), .int 0, .ref (G.1 + (z0 + 3)), .ref (G.1 + (z0 + 4)), .int 0, .ref (G.1 + (z0 + 5)), .ref (G.1 + (z0 + 6)), .ref (G.1 + (z0 + 7)), .ref (G.1 + (z0 + 8)), .ref (G.1 + (z0 + 9)), .ref (G.1 + (z0 + 10)), .ref (G.1 + (z0 + 11)), .ref (G.1 + (z0 + 12)), .ref (G.1 + (z0 + 13)), .ref (G.1 + (z0 + 14)), .ref (G.1 + (z0 + 15)), .int (iI 1), .int 0, .int 0, .ref (G.1 + (z0 + 16)), .ref (G.1 + (z0 + 17)), .null, .null, .null, .null, .null, .null, .null, .null, .null, .null, .null, .null, .int 0, .int 0, .null, .null, .null, .null, .null, .int 0, .null, .null, .null, .null, .int 0, .int 0, .null, .null, .null, .null, .null, .null])) H := ho
  replace gr := gGr_k gr (fun q h1 h2 h3 => hk q (by omega))
  rw [← hz9] at hz; clear hz9 hk
  refine lv_aload_n X.1 X.2.1 dX12_init_151 rfl (lv_at hl.1 0 rfl) ?_
  refine lv_bipush X.1 X.2.1 dX12_init_152 (v := iI 40) (by decide) ?_
  refine c_newa X (t0 := 0) k_124 rfl rfl (fun cA h1 h2 => gRA_eq h1 h2) hz hS (a0 := (40, .inl (fun _ => 0))) (fun _ => rfl) (by decide) (N' := 40) (by decide) (by decide) (Nat.le_of_ble_eq_true rfl) (Nat.le_of_ble_eq_true rfl) dX12_init_154 ?_
  clear hS
  intro H hn18 hz9 hk hS
  replace ho := gC_k ho (hk _ (by omega))
  replace gr := gGr_k gr (fun q h1 h2 h3 => hk q (by omega))
  replace hz : H.size = G.1 + (z0 + 19) := hz9.trans (by omega)
  clear hz9 hk
  replace gr := gGr_s (n := 18) gr hn18
  refine c_putF X hini cX12 ho (Or.inl rfl) hS 24 (by decide) k_1234 rfl rfl rfl (tk := (.array .int)) (by decide +kernel) (v := .ref (G.1 + (z0 + 18))) rfl rfl (Nat.le_of_ble_eq_true rfl) dX12_init_156 ?_
  clear hS ho
  intro H locs ho hz9 hk hS
  replace ho : gC G (p0) (.inr (12, [.int 0, .ref (G.1 + (z0)), .ref (G.1 + (z0 + 1)), .ref (G.1 + (z0 + 2)), .int 0, .ref (G.1 + (z0 + 3)), .ref (G.1 + (z0 + 4)), .int 0, .ref (G.1 + (z0 + 5)), .ref (G.1 + (z0 + 6)), .ref (G.1 + (z0 + 7)), .ref (G.1 + (z0 + 8)), .ref (G.1 + (z0 + 9)), .ref (G.1 + (z0 + 10)), .ref (G.1 + (z0 + 11)), .ref (G.1 + (z0 + 12)), .ref (G.1 + (z0 + 13)), .ref (G.1 + (z0 + 14)), .ref (G.1 + (z0 + 15)), .int (iI 1), .int 0, .int 0, .ref (G.1 + (z0 + 16)), .ref (G.1 + (z0 + 17)), .ref (G.1 + (z0 + 18)), .null, .null, .null, .null, .null, .null, .null, .null, .null, .null, .null, .int 0, .int 0, .null, .null, .null, .null, .null, .int 0, .null, .null, .null, .null, .int 0, .int 0, .null, .null, .null, .null, .null, .null])) H := ho
  replace gr := gGr_k gr (fun q h1 h2 h3 => hk q (by omega))
  rw [← hz9] at hz; clear hz9 hk
  refine lv_aload_n X.1 X.2.1 dX12_init_159 rfl (lv_at hl.1 0 rfl) ?_
  refine lv_bipush X.1 X.2.1 dX12_init_160 (v := iI 40) (by decide) ?_
  refine c_newa X (t0 := 0) k_124 rfl rfl (fun cA h1 h2 => gRA_eq h1 h2) hz hS (a0 := (40, .inl (fun _ => 0))) (fun _ => rfl) (by decide) (N' := 40) (by decide) (by decide) (Nat.le_of_ble_eq_true rfl) (Nat.le_of_ble_eq_true rfl) dX12_init_162 ?_
  clear hS
  intro H hn19 hz9 hk hS
  replace ho := gC_k ho (hk _ (by omega))
  replace gr := gGr_k gr (fun q h1 h2 h3 => hk q (by omega))
  replace hz : H.size = G.1 + (z0 + 20) := hz9.trans (by omega)
  clear hz9 hk
  replace gr := gGr_s (n := 19) gr hn19
  refine c_putF X hini cX12 ho (Or.inl rfl) hS 25 (by decide) k_1235 rfl rfl rfl (tk := (.array .int)) (by decide +kernel) (v := .ref (G.1 + (z0 + 19))) rfl rfl (Nat.le_of_ble_eq_true rfl) dX12_init_164 ?_
  clear hS ho
  intro H locs ho hz9 hk hS
  replace ho : gC G (p0) (.inr (12, [.int 0, .ref (G.1 + (z0)), .ref (G.1 + (z0 + 1)), .ref (G.1 + (z0 + 2)), .int 0, .ref (G.1 + (z0 + 3)), .ref (G.1 + (z0 + 4)), .int 0, .ref (G.1 + (z0 + 5)), .ref (G.1 + (z0 + 6)), .ref (G.1 + (z0 + 7)), .ref (G.1 + (z0 + 8)), .ref (G.1 + (z0 + 9)), .ref (G.1 + (z0 + 10)), .ref (G.1 + (z0 + 11)), .ref (G.1 + (z0 + 12)), .ref (G.1 + (z0 + 13)), .ref (G.1 + (z0 + 14)), .ref (G.1 + (z0 + 15)), .int (iI 1), .int 0, .int 0, .ref (G.1 + (z0 + 16)), .ref (G.1 + (z0 + 17)), .ref (G.1 + (z0 + 18)), .ref (G.1 + (z0 + 19)), .null, .null, .null, .null, .null, .null, .null, .null, .null, .null, .int 0, .int 0, .null, .null, .null, .null, .null, .int 0, .null, .null, .null, .null, .int 0, .int 0, .null, .null, .null, .null, .null, .null])) H := ho
  replace gr := gGr_k gr (fun q h1 h2 h3 => hk q (by omega))
  rw [← hz9] at hz; clear hz9 hk
  refine lv_aload_n X.1 X.2.1 dX12_init_167 rfl (lv_at hl.1 0 rfl) ?_
  refine lv_bipush X.1 X.2.1 dX12_init_168 (v := iI 40) (by decide) ?_
  refine c_newa X (t0 := 0) k_124 rfl rfl (fun cA h1 h2 => gRA_eq h1 h2) hz hS (a0 := (40, .inl (fun _ => 0))) (fun _ => rfl) (by decide) (N' := 40) (by decide) (by decide) (Nat.le_of_ble_eq_true rfl) (Nat.le_of_ble_eq_true rfl) dX12_init_170 ?_
  clear hS
  intro H hn20 hz9 hk hS
  replace ho := gC_k ho (hk _ (by omega))
  replace gr := gGr_k gr (fun q h1 h2 h3 => hk q (by omega))
  replace hz : H.size = G.1 + (z0 + 21) := hz9.trans (by omega)
  clear hz9 hk
  replace gr := gGr_s (n := 20) gr hn20
  refine c_putF X hini cX12 ho (Or.inl rfl) hS 26 (by decide) k_1236 rfl rfl rfl (tk := (.array .int)) (by decide +kernel) (v := .ref (G.1 + (z0 + 20))) rfl rfl (Nat.le_of_ble_eq_true rfl) dX12_init_172 ?_
  clear hS ho
  intro H locs ho hz9 hk hS
  replace ho : gC G (p0) (.inr (12, [.int 0, .ref (G.1 + (z0)), .ref (G.1 + (z0 + 1)), .ref (G.1 + (z0 + 2)), .int 0, .ref (G.1 + (z0 + 3)), .ref (G.1 + (z0 + 4)), .int 0, .ref (G.1 + (z0 + 5)), .ref (G.1 + (z0 + 6)), .ref (G.1 + (z0 + 7)), .ref (G.1 + (z0 + 8)), .ref (G.1 + (z0 + 9)), .ref (G.1 + (z0 + 10)), .ref (G.1 + (z0 + 11)), .ref (G.1 + (z0 + 12)), .ref (G.1 + (z0 + 13)), .ref (G.1 + (z0 + 14)), .ref (G.1 + (z0 + 15)), .int (iI 1), .int 0, .int 0, .ref (G.1 + (z0 + 16)), .ref (G.1 + (z0 + 17)), .ref (G.1 + (z0 + 18)), .ref (G.1 + (z0 + 19)), .ref (G.1 + (z0 + 20)), .null, .null, .null, .null, .null, .null, .null, .null, .null, .int 0, .int 0, .null, .null, .null, .null, .null, .int 0, .null, .null, .null, .null, .int 0, .int 0, .null, .null, .null, .null, .null, .null])) H := ho
  replace gr := gGr_k gr (fun q h1 h2 h3 => hk q (by omega))
  rw [← hz9] at hz; clear hz9 hk
  refine lv_aload_n X.1 X.2.1 dX12_init_175 rfl (lv_at hl.1 0 rfl) ?_
  refine lv_bipush X.1 X.2.1 dX12_init_176 (v := iI 40) (by decide) ?_
  refine c_newa X (t0 := 0) k_124 rfl rfl (fun cA h1 h2 => gRA_eq h1 h2) hz hS (a0 := (40, .inl (fun _ => 0))) (fun _ => rfl) (by decide) (N' := 40) (by decide) (by decide) (Nat.le_of_ble_eq_true rfl) (Nat.le_of_ble_eq_true rfl) dX12_init_178 ?_
  clear hS
  intro H hn21 hz9 hk hS
  replace ho := gC_k ho (hk _ (by omega))
  replace gr := gGr_k gr (fun q h1 h2 h3 => hk q (by omega))
  replace hz : H.size = G.1 + (z0 + 22) := hz9.trans (by omega)
  clear hz9 hk
  replace gr := gGr_s (n := 21) gr hn21
  refine c_putF X hini cX12 ho (Or.inl rfl) hS 27 (by decide) k_1237 rfl rfl rfl (tk := (.array .int)) (by decide +kernel) (v := .ref (G.1 + (z0 + 21))) rfl rfl (Nat.le_of_ble_eq_true rfl) dX12_init_180 ?_
  clear hS ho
  intro H locs ho hz9 hk hS
  replace ho : gC G (p0) (.inr (12, [.int 0, .ref (G.1 + (z0)), .ref (G.1 + (z0 + 1)), .ref (G.1 + (z0 + 2)), .int 0, .ref (G.1 + (z0 + 3)), .ref (G.1 + (z0 + 4)), .int 0, .ref (G.1 + (z0 + 5)), .ref (G.1 + (z0 + 6)), .ref (G.1 + (z0 + 7)), .ref (G.1 + (z0 + 8)), .ref (G.1 + (z0 + 9)), .ref (G.1 + (z0 + 10)), .ref (G.1 + (z0 + 11)), .ref (G.1 + (z0 + 12)), .ref (G.1 + (z0 + 13)), .ref (G.1 + (z0 + 14)), .ref (G.1 + (z0 + 15)), .int (iI 1), .int 0, .int 0, .ref (G.1 + (z0 + 16)), .ref (G.1 + (z0 + 17)), .ref (G.1 + (z0 + 18)), .ref (G.1 + (z0 + 19)), .ref (G.1 + (z0 + 20)), .ref (G.1 + (z0 + 21)), .null, .null, .null, .null, .null, .null, .null, .null, .int 0, .int 0, .null, .null, .null, .null, .null, .int 0, .null, .null, .null, .null, .int 0, .int 0, .null, .null, .null, .null, .null, .null])) H := ho
  replace gr := gGr_k gr (fun q h1 h2 h3 => hk q (by omega))
  rw [← hz9] at hz; clear hz9 hk
  refine lv_aload_n X.1 X.2.1 dX12_init_183 rfl (lv_at hl.1 0 rfl) ?_
  refine lv_bipush X.1 X.2.1 dX12_init_184 (v := iI 40) (by decide) ?_
  refine c_newa X (t0 := 1) k_1379 rfl rfl (fun cA h1 h2 => gRA_eq h1 h2) hz hS (a0 := (40, .inl (fun _ => 0))) (fun _ => rfl) (by decide) (N' := 40) (by decide) (by decide) (Nat.le_of_ble_eq_true rfl) (Nat.le_of_ble_eq_true rfl) dX12_init_186 ?_
  clear hS
  intro H hn22 hz9 hk hS
  replace ho := gC_k ho (hk _ (by omega))
  replace gr := gGr_k gr (fun q h1 h2 h3 => hk q (by omega))
  replace hz : H.size = G.1 + (z0 + 23) := hz9.trans (by omega)
  clear hz9 hk
  replace gr := gGr_s (n := 22) gr hn22
  refine c_putF X hini cX12 ho (Or.inl rfl) hS 28 (by decide) k_1238 rfl rfl rfl (tk := (.array .boolean)) (by decide +kernel) (v := .ref (G.1 + (z0 + 22))) rfl rfl (Nat.le_of_ble_eq_true rfl) dX12_init_188 ?_
  clear hS ho
  intro H locs ho hz9 hk hS
  replace ho : gC G (p0) (.inr (12, [.int 0, .ref (G.1 + (z0)), .ref (G.1 + (z0 + 1)), .ref (G.1 + (z0 + 2)), .int 0, .ref (G.1 + (z0 + 3)), .ref (G.1 + (z0 + 4)), .int 0, .ref (G.1 + (z0 + 5)), .ref (G.1 + (z0 + 6)), .ref (G.1 + (z0 + 7)), .ref (G.1 + (z0 + 8)), .ref (G.1 + (z0 + 9)), .ref (G.1 + (z0 + 10)), .ref (G.1 + (z0 + 11)), .ref (G.1 + (z0 + 12)), .ref (G.1 + (z0 + 13)), .ref (G.1 + (z0 + 14)), .ref (G.1 + (z0 + 15)), .int (iI 1), .int 0, .int 0, .ref (G.1 + (z0 + 16)), .ref (G.1 + (z0 + 17)), .ref (G.1 + (z0 + 18)), .ref (G.1 + (z0 + 19)), .ref (G.1 + (z0 + 20)), .ref (G.1 + (z0 + 21)), .ref (G.1 + (z0 + 22)), .null, .null, .null, .null, .null, .null, .null, .int 0, .int 0, .null, .null, .null, .null, .null, .int 0, .null, .null, .null, .null, .int 0, .int 0, .null, .null, .null, .null, .null, .null])) H := ho
  replace gr := gGr_k gr (fun q h1 h2 h3 => hk q (by omega))
  rw [← hz9] at hz; clear hz9 hk
  refine lv_aload_n X.1 X.2.1 dX12_init_191 rfl (lv_at hl.1 0 rfl) ?_
  refine lv_iconst X.1 X.2.1 dX12_init_192 (v := iI 4) rfl ?_
  refine c_newa X (t0 := 0) k_124 rfl rfl (fun cA h1 h2 => gRA_eq h1 h2) hz hS (a0 := (4, .inl (fun _ => 0))) (fun _ => rfl) (by decide) (N' := 4) (by decide) (by decide) (Nat.le_of_ble_eq_true rfl) (Nat.le_of_ble_eq_true rfl) dX12_init_193 ?_
  clear hS
  intro H hn23 hz9 hk hS
  replace ho := gC_k ho (hk _ (by omega))
  replace gr := gGr_k gr (fun q h1 h2 h3 => hk q (by omega))
  replace hz : H.size = G.1 + (z0 + 24) := hz9.trans (by omega)
  clear hz9 hk
  replace gr := gGr_s (n := 23) gr hn23
  refine c_putF X hini cX12 ho (Or.inl rfl) hS 29 (by decide) k_1239 rfl rfl rfl (tk := (.array .int)) (by decide +kernel) (v := .ref (G.1 + (z0 + 23))) rfl rfl (Nat.le_of_ble_eq_true rfl) dX12_init_195 ?_
  clear hS ho
  intro H locs ho hz9 hk hS
  replace ho : gC G (p0) (.inr (12, [.int 0, .ref (G.1 + (z0)), .ref (G.1 + (z0 + 1)), .ref (G.1 + (z0 + 2)), .int 0, .ref (G.1 + (z0 + 3)), .ref (G.1 + (z0 + 4)), .int 0, .ref (G.1 + (z0 + 5)), .ref (G.1 + (z0 + 6)), .ref (G.1 + (z0 + 7)), .ref (G.1 + (z0 + 8)), .ref (G.1 + (z0 + 9)), .ref (G.1 + (z0 + 10)), .ref (G.1 + (z0 + 11)), .ref (G.1 + (z0 + 12)), .ref (G.1 + (z0 + 13)), .ref (G.1 + (z0 + 14)), .ref (G.1 + (z0 + 15)), .int (iI 1), .int 0, .int 0, .ref (G.1 + (z0 + 16)), .ref (G.1 + (z0 + 17)), .ref (G.1 + (z0 + 18)), .ref (G.1 + (z0 + 19)), .ref (G.1 + (z0 + 20)), .ref (G.1 + (z0 + 21)), .ref (G.1 + (z0 + 22)), .ref (G.1 + (z0 + 23)), .null, .null, .null, .null, .null, .null, .int 0, .int 0, .null, .null, .null, .null, .null, .int 0, .null, .null, .null, .null, .int 0, .int 0, .null, .null, .null, .null, .null, .null])) H := ho
  replace gr := gGr_k gr (fun q h1 h2 h3 => hk q (by omega))
  rw [← hz9] at hz; clear hz9 hk
  refine lv_aload_n X.1 X.2.1 dX12_init_198 rfl (lv_at hl.1 0 rfl) ?_
  refine lv_iconst X.1 X.2.1 dX12_init_199 (v := iI 4) rfl ?_
  refine c_newa X (t0 := 0) k_124 rfl rfl (fun cA h1 h2 => gRA_eq h1 h2) hz hS (a0 := (4, .inl (fun _ => 0))) (fun _ => rfl) (by decide) (N' := 4) (by decide) (by decide) (Nat.le_of_ble_eq_true rfl) (Nat.le_of_ble_eq_true rfl) dX12_init_200 ?_
  clear hS
  intro H hn24 hz9 hk hS
  replace ho := gC_k ho (hk _ (by omega))
  replace gr := gGr_k gr (fun q h1 h2 h3 => hk q (by omega))
  replace hz : H.size = G.1 + (z0 + 25) := hz9.trans (by omega)
  clear hz9 hk
  replace gr := gGr_s (n := 24) gr hn24
  refine c_putF X hini cX12 ho (Or.inl rfl) hS 30 (by decide) k_1240 rfl rfl rfl (tk := (.array .int)) (by decide +kernel) (v := .ref (G.1 + (z0 + 24))) rfl rfl (Nat.le_of_ble_eq_true rfl) dX12_init_202 ?_
  clear hS ho
  intro H locs ho hz9 hk hS
  replace ho : gC G (p0) (.inr (12, [.int 0, .ref (G.1 + (z0)), .ref (G.1 + (z0 + 1)), .ref (G.1 + (z0 + 2)), .int 0, .ref (G.1 + (z0 + 3)), .ref (G.1 + (z0 + 4)), .int 0, .ref (G.1 + (z0 + 5)), .ref (G.1 + (z0 + 6)), .ref (G.1 + (z0 + 7)), .ref (G.1 + (z0 + 8)), .ref (G.1 + (z0 + 9)), .ref (G.1 + (z0 + 10)), .ref (G.1 + (z0 + 11)), .ref (G.1 + (z0 + 12)), .ref (G.1 + (z0 + 13)), .ref (G.1 + (z0 + 14)), .ref (G.1 + (z0 + 15)), .int (iI 1), .int 0, .int 0, .ref (G.1 + (z0 + 16)), .ref (G.1 + (z0 + 17)), .ref (G.1 + (z0 + 18)), .ref (G.1 + (z0 + 19)), .ref (G.1 + (z0 + 20)), .ref (G.1 + (z0 + 21)), .ref (G.1 + (z0 + 22)), .ref (G.1 + (z0 + 23)), .ref (G.1 + (z0 + 24)), .null, .null, .null, .null, .null, .int 0, .int 0, .null, .null, .null, .null, .null, .int 0, .null, .null, .null, .null, .int 0, .int 0, .null, .null, .null, .null, .null, .null])) H := ho
  replace gr := gGr_k gr (fun q h1 h2 h3 => hk q (by omega))
  rw [← hz9] at hz; clear hz9 hk
  refine lv_aload_n X.1 X.2.1 dX12_init_205 rfl (lv_at hl.1 0 rfl) ?_
  refine lv_iconst X.1 X.2.1 dX12_init_206 (v := iI 4) rfl ?_
  refine c_newa X (t0 := 0) k_124 rfl rfl (fun cA h1 h2 => gRA_eq h1 h2) hz hS (a0 := (4, .inl (fun _ => 0))) (fun _ => rfl) (by decide) (N' := 4) (by decide) (by decide) (Nat.le_of_ble_eq_true rfl) (Nat.le_of_ble_eq_true rfl) dX12_init_207 ?_
  clear hS
  intro H hn25 hz9 hk hS
  replace ho := gC_k ho (hk _ (by omega))
  replace gr := gGr_k gr (fun q h1 h2 h3 => hk q (by omega))
  replace hz : H.size = G.1 + (z0 + 26) := hz9.trans (by omega)
  clear hz9 hk
  replace gr := gGr_s (n := 25) gr hn25
  refine c_putF X hini cX12 ho (Or.inl rfl) hS 31 (by decide) k_1241 rfl rfl rfl (tk := (.array .int)) (by decide +kernel) (v := .ref (G.1 + (z0 + 25))) rfl rfl (Nat.le_of_ble_eq_true rfl) dX12_init_209 ?_
  clear hS ho
  intro H locs ho hz9 hk hS
  replace ho : gC G (p0) (.inr (12, [.int 0, .ref (G.1 + (z0)), .ref (G.1 + (z0 + 1)), .ref (G.1 + (z0 + 2)), .int 0, .ref (G.1 + (z0 + 3)), .ref (G.1 + (z0 + 4)), .int 0, .ref (G.1 + (z0 + 5)), .ref (G.1 + (z0 + 6)), .ref (G.1 + (z0 + 7)), .ref (G.1 + (z0 + 8)), .ref (G.1 + (z0 + 9)), .ref (G.1 + (z0 + 10)), .ref (G.1 + (z0 + 11)), .ref (G.1 + (z0 + 12)), .ref (G.1 + (z0 + 13)), .ref (G.1 + (z0 + 14)), .ref (G.1 + (z0 + 15)), .int (iI 1), .int 0, .int 0, .ref (G.1 + (z0 + 16)), .ref (G.1 + (z0 + 17)), .ref (G.1 + (z0 + 18)), .ref (G.1 + (z0 + 19)), .ref (G.1 + (z0 + 20)), .ref (G.1 + (z0 + 21)), .ref (G.1 + (z0 + 22)), .ref (G.1 + (z0 + 23)), .ref (G.1 + (z0 + 24)), .ref (G.1 + (z0 + 25)), .null, .null, .null, .null, .int 0, .int 0, .null, .null, .null, .null, .null, .int 0, .null, .null, .null, .null, .int 0, .int 0, .null, .null, .null, .null, .null, .null])) H := ho
  replace gr := gGr_k gr (fun q h1 h2 h3 => hk q (by omega))
  rw [← hz9] at hz; clear hz9 hk
  refine lv_aload_n X.1 X.2.1 dX12_init_212 rfl (lv_at hl.1 0 rfl) ?_
  refine lv_iconst X.1 X.2.1 dX12_init_213 (v := iI 4) rfl ?_
  refine c_newa X (t0 := 0) k_124 rfl rfl (fun cA h1 h2 => gRA_eq h1 h2) hz hS (a0 := (4, .inl (fun _ => 0))) (fun _ => rfl) (by decide) (N' := 4) (by decide) (by decide) (Nat.le_of_ble_eq_true rfl) (Nat.le_of_ble_eq_true rfl) dX12_init_214 ?_
  clear hS
  intro H hn26 hz9 hk hS
  replace ho := gC_k ho (hk _ (by omega))
  replace gr := gGr_k gr (fun q h1 h2 h3 => hk q (by omega))
  replace hz : H.size = G.1 + (z0 + 27) := hz9.trans (by omega)
  clear hz9 hk
  replace gr := gGr_s (n := 26) gr hn26
  refine c_putF X hini cX12 ho (Or.inl rfl) hS 32 (by decide) k_1242 rfl rfl rfl (tk := (.array .int)) (by decide +kernel) (v := .ref (G.1 + (z0 + 26))) rfl rfl (Nat.le_of_ble_eq_true rfl) dX12_init_216 ?_
  clear hS ho
  intro H locs ho hz9 hk hS
  replace ho : gC G (p0) (.inr (12, [.int 0, .ref (G.1 + (z0)), .ref (G.1 + (z0 + 1)), .ref (G.1 + (z0 + 2)), .int 0, .ref (G.1 + (z0 + 3)), .ref (G.1 + (z0 + 4)), .int 0, .ref (G.1 + (z0 + 5)), .ref (G.1 + (z0 + 6)), .ref (G.1 + (z0 + 7)), .ref (G.1 + (z0 + 8)), .ref (G.1 + (z0 + 9)), .ref (G.1 + (z0 + 10)), .ref (G.1 + (z0 + 11)), .ref (G.1 + (z0 + 12)), .ref (G.1 + (z0 + 13)), .ref (G.1 + (z0 + 14)), .ref (G.1 + (z0 + 15)), .int (iI 1), .int 0, .int 0, .ref (G.1 + (z0 + 16)), .ref (G.1 + (z0 + 17)), .ref (G.1 + (z0 + 18)), .ref (G.1 + (z0 + 19)), .ref (G.1 + (z0 + 20)), .ref (G.1 + (z0 + 21)), .ref (G.1 + (z0 + 22)), .ref (G.1 + (z0 + 23)), .ref (G.1 + (z0 + 24)), .ref (G.1 + (z0 + 25)), .ref (G.1 + (z0 + 26)), .null, .null, .null, .int 0, .int 0, .null, .null, .null, .null, .null, .int 0, .null, .null, .null, .null, .int 0, .int 0, .null, .null, .null, .null, .null, .null])) H := ho
  replace gr := gGr_k gr (fun q h1 h2 h3 => hk q (by omega))
  rw [← hz9] at hz; clear hz9 hk
  refine lv_aload_n X.1 X.2.1 dX12_init_219 rfl (lv_at hl.1 0 rfl) ?_
  refine lv_iconst X.1 X.2.1 dX12_init_220 (v := iI 4) rfl ?_
  refine c_newa X (t0 := 0) k_124 rfl rfl (fun cA h1 h2 => gRA_eq h1 h2) hz hS (a0 := (4, .inl (fun _ => 0))) (fun _ => rfl) (by decide) (N' := 4) (by decide) (by decide) (Nat.le_of_ble_eq_true rfl) (Nat.le_of_ble_eq_true rfl) dX12_init_221 ?_
  clear hS
  intro H hn27 hz9 hk hS
  replace ho := gC_k ho (hk _ (by omega))
  replace gr := gGr_k gr (fun q h1 h2 h3 => hk q (by omega))
  replace hz : H.size = G.1 + (z0 + 28) := hz9.trans (by omega)
  clear hz9 hk
  replace gr := gGr_s (n := 27) gr hn27
  refine c_putF X hini cX12 ho (Or.inl rfl) hS 33 (by decide) k_1243 rfl rfl rfl (tk := (.array .int)) (by decide +kernel) (v := .ref (G.1 + (z0 + 27))) rfl rfl (Nat.le_of_ble_eq_true rfl) dX12_init_223 ?_
  clear hS ho
  intro H locs ho hz9 hk hS
  replace ho : gC G (p0) (.inr (12, [.int 0, .ref (G.1 + (z0)), .ref (G.1 + (z0 + 1)), .ref (G.1 + (z0 + 2)), .int 0, .ref (G.1 + (z0 + 3)), .ref (G.1 + (z0 + 4)), .int 0, .ref (G.1 + (z0 + 5)), .ref (G.1 + (z0 + 6)), .ref (G.1 + (z0 + 7)), .ref (G.1 + (z0 + 8)), .ref (G.1 + (z0 + 9)), .ref (G.1 + (z0 + 10)), .ref (G.1 + (z0 + 11)), .ref (G.1 + (z0 + 12)), .ref (G.1 + (z0 + 13)), .ref (G.1 + (z0 + 14)), .ref (G.1 + (z0 + 15)), .int (iI 1), .int 0, .int 0, .ref (G.1 + (z0 + 16)), .ref (G.1 + (z0 + 17)), .ref (G.1 + (z0 + 18)), .ref (G.1 + (z0 + 19)), .ref (G.1 + (z0 + 20)), .ref (G.1 + (z0 + 21)), .ref (G.1 + (z0 + 22)), .ref (G.1 + (z0 + 23)), .ref (G.1 + (z0 + 24)), .ref (G.1 + (z0 + 25)), .ref (G.1 + (z0 + 26)), .ref (G.1 + (z0 + 27)), .null, .null, .int 0, .int 0, .null, .null, .null, .null, .null, .int 0, .null, .null, .null, .null, .int 0, .int 0, .null, .null, .null, .null, .null, .null])) H := ho
  replace gr := gGr_k gr (fun q h1 h2 h3 => hk q (by omega))
  rw [← hz9] at hz; clear hz9 hk
  refine lv_aload_n X.1 X.2.1 dX12_init_226 rfl (lv_at hl.1 0 rfl) ?_
  refine lv_iconst X.1 X.2.1 dX12_init_227 (v := iI 4) rfl ?_
  refine c_newa X (t0 := 0) k_124 rfl rfl (fun cA h1 h2 => gRA_eq h1 h2) hz hS (a0 := (4, .inl (fun _ => 0))) (fun _ => rfl) (by decide) (N' := 4) (by decide) (by decide) (Nat.le_of_ble_eq_true rfl) (Nat.le_of_ble_eq_true rfl) dX12_init_228 ?_
  clear hS
  intro H hn28 hz9 hk hS
  replace ho := gC_k ho (hk _ (by omega))
  replace gr := gGr_k gr (fun q h1 h2 h3 => hk q (by omega))
  replace hz : H.size = G.1 + (z0 + 29) := hz9.trans (by omega)
  clear hz9 hk
  replace gr := gGr_s (n := 28) gr hn28
  refine c_putF X hini cX12 ho (Or.inl rfl) hS 34 (by decide) k_1244 rfl rfl rfl (tk := (.array .int)) (by decide +kernel) (v := .ref (G.1 + (z0 + 28))) rfl rfl (Nat.le_of_ble_eq_true rfl) dX12_init_230 ?_
  clear hS ho
  intro H locs ho hz9 hk hS
  replace ho : gC G (p0) (.inr (12, [.int 0, .ref (G.1 + (z0)), .ref (G.1 + (z0 + 1)), .ref (G.1 + (z0 + 2)), .int 0, .ref (G.1 + (z0 + 3)), .ref (G.1 + (z0 + 4)), .int 0, .ref (G.1 + (z0 + 5)), .ref (G.1 + (z0 + 6)), .ref (G.1 + (z0 + 7)), .ref (G.1 + (z0 + 8)), .ref (G.1 + (z0 + 9)), .ref (G.1 + (z0 + 10)), .ref (G.1 + (z0 + 11)), .ref (G.1 + (z0 + 12)), .ref (G.1 + (z0 + 13)), .ref (G.1 + (z0 + 14)), .ref (G.1 + (z0 + 15)), .int (iI 1), .int 0, .int 0, .ref (G.1 + (z0 + 16)), .ref (G.1 + (z0 + 17)), .ref (G.1 + (z0 + 18)), .ref (G.1 + (z0 + 19)), .ref (G.1 + (z0 + 20)), .ref (G.1 + (z0 + 21)), .ref (G.1 + (z0 + 22)), .ref (G.1 + (z0 + 23)), .ref (G.1 + (z0 + 24)), .ref (G.1 + (z0 + 25)), .ref (G.1 + (z0 + 26)), .ref (G.1 + (z0 + 27)), .ref (G.1 + (z0 + 28)), .null, .int 0, .int 0, .null, .null, .null, .null, .null, .int 0, .null, .null, .null, .null, .int 0, .int 0, .null, .null, .null, .null, .null, .null])) H := ho
  replace gr := gGr_k gr (fun q h1 h2 h3 => hk q (by omega))
  rw [← hz9] at hz; clear hz9 hk
  refine lv_aload_n X.1 X.2.1 dX12_init_233 rfl (lv_at hl.1 0 rfl) ?_
  refine lv_iconst X.1 X.2.1 dX12_init_234 (v := iI 4) rfl ?_
  refine c_newa X (t0 := 0) k_124 rfl rfl (fun cA h1 h2 => gRA_eq h1 h2) hz hS (a0 := (4, .inl (fun _ => 0))) (fun _ => rfl) (by decide) (N' := 4) (by decide) (by decide) (Nat.le_of_ble_eq_true rfl) (Nat.le_of_ble_eq_true rfl) dX12_init_235 ?_
  clear hS
  intro H hn29 hz9 hk hS
  replace ho := gC_k ho (hk _ (by omega))
  replace gr := gGr_k gr (fun q h1 h2 h3 => hk q (by omega))
  replace hz : H.size = G.1 + (z0 + 30) := hz9.trans (by omega)
  clear hz9 hk
  replace gr := gGr_s (n := 29) gr hn29
  refine c_putF X hini cX12 ho (Or.inl rfl) hS 35 (by decide) k_1245 rfl rfl rfl (tk := (.array .int)) (by decide +kernel) (v := .ref (G.1 + (z0 + 29))) rfl rfl (Nat.le_of_ble_eq_true rfl) dX12_init_237 ?_
  clear hS ho
  intro H locs ho hz9 hk hS
  replace ho : gC G (p0) (.inr (12, [.int 0, .ref (G.1 + (z0)), .ref (G.1 + (z0 + 1)), .ref (G.1 + (z0 + 2)), .int 0, .ref (G.1 + (z0 + 3)), .ref (G.1 + (z0 + 4)), .int 0, .ref (G.1 + (z0 + 5)), .ref (G.1 + (z0 + 6)), .ref (G.1 + (z0 + 7)), .ref (G.1 + (z0 + 8)), .ref (G.1 + (z0 + 9)), .ref (G.1 + (z0 + 10)), .ref (G.1 + (z0 + 11)), .ref (G.1 + (z0 + 12)), .ref (G.1 + (z0 + 13)), .ref (G.1 + (z0 + 14)), .ref (G.1 + (z0 + 15)), .int (iI 1), .int 0, .int 0, .ref (G.1 + (z0 + 16)), .ref (G.1 + (z0 + 17)), .ref (G.1 + (z0 + 18)), .ref (G.1 + (z0 + 19)), .ref (G.1 + (z0 + 20)), .ref (G.1 + (z0 + 21)), .ref (G.1 + (z0 + 22)), .ref (G.1 + (z0 + 23)), .ref (G.1 + (z0 + 24)), .ref (G.1 + (z0 + 25)), .ref (G.1 + (z0 + 26)), .ref (G.1 + (z0 + 27)), .ref (G.1 + (z0 + 28)), .ref (G.1 + (z0 + 29)), .int 0, .int 0, .null, .null, .null, .null, .null, .int 0, .null, .null, .null, .null, .int 0, .int 0, .null, .null, .null, .null, .null, .null])) H := ho
  replace gr := gGr_k gr (fun q h1 h2 h3 => hk q (by omega))
  rw [← hz9] at hz; clear hz9 hk
  refine lv_aload_n X.1 X.2.1 dX12_init_240 rfl (lv_at hl.1 0 rfl) ?_
  refine lv_bipush X.1 X.2.1 dX12_init_241 (v := iI 56) (by decide) ?_
  refine c_newa X (t0 := 0) k_124 rfl rfl (fun cA h1 h2 => gRA_eq h1 h2) hz hS (a0 := (56, .inl (fun _ => 0))) (fun _ => rfl) (by decide) (N' := 56) (by decide) (by decide) (Nat.le_of_ble_eq_true rfl) (Nat.le_of_ble_eq_true rfl) dX12_init_243 ?_
  clear hS
  intro H hn30 hz9 hk hS
  replace ho := gC_k ho (hk _ (by omega))
  replace gr := gGr_k gr (fun q h1 h2 h3 => hk q (by omega))
  replace hz : H.size = G.1 + (z0 + 31) := hz9.trans (by omega)
  clear hz9 hk
  replace gr := gGr_s (n := 30) gr hn30
  refine c_putF X hini cX12 ho (Or.inl rfl) hS 38 (by decide) k_1248 rfl rfl rfl (tk := (.array .int)) (by decide +kernel) (v := .ref (G.1 + (z0 + 30))) rfl rfl (Nat.le_of_ble_eq_true rfl) dX12_init_245 ?_
  clear hS ho
  intro H locs ho hz9 hk hS
  replace ho : gC G (p0) (.inr (12, [.int 0, .ref (G.1 + (z0)), .ref (G.1 + (z0 + 1)), .ref (G.1 + (z0 + 2)), .int 0, .ref (G.1 + (z0 + 3)), .ref (G.1 + (z0 + 4)), .int 0, .ref (G.1 + (z0 + 5)), .ref (G.1 + (z0 + 6)), .ref (G.1 + (z0 + 7)), .ref (G.1 + (z0 + 8)), .ref (G.1 + (z0 + 9)), .ref (G.1 + (z0 + 10)), .ref (G.1 + (z0 + 11)), .ref (G.1 + (z0 + 12)), .ref (G.1 + (z0 + 13)), .ref (G.1 + (z0 + 14)), .ref (G.1 + (z0 + 15)), .int (iI 1), .int 0, .int 0, .ref (G.1 + (z0 + 16)), .ref (G.1 + (z0 + 17)), .ref (G.1 + (z0 + 18)), .ref (G.1 + (z0 + 19)), .ref (G.1 + (z0 + 20)), .ref (G.1 + (z0 + 21)), .ref (G.1 + (z0 + 22)), .ref (G.1 + (z0 + 23)), .ref (G.1 + (z0 + 24)), .ref (G.1 + (z0 + 25)), .ref (G.1 + (z0 + 26)), .ref (G.1 + (z0 + 27)), .ref (G.1 + (z0 + 28)), .ref (G.1 + (z0 + 29)), .int 0, .int 0, .ref (G.1 + (z0 + 30)), .null, .null, .null, .null, .int 0, .null, .null, .null, .null, .int 0, .int 0, .null, .null, .null, .null, .null, .null])) H := ho
  replace gr := gGr_k gr (fun q h1 h2 h3 => hk q (by omega))
  rw [← hz9] at hz; clear hz9 hk
  refine lv_aload_n X.1 X.2.1 dX12_init_248 rfl (lv_at hl.1 0 rfl) ?_
  refine lv_bipush X.1 X.2.1 dX12_init_249 (v := iI 56) (by decide) ?_
  refine c_newa X (t0 := 0) k_124 rfl rfl (fun cA h1 h2 => gRA_eq h1 h2) hz hS (a0 := (56, .inl (fun _ => 0))) (fun _ => rfl) (by decide) (N' := 56) (by decide) (by decide) (Nat.le_of_ble_eq_true rfl) (Nat.le_of_ble_eq_true rfl) dX12_init_251 ?_
  clear hS
  intro H hn31 hz9 hk hS
  replace ho := gC_k ho (hk _ (by omega))
  replace gr := gGr_k gr (fun q h1 h2 h3 => hk q (by omega))
  replace hz : H.size = G.1 + (z0 + 32) := hz9.trans (by omega)
  clear hz9 hk
  replace gr := gGr_s (n := 31) gr hn31
  refine c_putF X hini cX12 ho (Or.inl rfl) hS 39 (by decide) k_1249 rfl rfl rfl (tk := (.array .int)) (by decide +kernel) (v := .ref (G.1 + (z0 + 31))) rfl rfl (Nat.le_of_ble_eq_true rfl) dX12_init_253 ?_
  clear hS ho
  intro H locs ho hz9 hk hS
  replace ho : gC G (p0) (.inr (12, [.int 0, .ref (G.1 + (z0)), .ref (G.1 + (z0 + 1)), .ref (G.1 + (z0 + 2)), .int 0, .ref (G.1 + (z0 + 3)), .ref (G.1 + (z0 + 4)), .int 0, .ref (G.1 + (z0 + 5)), .ref (G.1 + (z0 + 6)), .ref (G.1 + (z0 + 7)), .ref (G.1 + (z0 + 8)), .ref (G.1 + (z0 + 9)), .ref (G.1 + (z0 + 10)), .ref (G.1 + (z0 + 11)), .ref (G.1 + (z0 + 12)), .ref (G.1 + (z0 + 13)), .ref (G.1 + (z0 + 14)), .ref (G.1 + (z0 + 15)), .int (iI 1), .int 0, .int 0, .ref (G.1 + (z0 + 16)), .ref (G.1 + (z0 + 17)), .ref (G.1 + (z0 + 18)), .ref (G.1 + (z0 + 19)), .ref (G.1 + (z0 + 20)), .ref (G.1 + (z0 + 21)), .ref (G.1 + (z0 + 22)), .ref (G.1 + (z0 + 23)), .ref (G.1 + (z0 + 24)), .ref (G.1 + (z0 + 25)), .ref (G.1 + (z0 + 26)), .ref (G.1 + (z0 + 27)), .ref (G.1 + (z0 + 28)), .ref (G.1 + (z0 + 29)), .int 0, .int 0, .ref (G.1 + (z0 + 30)), .ref (G.1 + (z0 + 31)), .null, .null, .null, .int 0, .null, .null, .null, .null, .int 0, .int 0, .null, .null, .null, .null, .null, .null])) H := ho
  replace gr := gGr_k gr (fun q h1 h2 h3 => hk q (by omega))
  rw [← hz9] at hz; clear hz9 hk
  refine lv_aload_n X.1 X.2.1 dX12_init_256 rfl (lv_at hl.1 0 rfl) ?_
  refine lv_bipush X.1 X.2.1 dX12_init_257 (v := iI 56) (by decide) ?_
  refine c_newa X (t0 := 0) k_124 rfl rfl (fun cA h1 h2 => gRA_eq h1 h2) hz hS (a0 := (56, .inl (fun _ => 0))) (fun _ => rfl) (by decide) (N' := 56) (by decide) (by decide) (Nat.le_of_ble_eq_true rfl) (Nat.le_of_ble_eq_true rfl) dX12_init_259 ?_
  clear hS
  intro H hn32 hz9 hk hS
  replace ho := gC_k ho (hk _ (by omega))
  replace gr := gGr_k gr (fun q h1 h2 h3 => hk q (by omega))
  replace hz : H.size = G.1 + (z0 + 33) := hz9.trans (by omega)
  clear hz9 hk
  replace gr := gGr_s (n := 32) gr hn32
  refine c_putF X hini cX12 ho (Or.inl rfl) hS 40 (by decide) k_1250 rfl rfl rfl (tk := (.array .int)) (by decide +kernel) (v := .ref (G.1 + (z0 + 32))) rfl rfl (Nat.le_of_ble_eq_true rfl) dX12_init_261 ?_
  clear hS ho
  intro H locs ho hz9 hk hS
  replace ho : gC G (p0) (.inr (12, [.int 0, .ref (G.1 + (z0)), .ref (G.1 + (z0 + 1)), .ref (G.1 + (z0 + 2)), .int 0, .ref (G.1 + (z0 + 3)), .ref (G.1 + (z0 + 4)), .int 0, .ref (G.1 + (z0 + 5)), .ref (G.1 + (z0 + 6)), .ref (G.1 + (z0 + 7)), .ref (G.1 + (z0 + 8)), .ref (G.1 + (z0 + 9)), .ref (G.1 + (z0 + 10)), .ref (G.1 + (z0 + 11)), .ref (G.1 + (z0 + 12)), .ref (G.1 + (z0 + 13)), .ref (G.1 + (z0 + 14)), .ref (G.1 + (z0 + 15)), .int (iI 1), .int 0, .int 0, .ref (G.1 + (z0 + 16)), .ref (G.1 + (z0 + 17)), .ref (G.1 + (z0 + 18)), .ref (G.1 + (z0 + 19)), .ref (G.1 + (z0 + 20)), .ref (G.1 + (z0 + 21)), .ref (G.1 + (z0 + 22)), .ref (G.1 + (z0 + 23)), .ref (G.1 + (z0 + 24)), .ref (G.1 + (z0 + 25)), .ref (G.1 + (z0 + 26)), .ref (G.1 + (z0 + 27)), .ref (G.1 + (z0 + 28)), .ref (G.1 + (z0 + 29)), .int 0, .int 0, .ref (G.1 + (z0 + 30)), .ref (G.1 + (z0 + 31)), .ref (G.1 + (z0 + 32)), .null, .null, .int 0, .null, .null, .null, .null, .int 0, .int 0, .null, .null, .null, .null, .null, .null])) H := ho
  replace gr := gGr_k gr (fun q h1 h2 h3 => hk q (by omega))
  rw [← hz9] at hz; clear hz9 hk
  refine lv_aload_n X.1 X.2.1 dX12_init_264 rfl (lv_at hl.1 0 rfl) ?_
  refine lv_bipush X.1 X.2.1 dX12_init_265 (v := iI 56) (by decide) ?_
  refine c_newa X (t0 := 0) k_124 rfl rfl (fun cA h1 h2 => gRA_eq h1 h2) hz hS (a0 := (56, .inl (fun _ => 0))) (fun _ => rfl) (by decide) (N' := 56) (by decide) (by decide) (Nat.le_of_ble_eq_true rfl) (Nat.le_of_ble_eq_true rfl) dX12_init_267 ?_
  clear hS
  intro H hn33 hz9 hk hS
  replace ho := gC_k ho (hk _ (by omega))
  replace gr := gGr_k gr (fun q h1 h2 h3 => hk q (by omega))
  replace hz : H.size = G.1 + (z0 + 34) := hz9.trans (by omega)
  clear hz9 hk
  replace gr := gGr_s (n := 33) gr hn33
  refine c_putF X hini cX12 ho (Or.inl rfl) hS 41 (by decide) k_1251 rfl rfl rfl (tk := (.array .int)) (by decide +kernel) (v := .ref (G.1 + (z0 + 33))) rfl rfl (Nat.le_of_ble_eq_true rfl) dX12_init_269 ?_
  clear hS ho
  intro H locs ho hz9 hk hS
  replace ho : gC G (p0) (.inr (12, [.int 0, .ref (G.1 + (z0)), .ref (G.1 + (z0 + 1)), .ref (G.1 + (z0 + 2)), .int 0, .ref (G.1 + (z0 + 3)), .ref (G.1 + (z0 + 4)), .int 0, .ref (G.1 + (z0 + 5)), .ref (G.1 + (z0 + 6)), .ref (G.1 + (z0 + 7)), .ref (G.1 + (z0 + 8)), .ref (G.1 + (z0 + 9)), .ref (G.1 + (z0 + 10)), .ref (G.1 + (z0 + 11)), .ref (G.1 + (z0 + 12)), .ref (G.1 + (z0 + 13)), .ref (G.1 + (z0 + 14)), .ref (G.1 + (z0 + 15)), .int (iI 1), .int 0, .int 0, .ref (G.1 + (z0 + 16)), .ref (G.1 + (z0 + 17)), .ref (G.1 + (z0 + 18)), .ref (G.1 + (z0 + 19)), .ref (G.1 + (z0 + 20)), .ref (G.1 + (z0 + 21)), .ref (G.1 + (z0 + 22)), .ref (G.1 + (z0 + 23)), .ref (G.1 + (z0 + 24)), .ref (G.1 + (z0 + 25)), .ref (G.1 + (z0 + 26)), .ref (G.1 + (z0 + 27)), .ref (G.1 + (z0 + 28)), .ref (G.1 + (z0 + 29)), .int 0, .int 0, .ref (G.1 + (z0 + 30)), .ref (G.1 + (z0 + 31)), .ref (G.1 + (z0 + 32)), .ref (G.1 + (z0 + 33)), .null, .int 0, .null, .null, .null, .null, .int 0, .int 0, .null, .null, .null, .null, .null, .null])) H := ho
  replace gr := gGr_k gr (fun q h1 h2 h3 => hk q (by omega))
  rw [← hz9] at hz; clear hz9 hk
  refine lv_aload_n X.1 X.2.1 dX12_init_272 rfl (lv_at hl.1 0 rfl) ?_
  refine lv_bipush X.1 X.2.1 dX12_init_273 (v := iI 56) (by decide) ?_
  refine c_newa X (t0 := 1) k_1379 rfl rfl (fun cA h1 h2 => gRA_eq h1 h2) hz hS (a0 := (56, .inl (fun _ => 0))) (fun _ => rfl) (by decide) (N' := 56) (by decide) (by decide) (Nat.le_of_ble_eq_true rfl) (Nat.le_of_ble_eq_true rfl) dX12_init_275 ?_
  clear hS
  intro H hn34 hz9 hk hS
  replace ho := gC_k ho (hk _ (by omega))
  replace gr := gGr_k gr (fun q h1 h2 h3 => hk q (by omega))
  replace hz : H.size = G.1 + (z0 + 35) := hz9.trans (by omega)
  clear hz9 hk
  replace gr := gGr_s (n := 34) gr hn34
  refine c_putF X hini cX12 ho (Or.inl rfl) hS 42 (by decide) k_1252 rfl rfl rfl (tk := (.array .boolean)) (by decide +kernel) (v := .ref (G.1 + (z0 + 34))) rfl rfl (Nat.le_of_ble_eq_true rfl) dX12_init_277 ?_
  clear hS ho
  intro H locs ho hz9 hk hS
  replace ho : gC G (p0) (.inr (12, [.int 0, .ref (G.1 + (z0)), .ref (G.1 + (z0 + 1)), .ref (G.1 + (z0 + 2)), .int 0, .ref (G.1 + (z0 + 3)), .ref (G.1 + (z0 + 4)), .int 0, .ref (G.1 + (z0 + 5)), .ref (G.1 + (z0 + 6)), .ref (G.1 + (z0 + 7)), .ref (G.1 + (z0 + 8)), .ref (G.1 + (z0 + 9)), .ref (G.1 + (z0 + 10)), .ref (G.1 + (z0 + 11)), .ref (G.1 + (z0 + 12)), .ref (G.1 + (z0 + 13)), .ref (G.1 + (z0 + 14)), .ref (G.1 + (z0 + 15)), .int (iI 1), .int 0, .int 0, .ref (G.1 + (z0 + 16)), .ref (G.1 + (z0 + 17)), .ref (G.1 + (z0 + 18)), .ref (G.1 + (z0 + 19)), .ref (G.1 + (z0 + 20)), .ref (G.1 + (z0 + 21)), .ref (G.1 + (z0 + 22)), .ref (G.1 + (z0 + 23)), .ref (G.1 + (z0 + 24)), .ref (G.1 + (z0 + 25)), .ref (G.1 + (z0 + 26)), .ref (G.1 + (z0 + 27)), .ref (G.1 + (z0 + 28)), .ref (G.1 + (z0 + 29)), .int 0, .int 0, .ref (G.1 + (z0 + 30)), .ref (G.1 + (z0 + 31)), .ref (G.1 + (z0 + 32)), .ref (G.1 + (z0 + 33)), .ref (G.1 + (z0 + 34)), .int 0, .null, .null, .null, .null, .int 0, .int 0, .null, .null, .null, .null, .null, .null])) H := ho
  replace gr := gGr_k gr (fun q h1 h2 h3 => hk q (by omega))
  rw [← hz9] at hz; clear hz9 hk
  refine lv_aload_n X.1 X.2.1 dX12_init_280 rfl (lv_at hl.1 0 rfl) ?_
  refine lv_bipush X.1 X.2.1 dX12_init_281 (v := iI 56) (by decide) ?_
  refine c_newa X (t0 := 0) k_124 rfl rfl (fun cA h1 h2 => gRA_eq h1 h2) hz hS (a0 := (56, .inl (fun _ => 0))) (fun _ => rfl) (by decide) (N' := 56) (by decide) (by decide) (Nat.le_of_ble_eq_true rfl) (Nat.le_of_ble_eq_true rfl) dX12_init_283 ?_
  clear hS
  intro H hn35 hz9 hk hS
  replace ho := gC_k ho (hk _ (by omega))
  replace gr := gGr_k gr (fun q h1 h2 h3 => hk q (by omega))
  replace hz : H.size = G.1 + (z0 + 36) := hz9.trans (by omega)
  clear hz9 hk
  replace gr := gGr_s (n := 35) gr hn35
  refine c_putF X hini cX12 ho (Or.inl rfl) hS 44 (by decide) k_1254 rfl rfl rfl (tk := (.array .int)) (by decide +kernel) (v := .ref (G.1 + (z0 + 35))) rfl rfl (Nat.le_of_ble_eq_true rfl) dX12_init_285 ?_
  clear hS ho
  intro H locs ho hz9 hk hS
  replace ho : gC G (p0) (.inr (12, [.int 0, .ref (G.1 + (z0)), .ref (G.1 + (z0 + 1)), .ref (G.1 + (z0 + 2)), .int 0, .ref (G.1 + (z0 + 3)), .ref (G.1 + (z0 + 4)), .int 0, .ref (G.1 + (z0 + 5)), .ref (G.1 + (z0 + 6)), .ref (G.1 + (z0 + 7)), .ref (G.1 + (z0 + 8)), .ref (G.1 + (z0 + 9)), .ref (G.1 + (z0 + 10)), .ref (G.1 + (z0 + 11)), .ref (G.1 + (z0 + 12)), .ref (G.1 + (z0 + 13)), .ref (G.1 + (z0 + 14)), .ref (G.1 + (z0 + 15)), .int (iI 1), .int 0, .int 0, .ref (G.1 + (z0 + 16)), .ref (G.1 + (z0 + 17)), .ref (G.1 + (z0 + 18)), .ref (G.1 + (z0 + 19)), .ref (G.1 + (z0 + 20)), .ref (G.1 + (z0 + 21)), .ref (G.1 + (z0 + 22)), .ref (G.1 + (z0 + 23)), .ref (G.1 + (z0 + 24)), .ref (G.1 + (z0 + 25)), .ref (G.1 + (z0 + 26)), .ref (G.1 + (z0 + 27)), .ref (G.1 + (z0 + 28)), .ref (G.1 + (z0 + 29)), .int 0, .int 0, .ref (G.1 + (z0 + 30)), .ref (G.1 + (z0 + 31)), .ref (G.1 + (z0 + 32)), .ref (G.1 + (z0 + 33)), .ref (G.1 + (z0 + 34)), .int 0, .ref (G.1 + (z0 + 35)), .null, .null, .null, .int 0, .int 0, .null, .null, .null, .null, .null, .null])) H := ho
  replace gr := gGr_k gr (fun q h1 h2 h3 => hk q (by omega))
  rw [← hz9] at hz; clear hz9 hk
  refine lv_aload_n X.1 X.2.1 dX12_init_288 rfl (lv_at hl.1 0 rfl) ?_
  refine lv_bipush X.1 X.2.1 dX12_init_289 (v := iI 14) (by decide) ?_
  refine c_newa X (t0 := 0) k_124 rfl rfl (fun cA h1 h2 => gRA_eq h1 h2) hz hS (a0 := (14, .inl (fun _ => 0))) (fun _ => rfl) (by decide) (N' := 14) (by decide) (by decide) (Nat.le_of_ble_eq_true rfl) (Nat.le_of_ble_eq_true rfl) dX12_init_291 ?_
  clear hS
  intro H hn36 hz9 hk hS
  replace ho := gC_k ho (hk _ (by omega))
  replace gr := gGr_k gr (fun q h1 h2 h3 => hk q (by omega))
  replace hz : H.size = G.1 + (z0 + 37) := hz9.trans (by omega)
  clear hz9 hk
  replace gr := gGr_s (n := 36) gr hn36
  refine c_putF X hini cX12 ho (Or.inl rfl) hS 45 (by decide) k_1255 rfl rfl rfl (tk := (.array .int)) (by decide +kernel) (v := .ref (G.1 + (z0 + 36))) rfl rfl (Nat.le_of_ble_eq_true rfl) dX12_init_293 ?_
  clear hS ho
  intro H locs ho hz9 hk hS
  replace ho : gC G (p0) (.inr (12, [.int 0, .ref (G.1 + (z0)), .ref (G.1 + (z0 + 1)), .ref (G.1 + (z0 + 2)), .int 0, .ref (G.1 + (z0 + 3)), .ref (G.1 + (z0 + 4)), .int 0, .ref (G.1 + (z0 + 5)), .ref (G.1 + (z0 + 6)), .ref (G.1 + (z0 + 7)), .ref (G.1 + (z0 + 8)), .ref (G.1 + (z0 + 9)), .ref (G.1 + (z0 + 10)), .ref (G.1 + (z0 + 11)), .ref (G.1 + (z0 + 12)), .ref (G.1 + (z0 + 13)), .ref (G.1 + (z0 + 14)), .ref (G.1 + (z0 + 15)), .int (iI 1), .int 0, .int 0, .ref (G.1 + (z0 + 16)), .ref (G.1 + (z0 + 17)), .ref (G.1 + (z0 + 18)), .ref (G.1 + (z0 + 19)), .ref (G.1 + (z0 + 20)), .ref (G.1 + (z0 + 21)), .ref (G.1 + (z0 + 22)), .ref (G.1 + (z0 + 23)), .ref (G.1 + (z0 + 24)), .ref (G.1 + (z0 + 25)), .ref (G.1 + (z0 + 26)), .ref (G.1 + (z0 + 27)), .ref (G.1 + (z0 + 28)), .ref (G.1 + (z0 + 29)), .int 0, .int 0, .ref (G.1 + (z0 + 30)), .ref (G.1 + (z0 + 31)), .ref (G.1 + (z0 + 32)), .ref (G.1 + (z0 + 33)), .ref (G.1 + (z0 + 34)), .int 0, .ref (G.1 + (z0 + 35)), .ref (G.1 + (z0 + 36)), .null, .null, .int 0, .int 0, .null, .null, .null, .null, .null, .null])) H := ho
  replace gr := gGr_k gr (fun q h1 h2 h3 => hk q (by omega))
  rw [← hz9] at hz; clear hz9 hk
  refine lv_aload_n X.1 X.2.1 dX12_init_296 rfl (lv_at hl.1 0 rfl) ?_
  refine lv_bipush X.1 X.2.1 dX12_init_297 (v := iI 14) (by decide) ?_
  refine c_newa X (t0 := 0) k_124 rfl rfl (fun cA h1 h2 => gRA_eq h1 h2) hz hS (a0 := (14, .inl (fun _ => 0))) (fun _ => rfl) (by decide) (N' := 14) (by decide) (by decide) (Nat.le_of_ble_eq_true rfl) (Nat.le_of_ble_eq_true rfl) dX12_init_299 ?_
  clear hS
  intro H hn37 hz9 hk hS
  replace ho := gC_k ho (hk _ (by omega))
  replace gr := gGr_k gr (fun q h1 h2 h3 => hk q (by omega))
  replace hz : H.size = G.1 + (z0 + 38) := hz9.trans (by omega)
  clear hz9 hk
  replace gr := gGr_s (n := 37) gr hn37
  refine c_putF X hini cX12 ho (Or.inl rfl) hS 46 (by decide) k_1256 rfl rfl rfl (tk := (.array .int)) (by decide +kernel) (v := .ref (G.1 + (z0 + 37))) rfl rfl (Nat.le_of_ble_eq_true rfl) dX12_init_301 ?_
  clear hS ho
  intro H locs ho hz9 hk hS
  replace ho : gC G (p0) (.inr (12, [.int 0, .ref (G.1 + (z0)), .ref (G.1 + (z0 + 1)), .ref (G.1 + (z0 + 2)), .int 0, .ref (G.1 + (z0 + 3)), .ref (G.1 + (z0 + 4)), .int 0, .ref (G.1 + (z0 + 5)), .ref (G.1 + (z0 + 6)), .ref (G.1 + (z0 + 7)), .ref (G.1 + (z0 + 8)), .ref (G.1 + (z0 + 9)), .ref (G.1 + (z0 + 10)), .ref (G.1 + (z0 + 11)), .ref (G.1 + (z0 + 12)), .ref (G.1 + (z0 + 13)), .ref (G.1 + (z0 + 14)), .ref (G.1 + (z0 + 15)), .int (iI 1), .int 0, .int 0, .ref (G.1 + (z0 + 16)), .ref (G.1 + (z0 + 17)), .ref (G.1 + (z0 + 18)), .ref (G.1 + (z0 + 19)), .ref (G.1 + (z0 + 20)), .ref (G.1 + (z0 + 21)), .ref (G.1 + (z0 + 22)), .ref (G.1 + (z0 + 23)), .ref (G.1 + (z0 + 24)), .ref (G.1 + (z0 + 25)), .ref (G.1 + (z0 + 26)), .ref (G.1 + (z0 + 27)), .ref (G.1 + (z0 + 28)), .ref (G.1 + (z0 + 29)), .int 0, .int 0, .ref (G.1 + (z0 + 30)), .ref (G.1 + (z0 + 31)), .ref (G.1 + (z0 + 32)), .ref (G.1 + (z0 + 33)), .ref (G.1 + (z0 + 34)), .int 0, .ref (G.1 + (z0 + 35)), .ref (G.1 + (z0 + 36)), .ref (G.1 + (z0 + 37)), .null, .int 0, .int 0, .null, .null, .null, .null, .null, .null])) H := ho
  replace gr := gGr_k gr (fun q h1 h2 h3 => hk q (by omega))
  rw [← hz9] at hz; clear hz9 hk
  refine lv_aload_n X.1 X.2.1 dX12_init_304 rfl (lv_at hl.1 0 rfl) ?_
  refine lv_iconst X.1 X.2.1 dX12_init_305 (v := iI 5) rfl ?_
  refine c_newa X (t0 := 0) k_124 rfl rfl (fun cA h1 h2 => gRA_eq h1 h2) hz hS (a0 := (5, .inl (fun _ => 0))) (fun _ => rfl) (by decide) (N' := 5) (by decide) (by decide) (Nat.le_of_ble_eq_true rfl) (Nat.le_of_ble_eq_true rfl) dX12_init_306 ?_
  clear hS
  intro H hn38 hz9 hk hS
  replace ho := gC_k ho (hk _ (by omega))
  replace gr := gGr_k gr (fun q h1 h2 h3 => hk q (by omega))
  replace hz : H.size = G.1 + (z0 + 39) := hz9.trans (by omega)
  clear hz9 hk
  replace gr := gGr_s (n := 38) gr hn38
  refine c_putF X hini cX12 ho (Or.inl rfl) hS 47 (by decide) k_1257 rfl rfl rfl (tk := (.array .int)) (by decide +kernel) (v := .ref (G.1 + (z0 + 38))) rfl rfl (Nat.le_of_ble_eq_true rfl) dX12_init_308 ?_
  clear hS ho
  intro H locs ho hz9 hk hS
  replace ho : gC G (p0) (.inr (12, [.int 0, .ref (G.1 + (z0)), .ref (G.1 + (z0 + 1)), .ref (G.1 + (z0 + 2)), .int 0, .ref (G.1 + (z0 + 3)), .ref (G.1 + (z0 + 4)), .int 0, .ref (G.1 + (z0 + 5)), .ref (G.1 + (z0 + 6)), .ref (G.1 + (z0 + 7)), .ref (G.1 + (z0 + 8)), .ref (G.1 + (z0 + 9)), .ref (G.1 + (z0 + 10)), .ref (G.1 + (z0 + 11)), .ref (G.1 + (z0 + 12)), .ref (G.1 + (z0 + 13)), .ref (G.1 + (z0 + 14)), .ref (G.1 + (z0 + 15)), .int (iI 1), .int 0, .int 0, .ref (G.1 + (z0 + 16)), .ref (G.1 + (z0 + 17)), .ref (G.1 + (z0 + 18)), .ref (G.1 + (z0 + 19)), .ref (G.1 + (z0 + 20)), .ref (G.1 + (z0 + 21)), .ref (G.1 + (z0 + 22)), .ref (G.1 + (z0 + 23)), .ref (G.1 + (z0 + 24)), .ref (G.1 + (z0 + 25)), .ref (G.1 + (z0 + 26)), .ref (G.1 + (z0 + 27)), .ref (G.1 + (z0 + 28)), .ref (G.1 + (z0 + 29)), .int 0, .int 0, .ref (G.1 + (z0 + 30)), .ref (G.1 + (z0 + 31)), .ref (G.1 + (z0 + 32)), .ref (G.1 + (z0 + 33)), .ref (G.1 + (z0 + 34)), .int 0, .ref (G.1 + (z0 + 35)), .ref (G.1 + (z0 + 36)), .ref (G.1 + (z0 + 37)), .ref (G.1 + (z0 + 38)), .int 0, .int 0, .null, .null, .null, .null, .null, .null])) H := ho
  replace gr := gGr_k gr (fun q h1 h2 h3 => hk q (by omega))
  rw [← hz9] at hz; clear hz9 hk
  refine lv_aload_n X.1 X.2.1 dX12_init_311 rfl (lv_at hl.1 0 rfl) ?_
  refine lv_bipush X.1 X.2.1 dX12_init_312 (v := iI 16) (by decide) ?_
  refine c_newa X (t0 := 0) k_124 rfl rfl (fun cA h1 h2 => gRA_eq h1 h2) hz hS (a0 := (16, .inl (fun _ => 0))) (fun _ => rfl) (by decide) (N' := 16) (by decide) (by decide) (Nat.le_of_ble_eq_true rfl) (Nat.le_of_ble_eq_true rfl) dX12_init_314 ?_
  clear hS
  intro H hn39 hz9 hk hS
  replace ho := gC_k ho (hk _ (by omega))
  replace gr := gGr_k gr (fun q h1 h2 h3 => hk q (by omega))
  replace hz : H.size = G.1 + (z0 + 40) := hz9.trans (by omega)
  clear hz9 hk
  replace gr := gGr_s (n := 39) gr hn39
  refine c_putF X hini cX12 ho (Or.inl rfl) hS 50 (by decide) k_1260 rfl rfl rfl (tk := (.array .int)) (by decide +kernel) (v := .ref (G.1 + (z0 + 39))) rfl rfl (Nat.le_of_ble_eq_true rfl) dX12_init_316 ?_
  clear hS ho
  intro H locs ho hz9 hk hS
  replace ho : gC G (p0) (.inr (12, [.int 0, .ref (G.1 + (z0)), .ref (G.1 + (z0 + 1)), .ref (G.1 + (z0 + 2)), .int 0, .ref (G.1 + (z0 + 3)), .ref (G.1 + (z0 + 4)), .int 0, .ref (G.1 + (z0 + 5)), .ref (G.1 + (z0 + 6)), .ref (G.1 + (z0 + 7)), .ref (G.1 + (z0 + 8)), .ref (G.1 + (z0 + 9)), .ref (G.1 + (z0 + 10)), .ref (G.1 + (z0 + 11)), .ref (G.1 + (z0 + 12)), .ref (G.1 + (z0 + 13)), .ref (G.1 + (z0 + 14)), .ref (G.1 + (z0 + 15)), .int (iI 1), .int 0, .int 0, .ref (G.1 + (z0 + 16)), .ref (G.1 + (z0 + 17)), .ref (G.1 + (z0 + 18)), .ref (G.1 + (z0 + 19)), .ref (G.1 + (z0 + 20)), .ref (G.1 + (z0 + 21)), .ref (G.1 + (z0 + 22)), .ref (G.1 + (z0 + 23)), .ref (G.1 + (z0 + 24)), .ref (G.1 + (z0 + 25)), .ref (G.1 + (z0 + 26)), .ref (G.1 + (z0 + 27)), .ref (G.1 + (z0 + 28)), .ref (G.1 + (z0 + 29)), .int 0, .int 0, .ref (G.1 + (z0 + 30)), .ref (G.1 + (z0 + 31)), .ref (G.1 + (z0 + 32)), .ref (G.1 + (z0 + 33)), .ref (G.1 + (z0 + 34)), .int 0, .ref (G.1 + (z0 + 35)), .ref (G.1 + (z0 + 36)), .ref (G.1 + (z0 + 37)), .ref (G.1 + (z0 + 38)), .int 0, .int 0, .ref (G.1 + (z0 + 39)), .null, .null, .null, .null, .null])) H := ho
  replace gr := gGr_k gr (fun q h1 h2 h3 => hk q (by omega))
  rw [← hz9] at hz; clear hz9 hk
  refine lv_aload_n X.1 X.2.1 dX12_init_319 rfl (lv_at hl.1 0 rfl) ?_
  refine lv_bipush X.1 X.2.1 dX12_init_320 (v := iI 56) (by decide) ?_
  refine c_newa X (t0 := 0) k_124 rfl rfl (fun cA h1 h2 => gRA_eq h1 h2) hz hS (a0 := (56, .inl (fun _ => 0))) (fun _ => rfl) (by decide) (N' := 56) (by decide) (by decide) (Nat.le_of_ble_eq_true rfl) (Nat.le_of_ble_eq_true rfl) dX12_init_322 ?_
  clear hS
  intro H hn40 hz9 hk hS
  replace ho := gC_k ho (hk _ (by omega))
  replace gr := gGr_k gr (fun q h1 h2 h3 => hk q (by omega))
  replace hz : H.size = G.1 + (z0 + 41) := hz9.trans (by omega)
  clear hz9 hk
  replace gr := gGr_s (n := 40) gr hn40
  refine c_putF X hini cX12 ho (Or.inl rfl) hS 51 (by decide) k_1261 rfl rfl rfl (tk := (.array .int)) (by decide +kernel) (v := .ref (G.1 + (z0 + 40))) rfl rfl (Nat.le_of_ble_eq_true rfl) dX12_init_324 ?_
  clear hS ho
  intro H locs ho hz9 hk hS
  replace ho : gC G (p0) (.inr (12, [.int 0, .ref (G.1 + (z0)), .ref (G.1 + (z0 + 1)), .ref (G.1 + (z0 + 2)), .int 0, .ref (G.1 + (z0 + 3)), .ref (G.1 + (z0 + 4)), .int 0, .ref (G.1 + (z0 + 5)), .ref (G.1 + (z0 + 6)), .ref (G.1 + (z0 + 7)), .ref (G.1 + (z0 + 8)), .ref (G.1 + (z0 + 9)), .ref (G.1 + (z0 + 10)), .ref (G.1 + (z0 + 11)), .ref (G.1 + (z0 + 12)), .ref (G.1 + (z0 + 13)), .ref (G.1 + (z0 + 14)), .ref (G.1 + (z0 + 15)), .int (iI 1), .int 0, .int 0, .ref (G.1 + (z0 + 16)), .ref (G.1 + (z0 + 17)), .ref (G.1 + (z0 + 18)), .ref (G.1 + (z0 + 19)), .ref (G.1 + (z0 + 20)), .ref (G.1 + (z0 + 21)), .ref (G.1 + (z0 + 22)), .ref (G.1 + (z0 + 23)), .ref (G.1 + (z0 + 24)), .ref (G.1 + (z0 + 25)), .ref (G.1 + (z0 + 26)), .ref (G.1 + (z0 + 27)), .ref (G.1 + (z0 + 28)), .ref (G.1 + (z0 + 29)), .int 0, .int 0, .ref (G.1 + (z0 + 30)), .ref (G.1 + (z0 + 31)), .ref (G.1 + (z0 + 32)), .ref (G.1 + (z0 + 33)), .ref (G.1 + (z0 + 34)), .int 0, .ref (G.1 + (z0 + 35)), .ref (G.1 + (z0 + 36)), .ref (G.1 + (z0 + 37)), .ref (G.1 + (z0 + 38)), .int 0, .int 0, .ref (G.1 + (z0 + 39)), .ref (G.1 + (z0 + 40)), .null, .null, .null, .null])) H := ho
  replace gr := gGr_k gr (fun q h1 h2 h3 => hk q (by omega))
  rw [← hz9] at hz; clear hz9 hk
  refine lv_aload_n X.1 X.2.1 dX12_init_327 rfl (lv_at hl.1 0 rfl) ?_
  refine lv_bipush X.1 X.2.1 dX12_init_328 (v := iI 14) (by decide) ?_
  refine c_newa X (t0 := 0) k_124 rfl rfl (fun cA h1 h2 => gRA_eq h1 h2) hz hS (a0 := (14, .inl (fun _ => 0))) (fun _ => rfl) (by decide) (N' := 14) (by decide) (by decide) (Nat.le_of_ble_eq_true rfl) (Nat.le_of_ble_eq_true rfl) dX12_init_330 ?_
  clear hS
  intro H hn41 hz9 hk hS
  replace ho := gC_k ho (hk _ (by omega))
  replace gr := gGr_k gr (fun q h1 h2 h3 => hk q (by omega))
  replace hz : H.size = G.1 + (z0 + 42) := hz9.trans (by omega)
  clear hz9 hk
  replace gr := gGr_s (n := 41) gr hn41
  refine c_putF X hini cX12 ho (Or.inl rfl) hS 52 (by decide) k_1262 rfl rfl rfl (tk := (.array .int)) (by decide +kernel) (v := .ref (G.1 + (z0 + 41))) rfl rfl (Nat.le_of_ble_eq_true rfl) dX12_init_332 ?_
  clear hS ho
  intro H locs ho hz9 hk hS
  replace ho : gC G (p0) (.inr (12, [.int 0, .ref (G.1 + (z0)), .ref (G.1 + (z0 + 1)), .ref (G.1 + (z0 + 2)), .int 0, .ref (G.1 + (z0 + 3)), .ref (G.1 + (z0 + 4)), .int 0, .ref (G.1 + (z0 + 5)), .ref (G.1 + (z0 + 6)), .ref (G.1 + (z0 + 7)), .ref (G.1 + (z0 + 8)), .ref (G.1 + (z0 + 9)), .ref (G.1 + (z0 + 10)), .ref (G.1 + (z0 + 11)), .ref (G.1 + (z0 + 12)), .ref (G.1 + (z0 + 13)), .ref (G.1 + (z0 + 14)), .ref (G.1 + (z0 + 15)), .int (iI 1), .int 0, .int 0, .ref (G.1 + (z0 + 16)), .ref (G.1 + (z0 + 17)), .ref (G.1 + (z0 + 18)), .ref (G.1 + (z0 + 19)), .ref (G.1 + (z0 + 20)), .ref (G.1 + (z0 + 21)), .ref (G.1 + (z0 + 22)), .ref (G.1 + (z0 + 23)), .ref (G.1 + (z0 + 24)), .ref (G.1 + (z0 + 25)), .ref (G.1 + (z0 + 26)), .ref (G.1 + (z0 + 27)), .ref (G.1 + (z0 + 28)), .ref (G.1 + (z0 + 29)), .int 0, .int 0, .ref (G.1 + (z0 + 30)), .ref (G.1 + (z0 + 31)), .ref (G.1 + (z0 + 32)), .ref (G.1 + (z0 + 33)), .ref (G.1 + (z0 + 34)), .int 0, .ref (G.1 + (z0 + 35)), .ref (G.1 + (z0 + 36)), .ref (G.1 + (z0 + 37)), .ref (G.1 + (z0 + 38)), .int 0, .int 0, .ref (G.1 + (z0 + 39)), .ref (G.1 + (z0 + 40)), .ref (G.1 + (z0 + 41)), .null, .null, .null])) H := ho
  replace gr := gGr_k gr (fun q h1 h2 h3 => hk q (by omega))
  rw [← hz9] at hz; clear hz9 hk
  refine lv_aload_n X.1 X.2.1 dX12_init_335 rfl (lv_at hl.1 0 rfl) ?_
  refine lv_bipush X.1 X.2.1 dX12_init_336 (v := iI 14) (by decide) ?_
  refine c_newa X (t0 := 1) k_1379 rfl rfl (fun cA h1 h2 => gRA_eq h1 h2) hz hS (a0 := (14, .inl (fun _ => 0))) (fun _ => rfl) (by decide) (N' := 14) (by decide) (by decide) (Nat.le_of_ble_eq_true rfl) (Nat.le_of_ble_eq_true rfl) dX12_init_338 ?_
  clear hS
  intro H hn42 hz9 hk hS
  replace ho := gC_k ho (hk _ (by omega))
  replace gr := gGr_k gr (fun q h1 h2 h3 => hk q (by omega))
  replace hz : H.size = G.1 + (z0 + 43) := hz9.trans (by omega)
  clear hz9 hk
  replace gr := gGr_s (n := 42) gr hn42
  refine c_putF X hini cX12 ho (Or.inl rfl) hS 53 (by decide) k_1263 rfl rfl rfl (tk := (.array .boolean)) (by decide +kernel) (v := .ref (G.1 + (z0 + 42))) rfl rfl (Nat.le_of_ble_eq_true rfl) dX12_init_340 ?_
  clear hS ho
  intro H locs ho hz9 hk hS
  replace ho : gC G (p0) (.inr (12, [.int 0, .ref (G.1 + (z0)), .ref (G.1 + (z0 + 1)), .ref (G.1 + (z0 + 2)), .int 0, .ref (G.1 + (z0 + 3)), .ref (G.1 + (z0 + 4)), .int 0, .ref (G.1 + (z0 + 5)), .ref (G.1 + (z0 + 6)), .ref (G.1 + (z0 + 7)), .ref (G.1 + (z0 + 8)), .ref (G.1 + (z0 + 9)), .ref (G.1 + (z0 + 10)), .ref (G.1 + (z0 + 11)), .ref (G.1 + (z0 + 12)), .ref (G.1 + (z0 + 13)), .ref (G.1 + (z0 + 14)), .ref (G.1 + (z0 + 15)), .int (iI 1), .int 0, .int 0, .ref (G.1 + (z0 + 16)), .ref (G.1 + (z0 + 17)), .ref (G.1 + (z0 + 18)), .ref (G.1 + (z0 + 19)), .ref (G.1 + (z0 + 20)), .ref (G.1 + (z0 + 21)), .ref (G.1 + (z0 + 22)), .ref (G.1 + (z0 + 23)), .ref (G.1 + (z0 + 24)), .ref (G.1 + (z0 + 25)), .ref (G.1 + (z0 + 26)), .ref (G.1 + (z0 + 27)), .ref (G.1 + (z0 + 28)), .ref (G.1 + (z0 + 29)), .int 0, .int 0, .ref (G.1 + (z0 + 30)), .ref (G.1 + (z0 + 31)), .ref (G.1 + (z0 + 32)), .ref (G.1 + (z0 + 33)), .ref (G.1 + (z0 + 34)), .int 0, .ref (G.1 + (z0 + 35)), .ref (G.1 + (z0 + 36)), .ref (G.1 + (z0 + 37)), .ref (G.1 + (z0 + 38)), .int 0, .int 0, .ref (G.1 + (z0 + 39)), .ref (G.1 + (z0 + 40)), .ref (G.1 + (z0 + 41)), .ref (G.1 + (z0 + 42)), .null, .null])) H := ho
  replace gr := gGr_k gr (fun q h1 h2 h3 => hk q (by omega))
  rw [← hz9] at hz; clear hz9 hk
  refine lv_aload_n X.1 X.2.1 dX12_init_343 rfl (lv_at hl.1 0 rfl) ?_
  refine lv_bipush X.1 X.2.1 dX12_init_344 (v := iI 14) (by decide) ?_
  refine c_newa X (t0 := 0) k_124 rfl rfl (fun cA h1 h2 => gRA_eq h1 h2) hz hS (a0 := (14, .inl (fun _ => 0))) (fun _ => rfl) (by decide) (N' := 14) (by decide) (by decide) (Nat.le_of_ble_eq_true rfl) (Nat.le_of_ble_eq_true rfl) dX12_init_346 ?_
  clear hS
  intro H hn43 hz9 hk hS
  replace ho := gC_k ho (hk _ (by omega))
  replace gr := gGr_k gr (fun q h1 h2 h3 => hk q (by omega))
  replace hz : H.size = G.1 + (z0 + 44) := hz9.trans (by omega)
  clear hz9 hk
  replace gr := gGr_s (n := 43) gr hn43
  refine c_putF X hini cX12 ho (Or.inl rfl) hS 54 (by decide) k_1264 rfl rfl rfl (tk := (.array .int)) (by decide +kernel) (v := .ref (G.1 + (z0 + 43))) rfl rfl (Nat.le_of_ble_eq_true rfl) dX12_init_348 ?_
  clear hS ho
  intro H locs ho hz9 hk hS
  replace ho : gC G (p0) (.inr (12, [.int 0, .ref (G.1 + (z0)), .ref (G.1 + (z0 + 1)), .ref (G.1 + (z0 + 2)), .int 0, .ref (G.1 + (z0 + 3)), .ref (G.1 + (z0 + 4)), .int 0, .ref (G.1 + (z0 + 5)), .ref (G.1 + (z0 + 6)), .ref (G.1 + (z0 + 7)), .ref (G.1 + (z0 + 8)), .ref (G.1 + (z0 + 9)), .ref (G.1 + (z0 + 10)), .ref (G.1 + (z0 + 11)), .ref (G.1 + (z0 + 12)), .ref (G.1 + (z0 + 13)), .ref (G.1 + (z0 + 14)), .ref (G.1 + (z0 + 15)), .int (iI 1), .int 0, .int 0, .ref (G.1 + (z0 + 16)), .ref (G.1 + (z0 + 17)), .ref (G.1 + (z0 + 18)), .ref (G.1 + (z0 + 19)), .ref (G.1 + (z0 + 20)), .ref (G.1 + (z0 + 21)), .ref (G.1 + (z0 + 22)), .ref (G.1 + (z0 + 23)), .ref (G.1 + (z0 + 24)), .ref (G.1 + (z0 + 25)), .ref (G.1 + (z0 + 26)), .ref (G.1 + (z0 + 27)), .ref (G.1 + (z0 + 28)), .ref (G.1 + (z0 + 29)), .int 0, .int 0, .ref (G.1 + (z0 + 30)), .ref (G.1 + (z0 + 31)), .ref (G.1 + (z0 + 32)), .ref (G.1 + (z0 + 33)), .ref (G.1 + (z0 + 34)), .int 0, .ref (G.1 + (z0 + 35)), .ref (G.1 + (z0 + 36)), .ref (G.1 + (z0 + 37)), .ref (G.1 + (z0 + 38)), .int 0, .int 0, .ref (G.1 + (z0 + 39)), .ref (G.1 + (z0 + 40)), .ref (G.1 + (z0 + 41)), .ref (G.1 + (z0 + 42)), .ref (G.1 + (z0 + 43)), .null])) H := ho
  replace gr := gGr_k gr (fun q h1 h2 h3 => hk q (by omega))
  rw [← hz9] at hz; clear hz9 hk
  refine lv_aload_n X.1 X.2.1 dX12_init_351 rfl (lv_at hl.1 0 rfl) ?_
  refine lv_bipush X.1 X.2.1 dX12_init_352 (v := iI 14) (by decide) ?_
  refine c_newa X (t0 := 0) k_124 rfl rfl (fun cA h1 h2 => gRA_eq h1 h2) hz hS (a0 := (14, .inl (fun _ => 0))) (fun _ => rfl) (by decide) (N' := 14) (by decide) (by decide) (Nat.le_of_ble_eq_true rfl) (Nat.le_of_ble_eq_true rfl) dX12_init_354 ?_
  clear hS
  intro H hn44 hz9 hk hS
  replace ho := gC_k ho (hk _ (by omega))
  replace gr := gGr_k gr (fun q h1 h2 h3 => hk q (by omega))
  replace hz : H.size = G.1 + (z0 + 45) := hz9.trans (by omega)
  clear hz9 hk
  replace gr := gGr_s (n := 44) gr hn44
  refine c_putF X hini cX12 ho (Or.inl rfl) hS 55 (by decide) k_1265 rfl rfl rfl (tk := (.array .int)) (by decide +kernel) (v := .ref (G.1 + (z0 + 44))) rfl rfl (Nat.le_of_ble_eq_true rfl) dX12_init_356 ?_
  clear hS ho
  intro H locs ho hz9 hk hS
  replace ho : gC G (p0) (.inr (12, [.int 0, .ref (G.1 + (z0)), .ref (G.1 + (z0 + 1)), .ref (G.1 + (z0 + 2)), .int 0, .ref (G.1 + (z0 + 3)), .ref (G.1 + (z0 + 4)), .int 0, .ref (G.1 + (z0 + 5)), .ref (G.1 + (z0 + 6)), .ref (G.1 + (z0 + 7)), .ref (G.1 + (z0 + 8)), .ref (G.1 + (z0 + 9)), .ref (G.1 + (z0 + 10)), .ref (G.1 + (z0 + 11)), .ref (G.1 + (z0 + 12)), .ref (G.1 + (z0 + 13)), .ref (G.1 + (z0 + 14)), .ref (G.1 + (z0 + 15)), .int (iI 1), .int 0, .int 0, .ref (G.1 + (z0 + 16)), .ref (G.1 + (z0 + 17)), .ref (G.1 + (z0 + 18)), .ref (G.1 + (z0 + 19)), .ref (G.1 + (z0 + 20)), .ref (G.1 + (z0 + 21)), .ref (G.1 + (z0 + 22)), .ref (G.1 + (z0 + 23)), .ref (G.1 + (z0 + 24)), .ref (G.1 + (z0 + 25)), .ref (G.1 + (z0 + 26)), .ref (G.1 + (z0 + 27)), .ref (G.1 + (z0 + 28)), .ref (G.1 + (z0 + 29)), .int 0, .int 0, .ref (G.1 + (z0 + 30)), .ref (G.1 + (z0 + 31)), .ref (G.1 + (z0 + 32)), .ref (G.1 + (z0 + 33)), .ref (G.1 + (z0 + 34)), .int 0, .ref (G.1 + (z0 + 35)), .ref (G.1 + (z0 + 36)), .ref (G.1 + (z0 + 37)), .ref (G.1 + (z0 + 38)), .int 0, .int 0, .ref (G.1 + (z0 + 39)), .ref (G.1 + (z0 + 40)), .ref (G.1 + (z0 + 41)), .ref (G.1 + (z0 + 42)), .ref (G.1 + (z0 + 43)), .ref (G.1 + (z0 + 44))])) H := ho
  replace gr := gGr_k gr (fun q h1 h2 h3 => hk q (by omega))
  rw [← hz9] at hz; clear hz9 hk
  refine lv_aload_n X.1 X.2.1 dX12_init_359 rfl (lv_at hl.1 0 rfl) ?_
  refine c_get X cX12 ho 29 (by decide) k_1239 rfl (v := .ref (G.1 + (z0 + 23))) rfl dX12_init_360 ?_
  refine lv_iconst X.1 X.2.1 dX12_init_363 (v := iI 0) rfl ?_
  refine lv_iconst X.1 X.2.1 dX12_init_364 (v := iI 1) rfl ?_
  have hn23 : gC G (z0 + 23) (.inl (G.2.2 0, 4, .inl (fun _ => 0))) H := gr 23 (by decide) (by decide)
  have hn24 : gC G (z0 + 24) (.inl (G.2.2 0, 4, .inl (fun _ => 0))) H := gr 24 (by decide) (by decide)
  have hn29 : gC G (z0 + 29) (.inl (G.2.2 0, 4, .inl (fun _ => 0))) H := gr 29 (by decide) (by decide)
  have hn37 : gC G (z0 + 37) (.inl (G.2.2 0, 14, .inl (fun _ => 0))) H := gr 37 (by decide) (by decide)
  replace gr := gGr_ex [23, 24, 29, 37] gr
  refine c_iast X hn23 (Or.inr (by show G.1 + z0 ≤ G.1 + (z0 + 23); omega)) hS (iI_in (n := 4) (nmI_l (by decide)) ⟨by decide, by decide⟩) dX12_init_365 ?_
  clear hS hn23
  intro H locs hn23 hz9 hk hS
  replace hn23 : gC G (z0 + 23) (.inl (G.2.2 0, 4, .inl (upd (fun _ => 0) 0 (iI 1)))) H := hn23
  replace ho := gC_k ho (hk _ (by omega))
  replace gr := gGr_k gr (fun q h1 h2 h3 => hk q (h3 23 (by decide)))
  replace hn24 := gC_k hn24 (hk _ (by omega))
  replace hn29 := gC_k hn29 (hk _ (by omega))
  replace hn37 := gC_k hn37 (hk _ (by omega))
  rw [← hz9] at hz; clear hz9 hk
  refine lv_iconst X.1 X.2.1 dX12_init_366 (v := iI 0) rfl ?_
  refine g_istore_n X (lv' := [(1, .int (iI 0)), (0, .ref (G.1 + (p0)))]) dX12_init_367 rfl hl (by decide) rfl ?_
  clear hl
  intro ls hl
  refine lv_iload_n X.1 X.2.1 dX12_init_368 rfl (lv_at hl.1 0 rfl) ?_
  refine lv_iconst X.1 X.2.1 dX12_init_369 (v := iI 4) rfl ?_
  refine g_icmp_ge X (nmI_l (by decide)) (nmI_l (by decide)) (tgt := 393) dX12_init_370 (by decide) (fun hc => absurd (by decide) hc) (fun _ => ?_)
  refine lv_aload_n X.1 X.2.1 dX12_init_373 rfl (lv_at hl.1 1 rfl) ?_
  refine c_get X cX12 ho 30 (by decide) k_1240 rfl (v := .ref (G.1 + (z0 + 24))) rfl dX12_init_374 ?_
  refine lv_iload_n X.1 X.2.1 dX12_init_377 rfl (lv_at hl.1 0 rfl) ?_
  refine lv_iconst X.1 X.2.1 dX12_init_378 (v := iI (-1)) rfl ?_
  refine c_iast X hn24 (Or.inr (by show G.1 + z0 ≤ G.1 + (z0 + 24); omega)) hS (iI_in (n := 4) (nmI_l (by decide)) ⟨by decide, by decide⟩) dX12_init_379 ?_
  clear hS hn24
  intro H locs hn24 hz9 hk hS
  replace hn24 : gC G (z0 + 24) (.inl (G.2.2 0, 4, .inl (upd (fun _ => 0) 0 (iI (-1))))) H := hn24
  replace ho := gC_k ho (hk _ (by omega))
  replace gr := gGr_k gr (fun q h1 h2 h3 => hk q (h3 24 (by decide)))
  replace hn23 := gC_k hn23 (hk _ (by omega))
  replace hn29 := gC_k hn29 (hk _ (by omega))
  replace hn37 := gC_k hn37 (hk _ (by omega))
  rw [← hz9] at hz; clear hz9 hk
  refine lv_aload_n X.1 X.2.1 dX12_init_380 rfl (lv_at hl.1 1 rfl) ?_
  refine c_get X cX12 ho 35 (by decide) k_1245 rfl (v := .ref (G.1 + (z0 + 29))) rfl dX12_init_381 ?_
  refine lv_iload_n X.1 X.2.1 dX12_init_384 rfl (lv_at hl.1 0 rfl) ?_
  refine lv_iconst X.1 X.2.1 dX12_init_385 (v := iI (-1)) rfl ?_
  refine c_iast X hn29 (Or.inr (by show G.1 + z0 ≤ G.1 + (z0 + 29); omega)) hS (iI_in (n := 4) (nmI_l (by decide)) ⟨by decide, by decide⟩) dX12_init_386 ?_
  clear hS hn29
  intro H locs hn29 hz9 hk hS
  replace hn29 : gC G (z0 + 29) (.inl (G.2.2 0, 4, .inl (upd (fun _ => 0) 0 (iI (-1))))) H := hn29
  replace ho := gC_k ho (hk _ (by omega))
  replace gr := gGr_k gr (fun q h1 h2 h3 => hk q (h3 29 (by decide)))
  replace hn23 := gC_k hn23 (hk _ (by omega))
  replace hn24 := gC_k hn24 (hk _ (by omega))
  replace hn37 := gC_k hn37 (hk _ (by omega))
  rw [← hz9] at hz; clear hz9 hk
  refine g_iinc X (a := 0) (lv' := [(1, .int (iI 1)), (0, .ref (G.1 + (p0)))]) dX12_init_387 hl (k := 0) rfl (by decide) rfl ?_
  clear hl
  intro ls hl
  refine lv_goto (tgt := 368) X.1 X.2.1 dX12_init_390 (by decide) ?_
  refine lv_iload_n X.1 X.2.1 dX12_init_368 rfl (lv_at hl.1 0 rfl) ?_
  refine lv_iconst X.1 X.2.1 dX12_init_369 (v := iI 4) rfl ?_
  refine g_icmp_ge X (nmI_l (by decide)) (nmI_l (by decide)) (tgt := 393) dX12_init_370 (by decide) (fun hc => absurd (by decide) hc) (fun _ => ?_)
  refine lv_aload_n X.1 X.2.1 dX12_init_373 rfl (lv_at hl.1 1 rfl) ?_
  refine c_get X cX12 ho 30 (by decide) k_1240 rfl (v := .ref (G.1 + (z0 + 24))) rfl dX12_init_374 ?_
  refine lv_iload_n X.1 X.2.1 dX12_init_377 rfl (lv_at hl.1 0 rfl) ?_
  refine lv_iconst X.1 X.2.1 dX12_init_378 (v := iI (-1)) rfl ?_
  refine c_iast X hn24 (Or.inr (by show G.1 + z0 ≤ G.1 + (z0 + 24); omega)) hS (iI_in (n := 4) (nmI_l (by decide)) ⟨by decide, by decide⟩) dX12_init_379 ?_
  clear hS hn24
  intro H locs hn24 hz9 hk hS
  replace hn24 : gC G (z0 + 24) (.inl (G.2.2 0, 4, .inl (upd (upd (fun _ => 0) 0 (iI (-1))) 1 (iI (-1))))) H := hn24
  replace ho := gC_k ho (hk _ (by omega))
  replace gr := gGr_k gr (fun q h1 h2 h3 => hk q (h3 24 (by decide)))
  replace hn23 := gC_k hn23 (hk _ (by omega))
  replace hn29 := gC_k hn29 (hk _ (by omega))
  replace hn37 := gC_k hn37 (hk _ (by omega))
  rw [← hz9] at hz; clear hz9 hk
  refine lv_aload_n X.1 X.2.1 dX12_init_380 rfl (lv_at hl.1 1 rfl) ?_
  refine c_get X cX12 ho 35 (by decide) k_1245 rfl (v := .ref (G.1 + (z0 + 29))) rfl dX12_init_381 ?_
  refine lv_iload_n X.1 X.2.1 dX12_init_384 rfl (lv_at hl.1 0 rfl) ?_
  refine lv_iconst X.1 X.2.1 dX12_init_385 (v := iI (-1)) rfl ?_
  refine c_iast X hn29 (Or.inr (by show G.1 + z0 ≤ G.1 + (z0 + 29); omega)) hS (iI_in (n := 4) (nmI_l (by decide)) ⟨by decide, by decide⟩) dX12_init_386 ?_
  clear hS hn29
  intro H locs hn29 hz9 hk hS
  replace hn29 : gC G (z0 + 29) (.inl (G.2.2 0, 4, .inl (upd (upd (fun _ => 0) 0 (iI (-1))) 1 (iI (-1))))) H := hn29
  replace ho := gC_k ho (hk _ (by omega))
  replace gr := gGr_k gr (fun q h1 h2 h3 => hk q (h3 29 (by decide)))
  replace hn23 := gC_k hn23 (hk _ (by omega))
  replace hn24 := gC_k hn24 (hk _ (by omega))
  replace hn37 := gC_k hn37 (hk _ (by omega))
  rw [← hz9] at hz; clear hz9 hk
  refine g_iinc X (a := 1) (lv' := [(1, .int (iI 2)), (0, .ref (G.1 + (p0)))]) dX12_init_387 hl (k := 0) rfl (by decide) rfl ?_
  clear hl
  intro ls hl
  refine lv_goto (tgt := 368) X.1 X.2.1 dX12_init_390 (by decide) ?_
  refine lv_iload_n X.1 X.2.1 dX12_init_368 rfl (lv_at hl.1 0 rfl) ?_
  refine lv_iconst X.1 X.2.1 dX12_init_369 (v := iI 4) rfl ?_
  refine g_icmp_ge X (nmI_l (by decide)) (nmI_l (by decide)) (tgt := 393) dX12_init_370 (by decide) (fun hc => absurd (by decide) hc) (fun _ => ?_)
  refine lv_aload_n X.1 X.2.1 dX12_init_373 rfl (lv_at hl.1 1 rfl) ?_
  refine c_get X cX12 ho 30 (by decide) k_1240 rfl (v := .ref (G.1 + (z0 + 24))) rfl dX12_init_374 ?_
  refine lv_iload_n X.1 X.2.1 dX12_init_377 rfl (lv_at hl.1 0 rfl) ?_
  refine lv_iconst X.1 X.2.1 dX12_init_378 (v := iI (-1)) rfl ?_
  refine c_iast X hn24 (Or.inr (by show G.1 + z0 ≤ G.1 + (z0 + 24); omega)) hS (iI_in (n := 4) (nmI_l (by decide)) ⟨by decide, by decide⟩) dX12_init_379 ?_
  clear hS hn24
  intro H locs hn24 hz9 hk hS
  replace hn24 : gC G (z0 + 24) (.inl (G.2.2 0, 4, .inl (upd (upd (upd (fun _ => 0) 0 (iI (-1))) 1 (iI (-1))) 2 (iI (-1))))) H := hn24
  replace ho := gC_k ho (hk _ (by omega))
  replace gr := gGr_k gr (fun q h1 h2 h3 => hk q (h3 24 (by decide)))
  replace hn23 := gC_k hn23 (hk _ (by omega))
  replace hn29 := gC_k hn29 (hk _ (by omega))
  replace hn37 := gC_k hn37 (hk _ (by omega))
  rw [← hz9] at hz; clear hz9 hk
  refine lv_aload_n X.1 X.2.1 dX12_init_380 rfl (lv_at hl.1 1 rfl) ?_
  refine c_get X cX12 ho 35 (by decide) k_1245 rfl (v := .ref (G.1 + (z0 + 29))) rfl dX12_init_381 ?_
  refine lv_iload_n X.1 X.2.1 dX12_init_384 rfl (lv_at hl.1 0 rfl) ?_
  refine lv_iconst X.1 X.2.1 dX12_init_385 (v := iI (-1)) rfl ?_
  refine c_iast X hn29 (Or.inr (by show G.1 + z0 ≤ G.1 + (z0 + 29); omega)) hS (iI_in (n := 4) (nmI_l (by decide)) ⟨by decide, by decide⟩) dX12_init_386 ?_
  clear hS hn29
  intro H locs hn29 hz9 hk hS
  replace hn29 : gC G (z0 + 29) (.inl (G.2.2 0, 4, .inl (upd (upd (upd (fun _ => 0) 0 (iI (-1))) 1 (iI (-1))) 2 (iI (-1))))) H := hn29
  replace ho := gC_k ho (hk _ (by omega))
  replace gr := gGr_k gr (fun q h1 h2 h3 => hk q (h3 29 (by decide)))
  replace hn23 := gC_k hn23 (hk _ (by omega))
  replace hn24 := gC_k hn24 (hk _ (by omega))
  replace hn37 := gC_k hn37 (hk _ (by omega))
  rw [← hz9] at hz; clear hz9 hk
  refine g_iinc X (a := 2) (lv' := [(1, .int (iI 3)), (0, .ref (G.1 + (p0)))]) dX12_init_387 hl (k := 0) rfl (by decide) rfl ?_
  clear hl
  intro ls hl
  refine lv_goto (tgt := 368) X.1 X.2.1 dX12_init_390 (by decide) ?_
  refine lv_iload_n X.1 X.2.1 dX12_init_368 rfl (lv_at hl.1 0 rfl) ?_
  refine lv_iconst X.1 X.2.1 dX12_init_369 (v := iI 4) rfl ?_
  refine g_icmp_ge X (nmI_l (by decide)) (nmI_l (by decide)) (tgt := 393) dX12_init_370 (by decide) (fun hc => absurd (by decide) hc) (fun _ => ?_)
  refine lv_aload_n X.1 X.2.1 dX12_init_373 rfl (lv_at hl.1 1 rfl) ?_
  refine c_get X cX12 ho 30 (by decide) k_1240 rfl (v := .ref (G.1 + (z0 + 24))) rfl dX12_init_374 ?_
  refine lv_iload_n X.1 X.2.1 dX12_init_377 rfl (lv_at hl.1 0 rfl) ?_
  refine lv_iconst X.1 X.2.1 dX12_init_378 (v := iI (-1)) rfl ?_
  refine c_iast X hn24 (Or.inr (by show G.1 + z0 ≤ G.1 + (z0 + 24); omega)) hS (iI_in (n := 4) (nmI_l (by decide)) ⟨by decide, by decide⟩) dX12_init_379 ?_
  clear hS hn24
  intro H locs hn24 hz9 hk hS
  replace hn24 : gC G (z0 + 24) (.inl (G.2.2 0, 4, .inl (upd (upd (upd (upd (fun _ => 0) 0 (iI (-1))) 1 (iI (-1))) 2 (iI (-1))) 3 (iI (-1))))) H := hn24
  replace ho := gC_k ho (hk _ (by omega))
  replace gr := gGr_k gr (fun q h1 h2 h3 => hk q (h3 24 (by decide)))
  replace hn23 := gC_k hn23 (hk _ (by omega))
  replace hn29 := gC_k hn29 (hk _ (by omega))
  replace hn37 := gC_k hn37 (hk _ (by omega))
  rw [← hz9] at hz; clear hz9 hk
  refine lv_aload_n X.1 X.2.1 dX12_init_380 rfl (lv_at hl.1 1 rfl) ?_
  refine c_get X cX12 ho 35 (by decide) k_1245 rfl (v := .ref (G.1 + (z0 + 29))) rfl dX12_init_381 ?_
  refine lv_iload_n X.1 X.2.1 dX12_init_384 rfl (lv_at hl.1 0 rfl) ?_
  refine lv_iconst X.1 X.2.1 dX12_init_385 (v := iI (-1)) rfl ?_
  refine c_iast X hn29 (Or.inr (by show G.1 + z0 ≤ G.1 + (z0 + 29); omega)) hS (iI_in (n := 4) (nmI_l (by decide)) ⟨by decide, by decide⟩) dX12_init_386 ?_
  clear hS hn29
  intro H locs hn29 hz9 hk hS
  replace hn29 : gC G (z0 + 29) (.inl (G.2.2 0, 4, .inl (upd (upd (upd (upd (fun _ => 0) 0 (iI (-1))) 1 (iI (-1))) 2 (iI (-1))) 3 (iI (-1))))) H := hn29
  replace ho := gC_k ho (hk _ (by omega))
  replace gr := gGr_k gr (fun q h1 h2 h3 => hk q (h3 29 (by decide)))
  replace hn23 := gC_k hn23 (hk _ (by omega))
  replace hn24 := gC_k hn24 (hk _ (by omega))
  replace hn37 := gC_k hn37 (hk _ (by omega))
  rw [← hz9] at hz; clear hz9 hk
  refine g_iinc X (a := 3) (lv' := [(1, .int (iI 4)), (0, .ref (G.1 + (p0)))]) dX12_init_387 hl (k := 0) rfl (by decide) rfl ?_
  clear hl
  intro ls hl
  refine lv_goto (tgt := 368) X.1 X.2.1 dX12_init_390 (by decide) ?_
  refine lv_iload_n X.1 X.2.1 dX12_init_368 rfl (lv_at hl.1 0 rfl) ?_
  refine lv_iconst X.1 X.2.1 dX12_init_369 (v := iI 4) rfl ?_
  refine g_icmp_ge X (nmI_l (by decide)) (nmI_l (by decide)) (tgt := 393) dX12_init_370 (by decide) (fun _ => ?_) (fun hc => absurd hc (by decide))
  refine lv_iconst X.1 X.2.1 dX12_init_393 (v := iI 0) rfl ?_
  refine g_istore_n X (lv' := [(1, .int (iI 0)), (0, .ref (G.1 + (p0)))]) dX12_init_394 rfl hl (by decide) rfl ?_
  clear hl
  intro ls hl
  refine lv_iload_n X.1 X.2.1 dX12_init_395 rfl (lv_at hl.1 0 rfl) ?_
  refine lv_bipush X.1 X.2.1 dX12_init_396 (v := iI 14) (by decide) ?_
  refine g_icmp_ge X (nmI_l (by decide)) (nmI_l (by decide)) (tgt := 414) dX12_init_398 (by decide) (fun hc => absurd (by decide) hc) (fun _ => ?_)
  refine lv_aload_n X.1 X.2.1 dX12_init_401 rfl (lv_at hl.1 1 rfl) ?_
  refine c_get X cX12 ho 46 (by decide) k_1256 rfl (v := .ref (G.1 + (z0 + 37))) rfl dX12_init_402 ?_
  refine lv_iload_n X.1 X.2.1 dX12_init_405 rfl (lv_at hl.1 0 rfl) ?_
  refine lv_iconst X.1 X.2.1 dX12_init_406 (v := iI (-1)) rfl ?_
  refine c_iast X hn37 (Or.inr (by show G.1 + z0 ≤ G.1 + (z0 + 37); omega)) hS (iI_in (n := 14) (nmI_l (by decide)) ⟨by decide, by decide⟩) dX12_init_407 ?_
  clear hS hn37
  intro H locs hn37 hz9 hk hS
  replace hn37 : gC G (z0 + 37) (.inl (G.2.2 0, 14, .inl (upd (fun _ => 0) 0 (iI (-1))))) H := hn37
  replace ho := gC_k ho (hk _ (by omega))
  replace gr := gGr_k gr (fun q h1 h2 h3 => hk q (h3 37 (by decide)))
  replace hn23 := gC_k hn23 (hk _ (by omega))
  replace hn24 := gC_k hn24 (hk _ (by omega))
  replace hn29 := gC_k hn29 (hk _ (by omega))
  rw [← hz9] at hz; clear hz9 hk
  refine g_iinc X (a := 0) (lv' := [(1, .int (iI 1)), (0, .ref (G.1 + (p0)))]) dX12_init_408 hl (k := 0) rfl (by decide) rfl ?_
  clear hl
  intro ls hl
  refine lv_goto (tgt := 395) X.1 X.2.1 dX12_init_411 (by decide) ?_
  refine lv_iload_n X.1 X.2.1 dX12_init_395 rfl (lv_at hl.1 0 rfl) ?_
  refine lv_bipush X.1 X.2.1 dX12_init_396 (v := iI 14) (by decide) ?_
  refine g_icmp_ge X (nmI_l (by decide)) (nmI_l (by decide)) (tgt := 414) dX12_init_398 (by decide) (fun hc => absurd (by decide) hc) (fun _ => ?_)
  refine lv_aload_n X.1 X.2.1 dX12_init_401 rfl (lv_at hl.1 1 rfl) ?_
  refine c_get X cX12 ho 46 (by decide) k_1256 rfl (v := .ref (G.1 + (z0 + 37))) rfl dX12_init_402 ?_
  refine lv_iload_n X.1 X.2.1 dX12_init_405 rfl (lv_at hl.1 0 rfl) ?_
  refine lv_iconst X.1 X.2.1 dX12_init_406 (v := iI (-1)) rfl ?_
  refine c_iast X hn37 (Or.inr (by show G.1 + z0 ≤ G.1 + (z0 + 37); omega)) hS (iI_in (n := 14) (nmI_l (by decide)) ⟨by decide, by decide⟩) dX12_init_407 ?_
  clear hS hn37
  intro H locs hn37 hz9 hk hS
  replace hn37 : gC G (z0 + 37) (.inl (G.2.2 0, 14, .inl (upd (upd (fun _ => 0) 0 (iI (-1))) 1 (iI (-1))))) H := hn37
  replace ho := gC_k ho (hk _ (by omega))
  replace gr := gGr_k gr (fun q h1 h2 h3 => hk q (h3 37 (by decide)))
  replace hn23 := gC_k hn23 (hk _ (by omega))
  replace hn24 := gC_k hn24 (hk _ (by omega))
  replace hn29 := gC_k hn29 (hk _ (by omega))
  rw [← hz9] at hz; clear hz9 hk
  refine g_iinc X (a := 1) (lv' := [(1, .int (iI 2)), (0, .ref (G.1 + (p0)))]) dX12_init_408 hl (k := 0) rfl (by decide) rfl ?_
  clear hl
  intro ls hl
  refine lv_goto (tgt := 395) X.1 X.2.1 dX12_init_411 (by decide) ?_
  refine lv_iload_n X.1 X.2.1 dX12_init_395 rfl (lv_at hl.1 0 rfl) ?_
  refine lv_bipush X.1 X.2.1 dX12_init_396 (v := iI 14) (by decide) ?_
  refine g_icmp_ge X (nmI_l (by decide)) (nmI_l (by decide)) (tgt := 414) dX12_init_398 (by decide) (fun hc => absurd (by decide) hc) (fun _ => ?_)
  refine lv_aload_n X.1 X.2.1 dX12_init_401 rfl (lv_at hl.1 1 rfl) ?_
  refine c_get X cX12 ho 46 (by decide) k_1256 rfl (v := .ref (G.1 + (z0 + 37))) rfl dX12_init_402 ?_
  refine lv_iload_n X.1 X.2.1 dX12_init_405 rfl (lv_at hl.1 0 rfl) ?_
  refine lv_iconst X.1 X.2.1 dX12_init_406 (v := iI (-1)) rfl ?_
  refine c_iast X hn37 (Or.inr (by show G.1 + z0 ≤ G.1 + (z0 + 37); omega)) hS (iI_in (n := 14) (nmI_l (by decide)) ⟨by decide, by decide⟩) dX12_init_407 ?_
  clear hS hn37
  intro H locs hn37 hz9 hk hS
  replace hn37 : gC G (z0 + 37) (.inl (G.2.2 0, 14, .inl (upd (upd (upd (fun _ => 0) 0 (iI (-1))) 1 (iI (-1))) 2 (iI (-1))))) H := hn37
  replace ho := gC_k ho (hk _ (by omega))
  replace gr := gGr_k gr (fun q h1 h2 h3 => hk q (h3 37 (by decide)))
  replace hn23 := gC_k hn23 (hk _ (by omega))
  replace hn24 := gC_k hn24 (hk _ (by omega))
  replace hn29 := gC_k hn29 (hk _ (by omega))
  rw [← hz9] at hz; clear hz9 hk
  refine g_iinc X (a := 2) (lv' := [(1, .int (iI 3)), (0, .ref (G.1 + (p0)))]) dX12_init_408 hl (k := 0) rfl (by decide) rfl ?_
  clear hl
  intro ls hl
  refine lv_goto (tgt := 395) X.1 X.2.1 dX12_init_411 (by decide) ?_
  refine lv_iload_n X.1 X.2.1 dX12_init_395 rfl (lv_at hl.1 0 rfl) ?_
  refine lv_bipush X.1 X.2.1 dX12_init_396 (v := iI 14) (by decide) ?_
  refine g_icmp_ge X (nmI_l (by decide)) (nmI_l (by decide)) (tgt := 414) dX12_init_398 (by decide) (fun hc => absurd (by decide) hc) (fun _ => ?_)
  refine lv_aload_n X.1 X.2.1 dX12_init_401 rfl (lv_at hl.1 1 rfl) ?_
  refine c_get X cX12 ho 46 (by decide) k_1256 rfl (v := .ref (G.1 + (z0 + 37))) rfl dX12_init_402 ?_
  refine lv_iload_n X.1 X.2.1 dX12_init_405 rfl (lv_at hl.1 0 rfl) ?_
  refine lv_iconst X.1 X.2.1 dX12_init_406 (v := iI (-1)) rfl ?_
  refine c_iast X hn37 (Or.inr (by show G.1 + z0 ≤ G.1 + (z0 + 37); omega)) hS (iI_in (n := 14) (nmI_l (by decide)) ⟨by decide, by decide⟩) dX12_init_407 ?_
  clear hS hn37
  intro H locs hn37 hz9 hk hS
  replace hn37 : gC G (z0 + 37) (.inl (G.2.2 0, 14, .inl (upd (upd (upd (upd (fun _ => 0) 0 (iI (-1))) 1 (iI (-1))) 2 (iI (-1))) 3 (iI (-1))))) H := hn37
  replace ho := gC_k ho (hk _ (by omega))
  replace gr := gGr_k gr (fun q h1 h2 h3 => hk q (h3 37 (by decide)))
  replace hn23 := gC_k hn23 (hk _ (by omega))
  replace hn24 := gC_k hn24 (hk _ (by omega))
  replace hn29 := gC_k hn29 (hk _ (by omega))
  rw [← hz9] at hz; clear hz9 hk
  refine g_iinc X (a := 3) (lv' := [(1, .int (iI 4)), (0, .ref (G.1 + (p0)))]) dX12_init_408 hl (k := 0) rfl (by decide) rfl ?_
  clear hl
  intro ls hl
  refine lv_goto (tgt := 395) X.1 X.2.1 dX12_init_411 (by decide) ?_
  refine lv_iload_n X.1 X.2.1 dX12_init_395 rfl (lv_at hl.1 0 rfl) ?_
  refine lv_bipush X.1 X.2.1 dX12_init_396 (v := iI 14) (by decide) ?_
  refine g_icmp_ge X (nmI_l (by decide)) (nmI_l (by decide)) (tgt := 414) dX12_init_398 (by decide) (fun hc => absurd (by decide) hc) (fun _ => ?_)
  refine lv_aload_n X.1 X.2.1 dX12_init_401 rfl (lv_at hl.1 1 rfl) ?_
  refine c_get X cX12 ho 46 (by decide) k_1256 rfl (v := .ref (G.1 + (z0 + 37))) rfl dX12_init_402 ?_
  refine lv_iload_n X.1 X.2.1 dX12_init_405 rfl (lv_at hl.1 0 rfl) ?_
  refine lv_iconst X.1 X.2.1 dX12_init_406 (v := iI (-1)) rfl ?_
  refine c_iast X hn37 (Or.inr (by show G.1 + z0 ≤ G.1 + (z0 + 37); omega)) hS (iI_in (n := 14) (nmI_l (by decide)) ⟨by decide, by decide⟩) dX12_init_407 ?_
  clear hS hn37
  intro H locs hn37 hz9 hk hS
  replace hn37 : gC G (z0 + 37) (.inl (G.2.2 0, 14, .inl (upd (upd (upd (upd (upd (fun _ => 0) 0 (iI (-1))) 1 (iI (-1))) 2 (iI (-1))) 3 (iI (-1))) 4 (iI (-1))))) H := hn37
  replace ho := gC_k ho (hk _ (by omega))
  replace gr := gGr_k gr (fun q h1 h2 h3 => hk q (h3 37 (by decide)))
  replace hn23 := gC_k hn23 (hk _ (by omega))
  replace hn24 := gC_k hn24 (hk _ (by omega))
  replace hn29 := gC_k hn29 (hk _ (by omega))
  rw [← hz9] at hz; clear hz9 hk
  refine g_iinc X (a := 4) (lv' := [(1, .int (iI 5)), (0, .ref (G.1 + (p0)))]) dX12_init_408 hl (k := 0) rfl (by decide) rfl ?_
  clear hl
  intro ls hl
  refine lv_goto (tgt := 395) X.1 X.2.1 dX12_init_411 (by decide) ?_
  refine lv_iload_n X.1 X.2.1 dX12_init_395 rfl (lv_at hl.1 0 rfl) ?_
  refine lv_bipush X.1 X.2.1 dX12_init_396 (v := iI 14) (by decide) ?_
  refine g_icmp_ge X (nmI_l (by decide)) (nmI_l (by decide)) (tgt := 414) dX12_init_398 (by decide) (fun hc => absurd (by decide) hc) (fun _ => ?_)
  refine lv_aload_n X.1 X.2.1 dX12_init_401 rfl (lv_at hl.1 1 rfl) ?_
  refine c_get X cX12 ho 46 (by decide) k_1256 rfl (v := .ref (G.1 + (z0 + 37))) rfl dX12_init_402 ?_
  refine lv_iload_n X.1 X.2.1 dX12_init_405 rfl (lv_at hl.1 0 rfl) ?_
  refine lv_iconst X.1 X.2.1 dX12_init_406 (v := iI (-1)) rfl ?_
  refine c_iast X hn37 (Or.inr (by show G.1 + z0 ≤ G.1 + (z0 + 37); omega)) hS (iI_in (n := 14) (nmI_l (by decide)) ⟨by decide, by decide⟩) dX12_init_407 ?_
  clear hS hn37
  intro H locs hn37 hz9 hk hS
  replace hn37 : gC G (z0 + 37) (.inl (G.2.2 0, 14, .inl (upd (upd (upd (upd (upd (upd (fun _ => 0) 0 (iI (-1))) 1 (iI (-1))) 2 (iI (-1))) 3 (iI (-1))) 4 (iI (-1))) 5 (iI (-1))))) H := hn37
  replace ho := gC_k ho (hk _ (by omega))
  replace gr := gGr_k gr (fun q h1 h2 h3 => hk q (h3 37 (by decide)))
  replace hn23 := gC_k hn23 (hk _ (by omega))
  replace hn24 := gC_k hn24 (hk _ (by omega))
  replace hn29 := gC_k hn29 (hk _ (by omega))
  rw [← hz9] at hz; clear hz9 hk
  refine g_iinc X (a := 5) (lv' := [(1, .int (iI 6)), (0, .ref (G.1 + (p0)))]) dX12_init_408 hl (k := 0) rfl (by decide) rfl ?_
  clear hl
  intro ls hl
  refine lv_goto (tgt := 395) X.1 X.2.1 dX12_init_411 (by decide) ?_
  refine lv_iload_n X.1 X.2.1 dX12_init_395 rfl (lv_at hl.1 0 rfl) ?_
  refine lv_bipush X.1 X.2.1 dX12_init_396 (v := iI 14) (by decide) ?_
  refine g_icmp_ge X (nmI_l (by decide)) (nmI_l (by decide)) (tgt := 414) dX12_init_398 (by decide) (fun hc => absurd (by decide) hc) (fun _ => ?_)
  refine lv_aload_n X.1 X.2.1 dX12_init_401 rfl (lv_at hl.1 1 rfl) ?_
  refine c_get X cX12 ho 46 (by decide) k_1256 rfl (v := .ref (G.1 + (z0 + 37))) rfl dX12_init_402 ?_
  refine lv_iload_n X.1 X.2.1 dX12_init_405 rfl (lv_at hl.1 0 rfl) ?_
  refine lv_iconst X.1 X.2.1 dX12_init_406 (v := iI (-1)) rfl ?_
  refine c_iast X hn37 (Or.inr (by show G.1 + z0 ≤ G.1 + (z0 + 37); omega)) hS (iI_in (n := 14) (nmI_l (by decide)) ⟨by decide, by decide⟩) dX12_init_407 ?_
  clear hS hn37
  intro H locs hn37 hz9 hk hS
  replace hn37 : gC G (z0 + 37) (.inl (G.2.2 0, 14, .inl (upd (upd (upd (upd (upd (upd (upd (fun _ => 0) 0 (iI (-1))) 1 (iI (-1))) 2 (iI (-1))) 3 (iI (-1))) 4 (iI (-1))) 5 (iI (-1))) 6 (iI (-1))))) H := hn37
  replace ho := gC_k ho (hk _ (by omega))
  replace gr := gGr_k gr (fun q h1 h2 h3 => hk q (h3 37 (by decide)))
  replace hn23 := gC_k hn23 (hk _ (by omega))
  replace hn24 := gC_k hn24 (hk _ (by omega))
  replace hn29 := gC_k hn29 (hk _ (by omega))
  rw [← hz9] at hz; clear hz9 hk
  refine g_iinc X (a := 6) (lv' := [(1, .int (iI 7)), (0, .ref (G.1 + (p0)))]) dX12_init_408 hl (k := 0) rfl (by decide) rfl ?_
  clear hl
  intro ls hl
  refine lv_goto (tgt := 395) X.1 X.2.1 dX12_init_411 (by decide) ?_
  refine lv_iload_n X.1 X.2.1 dX12_init_395 rfl (lv_at hl.1 0 rfl) ?_
  refine lv_bipush X.1 X.2.1 dX12_init_396 (v := iI 14) (by decide) ?_
  refine g_icmp_ge X (nmI_l (by decide)) (nmI_l (by decide)) (tgt := 414) dX12_init_398 (by decide) (fun hc => absurd (by decide) hc) (fun _ => ?_)
  refine lv_aload_n X.1 X.2.1 dX12_init_401 rfl (lv_at hl.1 1 rfl) ?_
  refine c_get X cX12 ho 46 (by decide) k_1256 rfl (v := .ref (G.1 + (z0 + 37))) rfl dX12_init_402 ?_
  refine lv_iload_n X.1 X.2.1 dX12_init_405 rfl (lv_at hl.1 0 rfl) ?_
  refine lv_iconst X.1 X.2.1 dX12_init_406 (v := iI (-1)) rfl ?_
  refine c_iast X hn37 (Or.inr (by show G.1 + z0 ≤ G.1 + (z0 + 37); omega)) hS (iI_in (n := 14) (nmI_l (by decide)) ⟨by decide, by decide⟩) dX12_init_407 ?_
  clear hS hn37
  intro H locs hn37 hz9 hk hS
  replace hn37 : gC G (z0 + 37) (.inl (G.2.2 0, 14, .inl (upd (upd (upd (upd (upd (upd (upd (upd (fun _ => 0) 0 (iI (-1))) 1 (iI (-1))) 2 (iI (-1))) 3 (iI (-1))) 4 (iI (-1))) 5 (iI (-1))) 6 (iI (-1))) 7 (iI (-1))))) H := hn37
  replace ho := gC_k ho (hk _ (by omega))
  replace gr := gGr_k gr (fun q h1 h2 h3 => hk q (h3 37 (by decide)))
  replace hn23 := gC_k hn23 (hk _ (by omega))
  replace hn24 := gC_k hn24 (hk _ (by omega))
  replace hn29 := gC_k hn29 (hk _ (by omega))
  rw [← hz9] at hz; clear hz9 hk
  refine g_iinc X (a := 7) (lv' := [(1, .int (iI 8)), (0, .ref (G.1 + (p0)))]) dX12_init_408 hl (k := 0) rfl (by decide) rfl ?_
  clear hl
  intro ls hl
  refine lv_goto (tgt := 395) X.1 X.2.1 dX12_init_411 (by decide) ?_
  refine lv_iload_n X.1 X.2.1 dX12_init_395 rfl (lv_at hl.1 0 rfl) ?_
  refine lv_bipush X.1 X.2.1 dX12_init_396 (v := iI 14) (by decide) ?_
  refine g_icmp_ge X (nmI_l (by decide)) (nmI_l (by decide)) (tgt := 414) dX12_init_398 (by decide) (fun hc => absurd (by decide) hc) (fun _ => ?_)
  refine lv_aload_n X.1 X.2.1 dX12_init_401 rfl (lv_at hl.1 1 rfl) ?_
  refine c_get X cX12 ho 46 (by decide) k_1256 rfl (v := .ref (G.1 + (z0 + 37))) rfl dX12_init_402 ?_
  refine lv_iload_n X.1 X.2.1 dX12_init_405 rfl (lv_at hl.1 0 rfl) ?_
  refine lv_iconst X.1 X.2.1 dX12_init_406 (v := iI (-1)) rfl ?_
  refine c_iast X hn37 (Or.inr (by show G.1 + z0 ≤ G.1 + (z0 + 37); omega)) hS (iI_in (n := 14) (nmI_l (by decide)) ⟨by decide, by decide⟩) dX12_init_407 ?_
  clear hS hn37
  intro H locs hn37 hz9 hk hS
  replace hn37 : gC G (z0 + 37) (.inl (G.2.2 0, 14, .inl (upd (upd (upd (upd (upd (upd (upd (upd (upd (fun _ => 0) 0 (iI (-1))) 1 (iI (-1))) 2 (iI (-1))) 3 (iI (-1))) 4 (iI (-1))) 5 (iI (-1))) 6 (iI (-1))) 7 (iI (-1))) 8 (iI (-1))))) H := hn37
  replace ho := gC_k ho (hk _ (by omega))
  replace gr := gGr_k gr (fun q h1 h2 h3 => hk q (h3 37 (by decide)))
  replace hn23 := gC_k hn23 (hk _ (by omega))
  replace hn24 := gC_k hn24 (hk _ (by omega))
  replace hn29 := gC_k hn29 (hk _ (by omega))
  rw [← hz9] at hz; clear hz9 hk
  refine g_iinc X (a := 8) (lv' := [(1, .int (iI 9)), (0, .ref (G.1 + (p0)))]) dX12_init_408 hl (k := 0) rfl (by decide) rfl ?_
  clear hl
  intro ls hl
  refine lv_goto (tgt := 395) X.1 X.2.1 dX12_init_411 (by decide) ?_
  refine lv_iload_n X.1 X.2.1 dX12_init_395 rfl (lv_at hl.1 0 rfl) ?_
  refine lv_bipush X.1 X.2.1 dX12_init_396 (v := iI 14) (by decide) ?_
  refine g_icmp_ge X (nmI_l (by decide)) (nmI_l (by decide)) (tgt := 414) dX12_init_398 (by decide) (fun hc => absurd (by decide) hc) (fun _ => ?_)
  refine lv_aload_n X.1 X.2.1 dX12_init_401 rfl (lv_at hl.1 1 rfl) ?_
  refine c_get X cX12 ho 46 (by decide) k_1256 rfl (v := .ref (G.1 + (z0 + 37))) rfl dX12_init_402 ?_
  refine lv_iload_n X.1 X.2.1 dX12_init_405 rfl (lv_at hl.1 0 rfl) ?_
  refine lv_iconst X.1 X.2.1 dX12_init_406 (v := iI (-1)) rfl ?_
  refine c_iast X hn37 (Or.inr (by show G.1 + z0 ≤ G.1 + (z0 + 37); omega)) hS (iI_in (n := 14) (nmI_l (by decide)) ⟨by decide, by decide⟩) dX12_init_407 ?_
  clear hS hn37
  intro H locs hn37 hz9 hk hS
  replace hn37 : gC G (z0 + 37) (.inl (G.2.2 0, 14, .inl (upd (upd (upd (upd (upd (upd (upd (upd (upd (upd (fun _ => 0) 0 (iI (-1))) 1 (iI (-1))) 2 (iI (-1))) 3 (iI (-1))) 4 (iI (-1))) 5 (iI (-1))) 6 (iI (-1))) 7 (iI (-1))) 8 (iI (-1))) 9 (iI (-1))))) H := hn37
  replace ho := gC_k ho (hk _ (by omega))
  replace gr := gGr_k gr (fun q h1 h2 h3 => hk q (h3 37 (by decide)))
  replace hn23 := gC_k hn23 (hk _ (by omega))
  replace hn24 := gC_k hn24 (hk _ (by omega))
  replace hn29 := gC_k hn29 (hk _ (by omega))
  rw [← hz9] at hz; clear hz9 hk
  refine g_iinc X (a := 9) (lv' := [(1, .int (iI 10)), (0, .ref (G.1 + (p0)))]) dX12_init_408 hl (k := 0) rfl (by decide) rfl ?_
  clear hl
  intro ls hl
  refine lv_goto (tgt := 395) X.1 X.2.1 dX12_init_411 (by decide) ?_
  refine lv_iload_n X.1 X.2.1 dX12_init_395 rfl (lv_at hl.1 0 rfl) ?_
  refine lv_bipush X.1 X.2.1 dX12_init_396 (v := iI 14) (by decide) ?_
  refine g_icmp_ge X (nmI_l (by decide)) (nmI_l (by decide)) (tgt := 414) dX12_init_398 (by decide) (fun hc => absurd (by decide) hc) (fun _ => ?_)
  refine lv_aload_n X.1 X.2.1 dX12_init_401 rfl (lv_at hl.1 1 rfl) ?_
  refine c_get X cX12 ho 46 (by decide) k_1256 rfl (v := .ref (G.1 + (z0 + 37))) rfl dX12_init_402 ?_
  refine lv_iload_n X.1 X.2.1 dX12_init_405 rfl (lv_at hl.1 0 rfl) ?_
  refine lv_iconst X.1 X.2.1 dX12_init_406 (v := iI (-1)) rfl ?_
  refine c_iast X hn37 (Or.inr (by show G.1 + z0 ≤ G.1 + (z0 + 37); omega)) hS (iI_in (n := 14) (nmI_l (by decide)) ⟨by decide, by decide⟩) dX12_init_407 ?_
  clear hS hn37
  intro H locs hn37 hz9 hk hS
  replace hn37 : gC G (z0 + 37) (.inl (G.2.2 0, 14, .inl (upd (upd (upd (upd (upd (upd (upd (upd (upd (upd (upd (fun _ => 0) 0 (iI (-1))) 1 (iI (-1))) 2 (iI (-1))) 3 (iI (-1))) 4 (iI (-1))) 5 (iI (-1))) 6 (iI (-1))) 7 (iI (-1))) 8 (iI (-1))) 9 (iI (-1))) 10 (iI (-1))))) H := hn37
  replace ho := gC_k ho (hk _ (by omega))
  replace gr := gGr_k gr (fun q h1 h2 h3 => hk q (h3 37 (by decide)))
  replace hn23 := gC_k hn23 (hk _ (by omega))
  replace hn24 := gC_k hn24 (hk _ (by omega))
  replace hn29 := gC_k hn29 (hk _ (by omega))
  rw [← hz9] at hz; clear hz9 hk
  refine g_iinc X (a := 10) (lv' := [(1, .int (iI 11)), (0, .ref (G.1 + (p0)))]) dX12_init_408 hl (k := 0) rfl (by decide) rfl ?_
  clear hl
  intro ls hl
  refine lv_goto (tgt := 395) X.1 X.2.1 dX12_init_411 (by decide) ?_
  refine lv_iload_n X.1 X.2.1 dX12_init_395 rfl (lv_at hl.1 0 rfl) ?_
  refine lv_bipush X.1 X.2.1 dX12_init_396 (v := iI 14) (by decide) ?_
  refine g_icmp_ge X (nmI_l (by decide)) (nmI_l (by decide)) (tgt := 414) dX12_init_398 (by decide) (fun hc => absurd (by decide) hc) (fun _ => ?_)
  refine lv_aload_n X.1 X.2.1 dX12_init_401 rfl (lv_at hl.1 1 rfl) ?_
  refine c_get X cX12 ho 46 (by decide) k_1256 rfl (v := .ref (G.1 + (z0 + 37))) rfl dX12_init_402 ?_
  refine lv_iload_n X.1 X.2.1 dX12_init_405 rfl (lv_at hl.1 0 rfl) ?_
  refine lv_iconst X.1 X.2.1 dX12_init_406 (v := iI (-1)) rfl ?_
  refine c_iast X hn37 (Or.inr (by show G.1 + z0 ≤ G.1 + (z0 + 37); omega)) hS (iI_in (n := 14) (nmI_l (by decide)) ⟨by decide, by decide⟩) dX12_init_407 ?_
  clear hS hn37
  intro H locs hn37 hz9 hk hS
  replace hn37 : gC G (z0 + 37) (.inl (G.2.2 0, 14, .inl (upd (upd (upd (upd (upd (upd (upd (upd (upd (upd (upd (upd (fun _ => 0) 0 (iI (-1))) 1 (iI (-1))) 2 (iI (-1))) 3 (iI (-1))) 4 (iI (-1))) 5 (iI (-1))) 6 (iI (-1))) 7 (iI (-1))) 8 (iI (-1))) 9 (iI (-1))) 10 (iI (-1))) 11 (iI (-1))))) H := hn37
  replace ho := gC_k ho (hk _ (by omega))
  replace gr := gGr_k gr (fun q h1 h2 h3 => hk q (h3 37 (by decide)))
  replace hn23 := gC_k hn23 (hk _ (by omega))
  replace hn24 := gC_k hn24 (hk _ (by omega))
  replace hn29 := gC_k hn29 (hk _ (by omega))
  rw [← hz9] at hz; clear hz9 hk
  refine g_iinc X (a := 11) (lv' := [(1, .int (iI 12)), (0, .ref (G.1 + (p0)))]) dX12_init_408 hl (k := 0) rfl (by decide) rfl ?_
  clear hl
  intro ls hl
  refine lv_goto (tgt := 395) X.1 X.2.1 dX12_init_411 (by decide) ?_
  refine lv_iload_n X.1 X.2.1 dX12_init_395 rfl (lv_at hl.1 0 rfl) ?_
  refine lv_bipush X.1 X.2.1 dX12_init_396 (v := iI 14) (by decide) ?_
  refine g_icmp_ge X (nmI_l (by decide)) (nmI_l (by decide)) (tgt := 414) dX12_init_398 (by decide) (fun hc => absurd (by decide) hc) (fun _ => ?_)
  refine lv_aload_n X.1 X.2.1 dX12_init_401 rfl (lv_at hl.1 1 rfl) ?_
  refine c_get X cX12 ho 46 (by decide) k_1256 rfl (v := .ref (G.1 + (z0 + 37))) rfl dX12_init_402 ?_
  refine lv_iload_n X.1 X.2.1 dX12_init_405 rfl (lv_at hl.1 0 rfl) ?_
  refine lv_iconst X.1 X.2.1 dX12_init_406 (v := iI (-1)) rfl ?_
  refine c_iast X hn37 (Or.inr (by show G.1 + z0 ≤ G.1 + (z0 + 37); omega)) hS (iI_in (n := 14) (nmI_l (by decide)) ⟨by decide, by decide⟩) dX12_init_407 ?_
  clear hS hn37
  intro H locs hn37 hz9 hk hS
  replace hn37 : gC G (z0 + 37) (.inl (G.2.2 0, 14, .inl (upd (upd (upd (upd (upd (upd (upd (upd (upd (upd (upd (upd (upd (fun _ => 0) 0 (iI (-1))) 1 (iI (-1))) 2 (iI (-1))) 3 (iI (-1))) 4 (iI (-1))) 5 (iI (-1))) 6 (iI (-1))) 7 (iI (-1))) 8 (iI (-1))) 9 (iI (-1))) 10 (iI (-1))) 11 (iI (-1))) 12 (iI (-1))))) H := hn37
  replace ho := gC_k ho (hk _ (by omega))
  replace gr := gGr_k gr (fun q h1 h2 h3 => hk q (h3 37 (by decide)))
  replace hn23 := gC_k hn23 (hk _ (by omega))
  replace hn24 := gC_k hn24 (hk _ (by omega))
  replace hn29 := gC_k hn29 (hk _ (by omega))
  rw [← hz9] at hz; clear hz9 hk
  refine g_iinc X (a := 12) (lv' := [(1, .int (iI 13)), (0, .ref (G.1 + (p0)))]) dX12_init_408 hl (k := 0) rfl (by decide) rfl ?_
  clear hl
  intro ls hl
  refine lv_goto (tgt := 395) X.1 X.2.1 dX12_init_411 (by decide) ?_
  refine lv_iload_n X.1 X.2.1 dX12_init_395 rfl (lv_at hl.1 0 rfl) ?_
  refine lv_bipush X.1 X.2.1 dX12_init_396 (v := iI 14) (by decide) ?_
  refine g_icmp_ge X (nmI_l (by decide)) (nmI_l (by decide)) (tgt := 414) dX12_init_398 (by decide) (fun hc => absurd (by decide) hc) (fun _ => ?_)
  refine lv_aload_n X.1 X.2.1 dX12_init_401 rfl (lv_at hl.1 1 rfl) ?_
  refine c_get X cX12 ho 46 (by decide) k_1256 rfl (v := .ref (G.1 + (z0 + 37))) rfl dX12_init_402 ?_
  refine lv_iload_n X.1 X.2.1 dX12_init_405 rfl (lv_at hl.1 0 rfl) ?_
  refine lv_iconst X.1 X.2.1 dX12_init_406 (v := iI (-1)) rfl ?_
  refine c_iast X hn37 (Or.inr (by show G.1 + z0 ≤ G.1 + (z0 + 37); omega)) hS (iI_in (n := 14) (nmI_l (by decide)) ⟨by decide, by decide⟩) dX12_init_407 ?_
  clear hS hn37
  intro H locs hn37 hz9 hk hS
  replace hn37 : gC G (z0 + 37) (.inl (G.2.2 0, 14, .inl (upd (upd (upd (upd (upd (upd (upd (upd (upd (upd (upd (upd (upd (upd (fun _ => 0) 0 (iI (-1))) 1 (iI (-1))) 2 (iI (-1))) 3 (iI (-1))) 4 (iI (-1))) 5 (iI (-1))) 6 (iI (-1))) 7 (iI (-1))) 8 (iI (-1))) 9 (iI (-1))) 10 (iI (-1))) 11 (iI (-1))) 12 (iI (-1))) 13 (iI (-1))))) H := hn37
  replace ho := gC_k ho (hk _ (by omega))
  replace gr := gGr_k gr (fun q h1 h2 h3 => hk q (h3 37 (by decide)))
  replace hn23 := gC_k hn23 (hk _ (by omega))
  replace hn24 := gC_k hn24 (hk _ (by omega))
  replace hn29 := gC_k hn29 (hk _ (by omega))
  rw [← hz9] at hz; clear hz9 hk
  refine g_iinc X (a := 13) (lv' := [(1, .int (iI 14)), (0, .ref (G.1 + (p0)))]) dX12_init_408 hl (k := 0) rfl (by decide) rfl ?_
  clear hl
  intro ls hl
  refine lv_goto (tgt := 395) X.1 X.2.1 dX12_init_411 (by decide) ?_
  refine lv_iload_n X.1 X.2.1 dX12_init_395 rfl (lv_at hl.1 0 rfl) ?_
  refine lv_bipush X.1 X.2.1 dX12_init_396 (v := iI 14) (by decide) ?_
  refine g_icmp_ge X (nmI_l (by decide)) (nmI_l (by decide)) (tgt := 414) dX12_init_398 (by decide) (fun _ => ?_) (fun hc => absurd hc (by decide))
  exact c_vret X (Post := fun H => C_X12_init G p0 z0 H) ⟨ho, gr, hn23, hn24, hn29, hn37⟩ hz hS ⟨Nat.le_of_ble_eq_true rfl, Nat.le_of_ble_eq_true rfl⟩ dX12_init_414
