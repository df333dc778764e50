set_option maxHeartbeats 4000000 in
theorem whole_start {p : Program} {e : Env} {s : State} {m : MethodId} {below : List Frame} {meth : Method} {c : Code} (l : Launch) (hflags : l.flags = flags0) {b L : Nat} {xs : Nat → Int32} (hL : L ≤ 3584) (C0 : lw_At p s m meth c b L xs) : W p l e room_1 s m #[Value.ref b] below meth c s.heap [] 0 0 (lw_Z below #[Value.ref b] s) (entryFrame m ([Value.ref b] : List Value).toArray 7) := by
  obtain ⟨hx, hb, hr, hml, hown, hts, hX, hbl, hlocks, hgv⟩ := id C0
  obtain ⟨G, hG1, hK, hZ⟩ := gStart hts hgv
  have hl0 : l.stackTraces = false := by
    unfold Launch.stackTraces
    rw [hflags]
    decide +kernel
  have X : gX G p s m #[Value.ref b] meth c RL code 7 ret lw_tbl := ⟨hx, hb, hr, hml, hown, hts, hlocks, hK, fun w hw => (List.mem_filter.mp hw).1⟩
  have hS : va_S (gA G) s.heap s.heap [] := va_S.rf
  have hz : s.heap.size = G.1 + 0 := hG1.symm
  have hl := gLv_nil (lv_entry ([.ref b]) (n := 7) (Nat.le_of_ble_eq_true rfl)) rfl
  rw [lg_entry_eq]
  generalize (lg_sl ([.ref b]) ++ List.replicate (7 - (lg_sl ([.ref b])).length) Slot.unset).toArray = ls at hl ⊢
  replace hl : gLv ls 7 [(0, .ref b)] := hl
  refine c_new X cX11 k_85 k_86 k_65 hz hS (fs := [.null, .null, .null, .null, .null, .int 0, .int 0]) (fun j hj => by rcases (show j = 0 ∨ j = 1 ∨ j = 2 ∨ j = 3 ∨ j = 4 ∨ j = 5 ∨ j = 6 by omega) with rfl | rfl | rfl | rfl | rfl | rfl | rfl <;> rfl) (Nat.le_of_ble_eq_true rfl) (Nat.le_of_ble_eq_true rfl) dL_law_0 (fun H h0 hz9 hk hS => ?_)
  have hz : H.size = G.1 + 1 := by omega
  clear hz9 hk
  refine lv_dup X.1 X.2.1 dL_law_3 rfl ?_
  refine c_call X (As := []) (m_X11_init l G 0 1 (by omega)) calX11_init k_88 k_87 rfl h0 hz hS (fun q h => by
    rcases h with h | h
    · rw [h]; exact Nat.le_add_right _ _
    · exact Nat.le_trans (Nat.le_add_right _ _) h) ⟨by decide, by decide⟩ rfl hl rfl (Nat.le_of_ble_eq_true rfl) ⟨(Nat.le_of_ble_eq_true rfl), (Nat.le_of_ble_eq_true rfl)⟩ dL_law_4 (fun H locs h0 hz9 hk hS => ?_)
  have hz : H.size = G.1 + 236 := by omega
  clear hz9 hk
  refine g_astore_n X (x := G.1 + 0) dL_law_7 rfl hl (by decide) rfl (fun ls hl => ?_)
  refine c_new X cX12 k_1204 k_1205 k_77 hz hS (fs := [.int 0, .null, .null, .null, .int 0, .null, .null, .int 0, .null, .null, .null, .null, .null, .null, .null, .null, .null, .null, .null, .int 0, .int 0, .int 0, .null, .null, .null, .null, .null, .null, .null, .null, .null, .null, .null, .null, .null, .null, .int 0, .int 0, .null, .null, .null, .null, .null, .int 0, .null, .null, .null, .null, .int 0, .int 0, .null, .null, .null, .null, .null, .null]) (fun j hj => by rcases (show j = 0 ∨ j = 1 ∨ j = 2 ∨ j = 3 ∨ j = 4 ∨ j = 5 ∨ j = 6 ∨ j = 7 ∨ j = 8 ∨ j = 9 ∨ j = 10 ∨ j = 11 ∨ j = 12 ∨ j = 13 ∨ j = 14 ∨ j = 15 ∨ j = 16 ∨ j = 17 ∨ j = 18 ∨ j = 19 ∨ j = 20 ∨ j = 21 ∨ j = 22 ∨ j = 23 ∨ j = 24 ∨ j = 25 ∨ j = 26 ∨ j = 27 ∨ j = 28 ∨ j = 29 ∨ j = 30 ∨ j = 31 ∨ j = 32 ∨ j = 33 ∨ j = 34 ∨ j = 35 ∨ j = 36 ∨ j = 37 ∨ j = 38 ∨ j = 39 ∨ j = 40 ∨ j = 41 ∨ j = 42 ∨ j = 43 ∨ j = 44 ∨ j = 45 ∨ j = 46 ∨ j = 47 ∨ j = 48 ∨ j = 49 ∨ j = 50 ∨ j = 51 ∨ j = 52 ∨ j = 53 ∨ j = 54 ∨ j = 55 by omega) with rfl | rfl | rfl | rfl | rfl | rfl | rfl | rfl | rfl | rfl | rfl | rfl | rfl | rfl | rfl | rfl | rfl | rfl | rfl | rfl | rfl | rfl | rfl | rfl | rfl | rfl | rfl | rfl | rfl | rfl | rfl | rfl | rfl | rfl | rfl | rfl | rfl | rfl | rfl | rfl | rfl | rfl | rfl | rfl | rfl | rfl | rfl | rfl | rfl | rfl | rfl | rfl | rfl | rfl | rfl | rfl <;> rfl) (Nat.le_of_ble_eq_true rfl) (Nat.le_of_ble_eq_true rfl) dL_law_8 (fun H h1 hz9 hk hS => ?_)
  have h0 := C_X11_init_k h0 (fun q h9 => hk _ (by omega))
  have hz : H.size = G.1 + 237 := by omega
  clear hz9 hk
  refine lv_dup X.1 X.2.1 dL_law_11 rfl ?_
  refine c_call X (As := []) (m_X12_init l G 236 237 (by omega)) calX12_init k_1207 k_1206 rfl h1 hz hS (fun q h => by
    rcases h with h | h
    · rw [h]; exact Nat.le_add_right _ _
    · exact Nat.le_trans (Nat.le_add_right _ _) h) ⟨by decide, by decide⟩ rfl hl rfl (Nat.le_of_ble_eq_true rfl) ⟨(Nat.le_of_ble_eq_true rfl), (Nat.le_of_ble_eq_true rfl)⟩ dL_law_12 (fun H locs h1 hz9 hk hS => ?_)
  have h0 := C_X11_init_k h0 (fun q h9 => hk _ (by omega) (fun z => by rcases z with z | z <;> omega))
  have hz : H.size = G.1 + 282 := by omega
  clear hz9 hk
  refine g_astore_n X (x := G.1 + 236) dL_law_15 rfl hl (by decide) rfl (fun ls hl => ?_)
  refine lv_iconst X.1 X.2.1 dL_law_16 (v := iI 1) rfl ?_
  refine c_newa X (t0 := 6) k_1633 rfl rfl (fun cA h1 h2 => gRA_eq h1 h2) hz hS (a0 := (1, .inr (.inl (fun _ => 0)))) (fun _ => rfl) (by decide) (N' := 1) (by decide) (by decide) (Nat.le_of_ble_eq_true rfl) (Nat.le_of_ble_eq_true rfl) dL_law_17 (fun H f282 hz9 hk hS => ?_)
  have h0 := C_X11_init_k h0 (fun q h9 => hk _ (by omega))
  have h1 := C_X12_init_k h1 (fun q h9 => hk _ (by omega))
  clear hz9 hk
  have hH := gIni h0 h1 f282
  refine g_astore_n X (x := G.1 + 282) dL_law_19 rfl hl (by decide) rfl (fun ls hl => ?_)
  refine lv_iconst X.1 X.2.1 dL_law_20 (v := iI 0) rfl ?_
  refine g_istore X dL_law_21 hl (by decide) rfl (fun ls hl => ?_)
  exact w_L_law X hl0 hZ hG1 hX hbl (by unfold nmI; omega) 513 0 nmI_0 gMI (law_pure xs L hL) _ _ _ _ _ (by omega) (by omega) hH hS (gLv_sub hl [4, 3, 2, 1, 0] rfl)
