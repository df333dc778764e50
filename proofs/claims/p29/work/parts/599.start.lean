/-! ## the start: the law -/
set_option maxHeartbeats 4000000 in
theorem whole_start {p : Program} {e : Env} {s : State} {m : MethodId} {below : List Frame} {meth : Method} {c : Code} (l : Launch) (hflags : l.flags = flags0) {b L : Nat} {xs : Nat → Int32} (hL : L ≤ 260) (C0 : lw_At p s m meth c b L xs) : W p l e room_1 s m #[Value.ref b] below meth c s.heap [] 0 0 (lw_Z below #[Value.ref b] s) (entryFrame m ([Value.ref b] : List Value).toArray 9) := by
  obtain ⟨hx, hb, hr, hml, hown, hts, hX, hbl, hlocks, hgv⟩ := id C0
  obtain ⟨G, hG1, hB0, hK, hZ⟩ := gStart hts hgv
  have hl0 : l.stackTraces = false := by
    unfold Launch.stackTraces
    rw [hflags]
    decide +kernel
  have X : gX G p s m #[Value.ref b] meth c RL code 9 ret lw_tbl := ⟨hx, hb, hr, hml, hown, hts, hlocks, hK, fun w hw => (List.mem_filter.mp hw).1⟩
  have hS : va_S (gA G) s.heap s.heap [] := va_S.rf
  have hz : s.heap.size = G.1 + 0 := hG1.symm
  have hb9 : b < G.1 := by rw [hG1]; exact hbl
  have hl := gLv_nil (lv_entry ([.ref b]) (n := 9) (Nat.le_of_ble_eq_true rfl)) rfl
  rw [lg_entry_eq]
  generalize (lg_sl ([.ref b]) ++ List.replicate (9 - (lg_sl ([.ref b])).length) Slot.unset).toArray = ls at hl ⊢
  replace hl : gLv ls 9 [(0, .ref b)] := hl
  refine c_new X cX11 k_50 k_51 k_31 hz hS (fs := [.null, .null, .null, .null, .null, .int 0, .int 0]) (fun j hj => by rcases (show j = 0 ∨ j = 1 ∨ j = 2 ∨ j = 3 ∨ j = 4 ∨ j = 5 ∨ j = 6 by omega) with rfl | rfl | rfl | rfl | rfl | rfl | rfl <;> rfl) (Nat.le_of_ble_eq_true rfl) (Nat.le_of_ble_eq_true rfl) dL_law_0 (fun H h0 hz9 hk hS => ?_)
  have hz : H.size = G.1 + 1 := by omega
  clear hz9 hk
  refine lv_dup X.1 X.2.1 dL_law_3 rfl ?_
  refine c_call X (As := []) (m_X11_init l G 0 1 (by omega)) calX11_init k_53 k_52 rfl h0 hz hS (fun q h => gA_0 hB0 (by
    rcases h with h | h
    · rw [h]; exact Nat.le_add_right _ _
    · exact Nat.le_trans (Nat.le_add_right _ _) h)) ⟨by decide, by decide⟩ rfl hl rfl (Nat.le_of_ble_eq_true rfl) ⟨(Nat.le_of_ble_eq_true rfl), (Nat.le_of_ble_eq_true rfl)⟩ dL_law_4 (fun H locs h0 hz9 hk hS => ?_)
  clear hz9 hk
  have hH := gIni h0
  refine g_astore_n X (x := G.1 + 0) dL_law_7 rfl hl (by decide) rfl (fun ls hl => ?_)
  exact w_P_law X hl0 hZ hB0 hG1 hX hbl hb9 (fun q => absurd q.1 (Nat.not_le.mpr hb9)) (by unfold nmI; omega) gMI (law_pure xs L) _ _ _ _ _ (by omega) (by omega) hH hS (gLv_sub hl [0, 1] rfl)
