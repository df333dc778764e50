theorem m_X11_needed (l : Launch) (hl0 : l.stackTraces = false) (G : gG) (v1 : Int) (nv1 : nmI v1) (M0 : gM) (q : (Nat ⊕ Int)) (hf : f_X11_needed v1 M0 = some q) : gXMet l yX11_needed cX11_needed 2 (some .int) 7 111 1 6 G M0 [.ref (gAd G 0 0), .int (iI v1)] (gXi G (∃ z, q = Sum.inr z) (gvI q) M0) (fun e9 => q = Sum.inl e9) := by
  refine gOfX (by decide) (by show _ ≤ 2; exact Nat.le_of_ble_eq_true rfl) rfl ?_
  intro p e s m below meth c X Z hnt hH ls hl
  replace hl : gLv ls 2 [(0, .ref (gAd G 0 0)), (1, .int (iI v1))] := hl
  have hS : va_S (gA G) s.heap s.heap [] := va_S.rf
  generalize hargs : ([.ref (gAd G 0 0), .int (iI v1)] : List Value).toArray = args at X ⊢
  clear hargs
  unfold f_X11_needed at hf
  refine lv_aload_n X.1 X.2.1 dX11_needed_0 rfl (lv_at hl.1 0 rfl) ?_
  refine lv_iload_n X.1 X.2.1 dX11_needed_1 rfl (lv_at hl.1 1 rfl) ?_
  obtain ⟨r2, hq2, hf_⟩ := ob_e hf; clear hf; have hf := hf_; clear hf_
  rcases r2 with e8 | v2_
  · have hq := Option.some.inj hf; subst hq
    refine gGoXV (gRunVX X Z hH hS (As := [.int (iI v1)]) (m_X11_checkTarget l hl0 G v1 nv1 M0 _ hq2) calX11_checkTarget k_612 k_3 k_610 (by decide) cX11 rfl ⟨by decide, by decide⟩ rfl hl rfl (Nat.le_of_ble_eq_true rfl) ⟨Nat.le_of_ble_eq_true rfl, Nat.le_of_ble_eq_true rfl⟩ dX11_needed_2) hS (fun E ce q9 H locs hE hH hS h1 h2 h3 => ?_) (fun H locs hok hH hS => ?_)
    · exact gOutX X hnt (by obtain ⟨e7, h7, h8⟩ := hE; exact ⟨e7, congrArg _ (Sum.inl.inj h7), h8⟩) hH hS h1 h2 h3 ⟨Nat.le_of_ble_eq_true rfl, Nat.le_of_ble_eq_true rfl⟩
    · obtain ⟨z, hz⟩ := hok; cases hz
  · replace hf := ox_i hf
    refine gGoXV (gRunVX X Z hH hS (As := [.int (iI v1)]) (m_X11_checkTarget l hl0 G v1 nv1 M0 _ hq2) calX11_checkTarget k_612 k_3 k_610 (by decide) cX11 rfl ⟨by decide, by decide⟩ rfl hl rfl (Nat.le_of_ble_eq_true rfl) ⟨Nat.le_of_ble_eq_true rfl, Nat.le_of_ble_eq_true rfl⟩ dX11_needed_2) hS (fun E ce q9 H locs hE hH hS h1 h2 h3 => ?_) (fun H locs _ hH hS => ?_)
    · obtain ⟨e7, h7, h8⟩ := hE; cases h7
    · refine lv_aload_n X.1 X.2.1 dX11_needed_5 rfl (lv_at hl.1 0 rfl) ?_
      refine g_get X cX11 hH (r := 0) (i := 0) (by decide) rfl 1 (by decide) k_442 rfl (v := .ref (gAd G 2 0)) rfl dX11_needed_6 ?_
      refine lv_iconst X.1 X.2.1 dX11_needed_9 (v := iI 1) rfl ?_
      refine lv_iload_n X.1 X.2.1 dX11_needed_10 rfl (lv_at hl.1 1 rfl) ?_
      refine g_ishl X dX11_needed_11 ?_
      obtain ⟨r12, hq12, hf_⟩ := ob_e hf; clear hf; have hf := hf_; clear hf_
      refine gGoI (gRunV X hH (As := [.int (iI (gShl 1 v1))]) (m_X5_withNeeded l G (gShl 1 v1) (nmI_shl _ _) M0 _ hq12) calX5_withNeeded k_716 k_717 k_1012 (by decide) cX5 rfl ⟨by decide, by decide⟩ rfl hl rfl (Nat.le_of_ble_eq_true rfl) ⟨Nat.le_of_ble_eq_true rfl, Nat.le_of_ble_eq_true rfl⟩ dX11_needed_12) hS (fun H locs nr12 hH hS => ?_)
      have hq := Option.some.inj hf; subst hq
      exact gRetXI X hH hS ⟨_, rfl⟩ (res := r12) nr12 ⟨Nat.le_of_ble_eq_true rfl, Nat.le_of_ble_eq_true rfl⟩ dX11_needed_15
theorem m_X11_checkThing (l : Launch) (hl0 : l.stackTraces = false) (G : gG) (v1 : Int) (nv1 : nmI v1) (M0 : gM) (q : (Nat ⊕ Unit)) (hf : f_X11_checkThing v1 M0 = some q) : gXMet l yX11_checkThing cX11_checkThing 2 none 7 111 1 6 G M0 [.ref (gAd G 0 0), .int (iI v1)] (gXv G (∃ z, q = Sum.inr z) M0) (fun e9 => q = Sum.inl e9) := by
  refine gOfX (by decide) (by show _ ≤ 2; exact Nat.le_of_ble_eq_true rfl) rfl ?_
  intro p e s m below meth c X Z hnt hH ls hl
  replace hl : gLv ls 2 [(0, .ref (gAd G 0 0)), (1, .int (iI v1))] := hl
  have hS : va_S (gA G) s.heap s.heap [] := va_S.rf
  generalize hargs : ([.ref (gAd G 0 0), .int (iI v1)] : List Value).toArray = args at X ⊢
  clear hargs
  unfold f_X11_checkThing at hf
  refine lv_iload_n X.1 X.2.1 dX11_checkThing_0 rfl (lv_at hl.1 1 rfl) ?_
  refine gGoZ (gRunS X hH (As := [.int (iI v1)]) (m_X11_isTarget l G v1 nv1 M0 _ rfl) calX11_isTarget k_731 k_1046 ⟨by decide, by decide⟩ rfl hl rfl (Nat.le_of_ble_eq_true rfl) ⟨Nat.le_of_ble_eq_true rfl, Nat.le_of_ble_eq_true rfl⟩ dX11_checkThing_1) hS (fun H locs br1 hH hS => ?_)
  refine g_if_eq X (nmI_b br1) (tgt := 15) dX11_checkThing_4 (by decide) (fun hc4 => ?_) (fun hc4 => ?_)
  · replace hf := it_t hf hc4
    have hq := Option.some.inj hf; subst hq
    exact gRetXV X hH hS ⟨_, rfl⟩ ⟨Nat.le_of_ble_eq_true rfl, Nat.le_of_ble_eq_true rfl⟩ dX11_checkThing_15
  · replace hf := it_f hf hc4
    refine lv_aload_n X.1 X.2.1 dX11_checkThing_7 rfl (lv_at hl.1 0 rfl) ?_
    refine lv_iload_n X.1 X.2.1 dX11_checkThing_8 rfl (lv_at hl.1 1 rfl) ?_
    refine lv_bipush X.1 X.2.1 dX11_checkThing_9 (v := iI 16) (by decide) ?_
    refine g_isub X dX11_checkThing_11 ?_
    obtain ⟨r12, hq12, hf_⟩ := ob_e hf; clear hf; have hf := hf_; clear hf_
    rcases r12 with e8 | v12_
    · have hq := Option.some.inj hf; subst hq
      refine gGoXV (gRunVX X Z hH hS (As := [.int (iI (wI (v1 - 16)))]) (m_X11_checkTarget l hl0 G (wI (v1 - 16)) (nmI_w _) M0 _ hq12) calX11_checkTarget k_612 k_3 k_610 (by decide) cX11 rfl ⟨by decide, by decide⟩ rfl hl rfl (Nat.le_of_ble_eq_true rfl) ⟨Nat.le_of_ble_eq_true rfl, Nat.le_of_ble_eq_true rfl⟩ dX11_checkThing_12) hS (fun E ce q9 H locs hE hH hS h1 h2 h3 => ?_) (fun H locs hok hH hS => ?_)
      · exact gOutX X hnt (by obtain ⟨e7, h7, h8⟩ := hE; exact ⟨e7, congrArg _ (Sum.inl.inj h7), h8⟩) hH hS h1 h2 h3 ⟨Nat.le_of_ble_eq_true rfl, Nat.le_of_ble_eq_true rfl⟩
      · obtain ⟨z, hz⟩ := hok; cases hz
    · replace hf := ox_i hf
      refine gGoXV (gRunVX X Z hH hS (As := [.int (iI (wI (v1 - 16)))]) (m_X11_checkTarget l hl0 G (wI (v1 - 16)) (nmI_w _) M0 _ hq12) calX11_checkTarget k_612 k_3 k_610 (by decide) cX11 rfl ⟨by decide, by decide⟩ rfl hl rfl (Nat.le_of_ble_eq_true rfl) ⟨Nat.le_of_ble_eq_true rfl, Nat.le_of_ble_eq_true rfl⟩ dX11_checkThing_12) hS (fun E ce q9 H locs hE hH hS h1 h2 h3 => ?_) (fun H locs _ hH hS => ?_)
      · obtain ⟨e7, h7, h8⟩ := hE; cases h7
      · have hq := Option.some.inj hf; subst hq
        exact gRetXV X hH hS ⟨_, rfl⟩ ⟨Nat.le_of_ble_eq_true rfl, Nat.le_of_ble_eq_true rfl⟩ dX11_checkThing_15
theorem m_X11_needing (l : Launch) (hl0 : l.stackTraces = false) (G : gG) (v1 : Int) (nv1 : nmI v1) (M0 : gM) (q : (Nat ⊕ Int)) (hf : f_X11_needing v1 M0 = some q) : gXMet l yX11_needing cX11_needing 2 (some .int) 8 132 2 12 G M0 [.ref (gAd G 0 0), .int (iI v1)] (gXi G (∃ z, q = Sum.inr z) (gvI q) M0) (fun e9 => q = Sum.inl e9) := by
  refine gOfX (by decide) (by show _ ≤ 2; exact Nat.le_of_ble_eq_true rfl) rfl ?_
  intro p e s m below meth c X Z hnt hH ls hl
  replace hl : gLv ls 2 [(0, .ref (gAd G 0 0)), (1, .int (iI v1))] := hl
  have hS : va_S (gA G) s.heap s.heap [] := va_S.rf
  generalize hargs : ([.ref (gAd G 0 0), .int (iI v1)] : List Value).toArray = args at X ⊢
  clear hargs
  unfold f_X11_needing at hf
  refine lv_iload_n X.1 X.2.1 dX11_needing_0 rfl (lv_at hl.1 1 rfl) ?_
  obtain ⟨k9, ek9, hf_⟩ := oj_e hf; clear hf; have hf := hf_; clear hf_
  have hk9 : ∀ (xs0_9 : Int) (bxs0_9 : xs0_9 = 0 ∨ xs0_9 = 1), k9 xs0_9 = some q → ∀ (H : Heap) (locs : List Loc) (ls : Array Slot), gH G M0 H → va_S (gA G) s.heap H locs → gLv ls 2 [(0, .ref (gAd G 0 0)), (1, .int (iI v1))] → W p l e { frames := 8, cells := 2, slots := 12, locals := 132 } s m args below meth c H locs 0 0 (vx_MQ below (gXi G (∃ z, q = Sum.inr z) (gvI q) M0) (gXC G (fun e9 => q = Sum.inl e9) M0) args s 2 12 (gA G)) (F0 m 9 ls [.int (iI xs0_9)]) := by
    intro xs0_9 bxs0_9 hf H locs ls hH hS hl
    subst ek9
    obtain ⟨r9, hq9, hf_⟩ := ob_e hf; clear hf; have hf := hf_; clear hf_
    rcases r9 with e8 | v9_
    · have hq := Option.some.inj hf; subst hq
      refine gGoXV (gRunSX X Z hH hS (As := [.int (iI xs0_9)]) (m_X11_checkArgument l hl0 G xs0_9 bxs0_9 M0 _ hq9) calX11_checkArgument k_485 k_484 ⟨by decide, by decide⟩ rfl hl rfl (Nat.le_of_ble_eq_true rfl) ⟨Nat.le_of_ble_eq_true rfl, Nat.le_of_ble_eq_true rfl⟩ dX11_needing_9) hS (fun E ce q9 H locs hE hH hS h1 h2 h3 => ?_) (fun H locs hok hH hS => ?_)
      · exact gOutX X hnt (by obtain ⟨e7, h7, h8⟩ := hE; exact ⟨e7, congrArg _ (Sum.inl.inj h7), h8⟩) hH hS h1 h2 h3 ⟨Nat.le_of_ble_eq_true rfl, Nat.le_of_ble_eq_true rfl⟩
      · obtain ⟨z, hz⟩ := hok; cases hz
    · replace hf := ox_i hf
      refine gGoXV (gRunSX X Z hH hS (As := [.int (iI xs0_9)]) (m_X11_checkArgument l hl0 G xs0_9 bxs0_9 M0 _ hq9) calX11_checkArgument k_485 k_484 ⟨by decide, by decide⟩ rfl hl rfl (Nat.le_of_ble_eq_true rfl) ⟨Nat.le_of_ble_eq_true rfl, Nat.le_of_ble_eq_true rfl⟩ dX11_needing_9) hS (fun E ce q9 H locs hE hH hS h1 h2 h3 => ?_) (fun H locs _ hH hS => ?_)
      · obtain ⟨e7, h7, h8⟩ := hE; cases h7
      · refine lv_aload_n X.1 X.2.1 dX11_needing_12 rfl (lv_at hl.1 0 rfl) ?_
        refine lv_iload_n X.1 X.2.1 dX11_needing_13 rfl (lv_at hl.1 1 rfl) ?_
        obtain ⟨r14, hq14, hf_⟩ := ob_e hf; clear hf; have hf := hf_; clear hf_
        rcases r14 with e8 | v14_
        · have hq := Option.some.inj hf; subst hq
          refine gGoXV (gRunVX X Z hH hS (As := [.int (iI v1)]) (m_X11_checkThing l hl0 G v1 nv1 M0 _ hq14) calX11_checkThing k_1044 k_26 k_1042 (by decide) cX11 rfl ⟨by decide, by decide⟩ rfl hl rfl (Nat.le_of_ble_eq_true rfl) ⟨Nat.le_of_ble_eq_true rfl, Nat.le_of_ble_eq_true rfl⟩ dX11_needing_14) hS (fun E ce q9 H locs hE hH hS h1 h2 h3 => ?_) (fun H locs hok hH hS => ?_)
          · exact gOutX X hnt (by obtain ⟨e7, h7, h8⟩ := hE; exact ⟨e7, congrArg _ (Sum.inl.inj h7), h8⟩) hH hS h1 h2 h3 ⟨Nat.le_of_ble_eq_true rfl, Nat.le_of_ble_eq_true rfl⟩
          · obtain ⟨z, hz⟩ := hok; cases hz
        · replace hf := ox_i hf
          refine gGoXV (gRunVX X Z hH hS (As := [.int (iI v1)]) (m_X11_checkThing l hl0 G v1 nv1 M0 _ hq14) calX11_checkThing k_1044 k_26 k_1042 (by decide) cX11 rfl ⟨by decide, by decide⟩ rfl hl rfl (Nat.le_of_ble_eq_true rfl) ⟨Nat.le_of_ble_eq_true rfl, Nat.le_of_ble_eq_true rfl⟩ dX11_needing_14) hS (fun E ce q9 H locs hE hH hS h1 h2 h3 => ?_) (fun H locs _ hH hS => ?_)
          · obtain ⟨e7, h7, h8⟩ := hE; cases h7
          · refine lv_aload_n X.1 X.2.1 dX11_needing_17 rfl (lv_at hl.1 0 rfl) ?_
            refine g_get X cX11 hH (r := 0) (i := 0) (by decide) rfl 1 (by decide) k_442 rfl (v := .ref (gAd G 2 0)) rfl dX11_needing_18 ?_
            refine lv_iload_n X.1 X.2.1 dX11_needing_21 rfl (lv_at hl.1 1 rfl) ?_
            obtain ⟨r22, hq22, hf_⟩ := ob_e hf; clear hf; have hf := hf_; clear hf_
            refine gGoI (gRunV X hH (As := [.int (iI v1)]) (m_X5_targetsOver l G v1 nv1 M0 _ hq22) calX5_targetsOver k_1048 k_1049 k_1047 (by decide) cX5 rfl ⟨by decide, by decide⟩ rfl hl rfl (Nat.le_of_ble_eq_true rfl) ⟨Nat.le_of_ble_eq_true rfl, Nat.le_of_ble_eq_true rfl⟩ dX11_needing_22) hS (fun H locs nr22 hH hS => ?_)
            have hq := Option.some.inj hf; subst hq
            exact gRetXI X hH hS ⟨_, rfl⟩ (res := r22) nr22 ⟨Nat.le_of_ble_eq_true rfl, Nat.le_of_ble_eq_true rfl⟩ dX11_needing_25
  clear ek9
  refine g_if_lt X nv1 (tgt := 8) dX11_needing_1 (by decide) (fun hc1 => ?_) (fun hc1 => ?_)
  · replace hf := it_t hf hc1
    refine lv_iconst X.1 X.2.1 dX11_needing_8 (v := iI 0) rfl ?_
    exact hk9 0 (by decide) hf _ _ _ hH hS (gLv_sub hl [0, 1] rfl)
  · replace hf := it_f hf hc1
    refine lv_iconst X.1 X.2.1 dX11_needing_4 (v := iI 1) rfl ?_
    refine lv_goto (tgt := 9) X.1 X.2.1 dX11_needing_5 (by decide) ?_
    exact hk9 1 (by decide) hf _ _ _ hH hS (gLv_sub hl [0, 1] rfl)
theorem m_X11_steps (l : Launch) (hl0 : l.stackTraces = false) (G : gG) (v1 : Int) (nv1 : nmI v1) (v2 : Int) (nv2 : nmI v2) (M0 : gM) (q : (Nat ⊕ (Int × gM))) (hf : f_X11_steps v1 v2 M0 = some q) : gXMet l yX11_steps cX11_steps 3 (some .int) 7 111 2 12 G M0 [.ref (gAd G 0 0), .int (iI v1), .int (iI v2)] (gXi G (∃ z, q = Sum.inr z) (gvP q).1 (gvP q).2) (fun e9 => q = Sum.inl e9) := by
  refine gOfX (by decide) (by show _ ≤ 3; exact Nat.le_of_ble_eq_true rfl) rfl ?_
  intro p e s m below meth c X Z hnt hH ls hl
  replace hl : gLv ls 3 [(0, .ref (gAd G 0 0)), (1, .int (iI v1)), (2, .int (iI v2))] := hl
  have hS : va_S (gA G) s.heap s.heap [] := va_S.rf
  generalize hargs : ([.ref (gAd G 0 0), .int (iI v1), .int (iI v2)] : List Value).toArray = args at X ⊢
  clear hargs
  unfold f_X11_steps at hf
  refine lv_aload_n X.1 X.2.1 dX11_steps_0 rfl (lv_at hl.1 0 rfl) ?_
  refine lv_iload_n X.1 X.2.1 dX11_steps_1 rfl (lv_at hl.1 1 rfl) ?_
  obtain ⟨r2, hq2, hf_⟩ := ob_e hf; clear hf; have hf := hf_; clear hf_
  rcases r2 with e8 | v2_
  · have hq := Option.some.inj hf; subst hq
    refine gGoXV (gRunVX X Z hH hS (As := [.int (iI v1)]) (m_X11_checkTarget l hl0 G v1 nv1 M0 _ hq2) calX11_checkTarget k_612 k_3 k_610 (by decide) cX11 rfl ⟨by decide, by decide⟩ rfl hl rfl (Nat.le_of_ble_eq_true rfl) ⟨Nat.le_of_ble_eq_true rfl, Nat.le_of_ble_eq_true rfl⟩ dX11_steps_2) hS (fun E ce q9 H locs hE hH hS h1 h2 h3 => ?_) (fun H locs hok hH hS => ?_)
    · exact gOutX X hnt (by obtain ⟨e7, h7, h8⟩ := hE; exact ⟨e7, congrArg _ (Sum.inl.inj h7), h8⟩) hH hS h1 h2 h3 ⟨Nat.le_of_ble_eq_true rfl, Nat.le_of_ble_eq_true rfl⟩
    · obtain ⟨z, hz⟩ := hok; cases hz
  · replace hf := ox_i hf
    refine gGoXV (gRunVX X Z hH hS (As := [.int (iI v1)]) (m_X11_checkTarget l hl0 G v1 nv1 M0 _ hq2) calX11_checkTarget k_612 k_3 k_610 (by decide) cX11 rfl ⟨by decide, by decide⟩ rfl hl rfl (Nat.le_of_ble_eq_true rfl) ⟨Nat.le_of_ble_eq_true rfl, Nat.le_of_ble_eq_true rfl⟩ dX11_steps_2) hS (fun E ce q9 H locs hE hH hS h1 h2 h3 => ?_) (fun H locs _ hH hS => ?_)
    · obtain ⟨e7, h7, h8⟩ := hE; cases h7
    · refine lv_aload_n X.1 X.2.1 dX11_steps_5 rfl (lv_at hl.1 0 rfl) ?_
      refine lv_iload_n X.1 X.2.1 dX11_steps_6 rfl (lv_at hl.1 2 rfl) ?_
      obtain ⟨r7, hq7, hf_⟩ := ob_e hf; clear hf; have hf := hf_; clear hf_
      rcases r7 with e8 | v7_
      · have hq := Option.some.inj hf; subst hq
        refine gGoXV (gRunVX X Z hH hS (As := [.int (iI v2)]) (m_X11_checkTarget l hl0 G v2 nv2 M0 _ hq7) calX11_checkTarget k_612 k_3 k_610 (by decide) cX11 rfl ⟨by decide, by decide⟩ rfl hl rfl (Nat.le_of_ble_eq_true rfl) ⟨Nat.le_of_ble_eq_true rfl, Nat.le_of_ble_eq_true rfl⟩ dX11_steps_7) hS (fun E ce q9 H locs hE hH hS h1 h2 h3 => ?_) (fun H locs hok hH hS => ?_)
        · exact gOutX X hnt (by obtain ⟨e7, h7, h8⟩ := hE; exact ⟨e7, congrArg _ (Sum.inl.inj h7), h8⟩) hH hS h1 h2 h3 ⟨Nat.le_of_ble_eq_true rfl, Nat.le_of_ble_eq_true rfl⟩
        · obtain ⟨z, hz⟩ := hok; cases hz
      · replace hf := ox_i hf
        refine gGoXV (gRunVX X Z hH hS (As := [.int (iI v2)]) (m_X11_checkTarget l hl0 G v2 nv2 M0 _ hq7) calX11_checkTarget k_612 k_3 k_610 (by decide) cX11 rfl ⟨by decide, by decide⟩ rfl hl rfl (Nat.le_of_ble_eq_true rfl) ⟨Nat.le_of_ble_eq_true rfl, Nat.le_of_ble_eq_true rfl⟩ dX11_steps_7) hS (fun E ce q9 H locs hE hH hS h1 h2 h3 => ?_) (fun H locs _ hH hS => ?_)
        · obtain ⟨e7, h7, h8⟩ := hE; cases h7
        · refine lv_aload_n X.1 X.2.1 dX11_steps_10 rfl (lv_at hl.1 0 rfl) ?_
          refine g_get X cX11 hH (r := 0) (i := 0) (by decide) rfl 1 (by decide) k_442 rfl (v := .ref (gAd G 2 0)) rfl dX11_steps_11 ?_
          refine lv_iload_n X.1 X.2.1 dX11_steps_14 rfl (lv_at hl.1 1 rfl) ?_
          refine lv_iload_n X.1 X.2.1 dX11_steps_15 rfl (lv_at hl.1 2 rfl) ?_
          obtain ⟨r16, hq16, hf_⟩ := ob_e hf; clear hf; have hf := hf_; clear hf_
          refine gGoI (gRunV X hH (As := [.int (iI v1), .int (iI v2)]) (m_X5_distance l G v1 nv1 v2 nv2 M0 _ hq16) calX5_distance k_1060 k_1061 k_1059 (by decide) cX5 rfl ⟨by decide, by decide⟩ rfl hl rfl (Nat.le_of_ble_eq_true rfl) ⟨Nat.le_of_ble_eq_true rfl, Nat.le_of_ble_eq_true rfl⟩ dX11_steps_16) hS (fun H locs nr16 hH hS => ?_)
          have hq := Option.some.inj hf; subst hq
          exact gRetXI X hH hS ⟨_, rfl⟩ (res := r16.1) nr16 ⟨Nat.le_of_ble_eq_true rfl, Nat.le_of_ble_eq_true rfl⟩ dX11_steps_19
theorem w_X11_bisect_L43 {G : gG} {p : Program} {l : Launch} {e : Env} {s : State} {m : MethodId} {args : Array Value} {below : List Frame} {meth : Method} {c : Code} (X : gX G p s m args meth c RX11 cX11_bisect 6 (some .int) (gWs yX11_bisect cX11_bisect 6 (some .int))) (hl0 : l.stackTraces = false) (Z : gS G s) (hnt : ∀ x ∈ c.exceptionTable.toList, False) (M0 : gM) (k99 : Int → gM → Option (Nat ⊕ (Int × gM))) (z1 : Int) (nz1 : nmI z1) (q : (Nat ⊕ (Int × gM))) (hk99 : ∀ (x3 : Int) (nx3 : nmI x3) (M : gM), k99 x3 M = some q → ∀ (H : Heap) (locs : List Loc) (ls : Array Slot), gH G M H → va_S (gA G) s.heap H locs → gLv ls 6 [(3, .int (iI x3))] → W p l e { frames := 7, cells := 1, slots := 6, locals := 160 } s m args below meth c H locs 1 6 (vx_MQ below (gXi G (∃ z, q = Sum.inr z) (gvP q).1 (gvP q).2) (gXC G (fun e9 => q = Sum.inl e9) M0) args s 1 6 (gA G)) (F0 m 99 ls [])) : ∀ (n : Nat) (x2 : Int) (nx2 : nmI x2) (x3 : Int) (nx3 : nmI x3) (x4 : Int) (nx4 : nmI x4) (M : gM), f_X11_bisect_L43 k99 z1 n x2 x3 x4 M = some q → ∀ (H : Heap) (locs : List Loc) (ls : Array Slot), gH G M H → va_S (gA G) s.heap H locs → gLv ls 6 [(0, .ref (gAd G 0 0)), (1, .int (iI z1)), (2, .int (iI x2)), (3, .int (iI x3)), (4, .int (iI x4))] → W p l e { frames := 7, cells := 1, slots := 6, locals := 160 } s m args below meth c H locs 1 6 (vx_MQ below (gXi G (∃ z, q = Sum.inr z) (gvP q).1 (gvP q).2) (gXC G (fun e9 => q = Sum.inl e9) M0) args s 1 6 (gA G)) (F0 m 43 ls []) := by
  intro n
  induction n with
  | zero =>
    intro x2 nx2 x3 nx3 x4 nx4 M hf
    cases hf
  | succ n ih =>
    intro x2 nx2 x3 nx3 x4 nx4 M hf H locs ls hH hS hl
    rw [f_X11_bisect_L43] at hf
    refine lv_iload X.1 X.2.1 dX11_bisect_43 (lv_at hl.1 4 rfl) ?_
    refine lv_bipush X.1 X.2.1 dX11_bisect_45 (v := iI 30) (by decide) ?_
    refine g_icmp_ge X nx4 (nmI_l (by decide)) (tgt := 99) dX11_bisect_47 (by decide) (fun hc47 => ?_) (fun hc47 => ?_)
    · replace hf := it_f hf hc47
      exact hk99 x3 nx3 M hf _ _ _ hH hS (gLv_sub hl [3] rfl)
    · replace hf := it_t hf hc47
      refine lv_iload_n X.1 X.2.1 dX11_bisect_50 rfl (lv_at hl.1 3 rfl) ?_
      refine lv_iload_n X.1 X.2.1 dX11_bisect_51 rfl (lv_at hl.1 2 rfl) ?_
      refine g_isub X dX11_bisect_52 ?_
      refine lv_iconst X.1 X.2.1 dX11_bisect_53 (v := iI 1) rfl ?_
      refine g_icmp_le X (nmI_w _) (nmI_l (by decide)) (tgt := 99) dX11_bisect_54 (by decide) (fun hc54 => ?_) (fun hc54 => ?_)
      · replace hf := it_f hf hc54
        exact hk99 x3 nx3 M hf _ _ _ hH hS (gLv_sub hl [3] rfl)
      · replace hf := it_t hf hc54
        refine lv_iload_n X.1 X.2.1 dX11_bisect_57 rfl (lv_at hl.1 2 rfl) ?_
        refine lv_iload_n X.1 X.2.1 dX11_bisect_58 rfl (lv_at hl.1 3 rfl) ?_
        refine g_iadd X dX11_bisect_59 ?_
        refine lv_iconst X.1 X.2.1 dX11_bisect_60 (v := iI 2) rfl ?_
        refine g_idiv X (nmI_w _) (nmI_l (by decide)) (by decide) dX11_bisect_61 ?_
        refine g_istore X (lv' := [(5, .int (iI (wI ((wI (x2 + x3)).tdiv 2)))), (0, .ref (gAd G 0 0)), (1, .int (iI z1)), (2, .int (iI x2)), (3, .int (iI x3)), (4, .int (iI x4))]) dX11_bisect_62 hl (by decide) rfl (fun ls hl => ?_)
        refine lv_aload_n X.1 X.2.1 dX11_bisect_64 rfl (lv_at hl.1 1 rfl) ?_
        refine lv_dup X.1 X.2.1 dX11_bisect_65 rfl ?_
        have nd66 : nmI (M 0 0 6) := hH.1.1 _ _ _
        refine g_get X cX11 hH (r := 0) (i := 0) (by decide) rfl 6 (by decide) k_447 rfl (v := .int (iI (M 0 0 6))) rfl dX11_bisect_66 ?_
        refine lv_iconst X.1 X.2.1 dX11_bisect_69 (v := iI 1) rfl ?_
        refine g_iadd X dX11_bisect_70 ?_
        refine g_putI X cX11 hH hS (r := 0) (i := 0) (by decide) rfl 6 (by decide) k_447 rfl rfl rfl (Nat.le_of_ble_eq_true rfl) (x := wI ((M 0 0 6) + 1)) (nmI_w _) rfl rfl rfl dX11_bisect_71 (fun H locs hH hS => ?_)
        refine lv_aload_n X.1 X.2.1 dX11_bisect_74 rfl (lv_at hl.1 1 rfl) ?_
        refine lv_iload X.1 X.2.1 dX11_bisect_75 (lv_at hl.1 0 rfl) ?_
        refine lv_iload_n X.1 X.2.1 dX11_bisect_77 rfl (lv_at hl.1 2 rfl) ?_
        obtain ⟨r78, hq78, hf_⟩ := ob_e hf; clear hf; have hf := hf_; clear hf_
        refine gGoZ (gRunV X hH (As := [.int (iI (wI ((wI (x2 + x3)).tdiv 2))), .int (iI z1)]) (m_X11_isGoodAfter l G (wI ((wI (x2 + x3)).tdiv 2)) (nmI_w _) z1 nz1 (gU M 0 0 6 (wI ((M 0 0 6) + 1))) _ hq78) calX11_isGoodAfter k_1073 k_29 k_1071 (by decide) cX11 rfl ⟨by decide, by decide⟩ rfl hl rfl (Nat.le_of_ble_eq_true rfl) ⟨Nat.le_of_ble_eq_true rfl, Nat.le_of_ble_eq_true rfl⟩ dX11_bisect_78) hS (fun H locs br78 hH hS => ?_)
        obtain ⟨k93, ek93, hf_⟩ := oj_e hf; clear hf; have hf := hf_; clear hf_
        have hk93 : ∀ (x2_93 : Int) (nx2_93 : nmI x2_93) (x3_93 : Int) (nx3_93 : nmI x3_93), k93 x2_93 x3_93 = some q → ∀ (H : Heap) (locs : List Loc) (ls : Array Slot), gH G r78.2 H → va_S (gA G) s.heap H locs → gLv ls 6 [(0, .ref (gAd G 0 0)), (1, .int (iI z1)), (2, .int (iI x2_93)), (3, .int (iI x3_93)), (4, .int (iI x4))] → W p l e { frames := 7, cells := 1, slots := 6, locals := 160 } s m args below meth c H locs 1 6 (vx_MQ below (gXi G (∃ z, q = Sum.inr z) (gvP q).1 (gvP q).2) (gXC G (fun e9 => q = Sum.inl e9) M0) args s 1 6 (gA G)) (F0 m 93 ls []) := by
          intro x2_93 nx2_93 x3_93 nx3_93 hf H locs ls hH hS hl
          subst ek93
          refine g_iinc X (a := x4) (lv' := [(4, .int (iI (wI (x4 + 1)))), (0, .ref (gAd G 0 0)), (1, .int (iI z1)), (2, .int (iI x2_93)), (3, .int (iI x3_93))]) dX11_bisect_93 hl (k := 4) rfl (by decide) rfl (fun ls hl => ?_)
          refine lv_goto (tgt := 43) X.1 X.2.1 dX11_bisect_96 (by decide) ?_
          exact ih x2_93 nx2_93 x3_93 nx3_93 (wI (x4 + 1)) (nmI_w _) r78.2 hf _ _ _ hH hS (gLv_sub hl [1, 2, 3, 4, 0] rfl)
        clear ek93
        refine g_if_eq X (nmI_b br78) (tgt := 90) dX11_bisect_81 (by decide) (fun hc81 => ?_) (fun hc81 => ?_)
        · replace hf := it_t hf hc81
          refine lv_iload X.1 X.2.1 dX11_bisect_90 (lv_at hl.1 0 rfl) ?_
          refine g_istore_n X (lv' := [(3, .int (iI (wI ((wI (x2 + x3)).tdiv 2)))), (5, .int (iI (wI ((wI (x2 + x3)).tdiv 2)))), (0, .ref (gAd G 0 0)), (1, .int (iI z1)), (2, .int (iI x2)), (4, .int (iI x4))]) dX11_bisect_92 rfl hl (by decide) rfl (fun ls hl => ?_)
          exact hk93 x2 nx2 (wI ((wI (x2 + x3)).tdiv 2)) (nmI_w _) hf _ _ _ hH hS (gLv_sub hl [2, 3, 4, 0, 5] rfl)
        · replace hf := it_f hf hc81
          refine lv_iload X.1 X.2.1 dX11_bisect_84 (lv_at hl.1 0 rfl) ?_
          refine g_istore_n X (lv' := [(2, .int (iI (wI ((wI (x2 + x3)).tdiv 2)))), (5, .int (iI (wI ((wI (x2 + x3)).tdiv 2)))), (0, .ref (gAd G 0 0)), (1, .int (iI z1)), (3, .int (iI x3)), (4, .int (iI x4))]) dX11_bisect_86 rfl hl (by decide) rfl (fun ls hl => ?_)
          refine lv_goto (tgt := 93) X.1 X.2.1 dX11_bisect_87 (by decide) ?_
          exact hk93 (wI ((wI (x2 + x3)).tdiv 2)) (nmI_w _) x3 nx3 hf _ _ _ hH hS (gLv_sub hl [2, 3, 0, 4, 5] rfl)
theorem m_X11_bisect (l : Launch) (hl0 : l.stackTraces = false) (G : gG) (v1 : Int) (nv1 : nmI v1) (M0 : gM) (q : (Nat ⊕ (Int × gM))) (hf : f_X11_bisect v1 M0 = some q) : gXMet l yX11_bisect cX11_bisect 6 (some .int) 7 160 1 6 G M0 [.ref (gAd G 0 0), .int (iI v1)] (gXi G (∃ z, q = Sum.inr z) (gvP q).1 (gvP q).2) (fun e9 => q = Sum.inl e9) := by
  refine gOfX (by decide) (by show _ ≤ 6; exact Nat.le_of_ble_eq_true rfl) rfl ?_
  intro p e s m below meth c X Z hnt hH ls hl
  replace hl : gLv ls 6 [(0, .ref (gAd G 0 0)), (1, .int (iI v1))] := hl
  have hS : va_S (gA G) s.heap s.heap [] := va_S.rf
  generalize hargs : ([.ref (gAd G 0 0), .int (iI v1)] : List Value).toArray = args at X ⊢
  clear hargs
  unfold f_X11_bisect at hf
  refine lv_aload_n X.1 X.2.1 dX11_bisect_0 rfl (lv_at hl.1 0 rfl) ?_
  refine lv_iload_n X.1 X.2.1 dX11_bisect_1 rfl (lv_at hl.1 1 rfl) ?_
  obtain ⟨r2, hq2, hf_⟩ := ob_e hf; clear hf; have hf := hf_; clear hf_
  rcases r2 with e8 | v2_
  · have hq := Option.some.inj hf; subst hq
    refine gGoXV (gRunVX X Z hH hS (As := [.int (iI v1)]) (m_X11_checkTarget l hl0 G v1 nv1 M0 _ hq2) calX11_checkTarget k_612 k_3 k_610 (by decide) cX11 rfl ⟨by decide, by decide⟩ rfl hl rfl (Nat.le_of_ble_eq_true rfl) ⟨Nat.le_of_ble_eq_true rfl, Nat.le_of_ble_eq_true rfl⟩ dX11_bisect_2) hS (fun E ce q9 H locs hE hH hS h1 h2 h3 => ?_) (fun H locs hok hH hS => ?_)
    · exact gOutX X hnt (by obtain ⟨e7, h7, h8⟩ := hE; exact ⟨e7, congrArg _ (Sum.inl.inj h7), h8⟩) hH hS h1 h2 h3 ⟨Nat.le_of_ble_eq_true rfl, Nat.le_of_ble_eq_true rfl⟩
    · obtain ⟨z, hz⟩ := hok; cases hz
  · replace hf := ox_i hf
    refine gGoXV (gRunVX X Z hH hS (As := [.int (iI v1)]) (m_X11_checkTarget l hl0 G v1 nv1 M0 _ hq2) calX11_checkTarget k_612 k_3 k_610 (by decide) cX11 rfl ⟨by decide, by decide⟩ rfl hl rfl (Nat.le_of_ble_eq_true rfl) ⟨Nat.le_of_ble_eq_true rfl, Nat.le_of_ble_eq_true rfl⟩ dX11_bisect_2) hS (fun E ce q9 H locs hE hH hS h1 h2 h3 => ?_) (fun H locs _ hH hS => ?_)
    · obtain ⟨e7, h7, h8⟩ := hE; cases h7
    · refine lv_aload_n X.1 X.2.1 dX11_bisect_5 rfl (lv_at hl.1 0 rfl) ?_
      refine lv_iconst X.1 X.2.1 dX11_bisect_6 (v := iI 0) rfl ?_
      refine g_putI X cX11 hH hS (r := 0) (i := 0) (by decide) rfl 6 (by decide) k_447 rfl rfl rfl (Nat.le_of_ble_eq_true rfl) (x := 0) (nmI_l (by decide)) rfl rfl rfl dX11_bisect_7 (fun H locs hH hS => ?_)
      refine lv_iconst X.1 X.2.1 dX11_bisect_10 (v := iI 0) rfl ?_
      refine g_istore_n X (lv' := [(2, .int (iI 0)), (0, .ref (gAd G 0 0)), (1, .int (iI v1))]) dX11_bisect_11 rfl hl (by decide) rfl (fun ls hl => ?_)
      refine lv_aload_n X.1 X.2.1 dX11_bisect_12 rfl (lv_at hl.1 1 rfl) ?_
      refine g_get X cX11 hH (r := 0) (i := 0) (by decide) rfl 0 (by decide) k_441 rfl (v := .ref (gAd G 1 0)) rfl dX11_bisect_13 ?_
      have nd16 : nmI ((gU M0 0 0 6 0) 1 0 5) := hH.1.1 _ _ _
      refine g_get X cX7 hH (r := 1) (i := 0) (by decide) rfl 5 (by decide) k_75 rfl (v := .int (iI ((gU M0 0 0 6 0) 1 0 5))) rfl dX11_bisect_16 ?_
      refine g_istore_n X (lv' := [(3, .int (iI ((gU M0 0 0 6 0) 1 0 5))), (2, .int (iI 0)), (0, .ref (gAd G 0 0)), (1, .int (iI v1))]) dX11_bisect_19 rfl hl (by decide) rfl (fun ls hl => ?_)
      refine lv_aload_n X.1 X.2.1 dX11_bisect_20 rfl (lv_at hl.1 2 rfl) ?_
      refine lv_iload_n X.1 X.2.1 dX11_bisect_21 rfl (lv_at hl.1 1 rfl) ?_
      refine lv_iload_n X.1 X.2.1 dX11_bisect_22 rfl (lv_at hl.1 3 rfl) ?_
      obtain ⟨r23, hq23, hf_⟩ := ob_e hf; clear hf; have hf := hf_; clear hf_
      refine gGoZ (gRunV X hH (As := [.int (iI 0), .int (iI v1)]) (m_X11_isGoodAfter l G 0 (nmI_l (by decide)) v1 nv1 (gU M0 0 0 6 0) _ hq23) calX11_isGoodAfter k_1073 k_29 k_1071 (by decide) cX11 rfl ⟨by decide, by decide⟩ rfl hl rfl (Nat.le_of_ble_eq_true rfl) ⟨Nat.le_of_ble_eq_true rfl, Nat.le_of_ble_eq_true rfl⟩ dX11_bisect_23) hS (fun H locs br23 hH hS => ?_)
      refine g_if_eq X (nmI_b br23) (tgt := 38) dX11_bisect_26 (by decide) (fun hc26 => ?_) (fun hc26 => ?_)
      · replace hf := it_t hf hc26
        refine lv_iconst X.1 X.2.1 dX11_bisect_38 (v := iI (-1)) rfl ?_
        have hq := Option.some.inj hf; subst hq
        exact gRetXI X hH hS ⟨_, rfl⟩ (res := (-1)) (nmI_l (by decide)) ⟨Nat.le_of_ble_eq_true rfl, Nat.le_of_ble_eq_true rfl⟩ dX11_bisect_39
      · replace hf := it_f hf hc26
        refine lv_aload_n X.1 X.2.1 dX11_bisect_29 rfl (lv_at hl.1 2 rfl) ?_
        refine lv_iload_n X.1 X.2.1 dX11_bisect_30 rfl (lv_at hl.1 0 rfl) ?_
        refine lv_iload_n X.1 X.2.1 dX11_bisect_31 rfl (lv_at hl.1 3 rfl) ?_
        obtain ⟨r32, hq32, hf_⟩ := ob_e hf; clear hf; have hf := hf_; clear hf_
        refine gGoZ (gRunV X hH (As := [.int (iI ((gU M0 0 0 6 0) 1 0 5)), .int (iI v1)]) (m_X11_isGoodAfter l G ((gU M0 0 0 6 0) 1 0 5) nd16 v1 nv1 r23.2 _ hq32) calX11_isGoodAfter k_1073 k_29 k_1071 (by decide) cX11 rfl ⟨by decide, by decide⟩ rfl hl rfl (Nat.le_of_ble_eq_true rfl) ⟨Nat.le_of_ble_eq_true rfl, Nat.le_of_ble_eq_true rfl⟩ dX11_bisect_32) hS (fun H locs br32 hH hS => ?_)
        refine g_if_eq X (nmI_b br32) (tgt := 40) dX11_bisect_35 (by decide) (fun hc35 => ?_) (fun hc35 => ?_)
        · replace hf := it_t hf hc35
          refine lv_iconst X.1 X.2.1 dX11_bisect_40 (v := iI 0) rfl ?_
          refine g_istore X (lv' := [(4, .int (iI 0)), (3, .int (iI ((gU M0 0 0 6 0) 1 0 5))), (2, .int (iI 0)), (0, .ref (gAd G 0 0)), (1, .int (iI v1))]) dX11_bisect_41 hl (by decide) rfl (fun ls hl => ?_)
          refine w_X11_bisect_L43 X hl0 Z hnt M0 _ v1 nv1 q ?_ 64 0 (nmI_l (by decide)) ((gU M0 0 0 6 0) 1 0 5) nd16 0 (nmI_l (by decide)) r32.2 hf _ _ _ hH hS (gLv_sub hl [3, 4, 2, 1, 0] rfl)
          · intro y3_43_99 ny3_43_99 M_43_99 hf H locs ls hH hS hl
            refine lv_iload_n X.1 X.2.1 dX11_bisect_99 rfl (lv_at hl.1 0 rfl) ?_
            refine lv_iconst X.1 X.2.1 dX11_bisect_100 (v := iI 1) rfl ?_
            refine g_isub X dX11_bisect_101 ?_
            have hq := Option.some.inj hf; subst hq
            exact gRetXI X hH hS ⟨_, rfl⟩ (res := wI (y3_43_99 - 1)) (nmI_w _) ⟨Nat.le_of_ble_eq_true rfl, Nat.le_of_ble_eq_true rfl⟩ dX11_bisect_102
        · replace hf := it_f hf hc35
          refine lv_iconst X.1 X.2.1 dX11_bisect_38 (v := iI (-1)) rfl ?_
          have hq := Option.some.inj hf; subst hq
          exact gRetXI X hH hS ⟨_, rfl⟩ (res := (-1)) (nmI_l (by decide)) ⟨Nat.le_of_ble_eq_true rfl, Nat.le_of_ble_eq_true rfl⟩ dX11_bisect_39
theorem m_X11_input (l : Launch) (hl0 : l.stackTraces = false) (G : gG) (v1 : Int) (nv1 : nmI v1) (v2 : Int) (nv2 : nmI v2) (v3 : Int) (nv3 : nmI v3) (v4 : Int) (nv4 : nmI v4) (M0 : gM) (q : (Nat ⊕ (Int × gM))) (hf : f_X11_input v1 v2 v3 v4 M0 = some q) : gXMet l yX11_input cX11_input 5 (some .int) 8 132 6 36 G M0 [.ref (gAd G 0 0), .int (iI v1), .int (iI v2), .int (iI v3), .int (iI v4)] (gXi G (∃ z, q = Sum.inr z) (gvP q).1 (gvP q).2) (fun e9 => q = Sum.inl e9) := by
  refine gOfX (by decide) (by show _ ≤ 5; exact Nat.le_of_ble_eq_true rfl) rfl ?_
  intro p e s m below meth c X Z hnt hH ls hl
  replace hl : gLv ls 5 [(0, .ref (gAd G 0 0)), (1, .int (iI v1)), (2, .int (iI v2)), (3, .int (iI v3)), (4, .int (iI v4))] := hl
  have hS : va_S (gA G) s.heap s.heap [] := va_S.rf
  generalize hargs : ([.ref (gAd G 0 0), .int (iI v1), .int (iI v2), .int (iI v3), .int (iI v4)] : List Value).toArray = args at X ⊢
  clear hargs
  unfold f_X11_input at hf
  refine lv_iload_n X.1 X.2.1 dX11_input_0 rfl (lv_at hl.1 1 rfl) ?_
  obtain ⟨k14, ek14, hf_⟩ := oj_e hf; clear hf; have hf := hf_; clear hf_
  have hk14 : ∀ (xs0_14 : Int) (bxs0_14 : xs0_14 = 0 ∨ xs0_14 = 1), k14 xs0_14 = some q → ∀ (H : Heap) (locs : List Loc) (ls : Array Slot), gH G M0 H → va_S (gA G) s.heap H locs → gLv ls 5 [(0, .ref (gAd G 0 0)), (1, .int (iI v1)), (2, .int (iI v2)), (3, .int (iI v3)), (4, .int (iI v4))] → W p l e { frames := 8, cells := 6, slots := 36, locals := 132 } s m args below meth c H locs 0 0 (vx_MQ below (gXi G (∃ z, q = Sum.inr z) (gvP q).1 (gvP q).2) (gXC G (fun e9 => q = Sum.inl e9) M0) args s 6 36 (gA G)) (F0 m 14 ls [.int (iI xs0_14)]) := by
    intro xs0_14 bxs0_14 hf H locs ls hH hS hl
    subst ek14
    obtain ⟨r14, hq14, hf_⟩ := ob_e hf; clear hf; have hf := hf_; clear hf_
    rcases r14 with e8 | v14_
    · have hq := Option.some.inj hf; subst hq
      refine gGoXV (gRunSX X Z hH hS (As := [.int (iI xs0_14)]) (m_X11_checkArgument l hl0 G xs0_14 bxs0_14 M0 _ hq14) calX11_checkArgument k_485 k_484 ⟨by decide, by decide⟩ rfl hl rfl (Nat.le_of_ble_eq_true rfl) ⟨Nat.le_of_ble_eq_true rfl, Nat.le_of_ble_eq_true rfl⟩ dX11_input_14) hS (fun E ce q9 H locs hE hH hS h1 h2 h3 => ?_) (fun H locs hok hH hS => ?_)
      · exact gOutX X hnt (by obtain ⟨e7, h7, h8⟩ := hE; exact ⟨e7, congrArg _ (Sum.inl.inj h7), h8⟩) hH hS h1 h2 h3 ⟨Nat.le_of_ble_eq_true rfl, Nat.le_of_ble_eq_true rfl⟩
      · obtain ⟨z, hz⟩ := hok; cases hz
    · replace hf := ox_i hf
      refine gGoXV (gRunSX X Z hH hS (As := [.int (iI xs0_14)]) (m_X11_checkArgument l hl0 G xs0_14 bxs0_14 M0 _ hq14) calX11_checkArgument k_485 k_484 ⟨by decide, by decide⟩ rfl hl rfl (Nat.le_of_ble_eq_true rfl) ⟨Nat.le_of_ble_eq_true rfl, Nat.le_of_ble_eq_true rfl⟩ dX11_input_14) hS (fun E ce q9 H locs hE hH hS h1 h2 h3 => ?_) (fun H locs _ hH hS => ?_)
      · obtain ⟨e7, h7, h8⟩ := hE; cases h7
      · refine lv_iload_n X.1 X.2.1 dX11_input_17 rfl (lv_at hl.1 2 rfl) ?_
        refine lv_iconst X.1 X.2.1 dX11_input_18 (v := iI (-1)) rfl ?_
        obtain ⟨k68, ek68, hf_⟩ := oj_e hf; clear hf; have hf := hf_; clear hf_
        have hk68 : k68 = some q → ∀ (H : Heap) (locs : List Loc) (ls : Array Slot), gH G M0 H → va_S (gA G) s.heap H locs → gLv ls 5 [(0, .ref (gAd G 0 0)), (1, .int (iI v1)), (2, .int (iI v2)), (3, .int (iI v3)), (4, .int (iI v4))] → W p l e { frames := 8, cells := 6, slots := 36, locals := 132 } s m args below meth c H locs 2 12 (vx_MQ below (gXi G (∃ z, q = Sum.inr z) (gvP q).1 (gvP q).2) (gXC G (fun e9 => q = Sum.inl e9) M0) args s 6 36 (gA G)) (F0 m 68 ls []) := by
          intro  hf H locs ls hH hS hl
          subst ek68
          refine lv_aload_n X.1 X.2.1 dX11_input_68 rfl (lv_at hl.1 0 rfl) ?_
          refine lv_iload_n X.1 X.2.1 dX11_input_69 rfl (lv_at hl.1 1 rfl) ?_
          obtain ⟨r70, hq70, hf_⟩ := ob_e hf; clear hf; have hf := hf_; clear hf_
          rcases r70 with e8 | v70_
          · have hq := Option.some.inj hf; subst hq
            refine gGoXV (gRunVX X Z hH hS (As := [.int (iI v1)]) (m_X11_checkThing l hl0 G v1 nv1 M0 _ hq70) calX11_checkThing k_1044 k_26 k_1042 (by decide) cX11 rfl ⟨by decide, by decide⟩ rfl hl rfl (Nat.le_of_ble_eq_true rfl) ⟨Nat.le_of_ble_eq_true rfl, Nat.le_of_ble_eq_true rfl⟩ dX11_input_70) hS (fun E ce q9 H locs hE hH hS h1 h2 h3 => ?_) (fun H locs hok hH hS => ?_)
            · exact gOutX X hnt (by obtain ⟨e7, h7, h8⟩ := hE; exact ⟨e7, congrArg _ (Sum.inl.inj h7), h8⟩) hH hS h1 h2 h3 ⟨Nat.le_of_ble_eq_true rfl, Nat.le_of_ble_eq_true rfl⟩
            · obtain ⟨z, hz⟩ := hok; cases hz
          · replace hf := ox_i hf
            refine gGoXV (gRunVX X Z hH hS (As := [.int (iI v1)]) (m_X11_checkThing l hl0 G v1 nv1 M0 _ hq70) calX11_checkThing k_1044 k_26 k_1042 (by decide) cX11 rfl ⟨by decide, by decide⟩ rfl hl rfl (Nat.le_of_ble_eq_true rfl) ⟨Nat.le_of_ble_eq_true rfl, Nat.le_of_ble_eq_true rfl⟩ dX11_input_70) hS (fun E ce q9 H locs hE hH hS h1 h2 h3 => ?_) (fun H locs _ hH hS => ?_)
            · obtain ⟨e7, h7, h8⟩ := hE; cases h7
            · refine lv_aload_n X.1 X.2.1 dX11_input_73 rfl (lv_at hl.1 0 rfl) ?_
              refine lv_iload_n X.1 X.2.1 dX11_input_74 rfl (lv_at hl.1 2 rfl) ?_
              obtain ⟨r75, hq75, hf_⟩ := ob_e hf; clear hf; have hf := hf_; clear hf_
              rcases r75 with e8 | v75_
              · have hq := Option.some.inj hf; subst hq
                refine gGoXV (gRunVX X Z hH hS (As := [.int (iI v2)]) (m_X11_checkThing l hl0 G v2 nv2 M0 _ hq75) calX11_checkThing k_1044 k_26 k_1042 (by decide) cX11 rfl ⟨by decide, by decide⟩ rfl hl rfl (Nat.le_of_ble_eq_true rfl) ⟨Nat.le_of_ble_eq_true rfl, Nat.le_of_ble_eq_true rfl⟩ dX11_input_75) hS (fun E ce q9 H locs hE hH hS h1 h2 h3 => ?_) (fun H locs hok hH hS => ?_)
                · exact gOutX X hnt (by obtain ⟨e7, h7, h8⟩ := hE; exact ⟨e7, congrArg _ (Sum.inl.inj h7), h8⟩) hH hS h1 h2 h3 ⟨Nat.le_of_ble_eq_true rfl, Nat.le_of_ble_eq_true rfl⟩
                · obtain ⟨z, hz⟩ := hok; cases hz
              · replace hf := ox_i hf
                refine gGoXV (gRunVX X Z hH hS (As := [.int (iI v2)]) (m_X11_checkThing l hl0 G v2 nv2 M0 _ hq75) calX11_checkThing k_1044 k_26 k_1042 (by decide) cX11 rfl ⟨by decide, by decide⟩ rfl hl rfl (Nat.le_of_ble_eq_true rfl) ⟨Nat.le_of_ble_eq_true rfl, Nat.le_of_ble_eq_true rfl⟩ dX11_input_75) hS (fun E ce q9 H locs hE hH hS h1 h2 h3 => ?_) (fun H locs _ hH hS => ?_)
                · obtain ⟨e7, h7, h8⟩ := hE; cases h7
                · refine lv_aload_n X.1 X.2.1 dX11_input_78 rfl (lv_at hl.1 0 rfl) ?_
                  refine g_get X cX11 hH (r := 0) (i := 0) (by decide) rfl 1 (by decide) k_442 rfl (v := .ref (gAd G 2 0)) rfl dX11_input_79 ?_
                  refine g_get X cX5 hH (r := 2) (i := 0) (by decide) rfl 4 (by decide) k_249 rfl (v := .ref (gAd G 8 15)) rfl dX11_input_82 ?_
                  have nd85 : nmI (M0 8 15 5) := hH.1.1 _ _ _
                  refine g_get X cX6 hH (r := 8) (i := 15) (by decide) rfl 5 (by decide) k_120 rfl (v := .int (iI (M0 8 15 5))) rfl dX11_input_85 ?_
                  refine lv_iconst X.1 X.2.1 dX11_input_88 (v := iI 4) rfl ?_
                  obtain ⟨k97, ek97, hf_⟩ := oj_e hf; clear hf; have hf := hf_; clear hf_
                  have hk97 : ∀ (xs0_97 : Int) (bxs0_97 : xs0_97 = 0 ∨ xs0_97 = 1), k97 xs0_97 = some q → ∀ (H : Heap) (locs : List Loc) (ls : Array Slot), gH G M0 H → va_S (gA G) s.heap H locs → gLv ls 5 [(0, .ref (gAd G 0 0)), (1, .int (iI v1)), (2, .int (iI v2)), (3, .int (iI v3)), (4, .int (iI v4))] → W p l e { frames := 8, cells := 6, slots := 36, locals := 132 } s m args below meth c H locs 4 24 (vx_MQ below (gXi G (∃ z, q = Sum.inr z) (gvP q).1 (gvP q).2) (gXC G (fun e9 => q = Sum.inl e9) M0) args s 6 36 (gA G)) (F0 m 97 ls [.int (iI xs0_97)]) := by
                    intro xs0_97 bxs0_97 hf H locs ls hH hS hl
                    subst ek97
                    obtain ⟨r97, hq97, hf_⟩ := ob_e hf; clear hf; have hf := hf_; clear hf_
                    rcases r97 with e8 | v97_
                    · have hq := Option.some.inj hf; subst hq
                      refine gGoXV (gRunSX X Z hH hS (As := [.int (iI xs0_97)]) (m_X11_checkState l hl0 G xs0_97 bxs0_97 M0 _ hq97) calX11_checkState k_583 k_582 ⟨by decide, by decide⟩ rfl hl rfl (Nat.le_of_ble_eq_true rfl) ⟨Nat.le_of_ble_eq_true rfl, Nat.le_of_ble_eq_true rfl⟩ dX11_input_97) hS (fun E ce q9 H locs hE hH hS h1 h2 h3 => ?_) (fun H locs hok hH hS => ?_)
                      · exact gOutX X hnt (by obtain ⟨e7, h7, h8⟩ := hE; exact ⟨e7, congrArg _ (Sum.inl.inj h7), h8⟩) hH hS h1 h2 h3 ⟨Nat.le_of_ble_eq_true rfl, Nat.le_of_ble_eq_true rfl⟩
                      · obtain ⟨z, hz⟩ := hok; cases hz
                    · replace hf := ox_i hf
                      refine gGoXV (gRunSX X Z hH hS (As := [.int (iI xs0_97)]) (m_X11_checkState l hl0 G xs0_97 bxs0_97 M0 _ hq97) calX11_checkState k_583 k_582 ⟨by decide, by decide⟩ rfl hl rfl (Nat.le_of_ble_eq_true rfl) ⟨Nat.le_of_ble_eq_true rfl, Nat.le_of_ble_eq_true rfl⟩ dX11_input_97) hS (fun E ce q9 H locs hE hH hS h1 h2 h3 => ?_) (fun H locs _ hH hS => ?_)
                      · obtain ⟨e7, h7, h8⟩ := hE; cases h7
                      · refine lv_aload_n X.1 X.2.1 dX11_input_100 rfl (lv_at hl.1 0 rfl) ?_
                        refine g_get X cX11 hH (r := 0) (i := 0) (by decide) rfl 1 (by decide) k_442 rfl (v := .ref (gAd G 2 0)) rfl dX11_input_101 ?_
                        refine g_get X cX5 hH (r := 2) (i := 0) (by decide) rfl 4 (by decide) k_249 rfl (v := .ref (gAd G 8 15)) rfl dX11_input_104 ?_
                        refine lv_iload_n X.1 X.2.1 dX11_input_107 rfl (lv_at hl.1 1 rfl) ?_
                        refine lv_iload_n X.1 X.2.1 dX11_input_108 rfl (lv_at hl.1 2 rfl) ?_
                        refine lv_iload_n X.1 X.2.1 dX11_input_109 rfl (lv_at hl.1 3 rfl) ?_
                        refine lv_iload X.1 X.2.1 dX11_input_110 (lv_at hl.1 4 rfl) ?_
                        refine gGoI (gRunV X hH (As := [.int (iI v1), .int (iI v2), .int (iI v3), .int (iI v4)]) (m_X6_append l G 15 (by decide) v1 nv1 v2 nv2 v3 nv3 v4 nv4 M0 _ rfl) calX6_append k_649 k_650 k_1082 (by decide) cX6 rfl ⟨by decide, by decide⟩ rfl hl rfl (Nat.le_of_ble_eq_true rfl) ⟨Nat.le_of_ble_eq_true rfl, Nat.le_of_ble_eq_true rfl⟩ dX11_input_112) hS (fun H locs nr112 hH hS => ?_)
                        have hq := Option.some.inj hf; subst hq
                        exact gRetXI X hH hS ⟨_, rfl⟩ (res := (f_X6_append 15 v1 v2 v3 v4 M0).1) nr112 ⟨Nat.le_of_ble_eq_true rfl, Nat.le_of_ble_eq_true rfl⟩ dX11_input_115
                  clear ek97
                  refine g_icmp_ge X nd85 (nmI_l (by decide)) (tgt := 96) dX11_input_89 (by decide) (fun hc89 => ?_) (fun hc89 => ?_)
                  · replace hf := it_f hf hc89
                    refine lv_iconst X.1 X.2.1 dX11_input_96 (v := iI 0) rfl ?_
                    exact hk97 0 (by decide) hf _ _ _ hH hS (gLv_sub hl [0, 1, 2, 3, 4] rfl)
                  · replace hf := it_t hf hc89
                    refine lv_iconst X.1 X.2.1 dX11_input_92 (v := iI 1) rfl ?_
                    refine lv_goto (tgt := 97) X.1 X.2.1 dX11_input_93 (by decide) ?_
                    exact hk97 1 (by decide) hf _ _ _ hH hS (gLv_sub hl [0, 1, 2, 3, 4] rfl)
        clear ek68
        refine g_icmp_ne X nv2 (nmI_l (by decide)) (tgt := 42) dX11_input_19 (by decide) (fun hc19 => ?_) (fun hc19 => ?_)
        · replace hf := it_f hf hc19
          refine lv_iload_n X.1 X.2.1 dX11_input_42 rfl (lv_at hl.1 3 rfl) ?_
          refine lv_iconst X.1 X.2.1 dX11_input_43 (v := iI 4) rfl ?_
          refine gGoZ (gRunS X hH (As := [.int (iI v3), .int (iI 4)]) (m_X11_isBelow l G v3 nv3 4 (nmI_l (by decide)) M0 _ rfl) calX11_isBelow k_482 k_481 ⟨by decide, by decide⟩ rfl hl rfl (Nat.le_of_ble_eq_true rfl) ⟨Nat.le_of_ble_eq_true rfl, Nat.le_of_ble_eq_true rfl⟩ dX11_input_44) hS (fun H locs br44 hH hS => ?_)
          obtain ⟨k65, ek65, hf_⟩ := oj_e hf; clear hf; have hf := hf_; clear hf_
          have hk65 : ∀ (xs0_65 : Int) (bxs0_65 : xs0_65 = 0 ∨ xs0_65 = 1), k65 xs0_65 = some q → ∀ (H : Heap) (locs : List Loc) (ls : Array Slot), gH G M0 H → va_S (gA G) s.heap H locs → gLv ls 5 [(0, .ref (gAd G 0 0)), (1, .int (iI v1)), (2, .int (iI v2)), (3, .int (iI v3)), (4, .int (iI v4))] → W p l e { frames := 8, cells := 6, slots := 36, locals := 132 } s m args below meth c H locs 1 6 (vx_MQ below (gXi G (∃ z, q = Sum.inr z) (gvP q).1 (gvP q).2) (gXC G (fun e9 => q = Sum.inl e9) M0) args s 6 36 (gA G)) (F0 m 65 ls [.int (iI xs0_65)]) := by
            intro xs0_65 bxs0_65 hf H locs ls hH hS hl
            subst ek65
            obtain ⟨r65, hq65, hf_⟩ := ob_e hf; clear hf; have hf := hf_; clear hf_
            rcases r65 with e8 | v65_
            · have hq := Option.some.inj hf; subst hq
              refine gGoXV (gRunSX X Z hH hS (As := [.int (iI xs0_65)]) (m_X11_checkArgument l hl0 G xs0_65 bxs0_65 M0 _ hq65) calX11_checkArgument k_485 k_484 ⟨by decide, by decide⟩ rfl hl rfl (Nat.le_of_ble_eq_true rfl) ⟨Nat.le_of_ble_eq_true rfl, Nat.le_of_ble_eq_true rfl⟩ dX11_input_65) hS (fun E ce q9 H locs hE hH hS h1 h2 h3 => ?_) (fun H locs hok hH hS => ?_)
              · exact gOutX X hnt (by obtain ⟨e7, h7, h8⟩ := hE; exact ⟨e7, congrArg _ (Sum.inl.inj h7), h8⟩) hH hS h1 h2 h3 ⟨Nat.le_of_ble_eq_true rfl, Nat.le_of_ble_eq_true rfl⟩
              · obtain ⟨z, hz⟩ := hok; cases hz
            · replace hf := ox_i hf
              refine gGoXV (gRunSX X Z hH hS (As := [.int (iI xs0_65)]) (m_X11_checkArgument l hl0 G xs0_65 bxs0_65 M0 _ hq65) calX11_checkArgument k_485 k_484 ⟨by decide, by decide⟩ rfl hl rfl (Nat.le_of_ble_eq_true rfl) ⟨Nat.le_of_ble_eq_true rfl, Nat.le_of_ble_eq_true rfl⟩ dX11_input_65) hS (fun E ce q9 H locs hE hH hS h1 h2 h3 => ?_) (fun H locs _ hH hS => ?_)
              · obtain ⟨e7, h7, h8⟩ := hE; cases h7
              · exact hk68  hf _ _ _ hH hS (gLv_sub hl [0, 1, 2, 3, 4] rfl)
          clear ek65
          obtain ⟨k64, ek64, hf_⟩ := oj_e hf; clear hf; have hf := hf_; clear hf_
          have hk64 : k64 = some q → ∀ (H : Heap) (locs : List Loc) (ls : Array Slot), gH G M0 H → va_S (gA G) s.heap H locs → gLv ls 5 [(0, .ref (gAd G 0 0)), (1, .int (iI v1)), (2, .int (iI v2)), (3, .int (iI v3)), (4, .int (iI v4))] → W p l e { frames := 8, cells := 6, slots := 36, locals := 132 } s m args below meth c H locs 1 6 (vx_MQ below (gXi G (∃ z, q = Sum.inr z) (gvP q).1 (gvP q).2) (gXC G (fun e9 => q = Sum.inl e9) M0) args s 6 36 (gA G)) (F0 m 64 ls []) := by
            intro  hf H locs ls hH hS hl
            subst ek64
            refine lv_iconst X.1 X.2.1 dX11_input_64 (v := iI 0) rfl ?_
            exact hk65 0 (by decide) hf _ _ _ hH hS (gLv_sub hl [0, 1, 2, 3, 4] rfl)
          clear ek64
          refine g_if_eq X (nmI_b br44) (tgt := 64) dX11_input_47 (by decide) (fun hc47 => ?_) (fun hc47 => ?_)
          · replace hf := it_t hf hc47
            exact hk64  hf _ _ _ hH hS (gLv_sub hl [0, 1, 2, 3, 4] rfl)
          · replace hf := it_f hf hc47
            refine lv_iload X.1 X.2.1 dX11_input_50 (lv_at hl.1 4 rfl) ?_
            refine lv_bipush X.1 X.2.1 dX11_input_52 (v := iI 10) (by decide) ?_
            refine gGoZ (gRunS X hH (As := [.int (iI v4), .int (iI 10)]) (m_X11_isBelow l G v4 nv4 10 (nmI_l (by decide)) M0 _ rfl) calX11_isBelow k_482 k_481 ⟨by decide, by decide⟩ rfl hl rfl (Nat.le_of_ble_eq_true rfl) ⟨Nat.le_of_ble_eq_true rfl, Nat.le_of_ble_eq_true rfl⟩ dX11_input_54) hS (fun H locs br54 hH hS => ?_)
            refine g_if_eq X (nmI_b br54) (tgt := 64) dX11_input_57 (by decide) (fun hc57 => ?_) (fun hc57 => ?_)
            · replace hf := it_t hf hc57
              exact hk64  hf _ _ _ hH hS (gLv_sub hl [0, 1, 2, 3, 4] rfl)
            · replace hf := it_f hf hc57
              refine lv_iconst X.1 X.2.1 dX11_input_60 (v := iI 1) rfl ?_
              refine lv_goto (tgt := 65) X.1 X.2.1 dX11_input_61 (by decide) ?_
              exact hk65 1 (by decide) hf _ _ _ hH hS (gLv_sub hl [0, 1, 2, 3, 4] rfl)
        · replace hf := it_t hf hc19
          refine lv_iload_n X.1 X.2.1 dX11_input_22 rfl (lv_at hl.1 3 rfl) ?_
          obtain ⟨k36, ek36, hf_⟩ := oj_e hf; clear hf; have hf := hf_; clear hf_
          have hk36 : ∀ (xs0_36 : Int) (bxs0_36 : xs0_36 = 0 ∨ xs0_36 = 1), k36 xs0_36 = some q → ∀ (H : Heap) (locs : List Loc) (ls : Array Slot), gH G M0 H → va_S (gA G) s.heap H locs → gLv ls 5 [(0, .ref (gAd G 0 0)), (1, .int (iI v1)), (2, .int (iI v2)), (3, .int (iI v3)), (4, .int (iI v4))] → W p l e { frames := 8, cells := 6, slots := 36, locals := 132 } s m args below meth c H locs 1 6 (vx_MQ below (gXi G (∃ z, q = Sum.inr z) (gvP q).1 (gvP q).2) (gXC G (fun e9 => q = Sum.inl e9) M0) args s 6 36 (gA G)) (F0 m 36 ls [.int (iI xs0_36)]) := by
            intro xs0_36 bxs0_36 hf H locs ls hH hS hl
            subst ek36
            obtain ⟨r36, hq36, hf_⟩ := ob_e hf; clear hf; have hf := hf_; clear hf_
            rcases r36 with e8 | v36_
            · have hq := Option.some.inj hf; subst hq
              refine gGoXV (gRunSX X Z hH hS (As := [.int (iI xs0_36)]) (m_X11_checkArgument l hl0 G xs0_36 bxs0_36 M0 _ hq36) calX11_checkArgument k_485 k_484 ⟨by decide, by decide⟩ rfl hl rfl (Nat.le_of_ble_eq_true rfl) ⟨Nat.le_of_ble_eq_true rfl, Nat.le_of_ble_eq_true rfl⟩ dX11_input_36) hS (fun E ce q9 H locs hE hH hS h1 h2 h3 => ?_) (fun H locs hok hH hS => ?_)
              · exact gOutX X hnt (by obtain ⟨e7, h7, h8⟩ := hE; exact ⟨e7, congrArg _ (Sum.inl.inj h7), h8⟩) hH hS h1 h2 h3 ⟨Nat.le_of_ble_eq_true rfl, Nat.le_of_ble_eq_true rfl⟩
              · obtain ⟨z, hz⟩ := hok; cases hz
            · replace hf := ox_i hf
              refine gGoXV (gRunSX X Z hH hS (As := [.int (iI xs0_36)]) (m_X11_checkArgument l hl0 G xs0_36 bxs0_36 M0 _ hq36) calX11_checkArgument k_485 k_484 ⟨by decide, by decide⟩ rfl hl rfl (Nat.le_of_ble_eq_true rfl) ⟨Nat.le_of_ble_eq_true rfl, Nat.le_of_ble_eq_true rfl⟩ dX11_input_36) hS (fun E ce q9 H locs hE hH hS h1 h2 h3 => ?_) (fun H locs _ hH hS => ?_)
              · obtain ⟨e7, h7, h8⟩ := hE; cases h7
              · refine lv_goto (tgt := 68) X.1 X.2.1 dX11_input_39 (by decide) ?_
                exact hk68  hf _ _ _ hH hS (gLv_sub hl [0, 1, 2, 3, 4] rfl)
          clear ek36
          obtain ⟨k35, ek35, hf_⟩ := oj_e hf; clear hf; have hf := hf_; clear hf_
          have hk35 : k35 = some q → ∀ (H : Heap) (locs : List Loc) (ls : Array Slot), gH G M0 H → va_S (gA G) s.heap H locs → gLv ls 5 [(0, .ref (gAd G 0 0)), (1, .int (iI v1)), (2, .int (iI v2)), (3, .int (iI v3)), (4, .int (iI v4))] → W p l e { frames := 8, cells := 6, slots := 36, locals := 132 } s m args below meth c H locs 1 6 (vx_MQ below (gXi G (∃ z, q = Sum.inr z) (gvP q).1 (gvP q).2) (gXC G (fun e9 => q = Sum.inl e9) M0) args s 6 36 (gA G)) (F0 m 35 ls []) := by
            intro  hf H locs ls hH hS hl
            subst ek35
            refine lv_iconst X.1 X.2.1 dX11_input_35 (v := iI 0) rfl ?_
            exact hk36 0 (by decide) hf _ _ _ hH hS (gLv_sub hl [0, 1, 2, 3, 4] rfl)
          clear ek35
          refine g_if_ne X nv3 (tgt := 35) dX11_input_23 (by decide) (fun hc23 => ?_) (fun hc23 => ?_)
          · replace hf := it_f hf hc23
            exact hk35  hf _ _ _ hH hS (gLv_sub hl [0, 1, 2, 3, 4] rfl)
          · replace hf := it_t hf hc23
            refine lv_iload X.1 X.2.1 dX11_input_26 (lv_at hl.1 4 rfl) ?_
            refine g_if_ne X nv4 (tgt := 35) dX11_input_28 (by decide) (fun hc28 => ?_) (fun hc28 => ?_)
            · replace hf := it_f hf hc28
              exact hk35  hf _ _ _ hH hS (gLv_sub hl [0, 1, 2, 3, 4] rfl)
            · replace hf := it_t hf hc28
              refine lv_iconst X.1 X.2.1 dX11_input_31 (v := iI 1) rfl ?_
              refine lv_goto (tgt := 36) X.1 X.2.1 dX11_input_32 (by decide) ?_
              exact hk36 1 (by decide) hf _ _ _ hH hS (gLv_sub hl [0, 1, 2, 3, 4] rfl)
  clear ek14
  obtain ⟨k13, ek13, hf_⟩ := oj_e hf; clear hf; have hf := hf_; clear hf_
  have hk13 : k13 = some q → ∀ (H : Heap) (locs : List Loc) (ls : Array Slot), gH G M0 H → va_S (gA G) s.heap H locs → gLv ls 5 [(0, .ref (gAd G 0 0)), (1, .int (iI v1)), (2, .int (iI v2)), (3, .int (iI v3)), (4, .int (iI v4))] → W p l e { frames := 8, cells := 6, slots := 36, locals := 132 } s m args below meth c H locs 0 0 (vx_MQ below (gXi G (∃ z, q = Sum.inr z) (gvP q).1 (gvP q).2) (gXC G (fun e9 => q = Sum.inl e9) M0) args s 6 36 (gA G)) (F0 m 13 ls []) := by
    intro  hf H locs ls hH hS hl
    subst ek13
    refine lv_iconst X.1 X.2.1 dX11_input_13 (v := iI 0) rfl ?_
    exact hk14 0 (by decide) hf _ _ _ hH hS (gLv_sub hl [0, 1, 2, 3, 4] rfl)
  clear ek13
  refine g_if_lt X nv1 (tgt := 13) dX11_input_1 (by decide) (fun hc1 => ?_) (fun hc1 => ?_)
  · replace hf := it_t hf hc1
    exact hk13  hf _ _ _ hH hS (gLv_sub hl [0, 1, 2, 3, 4] rfl)
  · replace hf := it_f hf hc1
    refine lv_iload_n X.1 X.2.1 dX11_input_4 rfl (lv_at hl.1 2 rfl) ?_
    refine lv_iconst X.1 X.2.1 dX11_input_5 (v := iI (-1)) rfl ?_
    refine g_icmp_lt X nv2 (nmI_l (by decide)) (tgt := 13) dX11_input_6 (by decide) (fun hc6 => ?_) (fun hc6 => ?_)
    · replace hf := it_t hf hc6
      exact hk13  hf _ _ _ hH hS (gLv_sub hl [0, 1, 2, 3, 4] rfl)
    · replace hf := it_f hf hc6
      refine lv_iconst X.1 X.2.1 dX11_input_9 (v := iI 1) rfl ?_
      refine lv_goto (tgt := 14) X.1 X.2.1 dX11_input_10 (by decide) ?_
      exact hk14 1 (by decide) hf _ _ _ hH hS (gLv_sub hl [0, 1, 2, 3, 4] rfl)
theorem m_X11_target (l : Launch) (hl0 : l.stackTraces = false) (G : gG) (v1 : Int) (nv1 : nmI v1) (v2 : Int) (nv2 : nmI v2) (v3 : Int) (nv3 : nmI v3) (v4 : Int) (nv4 : nmI v4) (v5 : Int) (nv5 : nmI v5) (v6 : Int) (nv6 : nmI v6) (M0 : gM) (q : (Nat ⊕ (Int × gM))) (hf : f_X11_target v1 v2 v3 v4 v5 v6 M0 = some q) : gXMet l yX11_target cX11_target 8 (some .int) 7 110 5 30 G M0 [.ref (gAd G 0 0), .int (iI v1), .int (iI v2), .int (iI v3), .int (iI v4), .int (iI v5), .int (iI v6)] (gXi G (∃ z, q = Sum.inr z) (gvP q).1 (gvP q).2) (fun e9 => q = Sum.inl e9) := by
  refine gOfX (by decide) (by show _ ≤ 8; exact Nat.le_of_ble_eq_true rfl) rfl ?_
  intro p e s m below meth c X Z hnt hH ls hl
  replace hl : gLv ls 8 [(0, .ref (gAd G 0 0)), (1, .int (iI v1)), (2, .int (iI v2)), (3, .int (iI v3)), (4, .int (iI v4)), (5, .int (iI v5)), (6, .int (iI v6))] := hl
  have hS : va_S (gA G) s.heap s.heap [] := va_S.rf
  generalize hargs : ([.ref (gAd G 0 0), .int (iI v1), .int (iI v2), .int (iI v3), .int (iI v4), .int (iI v5), .int (iI v6)] : List Value).toArray = args at X ⊢
  clear hargs
  unfold f_X11_target at hf
  refine lv_iload_n X.1 X.2.1 dX11_target_0 rfl (lv_at hl.1 1 rfl) ?_
  refine lv_iconst X.1 X.2.1 dX11_target_1 (v := iI 3) rfl ?_
  refine gGoZ (gRunS X hH (As := [.int (iI v1), .int (iI 3)]) (m_X11_isBelow l G v1 nv1 3 (nmI_l (by decide)) M0 _ rfl) calX11_isBelow k_482 k_481 ⟨by decide, by decide⟩ rfl hl rfl (Nat.le_of_ble_eq_true rfl) ⟨Nat.le_of_ble_eq_true rfl, Nat.le_of_ble_eq_true rfl⟩ dX11_target_2) hS (fun H locs br2 hH hS => ?_)
  obtain ⟨k30, ek30, hf_⟩ := oj_e hf; clear hf; have hf := hf_; clear hf_
  have hk30 : ∀ (xs0_30 : Int) (bxs0_30 : xs0_30 = 0 ∨ xs0_30 = 1), k30 xs0_30 = some q → ∀ (H : Heap) (locs : List Loc) (ls : Array Slot), gH G M0 H → va_S (gA G) s.heap H locs → gLv ls 8 [(0, .ref (gAd G 0 0)), (1, .int (iI v1)), (2, .int (iI v2)), (3, .int (iI v3)), (4, .int (iI v4)), (5, .int (iI v5)), (6, .int (iI v6))] → W p l e { frames := 7, cells := 5, slots := 30, locals := 110 } s m args below meth c H locs 0 0 (vx_MQ below (gXi G (∃ z, q = Sum.inr z) (gvP q).1 (gvP q).2) (gXC G (fun e9 => q = Sum.inl e9) M0) args s 5 30 (gA G)) (F0 m 30 ls [.int (iI xs0_30)]) := by
    intro xs0_30 bxs0_30 hf H locs ls hH hS hl
    subst ek30
    obtain ⟨r30, hq30, hf_⟩ := ob_e hf; clear hf; have hf := hf_; clear hf_
    rcases r30 with e8 | v30_
    · have hq := Option.some.inj hf; subst hq
      refine gGoXV (gRunSX X Z hH hS (As := [.int (iI xs0_30)]) (m_X11_checkArgument l hl0 G xs0_30 bxs0_30 M0 _ hq30) calX11_checkArgument k_485 k_484 ⟨by decide, by decide⟩ rfl hl rfl (Nat.le_of_ble_eq_true rfl) ⟨Nat.le_of_ble_eq_true rfl, Nat.le_of_ble_eq_true rfl⟩ dX11_target_30) hS (fun E ce q9 H locs hE hH hS h1 h2 h3 => ?_) (fun H locs hok hH hS => ?_)
      · exact gOutX X hnt (by obtain ⟨e7, h7, h8⟩ := hE; exact ⟨e7, congrArg _ (Sum.inl.inj h7), h8⟩) hH hS h1 h2 h3 ⟨Nat.le_of_ble_eq_true rfl, Nat.le_of_ble_eq_true rfl⟩
      · obtain ⟨z, hz⟩ := hok; cases hz
    · replace hf := ox_i hf
      refine gGoXV (gRunSX X Z hH hS (As := [.int (iI xs0_30)]) (m_X11_checkArgument l hl0 G xs0_30 bxs0_30 M0 _ hq30) calX11_checkArgument k_485 k_484 ⟨by decide, by decide⟩ rfl hl rfl (Nat.le_of_ble_eq_true rfl) ⟨Nat.le_of_ble_eq_true rfl, Nat.le_of_ble_eq_true rfl⟩ dX11_target_30) hS (fun E ce q9 H locs hE hH hS h1 h2 h3 => ?_) (fun H locs _ hH hS => ?_)
      · obtain ⟨e7, h7, h8⟩ := hE; cases h7
      · refine lv_iload X.1 X.2.1 dX11_target_33 (lv_at hl.1 4 rfl) ?_
        refine lv_iconst X.1 X.2.1 dX11_target_35 (v := iI 1) rfl ?_
        obtain ⟨k59, ek59, hf_⟩ := oj_e hf; clear hf; have hf := hf_; clear hf_
        have hk59 : ∀ (xs0_59 : Int) (bxs0_59 : xs0_59 = 0 ∨ xs0_59 = 1), k59 xs0_59 = some q → ∀ (H : Heap) (locs : List Loc) (ls : Array Slot), gH G M0 H → va_S (gA G) s.heap H locs → gLv ls 8 [(0, .ref (gAd G 0 0)), (1, .int (iI v1)), (2, .int (iI v2)), (3, .int (iI v3)), (4, .int (iI v4)), (5, .int (iI v5)), (6, .int (iI v6))] → W p l e { frames := 7, cells := 5, slots := 30, locals := 110 } s m args below meth c H locs 1 6 (vx_MQ below (gXi G (∃ z, q = Sum.inr z) (gvP q).1 (gvP q).2) (gXC G (fun e9 => q = Sum.inl e9) M0) args s 5 30 (gA G)) (F0 m 59 ls [.int (iI xs0_59)]) := by
          intro xs0_59 bxs0_59 hf H locs ls hH hS hl
          subst ek59
          obtain ⟨r59, hq59, hf_⟩ := ob_e hf; clear hf; have hf := hf_; clear hf_
          rcases r59 with e8 | v59_
          · have hq := Option.some.inj hf; subst hq
            refine gGoXV (gRunSX X Z hH hS (As := [.int (iI xs0_59)]) (m_X11_checkArgument l hl0 G xs0_59 bxs0_59 M0 _ hq59) calX11_checkArgument k_485 k_484 ⟨by decide, by decide⟩ rfl hl rfl (Nat.le_of_ble_eq_true rfl) ⟨Nat.le_of_ble_eq_true rfl, Nat.le_of_ble_eq_true rfl⟩ dX11_target_59) hS (fun E ce q9 H locs hE hH hS h1 h2 h3 => ?_) (fun H locs hok hH hS => ?_)
            · exact gOutX X hnt (by obtain ⟨e7, h7, h8⟩ := hE; exact ⟨e7, congrArg _ (Sum.inl.inj h7), h8⟩) hH hS h1 h2 h3 ⟨Nat.le_of_ble_eq_true rfl, Nat.le_of_ble_eq_true rfl⟩
            · obtain ⟨z, hz⟩ := hok; cases hz
          · replace hf := ox_i hf
            refine gGoXV (gRunSX X Z hH hS (As := [.int (iI xs0_59)]) (m_X11_checkArgument l hl0 G xs0_59 bxs0_59 M0 _ hq59) calX11_checkArgument k_485 k_484 ⟨by decide, by decide⟩ rfl hl rfl (Nat.le_of_ble_eq_true rfl) ⟨Nat.le_of_ble_eq_true rfl, Nat.le_of_ble_eq_true rfl⟩ dX11_target_59) hS (fun E ce q9 H locs hE hH hS h1 h2 h3 => ?_) (fun H locs _ hH hS => ?_)
            · obtain ⟨e7, h7, h8⟩ := hE; cases h7
            · refine lv_iload X.1 X.2.1 dX11_target_62 (lv_at hl.1 5 rfl) ?_
              refine lv_iconst X.1 X.2.1 dX11_target_64 (v := iI (-1)) rfl ?_
              obtain ⟨k83, ek83, hf_⟩ := oj_e hf; clear hf; have hf := hf_; clear hf_
              have hk83 : ∀ (xs0_83 : Int) (bxs0_83 : xs0_83 = 0 ∨ xs0_83 = 1), k83 xs0_83 = some q → ∀ (H : Heap) (locs : List Loc) (ls : Array Slot), gH G M0 H → va_S (gA G) s.heap H locs → gLv ls 8 [(0, .ref (gAd G 0 0)), (1, .int (iI v1)), (2, .int (iI v2)), (3, .int (iI v3)), (4, .int (iI v4)), (5, .int (iI v5)), (6, .int (iI v6))] → W p l e { frames := 7, cells := 5, slots := 30, locals := 110 } s m args below meth c H locs 2 12 (vx_MQ below (gXi G (∃ z, q = Sum.inr z) (gvP q).1 (gvP q).2) (gXC G (fun e9 => q = Sum.inl e9) M0) args s 5 30 (gA G)) (F0 m 83 ls [.int (iI xs0_83)]) := by
                intro xs0_83 bxs0_83 hf H locs ls hH hS hl
                subst ek83
                obtain ⟨r83, hq83, hf_⟩ := ob_e hf; clear hf; have hf := hf_; clear hf_
                rcases r83 with e8 | v83_
                · have hq := Option.some.inj hf; subst hq
                  refine gGoXV (gRunSX X Z hH hS (As := [.int (iI xs0_83)]) (m_X11_checkArgument l hl0 G xs0_83 bxs0_83 M0 _ hq83) calX11_checkArgument k_485 k_484 ⟨by decide, by decide⟩ rfl hl rfl (Nat.le_of_ble_eq_true rfl) ⟨Nat.le_of_ble_eq_true rfl, Nat.le_of_ble_eq_true rfl⟩ dX11_target_83) hS (fun E ce q9 H locs hE hH hS h1 h2 h3 => ?_) (fun H locs hok hH hS => ?_)
                  · exact gOutX X hnt (by obtain ⟨e7, h7, h8⟩ := hE; exact ⟨e7, congrArg _ (Sum.inl.inj h7), h8⟩) hH hS h1 h2 h3 ⟨Nat.le_of_ble_eq_true rfl, Nat.le_of_ble_eq_true rfl⟩
                  · obtain ⟨z, hz⟩ := hok; cases hz
                · replace hf := ox_i hf
                  refine gGoXV (gRunSX X Z hH hS (As := [.int (iI xs0_83)]) (m_X11_checkArgument l hl0 G xs0_83 bxs0_83 M0 _ hq83) calX11_checkArgument k_485 k_484 ⟨by decide, by decide⟩ rfl hl rfl (Nat.le_of_ble_eq_true rfl) ⟨Nat.le_of_ble_eq_true rfl, Nat.le_of_ble_eq_true rfl⟩ dX11_target_83) hS (fun E ce q9 H locs hE hH hS h1 h2 h3 => ?_) (fun H locs _ hH hS => ?_)
                  · obtain ⟨e7, h7, h8⟩ := hE; cases h7
                  · refine lv_iload X.1 X.2.1 dX11_target_86 (lv_at hl.1 6 rfl) ?_
                    refine lv_iload_n X.1 X.2.1 dX11_target_88 rfl (lv_at hl.1 1 rfl) ?_
                    refine lv_iconst X.1 X.2.1 dX11_target_89 (v := iI 2) rfl ?_
                    obtain ⟨k98, ek98, hf_⟩ := oj_e hf; clear hf; have hf := hf_; clear hf_
                    have hk98 : ∀ (xs1_98 : Int) (nxs1_98 : nmI xs1_98), k98 xs1_98 = some q → ∀ (H : Heap) (locs : List Loc) (ls : Array Slot), gH G M0 H → va_S (gA G) s.heap H locs → gLv ls 8 [(0, .ref (gAd G 0 0)), (1, .int (iI v1)), (2, .int (iI v2)), (3, .int (iI v3)), (4, .int (iI v4)), (5, .int (iI v5)), (6, .int (iI v6))] → W p l e { frames := 7, cells := 5, slots := 30, locals := 110 } s m args below meth c H locs 3 18 (vx_MQ below (gXi G (∃ z, q = Sum.inr z) (gvP q).1 (gvP q).2) (gXC G (fun e9 => q = Sum.inl e9) M0) args s 5 30 (gA G)) (F0 m 98 ls [.int (iI xs1_98), .int (iI v6)]) := by
                      intro xs1_98 nxs1_98 hf H locs ls hH hS hl
                      subst ek98
                      refine gGoZ (gRunS X hH (As := [.int (iI v6), .int (iI xs1_98)]) (m_X11_isBelow l G v6 nv6 xs1_98 nxs1_98 M0 _ rfl) calX11_isBelow k_482 k_481 ⟨by decide, by decide⟩ rfl hl rfl (Nat.le_of_ble_eq_true rfl) ⟨Nat.le_of_ble_eq_true rfl, Nat.le_of_ble_eq_true rfl⟩ dX11_target_98) hS (fun H locs br98 hH hS => ?_)
                      obtain ⟨r101, hq101, hf_⟩ := ob_e hf; clear hf; have hf := hf_; clear hf_
                      rcases r101 with e8 | v101_
                      · have hq := Option.some.inj hf; subst hq
                        refine gGoXV (gRunSX X Z hH hS (As := [.int (iI ((f_X11_isBelow v6 xs1_98 M0)))]) (m_X11_checkArgument l hl0 G ((f_X11_isBelow v6 xs1_98 M0)) br98 M0 _ hq101) calX11_checkArgument k_485 k_484 ⟨by decide, by decide⟩ rfl hl rfl (Nat.le_of_ble_eq_true rfl) ⟨Nat.le_of_ble_eq_true rfl, Nat.le_of_ble_eq_true rfl⟩ dX11_target_101) hS (fun E ce q9 H locs hE hH hS h1 h2 h3 => ?_) (fun H locs hok hH hS => ?_)
                        · exact gOutX X hnt (by obtain ⟨e7, h7, h8⟩ := hE; exact ⟨e7, congrArg _ (Sum.inl.inj h7), h8⟩) hH hS h1 h2 h3 ⟨Nat.le_of_ble_eq_true rfl, Nat.le_of_ble_eq_true rfl⟩
                        · obtain ⟨z, hz⟩ := hok; cases hz
                      · replace hf := ox_i hf
                        refine gGoXV (gRunSX X Z hH hS (As := [.int (iI ((f_X11_isBelow v6 xs1_98 M0)))]) (m_X11_checkArgument l hl0 G ((f_X11_isBelow v6 xs1_98 M0)) br98 M0 _ hq101) calX11_checkArgument k_485 k_484 ⟨by decide, by decide⟩ rfl hl rfl (Nat.le_of_ble_eq_true rfl) ⟨Nat.le_of_ble_eq_true rfl, Nat.le_of_ble_eq_true rfl⟩ dX11_target_101) hS (fun E ce q9 H locs hE hH hS h1 h2 h3 => ?_) (fun H locs _ hH hS => ?_)
                        · obtain ⟨e7, h7, h8⟩ := hE; cases h7
                        · refine lv_aload_n X.1 X.2.1 dX11_target_104 rfl (lv_at hl.1 0 rfl) ?_
                          refine g_get X cX11 hH (r := 0) (i := 0) (by decide) rfl 1 (by decide) k_442 rfl (v := .ref (gAd G 2 0)) rfl dX11_target_105 ?_
                          refine g_get X cX5 hH (r := 2) (i := 0) (by decide) rfl 4 (by decide) k_249 rfl (v := .ref (gAd G 8 15)) rfl dX11_target_108 ?_
                          have nd111 : nmI (M0 8 15 5) := hH.1.1 _ _ _
                          refine g_get X cX6 hH (r := 8) (i := 15) (by decide) rfl 5 (by decide) k_120 rfl (v := .int (iI (M0 8 15 5))) rfl dX11_target_111 ?_
                          obtain ⟨k144, ek144, hf_⟩ := oj_e hf; clear hf; have hf := hf_; clear hf_
                          have hk144 : ∀ (xs0_144 : Int) (bxs0_144 : xs0_144 = 0 ∨ xs0_144 = 1), k144 xs0_144 = some q → ∀ (H : Heap) (locs : List Loc) (ls : Array Slot), gH G M0 H → va_S (gA G) s.heap H locs → gLv ls 8 [(0, .ref (gAd G 0 0)), (1, .int (iI v1)), (2, .int (iI v2)), (3, .int (iI v3)), (4, .int (iI v4)), (5, .int (iI v5)), (6, .int (iI v6))] → W p l e { frames := 7, cells := 5, slots := 30, locals := 110 } s m args below meth c H locs 4 24 (vx_MQ below (gXi G (∃ z, q = Sum.inr z) (gvP q).1 (gvP q).2) (gXC G (fun e9 => q = Sum.inl e9) M0) args s 5 30 (gA G)) (F0 m 144 ls [.int (iI xs0_144)]) := by
                            intro xs0_144 bxs0_144 hf H locs ls hH hS hl
                            subst ek144
                            obtain ⟨r144, hq144, hf_⟩ := ob_e hf; clear hf; have hf := hf_; clear hf_
                            rcases r144 with e8 | v144_
                            · have hq := Option.some.inj hf; subst hq
                              refine gGoXV (gRunSX X Z hH hS (As := [.int (iI xs0_144)]) (m_X11_checkState l hl0 G xs0_144 bxs0_144 M0 _ hq144) calX11_checkState k_583 k_582 ⟨by decide, by decide⟩ rfl hl rfl (Nat.le_of_ble_eq_true rfl) ⟨Nat.le_of_ble_eq_true rfl, Nat.le_of_ble_eq_true rfl⟩ dX11_target_144) hS (fun E ce q9 H locs hE hH hS h1 h2 h3 => ?_) (fun H locs hok hH hS => ?_)
                              · exact gOutX X hnt (by obtain ⟨e7, h7, h8⟩ := hE; exact ⟨e7, congrArg _ (Sum.inl.inj h7), h8⟩) hH hS h1 h2 h3 ⟨Nat.le_of_ble_eq_true rfl, Nat.le_of_ble_eq_true rfl⟩
                              · obtain ⟨z, hz⟩ := hok; cases hz
                            · replace hf := ox_i hf
                              refine gGoXV (gRunSX X Z hH hS (As := [.int (iI xs0_144)]) (m_X11_checkState l hl0 G xs0_144 bxs0_144 M0 _ hq144) calX11_checkState k_583 k_582 ⟨by decide, by decide⟩ rfl hl rfl (Nat.le_of_ble_eq_true rfl) ⟨Nat.le_of_ble_eq_true rfl, Nat.le_of_ble_eq_true rfl⟩ dX11_target_144) hS (fun E ce q9 H locs hE hH hS h1 h2 h3 => ?_) (fun H locs _ hH hS => ?_)
                              · obtain ⟨e7, h7, h8⟩ := hE; cases h7
                              · refine lv_aload_n X.1 X.2.1 dX11_target_147 rfl (lv_at hl.1 0 rfl) ?_
                                refine g_get X cX11 hH (r := 0) (i := 0) (by decide) rfl 1 (by decide) k_442 rfl (v := .ref (gAd G 2 0)) rfl dX11_target_148 ?_
                                refine gGoR (gRunV X hH (As := []) (m_X5_tellNext l G  M0 _ rfl) calX5_tellNext k_635 k_636 k_634 (by decide) cX5 rfl ⟨by decide, by decide⟩ rfl hl rfl (Nat.le_of_ble_eq_true rfl) ⟨Nat.le_of_ble_eq_true rfl, Nat.le_of_ble_eq_true rfl⟩ dX11_target_151) hS (fun H locs hr151 hH hS => ?_)
                                replace hr151 : (f_X5_tellNext M0).1 < 15 := hr151
                                refine g_astore X (lv' := [(7, .ref (gAd G 7 ((f_X5_tellNext M0).1))), (0, .ref (gAd G 0 0)), (1, .int (iI v1)), (2, .int (iI v2)), (3, .int (iI v3)), (4, .int (iI v4)), (5, .int (iI v5)), (6, .int (iI v6))]) dX11_target_154 hl (by decide) rfl (fun ls hl => ?_)
                                refine lv_aload X.1 X.2.1 dX11_target_156 (lv_at hl.1 0 rfl) ?_
                                refine lv_iload_n X.1 X.2.1 dX11_target_158 rfl (lv_at hl.1 2 rfl) ?_
                                refine lv_iload_n X.1 X.2.1 dX11_target_159 rfl (lv_at hl.1 3 rfl) ?_
                                refine lv_iload_n X.1 X.2.1 dX11_target_160 rfl (lv_at hl.1 4 rfl) ?_
                                refine lv_iload X.1 X.2.1 dX11_target_161 (lv_at hl.1 5 rfl) ?_
                                refine lv_iload X.1 X.2.1 dX11_target_163 (lv_at hl.1 6 rfl) ?_
                                refine lv_iload X.1 X.2.1 dX11_target_165 (lv_at hl.1 7 rfl) ?_
                                refine gGoV (gRunV X hH (As := [.int (iI v1), .int (iI v2), .int (iI v3), .int (iI v4), .int (iI v5), .int (iI v6)]) (m_X8_describe l G ((f_X5_tellNext M0).1) hr151 v1 nv1 v2 nv2 v3 nv3 v4 nv4 v5 nv5 v6 nv6 ((f_X5_tellNext M0).2) _ rfl) calX8_describe k_640 k_641 k_639 hr151 cX8 rfl ⟨by decide, by decide⟩ rfl hl rfl (Nat.le_of_ble_eq_true rfl) ⟨Nat.le_of_ble_eq_true rfl, Nat.le_of_ble_eq_true rfl⟩ dX11_target_167) hS (fun H locs hH hS => ?_)
                                refine lv_aload X.1 X.2.1 dX11_target_170 (lv_at hl.1 0 rfl) ?_
                                refine g_get X cX8 hH (r := 7) (i := (f_X5_tellNext M0).1) hr151 rfl 1 (by decide) k_185 rfl (v := .ref (gAd G 8 ((f_X5_tellNext M0).1))) rfl dX11_target_172 ?_
                                refine lv_aload_n X.1 X.2.1 dX11_target_175 rfl (lv_at hl.1 1 rfl) ?_
                                refine g_get X cX11 hH (r := 0) (i := 0) (by decide) rfl 1 (by decide) k_442 rfl (v := .ref (gAd G 2 0)) rfl dX11_target_176 ?_
                                refine g_get X cX5 hH (r := 2) (i := 0) (by decide) rfl 4 (by decide) k_249 rfl (v := .ref (gAd G 8 15)) rfl dX11_target_179 ?_
                                obtain ⟨r182, hq182, hf_⟩ := ob_e hf; clear hf; have hf := hf_; clear hf_
                                refine gGoV (gRunV X hH (As := [.ref (gAd G 8 15)]) (m_X6_become l G ((f_X5_tellNext M0).1) (by show _ < 16; omega) 15 (by decide) ((f_X8_describe ((f_X5_tellNext M0).1) v1 v2 v3 v4 v5 v6 ((f_X5_tellNext M0).2))) _ hq182) calX6_become k_644 k_645 k_643 (by show _ < 16; omega) cX6 rfl ⟨by decide, by decide⟩ rfl hl rfl (Nat.le_of_ble_eq_true rfl) ⟨Nat.le_of_ble_eq_true rfl, Nat.le_of_ble_eq_true rfl⟩ dX11_target_182) hS (fun H locs hH hS => ?_)
                                refine lv_aload_n X.1 X.2.1 dX11_target_185 rfl (lv_at hl.1 1 rfl) ?_
                                refine g_get X cX11 hH (r := 0) (i := 0) (by decide) rfl 1 (by decide) k_442 rfl (v := .ref (gAd G 2 0)) rfl dX11_target_186 ?_
                                refine g_get X cX5 hH (r := 2) (i := 0) (by decide) rfl 4 (by decide) k_249 rfl (v := .ref (gAd G 8 15)) rfl dX11_target_189 ?_
                                refine lv_iconst X.1 X.2.1 dX11_target_192 (v := iI 0) rfl ?_
                                refine g_putI X cX6 hH hS (r := 8) (i := 15) (by decide) rfl 5 (by decide) k_120 rfl rfl rfl (Nat.le_of_ble_eq_true rfl) (x := 0) (nmI_l (by decide)) rfl rfl rfl dX11_target_193 (fun H locs hH hS => ?_)
                                refine lv_aload X.1 X.2.1 dX11_target_196 (lv_at hl.1 0 rfl) ?_
                                have nd198 : nmI ((gU r182 8 15 5 0) 7 ((f_X5_tellNext M0).1) 0) := hH.1.1 _ _ _
                                refine g_get X cX8 hH (r := 7) (i := (f_X5_tellNext M0).1) hr151 rfl 0 (by decide) k_180 rfl (v := .int (iI ((gU r182 8 15 5 0) 7 ((f_X5_tellNext M0).1) 0))) rfl dX11_target_198 ?_
                                have hq := Option.some.inj hf; subst hq
                                exact gRetXI X hH hS ⟨_, rfl⟩ (res := (gU r182 8 15 5 0) 7 ((f_X5_tellNext M0).1) 0) nd198 ⟨Nat.le_of_ble_eq_true rfl, Nat.le_of_ble_eq_true rfl⟩ dX11_target_201
                          clear ek144
                          obtain ⟨k143, ek143, hf_⟩ := oj_e hf; clear hf; have hf := hf_; clear hf_
                          have hk143 : k143 = some q → ∀ (H : Heap) (locs : List Loc) (ls : Array Slot), gH G M0 H → va_S (gA G) s.heap H locs → gLv ls 8 [(0, .ref (gAd G 0 0)), (1, .int (iI v1)), (2, .int (iI v2)), (3, .int (iI v3)), (4, .int (iI v4)), (5, .int (iI v5)), (6, .int (iI v6))] → W p l e { frames := 7, cells := 5, slots := 30, locals := 110 } s m args below meth c H locs 4 24 (vx_MQ below (gXi G (∃ z, q = Sum.inr z) (gvP q).1 (gvP q).2) (gXC G (fun e9 => q = Sum.inl e9) M0) args s 5 30 (gA G)) (F0 m 143 ls []) := by
                            intro  hf H locs ls hH hS hl
                            subst ek143
                            refine lv_iconst X.1 X.2.1 dX11_target_143 (v := iI 0) rfl ?_
                            exact hk144 0 (by decide) hf _ _ _ hH hS (gLv_sub hl [0, 1, 2, 3, 4, 5, 6] rfl)
                          clear ek143
                          refine g_if_le X nd111 (tgt := 143) dX11_target_114 (by decide) (fun hc114 => ?_) (fun hc114 => ?_)
                          · replace hf := it_f hf hc114
                            exact hk143  hf _ _ _ hH hS (gLv_sub hl [0, 1, 2, 3, 4, 5, 6] rfl)
                          · replace hf := it_t hf hc114
                            refine lv_aload_n X.1 X.2.1 dX11_target_117 rfl (lv_at hl.1 0 rfl) ?_
                            refine g_get X cX11 hH (r := 0) (i := 0) (by decide) rfl 3 (by decide) k_444 rfl (v := .ref (gAd G 4 0)) rfl dX11_target_118 ?_
                            have nd121 : nmI (M0 4 0 8) := hH.1.1 _ _ _
                            have bd121 := hH.1.2.1 4 0 8 rfl
                            refine g_get X cX2 hH (r := 4) (i := 0) (by decide) rfl 8 (by decide) k_391 rfl (v := .int (iI (M0 4 0 8))) rfl dX11_target_121 ?_
                            refine g_if_ne X nd121 (tgt := 143) dX11_target_124 (by decide) (fun hc124 => ?_) (fun hc124 => ?_)
                            · replace hf := it_f hf hc124
                              exact hk143  hf _ _ _ hH hS (gLv_sub hl [0, 1, 2, 3, 4, 5, 6] rfl)
                            · replace hf := it_t hf hc124
                              refine lv_aload_n X.1 X.2.1 dX11_target_127 rfl (lv_at hl.1 0 rfl) ?_
                              refine g_get X cX11 hH (r := 0) (i := 0) (by decide) rfl 1 (by decide) k_442 rfl (v := .ref (gAd G 2 0)) rfl dX11_target_128 ?_
                              have nd131 : nmI (M0 2 0 5) := hH.1.1 _ _ _
                              refine g_get X cX5 hH (r := 2) (i := 0) (by decide) rfl 5 (by decide) k_253 rfl (v := .int (iI (M0 2 0 5))) rfl dX11_target_131 ?_
                              refine lv_bipush X.1 X.2.1 dX11_target_134 (v := iI 14) (by decide) ?_
                              refine g_icmp_ge X nd131 (nmI_l (by decide)) (tgt := 143) dX11_target_136 (by decide) (fun hc136 => ?_) (fun hc136 => ?_)
                              · replace hf := it_f hf hc136
                                exact hk143  hf _ _ _ hH hS (gLv_sub hl [0, 1, 2, 3, 4, 5, 6] rfl)
                              · replace hf := it_t hf hc136
                                refine lv_iconst X.1 X.2.1 dX11_target_139 (v := iI 1) rfl ?_
                                refine lv_goto (tgt := 144) X.1 X.2.1 dX11_target_140 (by decide) ?_
                                exact hk144 1 (by decide) hf _ _ _ hH hS (gLv_sub hl [0, 1, 2, 3, 4, 5, 6] rfl)
                    clear ek98
                    refine g_icmp_ne X nv1 (nmI_l (by decide)) (tgt := 97) dX11_target_90 (by decide) (fun hc90 => ?_) (fun hc90 => ?_)
                    · replace hf := it_f hf hc90
                      refine lv_iconst X.1 X.2.1 dX11_target_97 (v := iI 1) rfl ?_
                      exact hk98 1 (nmI_l (by decide)) hf _ _ _ hH hS (gLv_sub hl [0, 1, 2, 3, 4, 5, 6] rfl)
                    · replace hf := it_t hf hc90
                      refine lv_iconst X.1 X.2.1 dX11_target_93 (v := iI 4) rfl ?_
                      refine lv_goto (tgt := 98) X.1 X.2.1 dX11_target_94 (by decide) ?_
                      exact hk98 4 (nmI_l (by decide)) hf _ _ _ hH hS (gLv_sub hl [0, 1, 2, 3, 4, 5, 6] rfl)
              clear ek83
              obtain ⟨k78, ek78, hf_⟩ := oj_e hf; clear hf; have hf := hf_; clear hf_
              have hk78 : k78 = some q → ∀ (H : Heap) (locs : List Loc) (ls : Array Slot), gH G M0 H → va_S (gA G) s.heap H locs → gLv ls 8 [(0, .ref (gAd G 0 0)), (1, .int (iI v1)), (2, .int (iI v2)), (3, .int (iI v3)), (4, .int (iI v4)), (5, .int (iI v5)), (6, .int (iI v6))] → W p l e { frames := 7, cells := 5, slots := 30, locals := 110 } s m args below meth c H locs 2 12 (vx_MQ below (gXi G (∃ z, q = Sum.inr z) (gvP q).1 (gvP q).2) (gXC G (fun e9 => q = Sum.inl e9) M0) args s 5 30 (gA G)) (F0 m 78 ls []) := by
                intro  hf H locs ls hH hS hl
                subst ek78
                refine lv_iconst X.1 X.2.1 dX11_target_78 (v := iI 1) rfl ?_
                refine lv_goto (tgt := 83) X.1 X.2.1 dX11_target_79 (by decide) ?_
                exact hk83 1 (by decide) hf _ _ _ hH hS (gLv_sub hl [0, 1, 2, 3, 4, 5, 6] rfl)
              clear ek78
              refine g_icmp_eq X nv5 (nmI_l (by decide)) (tgt := 78) dX11_target_65 (by decide) (fun hc65 => ?_) (fun hc65 => ?_)
              · replace hf := it_t hf hc65
                exact hk78  hf _ _ _ hH hS (gLv_sub hl [0, 1, 2, 3, 4, 5, 6] rfl)
              · replace hf := it_f hf hc65
                refine lv_iload X.1 X.2.1 dX11_target_68 (lv_at hl.1 5 rfl) ?_
                refine g_ldc X k_1090 (a := 65536) (by decide) dX11_target_70 ?_
                refine gGoZ (gRunS X hH (As := [.int (iI v5), .int (iI 65536)]) (m_X11_isBelow l G v5 nv5 65536 (nmI_l (by decide)) M0 _ rfl) calX11_isBelow k_482 k_481 ⟨by decide, by decide⟩ rfl hl rfl (Nat.le_of_ble_eq_true rfl) ⟨Nat.le_of_ble_eq_true rfl, Nat.le_of_ble_eq_true rfl⟩ dX11_target_72) hS (fun H locs br72 hH hS => ?_)
                refine g_if_eq X (nmI_b br72) (tgt := 82) dX11_target_75 (by decide) (fun hc75 => ?_) (fun hc75 => ?_)
                · replace hf := it_t hf hc75
                  refine lv_iconst X.1 X.2.1 dX11_target_82 (v := iI 0) rfl ?_
                  exact hk83 0 (by decide) hf _ _ _ hH hS (gLv_sub hl [0, 1, 2, 3, 4, 5, 6] rfl)
                · replace hf := it_f hf hc75
                  exact hk78  hf _ _ _ hH hS (gLv_sub hl [0, 1, 2, 3, 4, 5, 6] rfl)
        clear ek59
        obtain ⟨k58, ek58, hf_⟩ := oj_e hf; clear hf; have hf := hf_; clear hf_
        have hk58 : k58 = some q → ∀ (H : Heap) (locs : List Loc) (ls : Array Slot), gH G M0 H → va_S (gA G) s.heap H locs → gLv ls 8 [(0, .ref (gAd G 0 0)), (1, .int (iI v1)), (2, .int (iI v2)), (3, .int (iI v3)), (4, .int (iI v4)), (5, .int (iI v5)), (6, .int (iI v6))] → W p l e { frames := 7, cells := 5, slots := 30, locals := 110 } s m args below meth c H locs 1 6 (vx_MQ below (gXi G (∃ z, q = Sum.inr z) (gvP q).1 (gvP q).2) (gXC G (fun e9 => q = Sum.inl e9) M0) args s 5 30 (gA G)) (F0 m 58 ls []) := by
          intro  hf H locs ls hH hS hl
          subst ek58
          refine lv_iconst X.1 X.2.1 dX11_target_58 (v := iI 0) rfl ?_
          exact hk59 0 (by decide) hf _ _ _ hH hS (gLv_sub hl [0, 1, 2, 3, 4, 5, 6] rfl)
        clear ek58
        refine g_icmp_lt X nv4 (nmI_l (by decide)) (tgt := 58) dX11_target_36 (by decide) (fun hc36 => ?_) (fun hc36 => ?_)
        · replace hf := it_t hf hc36
          exact hk58  hf _ _ _ hH hS (gLv_sub hl [0, 1, 2, 3, 4, 5, 6] rfl)
        · replace hf := it_f hf hc36
          refine lv_iload X.1 X.2.1 dX11_target_39 (lv_at hl.1 4 rfl) ?_
          refine lv_iload_n X.1 X.2.1 dX11_target_41 rfl (lv_at hl.1 1 rfl) ?_
          refine lv_iconst X.1 X.2.1 dX11_target_42 (v := iI 2) rfl ?_
          obtain ⟨k51, ek51, hf_⟩ := oj_e hf; clear hf; have hf := hf_; clear hf_
          have hk51 : ∀ (xs1_51 : Int) (nxs1_51 : nmI xs1_51), k51 xs1_51 = some q → ∀ (H : Heap) (locs : List Loc) (ls : Array Slot), gH G M0 H → va_S (gA G) s.heap H locs → gLv ls 8 [(0, .ref (gAd G 0 0)), (1, .int (iI v1)), (2, .int (iI v2)), (3, .int (iI v3)), (4, .int (iI v4)), (5, .int (iI v5)), (6, .int (iI v6))] → W p l e { frames := 7, cells := 5, slots := 30, locals := 110 } s m args below meth c H locs 1 6 (vx_MQ below (gXi G (∃ z, q = Sum.inr z) (gvP q).1 (gvP q).2) (gXC G (fun e9 => q = Sum.inl e9) M0) args s 5 30 (gA G)) (F0 m 51 ls [.int (iI xs1_51), .int (iI v4)]) := by
            intro xs1_51 nxs1_51 hf H locs ls hH hS hl
            subst ek51
            refine g_icmp_gt X nv4 nxs1_51 (tgt := 58) dX11_target_51 (by decide) (fun hc51 => ?_) (fun hc51 => ?_)
            · replace hf := it_t hf hc51
              exact hk58  hf _ _ _ hH hS (gLv_sub hl [0, 1, 2, 3, 4, 5, 6] rfl)
            · replace hf := it_f hf hc51
              refine lv_iconst X.1 X.2.1 dX11_target_54 (v := iI 1) rfl ?_
              refine lv_goto (tgt := 59) X.1 X.2.1 dX11_target_55 (by decide) ?_
              exact hk59 1 (by decide) hf _ _ _ hH hS (gLv_sub hl [0, 1, 2, 3, 4, 5, 6] rfl)
          clear ek51
          refine g_icmp_ne X nv1 (nmI_l (by decide)) (tgt := 50) dX11_target_43 (by decide) (fun hc43 => ?_) (fun hc43 => ?_)
          · replace hf := it_f hf hc43
            refine lv_iconst X.1 X.2.1 dX11_target_50 (v := iI 1) rfl ?_
            exact hk51 1 (nmI_l (by decide)) hf _ _ _ hH hS (gLv_sub hl [0, 1, 2, 3, 4, 5, 6] rfl)
          · replace hf := it_t hf hc43
            refine lv_iconst X.1 X.2.1 dX11_target_46 (v := iI 4) rfl ?_
            refine lv_goto (tgt := 51) X.1 X.2.1 dX11_target_47 (by decide) ?_
            exact hk51 4 (nmI_l (by decide)) hf _ _ _ hH hS (gLv_sub hl [0, 1, 2, 3, 4, 5, 6] rfl)
  clear ek30
  obtain ⟨k29, ek29, hf_⟩ := oj_e hf; clear hf; have hf := hf_; clear hf_
  have hk29 : k29 = some q → ∀ (H : Heap) (locs : List Loc) (ls : Array Slot), gH G M0 H → va_S (gA G) s.heap H locs → gLv ls 8 [(0, .ref (gAd G 0 0)), (1, .int (iI v1)), (2, .int (iI v2)), (3, .int (iI v3)), (4, .int (iI v4)), (5, .int (iI v5)), (6, .int (iI v6))] → W p l e { frames := 7, cells := 5, slots := 30, locals := 110 } s m args below meth c H locs 0 0 (vx_MQ below (gXi G (∃ z, q = Sum.inr z) (gvP q).1 (gvP q).2) (gXC G (fun e9 => q = Sum.inl e9) M0) args s 5 30 (gA G)) (F0 m 29 ls []) := by
    intro  hf H locs ls hH hS hl
    subst ek29
    refine lv_iconst X.1 X.2.1 dX11_target_29 (v := iI 0) rfl ?_
    exact hk30 0 (by decide) hf _ _ _ hH hS (gLv_sub hl [0, 1, 2, 3, 4, 5, 6] rfl)
  clear ek29
  refine g_if_eq X (nmI_b br2) (tgt := 29) dX11_target_5 (by decide) (fun hc5 => ?_) (fun hc5 => ?_)
  · replace hf := it_t hf hc5
    exact hk29  hf _ _ _ hH hS (gLv_sub hl [0, 1, 2, 3, 4, 5, 6] rfl)
  · replace hf := it_f hf hc5
    refine lv_iload_n X.1 X.2.1 dX11_target_8 rfl (lv_at hl.1 2 rfl) ?_
    refine lv_iconst X.1 X.2.1 dX11_target_9 (v := iI 4) rfl ?_
    refine gGoZ (gRunS X hH (As := [.int (iI v2), .int (iI 4)]) (m_X11_isBelow l G v2 nv2 4 (nmI_l (by decide)) M0 _ rfl) calX11_isBelow k_482 k_481 ⟨by decide, by decide⟩ rfl hl rfl (Nat.le_of_ble_eq_true rfl) ⟨Nat.le_of_ble_eq_true rfl, Nat.le_of_ble_eq_true rfl⟩ dX11_target_10) hS (fun H locs br10 hH hS => ?_)
    refine g_if_eq X (nmI_b br10) (tgt := 29) dX11_target_13 (by decide) (fun hc13 => ?_) (fun hc13 => ?_)
    · replace hf := it_t hf hc13
      exact hk29  hf _ _ _ hH hS (gLv_sub hl [0, 1, 2, 3, 4, 5, 6] rfl)
    · replace hf := it_f hf hc13
      refine lv_iload_n X.1 X.2.1 dX11_target_16 rfl (lv_at hl.1 3 rfl) ?_
      refine lv_bipush X.1 X.2.1 dX11_target_17 (v := iI 10) (by decide) ?_
      refine gGoZ (gRunS X hH (As := [.int (iI v3), .int (iI 10)]) (m_X11_isBelow l G v3 nv3 10 (nmI_l (by decide)) M0 _ rfl) calX11_isBelow k_482 k_481 ⟨by decide, by decide⟩ rfl hl rfl (Nat.le_of_ble_eq_true rfl) ⟨Nat.le_of_ble_eq_true rfl, Nat.le_of_ble_eq_true rfl⟩ dX11_target_19) hS (fun H locs br19 hH hS => ?_)
      refine g_if_eq X (nmI_b br19) (tgt := 29) dX11_target_22 (by decide) (fun hc22 => ?_) (fun hc22 => ?_)
      · replace hf := it_t hf hc22
        exact hk29  hf _ _ _ hH hS (gLv_sub hl [0, 1, 2, 3, 4, 5, 6] rfl)
      · replace hf := it_f hf hc22
        refine lv_iconst X.1 X.2.1 dX11_target_25 (v := iI 1) rfl ?_
        refine lv_goto (tgt := 30) X.1 X.2.1 dX11_target_26 (by decide) ?_
        exact hk30 1 (by decide) hf _ _ _ hH hS (gLv_sub hl [0, 1, 2, 3, 4, 5, 6] rfl)
