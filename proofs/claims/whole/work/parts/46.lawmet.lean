theorem m_L_write (l : Launch) (hl0 : l.stackTraces = false) (G : gG) (v1 : Int) (nv1 : nmI v1) (v2 : Int) (nv2 : nmI v2) (M0 : gM) (q : (Int × gM)) (hf : f_L_write v1 v2 M0 = some q) : gLMet l yL_write cL_write 5 (some .int) [(0, 10, 13, 13)] 8 132 1 6 G M0 [.ref (gAd G 0 0), .int (iI v1), .int (iI v2), .ref (gAd G 75 0)] (gXi G True q.1 q.2) := by
  refine gOfL (by decide) (by show _ ≤ 5; exact Nat.le_of_ble_eq_true rfl) rfl ?_
  intro p e s m below meth c X Z hT hH ls hl
  replace hl : gLv ls 5 [(0, .ref (gAd G 0 0)), (1, .int (iI v1)), (2, .int (iI v2)), (3, .ref (gAd G 75 0))] := hl
  have hS : va_S (gA G) s.heap s.heap [] := va_S.rf
  generalize hargs : ([.ref (gAd G 0 0), .int (iI v1), .int (iI v2), .ref (gAd G 75 0)] : List Value).toArray = args at X ⊢
  clear hargs
  unfold f_L_write at hf
  refine lv_aload_n X.1 X.2.1 dL_write_0 rfl (lv_at hl.1 3 rfl) ?_
  refine lv_iconst X.1 X.2.1 dL_write_1 (v := iI 0) rfl ?_
  refine lv_aload_n X.1 X.2.1 dL_write_2 rfl (lv_at hl.1 0 rfl) ?_
  refine lv_iload_n X.1 X.2.1 dL_write_3 rfl (lv_at hl.1 1 rfl) ?_
  refine lv_iload_n X.1 X.2.1 dL_write_4 rfl (lv_at hl.1 2 rfl) ?_
  obtain ⟨r5, hq5, hf_⟩ := ob_e hf; clear hf; have hf := hf_; clear hf_
  rcases r5 with e8 | v5_
  · replace hf := ol_l hf
    refine gGoXI (gRunVX X Z hH hS (As := [.int (iI v1), .int (iI v2)]) (m_X11_write l hl0 G v1 nv1 v2 nv2 M0 _ hq5) calX11_write k_525 k_526 k_524 (by decide) cX11 rfl ⟨by decide, by decide⟩ rfl hl rfl (Nat.le_of_ble_eq_true rfl) ⟨Nat.le_of_ble_eq_true rfl, Nat.le_of_ble_eq_true rfl⟩ dL_write_5) hS (fun E ce q9 H locs hE hH hS h1 h2 h3 => ?_) (fun H locs hok _ hH hS => ?_)
    · obtain ⟨e7, h7, h8⟩ := hE
      cases h7
      subst h8
      by_cases he1 : e8 = 1
      · replace hf := it_t hf he1
        subst he1
        refine gOutCatch X Z (e9 := 1) hT [] ⟨0, 10, 13, 13⟩ [] rfl (fun z hz => nomatch hz) (by decide) (by decide) (by decide) k_523 k_536 h1 h2 h3 ?_
        refine g_astore X (lv' := [(4, .ref q9), (0, .ref (gAd G 0 0)), (1, .int (iI v1)), (2, .int (iI v2)), (3, .ref (gAd G 75 0))]) dL_write_13 hl (by decide) rfl (fun ls hl => ?_)
        refine lv_iconst X.1 X.2.1 dL_write_15 (v := iI 1) rfl ?_
        have hq := Option.some.inj hf; subst hq
        exact gRetXI X hH hS trivial (res := 1) (nmI_l (by decide)) ⟨Nat.le_of_ble_eq_true rfl, Nat.le_of_ble_eq_true rfl⟩ dL_write_16
      · replace hf := it_f hf he1
        cases hf
    · obtain ⟨z, hz⟩ := hok; cases hz
  · replace hf := ol_r hf
    refine gGoXI (gRunVX X Z hH hS (As := [.int (iI v1), .int (iI v2)]) (m_X11_write l hl0 G v1 nv1 v2 nv2 M0 _ hq5) calX11_write k_525 k_526 k_524 (by decide) cX11 rfl ⟨by decide, by decide⟩ rfl hl rfl (Nat.le_of_ble_eq_true rfl) ⟨Nat.le_of_ble_eq_true rfl, Nat.le_of_ble_eq_true rfl⟩ dL_write_5) hS (fun E ce q9 H locs hE hH hS h1 h2 h3 => ?_) (fun H locs _ nv_ hH hS => ?_)
    · obtain ⟨e7, h7, h8⟩ := hE; cases h7
    · refine g_i2l X nv_ dL_write_8 ?_
      refine g_last X hH hS nv_ dL_write_9 (fun H locs hH hS => ?_)
      refine lv_goto (tgt := 17) X.1 X.2.1 dL_write_10 (by decide) ?_
      refine lv_iconst X.1 X.2.1 dL_write_17 (v := iI 0) rfl ?_
      have hq := Option.some.inj hf; subst hq
      exact gRetXI X hH hS trivial (res := 0) (nmI_l (by decide)) ⟨Nat.le_of_ble_eq_true rfl, Nat.le_of_ble_eq_true rfl⟩ dL_write_18
theorem m_L_set (l : Launch) (hl0 : l.stackTraces = false) (G : gG) (v1 : Int) (nv1 : nmI v1) (v2 : Int) (nv2 : nmI v2) (M0 : gM) (q : (Int × gM)) (hf : f_L_set v1 v2 M0 = some q) : gLMet l yL_set cL_set 5 (some .int) [(0, 10, 13, 13), (0, 10, 17, 18)] 8 132 2 12 G M0 [.ref (gAd G 0 0), .int (iI v1), .int (iI v2), .ref (gAd G 75 0)] (gXi G True q.1 q.2) := by
  refine gOfL (by decide) (by show _ ≤ 5; exact Nat.le_of_ble_eq_true rfl) rfl ?_
  intro p e s m below meth c X Z hT hH ls hl
  replace hl : gLv ls 5 [(0, .ref (gAd G 0 0)), (1, .int (iI v1)), (2, .int (iI v2)), (3, .ref (gAd G 75 0))] := hl
  have hS : va_S (gA G) s.heap s.heap [] := va_S.rf
  generalize hargs : ([.ref (gAd G 0 0), .int (iI v1), .int (iI v2), .ref (gAd G 75 0)] : List Value).toArray = args at X ⊢
  clear hargs
  unfold f_L_set at hf
  refine lv_aload_n X.1 X.2.1 dL_set_0 rfl (lv_at hl.1 3 rfl) ?_
  refine lv_iconst X.1 X.2.1 dL_set_1 (v := iI 0) rfl ?_
  refine lv_aload_n X.1 X.2.1 dL_set_2 rfl (lv_at hl.1 0 rfl) ?_
  refine lv_iload_n X.1 X.2.1 dL_set_3 rfl (lv_at hl.1 1 rfl) ?_
  refine lv_iload_n X.1 X.2.1 dL_set_4 rfl (lv_at hl.1 2 rfl) ?_
  obtain ⟨r5, hq5, hf_⟩ := ob_e hf; clear hf; have hf := hf_; clear hf_
  rcases r5 with e8 | v5_
  · replace hf := ol_l hf
    refine gGoXI (gRunVX X Z hH hS (As := [.int (iI v1), .int (iI v2)]) (m_X11_set l hl0 G v1 nv1 v2 nv2 M0 _ hq5) calX11_set k_630 k_631 k_629 (by decide) cX11 rfl ⟨by decide, by decide⟩ rfl hl rfl (Nat.le_of_ble_eq_true rfl) ⟨Nat.le_of_ble_eq_true rfl, Nat.le_of_ble_eq_true rfl⟩ dL_set_5) hS (fun E ce q9 H locs hE hH hS h1 h2 h3 => ?_) (fun H locs hok _ hH hS => ?_)
    · obtain ⟨e7, h7, h8⟩ := hE
      cases h7
      subst h8
      by_cases he1 : e8 = 1
      · replace hf := it_t hf he1
        subst he1
        refine gOutCatch X Z (e9 := 1) hT [] ⟨0, 10, 13, 13⟩ [⟨0, 10, 17, 18⟩] rfl (fun z hz => nomatch hz) (by decide) (by decide) (by decide) k_523 k_536 h1 h2 h3 ?_
        refine g_astore X (lv' := [(4, .ref q9), (0, .ref (gAd G 0 0)), (1, .int (iI v1)), (2, .int (iI v2)), (3, .ref (gAd G 75 0))]) dL_set_13 hl (by decide) rfl (fun ls hl => ?_)
        refine lv_iconst X.1 X.2.1 dL_set_15 (v := iI 1) rfl ?_
        have hq := Option.some.inj hf; subst hq
        exact gRetXI X hH hS trivial (res := 1) (nmI_l (by decide)) ⟨Nat.le_of_ble_eq_true rfl, Nat.le_of_ble_eq_true rfl⟩ dL_set_16
      · replace hf := it_f hf he1
        by_cases he3 : e8 = 3
        · replace hf := it_t hf he3
          subst he3
          refine gOutCatch X Z (e9 := 3) hT [⟨0, 10, 13, 13⟩] ⟨0, 10, 17, 18⟩ [] rfl (fun z hz => by simp only [List.mem_cons, List.not_mem_nil, or_false] at hz; rcases hz with rfl <;> first | exact ⟨by decide, 1, k_523, by decide, by decide⟩) (by decide) (by decide) (by decide) k_628 k_638 h1 h2 h3 ?_
          refine g_astore X (lv' := [(4, .ref q9), (0, .ref (gAd G 0 0)), (1, .int (iI v1)), (2, .int (iI v2)), (3, .ref (gAd G 75 0))]) dL_set_17 hl (by decide) rfl (fun ls hl => ?_)
          refine lv_iconst X.1 X.2.1 dL_set_19 (v := iI 2) rfl ?_
          have hq := Option.some.inj hf; subst hq
          exact gRetXI X hH hS trivial (res := 2) (nmI_l (by decide)) ⟨Nat.le_of_ble_eq_true rfl, Nat.le_of_ble_eq_true rfl⟩ dL_set_20
        · replace hf := it_f hf he3
          cases hf
    · obtain ⟨z, hz⟩ := hok; cases hz
  · replace hf := ol_r hf
    refine gGoXI (gRunVX X Z hH hS (As := [.int (iI v1), .int (iI v2)]) (m_X11_set l hl0 G v1 nv1 v2 nv2 M0 _ hq5) calX11_set k_630 k_631 k_629 (by decide) cX11 rfl ⟨by decide, by decide⟩ rfl hl rfl (Nat.le_of_ble_eq_true rfl) ⟨Nat.le_of_ble_eq_true rfl, Nat.le_of_ble_eq_true rfl⟩ dL_set_5) hS (fun E ce q9 H locs hE hH hS h1 h2 h3 => ?_) (fun H locs _ nv_ hH hS => ?_)
    · obtain ⟨e7, h7, h8⟩ := hE; cases h7
    · refine g_i2l X nv_ dL_set_8 ?_
      refine g_last X hH hS nv_ dL_set_9 (fun H locs hH hS => ?_)
      refine lv_goto (tgt := 21) X.1 X.2.1 dL_set_10 (by decide) ?_
      refine lv_iconst X.1 X.2.1 dL_set_21 (v := iI 0) rfl ?_
      have hq := Option.some.inj hf; subst hq
      exact gRetXI X hH hS trivial (res := 0) (nmI_l (by decide)) ⟨Nat.le_of_ble_eq_true rfl, Nat.le_of_ble_eq_true rfl⟩ dL_set_22
theorem m_L_setTool (l : Launch) (hl0 : l.stackTraces = false) (G : gG) (v1 : Int) (nv1 : nmI v1) (v2 : Int) (nv2 : nmI v2) (M0 : gM) (q : (Int × gM)) (hf : f_L_setTool v1 v2 M0 = some q) : gLMet l yL_setTool cL_setTool 5 (some .int) [(0, 10, 13, 13), (0, 10, 17, 18)] 8 132 2 12 G M0 [.ref (gAd G 0 0), .int (iI v1), .int (iI v2), .ref (gAd G 75 0)] (gXi G True q.1 q.2) := by
  refine gOfL (by decide) (by show _ ≤ 5; exact Nat.le_of_ble_eq_true rfl) rfl ?_
  intro p e s m below meth c X Z hT hH ls hl
  replace hl : gLv ls 5 [(0, .ref (gAd G 0 0)), (1, .int (iI v1)), (2, .int (iI v2)), (3, .ref (gAd G 75 0))] := hl
  have hS : va_S (gA G) s.heap s.heap [] := va_S.rf
  generalize hargs : ([.ref (gAd G 0 0), .int (iI v1), .int (iI v2), .ref (gAd G 75 0)] : List Value).toArray = args at X ⊢
  clear hargs
  unfold f_L_setTool at hf
  refine lv_aload_n X.1 X.2.1 dL_setTool_0 rfl (lv_at hl.1 3 rfl) ?_
  refine lv_iconst X.1 X.2.1 dL_setTool_1 (v := iI 0) rfl ?_
  refine lv_aload_n X.1 X.2.1 dL_setTool_2 rfl (lv_at hl.1 0 rfl) ?_
  refine lv_iload_n X.1 X.2.1 dL_setTool_3 rfl (lv_at hl.1 1 rfl) ?_
  refine lv_iload_n X.1 X.2.1 dL_setTool_4 rfl (lv_at hl.1 2 rfl) ?_
  obtain ⟨r5, hq5, hf_⟩ := ob_e hf; clear hf; have hf := hf_; clear hf_
  rcases r5 with e8 | v5_
  · replace hf := ol_l hf
    refine gGoXI (gRunVX X Z hH hS (As := [.int (iI v1), .int (iI v2)]) (m_X11_setTool l hl0 G v1 nv1 v2 nv2 M0 _ hq5) calX11_setTool k_657 k_658 k_656 (by decide) cX11 rfl ⟨by decide, by decide⟩ rfl hl rfl (Nat.le_of_ble_eq_true rfl) ⟨Nat.le_of_ble_eq_true rfl, Nat.le_of_ble_eq_true rfl⟩ dL_setTool_5) hS (fun E ce q9 H locs hE hH hS h1 h2 h3 => ?_) (fun H locs hok _ hH hS => ?_)
    · obtain ⟨e7, h7, h8⟩ := hE
      cases h7
      subst h8
      by_cases he1 : e8 = 1
      · replace hf := it_t hf he1
        subst he1
        refine gOutCatch X Z (e9 := 1) hT [] ⟨0, 10, 13, 13⟩ [⟨0, 10, 17, 18⟩] rfl (fun z hz => nomatch hz) (by decide) (by decide) (by decide) k_523 k_536 h1 h2 h3 ?_
        refine g_astore X (lv' := [(4, .ref q9), (0, .ref (gAd G 0 0)), (1, .int (iI v1)), (2, .int (iI v2)), (3, .ref (gAd G 75 0))]) dL_setTool_13 hl (by decide) rfl (fun ls hl => ?_)
        refine lv_iconst X.1 X.2.1 dL_setTool_15 (v := iI 1) rfl ?_
        have hq := Option.some.inj hf; subst hq
        exact gRetXI X hH hS trivial (res := 1) (nmI_l (by decide)) ⟨Nat.le_of_ble_eq_true rfl, Nat.le_of_ble_eq_true rfl⟩ dL_setTool_16
      · replace hf := it_f hf he1
        by_cases he3 : e8 = 3
        · replace hf := it_t hf he3
          subst he3
          refine gOutCatch X Z (e9 := 3) hT [⟨0, 10, 13, 13⟩] ⟨0, 10, 17, 18⟩ [] rfl (fun z hz => by simp only [List.mem_cons, List.not_mem_nil, or_false] at hz; rcases hz with rfl <;> first | exact ⟨by decide, 1, k_523, by decide, by decide⟩) (by decide) (by decide) (by decide) k_628 k_638 h1 h2 h3 ?_
          refine g_astore X (lv' := [(4, .ref q9), (0, .ref (gAd G 0 0)), (1, .int (iI v1)), (2, .int (iI v2)), (3, .ref (gAd G 75 0))]) dL_setTool_17 hl (by decide) rfl (fun ls hl => ?_)
          refine lv_iconst X.1 X.2.1 dL_setTool_19 (v := iI 2) rfl ?_
          have hq := Option.some.inj hf; subst hq
          exact gRetXI X hH hS trivial (res := 2) (nmI_l (by decide)) ⟨Nat.le_of_ble_eq_true rfl, Nat.le_of_ble_eq_true rfl⟩ dL_setTool_20
        · replace hf := it_f hf he3
          cases hf
    · obtain ⟨z, hz⟩ := hok; cases hz
  · replace hf := ol_r hf
    refine gGoXI (gRunVX X Z hH hS (As := [.int (iI v1), .int (iI v2)]) (m_X11_setTool l hl0 G v1 nv1 v2 nv2 M0 _ hq5) calX11_setTool k_657 k_658 k_656 (by decide) cX11 rfl ⟨by decide, by decide⟩ rfl hl rfl (Nat.le_of_ble_eq_true rfl) ⟨Nat.le_of_ble_eq_true rfl, Nat.le_of_ble_eq_true rfl⟩ dL_setTool_5) hS (fun E ce q9 H locs hE hH hS h1 h2 h3 => ?_) (fun H locs _ nv_ hH hS => ?_)
    · obtain ⟨e7, h7, h8⟩ := hE; cases h7
    · refine g_i2l X nv_ dL_setTool_8 ?_
      refine g_last X hH hS nv_ dL_setTool_9 (fun H locs hH hS => ?_)
      refine lv_goto (tgt := 21) X.1 X.2.1 dL_setTool_10 (by decide) ?_
      refine lv_iconst X.1 X.2.1 dL_setTool_21 (v := iI 0) rfl ?_
      have hq := Option.some.inj hf; subst hq
      exact gRetXI X hH hS trivial (res := 0) (nmI_l (by decide)) ⟨Nat.le_of_ble_eq_true rfl, Nat.le_of_ble_eq_true rfl⟩ dL_setTool_22
theorem m_L_input (l : Launch) (hl0 : l.stackTraces = false) (G : gG) (v1 : Int) (nv1 : nmI v1) (v2 : Int) (nv2 : nmI v2) (v3 : Int) (nv3 : nmI v3) (v4 : Int) (nv4 : nmI v4) (M0 : gM) (q : (Int × gM)) (hf : f_L_input v1 v2 v3 v4 M0 = some q) : gLMet l yL_input cL_input 7 (some .int) [(0, 14, 17, 13), (0, 14, 21, 27), (0, 14, 25, 18)] 9 156 6 36 G M0 [.ref (gAd G 0 0), .int (iI v1), .int (iI v2), .int (iI v3), .int (iI v4), .ref (gAd G 75 0)] (gXi G True q.1 q.2) := by
  refine gOfL (by decide) (by show _ ≤ 7; exact Nat.le_of_ble_eq_true rfl) rfl ?_
  intro p e s m below meth c X Z hT hH ls hl
  replace hl : gLv ls 7 [(0, .ref (gAd G 0 0)), (1, .int (iI v1)), (2, .int (iI v2)), (3, .int (iI v3)), (4, .int (iI v4)), (5, .ref (gAd G 75 0))] := hl
  have hS : va_S (gA G) s.heap s.heap [] := va_S.rf
  generalize hargs : ([.ref (gAd G 0 0), .int (iI v1), .int (iI v2), .int (iI v3), .int (iI v4), .ref (gAd G 75 0)] : List Value).toArray = args at X ⊢
  clear hargs
  unfold f_L_input at hf
  refine lv_aload X.1 X.2.1 dL_input_0 (lv_at hl.1 5 rfl) ?_
  refine lv_iconst X.1 X.2.1 dL_input_2 (v := iI 0) rfl ?_
  refine lv_aload_n X.1 X.2.1 dL_input_3 rfl (lv_at hl.1 0 rfl) ?_
  refine lv_iload_n X.1 X.2.1 dL_input_4 rfl (lv_at hl.1 1 rfl) ?_
  refine lv_iload_n X.1 X.2.1 dL_input_5 rfl (lv_at hl.1 2 rfl) ?_
  refine lv_iload_n X.1 X.2.1 dL_input_6 rfl (lv_at hl.1 3 rfl) ?_
  refine lv_iload X.1 X.2.1 dL_input_7 (lv_at hl.1 4 rfl) ?_
  obtain ⟨r9, hq9, hf_⟩ := ob_e hf; clear hf; have hf := hf_; clear hf_
  rcases r9 with e8 | v9_
  · replace hf := ol_l hf
    refine gGoXI (gRunVX X Z hH hS (As := [.int (iI v1), .int (iI v2), .int (iI v3), .int (iI v4)]) (m_X11_input l hl0 G v1 nv1 v2 nv2 v3 nv3 v4 nv4 M0 _ hq9) calX11_input k_665 k_666 k_664 (by decide) cX11 rfl ⟨by decide, by decide⟩ rfl hl rfl (Nat.le_of_ble_eq_true rfl) ⟨Nat.le_of_ble_eq_true rfl, Nat.le_of_ble_eq_true rfl⟩ dL_input_9) hS (fun E ce q9 H locs hE hH hS h1 h2 h3 => ?_) (fun H locs hok _ hH hS => ?_)
    · obtain ⟨e7, h7, h8⟩ := hE
      cases h7
      subst h8
      by_cases he1 : e8 = 1
      · replace hf := it_t hf he1
        subst he1
        refine gOutCatch X Z (e9 := 1) hT [] ⟨0, 14, 17, 13⟩ [⟨0, 14, 21, 27⟩, ⟨0, 14, 25, 18⟩] rfl (fun z hz => nomatch hz) (by decide) (by decide) (by decide) k_523 k_536 h1 h2 h3 ?_
        refine g_astore X (lv' := [(6, .ref q9), (0, .ref (gAd G 0 0)), (1, .int (iI v1)), (2, .int (iI v2)), (3, .int (iI v3)), (4, .int (iI v4)), (5, .ref (gAd G 75 0))]) dL_input_17 hl (by decide) rfl (fun ls hl => ?_)
        refine lv_iconst X.1 X.2.1 dL_input_19 (v := iI 1) rfl ?_
        have hq := Option.some.inj hf; subst hq
        exact gRetXI X hH hS trivial (res := 1) (nmI_l (by decide)) ⟨Nat.le_of_ble_eq_true rfl, Nat.le_of_ble_eq_true rfl⟩ dL_input_20
      · replace hf := it_f hf he1
        by_cases he2 : e8 = 2
        · replace hf := it_t hf he2
          subst he2
          refine gOutCatch X Z (e9 := 2) hT [⟨0, 14, 17, 13⟩] ⟨0, 14, 21, 27⟩ [⟨0, 14, 25, 18⟩] rfl (fun z hz => by simp only [List.mem_cons, List.not_mem_nil, or_false] at hz; rcases hz with rfl <;> first | exact ⟨by decide, 1, k_523, by decide, by decide⟩) (by decide) (by decide) (by decide) k_663 k_681 h1 h2 h3 ?_
          refine g_astore X (lv' := [(6, .ref q9), (0, .ref (gAd G 0 0)), (1, .int (iI v1)), (2, .int (iI v2)), (3, .int (iI v3)), (4, .int (iI v4)), (5, .ref (gAd G 75 0))]) dL_input_21 hl (by decide) rfl (fun ls hl => ?_)
          refine lv_iconst X.1 X.2.1 dL_input_23 (v := iI 2) rfl ?_
          have hq := Option.some.inj hf; subst hq
          exact gRetXI X hH hS trivial (res := 2) (nmI_l (by decide)) ⟨Nat.le_of_ble_eq_true rfl, Nat.le_of_ble_eq_true rfl⟩ dL_input_24
        · replace hf := it_f hf he2
          by_cases he3 : e8 = 3
          · replace hf := it_t hf he3
            subst he3
            refine gOutCatch X Z (e9 := 3) hT [⟨0, 14, 17, 13⟩, ⟨0, 14, 21, 27⟩] ⟨0, 14, 25, 18⟩ [] rfl (fun z hz => by simp only [List.mem_cons, List.not_mem_nil, or_false] at hz; rcases hz with rfl | rfl <;> first | exact ⟨by decide, 1, k_523, by decide, by decide⟩ | exact ⟨by decide, 2, k_663, by decide, by decide⟩) (by decide) (by decide) (by decide) k_628 k_638 h1 h2 h3 ?_
            refine g_astore X (lv' := [(6, .ref q9), (0, .ref (gAd G 0 0)), (1, .int (iI v1)), (2, .int (iI v2)), (3, .int (iI v3)), (4, .int (iI v4)), (5, .ref (gAd G 75 0))]) dL_input_25 hl (by decide) rfl (fun ls hl => ?_)
            refine lv_iconst X.1 X.2.1 dL_input_27 (v := iI 3) rfl ?_
            have hq := Option.some.inj hf; subst hq
            exact gRetXI X hH hS trivial (res := 3) (nmI_l (by decide)) ⟨Nat.le_of_ble_eq_true rfl, Nat.le_of_ble_eq_true rfl⟩ dL_input_28
          · replace hf := it_f hf he3
            cases hf
    · obtain ⟨z, hz⟩ := hok; cases hz
  · replace hf := ol_r hf
    refine gGoXI (gRunVX X Z hH hS (As := [.int (iI v1), .int (iI v2), .int (iI v3), .int (iI v4)]) (m_X11_input l hl0 G v1 nv1 v2 nv2 v3 nv3 v4 nv4 M0 _ hq9) calX11_input k_665 k_666 k_664 (by decide) cX11 rfl ⟨by decide, by decide⟩ rfl hl rfl (Nat.le_of_ble_eq_true rfl) ⟨Nat.le_of_ble_eq_true rfl, Nat.le_of_ble_eq_true rfl⟩ dL_input_9) hS (fun E ce q9 H locs hE hH hS h1 h2 h3 => ?_) (fun H locs _ nv_ hH hS => ?_)
    · obtain ⟨e7, h7, h8⟩ := hE; cases h7
    · refine g_i2l X nv_ dL_input_12 ?_
      refine g_last X hH hS nv_ dL_input_13 (fun H locs hH hS => ?_)
      refine lv_goto (tgt := 29) X.1 X.2.1 dL_input_14 (by decide) ?_
      refine lv_iconst X.1 X.2.1 dL_input_29 (v := iI 0) rfl ?_
      have hq := Option.some.inj hf; subst hq
      exact gRetXI X hH hS trivial (res := 0) (nmI_l (by decide)) ⟨Nat.le_of_ble_eq_true rfl, Nat.le_of_ble_eq_true rfl⟩ dL_input_30
theorem m_L_target (l : Launch) (hl0 : l.stackTraces = false) (G : gG) (v1 : Int) (nv1 : nmI v1) (v2 : Int) (nv2 : nmI v2) (v3 : Int) (nv3 : nmI v3) (v4 : Int) (nv4 : nmI v4) (v5 : Int) (nv5 : nmI v5) (v6 : Int) (nv6 : nmI v6) (M0 : gM) (q : (Int × gM)) (hf : f_L_target v1 v2 v3 v4 v5 v6 M0 = some q) : gLMet l yL_target cL_target 9 (some .int) [(0, 18, 21, 13), (0, 18, 25, 18)] 8 137 5 30 G M0 [.ref (gAd G 0 0), .int (iI v1), .int (iI v2), .int (iI v3), .int (iI v4), .int (iI v5), .int (iI v6), .ref (gAd G 75 0)] (gXi G True q.1 q.2) := by
  refine gOfL (by decide) (by show _ ≤ 9; exact Nat.le_of_ble_eq_true rfl) rfl ?_
  intro p e s m below meth c X Z hT hH ls hl
  replace hl : gLv ls 9 [(0, .ref (gAd G 0 0)), (1, .int (iI v1)), (2, .int (iI v2)), (3, .int (iI v3)), (4, .int (iI v4)), (5, .int (iI v5)), (6, .int (iI v6)), (7, .ref (gAd G 75 0))] := hl
  have hS : va_S (gA G) s.heap s.heap [] := va_S.rf
  generalize hargs : ([.ref (gAd G 0 0), .int (iI v1), .int (iI v2), .int (iI v3), .int (iI v4), .int (iI v5), .int (iI v6), .ref (gAd G 75 0)] : List Value).toArray = args at X ⊢
  clear hargs
  unfold f_L_target at hf
  refine lv_aload X.1 X.2.1 dL_target_0 (lv_at hl.1 7 rfl) ?_
  refine lv_iconst X.1 X.2.1 dL_target_2 (v := iI 0) rfl ?_
  refine lv_aload_n X.1 X.2.1 dL_target_3 rfl (lv_at hl.1 0 rfl) ?_
  refine lv_iload_n X.1 X.2.1 dL_target_4 rfl (lv_at hl.1 1 rfl) ?_
  refine lv_iload_n X.1 X.2.1 dL_target_5 rfl (lv_at hl.1 2 rfl) ?_
  refine lv_iload_n X.1 X.2.1 dL_target_6 rfl (lv_at hl.1 3 rfl) ?_
  refine lv_iload X.1 X.2.1 dL_target_7 (lv_at hl.1 4 rfl) ?_
  refine lv_iload X.1 X.2.1 dL_target_9 (lv_at hl.1 5 rfl) ?_
  refine lv_iload X.1 X.2.1 dL_target_11 (lv_at hl.1 6 rfl) ?_
  obtain ⟨r13, hq13, hf_⟩ := ob_e hf; clear hf; have hf := hf_; clear hf_
  rcases r13 with e8 | v13_
  · replace hf := ol_l hf
    refine gGoXI (gRunVX X Z hH hS (As := [.int (iI v1), .int (iI v2), .int (iI v3), .int (iI v4), .int (iI v5), .int (iI v6)]) (m_X11_target l hl0 G v1 nv1 v2 nv2 v3 nv3 v4 nv4 v5 nv5 v6 nv6 M0 _ hq13) calX11_target k_704 k_705 k_703 (by decide) cX11 rfl ⟨by decide, by decide⟩ rfl hl rfl (Nat.le_of_ble_eq_true rfl) ⟨Nat.le_of_ble_eq_true rfl, Nat.le_of_ble_eq_true rfl⟩ dL_target_13) hS (fun E ce q9 H locs hE hH hS h1 h2 h3 => ?_) (fun H locs hok _ hH hS => ?_)
    · obtain ⟨e7, h7, h8⟩ := hE
      cases h7
      subst h8
      by_cases he1 : e8 = 1
      · replace hf := it_t hf he1
        subst he1
        refine gOutCatch X Z (e9 := 1) hT [] ⟨0, 18, 21, 13⟩ [⟨0, 18, 25, 18⟩] rfl (fun z hz => nomatch hz) (by decide) (by decide) (by decide) k_523 k_536 h1 h2 h3 ?_
        refine g_astore X (lv' := [(8, .ref q9), (0, .ref (gAd G 0 0)), (1, .int (iI v1)), (2, .int (iI v2)), (3, .int (iI v3)), (4, .int (iI v4)), (5, .int (iI v5)), (6, .int (iI v6)), (7, .ref (gAd G 75 0))]) dL_target_21 hl (by decide) rfl (fun ls hl => ?_)
        refine lv_iconst X.1 X.2.1 dL_target_23 (v := iI 1) rfl ?_
        have hq := Option.some.inj hf; subst hq
        exact gRetXI X hH hS trivial (res := 1) (nmI_l (by decide)) ⟨Nat.le_of_ble_eq_true rfl, Nat.le_of_ble_eq_true rfl⟩ dL_target_24
      · replace hf := it_f hf he1
        by_cases he3 : e8 = 3
        · replace hf := it_t hf he3
          subst he3
          refine gOutCatch X Z (e9 := 3) hT [⟨0, 18, 21, 13⟩] ⟨0, 18, 25, 18⟩ [] rfl (fun z hz => by simp only [List.mem_cons, List.not_mem_nil, or_false] at hz; rcases hz with rfl <;> first | exact ⟨by decide, 1, k_523, by decide, by decide⟩) (by decide) (by decide) (by decide) k_628 k_638 h1 h2 h3 ?_
          refine g_astore X (lv' := [(8, .ref q9), (0, .ref (gAd G 0 0)), (1, .int (iI v1)), (2, .int (iI v2)), (3, .int (iI v3)), (4, .int (iI v4)), (5, .int (iI v5)), (6, .int (iI v6)), (7, .ref (gAd G 75 0))]) dL_target_25 hl (by decide) rfl (fun ls hl => ?_)
          refine lv_iconst X.1 X.2.1 dL_target_27 (v := iI 2) rfl ?_
          have hq := Option.some.inj hf; subst hq
          exact gRetXI X hH hS trivial (res := 2) (nmI_l (by decide)) ⟨Nat.le_of_ble_eq_true rfl, Nat.le_of_ble_eq_true rfl⟩ dL_target_28
        · replace hf := it_f hf he3
          cases hf
    · obtain ⟨z, hz⟩ := hok; cases hz
  · replace hf := ol_r hf
    refine gGoXI (gRunVX X Z hH hS (As := [.int (iI v1), .int (iI v2), .int (iI v3), .int (iI v4), .int (iI v5), .int (iI v6)]) (m_X11_target l hl0 G v1 nv1 v2 nv2 v3 nv3 v4 nv4 v5 nv5 v6 nv6 M0 _ hq13) calX11_target k_704 k_705 k_703 (by decide) cX11 rfl ⟨by decide, by decide⟩ rfl hl rfl (Nat.le_of_ble_eq_true rfl) ⟨Nat.le_of_ble_eq_true rfl, Nat.le_of_ble_eq_true rfl⟩ dL_target_13) hS (fun E ce q9 H locs hE hH hS h1 h2 h3 => ?_) (fun H locs _ nv_ hH hS => ?_)
    · obtain ⟨e7, h7, h8⟩ := hE; cases h7
    · refine g_i2l X nv_ dL_target_16 ?_
      refine g_last X hH hS nv_ dL_target_17 (fun H locs hH hS => ?_)
      refine lv_goto (tgt := 29) X.1 X.2.1 dL_target_18 (by decide) ?_
      refine lv_iconst X.1 X.2.1 dL_target_29 (v := iI 0) rfl ?_
      have hq := Option.some.inj hf; subst hq
      exact gRetXI X hH hS trivial (res := 0) (nmI_l (by decide)) ⟨Nat.le_of_ble_eq_true rfl, Nat.le_of_ble_eq_true rfl⟩ dL_target_30
theorem m_L_copy (l : Launch) (hl0 : l.stackTraces = false) (G : gG) (v1 : Int) (nv1 : nmI v1) (v2 : Int) (nv2 : nmI v2) (M0 : gM) (q : (Int × gM)) (hf : f_L_copy v1 v2 M0 = some q) : gLMet l yL_copy cL_copy 5 (some .int) [(0, 10, 13, 27), (0, 10, 17, 13), (0, 10, 21, 18)] 8 135 3 18 G M0 [.ref (gAd G 0 0), .int (iI v1), .int (iI v2), .ref (gAd G 75 0)] (gXi G True q.1 q.2) := by
  refine gOfL (by decide) (by show _ ≤ 5; exact Nat.le_of_ble_eq_true rfl) rfl ?_
  intro p e s m below meth c X Z hT hH ls hl
  replace hl : gLv ls 5 [(0, .ref (gAd G 0 0)), (1, .int (iI v1)), (2, .int (iI v2)), (3, .ref (gAd G 75 0))] := hl
  have hS : va_S (gA G) s.heap s.heap [] := va_S.rf
  generalize hargs : ([.ref (gAd G 0 0), .int (iI v1), .int (iI v2), .ref (gAd G 75 0)] : List Value).toArray = args at X ⊢
  clear hargs
  unfold f_L_copy at hf
  refine lv_aload_n X.1 X.2.1 dL_copy_0 rfl (lv_at hl.1 3 rfl) ?_
  refine lv_iconst X.1 X.2.1 dL_copy_1 (v := iI 0) rfl ?_
  refine lv_aload_n X.1 X.2.1 dL_copy_2 rfl (lv_at hl.1 0 rfl) ?_
  refine lv_iload_n X.1 X.2.1 dL_copy_3 rfl (lv_at hl.1 1 rfl) ?_
  refine lv_iload_n X.1 X.2.1 dL_copy_4 rfl (lv_at hl.1 2 rfl) ?_
  obtain ⟨r5, hq5, hf_⟩ := ob_e hf; clear hf; have hf := hf_; clear hf_
  rcases r5 with e8 | v5_
  · replace hf := ol_l hf
    refine gGoXI (gRunVX X Z hH hS (As := [.int (iI v1), .int (iI v2)]) (m_X11_copy l hl0 G v1 nv1 v2 nv2 M0 _ hq5) calX11_copy k_730 k_731 k_729 (by decide) cX11 rfl ⟨by decide, by decide⟩ rfl hl rfl (Nat.le_of_ble_eq_true rfl) ⟨Nat.le_of_ble_eq_true rfl, Nat.le_of_ble_eq_true rfl⟩ dL_copy_5) hS (fun E ce q9 H locs hE hH hS h1 h2 h3 => ?_) (fun H locs hok _ hH hS => ?_)
    · obtain ⟨e7, h7, h8⟩ := hE
      cases h7
      subst h8
      by_cases he2 : e8 = 2
      · replace hf := it_t hf he2
        subst he2
        refine gOutCatch X Z (e9 := 2) hT [] ⟨0, 10, 13, 27⟩ [⟨0, 10, 17, 13⟩, ⟨0, 10, 21, 18⟩] rfl (fun z hz => nomatch hz) (by decide) (by decide) (by decide) k_663 k_681 h1 h2 h3 ?_
        refine g_astore X (lv' := [(4, .ref q9), (0, .ref (gAd G 0 0)), (1, .int (iI v1)), (2, .int (iI v2)), (3, .ref (gAd G 75 0))]) dL_copy_13 hl (by decide) rfl (fun ls hl => ?_)
        refine lv_iconst X.1 X.2.1 dL_copy_15 (v := iI 1) rfl ?_
        have hq := Option.some.inj hf; subst hq
        exact gRetXI X hH hS trivial (res := 1) (nmI_l (by decide)) ⟨Nat.le_of_ble_eq_true rfl, Nat.le_of_ble_eq_true rfl⟩ dL_copy_16
      · replace hf := it_f hf he2
        by_cases he1 : e8 = 1
        · replace hf := it_t hf he1
          subst he1
          refine gOutCatch X Z (e9 := 1) hT [⟨0, 10, 13, 27⟩] ⟨0, 10, 17, 13⟩ [⟨0, 10, 21, 18⟩] rfl (fun z hz => by simp only [List.mem_cons, List.not_mem_nil, or_false] at hz; rcases hz with rfl <;> first | exact ⟨by decide, 2, k_663, by decide, by decide⟩) (by decide) (by decide) (by decide) k_523 k_536 h1 h2 h3 ?_
          refine g_astore X (lv' := [(4, .ref q9), (0, .ref (gAd G 0 0)), (1, .int (iI v1)), (2, .int (iI v2)), (3, .ref (gAd G 75 0))]) dL_copy_17 hl (by decide) rfl (fun ls hl => ?_)
          refine lv_iconst X.1 X.2.1 dL_copy_19 (v := iI 2) rfl ?_
          have hq := Option.some.inj hf; subst hq
          exact gRetXI X hH hS trivial (res := 2) (nmI_l (by decide)) ⟨Nat.le_of_ble_eq_true rfl, Nat.le_of_ble_eq_true rfl⟩ dL_copy_20
        · replace hf := it_f hf he1
          by_cases he3 : e8 = 3
          · replace hf := it_t hf he3
            subst he3
            refine gOutCatch X Z (e9 := 3) hT [⟨0, 10, 13, 27⟩, ⟨0, 10, 17, 13⟩] ⟨0, 10, 21, 18⟩ [] rfl (fun z hz => by simp only [List.mem_cons, List.not_mem_nil, or_false] at hz; rcases hz with rfl | rfl <;> first | exact ⟨by decide, 2, k_663, by decide, by decide⟩ | exact ⟨by decide, 1, k_523, by decide, by decide⟩) (by decide) (by decide) (by decide) k_628 k_638 h1 h2 h3 ?_
            refine g_astore X (lv' := [(4, .ref q9), (0, .ref (gAd G 0 0)), (1, .int (iI v1)), (2, .int (iI v2)), (3, .ref (gAd G 75 0))]) dL_copy_21 hl (by decide) rfl (fun ls hl => ?_)
            refine lv_iconst X.1 X.2.1 dL_copy_23 (v := iI 3) rfl ?_
            have hq := Option.some.inj hf; subst hq
            exact gRetXI X hH hS trivial (res := 3) (nmI_l (by decide)) ⟨Nat.le_of_ble_eq_true rfl, Nat.le_of_ble_eq_true rfl⟩ dL_copy_24
          · replace hf := it_f hf he3
            cases hf
    · obtain ⟨z, hz⟩ := hok; cases hz
  · replace hf := ol_r hf
    refine gGoXI (gRunVX X Z hH hS (As := [.int (iI v1), .int (iI v2)]) (m_X11_copy l hl0 G v1 nv1 v2 nv2 M0 _ hq5) calX11_copy k_730 k_731 k_729 (by decide) cX11 rfl ⟨by decide, by decide⟩ rfl hl rfl (Nat.le_of_ble_eq_true rfl) ⟨Nat.le_of_ble_eq_true rfl, Nat.le_of_ble_eq_true rfl⟩ dL_copy_5) hS (fun E ce q9 H locs hE hH hS h1 h2 h3 => ?_) (fun H locs _ nv_ hH hS => ?_)
    · obtain ⟨e7, h7, h8⟩ := hE; cases h7
    · refine g_i2l X nv_ dL_copy_8 ?_
      refine g_last X hH hS nv_ dL_copy_9 (fun H locs hH hS => ?_)
      refine lv_goto (tgt := 25) X.1 X.2.1 dL_copy_10 (by decide) ?_
      refine lv_iconst X.1 X.2.1 dL_copy_25 (v := iI 0) rfl ?_
      have hq := Option.some.inj hf; subst hq
      exact gRetXI X hH hS trivial (res := 0) (nmI_l (by decide)) ⟨Nat.le_of_ble_eq_true rfl, Nat.le_of_ble_eq_true rfl⟩ dL_copy_26
theorem m_L_setPower (l : Launch) (hl0 : l.stackTraces = false) (G : gG) (v1 : Int) (nv1 : nmI v1) (v2 : Int) (nv2 : nmI v2) (M0 : gM) (q : (Int × gM)) (hf : f_L_setPower v1 v2 M0 = some q) : gLMet l yL_setPower cL_setPower 5 (some .int) [(0, 10, 13, 13)] 8 134 1 6 G M0 [.ref (gAd G 0 0), .int (iI v1), .int (iI v2), .ref (gAd G 75 0)] (gXi G True q.1 q.2) := by
  refine gOfL (by decide) (by show _ ≤ 5; exact Nat.le_of_ble_eq_true rfl) rfl ?_
  intro p e s m below meth c X Z hT hH ls hl
  replace hl : gLv ls 5 [(0, .ref (gAd G 0 0)), (1, .int (iI v1)), (2, .int (iI v2)), (3, .ref (gAd G 75 0))] := hl
  have hS : va_S (gA G) s.heap s.heap [] := va_S.rf
  generalize hargs : ([.ref (gAd G 0 0), .int (iI v1), .int (iI v2), .ref (gAd G 75 0)] : List Value).toArray = args at X ⊢
  clear hargs
  unfold f_L_setPower at hf
  refine lv_aload_n X.1 X.2.1 dL_setPower_0 rfl (lv_at hl.1 3 rfl) ?_
  refine lv_iconst X.1 X.2.1 dL_setPower_1 (v := iI 0) rfl ?_
  refine lv_aload_n X.1 X.2.1 dL_setPower_2 rfl (lv_at hl.1 0 rfl) ?_
  refine lv_iload_n X.1 X.2.1 dL_setPower_3 rfl (lv_at hl.1 1 rfl) ?_
  refine lv_iload_n X.1 X.2.1 dL_setPower_4 rfl (lv_at hl.1 2 rfl) ?_
  obtain ⟨r5, hq5, hf_⟩ := ob_e hf; clear hf; have hf := hf_; clear hf_
  rcases r5 with e8 | v5_
  · replace hf := ol_l hf
    refine gGoXI (gRunVX X Z hH hS (As := [.int (iI v1), .int (iI v2)]) (m_X11_setPower l hl0 G v1 nv1 v2 nv2 M0 _ hq5) calX11_setPower k_738 k_739 k_737 (by decide) cX11 rfl ⟨by decide, by decide⟩ rfl hl rfl (Nat.le_of_ble_eq_true rfl) ⟨Nat.le_of_ble_eq_true rfl, Nat.le_of_ble_eq_true rfl⟩ dL_setPower_5) hS (fun E ce q9 H locs hE hH hS h1 h2 h3 => ?_) (fun H locs hok _ hH hS => ?_)
    · obtain ⟨e7, h7, h8⟩ := hE
      cases h7
      subst h8
      by_cases he1 : e8 = 1
      · replace hf := it_t hf he1
        subst he1
        refine gOutCatch X Z (e9 := 1) hT [] ⟨0, 10, 13, 13⟩ [] rfl (fun z hz => nomatch hz) (by decide) (by decide) (by decide) k_523 k_536 h1 h2 h3 ?_
        refine g_astore X (lv' := [(4, .ref q9), (0, .ref (gAd G 0 0)), (1, .int (iI v1)), (2, .int (iI v2)), (3, .ref (gAd G 75 0))]) dL_setPower_13 hl (by decide) rfl (fun ls hl => ?_)
        refine lv_iconst X.1 X.2.1 dL_setPower_15 (v := iI 1) rfl ?_
        have hq := Option.some.inj hf; subst hq
        exact gRetXI X hH hS trivial (res := 1) (nmI_l (by decide)) ⟨Nat.le_of_ble_eq_true rfl, Nat.le_of_ble_eq_true rfl⟩ dL_setPower_16
      · replace hf := it_f hf he1
        cases hf
    · obtain ⟨z, hz⟩ := hok; cases hz
  · replace hf := ol_r hf
    refine gGoXI (gRunVX X Z hH hS (As := [.int (iI v1), .int (iI v2)]) (m_X11_setPower l hl0 G v1 nv1 v2 nv2 M0 _ hq5) calX11_setPower k_738 k_739 k_737 (by decide) cX11 rfl ⟨by decide, by decide⟩ rfl hl rfl (Nat.le_of_ble_eq_true rfl) ⟨Nat.le_of_ble_eq_true rfl, Nat.le_of_ble_eq_true rfl⟩ dL_setPower_5) hS (fun E ce q9 H locs hE hH hS h1 h2 h3 => ?_) (fun H locs _ nv_ hH hS => ?_)
    · obtain ⟨e7, h7, h8⟩ := hE; cases h7
    · refine g_i2l X nv_ dL_setPower_8 ?_
      refine g_last X hH hS nv_ dL_setPower_9 (fun H locs hH hS => ?_)
      refine lv_goto (tgt := 17) X.1 X.2.1 dL_setPower_10 (by decide) ?_
      refine lv_iconst X.1 X.2.1 dL_setPower_17 (v := iI 0) rfl ?_
      have hq := Option.some.inj hf; subst hq
      exact gRetXI X hH hS trivial (res := 0) (nmI_l (by decide)) ⟨Nat.le_of_ble_eq_true rfl, Nat.le_of_ble_eq_true rfl⟩ dL_setPower_18
theorem m_L_entry (l : Launch) (hl0 : l.stackTraces = false) (G : gG) (v1 : Int) (nv1 : nmI v1) (v2 : Int) (nv2 : nmI v2) (M0 : gM) (q : (Int × gM)) (hf : f_L_entry v1 v2 M0 = some q) : gLMet l yL_entry cL_entry 5 (some .int) [(0, 10, 13, 13)] 7 113 1 6 G M0 [.ref (gAd G 0 0), .int (iI v1), .int (iI v2), .ref (gAd G 75 0)] (gXi G True q.1 q.2) := by
  refine gOfL (by decide) (by show _ ≤ 5; exact Nat.le_of_ble_eq_true rfl) rfl ?_
  intro p e s m below meth c X Z hT hH ls hl
  replace hl : gLv ls 5 [(0, .ref (gAd G 0 0)), (1, .int (iI v1)), (2, .int (iI v2)), (3, .ref (gAd G 75 0))] := hl
  have hS : va_S (gA G) s.heap s.heap [] := va_S.rf
  generalize hargs : ([.ref (gAd G 0 0), .int (iI v1), .int (iI v2), .ref (gAd G 75 0)] : List Value).toArray = args at X ⊢
  clear hargs
  unfold f_L_entry at hf
  refine lv_aload_n X.1 X.2.1 dL_entry_0 rfl (lv_at hl.1 3 rfl) ?_
  refine lv_iconst X.1 X.2.1 dL_entry_1 (v := iI 0) rfl ?_
  refine lv_aload_n X.1 X.2.1 dL_entry_2 rfl (lv_at hl.1 0 rfl) ?_
  refine lv_iload_n X.1 X.2.1 dL_entry_3 rfl (lv_at hl.1 1 rfl) ?_
  refine lv_iload_n X.1 X.2.1 dL_entry_4 rfl (lv_at hl.1 2 rfl) ?_
  obtain ⟨r5, hq5, hf_⟩ := ob_e hf; clear hf; have hf := hf_; clear hf_
  rcases r5 with e8 | v5_
  · replace hf := ol_l hf
    refine gGoXI (gRunVX X Z hH hS (As := [.int (iI v1), .int (iI v2)]) (m_X11_entry l hl0 G v1 nv1 v2 nv2 M0 _ hq5) calX11_entry k_767 k_768 k_766 (by decide) cX11 rfl ⟨by decide, by decide⟩ rfl hl rfl (Nat.le_of_ble_eq_true rfl) ⟨Nat.le_of_ble_eq_true rfl, Nat.le_of_ble_eq_true rfl⟩ dL_entry_5) hS (fun E ce q9 H locs hE hH hS h1 h2 h3 => ?_) (fun H locs hok _ hH hS => ?_)
    · obtain ⟨e7, h7, h8⟩ := hE
      cases h7
      subst h8
      by_cases he1 : e8 = 1
      · replace hf := it_t hf he1
        subst he1
        refine gOutCatch X Z (e9 := 1) hT [] ⟨0, 10, 13, 13⟩ [] rfl (fun z hz => nomatch hz) (by decide) (by decide) (by decide) k_523 k_536 h1 h2 h3 ?_
        refine g_astore X (lv' := [(4, .ref q9), (0, .ref (gAd G 0 0)), (1, .int (iI v1)), (2, .int (iI v2)), (3, .ref (gAd G 75 0))]) dL_entry_13 hl (by decide) rfl (fun ls hl => ?_)
        refine lv_iconst X.1 X.2.1 dL_entry_15 (v := iI 1) rfl ?_
        have hq := Option.some.inj hf; subst hq
        exact gRetXI X hH hS trivial (res := 1) (nmI_l (by decide)) ⟨Nat.le_of_ble_eq_true rfl, Nat.le_of_ble_eq_true rfl⟩ dL_entry_16
      · replace hf := it_f hf he1
        cases hf
    · obtain ⟨z, hz⟩ := hok; cases hz
  · replace hf := ol_r hf
    refine gGoXI (gRunVX X Z hH hS (As := [.int (iI v1), .int (iI v2)]) (m_X11_entry l hl0 G v1 nv1 v2 nv2 M0 _ hq5) calX11_entry k_767 k_768 k_766 (by decide) cX11 rfl ⟨by decide, by decide⟩ rfl hl rfl (Nat.le_of_ble_eq_true rfl) ⟨Nat.le_of_ble_eq_true rfl, Nat.le_of_ble_eq_true rfl⟩ dL_entry_5) hS (fun E ce q9 H locs hE hH hS h1 h2 h3 => ?_) (fun H locs _ nv_ hH hS => ?_)
    · obtain ⟨e7, h7, h8⟩ := hE; cases h7
    · refine g_i2l X nv_ dL_entry_8 ?_
      refine g_last X hH hS nv_ dL_entry_9 (fun H locs hH hS => ?_)
      refine lv_goto (tgt := 17) X.1 X.2.1 dL_entry_10 (by decide) ?_
      refine lv_iconst X.1 X.2.1 dL_entry_17 (v := iI 0) rfl ?_
      have hq := Option.some.inj hf; subst hq
      exact gRetXI X hH hS trivial (res := 0) (nmI_l (by decide)) ⟨Nat.le_of_ble_eq_true rfl, Nat.le_of_ble_eq_true rfl⟩ dL_entry_18
theorem m_L_lie (l : Launch) (hl0 : l.stackTraces = false) (G : gG) (v1 : Int) (nv1 : nmI v1) (v2 : Int) (nv2 : nmI v2) (M0 : gM) (q : (Int × gM)) (hf : f_L_lie v1 v2 M0 = some q) : gLMet l yL_lie cL_lie 4 (some .int) [(0, 6, 9, 13)] 7 113 1 6 G M0 [.ref (gAd G 0 0), .int (iI v1), .int (iI v2)] (gXi G True q.1 q.2) := by
  refine gOfL (by decide) (by show _ ≤ 4; exact Nat.le_of_ble_eq_true rfl) rfl ?_
  intro p e s m below meth c X Z hT hH ls hl
  replace hl : gLv ls 4 [(0, .ref (gAd G 0 0)), (1, .int (iI v1)), (2, .int (iI v2))] := hl
  have hS : va_S (gA G) s.heap s.heap [] := va_S.rf
  generalize hargs : ([.ref (gAd G 0 0), .int (iI v1), .int (iI v2)] : List Value).toArray = args at X ⊢
  clear hargs
  unfold f_L_lie at hf
  refine lv_aload_n X.1 X.2.1 dL_lie_0 rfl (lv_at hl.1 0 rfl) ?_
  refine lv_iload_n X.1 X.2.1 dL_lie_1 rfl (lv_at hl.1 1 rfl) ?_
  refine lv_iload_n X.1 X.2.1 dL_lie_2 rfl (lv_at hl.1 2 rfl) ?_
  obtain ⟨r3, hq3, hf_⟩ := ob_e hf; clear hf; have hf := hf_; clear hf_
  rcases r3 with e8 | v3_
  · replace hf := ol_l hf
    refine gGoXV (gRunVX X Z hH hS (As := [.int (iI v1), .int (iI v2)]) (m_X11_lie l hl0 G v1 nv1 v2 nv2 M0 _ hq3) calX11_lie k_798 k_799 k_797 (by decide) cX11 rfl ⟨by decide, by decide⟩ rfl hl rfl (Nat.le_of_ble_eq_true rfl) ⟨Nat.le_of_ble_eq_true rfl, Nat.le_of_ble_eq_true rfl⟩ dL_lie_3) hS (fun E ce q9 H locs hE hH hS h1 h2 h3 => ?_) (fun H locs hok hH hS => ?_)
    · obtain ⟨e7, h7, h8⟩ := hE
      cases h7
      subst h8
      by_cases he1 : e8 = 1
      · replace hf := it_t hf he1
        subst he1
        refine gOutCatch X Z (e9 := 1) hT [] ⟨0, 6, 9, 13⟩ [] rfl (fun z hz => nomatch hz) (by decide) (by decide) (by decide) k_523 k_536 h1 h2 h3 ?_
        refine g_astore_n X (lv' := [(3, .ref q9), (0, .ref (gAd G 0 0)), (1, .int (iI v1)), (2, .int (iI v2))]) dL_lie_9 rfl hl (by decide) rfl (fun ls hl => ?_)
        refine lv_iconst X.1 X.2.1 dL_lie_10 (v := iI 1) rfl ?_
        have hq := Option.some.inj hf; subst hq
        exact gRetXI X hH hS trivial (res := 1) (nmI_l (by decide)) ⟨Nat.le_of_ble_eq_true rfl, Nat.le_of_ble_eq_true rfl⟩ dL_lie_11
      · replace hf := it_f hf he1
        cases hf
    · obtain ⟨z, hz⟩ := hok; cases hz
  · replace hf := ol_r hf
    refine gGoXV (gRunVX X Z hH hS (As := [.int (iI v1), .int (iI v2)]) (m_X11_lie l hl0 G v1 nv1 v2 nv2 M0 _ hq3) calX11_lie k_798 k_799 k_797 (by decide) cX11 rfl ⟨by decide, by decide⟩ rfl hl rfl (Nat.le_of_ble_eq_true rfl) ⟨Nat.le_of_ble_eq_true rfl, Nat.le_of_ble_eq_true rfl⟩ dL_lie_3) hS (fun E ce q9 H locs hE hH hS h1 h2 h3 => ?_) (fun H locs _ hH hS => ?_)
    · obtain ⟨e7, h7, h8⟩ := hE; cases h7
    · refine lv_goto (tgt := 12) X.1 X.2.1 dL_lie_6 (by decide) ?_
      refine lv_iconst X.1 X.2.1 dL_lie_12 (v := iI 0) rfl ?_
      have hq := Option.some.inj hf; subst hq
      exact gRetXI X hH hS trivial (res := 0) (nmI_l (by decide)) ⟨Nat.le_of_ble_eq_true rfl, Nat.le_of_ble_eq_true rfl⟩ dL_lie_13
theorem m_L_lose (l : Launch) (hl0 : l.stackTraces = false) (G : gG) (v1 : Int) (nv1 : nmI v1) (M0 : gM) (q : (Int × gM)) (hf : f_L_lose v1 M0 = some q) : gLMet l yL_lose cL_lose 4 (some .int) [(0, 16, 19, 13)] 7 113 1 6 G M0 [.ref (gAd G 0 0), .int (iI v1), .ref (gAd G 75 0)] (gXi G True q.1 q.2) := by
  refine gOfL (by decide) (by show _ ≤ 4; exact Nat.le_of_ble_eq_true rfl) rfl ?_
  intro p e s m below meth c X Z hT hH ls hl
  replace hl : gLv ls 4 [(0, .ref (gAd G 0 0)), (1, .int (iI v1)), (2, .ref (gAd G 75 0))] := hl
  have hS : va_S (gA G) s.heap s.heap [] := va_S.rf
  generalize hargs : ([.ref (gAd G 0 0), .int (iI v1), .ref (gAd G 75 0)] : List Value).toArray = args at X ⊢
  clear hargs
  unfold f_L_lose at hf
  refine lv_aload_n X.1 X.2.1 dL_lose_0 rfl (lv_at hl.1 2 rfl) ?_
  refine lv_iconst X.1 X.2.1 dL_lose_1 (v := iI 0) rfl ?_
  refine lv_aload_n X.1 X.2.1 dL_lose_2 rfl (lv_at hl.1 0 rfl) ?_
  refine lv_iload_n X.1 X.2.1 dL_lose_3 rfl (lv_at hl.1 1 rfl) ?_
  obtain ⟨r4, hq4, hf_⟩ := ob_e hf; clear hf; have hf := hf_; clear hf_
  rcases r4 with e8 | v4_
  · replace hf := ol_l hf
    refine gGoXZ (gRunVX X Z hH hS (As := [.int (iI v1)]) (m_X11_lose l hl0 G v1 nv1 M0 _ hq4) calX11_lose k_806 k_807 k_805 (by decide) cX11 rfl ⟨by decide, by decide⟩ rfl hl rfl (Nat.le_of_ble_eq_true rfl) ⟨Nat.le_of_ble_eq_true rfl, Nat.le_of_ble_eq_true rfl⟩ dL_lose_4) hS (fun E ce q9 H locs hE hH hS h1 h2 h3 => ?_) (fun H locs hok _ hH hS => ?_)
    · obtain ⟨e7, h7, h8⟩ := hE
      cases h7
      subst h8
      by_cases he1 : e8 = 1
      · replace hf := it_t hf he1
        subst he1
        refine gOutCatch X Z (e9 := 1) hT [] ⟨0, 16, 19, 13⟩ [] rfl (fun z hz => nomatch hz) (by decide) (by decide) (by decide) k_523 k_536 h1 h2 h3 ?_
        refine g_astore_n X (lv' := [(3, .ref q9), (0, .ref (gAd G 0 0)), (1, .int (iI v1)), (2, .ref (gAd G 75 0))]) dL_lose_19 rfl hl (by decide) rfl (fun ls hl => ?_)
        refine lv_iconst X.1 X.2.1 dL_lose_20 (v := iI 1) rfl ?_
        have hq := Option.some.inj hf; subst hq
        exact gRetXI X hH hS trivial (res := 1) (nmI_l (by decide)) ⟨Nat.le_of_ble_eq_true rfl, Nat.le_of_ble_eq_true rfl⟩ dL_lose_21
      · replace hf := it_f hf he1
        cases hf
    · obtain ⟨z, hz⟩ := hok; cases hz
  · replace hf := ol_r hf
    refine gGoXZ (gRunVX X Z hH hS (As := [.int (iI v1)]) (m_X11_lose l hl0 G v1 nv1 M0 _ hq4) calX11_lose k_806 k_807 k_805 (by decide) cX11 rfl ⟨by decide, by decide⟩ rfl hl rfl (Nat.le_of_ble_eq_true rfl) ⟨Nat.le_of_ble_eq_true rfl, Nat.le_of_ble_eq_true rfl⟩ dL_lose_4) hS (fun E ce q9 H locs hE hH hS h1 h2 h3 => ?_) (fun H locs _ bv_ hH hS => ?_)
    · obtain ⟨e7, h7, h8⟩ := hE; cases h7
    · obtain ⟨k15, ek15, hf_⟩ := oj_e hf; clear hf; have hf := hf_; clear hf_
      have hk15 : ∀ (xs2_15 : Int) (nxs2_15 : nmI xs2_15), k15 xs2_15 = some q → ∀ (H : Heap) (locs : List Loc) (ls : Array Slot), gH G v4_.2 H → va_S (gA G) s.heap H locs → gLv ls 4 [] → W p l e { frames := 7, cells := 1, slots := 6, locals := 113 } s m args below meth c H locs 1 6 (vx_MQ below (gXi G True q.1 q.2) (gXC G (fun _ => False) M0) args s 1 6 (gA G)) (F0 m 15 ls [.long (Int64.ofInt xs2_15), .int (iI 0), .ref (gAd G 75 0)]) := by
        intro xs2_15 nxs2_15 hf H locs ls hH hS hl
        subst ek15
        refine g_last X hH hS nxs2_15 dL_lose_15 (fun H locs hH hS => ?_)
        refine lv_goto (tgt := 22) X.1 X.2.1 dL_lose_16 (by decide) ?_
        refine lv_iconst X.1 X.2.1 dL_lose_22 (v := iI 0) rfl ?_
        have hq := Option.some.inj hf; subst hq
        exact gRetXI X hH hS trivial (res := 0) (nmI_l (by decide)) ⟨Nat.le_of_ble_eq_true rfl, Nat.le_of_ble_eq_true rfl⟩ dL_lose_23
      clear ek15
      refine g_if_eq X (nmI_b bv_) (tgt := 14) dL_lose_7 (by decide) (fun hc7 => ?_) (fun hc7 => ?_)
      · replace hf := it_t hf hc7
        refine lv_lconst X.1 X.2.1 dL_lose_14 (v := Int64.ofInt 0) rfl ?_
        exact hk15 0 (nmI_l (by decide)) hf _ _ _ hH hS (gLv_sub hl [] rfl)
      · replace hf := it_f hf hc7
        refine lv_lconst X.1 X.2.1 dL_lose_10 (v := Int64.ofInt 1) rfl ?_
        refine lv_goto (tgt := 15) X.1 X.2.1 dL_lose_11 (by decide) ?_
        exact hk15 1 (nmI_l (by decide)) hf _ _ _ hH hS (gLv_sub hl [] rfl)
theorem m_L_build (l : Launch) (hl0 : l.stackTraces = false) (G : gG) (v1 : Int) (nv1 : nmI v1) (M0 : gM) (q : (Int × gM)) (hf : f_L_build v1 M0 = some q) : gLMet l yL_build cL_build 4 (some .int) [(0, 9, 12, 13), (0, 9, 15, 18)] 8 194 2 12 G M0 [.ref (gAd G 0 0), .int (iI v1), .ref (gAd G 75 0)] (gXi G True q.1 q.2) := by
  refine gOfL (by decide) (by show _ ≤ 4; exact Nat.le_of_ble_eq_true rfl) rfl ?_
  intro p e s m below meth c X Z hT hH ls hl
  replace hl : gLv ls 4 [(0, .ref (gAd G 0 0)), (1, .int (iI v1)), (2, .ref (gAd G 75 0))] := hl
  have hS : va_S (gA G) s.heap s.heap [] := va_S.rf
  generalize hargs : ([.ref (gAd G 0 0), .int (iI v1), .ref (gAd G 75 0)] : List Value).toArray = args at X ⊢
  clear hargs
  unfold f_L_build at hf
  refine lv_aload_n X.1 X.2.1 dL_build_0 rfl (lv_at hl.1 2 rfl) ?_
  refine lv_iconst X.1 X.2.1 dL_build_1 (v := iI 0) rfl ?_
  refine lv_aload_n X.1 X.2.1 dL_build_2 rfl (lv_at hl.1 0 rfl) ?_
  refine lv_iload_n X.1 X.2.1 dL_build_3 rfl (lv_at hl.1 1 rfl) ?_
  obtain ⟨r4, hq4, hf_⟩ := ob_e hf; clear hf; have hf := hf_; clear hf_
  rcases r4 with e8 | v4_
  · replace hf := ol_l hf
    refine gGoXI (gRunVX X Z hH hS (As := [.int (iI v1)]) (m_X11_build l hl0 G v1 nv1 M0 _ hq4) calX11_build k_814 k_815 k_813 (by decide) cX11 rfl ⟨by decide, by decide⟩ rfl hl rfl (Nat.le_of_ble_eq_true rfl) ⟨Nat.le_of_ble_eq_true rfl, Nat.le_of_ble_eq_true rfl⟩ dL_build_4) hS (fun E ce q9 H locs hE hH hS h1 h2 h3 => ?_) (fun H locs hok _ hH hS => ?_)
    · obtain ⟨e7, h7, h8⟩ := hE
      cases h7
      subst h8
      by_cases he1 : e8 = 1
      · replace hf := it_t hf he1
        subst he1
        refine gOutCatch X Z (e9 := 1) hT [] ⟨0, 9, 12, 13⟩ [⟨0, 9, 15, 18⟩] rfl (fun z hz => nomatch hz) (by decide) (by decide) (by decide) k_523 k_536 h1 h2 h3 ?_
        refine g_astore_n X (lv' := [(3, .ref q9), (0, .ref (gAd G 0 0)), (1, .int (iI v1)), (2, .ref (gAd G 75 0))]) dL_build_12 rfl hl (by decide) rfl (fun ls hl => ?_)
        refine lv_iconst X.1 X.2.1 dL_build_13 (v := iI 1) rfl ?_
        have hq := Option.some.inj hf; subst hq
        exact gRetXI X hH hS trivial (res := 1) (nmI_l (by decide)) ⟨Nat.le_of_ble_eq_true rfl, Nat.le_of_ble_eq_true rfl⟩ dL_build_14
      · replace hf := it_f hf he1
        by_cases he3 : e8 = 3
        · replace hf := it_t hf he3
          subst he3
          refine gOutCatch X Z (e9 := 3) hT [⟨0, 9, 12, 13⟩] ⟨0, 9, 15, 18⟩ [] rfl (fun z hz => by simp only [List.mem_cons, List.not_mem_nil, or_false] at hz; rcases hz with rfl <;> first | exact ⟨by decide, 1, k_523, by decide, by decide⟩) (by decide) (by decide) (by decide) k_628 k_638 h1 h2 h3 ?_
          refine g_astore_n X (lv' := [(3, .ref q9), (0, .ref (gAd G 0 0)), (1, .int (iI v1)), (2, .ref (gAd G 75 0))]) dL_build_15 rfl hl (by decide) rfl (fun ls hl => ?_)
          refine lv_iconst X.1 X.2.1 dL_build_16 (v := iI 2) rfl ?_
          have hq := Option.some.inj hf; subst hq
          exact gRetXI X hH hS trivial (res := 2) (nmI_l (by decide)) ⟨Nat.le_of_ble_eq_true rfl, Nat.le_of_ble_eq_true rfl⟩ dL_build_17
        · replace hf := it_f hf he3
          cases hf
    · obtain ⟨z, hz⟩ := hok; cases hz
  · replace hf := ol_r hf
    refine gGoXI (gRunVX X Z hH hS (As := [.int (iI v1)]) (m_X11_build l hl0 G v1 nv1 M0 _ hq4) calX11_build k_814 k_815 k_813 (by decide) cX11 rfl ⟨by decide, by decide⟩ rfl hl rfl (Nat.le_of_ble_eq_true rfl) ⟨Nat.le_of_ble_eq_true rfl, Nat.le_of_ble_eq_true rfl⟩ dL_build_4) hS (fun E ce q9 H locs hE hH hS h1 h2 h3 => ?_) (fun H locs _ nv_ hH hS => ?_)
    · obtain ⟨e7, h7, h8⟩ := hE; cases h7
    · refine g_i2l X nv_ dL_build_7 ?_
      refine g_last X hH hS nv_ dL_build_8 (fun H locs hH hS => ?_)
      refine lv_goto (tgt := 18) X.1 X.2.1 dL_build_9 (by decide) ?_
      refine lv_iconst X.1 X.2.1 dL_build_18 (v := iI 0) rfl ?_
      have hq := Option.some.inj hf; subst hq
      exact gRetXI X hH hS trivial (res := 0) (nmI_l (by decide)) ⟨Nat.le_of_ble_eq_true rfl, Nat.le_of_ble_eq_true rfl⟩ dL_build_19
theorem m_L_pass (l : Launch) (hl0 : l.stackTraces = false) (G : gG) (v1 : Int) (nv1 : nmI v1) (M0 : gM) (q : (Int × gM)) (hf : f_L_pass v1 M0 = some q) : gLMet l yL_pass cL_pass 4 (some .int) [(0, 9, 12, 13)] 8 195 1 6 G M0 [.ref (gAd G 0 0), .int (iI v1), .ref (gAd G 75 0)] (gXi G True q.1 q.2) := by
  refine gOfL (by decide) (by show _ ≤ 4; exact Nat.le_of_ble_eq_true rfl) rfl ?_
  intro p e s m below meth c X Z hT hH ls hl
  replace hl : gLv ls 4 [(0, .ref (gAd G 0 0)), (1, .int (iI v1)), (2, .ref (gAd G 75 0))] := hl
  have hS : va_S (gA G) s.heap s.heap [] := va_S.rf
  generalize hargs : ([.ref (gAd G 0 0), .int (iI v1), .ref (gAd G 75 0)] : List Value).toArray = args at X ⊢
  clear hargs
  unfold f_L_pass at hf
  refine lv_aload_n X.1 X.2.1 dL_pass_0 rfl (lv_at hl.1 2 rfl) ?_
  refine lv_iconst X.1 X.2.1 dL_pass_1 (v := iI 0) rfl ?_
  refine lv_aload_n X.1 X.2.1 dL_pass_2 rfl (lv_at hl.1 0 rfl) ?_
  refine lv_iload_n X.1 X.2.1 dL_pass_3 rfl (lv_at hl.1 1 rfl) ?_
  obtain ⟨r4, hq4, hf_⟩ := ob_e hf; clear hf; have hf := hf_; clear hf_
  rcases r4 with e8 | v4_
  · replace hf := ol_l hf
    refine gGoXI (gRunVX X Z hH hS (As := [.int (iI v1)]) (m_X11_pass l hl0 G v1 nv1 M0 _ hq4) calX11_pass k_917 k_918 k_916 (by decide) cX11 rfl ⟨by decide, by decide⟩ rfl hl rfl (Nat.le_of_ble_eq_true rfl) ⟨Nat.le_of_ble_eq_true rfl, Nat.le_of_ble_eq_true rfl⟩ dL_pass_4) hS (fun E ce q9 H locs hE hH hS h1 h2 h3 => ?_) (fun H locs hok _ hH hS => ?_)
    · obtain ⟨e7, h7, h8⟩ := hE
      cases h7
      subst h8
      by_cases he1 : e8 = 1
      · replace hf := it_t hf he1
        subst he1
        refine gOutCatch X Z (e9 := 1) hT [] ⟨0, 9, 12, 13⟩ [] rfl (fun z hz => nomatch hz) (by decide) (by decide) (by decide) k_523 k_536 h1 h2 h3 ?_
        refine g_astore_n X (lv' := [(3, .ref q9), (0, .ref (gAd G 0 0)), (1, .int (iI v1)), (2, .ref (gAd G 75 0))]) dL_pass_12 rfl hl (by decide) rfl (fun ls hl => ?_)
        refine lv_iconst X.1 X.2.1 dL_pass_13 (v := iI 1) rfl ?_
        have hq := Option.some.inj hf; subst hq
        exact gRetXI X hH hS trivial (res := 1) (nmI_l (by decide)) ⟨Nat.le_of_ble_eq_true rfl, Nat.le_of_ble_eq_true rfl⟩ dL_pass_14
      · replace hf := it_f hf he1
        cases hf
    · obtain ⟨z, hz⟩ := hok; cases hz
  · replace hf := ol_r hf
    refine gGoXI (gRunVX X Z hH hS (As := [.int (iI v1)]) (m_X11_pass l hl0 G v1 nv1 M0 _ hq4) calX11_pass k_917 k_918 k_916 (by decide) cX11 rfl ⟨by decide, by decide⟩ rfl hl rfl (Nat.le_of_ble_eq_true rfl) ⟨Nat.le_of_ble_eq_true rfl, Nat.le_of_ble_eq_true rfl⟩ dL_pass_4) hS (fun E ce q9 H locs hE hH hS h1 h2 h3 => ?_) (fun H locs _ nv_ hH hS => ?_)
    · obtain ⟨e7, h7, h8⟩ := hE; cases h7
    · refine g_i2l X nv_ dL_pass_7 ?_
      refine g_last X hH hS nv_ dL_pass_8 (fun H locs hH hS => ?_)
      refine lv_goto (tgt := 15) X.1 X.2.1 dL_pass_9 (by decide) ?_
      refine lv_iconst X.1 X.2.1 dL_pass_15 (v := iI 0) rfl ?_
      have hq := Option.some.inj hf; subst hq
      exact gRetXI X hH hS trivial (res := 0) (nmI_l (by decide)) ⟨Nat.le_of_ble_eq_true rfl, Nat.le_of_ble_eq_true rfl⟩ dL_pass_16
theorem m_L_state (l : Launch) (hl0 : l.stackTraces = false) (G : gG) (v1 : Int) (nv1 : nmI v1) (v2 : Int) (nv2 : nmI v2) (M0 : gM) (q : (Int × gM)) (hf : f_L_state v1 v2 M0 = some q) : gLMet l yL_state cL_state 5 (some .int) [(0, 10, 13, 27), (0, 10, 17, 13)] 9 156 2 12 G M0 [.ref (gAd G 0 0), .int (iI v1), .int (iI v2), .ref (gAd G 75 0)] (gXi G True q.1 q.2) := by
  refine gOfL (by decide) (by show _ ≤ 5; exact Nat.le_of_ble_eq_true rfl) rfl ?_
  intro p e s m below meth c X Z hT hH ls hl
  replace hl : gLv ls 5 [(0, .ref (gAd G 0 0)), (1, .int (iI v1)), (2, .int (iI v2)), (3, .ref (gAd G 75 0))] := hl
  have hS : va_S (gA G) s.heap s.heap [] := va_S.rf
  generalize hargs : ([.ref (gAd G 0 0), .int (iI v1), .int (iI v2), .ref (gAd G 75 0)] : List Value).toArray = args at X ⊢
  clear hargs
  unfold f_L_state at hf
  refine lv_aload_n X.1 X.2.1 dL_state_0 rfl (lv_at hl.1 3 rfl) ?_
  refine lv_iconst X.1 X.2.1 dL_state_1 (v := iI 0) rfl ?_
  refine lv_aload_n X.1 X.2.1 dL_state_2 rfl (lv_at hl.1 0 rfl) ?_
  refine lv_iload_n X.1 X.2.1 dL_state_3 rfl (lv_at hl.1 1 rfl) ?_
  refine lv_iload_n X.1 X.2.1 dL_state_4 rfl (lv_at hl.1 2 rfl) ?_
  obtain ⟨r5, hq5, hf_⟩ := ob_e hf; clear hf; have hf := hf_; clear hf_
  rcases r5 with e8 | v5_
  · replace hf := ol_l hf
    refine gGoXI (gRunVX X Z hH hS (As := [.int (iI v1), .int (iI v2)]) (m_X11_state l hl0 G v1 nv1 v2 nv2 M0 _ hq5) calX11_state k_1045 k_1046 k_1044 (by decide) cX11 rfl ⟨by decide, by decide⟩ rfl hl rfl (Nat.le_of_ble_eq_true rfl) ⟨Nat.le_of_ble_eq_true rfl, Nat.le_of_ble_eq_true rfl⟩ dL_state_5) hS (fun E ce q9 H locs hE hH hS h1 h2 h3 => ?_) (fun H locs hok _ hH hS => ?_)
    · obtain ⟨e7, h7, h8⟩ := hE
      cases h7
      subst h8
      by_cases he2 : e8 = 2
      · replace hf := it_t hf he2
        subst he2
        refine gOutCatch X Z (e9 := 2) hT [] ⟨0, 10, 13, 27⟩ [⟨0, 10, 17, 13⟩] rfl (fun z hz => nomatch hz) (by decide) (by decide) (by decide) k_663 k_681 h1 h2 h3 ?_
        refine g_astore X (lv' := [(4, .ref q9), (0, .ref (gAd G 0 0)), (1, .int (iI v1)), (2, .int (iI v2)), (3, .ref (gAd G 75 0))]) dL_state_13 hl (by decide) rfl (fun ls hl => ?_)
        refine lv_iconst X.1 X.2.1 dL_state_15 (v := iI 1) rfl ?_
        have hq := Option.some.inj hf; subst hq
        exact gRetXI X hH hS trivial (res := 1) (nmI_l (by decide)) ⟨Nat.le_of_ble_eq_true rfl, Nat.le_of_ble_eq_true rfl⟩ dL_state_16
      · replace hf := it_f hf he2
        by_cases he1 : e8 = 1
        · replace hf := it_t hf he1
          subst he1
          refine gOutCatch X Z (e9 := 1) hT [⟨0, 10, 13, 27⟩] ⟨0, 10, 17, 13⟩ [] rfl (fun z hz => by simp only [List.mem_cons, List.not_mem_nil, or_false] at hz; rcases hz with rfl <;> first | exact ⟨by decide, 2, k_663, by decide, by decide⟩) (by decide) (by decide) (by decide) k_523 k_536 h1 h2 h3 ?_
          refine g_astore X (lv' := [(4, .ref q9), (0, .ref (gAd G 0 0)), (1, .int (iI v1)), (2, .int (iI v2)), (3, .ref (gAd G 75 0))]) dL_state_17 hl (by decide) rfl (fun ls hl => ?_)
          refine lv_iconst X.1 X.2.1 dL_state_19 (v := iI 2) rfl ?_
          have hq := Option.some.inj hf; subst hq
          exact gRetXI X hH hS trivial (res := 2) (nmI_l (by decide)) ⟨Nat.le_of_ble_eq_true rfl, Nat.le_of_ble_eq_true rfl⟩ dL_state_20
        · replace hf := it_f hf he1
          cases hf
    · obtain ⟨z, hz⟩ := hok; cases hz
  · replace hf := ol_r hf
    refine gGoXI (gRunVX X Z hH hS (As := [.int (iI v1), .int (iI v2)]) (m_X11_state l hl0 G v1 nv1 v2 nv2 M0 _ hq5) calX11_state k_1045 k_1046 k_1044 (by decide) cX11 rfl ⟨by decide, by decide⟩ rfl hl rfl (Nat.le_of_ble_eq_true rfl) ⟨Nat.le_of_ble_eq_true rfl, Nat.le_of_ble_eq_true rfl⟩ dL_state_5) hS (fun E ce q9 H locs hE hH hS h1 h2 h3 => ?_) (fun H locs _ nv_ hH hS => ?_)
    · obtain ⟨e7, h7, h8⟩ := hE; cases h7
    · refine g_i2l X nv_ dL_state_8 ?_
      refine g_last X hH hS nv_ dL_state_9 (fun H locs hH hS => ?_)
      refine lv_goto (tgt := 21) X.1 X.2.1 dL_state_10 (by decide) ?_
      refine lv_iconst X.1 X.2.1 dL_state_21 (v := iI 0) rfl ?_
      have hq := Option.some.inj hf; subst hq
      exact gRetXI X hH hS trivial (res := 0) (nmI_l (by decide)) ⟨Nat.le_of_ble_eq_true rfl, Nat.le_of_ble_eq_true rfl⟩ dL_state_22
theorem m_L_result (l : Launch) (hl0 : l.stackTraces = false) (G : gG) (v1 : Int) (nv1 : nmI v1) (v2 : Int) (nv2 : nmI v2) (M0 : gM) (q : (Int × gM)) (hf : f_L_result v1 v2 M0 = some q) : gLMet l yL_result cL_result 5 (some .int) [(0, 10, 13, 27), (0, 10, 17, 13)] 9 157 2 12 G M0 [.ref (gAd G 0 0), .int (iI v1), .int (iI v2), .ref (gAd G 75 0)] (gXi G True q.1 q.2) := by
  refine gOfL (by decide) (by show _ ≤ 5; exact Nat.le_of_ble_eq_true rfl) rfl ?_
  intro p e s m below meth c X Z hT hH ls hl
  replace hl : gLv ls 5 [(0, .ref (gAd G 0 0)), (1, .int (iI v1)), (2, .int (iI v2)), (3, .ref (gAd G 75 0))] := hl
  have hS : va_S (gA G) s.heap s.heap [] := va_S.rf
  generalize hargs : ([.ref (gAd G 0 0), .int (iI v1), .int (iI v2), .ref (gAd G 75 0)] : List Value).toArray = args at X ⊢
  clear hargs
  unfold f_L_result at hf
  refine lv_aload_n X.1 X.2.1 dL_result_0 rfl (lv_at hl.1 3 rfl) ?_
  refine lv_iconst X.1 X.2.1 dL_result_1 (v := iI 0) rfl ?_
  refine lv_aload_n X.1 X.2.1 dL_result_2 rfl (lv_at hl.1 0 rfl) ?_
  refine lv_iload_n X.1 X.2.1 dL_result_3 rfl (lv_at hl.1 1 rfl) ?_
  refine lv_iload_n X.1 X.2.1 dL_result_4 rfl (lv_at hl.1 2 rfl) ?_
  obtain ⟨r5, hq5, hf_⟩ := ob_e hf; clear hf; have hf := hf_; clear hf_
  rcases r5 with e8 | v5_
  · replace hf := ol_l hf
    refine gGoXI (gRunVX X Z hH hS (As := [.int (iI v1), .int (iI v2)]) (m_X11_result l hl0 G v1 nv1 v2 nv2 M0 _ hq5) calX11_result k_1057 k_1058 k_1056 (by decide) cX11 rfl ⟨by decide, by decide⟩ rfl hl rfl (Nat.le_of_ble_eq_true rfl) ⟨Nat.le_of_ble_eq_true rfl, Nat.le_of_ble_eq_true rfl⟩ dL_result_5) hS (fun E ce q9 H locs hE hH hS h1 h2 h3 => ?_) (fun H locs hok _ hH hS => ?_)
    · obtain ⟨e7, h7, h8⟩ := hE
      cases h7
      subst h8
      by_cases he2 : e8 = 2
      · replace hf := it_t hf he2
        subst he2
        refine gOutCatch X Z (e9 := 2) hT [] ⟨0, 10, 13, 27⟩ [⟨0, 10, 17, 13⟩] rfl (fun z hz => nomatch hz) (by decide) (by decide) (by decide) k_663 k_681 h1 h2 h3 ?_
        refine g_astore X (lv' := [(4, .ref q9), (0, .ref (gAd G 0 0)), (1, .int (iI v1)), (2, .int (iI v2)), (3, .ref (gAd G 75 0))]) dL_result_13 hl (by decide) rfl (fun ls hl => ?_)
        refine lv_iconst X.1 X.2.1 dL_result_15 (v := iI 1) rfl ?_
        have hq := Option.some.inj hf; subst hq
        exact gRetXI X hH hS trivial (res := 1) (nmI_l (by decide)) ⟨Nat.le_of_ble_eq_true rfl, Nat.le_of_ble_eq_true rfl⟩ dL_result_16
      · replace hf := it_f hf he2
        by_cases he1 : e8 = 1
        · replace hf := it_t hf he1
          subst he1
          refine gOutCatch X Z (e9 := 1) hT [⟨0, 10, 13, 27⟩] ⟨0, 10, 17, 13⟩ [] rfl (fun z hz => by simp only [List.mem_cons, List.not_mem_nil, or_false] at hz; rcases hz with rfl <;> first | exact ⟨by decide, 2, k_663, by decide, by decide⟩) (by decide) (by decide) (by decide) k_523 k_536 h1 h2 h3 ?_
          refine g_astore X (lv' := [(4, .ref q9), (0, .ref (gAd G 0 0)), (1, .int (iI v1)), (2, .int (iI v2)), (3, .ref (gAd G 75 0))]) dL_result_17 hl (by decide) rfl (fun ls hl => ?_)
          refine lv_iconst X.1 X.2.1 dL_result_19 (v := iI 2) rfl ?_
          have hq := Option.some.inj hf; subst hq
          exact gRetXI X hH hS trivial (res := 2) (nmI_l (by decide)) ⟨Nat.le_of_ble_eq_true rfl, Nat.le_of_ble_eq_true rfl⟩ dL_result_20
        · replace hf := it_f hf he1
          cases hf
    · obtain ⟨z, hz⟩ := hok; cases hz
  · replace hf := ol_r hf
    refine gGoXI (gRunVX X Z hH hS (As := [.int (iI v1), .int (iI v2)]) (m_X11_result l hl0 G v1 nv1 v2 nv2 M0 _ hq5) calX11_result k_1057 k_1058 k_1056 (by decide) cX11 rfl ⟨by decide, by decide⟩ rfl hl rfl (Nat.le_of_ble_eq_true rfl) ⟨Nat.le_of_ble_eq_true rfl, Nat.le_of_ble_eq_true rfl⟩ dL_result_5) hS (fun E ce q9 H locs hE hH hS h1 h2 h3 => ?_) (fun H locs _ nv_ hH hS => ?_)
    · obtain ⟨e7, h7, h8⟩ := hE; cases h7
    · refine g_i2l X nv_ dL_result_8 ?_
      refine g_last X hH hS nv_ dL_result_9 (fun H locs hH hS => ?_)
      refine lv_goto (tgt := 21) X.1 X.2.1 dL_result_10 (by decide) ?_
      refine lv_iconst X.1 X.2.1 dL_result_21 (v := iI 0) rfl ?_
      have hq := Option.some.inj hf; subst hq
      exact gRetXI X hH hS trivial (res := 0) (nmI_l (by decide)) ⟨Nat.le_of_ble_eq_true rfl, Nat.le_of_ble_eq_true rfl⟩ dL_result_22
theorem m_L_about (l : Launch) (hl0 : l.stackTraces = false) (G : gG) (v1 : Int) (nv1 : nmI v1) (v2 : Int) (nv2 : nmI v2) (M0 : gM) (q : (Int × gM)) (hf : f_L_about v1 v2 M0 = some q) : gLMet l yL_about cL_about 5 (some .int) [(0, 10, 13, 27), (0, 10, 17, 13)] 8 163 2 12 G M0 [.ref (gAd G 0 0), .int (iI v1), .int (iI v2), .ref (gAd G 75 0)] (gXi G True q.1 q.2) := by
  refine gOfL (by decide) (by show _ ≤ 5; exact Nat.le_of_ble_eq_true rfl) rfl ?_
  intro p e s m below meth c X Z hT hH ls hl
  replace hl : gLv ls 5 [(0, .ref (gAd G 0 0)), (1, .int (iI v1)), (2, .int (iI v2)), (3, .ref (gAd G 75 0))] := hl
  have hS : va_S (gA G) s.heap s.heap [] := va_S.rf
  generalize hargs : ([.ref (gAd G 0 0), .int (iI v1), .int (iI v2), .ref (gAd G 75 0)] : List Value).toArray = args at X ⊢
  clear hargs
  unfold f_L_about at hf
  refine lv_aload_n X.1 X.2.1 dL_about_0 rfl (lv_at hl.1 3 rfl) ?_
  refine lv_iconst X.1 X.2.1 dL_about_1 (v := iI 0) rfl ?_
  refine lv_aload_n X.1 X.2.1 dL_about_2 rfl (lv_at hl.1 0 rfl) ?_
  refine lv_iload_n X.1 X.2.1 dL_about_3 rfl (lv_at hl.1 1 rfl) ?_
  refine lv_iload_n X.1 X.2.1 dL_about_4 rfl (lv_at hl.1 2 rfl) ?_
  obtain ⟨r5, hq5, hf_⟩ := ob_e hf; clear hf; have hf := hf_; clear hf_
  rcases r5 with e8 | v5_
  · replace hf := ol_l hf
    refine gGoXI (gRunVX X Z hH hS (As := [.int (iI v1), .int (iI v2)]) (m_X11_about l hl0 G v1 nv1 v2 nv2 M0 _ hq5) calX11_about k_1064 k_1065 k_1063 (by decide) cX11 rfl ⟨by decide, by decide⟩ rfl hl rfl (Nat.le_of_ble_eq_true rfl) ⟨Nat.le_of_ble_eq_true rfl, Nat.le_of_ble_eq_true rfl⟩ dL_about_5) hS (fun E ce q9 H locs hE hH hS h1 h2 h3 => ?_) (fun H locs hok _ hH hS => ?_)
    · obtain ⟨e7, h7, h8⟩ := hE
      cases h7
      subst h8
      by_cases he2 : e8 = 2
      · replace hf := it_t hf he2
        subst he2
        refine gOutCatch X Z (e9 := 2) hT [] ⟨0, 10, 13, 27⟩ [⟨0, 10, 17, 13⟩] rfl (fun z hz => nomatch hz) (by decide) (by decide) (by decide) k_663 k_681 h1 h2 h3 ?_
        refine g_astore X (lv' := [(4, .ref q9), (0, .ref (gAd G 0 0)), (1, .int (iI v1)), (2, .int (iI v2)), (3, .ref (gAd G 75 0))]) dL_about_13 hl (by decide) rfl (fun ls hl => ?_)
        refine lv_iconst X.1 X.2.1 dL_about_15 (v := iI 1) rfl ?_
        have hq := Option.some.inj hf; subst hq
        exact gRetXI X hH hS trivial (res := 1) (nmI_l (by decide)) ⟨Nat.le_of_ble_eq_true rfl, Nat.le_of_ble_eq_true rfl⟩ dL_about_16
      · replace hf := it_f hf he2
        by_cases he1 : e8 = 1
        · replace hf := it_t hf he1
          subst he1
          refine gOutCatch X Z (e9 := 1) hT [⟨0, 10, 13, 27⟩] ⟨0, 10, 17, 13⟩ [] rfl (fun z hz => by simp only [List.mem_cons, List.not_mem_nil, or_false] at hz; rcases hz with rfl <;> first | exact ⟨by decide, 2, k_663, by decide, by decide⟩) (by decide) (by decide) (by decide) k_523 k_536 h1 h2 h3 ?_
          refine g_astore X (lv' := [(4, .ref q9), (0, .ref (gAd G 0 0)), (1, .int (iI v1)), (2, .int (iI v2)), (3, .ref (gAd G 75 0))]) dL_about_17 hl (by decide) rfl (fun ls hl => ?_)
          refine lv_iconst X.1 X.2.1 dL_about_19 (v := iI 2) rfl ?_
          have hq := Option.some.inj hf; subst hq
          exact gRetXI X hH hS trivial (res := 2) (nmI_l (by decide)) ⟨Nat.le_of_ble_eq_true rfl, Nat.le_of_ble_eq_true rfl⟩ dL_about_20
        · replace hf := it_f hf he1
          cases hf
    · obtain ⟨z, hz⟩ := hok; cases hz
  · replace hf := ol_r hf
    refine gGoXI (gRunVX X Z hH hS (As := [.int (iI v1), .int (iI v2)]) (m_X11_about l hl0 G v1 nv1 v2 nv2 M0 _ hq5) calX11_about k_1064 k_1065 k_1063 (by decide) cX11 rfl ⟨by decide, by decide⟩ rfl hl rfl (Nat.le_of_ble_eq_true rfl) ⟨Nat.le_of_ble_eq_true rfl, Nat.le_of_ble_eq_true rfl⟩ dL_about_5) hS (fun E ce q9 H locs hE hH hS h1 h2 h3 => ?_) (fun H locs _ nv_ hH hS => ?_)
    · obtain ⟨e7, h7, h8⟩ := hE; cases h7
    · refine g_i2l X nv_ dL_about_8 ?_
      refine g_last X hH hS nv_ dL_about_9 (fun H locs hH hS => ?_)
      refine lv_goto (tgt := 21) X.1 X.2.1 dL_about_10 (by decide) ?_
      refine lv_iconst X.1 X.2.1 dL_about_21 (v := iI 0) rfl ?_
      have hq := Option.some.inj hf; subst hq
      exact gRetXI X hH hS trivial (res := 0) (nmI_l (by decide)) ⟨Nat.le_of_ble_eq_true rfl, Nat.le_of_ble_eq_true rfl⟩ dL_about_22
theorem m_L_proof (l : Launch) (hl0 : l.stackTraces = false) (G : gG) (v1 : Int) (nv1 : nmI v1) (M0 : gM) (q : (Int × gM)) (hf : f_L_proof v1 M0 = some q) : gLMet l yL_proof cL_proof 4 (some .int) [(0, 9, 12, 27), (0, 9, 15, 18)] 8 132 2 12 G M0 [.ref (gAd G 0 0), .int (iI v1), .ref (gAd G 75 0)] (gXi G True q.1 q.2) := by
  refine gOfL (by decide) (by show _ ≤ 4; exact Nat.le_of_ble_eq_true rfl) rfl ?_
  intro p e s m below meth c X Z hT hH ls hl
  replace hl : gLv ls 4 [(0, .ref (gAd G 0 0)), (1, .int (iI v1)), (2, .ref (gAd G 75 0))] := hl
  have hS : va_S (gA G) s.heap s.heap [] := va_S.rf
  generalize hargs : ([.ref (gAd G 0 0), .int (iI v1), .ref (gAd G 75 0)] : List Value).toArray = args at X ⊢
  clear hargs
  unfold f_L_proof at hf
  refine lv_aload_n X.1 X.2.1 dL_proof_0 rfl (lv_at hl.1 2 rfl) ?_
  refine lv_iconst X.1 X.2.1 dL_proof_1 (v := iI 0) rfl ?_
  refine lv_aload_n X.1 X.2.1 dL_proof_2 rfl (lv_at hl.1 0 rfl) ?_
  refine lv_iload_n X.1 X.2.1 dL_proof_3 rfl (lv_at hl.1 1 rfl) ?_
  obtain ⟨r4, hq4, hf_⟩ := ob_e hf; clear hf; have hf := hf_; clear hf_
  rcases r4 with e8 | v4_
  · replace hf := ol_l hf
    refine gGoXI (gRunVX X Z hH hS (As := [.int (iI v1)]) (m_X11_proof l hl0 G v1 nv1 M0 _ hq4) calX11_proof k_1128 k_1129 k_1127 (by decide) cX11 rfl ⟨by decide, by decide⟩ rfl hl rfl (Nat.le_of_ble_eq_true rfl) ⟨Nat.le_of_ble_eq_true rfl, Nat.le_of_ble_eq_true rfl⟩ dL_proof_4) hS (fun E ce q9 H locs hE hH hS h1 h2 h3 => ?_) (fun H locs hok _ hH hS => ?_)
    · obtain ⟨e7, h7, h8⟩ := hE
      cases h7
      subst h8
      by_cases he2 : e8 = 2
      · replace hf := it_t hf he2
        subst he2
        refine gOutCatch X Z (e9 := 2) hT [] ⟨0, 9, 12, 27⟩ [⟨0, 9, 15, 18⟩] rfl (fun z hz => nomatch hz) (by decide) (by decide) (by decide) k_663 k_681 h1 h2 h3 ?_
        refine g_astore_n X (lv' := [(3, .ref q9), (0, .ref (gAd G 0 0)), (1, .int (iI v1)), (2, .ref (gAd G 75 0))]) dL_proof_12 rfl hl (by decide) rfl (fun ls hl => ?_)
        refine lv_iconst X.1 X.2.1 dL_proof_13 (v := iI 1) rfl ?_
        have hq := Option.some.inj hf; subst hq
        exact gRetXI X hH hS trivial (res := 1) (nmI_l (by decide)) ⟨Nat.le_of_ble_eq_true rfl, Nat.le_of_ble_eq_true rfl⟩ dL_proof_14
      · replace hf := it_f hf he2
        by_cases he3 : e8 = 3
        · replace hf := it_t hf he3
          subst he3
          refine gOutCatch X Z (e9 := 3) hT [⟨0, 9, 12, 27⟩] ⟨0, 9, 15, 18⟩ [] rfl (fun z hz => by simp only [List.mem_cons, List.not_mem_nil, or_false] at hz; rcases hz with rfl <;> first | exact ⟨by decide, 2, k_663, by decide, by decide⟩) (by decide) (by decide) (by decide) k_628 k_638 h1 h2 h3 ?_
          refine g_astore_n X (lv' := [(3, .ref q9), (0, .ref (gAd G 0 0)), (1, .int (iI v1)), (2, .ref (gAd G 75 0))]) dL_proof_15 rfl hl (by decide) rfl (fun ls hl => ?_)
          refine lv_iconst X.1 X.2.1 dL_proof_16 (v := iI 2) rfl ?_
          have hq := Option.some.inj hf; subst hq
          exact gRetXI X hH hS trivial (res := 2) (nmI_l (by decide)) ⟨Nat.le_of_ble_eq_true rfl, Nat.le_of_ble_eq_true rfl⟩ dL_proof_17
        · replace hf := it_f hf he3
          cases hf
    · obtain ⟨z, hz⟩ := hok; cases hz
  · replace hf := ol_r hf
    refine gGoXI (gRunVX X Z hH hS (As := [.int (iI v1)]) (m_X11_proof l hl0 G v1 nv1 M0 _ hq4) calX11_proof k_1128 k_1129 k_1127 (by decide) cX11 rfl ⟨by decide, by decide⟩ rfl hl rfl (Nat.le_of_ble_eq_true rfl) ⟨Nat.le_of_ble_eq_true rfl, Nat.le_of_ble_eq_true rfl⟩ dL_proof_4) hS (fun E ce q9 H locs hE hH hS h1 h2 h3 => ?_) (fun H locs _ nv_ hH hS => ?_)
    · obtain ⟨e7, h7, h8⟩ := hE; cases h7
    · refine g_i2l X nv_ dL_proof_7 ?_
      refine g_last X hH hS nv_ dL_proof_8 (fun H locs hH hS => ?_)
      refine lv_goto (tgt := 18) X.1 X.2.1 dL_proof_9 (by decide) ?_
      refine lv_iconst X.1 X.2.1 dL_proof_18 (v := iI 0) rfl ?_
      have hq := Option.some.inj hf; subst hq
      exact gRetXI X hH hS trivial (res := 0) (nmI_l (by decide)) ⟨Nat.le_of_ble_eq_true rfl, Nat.le_of_ble_eq_true rfl⟩ dL_proof_19
theorem m_L_count (l : Launch) (hl0 : l.stackTraces = false) (G : gG) (v1 : Int) (nv1 : nmI v1) (M0 : gM) (q : (Int × gM)) (hf : f_L_count v1 M0 = some q) : gLMet l yL_count cL_count 4 (some .int) [(0, 9, 12, 13)] 8 131 1 6 G M0 [.ref (gAd G 0 0), .int (iI v1), .ref (gAd G 75 0)] (gXi G True q.1 q.2) := by
  refine gOfL (by decide) (by show _ ≤ 4; exact Nat.le_of_ble_eq_true rfl) rfl ?_
  intro p e s m below meth c X Z hT hH ls hl
  replace hl : gLv ls 4 [(0, .ref (gAd G 0 0)), (1, .int (iI v1)), (2, .ref (gAd G 75 0))] := hl
  have hS : va_S (gA G) s.heap s.heap [] := va_S.rf
  generalize hargs : ([.ref (gAd G 0 0), .int (iI v1), .ref (gAd G 75 0)] : List Value).toArray = args at X ⊢
  clear hargs
  unfold f_L_count at hf
  refine lv_aload_n X.1 X.2.1 dL_count_0 rfl (lv_at hl.1 2 rfl) ?_
  refine lv_iconst X.1 X.2.1 dL_count_1 (v := iI 0) rfl ?_
  refine lv_aload_n X.1 X.2.1 dL_count_2 rfl (lv_at hl.1 0 rfl) ?_
  refine lv_iload_n X.1 X.2.1 dL_count_3 rfl (lv_at hl.1 1 rfl) ?_
  obtain ⟨r4, hq4, hf_⟩ := ob_e hf; clear hf; have hf := hf_; clear hf_
  rcases r4 with e8 | v4_
  · replace hf := ol_l hf
    refine gGoXI (gRunVX X Z hH hS (As := [.int (iI v1)]) (m_X11_count l hl0 G v1 nv1 M0 _ hq4) calX11_count k_1153 k_1154 k_1152 (by decide) cX11 rfl ⟨by decide, by decide⟩ rfl hl rfl (Nat.le_of_ble_eq_true rfl) ⟨Nat.le_of_ble_eq_true rfl, Nat.le_of_ble_eq_true rfl⟩ dL_count_4) hS (fun E ce q9 H locs hE hH hS h1 h2 h3 => ?_) (fun H locs hok _ hH hS => ?_)
    · obtain ⟨e7, h7, h8⟩ := hE
      cases h7
      subst h8
      by_cases he1 : e8 = 1
      · replace hf := it_t hf he1
        subst he1
        refine gOutCatch X Z (e9 := 1) hT [] ⟨0, 9, 12, 13⟩ [] rfl (fun z hz => nomatch hz) (by decide) (by decide) (by decide) k_523 k_536 h1 h2 h3 ?_
        refine g_astore_n X (lv' := [(3, .ref q9), (0, .ref (gAd G 0 0)), (1, .int (iI v1)), (2, .ref (gAd G 75 0))]) dL_count_12 rfl hl (by decide) rfl (fun ls hl => ?_)
        refine lv_iconst X.1 X.2.1 dL_count_13 (v := iI 1) rfl ?_
        have hq := Option.some.inj hf; subst hq
        exact gRetXI X hH hS trivial (res := 1) (nmI_l (by decide)) ⟨Nat.le_of_ble_eq_true rfl, Nat.le_of_ble_eq_true rfl⟩ dL_count_14
      · replace hf := it_f hf he1
        cases hf
    · obtain ⟨z, hz⟩ := hok; cases hz
  · replace hf := ol_r hf
    refine gGoXI (gRunVX X Z hH hS (As := [.int (iI v1)]) (m_X11_count l hl0 G v1 nv1 M0 _ hq4) calX11_count k_1153 k_1154 k_1152 (by decide) cX11 rfl ⟨by decide, by decide⟩ rfl hl rfl (Nat.le_of_ble_eq_true rfl) ⟨Nat.le_of_ble_eq_true rfl, Nat.le_of_ble_eq_true rfl⟩ dL_count_4) hS (fun E ce q9 H locs hE hH hS h1 h2 h3 => ?_) (fun H locs _ nv_ hH hS => ?_)
    · obtain ⟨e7, h7, h8⟩ := hE; cases h7
    · refine g_i2l X nv_ dL_count_7 ?_
      refine g_last X hH hS nv_ dL_count_8 (fun H locs hH hS => ?_)
      refine lv_goto (tgt := 15) X.1 X.2.1 dL_count_9 (by decide) ?_
      refine lv_iconst X.1 X.2.1 dL_count_15 (v := iI 0) rfl ?_
      have hq := Option.some.inj hf; subst hq
      exact gRetXI X hH hS trivial (res := 0) (nmI_l (by decide)) ⟨Nat.le_of_ble_eq_true rfl, Nat.le_of_ble_eq_true rfl⟩ dL_count_16
theorem m_L_needed (l : Launch) (hl0 : l.stackTraces = false) (G : gG) (v1 : Int) (nv1 : nmI v1) (M0 : gM) (q : (Int × gM)) (hf : f_L_needed v1 M0 = some q) : gLMet l yL_needed cL_needed 4 (some .int) [(0, 9, 12, 27)] 8 132 1 6 G M0 [.ref (gAd G 0 0), .int (iI v1), .ref (gAd G 75 0)] (gXi G True q.1 q.2) := by
  refine gOfL (by decide) (by show _ ≤ 4; exact Nat.le_of_ble_eq_true rfl) rfl ?_
  intro p e s m below meth c X Z hT hH ls hl
  replace hl : gLv ls 4 [(0, .ref (gAd G 0 0)), (1, .int (iI v1)), (2, .ref (gAd G 75 0))] := hl
  have hS : va_S (gA G) s.heap s.heap [] := va_S.rf
  generalize hargs : ([.ref (gAd G 0 0), .int (iI v1), .ref (gAd G 75 0)] : List Value).toArray = args at X ⊢
  clear hargs
  unfold f_L_needed at hf
  refine lv_aload_n X.1 X.2.1 dL_needed_0 rfl (lv_at hl.1 2 rfl) ?_
  refine lv_iconst X.1 X.2.1 dL_needed_1 (v := iI 0) rfl ?_
  refine lv_aload_n X.1 X.2.1 dL_needed_2 rfl (lv_at hl.1 0 rfl) ?_
  refine lv_iload_n X.1 X.2.1 dL_needed_3 rfl (lv_at hl.1 1 rfl) ?_
  obtain ⟨r4, hq4, hf_⟩ := ob_e hf; clear hf; have hf := hf_; clear hf_
  rcases r4 with e8 | v4_
  · replace hf := ol_l hf
    refine gGoXI (gRunVX X Z hH hS (As := [.int (iI v1)]) (m_X11_needed l hl0 G v1 nv1 M0 _ hq4) calX11_needed k_1160 k_1161 k_1159 (by decide) cX11 rfl ⟨by decide, by decide⟩ rfl hl rfl (Nat.le_of_ble_eq_true rfl) ⟨Nat.le_of_ble_eq_true rfl, Nat.le_of_ble_eq_true rfl⟩ dL_needed_4) hS (fun E ce q9 H locs hE hH hS h1 h2 h3 => ?_) (fun H locs hok _ hH hS => ?_)
    · obtain ⟨e7, h7, h8⟩ := hE
      cases h7
      subst h8
      by_cases he2 : e8 = 2
      · replace hf := it_t hf he2
        subst he2
        refine gOutCatch X Z (e9 := 2) hT [] ⟨0, 9, 12, 27⟩ [] rfl (fun z hz => nomatch hz) (by decide) (by decide) (by decide) k_663 k_681 h1 h2 h3 ?_
        refine g_astore_n X (lv' := [(3, .ref q9), (0, .ref (gAd G 0 0)), (1, .int (iI v1)), (2, .ref (gAd G 75 0))]) dL_needed_12 rfl hl (by decide) rfl (fun ls hl => ?_)
        refine lv_iconst X.1 X.2.1 dL_needed_13 (v := iI 1) rfl ?_
        have hq := Option.some.inj hf; subst hq
        exact gRetXI X hH hS trivial (res := 1) (nmI_l (by decide)) ⟨Nat.le_of_ble_eq_true rfl, Nat.le_of_ble_eq_true rfl⟩ dL_needed_14
      · replace hf := it_f hf he2
        cases hf
    · obtain ⟨z, hz⟩ := hok; cases hz
  · replace hf := ol_r hf
    refine gGoXI (gRunVX X Z hH hS (As := [.int (iI v1)]) (m_X11_needed l hl0 G v1 nv1 M0 _ hq4) calX11_needed k_1160 k_1161 k_1159 (by decide) cX11 rfl ⟨by decide, by decide⟩ rfl hl rfl (Nat.le_of_ble_eq_true rfl) ⟨Nat.le_of_ble_eq_true rfl, Nat.le_of_ble_eq_true rfl⟩ dL_needed_4) hS (fun E ce q9 H locs hE hH hS h1 h2 h3 => ?_) (fun H locs _ nv_ hH hS => ?_)
    · obtain ⟨e7, h7, h8⟩ := hE; cases h7
    · refine g_i2l X nv_ dL_needed_7 ?_
      refine g_last X hH hS nv_ dL_needed_8 (fun H locs hH hS => ?_)
      refine lv_goto (tgt := 15) X.1 X.2.1 dL_needed_9 (by decide) ?_
      refine lv_iconst X.1 X.2.1 dL_needed_15 (v := iI 0) rfl ?_
      have hq := Option.some.inj hf; subst hq
      exact gRetXI X hH hS trivial (res := 0) (nmI_l (by decide)) ⟨Nat.le_of_ble_eq_true rfl, Nat.le_of_ble_eq_true rfl⟩ dL_needed_16
theorem m_L_needing (l : Launch) (hl0 : l.stackTraces = false) (G : gG) (v1 : Int) (nv1 : nmI v1) (M0 : gM) (q : (Int × gM)) (hf : f_L_needing v1 M0 = some q) : gLMet l yL_needing cL_needing 4 (some .int) [(0, 9, 12, 13), (0, 9, 15, 27)] 9 153 2 12 G M0 [.ref (gAd G 0 0), .int (iI v1), .ref (gAd G 75 0)] (gXi G True q.1 q.2) := by
  refine gOfL (by decide) (by show _ ≤ 4; exact Nat.le_of_ble_eq_true rfl) rfl ?_
  intro p e s m below meth c X Z hT hH ls hl
  replace hl : gLv ls 4 [(0, .ref (gAd G 0 0)), (1, .int (iI v1)), (2, .ref (gAd G 75 0))] := hl
  have hS : va_S (gA G) s.heap s.heap [] := va_S.rf
  generalize hargs : ([.ref (gAd G 0 0), .int (iI v1), .ref (gAd G 75 0)] : List Value).toArray = args at X ⊢
  clear hargs
  unfold f_L_needing at hf
  refine lv_aload_n X.1 X.2.1 dL_needing_0 rfl (lv_at hl.1 2 rfl) ?_
  refine lv_iconst X.1 X.2.1 dL_needing_1 (v := iI 0) rfl ?_
  refine lv_aload_n X.1 X.2.1 dL_needing_2 rfl (lv_at hl.1 0 rfl) ?_
  refine lv_iload_n X.1 X.2.1 dL_needing_3 rfl (lv_at hl.1 1 rfl) ?_
  obtain ⟨r4, hq4, hf_⟩ := ob_e hf; clear hf; have hf := hf_; clear hf_
  rcases r4 with e8 | v4_
  · replace hf := ol_l hf
    refine gGoXI (gRunVX X Z hH hS (As := [.int (iI v1)]) (m_X11_needing l hl0 G v1 nv1 M0 _ hq4) calX11_needing k_1167 k_1168 k_1166 (by decide) cX11 rfl ⟨by decide, by decide⟩ rfl hl rfl (Nat.le_of_ble_eq_true rfl) ⟨Nat.le_of_ble_eq_true rfl, Nat.le_of_ble_eq_true rfl⟩ dL_needing_4) hS (fun E ce q9 H locs hE hH hS h1 h2 h3 => ?_) (fun H locs hok _ hH hS => ?_)
    · obtain ⟨e7, h7, h8⟩ := hE
      cases h7
      subst h8
      by_cases he1 : e8 = 1
      · replace hf := it_t hf he1
        subst he1
        refine gOutCatch X Z (e9 := 1) hT [] ⟨0, 9, 12, 13⟩ [⟨0, 9, 15, 27⟩] rfl (fun z hz => nomatch hz) (by decide) (by decide) (by decide) k_523 k_536 h1 h2 h3 ?_
        refine g_astore_n X (lv' := [(3, .ref q9), (0, .ref (gAd G 0 0)), (1, .int (iI v1)), (2, .ref (gAd G 75 0))]) dL_needing_12 rfl hl (by decide) rfl (fun ls hl => ?_)
        refine lv_iconst X.1 X.2.1 dL_needing_13 (v := iI 1) rfl ?_
        have hq := Option.some.inj hf; subst hq
        exact gRetXI X hH hS trivial (res := 1) (nmI_l (by decide)) ⟨Nat.le_of_ble_eq_true rfl, Nat.le_of_ble_eq_true rfl⟩ dL_needing_14
      · replace hf := it_f hf he1
        by_cases he2 : e8 = 2
        · replace hf := it_t hf he2
          subst he2
          refine gOutCatch X Z (e9 := 2) hT [⟨0, 9, 12, 13⟩] ⟨0, 9, 15, 27⟩ [] rfl (fun z hz => by simp only [List.mem_cons, List.not_mem_nil, or_false] at hz; rcases hz with rfl <;> first | exact ⟨by decide, 1, k_523, by decide, by decide⟩) (by decide) (by decide) (by decide) k_663 k_681 h1 h2 h3 ?_
          refine g_astore_n X (lv' := [(3, .ref q9), (0, .ref (gAd G 0 0)), (1, .int (iI v1)), (2, .ref (gAd G 75 0))]) dL_needing_15 rfl hl (by decide) rfl (fun ls hl => ?_)
          refine lv_iconst X.1 X.2.1 dL_needing_16 (v := iI 2) rfl ?_
          have hq := Option.some.inj hf; subst hq
          exact gRetXI X hH hS trivial (res := 2) (nmI_l (by decide)) ⟨Nat.le_of_ble_eq_true rfl, Nat.le_of_ble_eq_true rfl⟩ dL_needing_17
        · replace hf := it_f hf he2
          cases hf
    · obtain ⟨z, hz⟩ := hok; cases hz
  · replace hf := ol_r hf
    refine gGoXI (gRunVX X Z hH hS (As := [.int (iI v1)]) (m_X11_needing l hl0 G v1 nv1 M0 _ hq4) calX11_needing k_1167 k_1168 k_1166 (by decide) cX11 rfl ⟨by decide, by decide⟩ rfl hl rfl (Nat.le_of_ble_eq_true rfl) ⟨Nat.le_of_ble_eq_true rfl, Nat.le_of_ble_eq_true rfl⟩ dL_needing_4) hS (fun E ce q9 H locs hE hH hS h1 h2 h3 => ?_) (fun H locs _ nv_ hH hS => ?_)
    · obtain ⟨e7, h7, h8⟩ := hE; cases h7
    · refine g_i2l X nv_ dL_needing_7 ?_
      refine g_last X hH hS nv_ dL_needing_8 (fun H locs hH hS => ?_)
      refine lv_goto (tgt := 18) X.1 X.2.1 dL_needing_9 (by decide) ?_
      refine lv_iconst X.1 X.2.1 dL_needing_18 (v := iI 0) rfl ?_
      have hq := Option.some.inj hf; subst hq
      exact gRetXI X hH hS trivial (res := 0) (nmI_l (by decide)) ⟨Nat.le_of_ble_eq_true rfl, Nat.le_of_ble_eq_true rfl⟩ dL_needing_19
theorem m_L_steps (l : Launch) (hl0 : l.stackTraces = false) (G : gG) (v1 : Int) (nv1 : nmI v1) (v2 : Int) (nv2 : nmI v2) (M0 : gM) (q : (Int × gM)) (hf : f_L_steps v1 v2 M0 = some q) : gLMet l yL_steps cL_steps 5 (some .int) [(0, 10, 13, 27)] 8 133 2 12 G M0 [.ref (gAd G 0 0), .int (iI v1), .int (iI v2), .ref (gAd G 75 0)] (gXi G True q.1 q.2) := by
  refine gOfL (by decide) (by show _ ≤ 5; exact Nat.le_of_ble_eq_true rfl) rfl ?_
  intro p e s m below meth c X Z hT hH ls hl
  replace hl : gLv ls 5 [(0, .ref (gAd G 0 0)), (1, .int (iI v1)), (2, .int (iI v2)), (3, .ref (gAd G 75 0))] := hl
  have hS : va_S (gA G) s.heap s.heap [] := va_S.rf
  generalize hargs : ([.ref (gAd G 0 0), .int (iI v1), .int (iI v2), .ref (gAd G 75 0)] : List Value).toArray = args at X ⊢
  clear hargs
  unfold f_L_steps at hf
  refine lv_aload_n X.1 X.2.1 dL_steps_0 rfl (lv_at hl.1 3 rfl) ?_
  refine lv_iconst X.1 X.2.1 dL_steps_1 (v := iI 0) rfl ?_
  refine lv_aload_n X.1 X.2.1 dL_steps_2 rfl (lv_at hl.1 0 rfl) ?_
  refine lv_iload_n X.1 X.2.1 dL_steps_3 rfl (lv_at hl.1 1 rfl) ?_
  refine lv_iload_n X.1 X.2.1 dL_steps_4 rfl (lv_at hl.1 2 rfl) ?_
  obtain ⟨r5, hq5, hf_⟩ := ob_e hf; clear hf; have hf := hf_; clear hf_
  rcases r5 with e8 | v5_
  · replace hf := ol_l hf
    refine gGoXI (gRunVX X Z hH hS (As := [.int (iI v1), .int (iI v2)]) (m_X11_steps l hl0 G v1 nv1 v2 nv2 M0 _ hq5) calX11_steps k_1182 k_1183 k_1181 (by decide) cX11 rfl ⟨by decide, by decide⟩ rfl hl rfl (Nat.le_of_ble_eq_true rfl) ⟨Nat.le_of_ble_eq_true rfl, Nat.le_of_ble_eq_true rfl⟩ dL_steps_5) hS (fun E ce q9 H locs hE hH hS h1 h2 h3 => ?_) (fun H locs hok _ hH hS => ?_)
    · obtain ⟨e7, h7, h8⟩ := hE
      cases h7
      subst h8
      by_cases he2 : e8 = 2
      · replace hf := it_t hf he2
        subst he2
        refine gOutCatch X Z (e9 := 2) hT [] ⟨0, 10, 13, 27⟩ [] rfl (fun z hz => nomatch hz) (by decide) (by decide) (by decide) k_663 k_681 h1 h2 h3 ?_
        refine g_astore X (lv' := [(4, .ref q9), (0, .ref (gAd G 0 0)), (1, .int (iI v1)), (2, .int (iI v2)), (3, .ref (gAd G 75 0))]) dL_steps_13 hl (by decide) rfl (fun ls hl => ?_)
        refine lv_iconst X.1 X.2.1 dL_steps_15 (v := iI 1) rfl ?_
        have hq := Option.some.inj hf; subst hq
        exact gRetXI X hH hS trivial (res := 1) (nmI_l (by decide)) ⟨Nat.le_of_ble_eq_true rfl, Nat.le_of_ble_eq_true rfl⟩ dL_steps_16
      · replace hf := it_f hf he2
        cases hf
    · obtain ⟨z, hz⟩ := hok; cases hz
  · replace hf := ol_r hf
    refine gGoXI (gRunVX X Z hH hS (As := [.int (iI v1), .int (iI v2)]) (m_X11_steps l hl0 G v1 nv1 v2 nv2 M0 _ hq5) calX11_steps k_1182 k_1183 k_1181 (by decide) cX11 rfl ⟨by decide, by decide⟩ rfl hl rfl (Nat.le_of_ble_eq_true rfl) ⟨Nat.le_of_ble_eq_true rfl, Nat.le_of_ble_eq_true rfl⟩ dL_steps_5) hS (fun E ce q9 H locs hE hH hS h1 h2 h3 => ?_) (fun H locs _ nv_ hH hS => ?_)
    · obtain ⟨e7, h7, h8⟩ := hE; cases h7
    · refine g_i2l X nv_ dL_steps_8 ?_
      refine g_last X hH hS nv_ dL_steps_9 (fun H locs hH hS => ?_)
      refine lv_goto (tgt := 17) X.1 X.2.1 dL_steps_10 (by decide) ?_
      refine lv_iconst X.1 X.2.1 dL_steps_17 (v := iI 0) rfl ?_
      have hq := Option.some.inj hf; subst hq
      exact gRetXI X hH hS trivial (res := 0) (nmI_l (by decide)) ⟨Nat.le_of_ble_eq_true rfl, Nat.le_of_ble_eq_true rfl⟩ dL_steps_18
theorem m_L_bisect (l : Launch) (hl0 : l.stackTraces = false) (G : gG) (v1 : Int) (nv1 : nmI v1) (M0 : gM) (q : (Int × gM)) (hf : f_L_bisect v1 M0 = some q) : gLMet l yL_bisect cL_bisect 4 (some .int) [(0, 9, 12, 27)] 8 185 1 6 G M0 [.ref (gAd G 0 0), .int (iI v1), .ref (gAd G 75 0)] (gXi G True q.1 q.2) := by
  refine gOfL (by decide) (by show _ ≤ 4; exact Nat.le_of_ble_eq_true rfl) rfl ?_
  intro p e s m below meth c X Z hT hH ls hl
  replace hl : gLv ls 4 [(0, .ref (gAd G 0 0)), (1, .int (iI v1)), (2, .ref (gAd G 75 0))] := hl
  have hS : va_S (gA G) s.heap s.heap [] := va_S.rf
  generalize hargs : ([.ref (gAd G 0 0), .int (iI v1), .ref (gAd G 75 0)] : List Value).toArray = args at X ⊢
  clear hargs
  unfold f_L_bisect at hf
  refine lv_aload_n X.1 X.2.1 dL_bisect_0 rfl (lv_at hl.1 2 rfl) ?_
  refine lv_iconst X.1 X.2.1 dL_bisect_1 (v := iI 0) rfl ?_
  refine lv_aload_n X.1 X.2.1 dL_bisect_2 rfl (lv_at hl.1 0 rfl) ?_
  refine lv_iload_n X.1 X.2.1 dL_bisect_3 rfl (lv_at hl.1 1 rfl) ?_
  obtain ⟨r4, hq4, hf_⟩ := ob_e hf; clear hf; have hf := hf_; clear hf_
  rcases r4 with e8 | v4_
  · replace hf := ol_l hf
    refine gGoXI (gRunVX X Z hH hS (As := [.int (iI v1)]) (m_X11_bisect l hl0 G v1 nv1 M0 _ hq4) calX11_bisect k_1197 k_1198 k_1196 (by decide) cX11 rfl ⟨by decide, by decide⟩ rfl hl rfl (Nat.le_of_ble_eq_true rfl) ⟨Nat.le_of_ble_eq_true rfl, Nat.le_of_ble_eq_true rfl⟩ dL_bisect_4) hS (fun E ce q9 H locs hE hH hS h1 h2 h3 => ?_) (fun H locs hok _ hH hS => ?_)
    · obtain ⟨e7, h7, h8⟩ := hE
      cases h7
      subst h8
      by_cases he2 : e8 = 2
      · replace hf := it_t hf he2
        subst he2
        refine gOutCatch X Z (e9 := 2) hT [] ⟨0, 9, 12, 27⟩ [] rfl (fun z hz => nomatch hz) (by decide) (by decide) (by decide) k_663 k_681 h1 h2 h3 ?_
        refine g_astore_n X (lv' := [(3, .ref q9), (0, .ref (gAd G 0 0)), (1, .int (iI v1)), (2, .ref (gAd G 75 0))]) dL_bisect_12 rfl hl (by decide) rfl (fun ls hl => ?_)
        refine lv_iconst X.1 X.2.1 dL_bisect_13 (v := iI 1) rfl ?_
        have hq := Option.some.inj hf; subst hq
        exact gRetXI X hH hS trivial (res := 1) (nmI_l (by decide)) ⟨Nat.le_of_ble_eq_true rfl, Nat.le_of_ble_eq_true rfl⟩ dL_bisect_14
      · replace hf := it_f hf he2
        cases hf
    · obtain ⟨z, hz⟩ := hok; cases hz
  · replace hf := ol_r hf
    refine gGoXI (gRunVX X Z hH hS (As := [.int (iI v1)]) (m_X11_bisect l hl0 G v1 nv1 M0 _ hq4) calX11_bisect k_1197 k_1198 k_1196 (by decide) cX11 rfl ⟨by decide, by decide⟩ rfl hl rfl (Nat.le_of_ble_eq_true rfl) ⟨Nat.le_of_ble_eq_true rfl, Nat.le_of_ble_eq_true rfl⟩ dL_bisect_4) hS (fun E ce q9 H locs hE hH hS h1 h2 h3 => ?_) (fun H locs _ nv_ hH hS => ?_)
    · obtain ⟨e7, h7, h8⟩ := hE; cases h7
    · refine g_i2l X nv_ dL_bisect_7 ?_
      refine g_last X hH hS nv_ dL_bisect_8 (fun H locs hH hS => ?_)
      refine lv_goto (tgt := 15) X.1 X.2.1 dL_bisect_9 (by decide) ?_
      refine lv_iconst X.1 X.2.1 dL_bisect_15 (v := iI 0) rfl ?_
      have hq := Option.some.inj hf; subst hq
      exact gRetXI X hH hS trivial (res := 0) (nmI_l (by decide)) ⟨Nat.le_of_ble_eq_true rfl, Nat.le_of_ble_eq_true rfl⟩ dL_bisect_16
