theorem m_X10_beganWith (l : Launch) (G : gG) (i0 : Nat) (hi0 : i0 < 4) (v1 : Int) (nv1 : nmI v1) (v2 : Int) (nv2 : nmI v2) (M : gM) (q : (Int)) (hf : f_X10_beganWith i0 v1 v2 M = q) : gMet l yX10_beganWith cX10_beganWith 3 (some .boolean) 0 0 G M [.ref (gAd G 11 i0), .int (iI v1), .int (iI v2)] (gQz G q M) := by
  refine gOfW (by decide) (by show _ ≤ 3; exact Nat.le_of_ble_eq_true rfl) rfl ?_
  intro p e s m below meth c X hH ls hl
  replace hl : gLv ls 3 [(0, .ref (gAd G 11 i0)), (1, .int (iI v1)), (2, .int (iI v2))] := hl
  have hS : va_S (gA G) s.heap s.heap [] := va_S.rf
  generalize hargs : ([.ref (gAd G 11 i0), .int (iI v1), .int (iI v2)] : List Value).toArray = args at X ⊢
  clear hargs
  unfold f_X10_beganWith at hf
  refine lv_aload_n X.1 X.2.1 dX10_beganWith_0 rfl (lv_at hl.1 0 rfl) ?_
  have nd1 : nmI (M 11 i0 4) := hH.1.1 _ _ _
  refine g_get X cX10 hH (r := 11) (i := i0) hi0 rfl 4 (by decide) k_356 rfl (v := .int (iI (M 11 i0 4))) rfl dX10_beganWith_1 ?_
  refine lv_iload_n X.1 X.2.1 dX10_beganWith_4 rfl (lv_at hl.1 1 rfl) ?_
  refine g_icmp_ne X nd1 nv1 (tgt := 20) dX10_beganWith_5 (by decide) (fun hc5 => ?_) (fun hc5 => ?_)
  · replace hf := it_f hf hc5
    refine lv_iconst X.1 X.2.1 dX10_beganWith_20 (v := iI 0) rfl ?_
    subst hf
    exact gRetZ X hH hS (res := 0) (by decide) dX10_beganWith_21
  · replace hf := it_t hf hc5
    refine lv_aload_n X.1 X.2.1 dX10_beganWith_8 rfl (lv_at hl.1 0 rfl) ?_
    have nd9 : nmI (M 11 i0 5) := hH.1.1 _ _ _
    refine g_get X cX10 hH (r := 11) (i := i0) hi0 rfl 5 (by decide) k_358 rfl (v := .int (iI (M 11 i0 5))) rfl dX10_beganWith_9 ?_
    refine lv_iload_n X.1 X.2.1 dX10_beganWith_12 rfl (lv_at hl.1 2 rfl) ?_
    refine g_icmp_ne X nd9 nv2 (tgt := 20) dX10_beganWith_13 (by decide) (fun hc13 => ?_) (fun hc13 => ?_)
    · replace hf := it_f hf hc13
      refine lv_iconst X.1 X.2.1 dX10_beganWith_20 (v := iI 0) rfl ?_
      subst hf
      exact gRetZ X hH hS (res := 0) (by decide) dX10_beganWith_21
    · replace hf := it_t hf hc13
      refine lv_iconst X.1 X.2.1 dX10_beganWith_16 (v := iI 1) rfl ?_
      refine lv_goto (tgt := 21) X.1 X.2.1 dX10_beganWith_17 (by decide) ?_
      subst hf
      exact gRetZ X hH hS (res := 1) (by decide) dX10_beganWith_21
theorem m_X11_resultOf (l : Launch) (G : gG) (v0 : Int) (nv0 : nmI v0) (v1 : Int) (nv1 : nmI v1) (M : gM) (q : (Int)) (hf : f_X11_resultOf v0 v1 M = q) : gMet l yX11_resultOf cX11_resultOf 2 (some .int) 1 21 G M [.int (iI v0), .int (iI v1)] (gQi G q M) := by
  refine gOfW (by decide) (by show _ ≤ 2; exact Nat.le_of_ble_eq_true rfl) rfl ?_
  intro p e s m below meth c X hH ls hl
  replace hl : gLv ls 2 [(0, .int (iI v0)), (1, .int (iI v1))] := hl
  have hS : va_S (gA G) s.heap s.heap [] := va_S.rf
  generalize hargs : ([.int (iI v0), .int (iI v1)] : List Value).toArray = args at X ⊢
  clear hargs
  unfold f_X11_resultOf at hf
  refine lv_iload_n X.1 X.2.1 dX11_resultOf_0 rfl (lv_at hl.1 1 rfl) ?_
  refine lv_iconst X.1 X.2.1 dX11_resultOf_1 (v := iI (-1)) rfl ?_
  refine g_icmp_ne X nv1 (nmI_l (by decide)) (tgt := 9) dX11_resultOf_2 (by decide) (fun hc2 => ?_) (fun hc2 => ?_)
  · replace hf := it_f hf hc2
    refine lv_iload_n X.1 X.2.1 dX11_resultOf_9 rfl (lv_at hl.1 0 rfl) ?_
    refine lv_iload_n X.1 X.2.1 dX11_resultOf_10 rfl (lv_at hl.1 1 rfl) ?_
    refine gGoI (gRunS X hH (As := [.int (iI v0), .int (iI v1)]) (m_X11_plus l G v0 nv0 v1 nv1 M _ rfl) calX11_plus k_704 k_905 ⟨by decide, by decide⟩ rfl hl rfl (Nat.le_of_ble_eq_true rfl) ⟨Nat.le_of_ble_eq_true rfl, Nat.le_of_ble_eq_true rfl⟩ dX11_resultOf_11) hS (fun H locs nr11 hH hS => ?_)
    subst hf
    exact gRetI X hH hS (res := (f_X11_plus v0 v1 M)) nr11 dX11_resultOf_14
  · replace hf := it_t hf hc2
    refine lv_iload_n X.1 X.2.1 dX11_resultOf_5 rfl (lv_at hl.1 0 rfl) ?_
    refine lv_goto (tgt := 14) X.1 X.2.1 dX11_resultOf_6 (by decide) ?_
    subst hf
    exact gRetI X hH hS (res := v0) nv0 dX11_resultOf_14
theorem m_X10_resultMade (l : Launch) (G : gG) (i0 : Nat) (hi0 : i0 < 4) (M : gM) (q : (Int)) (hf : f_X10_resultMade i0 M = q) : gMet l yX10_resultMade cX10_resultMade 1 (some .int) 2 42 G M [.ref (gAd G 11 i0)] (gQi G q M) := by
  refine gOfW (by decide) (by show _ ≤ 1; exact Nat.le_of_ble_eq_true rfl) rfl ?_
  intro p e s m below meth c X hH ls hl
  replace hl : gLv ls 1 [(0, .ref (gAd G 11 i0))] := hl
  have hS : va_S (gA G) s.heap s.heap [] := va_S.rf
  generalize hargs : ([.ref (gAd G 11 i0)] : List Value).toArray = args at X ⊢
  clear hargs
  unfold f_X10_resultMade at hf
  refine lv_aload_n X.1 X.2.1 dX10_resultMade_0 rfl (lv_at hl.1 0 rfl) ?_
  have nd1 : nmI (M 11 i0 4) := hH.1.1 _ _ _
  refine g_get X cX10 hH (r := 11) (i := i0) hi0 rfl 4 (by decide) k_356 rfl (v := .int (iI (M 11 i0 4))) rfl dX10_resultMade_1 ?_
  refine lv_aload_n X.1 X.2.1 dX10_resultMade_4 rfl (lv_at hl.1 0 rfl) ?_
  have nd5 : nmI (M 11 i0 5) := hH.1.1 _ _ _
  refine g_get X cX10 hH (r := 11) (i := i0) hi0 rfl 5 (by decide) k_358 rfl (v := .int (iI (M 11 i0 5))) rfl dX10_resultMade_5 ?_
  refine gGoI (gRunSN X hH (As := [.int (iI (M 11 i0 4)), .int (iI (M 11 i0 5))]) (m_X11_resultOf l G (M 11 i0 4) nd1 (M 11 i0 5) nd5 M _ rfl) calX11_resultOf k_903 k_902 ⟨by decide, by decide⟩ rfl hl rfl (Nat.le_of_ble_eq_true rfl) ⟨Nat.le_of_ble_eq_true rfl, Nat.le_of_ble_eq_true rfl⟩ dX10_resultMade_8) hS (fun H locs nr8 hH hS => ?_)
  subst hf
  exact gRetI X hH hS (res := (f_X11_resultOf (M 11 i0 4) (M 11 i0 5) M)) nr8 dX10_resultMade_11
theorem m_X8_isGoodResult (l : Launch) (G : gG) (i0 : Nat) (hi0 : i0 < 15) (v1 : Int) (nv1 : nmI v1) (M : gM) (q : (Int)) (hf : f_X8_isGoodResult i0 v1 M = q) : gMet l yX8_isGoodResult cX8_isGoodResult 2 (some .boolean) 0 0 G M [.ref (gAd G 7 i0), .int (iI v1)] (gQz G q M) := by
  refine gOfW (by decide) (by show _ ≤ 2; exact Nat.le_of_ble_eq_true rfl) rfl ?_
  intro p e s m below meth c X hH ls hl
  replace hl : gLv ls 2 [(0, .ref (gAd G 7 i0)), (1, .int (iI v1))] := hl
  have hS : va_S (gA G) s.heap s.heap [] := va_S.rf
  generalize hargs : ([.ref (gAd G 7 i0), .int (iI v1)] : List Value).toArray = args at X ⊢
  clear hargs
  unfold f_X8_isGoodResult at hf
  refine lv_aload_n X.1 X.2.1 dX8_isGoodResult_0 rfl (lv_at hl.1 0 rfl) ?_
  have nd1 : nmI (M 7 i0 3) := hH.1.1 _ _ _
  refine g_get X cX8 hH (r := 7) (i := i0) hi0 rfl 3 (by decide) k_189 rfl (v := .int (iI (M 7 i0 3))) rfl dX8_isGoodResult_1 ?_
  refine lv_iconst X.1 X.2.1 dX8_isGoodResult_4 (v := iI 2) rfl ?_
  obtain ⟨k14, ek14, hf_⟩ := oj_e hf; clear hf; have hf := hf_; clear hf_
  have hk14 : k14 = q → ∀ (H : Heap) (locs : List Loc) (ls : Array Slot), gH G M H → va_S (gA G) s.heap H locs → gLv ls 2 [] → W p l e { frames := 0, cells := 0, slots := 0, locals := 0 } s m args below meth c H locs 0 0 (MQ below (gQz G q M) args s 0 0 (gA G)) (F0 m 14 ls []) := by
    intro  hf H locs ls hH hS hl
    subst ek14
    refine lv_iconst X.1 X.2.1 dX8_isGoodResult_14 (v := iI 1) rfl ?_
    refine lv_goto (tgt := 19) X.1 X.2.1 dX8_isGoodResult_15 (by decide) ?_
    subst hf
    exact gRetZ X hH hS (res := 1) (by decide) dX8_isGoodResult_19
  clear ek14
  refine g_icmp_ne X nd1 (nmI_l (by decide)) (tgt := 14) dX8_isGoodResult_5 (by decide) (fun hc5 => ?_) (fun hc5 => ?_)
  · replace hf := it_f hf hc5
    exact hk14  hf _ _ _ hH hS (gLv_sub hl [] rfl)
  · replace hf := it_t hf hc5
    refine lv_iload_n X.1 X.2.1 dX8_isGoodResult_8 rfl (lv_at hl.1 1 rfl) ?_
    refine lv_iconst X.1 X.2.1 dX8_isGoodResult_9 (v := iI 4) rfl ?_
    refine g_irem X nv1 (nmI_l (by decide)) (by decide) dX8_isGoodResult_10 ?_
    refine g_if_eq X (nmI_rem _ _) (tgt := 18) dX8_isGoodResult_11 (by decide) (fun hc11 => ?_) (fun hc11 => ?_)
    · replace hf := it_t hf hc11
      refine lv_iconst X.1 X.2.1 dX8_isGoodResult_18 (v := iI 0) rfl ?_
      subst hf
      exact gRetZ X hH hS (res := 0) (by decide) dX8_isGoodResult_19
    · replace hf := it_f hf hc11
      exact hk14  hf _ _ _ hH hS (gLv_sub hl [] rfl)
theorem m_X8_failsAt (l : Launch) (G : gG) (i0 : Nat) (hi0 : i0 < 15) (v1 : Int) (nv1 : nmI v1) (v2 : Int) (nv2 : nmI v2) (M : gM) (q : (Int)) (hf : f_X8_failsAt i0 v1 v2 M = q) : gMet l yX8_failsAt cX8_failsAt 3 (some .boolean) 1 21 G M [.ref (gAd G 7 i0), .int (iI v1), .int (iI v2)] (gQz G q M) := by
  refine gOfW (by decide) (by show _ ≤ 3; exact Nat.le_of_ble_eq_true rfl) rfl ?_
  intro p e s m below meth c X hH ls hl
  replace hl : gLv ls 3 [(0, .ref (gAd G 7 i0)), (1, .int (iI v1)), (2, .int (iI v2))] := hl
  have hS : va_S (gA G) s.heap s.heap [] := va_S.rf
  generalize hargs : ([.ref (gAd G 7 i0), .int (iI v1), .int (iI v2)] : List Value).toArray = args at X ⊢
  clear hargs
  unfold f_X8_failsAt at hf
  refine lv_aload_n X.1 X.2.1 dX8_failsAt_0 rfl (lv_at hl.1 0 rfl) ?_
  refine lv_iload_n X.1 X.2.1 dX8_failsAt_1 rfl (lv_at hl.1 2 rfl) ?_
  refine gGoZ (gRunV X hH (As := [.int (iI v2)]) (m_X8_isGoodResult l G i0 hi0 v2 nv2 M _ rfl) calX8_isGoodResult k_911 k_912 k_910 hi0 cX8 rfl ⟨by decide, by decide⟩ rfl hl rfl (Nat.le_of_ble_eq_true rfl) ⟨Nat.le_of_ble_eq_true rfl, Nat.le_of_ble_eq_true rfl⟩ dX8_failsAt_2) hS (fun H locs br2 hH hS => ?_)
  obtain ⟨k22, ek22, hf_⟩ := oj_e hf; clear hf; have hf := hf_; clear hf_
  have hk22 : k22 = q → ∀ (H : Heap) (locs : List Loc) (ls : Array Slot), gH G M H → va_S (gA G) s.heap H locs → gLv ls 3 [] → W p l e { frames := 1, cells := 0, slots := 0, locals := 21 } s m args below meth c H locs 0 0 (MQ below (gQz G q M) args s 0 0 (gA G)) (F0 m 22 ls []) := by
    intro  hf H locs ls hH hS hl
    subst ek22
    refine lv_iconst X.1 X.2.1 dX8_failsAt_22 (v := iI 1) rfl ?_
    refine lv_goto (tgt := 27) X.1 X.2.1 dX8_failsAt_23 (by decide) ?_
    subst hf
    exact gRetZ X hH hS (res := 1) (by decide) dX8_failsAt_27
  clear ek22
  refine g_if_eq X (nmI_b br2) (tgt := 22) dX8_failsAt_5 (by decide) (fun hc5 => ?_) (fun hc5 => ?_)
  · replace hf := it_t hf hc5
    exact hk22  hf _ _ _ hH hS (gLv_sub hl [] rfl)
  · replace hf := it_f hf hc5
    refine lv_iconst X.1 X.2.1 dX8_failsAt_8 (v := iI 3) rfl ?_
    refine lv_iload_n X.1 X.2.1 dX8_failsAt_9 rfl (lv_at hl.1 1 rfl) ?_
    refine g_imul X dX8_failsAt_10 ?_
    refine lv_iload_n X.1 X.2.1 dX8_failsAt_11 rfl (lv_at hl.1 2 rfl) ?_
    refine g_iadd X dX8_failsAt_12 ?_
    refine lv_iconst X.1 X.2.1 dX8_failsAt_13 (v := iI 5) rfl ?_
    refine g_irem X (nmI_w _) (nmI_l (by decide)) (by decide) dX8_failsAt_14 ?_
    refine lv_aload_n X.1 X.2.1 dX8_failsAt_15 rfl (lv_at hl.1 0 rfl) ?_
    have nd16 : nmI (M 7 i0 8) := hH.1.1 _ _ _
    refine g_get X cX8 hH (r := 7) (i := i0) hi0 rfl 8 (by decide) k_206 rfl (v := .int (iI (M 7 i0 8))) rfl dX8_failsAt_16 ?_
    refine g_icmp_ge X (nmI_rem _ _) nd16 (tgt := 26) dX8_failsAt_19 (by decide) (fun hc19 => ?_) (fun hc19 => ?_)
    · replace hf := it_f hf hc19
      refine lv_iconst X.1 X.2.1 dX8_failsAt_26 (v := iI 0) rfl ?_
      subst hf
      exact gRetZ X hH hS (res := 0) (by decide) dX8_failsAt_27
    · replace hf := it_t hf hc19
      exact hk22  hf _ _ _ hH hS (gLv_sub hl [] rfl)
theorem m_X8_isInQuarantine (l : Launch) (G : gG) (i0 : Nat) (hi0 : i0 < 15) (M : gM) (q : (Int)) (hf : f_X8_isInQuarantine i0 M = q) : gMet l yX8_isInQuarantine cX8_isInQuarantine 1 (some .boolean) 0 0 G M [.ref (gAd G 7 i0)] (gQz G q M) := by
  refine gOfW (by decide) (by show _ ≤ 1; exact Nat.le_of_ble_eq_true rfl) rfl ?_
  intro p e s m below meth c X hH ls hl
  replace hl : gLv ls 1 [(0, .ref (gAd G 7 i0))] := hl
  have hS : va_S (gA G) s.heap s.heap [] := va_S.rf
  generalize hargs : ([.ref (gAd G 7 i0)] : List Value).toArray = args at X ⊢
  clear hargs
  unfold f_X8_isInQuarantine at hf
  refine lv_aload_n X.1 X.2.1 dX8_isInQuarantine_0 rfl (lv_at hl.1 0 rfl) ?_
  have nd1 : nmI (M 7 i0 11) := hH.1.1 _ _ _
  refine g_get X cX8 hH (r := 7) (i := i0) hi0 rfl 11 (by decide) k_213 rfl (v := .int (iI (M 7 i0 11))) rfl dX8_isInQuarantine_1 ?_
  refine lv_iconst X.1 X.2.1 dX8_isInQuarantine_4 (v := iI 1) rfl ?_
  refine g_icmp_le X nd1 (nmI_l (by decide)) (tgt := 12) dX8_isInQuarantine_5 (by decide) (fun hc5 => ?_) (fun hc5 => ?_)
  · replace hf := it_f hf hc5
    refine lv_iconst X.1 X.2.1 dX8_isInQuarantine_12 (v := iI 0) rfl ?_
    subst hf
    exact gRetZ X hH hS (res := 0) (by decide) dX8_isInQuarantine_13
  · replace hf := it_t hf hc5
    refine lv_iconst X.1 X.2.1 dX8_isInQuarantine_8 (v := iI 1) rfl ?_
    refine lv_goto (tgt := 13) X.1 X.2.1 dX8_isInQuarantine_9 (by decide) ?_
    subst hf
    exact gRetZ X hH hS (res := 1) (by decide) dX8_isInQuarantine_13
theorem m_X8_noteFlakeIn (l : Launch) (G : gG) (i0 : Nat) (hi0 : i0 < 15) (v1 : Int) (nv1 : nmI v1) (M : gM) (q : gM) (hf : f_X8_noteFlakeIn i0 v1 M = q) : gMet l yX8_noteFlakeIn cX8_noteFlakeIn 2 none 0 0 G M [.ref (gAd G 7 i0), .int (iI v1)] (gQv G q) := by
  refine gOfW (by decide) (by show _ ≤ 2; exact Nat.le_of_ble_eq_true rfl) rfl ?_
  intro p e s m below meth c X hH ls hl
  replace hl : gLv ls 2 [(0, .ref (gAd G 7 i0)), (1, .int (iI v1))] := hl
  have hS : va_S (gA G) s.heap s.heap [] := va_S.rf
  generalize hargs : ([.ref (gAd G 7 i0), .int (iI v1)] : List Value).toArray = args at X ⊢
  clear hargs
  unfold f_X8_noteFlakeIn at hf
  refine lv_aload_n X.1 X.2.1 dX8_noteFlakeIn_0 rfl (lv_at hl.1 0 rfl) ?_
  have nd1 : nmI (M 7 i0 12) := hH.1.1 _ _ _
  refine g_get X cX8 hH (r := 7) (i := i0) hi0 rfl 12 (by decide) k_214 rfl (v := .int (iI (M 7 i0 12))) rfl dX8_noteFlakeIn_1 ?_
  refine lv_iload_n X.1 X.2.1 dX8_noteFlakeIn_4 rfl (lv_at hl.1 1 rfl) ?_
  refine g_icmp_eq X nd1 nv1 (tgt := 23) dX8_noteFlakeIn_5 (by decide) (fun hc5 => ?_) (fun hc5 => ?_)
  · replace hf := it_t hf hc5
    subst hf
    exact gRetV X hH hS dX8_noteFlakeIn_23
  · replace hf := it_f hf hc5
    refine lv_aload_n X.1 X.2.1 dX8_noteFlakeIn_8 rfl (lv_at hl.1 0 rfl) ?_
    refine lv_iload_n X.1 X.2.1 dX8_noteFlakeIn_9 rfl (lv_at hl.1 1 rfl) ?_
    refine g_putI X cX8 hH hS (r := 7) (i := i0) hi0 rfl 12 (by decide) k_214 rfl rfl rfl (Nat.le_of_ble_eq_true rfl) (x := v1) nv1 rfl rfl rfl dX8_noteFlakeIn_10 (fun H locs hH hS => ?_)
    refine lv_aload_n X.1 X.2.1 dX8_noteFlakeIn_13 rfl (lv_at hl.1 0 rfl) ?_
    refine lv_dup X.1 X.2.1 dX8_noteFlakeIn_14 rfl ?_
    have nd15 : nmI ((gU M 7 i0 12 v1) 7 i0 11) := hH.1.1 _ _ _
    refine g_get X cX8 hH (r := 7) (i := i0) hi0 rfl 11 (by decide) k_213 rfl (v := .int (iI ((gU M 7 i0 12 v1) 7 i0 11))) rfl dX8_noteFlakeIn_15 ?_
    refine lv_iconst X.1 X.2.1 dX8_noteFlakeIn_18 (v := iI 1) rfl ?_
    refine g_iadd X dX8_noteFlakeIn_19 ?_
    refine g_putI X cX8 hH hS (r := 7) (i := i0) hi0 rfl 11 (by decide) k_213 rfl rfl rfl (Nat.le_of_ble_eq_true rfl) (x := wI (((gU M 7 i0 12 v1) 7 i0 11) + 1)) (nmI_w _) rfl rfl rfl dX8_noteFlakeIn_20 (fun H locs hH hS => ?_)
    subst hf
    exact gRetV X hH hS dX8_noteFlakeIn_23
theorem w_X1_hasAlike_L3 {G : gG} {p : Program} {l : Launch} {e : Env} {s : State} {m : MethodId} {args : Array Value} {below : List Frame} {meth : Method} {c : Code} (X : gX G p s m args meth c RX1 cX1_hasAlike 8 (some .boolean) (gWs yX1_hasAlike cX1_hasAlike 8 (some .boolean))) (k64 : Option (Int)) (z1 : Int) (nz1 : nmI z1) (z2 : Int) (nz2 : nmI z2) (z3 : Int) (nz3 : nmI z3) (z4 : Int) (nz4 : nmI z4) (z5 : Int) (nz5 : nmI z5) (M : gM) (q : (Int)) (hk64 : k64 = some q → ∀ (H : Heap) (locs : List Loc) (ls : Array Slot), gH G M H → va_S (gA G) s.heap H locs → gLv ls 8 [] → W p l e { frames := 2, cells := 0, slots := 0, locals := 43 } s m args below meth c H locs 0 0 (MQ below (gQz G q M) args s 0 0 (gA G)) (F0 m 64 ls [])) : ∀ (n : Nat) (x6 : Int) (nx6 : nmI x6), f_X1_hasAlike_L3 k64 z1 z2 z3 z4 z5 M n x6 = some q → ∀ (H : Heap) (locs : List Loc) (ls : Array Slot), gH G M H → va_S (gA G) s.heap H locs → gLv ls 8 [(0, .ref (gAd G 3 0)), (1, .int (iI z1)), (2, .int (iI z2)), (3, .int (iI z3)), (4, .int (iI z4)), (5, .int (iI z5)), (6, .int (iI x6))] → W p l e { frames := 2, cells := 0, slots := 0, locals := 43 } s m args below meth c H locs 0 0 (MQ below (gQz G q M) args s 0 0 (gA G)) (F0 m 3 ls []) := by
  intro n
  induction n with
  | zero =>
    intro x6 nx6 hf
    cases hf
  | succ n ih =>
    intro x6 nx6 hf H locs ls hH hS hl
    rw [f_X1_hasAlike_L3] at hf
    refine lv_iload X.1 X.2.1 dX1_hasAlike_3 (lv_at hl.1 6 rfl) ?_
    refine lv_aload_n X.1 X.2.1 dX1_hasAlike_5 rfl (lv_at hl.1 0 rfl) ?_
    have nd6 : nmI (M 3 0 2) := hH.1.1 _ _ _
    refine g_get X cX1 hH (r := 3) (i := 0) (by decide) rfl 2 (by decide) k_308 rfl (v := .int (iI (M 3 0 2))) rfl dX1_hasAlike_6 ?_
    refine g_icmp_ge X nx6 nd6 (tgt := 64) dX1_hasAlike_9 (by decide) (fun hc9 => ?_) (fun hc9 => ?_)
    · replace hf := it_f hf hc9
      exact hk64  hf _ _ _ hH hS (gLv_sub hl [] rfl)
    · replace hf := it_t hf hc9
      refine lv_aload_n X.1 X.2.1 dX1_hasAlike_12 rfl (lv_at hl.1 0 rfl) ?_
      refine lv_iload X.1 X.2.1 dX1_hasAlike_13 (lv_at hl.1 6 rfl) ?_
      obtain ⟨r15, hq15, hf_⟩ := ob_e hf; clear hf; have hf := hf_; clear hf_
      refine gGoQ (gRunV X hH (As := [.int (iI x6)]) (m_X1_entryAt l G x6 nx6 M _ hq15) calX1_entryAt k_684 k_685 k_789 (by decide) cX1 rfl ⟨by decide, by decide⟩ rfl hl rfl (Nat.le_of_ble_eq_true rfl) ⟨Nat.le_of_ble_eq_true rfl, Nat.le_of_ble_eq_true rfl⟩ dX1_hasAlike_15) hS (fun H locs hr15 hH hS => ?_)
      refine g_astoreO X (lv' := [(7, va_re (gAd G 10) r15), (0, .ref (gAd G 3 0)), (1, .int (iI z1)), (2, .int (iI z2)), (3, .int (iI z3)), (4, .int (iI z4)), (5, .int (iI z5)), (6, .int (iI x6))]) dX1_hasAlike_18 hl (by decide) rfl (fun ls hl => ?_)
      refine g_aloadO X (ad := gAd G 10) (x := r15) dX1_hasAlike_20 (lv_at hl.1 0 rfl) ?_
      obtain ⟨k58, ek58, hf_⟩ := oj_e hf; clear hf; have hf := hf_; clear hf_
      have hk58 : k58 = some q → ∀ (H : Heap) (locs : List Loc) (ls : Array Slot), gH G M H → va_S (gA G) s.heap H locs → gLv ls 8 [(0, .ref (gAd G 3 0)), (1, .int (iI z1)), (2, .int (iI z2)), (3, .int (iI z3)), (4, .int (iI z4)), (5, .int (iI z5)), (6, .int (iI x6))] → W p l e { frames := 2, cells := 0, slots := 0, locals := 43 } s m args below meth c H locs 0 0 (MQ below (gQz G q M) args s 0 0 (gA G)) (F0 m 58 ls []) := by
        intro  hf H locs ls hH hS hl
        subst ek58
        refine g_iinc X (a := x6) (lv' := [(6, .int (iI (wI (x6 + 1)))), (0, .ref (gAd G 3 0)), (1, .int (iI z1)), (2, .int (iI z2)), (3, .int (iI z3)), (4, .int (iI z4)), (5, .int (iI z5))]) dX1_hasAlike_58 hl (k := 6) rfl (by decide) rfl (fun ls hl => ?_)
        refine lv_goto (tgt := 3) X.1 X.2.1 dX1_hasAlike_61 (by decide) ?_
        exact ih (wI (x6 + 1)) (nmI_w _) hf _ _ _ hH hS (gLv_sub hl [1, 2, 3, 4, 5, 6, 0] rfl)
      clear ek58
      refine g_ifnullO X (ad := gAd G 10) (x := r15) (tgt := 58) dX1_hasAlike_22 (by decide) ?_ ?_
      · intro hx
        subst hx
        replace hf := om_n hf
        exact hk58  hf _ _ _ hH hS (gLv_sub hl [1, 2, 3, 4, 5, 6, 7] rfl)
      · intro a22 hx
        subst hx
        replace hf := om_s hf
        have ha22 : a22 < 40 := hr15 _ rfl
        refine lv_aload X.1 X.2.1 dX1_hasAlike_25 (lv_at hl.1 0 rfl) ?_
        refine lv_iload_n X.1 X.2.1 dX1_hasAlike_27 rfl (lv_at hl.1 2 rfl) ?_
        refine lv_iload_n X.1 X.2.1 dX1_hasAlike_28 rfl (lv_at hl.1 3 rfl) ?_
        refine lv_iload_n X.1 X.2.1 dX1_hasAlike_29 rfl (lv_at hl.1 4 rfl) ?_
        refine gGoZ (gRunV X hH (As := [.int (iI z1), .int (iI z2), .int (iI z3)]) (m_X3_isOf l G a22 ha22 z1 nz1 z2 nz2 z3 nz3 M _ rfl) calX3_isOf k_791 k_792 k_790 ha22 cX3 rfl ⟨by decide, by decide⟩ rfl hl rfl (Nat.le_of_ble_eq_true rfl) ⟨Nat.le_of_ble_eq_true rfl, Nat.le_of_ble_eq_true rfl⟩ dX1_hasAlike_30) hS (fun H locs br30 hH hS => ?_)
        refine g_if_eq X (nmI_b br30) (tgt := 58) dX1_hasAlike_33 (by decide) (fun hc33 => ?_) (fun hc33 => ?_)
        · replace hf := it_t hf hc33
          exact hk58  hf _ _ _ hH hS (gLv_sub hl [1, 2, 3, 4, 5, 6, 7] rfl)
        · replace hf := it_f hf hc33
          refine lv_aload X.1 X.2.1 dX1_hasAlike_36 (lv_at hl.1 0 rfl) ?_
          have nd38 : nmI (M 10 a22 3) := hH.1.1 _ _ _
          refine g_get X cX3 hH (r := 10) (i := a22) ha22 rfl 3 (by decide) k_284 rfl (v := .int (iI (M 10 a22 3))) rfl dX1_hasAlike_38 ?_
          refine lv_iload X.1 X.2.1 dX1_hasAlike_41 (lv_at hl.1 5 rfl) ?_
          refine g_icmp_ne X nd38 nz4 (tgt := 58) dX1_hasAlike_43 (by decide) (fun hc43 => ?_) (fun hc43 => ?_)
          · replace hf := it_f hf hc43
            exact hk58  hf _ _ _ hH hS (gLv_sub hl [1, 2, 3, 4, 5, 6, 7] rfl)
          · replace hf := it_t hf hc43
            refine lv_aload X.1 X.2.1 dX1_hasAlike_46 (lv_at hl.1 0 rfl) ?_
            have nd48 : nmI (M 10 a22 4) := hH.1.1 _ _ _
            refine g_get X cX3 hH (r := 10) (i := a22) ha22 rfl 4 (by decide) k_287 rfl (v := .int (iI (M 10 a22 4))) rfl dX1_hasAlike_48 ?_
            refine lv_iload X.1 X.2.1 dX1_hasAlike_51 (lv_at hl.1 6 rfl) ?_
            refine g_icmp_ne X nd48 nz5 (tgt := 58) dX1_hasAlike_53 (by decide) (fun hc53 => ?_) (fun hc53 => ?_)
            · replace hf := it_f hf hc53
              exact hk58  hf _ _ _ hH hS (gLv_sub hl [1, 2, 3, 4, 5, 6, 7] rfl)
            · replace hf := it_t hf hc53
              refine lv_iconst X.1 X.2.1 dX1_hasAlike_56 (v := iI 1) rfl ?_
              have hq := Option.some.inj hf; subst hq
              exact gRetZ X hH hS (res := 1) (by decide) dX1_hasAlike_57
theorem m_X1_hasAlike (l : Launch) (G : gG) (v1 : Int) (nv1 : nmI v1) (v2 : Int) (nv2 : nmI v2) (v3 : Int) (nv3 : nmI v3) (v4 : Int) (nv4 : nmI v4) (v5 : Int) (nv5 : nmI v5) (M : gM) (q : (Int)) (hf : f_X1_hasAlike v1 v2 v3 v4 v5 M = some q) : gMet l yX1_hasAlike cX1_hasAlike 8 (some .boolean) 2 43 G M [.ref (gAd G 3 0), .int (iI v1), .int (iI v2), .int (iI v3), .int (iI v4), .int (iI v5)] (gQz G q M) := by
  refine gOfW (by decide) (by show _ ≤ 8; exact Nat.le_of_ble_eq_true rfl) rfl ?_
  intro p e s m below meth c X hH ls hl
  replace hl : gLv ls 8 [(0, .ref (gAd G 3 0)), (1, .int (iI v1)), (2, .int (iI v2)), (3, .int (iI v3)), (4, .int (iI v4)), (5, .int (iI v5))] := hl
  have hS : va_S (gA G) s.heap s.heap [] := va_S.rf
  generalize hargs : ([.ref (gAd G 3 0), .int (iI v1), .int (iI v2), .int (iI v3), .int (iI v4), .int (iI v5)] : List Value).toArray = args at X ⊢
  clear hargs
  unfold f_X1_hasAlike at hf
  refine lv_iconst X.1 X.2.1 dX1_hasAlike_0 (v := iI 0) rfl ?_
  refine g_istore X (lv' := [(6, .int (iI 0)), (0, .ref (gAd G 3 0)), (1, .int (iI v1)), (2, .int (iI v2)), (3, .int (iI v3)), (4, .int (iI v4)), (5, .int (iI v5))]) dX1_hasAlike_1 hl (by decide) rfl (fun ls hl => ?_)
  refine w_X1_hasAlike_L3 X _ v1 nv1 v2 nv2 v3 nv3 v4 nv4 v5 nv5 M q ?_ 64 0 (nmI_l (by decide)) hf _ _ _ hH hS (gLv_sub hl [1, 2, 3, 4, 5, 6, 0] rfl)
  · intro  hf H locs ls hH hS hl
    refine lv_iconst X.1 X.2.1 dX1_hasAlike_64 (v := iI 0) rfl ?_
    have hq := Option.some.inj hf; subst hq
    exact gRetZ X hH hS (res := 0) (by decide) dX1_hasAlike_65
theorem m_X3_fill (l : Launch) (G : gG) (i0 : Nat) (hi0 : i0 < 40) (v1 : Int) (nv1 : nmI v1) (v2 : Int) (nv2 : nmI v2) (v3 : Int) (nv3 : nmI v3) (v4 : Int) (nv4 : nmI v4) (v5 : Int) (nv5 : nmI v5) (M : gM) (q : gM) (hf : f_X3_fill i0 v1 v2 v3 v4 v5 M = q) : gMet l yX3_fill cX3_fill 6 none 2 41 G M [.ref (gAd G 10 i0), .int (iI v1), .int (iI v2), .int (iI v3), .int (iI v4), .int (iI v5)] (gQv G q) := by
  refine gOfW (by decide) (by show _ ≤ 6; exact Nat.le_of_ble_eq_true rfl) rfl ?_
  intro p e s m below meth c X hH ls hl
  replace hl : gLv ls 6 [(0, .ref (gAd G 10 i0)), (1, .int (iI v1)), (2, .int (iI v2)), (3, .int (iI v3)), (4, .int (iI v4)), (5, .int (iI v5))] := hl
  have hS : va_S (gA G) s.heap s.heap [] := va_S.rf
  generalize hargs : ([.ref (gAd G 10 i0), .int (iI v1), .int (iI v2), .int (iI v3), .int (iI v4), .int (iI v5)] : List Value).toArray = args at X ⊢
  clear hargs
  unfold f_X3_fill at hf
  refine lv_aload_n X.1 X.2.1 dX3_fill_0 rfl (lv_at hl.1 0 rfl) ?_
  refine lv_iload_n X.1 X.2.1 dX3_fill_1 rfl (lv_at hl.1 1 rfl) ?_
  refine g_putI X cX3 hH hS (r := 10) (i := i0) hi0 rfl 0 (by decide) k_280 rfl rfl rfl (Nat.le_of_ble_eq_true rfl) (x := v1) nv1 rfl rfl rfl dX3_fill_2 (fun H locs hH hS => ?_)
  refine lv_aload_n X.1 X.2.1 dX3_fill_5 rfl (lv_at hl.1 0 rfl) ?_
  refine lv_iload_n X.1 X.2.1 dX3_fill_6 rfl (lv_at hl.1 2 rfl) ?_
  refine g_putI X cX3 hH hS (r := 10) (i := i0) hi0 rfl 1 (by decide) k_281 rfl rfl rfl (Nat.le_of_ble_eq_true rfl) (x := v2) nv2 rfl rfl rfl dX3_fill_7 (fun H locs hH hS => ?_)
  refine lv_aload_n X.1 X.2.1 dX3_fill_10 rfl (lv_at hl.1 0 rfl) ?_
  refine lv_iload_n X.1 X.2.1 dX3_fill_11 rfl (lv_at hl.1 3 rfl) ?_
  refine g_putI X cX3 hH hS (r := 10) (i := i0) hi0 rfl 2 (by decide) k_282 rfl rfl rfl (Nat.le_of_ble_eq_true rfl) (x := v3) nv3 rfl rfl rfl dX3_fill_12 (fun H locs hH hS => ?_)
  refine lv_aload_n X.1 X.2.1 dX3_fill_15 rfl (lv_at hl.1 0 rfl) ?_
  refine lv_iload X.1 X.2.1 dX3_fill_16 (lv_at hl.1 4 rfl) ?_
  refine g_putI X cX3 hH hS (r := 10) (i := i0) hi0 rfl 3 (by decide) k_283 rfl rfl rfl (Nat.le_of_ble_eq_true rfl) (x := v4) nv4 rfl rfl rfl dX3_fill_18 (fun H locs hH hS => ?_)
  refine lv_aload_n X.1 X.2.1 dX3_fill_21 rfl (lv_at hl.1 0 rfl) ?_
  refine lv_iload X.1 X.2.1 dX3_fill_22 (lv_at hl.1 5 rfl) ?_
  refine g_putI X cX3 hH hS (r := 10) (i := i0) hi0 rfl 4 (by decide) k_286 rfl rfl rfl (Nat.le_of_ble_eq_true rfl) (x := v5) nv5 rfl rfl rfl dX3_fill_24 (fun H locs hH hS => ?_)
  refine lv_aload_n X.1 X.2.1 dX3_fill_27 rfl (lv_at hl.1 0 rfl) ?_
  refine lv_iconst X.1 X.2.1 dX3_fill_28 (v := iI 1) rfl ?_
  refine g_putZ X cX3 hH hS (r := 10) (i := i0) hi0 rfl 6 (by decide) k_290 rfl rfl rfl (Nat.le_of_ble_eq_true rfl) (x := 1) (by decide) rfl dX3_fill_29 (fun H locs hH hS => ?_)
  refine lv_aload_n X.1 X.2.1 dX3_fill_32 rfl (lv_at hl.1 0 rfl) ?_
  refine lv_aload_n X.1 X.2.1 dX3_fill_33 rfl (lv_at hl.1 0 rfl) ?_
  refine gGoI (gRunV X hH (As := []) (m_X3_rightSignature l G i0 hi0 (gU (gU (gU (gU (gU (gU M 10 i0 0 v1) 10 i0 1 v2) 10 i0 2 v3) 10 i0 3 v4) 10 i0 4 v5) 10 i0 6 1) _ rfl) calX3_rightSignature k_701 k_6 k_699 hi0 cX3 rfl ⟨by decide, by decide⟩ rfl hl rfl (Nat.le_of_ble_eq_true rfl) ⟨Nat.le_of_ble_eq_true rfl, Nat.le_of_ble_eq_true rfl⟩ dX3_fill_34) hS (fun H locs nr34 hH hS => ?_)
  refine g_putI X cX3 hH hS (r := 10) (i := i0) hi0 rfl 5 (by decide) k_289 rfl rfl rfl (Nat.le_of_ble_eq_true rfl) (x := (f_X3_rightSignature i0 (gU (gU (gU (gU (gU (gU M 10 i0 0 v1) 10 i0 1 v2) 10 i0 2 v3) 10 i0 3 v4) 10 i0 4 v5) 10 i0 6 1))) nr34 rfl rfl rfl dX3_fill_37 (fun H locs hH hS => ?_)
  subst hf
  exact gRetV X hH hS dX3_fill_40
theorem m_X1_keep (l : Launch) (G : gG) (v1 : Int) (nv1 : nmI v1) (v2 : Int) (nv2 : nmI v2) (v3 : Int) (nv3 : nmI v3) (v4 : Int) (nv4 : nmI v4) (v5 : Int) (nv5 : nmI v5) (M : gM) (q : gM) (hf : f_X1_keep v1 v2 v3 v4 v5 M = some q) : gMet l yX1_keep cX1_keep 7 none 3 70 G M [.ref (gAd G 3 0), .int (iI v1), .int (iI v2), .int (iI v3), .int (iI v4), .int (iI v5)] (gQv G q) := by
  refine gOfW (by decide) (by show _ ≤ 7; exact Nat.le_of_ble_eq_true rfl) rfl ?_
  intro p e s m below meth c X hH ls hl
  replace hl : gLv ls 7 [(0, .ref (gAd G 3 0)), (1, .int (iI v1)), (2, .int (iI v2)), (3, .int (iI v3)), (4, .int (iI v4)), (5, .int (iI v5))] := hl
  have hS : va_S (gA G) s.heap s.heap [] := va_S.rf
  generalize hargs : ([.ref (gAd G 3 0), .int (iI v1), .int (iI v2), .int (iI v3), .int (iI v4), .int (iI v5)] : List Value).toArray = args at X ⊢
  clear hargs
  unfold f_X1_keep at hf
  refine lv_aload_n X.1 X.2.1 dX1_keep_0 rfl (lv_at hl.1 0 rfl) ?_
  refine lv_iload_n X.1 X.2.1 dX1_keep_1 rfl (lv_at hl.1 1 rfl) ?_
  refine lv_iload_n X.1 X.2.1 dX1_keep_2 rfl (lv_at hl.1 2 rfl) ?_
  refine lv_iload_n X.1 X.2.1 dX1_keep_3 rfl (lv_at hl.1 3 rfl) ?_
  refine lv_iload X.1 X.2.1 dX1_keep_4 (lv_at hl.1 4 rfl) ?_
  refine lv_iload X.1 X.2.1 dX1_keep_6 (lv_at hl.1 5 rfl) ?_
  obtain ⟨r8, hq8, hf_⟩ := ob_e hf; clear hf; have hf := hf_; clear hf_
  refine gGoZ (gRunV X hH (As := [.int (iI v1), .int (iI v2), .int (iI v3), .int (iI v4), .int (iI v5)]) (m_X1_hasAlike l G v1 nv1 v2 nv2 v3 nv3 v4 nv4 v5 nv5 M _ hq8) calX1_hasAlike k_928 k_21 k_926 (by decide) cX1 rfl ⟨by decide, by decide⟩ rfl hl rfl (Nat.le_of_ble_eq_true rfl) ⟨Nat.le_of_ble_eq_true rfl, Nat.le_of_ble_eq_true rfl⟩ dX1_keep_8) hS (fun H locs br8 hH hS => ?_)
  refine g_if_eq X (nmI_b br8) (tgt := 15) dX1_keep_11 (by decide) (fun hc11 => ?_) (fun hc11 => ?_)
  · replace hf := it_t hf hc11
    refine lv_aload_n X.1 X.2.1 dX1_keep_15 rfl (lv_at hl.1 0 rfl) ?_
    have nd16 : nmI (M 3 0 2) := hH.1.1 _ _ _
    refine g_get X cX1 hH (r := 3) (i := 0) (by decide) rfl 2 (by decide) k_308 rfl (v := .int (iI (M 3 0 2))) rfl dX1_keep_16 ?_
    refine lv_bipush X.1 X.2.1 dX1_keep_19 (v := iI 40) (by decide) ?_
    obtain ⟨k50, ek50, hf_⟩ := oj_e hf; clear hf; have hf := hf_; clear hf_
    have hk50 : ∀  (M_50 : gM), k50 M_50 = some q → ∀ (H : Heap) (locs : List Loc) (ls : Array Slot), gH G M_50 H → va_S (gA G) s.heap H locs → gLv ls 7 [(0, .ref (gAd G 3 0)), (1, .int (iI v1)), (2, .int (iI v2)), (3, .int (iI v3)), (4, .int (iI v4)), (5, .int (iI v5))] → W p l e { frames := 3, cells := 0, slots := 0, locals := 70 } s m args below meth c H locs 0 0 (MQ below (gQv G q) args s 0 0 (gA G)) (F0 m 50 ls []) := by
      intro  M_50 hf H locs ls hH hS hl
      subst ek50
      refine lv_aload_n X.1 X.2.1 dX1_keep_50 rfl (lv_at hl.1 0 rfl) ?_
      refine lv_aload_n X.1 X.2.1 dX1_keep_51 rfl (lv_at hl.1 0 rfl) ?_
      have nd52 : nmI (M_50 3 0 2) := hH.1.1 _ _ _
      refine g_get X cX1 hH (r := 3) (i := 0) (by decide) rfl 2 (by decide) k_308 rfl (v := .int (iI (M_50 3 0 2))) rfl dX1_keep_52 ?_
      refine lv_iconst X.1 X.2.1 dX1_keep_55 (v := iI 1) rfl ?_
      refine g_isub X dX1_keep_56 ?_
      obtain ⟨r57, hq57, hf_⟩ := ob_e hf; clear hf; have hf := hf_; clear hf_
      refine gGoQ (gRunV X hH (As := [.int (iI (wI ((M_50 3 0 2) - 1)))]) (m_X1_entryAt l G (wI ((M_50 3 0 2) - 1)) (nmI_w _) M_50 _ hq57) calX1_entryAt k_684 k_685 k_789 (by decide) cX1 rfl ⟨by decide, by decide⟩ rfl hl rfl (Nat.le_of_ble_eq_true rfl) ⟨Nat.le_of_ble_eq_true rfl, Nat.le_of_ble_eq_true rfl⟩ dX1_keep_57) hS (fun H locs hr57 hH hS => ?_)
      refine g_astoreO X (lv' := [(6, va_re (gAd G 10) r57), (0, .ref (gAd G 3 0)), (1, .int (iI v1)), (2, .int (iI v2)), (3, .int (iI v3)), (4, .int (iI v4)), (5, .int (iI v5))]) dX1_keep_60 hl (by decide) rfl (fun ls hl => ?_)
      refine g_aloadO X (ad := gAd G 10) (x := r57) dX1_keep_62 (lv_at hl.1 0 rfl) ?_
      refine g_ifnullO X (ad := gAd G 10) (x := r57) (tgt := 79) dX1_keep_64 (by decide) ?_ ?_
      · intro hx
        subst hx
        replace hf := om_n hf
        have hq := Option.some.inj hf; subst hq
        exact gRetV X hH hS dX1_keep_79
      · intro a64 hx
        subst hx
        replace hf := om_s hf
        have ha64 : a64 < 40 := hr57 _ rfl
        refine lv_aload X.1 X.2.1 dX1_keep_67 (lv_at hl.1 0 rfl) ?_
        refine lv_iload_n X.1 X.2.1 dX1_keep_69 rfl (lv_at hl.1 2 rfl) ?_
        refine lv_iload_n X.1 X.2.1 dX1_keep_70 rfl (lv_at hl.1 3 rfl) ?_
        refine lv_iload_n X.1 X.2.1 dX1_keep_71 rfl (lv_at hl.1 4 rfl) ?_
        refine lv_iload X.1 X.2.1 dX1_keep_72 (lv_at hl.1 5 rfl) ?_
        refine lv_iload X.1 X.2.1 dX1_keep_74 (lv_at hl.1 6 rfl) ?_
        refine gGoV (gRunV X hH (As := [.int (iI v1), .int (iI v2), .int (iI v3), .int (iI v4), .int (iI v5)]) (m_X3_fill l G a64 ha64 v1 nv1 v2 nv2 v3 nv3 v4 nv4 v5 nv5 M_50 _ rfl) calX3_fill k_931 k_932 k_930 ha64 cX3 rfl ⟨by decide, by decide⟩ rfl hl rfl (Nat.le_of_ble_eq_true rfl) ⟨Nat.le_of_ble_eq_true rfl, Nat.le_of_ble_eq_true rfl⟩ dX1_keep_76) hS (fun H locs hH hS => ?_)
        have hq := Option.some.inj hf; subst hq
        exact gRetV X hH hS dX1_keep_79
    clear ek50
    refine g_icmp_ge X nd16 (nmI_l (by decide)) (tgt := 37) dX1_keep_21 (by decide) (fun hc21 => ?_) (fun hc21 => ?_)
    · replace hf := it_f hf hc21
      refine lv_aload_n X.1 X.2.1 dX1_keep_37 rfl (lv_at hl.1 0 rfl) ?_
      refine lv_aload_n X.1 X.2.1 dX1_keep_38 rfl (lv_at hl.1 0 rfl) ?_
      have nd39 : nmI (M 3 0 1) := hH.1.1 _ _ _
      refine g_get X cX1 hH (r := 3) (i := 0) (by decide) rfl 1 (by decide) k_307 rfl (v := .int (iI (M 3 0 1))) rfl dX1_keep_39 ?_
      refine lv_iconst X.1 X.2.1 dX1_keep_42 (v := iI 1) rfl ?_
      refine g_iadd X dX1_keep_43 ?_
      refine lv_bipush X.1 X.2.1 dX1_keep_44 (v := iI 40) (by decide) ?_
      refine g_irem X (nmI_w _) (nmI_l (by decide)) (by decide) dX1_keep_46 ?_
      refine g_putI X cX1 hH hS (r := 3) (i := 0) (by decide) rfl 1 (by decide) k_307 rfl rfl rfl (Nat.le_of_ble_eq_true rfl) (x := gRem (wI ((M 3 0 1) + 1)) 40) (nmI_rem _ _) rfl rfl rfl dX1_keep_47 (fun H locs hH hS => ?_)
      exact hk50 (gU M 3 0 1 (gRem (wI ((M 3 0 1) + 1)) 40)) hf _ _ _ hH hS (gLv_sub hl [0, 1, 2, 3, 4, 5] rfl)
    · replace hf := it_t hf hc21
      refine lv_aload_n X.1 X.2.1 dX1_keep_24 rfl (lv_at hl.1 0 rfl) ?_
      refine lv_dup X.1 X.2.1 dX1_keep_25 rfl ?_
      have nd26 : nmI (M 3 0 2) := hH.1.1 _ _ _
      refine g_get X cX1 hH (r := 3) (i := 0) (by decide) rfl 2 (by decide) k_308 rfl (v := .int (iI (M 3 0 2))) rfl dX1_keep_26 ?_
      refine lv_iconst X.1 X.2.1 dX1_keep_29 (v := iI 1) rfl ?_
      refine g_iadd X dX1_keep_30 ?_
      refine g_putI X cX1 hH hS (r := 3) (i := 0) (by decide) rfl 2 (by decide) k_308 rfl rfl rfl (Nat.le_of_ble_eq_true rfl) (x := wI ((M 3 0 2) + 1)) (nmI_w _) rfl rfl rfl dX1_keep_31 (fun H locs hH hS => ?_)
      refine lv_goto (tgt := 50) X.1 X.2.1 dX1_keep_34 (by decide) ?_
      exact hk50 (gU M 3 0 2 (wI ((M 3 0 2) + 1))) hf _ _ _ hH hS (gLv_sub hl [0, 1, 2, 3, 4, 5] rfl)
  · replace hf := it_f hf hc11
    have hq := Option.some.inj hf; subst hq
    exact gRetV X hH hS dX1_keep_14
theorem m_X2_judge (l : Launch) (G : gG) (i1 : Nat) (hi1 : i1 < 15) (i2 : Nat) (hi2 : i2 < 60) (i3 : Nat) (hi3 : i3 < 4) (M : gM) (q : gM) (hf : f_X2_judge i1 i2 i3 M = some q) : gMet l yX2_judge cX2_judge 7 none 4 96 G M [.ref (gAd G 4 0), .ref (gAd G 7 i1), .ref (gAd G 9 i2), .ref (gAd G 11 i3)] (gQv G q) := by
  refine gOfW (by decide) (by show _ ≤ 7; exact Nat.le_of_ble_eq_true rfl) rfl ?_
  intro p e s m below meth c X hH ls hl
  replace hl : gLv ls 7 [(0, .ref (gAd G 4 0)), (1, .ref (gAd G 7 i1)), (2, .ref (gAd G 9 i2)), (3, .ref (gAd G 11 i3))] := hl
  have hS : va_S (gA G) s.heap s.heap [] := va_S.rf
  generalize hargs : ([.ref (gAd G 4 0), .ref (gAd G 7 i1), .ref (gAd G 9 i2), .ref (gAd G 11 i3)] : List Value).toArray = args at X ⊢
  clear hargs
  unfold f_X2_judge at hf
  refine lv_aload_n X.1 X.2.1 dX2_judge_0 rfl (lv_at hl.1 3 rfl) ?_
  refine gGoI (gRunV X hH (As := []) (m_X10_resultMade l G i3 hi3 M _ rfl) calX10_resultMade k_899 k_900 k_898 hi3 cX10 rfl ⟨by decide, by decide⟩ rfl hl rfl (Nat.le_of_ble_eq_true rfl) ⟨Nat.le_of_ble_eq_true rfl, Nat.le_of_ble_eq_true rfl⟩ dX2_judge_1) hS (fun H locs nr1 hH hS => ?_)
  refine g_istore X (lv' := [(4, .int (iI ((f_X10_resultMade i3 M)))), (0, .ref (gAd G 4 0)), (1, .ref (gAd G 7 i1)), (2, .ref (gAd G 9 i2)), (3, .ref (gAd G 11 i3))]) dX2_judge_4 hl (by decide) rfl (fun ls hl => ?_)
  refine lv_aload_n X.1 X.2.1 dX2_judge_6 rfl (lv_at hl.1 2 rfl) ?_
  refine lv_aload_n X.1 X.2.1 dX2_judge_7 rfl (lv_at hl.1 3 rfl) ?_
  have nd8 : nmI (M 9 i2 6) := hH.1.1 _ _ _
  refine g_get X cX0 hH (r := 9) (i := i2) hi2 rfl 6 (by decide) k_157 rfl (v := .int (iI (M 9 i2 6))) rfl dX2_judge_8 ?_
  refine lv_iload X.1 X.2.1 dX2_judge_11 (lv_at hl.1 0 rfl) ?_
  refine gGoZ (gRunV X hH (As := [.int (iI (M 9 i2 6)), .int (iI ((f_X10_resultMade i3 M)))]) (m_X8_failsAt l G i1 hi1 (M 9 i2 6) nd8 ((f_X10_resultMade i3 M)) nr1 M _ rfl) calX8_failsAt k_907 k_908 k_906 hi1 cX8 rfl ⟨by decide, by decide⟩ rfl hl rfl (Nat.le_of_ble_eq_true rfl) ⟨Nat.le_of_ble_eq_true rfl, Nat.le_of_ble_eq_true rfl⟩ dX2_judge_13) hS (fun H locs br13 hH hS => ?_)
  refine g_istore X (lv' := [(5, .int (iI ((f_X8_failsAt i1 (M 9 i2 6) ((f_X10_resultMade i3 M)) M)))), (4, .int (iI ((f_X10_resultMade i3 M)))), (0, .ref (gAd G 4 0)), (1, .ref (gAd G 7 i1)), (2, .ref (gAd G 9 i2)), (3, .ref (gAd G 11 i3))]) dX2_judge_16 hl (by decide) rfl (fun ls hl => ?_)
  refine lv_iload X.1 X.2.1 dX2_judge_18 (lv_at hl.1 0 rfl) ?_
  obtain ⟨k38, ek38, hf_⟩ := oj_e hf; clear hf; have hf := hf_; clear hf_
  have hk38 : ∀  (M_38 : gM), k38 M_38 = some q → ∀ (H : Heap) (locs : List Loc) (ls : Array Slot), gH G M_38 H → va_S (gA G) s.heap H locs → gLv ls 7 [(0, .ref (gAd G 4 0)), (1, .ref (gAd G 7 i1)), (2, .ref (gAd G 9 i2)), (3, .ref (gAd G 11 i3)), (4, .int (iI ((f_X10_resultMade i3 M)))), (5, .int (iI ((f_X8_failsAt i1 (M 9 i2 6) ((f_X10_resultMade i3 M)) M))))] → W p l e { frames := 4, cells := 0, slots := 0, locals := 96 } s m args below meth c H locs 0 0 (MQ below (gQv G q) args s 0 0 (gA G)) (F0 m 38 ls []) := by
    intro  M_38 hf H locs ls hH hS hl
    subst ek38
    refine lv_iload X.1 X.2.1 dX2_judge_38 (lv_at hl.1 5 rfl) ?_
    obtain ⟨k99, ek99, hf_⟩ := oj_e hf; clear hf; have hf := hf_; clear hf_
    have hk99 : ∀  (M_99 : gM), k99 M_99 = some q → ∀ (H : Heap) (locs : List Loc) (ls : Array Slot), gH G M_99 H → va_S (gA G) s.heap H locs → gLv ls 7 [(0, .ref (gAd G 4 0)), (1, .ref (gAd G 7 i1)), (2, .ref (gAd G 9 i2)), (3, .ref (gAd G 11 i3)), (4, .int (iI ((f_X10_resultMade i3 M))))] → W p l e { frames := 4, cells := 0, slots := 0, locals := 96 } s m args below meth c H locs 0 0 (MQ below (gQv G q) args s 0 0 (gA G)) (F0 m 99 ls []) := by
      intro  M_99 hf H locs ls hH hS hl
      subst ek99
      refine lv_aload_n X.1 X.2.1 dX2_judge_99 rfl (lv_at hl.1 2 rfl) ?_
      have nd100 : nmI (M_99 9 i2 2) := hH.1.1 _ _ _
      refine g_get X cX0 hH (r := 9) (i := i2) hi2 rfl 2 (by decide) k_145 rfl (v := .int (iI (M_99 9 i2 2))) rfl dX2_judge_100 ?_
      refine lv_iconst X.1 X.2.1 dX2_judge_103 (v := iI 3) rfl ?_
      obtain ⟨k130, ek130, hf_⟩ := oj_e hf; clear hf; have hf := hf_; clear hf_
      have hk130 : k130 = some q → ∀ (H : Heap) (locs : List Loc) (ls : Array Slot), gH G M_99 H → va_S (gA G) s.heap H locs → gLv ls 7 [(0, .ref (gAd G 4 0)), (1, .ref (gAd G 7 i1)), (2, .ref (gAd G 9 i2)), (3, .ref (gAd G 11 i3)), (4, .int (iI ((f_X10_resultMade i3 M))))] → W p l e { frames := 4, cells := 0, slots := 0, locals := 96 } s m args below meth c H locs 0 0 (MQ below (gQv G q) args s 0 0 (gA G)) (F0 m 130 ls []) := by
        intro  hf H locs ls hH hS hl
        subst ek130
        refine lv_aload_n X.1 X.2.1 dX2_judge_130 rfl (lv_at hl.1 2 rfl) ?_
        have nd131 : nmI (M_99 9 i2 2) := hH.1.1 _ _ _
        refine g_get X cX0 hH (r := 9) (i := i2) hi2 rfl 2 (by decide) k_145 rfl (v := .int (iI (M_99 9 i2 2))) rfl dX2_judge_131 ?_
        refine lv_iconst X.1 X.2.1 dX2_judge_134 (v := iI 3) rfl ?_
        refine g_icmp_ne X nd131 (nmI_l (by decide)) (tgt := 171) dX2_judge_135 (by decide) (fun hc135 => ?_) (fun hc135 => ?_)
        · replace hf := it_f hf hc135
          have hq := Option.some.inj hf; subst hq
          exact gRetV X hH hS dX2_judge_171
        · replace hf := it_t hf hc135
          refine lv_aload_n X.1 X.2.1 dX2_judge_138 rfl (lv_at hl.1 1 rfl) ?_
          refine lv_aload_n X.1 X.2.1 dX2_judge_139 rfl (lv_at hl.1 3 rfl) ?_
          have nd140 : nmI (M_99 11 i3 4) := hH.1.1 _ _ _
          refine g_get X cX10 hH (r := 11) (i := i3) hi3 rfl 4 (by decide) k_357 rfl (v := .int (iI (M_99 11 i3 4))) rfl dX2_judge_140 ?_
          refine gGoI (gRunV X hH (As := [.int (iI (M_99 11 i3 4))]) (m_X8_fileFound l G i1 hi1 (M_99 11 i3 4) nd140 M_99 _ rfl) calX8_fileFound k_781 k_782 k_784 hi1 cX8 rfl ⟨by decide, by decide⟩ rfl hl rfl (Nat.le_of_ble_eq_true rfl) ⟨Nat.le_of_ble_eq_true rfl, Nat.le_of_ble_eq_true rfl⟩ dX2_judge_143) hS (fun H locs nr143 hH hS => ?_)
          refine g_istore X (lv' := [(6, .int (iI ((f_X8_fileFound i1 (M_99 11 i3 4) M_99)))), (0, .ref (gAd G 4 0)), (1, .ref (gAd G 7 i1)), (2, .ref (gAd G 9 i2)), (3, .ref (gAd G 11 i3)), (4, .int (iI ((f_X10_resultMade i3 M))))]) dX2_judge_146 hl (by decide) rfl (fun ls hl => ?_)
          refine lv_aload_n X.1 X.2.1 dX2_judge_148 rfl (lv_at hl.1 1 rfl) ?_
          refine g_get X cX2 hH (r := 4) (i := 0) (by decide) rfl 1 (by decide) k_383 rfl (v := .ref (gAd G 3 0)) rfl dX2_judge_149 ?_
          refine lv_aload_n X.1 X.2.1 dX2_judge_152 rfl (lv_at hl.1 4 rfl) ?_
          have nd153 : nmI (M_99 11 i3 4) := hH.1.1 _ _ _
          refine g_get X cX10 hH (r := 11) (i := i3) hi3 rfl 4 (by decide) k_357 rfl (v := .int (iI (M_99 11 i3 4))) rfl dX2_judge_153 ?_
          refine lv_iload X.1 X.2.1 dX2_judge_156 (lv_at hl.1 0 rfl) ?_
          refine lv_aload_n X.1 X.2.1 dX2_judge_158 rfl (lv_at hl.1 4 rfl) ?_
          have nd159 : nmI (M_99 11 i3 5) := hH.1.1 _ _ _
          refine g_get X cX10 hH (r := 11) (i := i3) hi3 rfl 5 (by decide) k_359 rfl (v := .int (iI (M_99 11 i3 5))) rfl dX2_judge_159 ?_
          refine lv_iload X.1 X.2.1 dX2_judge_162 (lv_at hl.1 5 rfl) ?_
          refine lv_aload_n X.1 X.2.1 dX2_judge_164 rfl (lv_at hl.1 4 rfl) ?_
          have nd165 : nmI (M_99 11 i3 0) := hH.1.1 _ _ _
          refine g_get X cX10 hH (r := 11) (i := i3) hi3 rfl 0 (by decide) k_349 rfl (v := .int (iI (M_99 11 i3 0))) rfl dX2_judge_165 ?_
          obtain ⟨r168, hq168, hf_⟩ := ob_e hf; clear hf; have hf := hf_; clear hf_
          refine gGoV (gRunV X hH (As := [.int (iI (M_99 11 i3 4)), .int (iI ((f_X8_fileFound i1 (M_99 11 i3 4) M_99))), .int (iI (M_99 11 i3 5)), .int (iI ((f_X10_resultMade i3 M))), .int (iI (M_99 11 i3 0))]) (m_X1_keep l G (M_99 11 i3 4) nd153 ((f_X8_fileFound i1 (M_99 11 i3 4) M_99)) nr143 (M_99 11 i3 5) nd159 ((f_X10_resultMade i3 M)) nr1 (M_99 11 i3 0) nd165 M_99 _ hq168) calX1_keep k_923 k_924 k_922 (by decide) cX1 rfl ⟨by decide, by decide⟩ rfl hl rfl (Nat.le_of_ble_eq_true rfl) ⟨Nat.le_of_ble_eq_true rfl, Nat.le_of_ble_eq_true rfl⟩ dX2_judge_168) hS (fun H locs hH hS => ?_)
          have hq := Option.some.inj hf; subst hq
          exact gRetV X hH hS dX2_judge_171
      clear ek130
      refine g_icmp_ne X nd100 (nmI_l (by decide)) (tgt := 130) dX2_judge_104 (by decide) (fun hc104 => ?_) (fun hc104 => ?_)
      · replace hf := it_f hf hc104
        exact hk130  hf _ _ _ hH hS (gLv_sub hl [0, 1, 2, 3, 4] rfl)
      · replace hf := it_t hf hc104
        refine lv_aload_n X.1 X.2.1 dX2_judge_107 rfl (lv_at hl.1 2 rfl) ?_
        have nd108 : nmI (M_99 9 i2 5) := hH.1.1 _ _ _
        have bd108 := hH.1.2.1 9 i2 5 rfl
        refine g_get X cX0 hH (r := 9) (i := i2) hi2 rfl 5 (by decide) k_156 rfl (v := .int (iI (M_99 9 i2 5))) rfl dX2_judge_108 ?_
        refine g_if_eq X nd108 (tgt := 130) dX2_judge_111 (by decide) (fun hc111 => ?_) (fun hc111 => ?_)
        · replace hf := it_t hf hc111
          exact hk130  hf _ _ _ hH hS (gLv_sub hl [0, 1, 2, 3, 4] rfl)
        · replace hf := it_f hf hc111
          refine lv_aload_n X.1 X.2.1 dX2_judge_114 rfl (lv_at hl.1 0 rfl) ?_
          refine lv_iconst X.1 X.2.1 dX2_judge_115 (v := iI 4) rfl ?_
          refine gGoV (gRunV X hH (As := [.int (iI 4)]) (m_X2_tally l G 4 (nmI_l (by decide)) M_99 _ rfl) calX2_tally k_675 k_5 k_673 (by decide) cX2 rfl ⟨by decide, by decide⟩ rfl hl rfl (Nat.le_of_ble_eq_true rfl) ⟨Nat.le_of_ble_eq_true rfl, Nat.le_of_ble_eq_true rfl⟩ dX2_judge_116) hS (fun H locs hH hS => ?_)
          refine lv_aload_n X.1 X.2.1 dX2_judge_119 rfl (lv_at hl.1 1 rfl) ?_
          refine lv_aload_n X.1 X.2.1 dX2_judge_120 rfl (lv_at hl.1 0 rfl) ?_
          have nd121 : nmI (((f_X2_tally 4 M_99)) 4 0 7) := hH.1.1 _ _ _
          refine g_get X cX2 hH (r := 4) (i := 0) (by decide) rfl 7 (by decide) k_390 rfl (v := .int (iI (((f_X2_tally 4 M_99)) 4 0 7))) rfl dX2_judge_121 ?_
          refine gGoV (gRunV X hH (As := [.int (iI (((f_X2_tally 4 M_99)) 4 0 7))]) (m_X8_noteFlakeIn l G i1 hi1 (((f_X2_tally 4 M_99)) 4 0 7) nd121 ((f_X2_tally 4 M_99)) _ rfl) calX8_noteFlakeIn k_919 k_920 k_918 hi1 cX8 rfl ⟨by decide, by decide⟩ rfl hl rfl (Nat.le_of_ble_eq_true rfl) ⟨Nat.le_of_ble_eq_true rfl, Nat.le_of_ble_eq_true rfl⟩ dX2_judge_124) hS (fun H locs hH hS => ?_)
          refine lv_goto (tgt := 171) X.1 X.2.1 dX2_judge_127 (by decide) ?_
          have hq := Option.some.inj hf; subst hq
          exact gRetV X hH hS dX2_judge_171
    clear ek99
    obtain ⟨k59, ek59, hf_⟩ := oj_e hf; clear hf; have hf := hf_; clear hf_
    have hk59 : k59 = some q → ∀ (H : Heap) (locs : List Loc) (ls : Array Slot), gH G M_38 H → va_S (gA G) s.heap H locs → gLv ls 7 [(0, .ref (gAd G 4 0)), (1, .ref (gAd G 7 i1)), (2, .ref (gAd G 9 i2)), (3, .ref (gAd G 11 i3)), (4, .int (iI ((f_X10_resultMade i3 M)))), (5, .int (iI ((f_X8_failsAt i1 (M 9 i2 6) ((f_X10_resultMade i3 M)) M))))] → W p l e { frames := 4, cells := 0, slots := 0, locals := 96 } s m args below meth c H locs 0 0 (MQ below (gQv G q) args s 0 0 (gA G)) (F0 m 59 ls []) := by
      intro  hf H locs ls hH hS hl
      subst ek59
      refine lv_iload X.1 X.2.1 dX2_judge_59 (lv_at hl.1 5 rfl) ?_
      obtain ⟨k79, ek79, hf_⟩ := oj_e hf; clear hf; have hf := hf_; clear hf_
      have hk79 : k79 = some q → ∀ (H : Heap) (locs : List Loc) (ls : Array Slot), gH G M_38 H → va_S (gA G) s.heap H locs → gLv ls 7 [(0, .ref (gAd G 4 0)), (1, .ref (gAd G 7 i1)), (2, .ref (gAd G 9 i2)), (3, .ref (gAd G 11 i3)), (4, .int (iI ((f_X10_resultMade i3 M))))] → W p l e { frames := 4, cells := 0, slots := 0, locals := 96 } s m args below meth c H locs 0 0 (MQ below (gQv G q) args s 0 0 (gA G)) (F0 m 79 ls []) := by
        intro  hf H locs ls hH hS hl
        subst ek79
        refine lv_aload_n X.1 X.2.1 dX2_judge_79 rfl (lv_at hl.1 1 rfl) ?_
        refine lv_aload_n X.1 X.2.1 dX2_judge_80 rfl (lv_at hl.1 3 rfl) ?_
        have nd81 : nmI (M_38 11 i3 7) := hH.1.1 _ _ _
        refine g_get X cX10 hH (r := 11) (i := i3) hi3 rfl 7 (by decide) k_363 rfl (v := .int (iI (M_38 11 i3 7))) rfl dX2_judge_81 ?_
        refine g_putI X cX8 hH hS (r := 7) (i := i1) hi1 rfl 9 (by decide) k_210 rfl rfl rfl (Nat.le_of_ble_eq_true rfl) (x := M_38 11 i3 7) nd81 rfl rfl rfl dX2_judge_84 (fun H locs hH hS => ?_)
        refine lv_aload_n X.1 X.2.1 dX2_judge_87 rfl (lv_at hl.1 0 rfl) ?_
        refine lv_aload_n X.1 X.2.1 dX2_judge_88 rfl (lv_at hl.1 1 rfl) ?_
        refine lv_aload_n X.1 X.2.1 dX2_judge_89 rfl (lv_at hl.1 2 rfl) ?_
        refine lv_iload X.1 X.2.1 dX2_judge_90 (lv_at hl.1 4 rfl) ?_
        refine lv_aload_n X.1 X.2.1 dX2_judge_92 rfl (lv_at hl.1 3 rfl) ?_
        have nd93 : nmI ((gU M_38 7 i1 9 (M_38 11 i3 7)) 11 i3 0) := hH.1.1 _ _ _
        refine g_get X cX10 hH (r := 11) (i := i3) hi3 rfl 0 (by decide) k_349 rfl (v := .int (iI ((gU M_38 7 i1 9 (M_38 11 i3 7)) 11 i3 0))) rfl dX2_judge_93 ?_
        obtain ⟨r96, hq96, hf_⟩ := ob_e hf; clear hf; have hf := hf_; clear hf_
        refine gGoV (gRunV X hH (As := [.ref (gAd G 7 i1), .ref (gAd G 9 i2), .int (iI ((f_X10_resultMade i3 M))), .int (iI ((gU M_38 7 i1 9 (M_38 11 i3 7)) 11 i3 0))]) (m_X2_finish l G i1 hi1 i2 hi2 ((f_X10_resultMade i3 M)) nr1 ((gU M_38 7 i1 9 (M_38 11 i3 7)) 11 i3 0) nd93 (gU M_38 7 i1 9 (M_38 11 i3 7)) _ hq96) calX2_finish k_797 k_9 k_795 (by decide) cX2 rfl ⟨by decide, by decide⟩ rfl hl rfl (Nat.le_of_ble_eq_true rfl) ⟨Nat.le_of_ble_eq_true rfl, Nat.le_of_ble_eq_true rfl⟩ dX2_judge_96) hS (fun H locs hH hS => ?_)
        exact hk99 r96 hf _ _ _ hH hS (gLv_sub hl [0, 1, 2, 3, 4] rfl)
      clear ek79
      refine g_if_eq X (nmI_b br13) (tgt := 79) dX2_judge_61 (by decide) (fun hc61 => ?_) (fun hc61 => ?_)
      · replace hf := it_t hf hc61
        exact hk79  hf _ _ _ hH hS (gLv_sub hl [0, 1, 2, 3, 4] rfl)
      · replace hf := it_f hf hc61
        refine lv_aload_n X.1 X.2.1 dX2_judge_64 rfl (lv_at hl.1 1 rfl) ?_
        refine gGoZ (gRunV X hH (As := []) (m_X8_isInQuarantine l G i1 hi1 M_38 _ rfl) calX8_isInQuarantine k_915 k_916 k_914 hi1 cX8 rfl ⟨by decide, by decide⟩ rfl hl rfl (Nat.le_of_ble_eq_true rfl) ⟨Nat.le_of_ble_eq_true rfl, Nat.le_of_ble_eq_true rfl⟩ dX2_judge_65) hS (fun H locs br65 hH hS => ?_)
        refine g_if_ne X (nmI_b br65) (tgt := 79) dX2_judge_68 (by decide) (fun hc68 => ?_) (fun hc68 => ?_)
        · replace hf := it_f hf hc68
          exact hk79  hf _ _ _ hH hS (gLv_sub hl [0, 1, 2, 3, 4] rfl)
        · replace hf := it_t hf hc68
          refine lv_aload_n X.1 X.2.1 dX2_judge_71 rfl (lv_at hl.1 2 rfl) ?_
          refine lv_iconst X.1 X.2.1 dX2_judge_72 (v := iI 4) rfl ?_
          refine g_putI X cX0 hH hS (r := 9) (i := i2) hi2 rfl 2 (by decide) k_145 rfl rfl rfl (Nat.le_of_ble_eq_true rfl) (x := 4) (nmI_l (by decide)) rfl rfl rfl dX2_judge_73 (fun H locs hH hS => ?_)
          refine lv_goto (tgt := 99) X.1 X.2.1 dX2_judge_76 (by decide) ?_
          exact hk99 (gU M_38 9 i2 2 4) hf _ _ _ hH hS (gLv_sub hl [0, 1, 2, 3, 4] rfl)
    clear ek59
    refine g_if_eq X (nmI_b br13) (tgt := 59) dX2_judge_40 (by decide) (fun hc40 => ?_) (fun hc40 => ?_)
    · replace hf := it_t hf hc40
      exact hk59  hf _ _ _ hH hS (gLv_sub hl [0, 1, 2, 3, 4, 5] rfl)
    · replace hf := it_f hf hc40
      refine lv_aload_n X.1 X.2.1 dX2_judge_43 rfl (lv_at hl.1 2 rfl) ?_
      have nd44 : nmI (M_38 9 i2 7) := hH.1.1 _ _ _
      refine g_get X cX0 hH (r := 9) (i := i2) hi2 rfl 7 (by decide) k_159 rfl (v := .int (iI (M_38 9 i2 7))) rfl dX2_judge_44 ?_
      refine lv_iconst X.1 X.2.1 dX2_judge_47 (v := iI 3) rfl ?_
      refine g_icmp_ge X nd44 (nmI_l (by decide)) (tgt := 59) dX2_judge_48 (by decide) (fun hc48 => ?_) (fun hc48 => ?_)
      · replace hf := it_f hf hc48
        exact hk59  hf _ _ _ hH hS (gLv_sub hl [0, 1, 2, 3, 4, 5] rfl)
      · replace hf := it_t hf hc48
        refine lv_aload_n X.1 X.2.1 dX2_judge_51 rfl (lv_at hl.1 2 rfl) ?_
        refine lv_iconst X.1 X.2.1 dX2_judge_52 (v := iI 1) rfl ?_
        refine g_putI X cX0 hH hS (r := 9) (i := i2) hi2 rfl 2 (by decide) k_145 rfl rfl rfl (Nat.le_of_ble_eq_true rfl) (x := 1) (nmI_l (by decide)) rfl rfl rfl dX2_judge_53 (fun H locs hH hS => ?_)
        refine lv_goto (tgt := 99) X.1 X.2.1 dX2_judge_56 (by decide) ?_
        exact hk99 (gU M_38 9 i2 2 1) hf _ _ _ hH hS (gLv_sub hl [0, 1, 2, 3, 4] rfl)
  clear ek38
  refine g_if_eq X (nmI_b br13) (tgt := 38) dX2_judge_20 (by decide) (fun hc20 => ?_) (fun hc20 => ?_)
  · replace hf := it_t hf hc20
    exact hk38 M hf _ _ _ hH hS (gLv_sub hl [2, 3, 4, 5, 1, 0] rfl)
  · replace hf := it_f hf hc20
    refine lv_aload_n X.1 X.2.1 dX2_judge_23 rfl (lv_at hl.1 2 rfl) ?_
    refine lv_iconst X.1 X.2.1 dX2_judge_24 (v := iI 3) rfl ?_
    refine gGoV (gRunV X hH (As := [.int (iI 3)]) (m_X2_tally l G 3 (nmI_l (by decide)) M _ rfl) calX2_tally k_675 k_5 k_673 (by decide) cX2 rfl ⟨by decide, by decide⟩ rfl hl rfl (Nat.le_of_ble_eq_true rfl) ⟨Nat.le_of_ble_eq_true rfl, Nat.le_of_ble_eq_true rfl⟩ dX2_judge_25) hS (fun H locs hH hS => ?_)
    refine lv_aload_n X.1 X.2.1 dX2_judge_28 rfl (lv_at hl.1 4 rfl) ?_
    refine lv_dup X.1 X.2.1 dX2_judge_29 rfl ?_
    have nd30 : nmI (((f_X2_tally 3 M)) 9 i2 7) := hH.1.1 _ _ _
    refine g_get X cX0 hH (r := 9) (i := i2) hi2 rfl 7 (by decide) k_159 rfl (v := .int (iI (((f_X2_tally 3 M)) 9 i2 7))) rfl dX2_judge_30 ?_
    refine lv_iconst X.1 X.2.1 dX2_judge_33 (v := iI 1) rfl ?_
    refine g_iadd X dX2_judge_34 ?_
    refine g_putI X cX0 hH hS (r := 9) (i := i2) hi2 rfl 7 (by decide) k_159 rfl rfl rfl (Nat.le_of_ble_eq_true rfl) (x := wI ((((f_X2_tally 3 M)) 9 i2 7) + 1)) (nmI_w _) rfl rfl rfl dX2_judge_35 (fun H locs hH hS => ?_)
    exact hk38 (gU ((f_X2_tally 3 M)) 9 i2 7 (wI ((((f_X2_tally 3 M)) 9 i2 7) + 1))) hf _ _ _ hH hS (gLv_sub hl [2, 3, 4, 5, 1, 0] rfl)
theorem m_X2_end (l : Launch) (G : gG) (i1 : Nat) (hi1 : i1 < 4) (M : gM) (q : gM) (hf : f_X2_end i1 M = some q) : gMet l yX2_end cX2_end 5 none 5 122 G M [.ref (gAd G 4 0), .ref (gAd G 11 i1)] (gQv G q) := by
  refine gOfW (by decide) (by show _ ≤ 5; exact Nat.le_of_ble_eq_true rfl) rfl ?_
  intro p e s m below meth c X hH ls hl
  replace hl : gLv ls 5 [(0, .ref (gAd G 4 0)), (1, .ref (gAd G 11 i1))] := hl
  have hS : va_S (gA G) s.heap s.heap [] := va_S.rf
  generalize hargs : ([.ref (gAd G 4 0), .ref (gAd G 11 i1)] : List Value).toArray = args at X ⊢
  clear hargs
  unfold f_X2_end at hf
  refine lv_aload_n X.1 X.2.1 dX2_end_0 rfl (lv_at hl.1 1 rfl) ?_
  refine g_get X cX10 hH (r := 11) (i := i1) hi1 rfl 3 (by decide) k_355 rfl (v := va_re (gAd G 9) (gAct (M 11 i1 3))) rfl dX2_end_1 ?_
  obtain ⟨o1, eo1, hf_⟩ := oj_e hf; clear hf; have hf := hf_; clear hf_
  have ho1 : ∀ a, o1 = some a → a < 60 := by intro a h; rw [eo1] at h; exact gAct_lt (hH.1.2.2 _) h
  rw [← eo1]
  refine g_astore_nO X (lv' := [(2, va_re (gAd G 9) o1), (0, .ref (gAd G 4 0)), (1, .ref (gAd G 11 i1))]) dX2_end_4 rfl hl (by decide) rfl (fun ls hl => ?_)
  refine g_aload_nO X (ad := gAd G 9) (x := o1) dX2_end_5 rfl (lv_at hl.1 0 rfl) ?_
  refine g_ifnonnullO X (ad := gAd G 9) (x := o1) (tgt := 10) dX2_end_6 (by decide) ?_ ?_
  · intro a6 hx
    subst hx
    replace hf := om_s hf
    have ha6 : a6 < 60 := ho1 _ rfl
    refine lv_aload_n X.1 X.2.1 dX2_end_10 rfl (lv_at hl.1 1 rfl) ?_
    refine g_get X cX2 hH (r := 4) (i := 0) (by decide) rfl 0 (by decide) k_382 rfl (v := .ref (gAd G 2 0)) rfl dX2_end_11 ?_
    refine lv_aload_n X.1 X.2.1 dX2_end_14 rfl (lv_at hl.1 0 rfl) ?_
    have nd15 : nmI (M 9 a6 0) := hH.1.1 _ _ _
    refine g_get X cX0 hH (r := 9) (i := a6) ha6 rfl 0 (by decide) k_140 rfl (v := .int (iI (M 9 a6 0))) rfl dX2_end_15 ?_
    refine gGoR (gRunV X hH (As := [.int (iI (M 9 a6 0))]) (m_X5_targetAt l G (M 9 a6 0) nd15 M _ rfl) calX5_targetAt k_631 k_632 k_733 (by decide) cX5 rfl ⟨by decide, by decide⟩ rfl hl rfl (Nat.le_of_ble_eq_true rfl) ⟨Nat.le_of_ble_eq_true rfl, Nat.le_of_ble_eq_true rfl⟩ dX2_end_18) hS (fun H locs hr18 hH hS => ?_)
    replace hr18 : (f_X5_targetAt (M 9 a6 0) M) < 15 := hr18
    refine g_astore_n X (lv' := [(3, .ref (gAd G 7 ((f_X5_targetAt (M 9 a6 0) M)))), (2, .ref (gAd G 9 a6)), (0, .ref (gAd G 4 0)), (1, .ref (gAd G 11 i1))]) dX2_end_21 rfl hl (by decide) rfl (fun ls hl => ?_)
    refine lv_aload_n X.1 X.2.1 dX2_end_22 rfl (lv_at hl.1 2 rfl) ?_
    refine lv_aload_n X.1 X.2.1 dX2_end_23 rfl (lv_at hl.1 1 rfl) ?_
    obtain ⟨r24, hq24, hf_⟩ := ob_e hf; clear hf; have hf := hf_; clear hf_
    refine gGoV (gRunV X hH (As := [.ref (gAd G 9 a6)]) (m_X2_dismissFrom l G a6 ha6 M _ hq24) calX2_dismissFrom k_887 k_19 k_885 (by decide) cX2 rfl ⟨by decide, by decide⟩ rfl hl rfl (Nat.le_of_ble_eq_true rfl) ⟨Nat.le_of_ble_eq_true rfl, Nat.le_of_ble_eq_true rfl⟩ dX2_end_24) hS (fun H locs hH hS => ?_)
    refine lv_aload_n X.1 X.2.1 dX2_end_27 rfl (lv_at hl.1 3 rfl) ?_
    refine lv_aload_n X.1 X.2.1 dX2_end_28 rfl (lv_at hl.1 0 rfl) ?_
    have nd29 : nmI (r24 7 ((f_X5_targetAt (M 9 a6 0) M)) 4) := hH.1.1 _ _ _
    refine g_get X cX8 hH (r := 7) (i := (f_X5_targetAt (M 9 a6 0) M)) hr18 rfl 4 (by decide) k_196 rfl (v := .int (iI (r24 7 ((f_X5_targetAt (M 9 a6 0) M)) 4))) rfl dX2_end_29 ?_
    refine gGoV (gRunV X hH (As := [.int (iI (r24 7 ((f_X5_targetAt (M 9 a6 0) M)) 4))]) (m_X10_rest l G i1 hi1 (r24 7 ((f_X5_targetAt (M 9 a6 0) M)) 4) nd29 r24 _ rfl) calX10_rest k_666 k_667 k_665 hi1 cX10 rfl ⟨by decide, by decide⟩ rfl hl rfl (Nat.le_of_ble_eq_true rfl) ⟨Nat.le_of_ble_eq_true rfl, Nat.le_of_ble_eq_true rfl⟩ dX2_end_32) hS (fun H locs hH hS => ?_)
    refine lv_aload_n X.1 X.2.1 dX2_end_35 rfl (lv_at hl.1 2 rfl) ?_
    refine g_get X cX2 hH (r := 4) (i := 0) (by decide) rfl 2 (by decide) k_384 rfl (v := .ref (gAd G 6 0)) rfl dX2_end_36 ?_
    refine lv_aload_n X.1 X.2.1 dX2_end_39 rfl (lv_at hl.1 0 rfl) ?_
    refine lv_aload_n X.1 X.2.1 dX2_end_40 rfl (lv_at hl.1 1 rfl) ?_
    have nd41 : nmI (((f_X10_rest i1 (r24 7 ((f_X5_targetAt (M 9 a6 0) M)) 4) r24)) 9 a6 1) := hH.1.1 _ _ _
    refine g_get X cX0 hH (r := 9) (i := a6) ha6 rfl 1 (by decide) k_142 rfl (v := .int (iI (((f_X10_rest i1 (r24 7 ((f_X5_targetAt (M 9 a6 0) M)) 4) r24)) 9 a6 1))) rfl dX2_end_41 ?_
    obtain ⟨r44, hq44, hf_⟩ := ob_e hf; clear hf; have hf := hf_; clear hf_
    refine gGoI (gRunV X hH (As := [.ref (gAd G 7 ((f_X5_targetAt (M 9 a6 0) M))), .int (iI (((f_X10_rest i1 (r24 7 ((f_X5_targetAt (M 9 a6 0) M)) 4) r24)) 9 a6 1))]) (m_X9_keyOf l G 0 (by decide) ((f_X5_targetAt (M 9 a6 0) M)) hr18 (((f_X10_rest i1 (r24 7 ((f_X5_targetAt (M 9 a6 0) M)) 4) r24)) 9 a6 1) nd41 ((f_X10_rest i1 (r24 7 ((f_X5_targetAt (M 9 a6 0) M)) 4) r24)) _ hq44) calX9_keyOf k_764 k_765 k_763 (by decide) cX9 rfl ⟨by decide, by decide⟩ rfl hl rfl (Nat.le_of_ble_eq_true rfl) ⟨Nat.le_of_ble_eq_true rfl, Nat.le_of_ble_eq_true rfl⟩ dX2_end_44) hS (fun H locs nr44 hH hS => ?_)
    refine g_istore X (lv' := [(4, .int (iI r44)), (3, .ref (gAd G 7 ((f_X5_targetAt (M 9 a6 0) M)))), (2, .ref (gAd G 9 a6)), (0, .ref (gAd G 4 0)), (1, .ref (gAd G 11 i1))]) dX2_end_47 hl (by decide) rfl (fun ls hl => ?_)
    refine lv_aload_n X.1 X.2.1 dX2_end_49 rfl (lv_at hl.1 4 rfl) ?_
    refine lv_iload X.1 X.2.1 dX2_end_50 (lv_at hl.1 0 rfl) ?_
    refine lv_aload_n X.1 X.2.1 dX2_end_52 rfl (lv_at hl.1 3 rfl) ?_
    refine g_get X cX2 hH (r := 4) (i := 0) (by decide) rfl 2 (by decide) k_384 rfl (v := .ref (gAd G 6 0)) rfl dX2_end_53 ?_
    refine lv_aload_n X.1 X.2.1 dX2_end_56 rfl (lv_at hl.1 1 rfl) ?_
    refine lv_iload X.1 X.2.1 dX2_end_57 (lv_at hl.1 0 rfl) ?_
    refine gGoI (gRunV X hH (As := [.ref (gAd G 7 ((f_X5_targetAt (M 9 a6 0) M))), .int (iI r44)]) (m_X9_contentFound l G 0 (by decide) ((f_X5_targetAt (M 9 a6 0) M)) hr18 r44 nr44 ((f_X10_rest i1 (r24 7 ((f_X5_targetAt (M 9 a6 0) M)) 4) r24)) _ rfl) calX9_contentFound k_777 k_778 k_776 (by decide) cX9 rfl ⟨by decide, by decide⟩ rfl hl rfl (Nat.le_of_ble_eq_true rfl) ⟨Nat.le_of_ble_eq_true rfl, Nat.le_of_ble_eq_true rfl⟩ dX2_end_59) hS (fun H locs nr59 hH hS => ?_)
    refine gGoZ (gRunV X hH (As := [.int (iI r44), .int (iI ((f_X9_contentFound 0 ((f_X5_targetAt (M 9 a6 0) M)) r44 ((f_X10_rest i1 (r24 7 ((f_X5_targetAt (M 9 a6 0) M)) 4) r24)))))]) (m_X10_beganWith l G i1 hi1 r44 nr44 ((f_X9_contentFound 0 ((f_X5_targetAt (M 9 a6 0) M)) r44 ((f_X10_rest i1 (r24 7 ((f_X5_targetAt (M 9 a6 0) M)) 4) r24)))) nr59 ((f_X10_rest i1 (r24 7 ((f_X5_targetAt (M 9 a6 0) M)) 4) r24)) _ rfl) calX10_beganWith k_890 k_891 k_889 hi1 cX10 rfl ⟨by decide, by decide⟩ rfl hl rfl (Nat.le_of_ble_eq_true rfl) ⟨Nat.le_of_ble_eq_true rfl, Nat.le_of_ble_eq_true rfl⟩ dX2_end_62) hS (fun H locs br62 hH hS => ?_)
    refine g_if_ne X (nmI_b br62) (tgt := 80) dX2_end_65 (by decide) (fun hc65 => ?_) (fun hc65 => ?_)
    · replace hf := it_f hf hc65
      refine lv_aload_n X.1 X.2.1 dX2_end_80 rfl (lv_at hl.1 1 rfl) ?_
      refine lv_iload X.1 X.2.1 dX2_end_81 (lv_at hl.1 0 rfl) ?_
      refine gGoZ (gRunV X hH (As := [.int (iI r44)]) (m_X8_breaksOut l G ((f_X5_targetAt (M 9 a6 0) M)) hr18 r44 nr44 ((f_X10_rest i1 (r24 7 ((f_X5_targetAt (M 9 a6 0) M)) 4) r24)) _ rfl) calX8_breaksOut k_772 k_773 k_771 hr18 cX8 rfl ⟨by decide, by decide⟩ rfl hl rfl (Nat.le_of_ble_eq_true rfl) ⟨Nat.le_of_ble_eq_true rfl, Nat.le_of_ble_eq_true rfl⟩ dX2_end_83) hS (fun H locs br83 hH hS => ?_)
      refine g_if_eq X (nmI_b br83) (tgt := 97) dX2_end_86 (by decide) (fun hc86 => ?_) (fun hc86 => ?_)
      · replace hf := it_t hf hc86
        refine lv_aload_n X.1 X.2.1 dX2_end_97 rfl (lv_at hl.1 3 rfl) ?_
        refine lv_aload_n X.1 X.2.1 dX2_end_98 rfl (lv_at hl.1 1 rfl) ?_
        refine lv_aload_n X.1 X.2.1 dX2_end_99 rfl (lv_at hl.1 2 rfl) ?_
        refine lv_aload_n X.1 X.2.1 dX2_end_100 rfl (lv_at hl.1 4 rfl) ?_
        obtain ⟨r101, hq101, hf_⟩ := ob_e hf; clear hf; have hf := hf_; clear hf_
        refine gGoV (gRunV X hH (As := [.ref (gAd G 7 ((f_X5_targetAt (M 9 a6 0) M))), .ref (gAd G 9 a6), .ref (gAd G 11 i1)]) (m_X2_judge l G ((f_X5_targetAt (M 9 a6 0) M)) hr18 a6 ha6 i1 hi1 ((f_X10_rest i1 (r24 7 ((f_X5_targetAt (M 9 a6 0) M)) 4) r24)) _ hq101) calX2_judge k_896 k_20 k_894 (by decide) cX2 rfl ⟨by decide, by decide⟩ rfl hl rfl (Nat.le_of_ble_eq_true rfl) ⟨Nat.le_of_ble_eq_true rfl, Nat.le_of_ble_eq_true rfl⟩ dX2_end_101) hS (fun H locs hH hS => ?_)
        have hq := Option.some.inj hf; subst hq
        exact gRetV X hH hS dX2_end_104
      · replace hf := it_f hf hc86
        refine lv_aload_n X.1 X.2.1 dX2_end_89 rfl (lv_at hl.1 2 rfl) ?_
        refine lv_iconst X.1 X.2.1 dX2_end_90 (v := iI 4) rfl ?_
        refine g_putI X cX0 hH hS (r := 9) (i := a6) ha6 rfl 2 (by decide) k_145 rfl rfl rfl (Nat.le_of_ble_eq_true rfl) (x := 4) (nmI_l (by decide)) rfl rfl rfl dX2_end_91 (fun H locs hH hS => ?_)
        refine lv_goto (tgt := 104) X.1 X.2.1 dX2_end_94 (by decide) ?_
        have hq := Option.some.inj hf; subst hq
        exact gRetV X hH hS dX2_end_104
    · replace hf := it_t hf hc65
      refine lv_aload_n X.1 X.2.1 dX2_end_68 rfl (lv_at hl.1 3 rfl) ?_
      refine lv_iconst X.1 X.2.1 dX2_end_69 (v := iI 2) rfl ?_
      refine gGoV (gRunV X hH (As := [.int (iI 2)]) (m_X2_tally l G 2 (nmI_l (by decide)) ((f_X10_rest i1 (r24 7 ((f_X5_targetAt (M 9 a6 0) M)) 4) r24)) _ rfl) calX2_tally k_675 k_5 k_673 (by decide) cX2 rfl ⟨by decide, by decide⟩ rfl hl rfl (Nat.le_of_ble_eq_true rfl) ⟨Nat.le_of_ble_eq_true rfl, Nat.le_of_ble_eq_true rfl⟩ dX2_end_70) hS (fun H locs hH hS => ?_)
      refine lv_aload_n X.1 X.2.1 dX2_end_73 rfl (lv_at hl.1 2 rfl) ?_
      refine gGoV (gRunV X hH (As := []) (m_X0_open l G a6 ha6 ((f_X2_tally 2 ((f_X10_rest i1 (r24 7 ((f_X5_targetAt (M 9 a6 0) M)) 4) r24)))) _ rfl) calX0_open k_744 k_745 k_893 ha6 cX0 rfl ⟨by decide, by decide⟩ rfl hl rfl (Nat.le_of_ble_eq_true rfl) ⟨Nat.le_of_ble_eq_true rfl, Nat.le_of_ble_eq_true rfl⟩ dX2_end_74) hS (fun H locs hH hS => ?_)
      refine lv_goto (tgt := 104) X.1 X.2.1 dX2_end_77 (by decide) ?_
      have hq := Option.some.inj hf; subst hq
      exact gRetV X hH hS dX2_end_104
  · intro hx
    subst hx
    replace hf := om_n hf
    have hq := Option.some.inj hf; subst hq
    exact gRetV X hH hS dX2_end_9
theorem w_X2_passTick_L25 {G : gG} {p : Program} {l : Launch} {e : Env} {s : State} {m : MethodId} {args : Array Value} {below : List Frame} {meth : Method} {c : Code} (X : gX G p s m args meth c RX2 cX2_passTick 6 none (gWs yX2_passTick cX2_passTick 6 none)) (k46 : gM → Option gM) (z2 : Int) (nz2 : nmI z2) (q : gM) (hk46 : ∀  (M : gM), k46 M = some q → ∀ (H : Heap) (locs : List Loc) (ls : Array Slot), gH G M H → va_S (gA G) s.heap H locs → gLv ls 6 [(0, .ref (gAd G 4 0))] → W p l e { frames := 6, cells := 0, slots := 0, locals := 148 } s m args below meth c H locs 0 0 (MQ below (gQv G q) args s 0 0 (gA G)) (F0 m 46 ls [])) : ∀ (n : Nat) (x3 : Int) (nx3 : nmI x3) (M : gM), f_X2_passTick_L25 k46 z2 n x3 M = some q → ∀ (H : Heap) (locs : List Loc) (ls : Array Slot), gH G M H → va_S (gA G) s.heap H locs → gLv ls 6 [(0, .ref (gAd G 4 0)), (1, .ref (gAd G 28 0)), (2, .int (iI z2)), (3, .int (iI x3))] → W p l e { frames := 6, cells := 0, slots := 0, locals := 148 } s m args below meth c H locs 0 0 (MQ below (gQv G q) args s 0 0 (gA G)) (F0 m 25 ls []) := by
  intro n
  induction n with
  | zero =>
    intro x3 nx3 M hf
    cases hf
  | succ n ih =>
    intro x3 nx3 M hf H locs ls hH hS hl
    rw [f_X2_passTick_L25] at hf
    refine lv_iload_n X.1 X.2.1 dX2_passTick_25 rfl (lv_at hl.1 3 rfl) ?_
    refine lv_iload_n X.1 X.2.1 dX2_passTick_26 rfl (lv_at hl.1 2 rfl) ?_
    refine g_icmp_ge X nx3 nz2 (tgt := 46) dX2_passTick_27 (by decide) (fun hc27 => ?_) (fun hc27 => ?_)
    · replace hf := it_f hf hc27
      exact hk46 M hf _ _ _ hH hS (gLv_sub hl [0] rfl)
    · replace hf := it_t hf hc27
      refine lv_aload_n X.1 X.2.1 dX2_passTick_30 rfl (lv_at hl.1 1 rfl) ?_
      refine lv_iload_n X.1 X.2.1 dX2_passTick_31 rfl (lv_at hl.1 3 rfl) ?_
      obtain ⟨hg, hf_⟩ := og_e hf; clear hf; have hf := hf_; clear hf_
      refine g_aald X hH (r := 28) (i := 0) (by decide) rfl (t0 := 5) rfl nx3 hg (v := gAd G 11 x3.toNat) rfl dX2_passTick_32 ?_
      refine g_astore X (lv' := [(4, .ref (gAd G 11 x3.toNat)), (0, .ref (gAd G 4 0)), (1, .ref (gAd G 28 0)), (2, .int (iI z2)), (3, .int (iI x3))]) dX2_passTick_33 hl (by decide) rfl (fun ls hl => ?_)
      refine lv_aload X.1 X.2.1 dX2_passTick_35 (lv_at hl.1 0 rfl) ?_
      refine gGoV (gRunV X hH (As := []) (m_X10_spendTick l G x3.toNat (by show _ < 4; omega) M _ rfl) calX10_spendTick k_874 k_875 k_873 (by show _ < 4; omega) cX10 rfl ⟨by decide, by decide⟩ rfl hl rfl (Nat.le_of_ble_eq_true rfl) ⟨Nat.le_of_ble_eq_true rfl, Nat.le_of_ble_eq_true rfl⟩ dX2_passTick_37) hS (fun H locs hH hS => ?_)
      refine g_iinc X (a := x3) (lv' := [(3, .int (iI (wI (x3 + 1)))), (4, .ref (gAd G 11 x3.toNat)), (0, .ref (gAd G 4 0)), (1, .ref (gAd G 28 0)), (2, .int (iI z2))]) dX2_passTick_40 hl (k := 4) rfl (by decide) rfl (fun ls hl => ?_)
      refine lv_goto (tgt := 25) X.1 X.2.1 dX2_passTick_43 (by decide) ?_
      exact ih (wI (x3 + 1)) (nmI_w _) ((f_X10_spendTick x3.toNat M)) hf _ _ _ hH hS (gLv_sub hl [2, 3, 4, 0] rfl)
theorem w_X2_passTick_L59 {G : gG} {p : Program} {l : Launch} {e : Env} {s : State} {m : MethodId} {args : Array Value} {below : List Frame} {meth : Method} {c : Code} (X : gX G p s m args meth c RX2 cX2_passTick 6 none (gWs yX2_passTick cX2_passTick 6 none)) (k93 : Int → gM → Option gM) (z3 : Int) (nz3 : nmI z3) (q : gM) (hk93 : ∀ (x1 : Int) (bx1 : x1 = 0 ∨ x1 = 1) (M : gM), k93 x1 M = some q → ∀ (H : Heap) (locs : List Loc) (ls : Array Slot), gH G M H → va_S (gA G) s.heap H locs → gLv ls 6 [(0, .ref (gAd G 4 0)), (1, .int (iI x1))] → W p l e { frames := 6, cells := 0, slots := 0, locals := 148 } s m args below meth c H locs 0 0 (MQ below (gQv G q) args s 0 0 (gA G)) (F0 m 93 ls [])) : ∀ (n : Nat) (x1 : Int) (bx1 : x1 = 0 ∨ x1 = 1) (x4 : Int) (nx4 : nmI x4) (M : gM), f_X2_passTick_L59 k93 z3 n x1 x4 M = some q → ∀ (H : Heap) (locs : List Loc) (ls : Array Slot), gH G M H → va_S (gA G) s.heap H locs → gLv ls 6 [(0, .ref (gAd G 4 0)), (1, .int (iI x1)), (2, .ref (gAd G 28 0)), (3, .int (iI z3)), (4, .int (iI x4))] → W p l e { frames := 6, cells := 0, slots := 0, locals := 148 } s m args below meth c H locs 0 0 (MQ below (gQv G q) args s 0 0 (gA G)) (F0 m 59 ls []) := by
  intro n
  induction n with
  | zero =>
    intro x1 bx1 x4 nx4 M hf
    cases hf
  | succ n ih =>
    intro x1 bx1 x4 nx4 M hf H locs ls hH hS hl
    rw [f_X2_passTick_L59] at hf
    refine lv_iload X.1 X.2.1 dX2_passTick_59 (lv_at hl.1 4 rfl) ?_
    refine lv_iload_n X.1 X.2.1 dX2_passTick_61 rfl (lv_at hl.1 3 rfl) ?_
    refine g_icmp_ge X nx4 nz3 (tgt := 93) dX2_passTick_62 (by decide) (fun hc62 => ?_) (fun hc62 => ?_)
    · replace hf := it_f hf hc62
      exact hk93 x1 bx1 M hf _ _ _ hH hS (gLv_sub hl [0, 1] rfl)
    · replace hf := it_t hf hc62
      refine lv_aload_n X.1 X.2.1 dX2_passTick_65 rfl (lv_at hl.1 2 rfl) ?_
      refine lv_iload X.1 X.2.1 dX2_passTick_66 (lv_at hl.1 4 rfl) ?_
      obtain ⟨hg, hf_⟩ := og_e hf; clear hf; have hf := hf_; clear hf_
      refine g_aald X hH (r := 28) (i := 0) (by decide) rfl (t0 := 5) rfl nx4 hg (v := gAd G 11 x4.toNat) rfl dX2_passTick_68 ?_
      refine g_astore X (lv' := [(5, .ref (gAd G 11 x4.toNat)), (0, .ref (gAd G 4 0)), (1, .int (iI x1)), (2, .ref (gAd G 28 0)), (3, .int (iI z3)), (4, .int (iI x4))]) dX2_passTick_69 hl (by decide) rfl (fun ls hl => ?_)
      refine lv_aload X.1 X.2.1 dX2_passTick_71 (lv_at hl.1 0 rfl) ?_
      refine gGoZ (gRunV X hH (As := []) (m_X10_hasEnded l G x4.toNat (by show _ < 4; omega) M _ rfl) calX10_hasEnded k_878 k_879 k_877 (by show _ < 4; omega) cX10 rfl ⟨by decide, by decide⟩ rfl hl rfl (Nat.le_of_ble_eq_true rfl) ⟨Nat.le_of_ble_eq_true rfl, Nat.le_of_ble_eq_true rfl⟩ dX2_passTick_73) hS (fun H locs br73 hH hS => ?_)
      obtain ⟨k87, ek87, hf_⟩ := oj_e hf; clear hf; have hf := hf_; clear hf_
      have hk87 : ∀ (x1_87 : Int) (bx1_87 : x1_87 = 0 ∨ x1_87 = 1) (M_87 : gM), k87 x1_87 M_87 = some q → ∀ (H : Heap) (locs : List Loc) (ls : Array Slot), gH G M_87 H → va_S (gA G) s.heap H locs → gLv ls 6 [(0, .ref (gAd G 4 0)), (1, .int (iI x1_87)), (2, .ref (gAd G 28 0)), (3, .int (iI z3)), (4, .int (iI x4))] → W p l e { frames := 6, cells := 0, slots := 0, locals := 148 } s m args below meth c H locs 0 0 (MQ below (gQv G q) args s 0 0 (gA G)) (F0 m 87 ls []) := by
        intro x1_87 bx1_87 M_87 hf H locs ls hH hS hl
        subst ek87
        refine g_iinc X (a := x4) (lv' := [(4, .int (iI (wI (x4 + 1)))), (0, .ref (gAd G 4 0)), (1, .int (iI x1_87)), (2, .ref (gAd G 28 0)), (3, .int (iI z3))]) dX2_passTick_87 hl (k := 4) rfl (by decide) rfl (fun ls hl => ?_)
        refine lv_goto (tgt := 59) X.1 X.2.1 dX2_passTick_90 (by decide) ?_
        exact ih x1_87 bx1_87 (wI (x4 + 1)) (nmI_w _) M_87 hf _ _ _ hH hS (gLv_sub hl [1, 2, 3, 4, 0] rfl)
      clear ek87
      refine g_if_eq X (nmI_b br73) (tgt := 87) dX2_passTick_76 (by decide) (fun hc76 => ?_) (fun hc76 => ?_)
      · replace hf := it_t hf hc76
        exact hk87 x1 bx1 M hf _ _ _ hH hS (gLv_sub hl [1, 2, 3, 4, 5] rfl)
      · replace hf := it_f hf hc76
        refine lv_aload_n X.1 X.2.1 dX2_passTick_79 rfl (lv_at hl.1 1 rfl) ?_
        refine lv_aload X.1 X.2.1 dX2_passTick_80 (lv_at hl.1 0 rfl) ?_
        obtain ⟨r82, hq82, hf_⟩ := ob_e hf; clear hf; have hf := hf_; clear hf_
        refine gGoV (gRunV X hH (As := [.ref (gAd G 11 x4.toNat)]) (m_X2_end l G x4.toNat (by show _ < 4; omega) M _ hq82) calX2_end k_883 k_18 k_881 (by decide) cX2 rfl ⟨by decide, by decide⟩ rfl hl rfl (Nat.le_of_ble_eq_true rfl) ⟨Nat.le_of_ble_eq_true rfl, Nat.le_of_ble_eq_true rfl⟩ dX2_passTick_82) hS (fun H locs hH hS => ?_)
        refine lv_iconst X.1 X.2.1 dX2_passTick_85 (v := iI 1) rfl ?_
        refine g_istore_n X (lv' := [(1, .int (iI 1)), (5, .ref (gAd G 11 x4.toNat)), (0, .ref (gAd G 4 0)), (2, .ref (gAd G 28 0)), (3, .int (iI z3)), (4, .int (iI x4))]) dX2_passTick_86 rfl hl (by decide) rfl (fun ls hl => ?_)
        exact hk87 1 (by decide) r82 hf _ _ _ hH hS (gLv_sub hl [2, 0, 3, 4, 5] rfl)
theorem m_X2_passTick (l : Launch) (G : gG)  (M : gM) (q : gM) (hf : f_X2_passTick M = some q) : gMet l yX2_passTick cX2_passTick 6 none 6 148 G M [.ref (gAd G 4 0)] (gQv G q) := by
  refine gOfW (by decide) (by show _ ≤ 6; exact Nat.le_of_ble_eq_true rfl) rfl ?_
  intro p e s m below meth c X hH ls hl
  replace hl : gLv ls 6 [(0, .ref (gAd G 4 0))] := hl
  have hS : va_S (gA G) s.heap s.heap [] := va_S.rf
  generalize hargs : ([.ref (gAd G 4 0)] : List Value).toArray = args at X ⊢
  clear hargs
  unfold f_X2_passTick at hf
  refine lv_aload_n X.1 X.2.1 dX2_passTick_0 rfl (lv_at hl.1 0 rfl) ?_
  obtain ⟨r1, hq1, hf_⟩ := ob_e hf; clear hf; have hf := hf_; clear hf_
  refine gGoV (gRunV X hH (As := []) (m_X2_beginReady l G  M _ hq1) calX2_beginReady k_819 k_10 k_817 (by decide) cX2 rfl ⟨by decide, by decide⟩ rfl hl rfl (Nat.le_of_ble_eq_true rfl) ⟨Nat.le_of_ble_eq_true rfl, Nat.le_of_ble_eq_true rfl⟩ dX2_passTick_1) hS (fun H locs hH hS => ?_)
  refine lv_aload_n X.1 X.2.1 dX2_passTick_4 rfl (lv_at hl.1 0 rfl) ?_
  have nd5 : nmI (r1 4 0 10) := hH.1.1 _ _ _
  have bd5 := hH.1.2.1 4 0 10 rfl
  refine g_get X cX2 hH (r := 4) (i := 0) (by decide) rfl 10 (by decide) k_396 rfl (v := .int (iI (r1 4 0 10))) rfl dX2_passTick_5 ?_
  obtain ⟨k15, ek15, hf_⟩ := oj_e hf; clear hf; have hf := hf_; clear hf_
  have hk15 : ∀  (M_15 : gM), k15 M_15 = some q → ∀ (H : Heap) (locs : List Loc) (ls : Array Slot), gH G M_15 H → va_S (gA G) s.heap H locs → gLv ls 6 [(0, .ref (gAd G 4 0))] → W p l e { frames := 6, cells := 0, slots := 0, locals := 148 } s m args below meth c H locs 0 0 (MQ below (gQv G q) args s 0 0 (gA G)) (F0 m 15 ls []) := by
    intro  M_15 hf H locs ls hH hS hl
    subst ek15
    refine lv_aload_n X.1 X.2.1 dX2_passTick_15 rfl (lv_at hl.1 0 rfl) ?_
    refine g_get X cX2 hH (r := 4) (i := 0) (by decide) rfl 4 (by decide) k_386 rfl (v := .ref (gAd G 28 0)) rfl dX2_passTick_16 ?_
    refine g_astore_n X (lv' := [(1, .ref (gAd G 28 0)), (0, .ref (gAd G 4 0))]) dX2_passTick_19 rfl hl (by decide) rfl (fun ls hl => ?_)
    refine lv_aload_n X.1 X.2.1 dX2_passTick_20 rfl (lv_at hl.1 0 rfl) ?_
    refine g_alen X hH (r := 28) (i := 0) (by decide) rfl (t0 := 5) rfl (n := 4) rfl dX2_passTick_21 ?_
    refine g_istore_n X (lv' := [(2, .int (iI 4)), (1, .ref (gAd G 28 0)), (0, .ref (gAd G 4 0))]) dX2_passTick_22 rfl hl (by decide) rfl (fun ls hl => ?_)
    refine lv_iconst X.1 X.2.1 dX2_passTick_23 (v := iI 0) rfl ?_
    refine g_istore_n X (lv' := [(3, .int (iI 0)), (2, .int (iI 4)), (1, .ref (gAd G 28 0)), (0, .ref (gAd G 4 0))]) dX2_passTick_24 rfl hl (by decide) rfl (fun ls hl => ?_)
    refine w_X2_passTick_L25 X _ 4 (nmI_l (by decide)) q ?_ 64 0 (nmI_l (by decide)) M_15 hf _ _ _ hH hS (gLv_sub hl [3, 2, 1, 0] rfl)
    · intro  M_25_46 hf H locs ls hH hS hl
      refine lv_iconst X.1 X.2.1 dX2_passTick_46 (v := iI 0) rfl ?_
      refine g_istore_n X (lv' := [(1, .int (iI 0)), (0, .ref (gAd G 4 0))]) dX2_passTick_47 rfl hl (by decide) rfl (fun ls hl => ?_)
      refine lv_aload_n X.1 X.2.1 dX2_passTick_48 rfl (lv_at hl.1 1 rfl) ?_
      refine g_get X cX2 hH (r := 4) (i := 0) (by decide) rfl 4 (by decide) k_386 rfl (v := .ref (gAd G 28 0)) rfl dX2_passTick_49 ?_
      refine g_astore_n X (lv' := [(2, .ref (gAd G 28 0)), (1, .int (iI 0)), (0, .ref (gAd G 4 0))]) dX2_passTick_52 rfl hl (by decide) rfl (fun ls hl => ?_)
      refine lv_aload_n X.1 X.2.1 dX2_passTick_53 rfl (lv_at hl.1 0 rfl) ?_
      refine g_alen X hH (r := 28) (i := 0) (by decide) rfl (t0 := 5) rfl (n := 4) rfl dX2_passTick_54 ?_
      refine g_istore_n X (lv' := [(3, .int (iI 4)), (2, .ref (gAd G 28 0)), (1, .int (iI 0)), (0, .ref (gAd G 4 0))]) dX2_passTick_55 rfl hl (by decide) rfl (fun ls hl => ?_)
      refine lv_iconst X.1 X.2.1 dX2_passTick_56 (v := iI 0) rfl ?_
      refine g_istore X (lv' := [(4, .int (iI 0)), (3, .int (iI 4)), (2, .ref (gAd G 28 0)), (1, .int (iI 0)), (0, .ref (gAd G 4 0))]) dX2_passTick_57 hl (by decide) rfl (fun ls hl => ?_)
      refine w_X2_passTick_L59 X _ 4 (nmI_l (by decide)) q ?_ 64 0 (by decide) 0 (nmI_l (by decide)) M_25_46 hf _ _ _ hH hS (gLv_sub hl [4, 3, 2, 1, 0] rfl)
      · intro y1_59_93 by1_59_93 M_59_93 hf H locs ls hH hS hl
        refine lv_iload_n X.1 X.2.1 dX2_passTick_93 rfl (lv_at hl.1 1 rfl) ?_
        refine g_if_eq X (nmI_b by1_59_93) (tgt := 101) dX2_passTick_94 (by decide) (fun hc94 => ?_) (fun hc94 => ?_)
        · replace hf := it_t hf hc94
          have hq := Option.some.inj hf; subst hq
          exact gRetV X hH hS dX2_passTick_101
        · replace hf := it_f hf hc94
          refine lv_aload_n X.1 X.2.1 dX2_passTick_97 rfl (lv_at hl.1 0 rfl) ?_
          obtain ⟨r98, hq98, hf_⟩ := ob_e hf; clear hf; have hf := hf_; clear hf_
          refine gGoV (gRunV X hH (As := []) (m_X2_settle l G  M_59_93 _ hq98) calX2_settle k_749 k_7 k_747 (by decide) cX2 rfl ⟨by decide, by decide⟩ rfl hl rfl (Nat.le_of_ble_eq_true rfl) ⟨Nat.le_of_ble_eq_true rfl, Nat.le_of_ble_eq_true rfl⟩ dX2_passTick_98) hS (fun H locs hH hS => ?_)
          have hq := Option.some.inj hf; subst hq
          exact gRetV X hH hS dX2_passTick_101
  clear ek15
  refine g_if_eq X nd5 (tgt := 15) dX2_passTick_8 (by decide) (fun hc8 => ?_) (fun hc8 => ?_)
  · replace hf := it_t hf hc8
    exact hk15 r1 hf _ _ _ hH hS (gLv_sub hl [0] rfl)
  · replace hf := it_f hf hc8
    refine lv_aload_n X.1 X.2.1 dX2_passTick_11 rfl (lv_at hl.1 0 rfl) ?_
    obtain ⟨r12, hq12, hf_⟩ := ob_e hf; clear hf; have hf := hf_; clear hf_
    refine gGoV (gRunV X hH (As := []) (m_X2_speculate l G  r1 _ hq12) calX2_speculate k_867 k_16 k_865 (by decide) cX2 rfl ⟨by decide, by decide⟩ rfl hl rfl (Nat.le_of_ble_eq_true rfl) ⟨Nat.le_of_ble_eq_true rfl, Nat.le_of_ble_eq_true rfl⟩ dX2_passTick_12) hS (fun H locs hH hS => ?_)
    exact hk15 r12 hf _ _ _ hH hS (gLv_sub hl [0] rfl)
theorem m_X0_isSound (l : Launch) (G : gG) (i0 : Nat) (hi0 : i0 < 60) (M : gM) (q : (Int)) (hf : f_X0_isSound i0 M = q) : gMet l yX0_isSound cX0_isSound 1 (some .boolean) 0 0 G M [.ref (gAd G 9 i0)] (gQz G q M) := by
  refine gOfW (by decide) (by show _ ≤ 1; exact Nat.le_of_ble_eq_true rfl) rfl ?_
  intro p e s m below meth c X hH ls hl
  replace hl : gLv ls 1 [(0, .ref (gAd G 9 i0))] := hl
  have hS : va_S (gA G) s.heap s.heap [] := va_S.rf
  generalize hargs : ([.ref (gAd G 9 i0)] : List Value).toArray = args at X ⊢
  clear hargs
  unfold f_X0_isSound at hf
  refine lv_aload_n X.1 X.2.1 dX0_isSound_0 rfl (lv_at hl.1 0 rfl) ?_
  have nd1 : nmI (M 9 i0 2) := hH.1.1 _ _ _
  refine g_get X cX0 hH (r := 9) (i := i0) hi0 rfl 2 (by decide) k_143 rfl (v := .int (iI (M 9 i0 2))) rfl dX0_isSound_1 ?_
  refine lv_iconst X.1 X.2.1 dX0_isSound_4 (v := iI 3) rfl ?_
  refine g_icmp_ne X nd1 (nmI_l (by decide)) (tgt := 19) dX0_isSound_5 (by decide) (fun hc5 => ?_) (fun hc5 => ?_)
  · replace hf := it_f hf hc5
    refine lv_iconst X.1 X.2.1 dX0_isSound_19 (v := iI 0) rfl ?_
    subst hf
    exact gRetZ X hH hS (res := 0) (by decide) dX0_isSound_20
  · replace hf := it_t hf hc5
    refine lv_aload_n X.1 X.2.1 dX0_isSound_8 rfl (lv_at hl.1 0 rfl) ?_
    have nd9 : nmI (M 9 i0 5) := hH.1.1 _ _ _
    have bd9 := hH.1.2.1 9 i0 5 rfl
    refine g_get X cX0 hH (r := 9) (i := i0) hi0 rfl 5 (by decide) k_155 rfl (v := .int (iI (M 9 i0 5))) rfl dX0_isSound_9 ?_
    refine g_if_ne X nd9 (tgt := 19) dX0_isSound_12 (by decide) (fun hc12 => ?_) (fun hc12 => ?_)
    · replace hf := it_f hf hc12
      refine lv_iconst X.1 X.2.1 dX0_isSound_19 (v := iI 0) rfl ?_
      subst hf
      exact gRetZ X hH hS (res := 0) (by decide) dX0_isSound_20
    · replace hf := it_t hf hc12
      refine lv_iconst X.1 X.2.1 dX0_isSound_15 (v := iI 1) rfl ?_
      refine lv_goto (tgt := 20) X.1 X.2.1 dX0_isSound_16 (by decide) ?_
      subst hf
      exact gRetZ X hH hS (res := 1) (by decide) dX0_isSound_20
theorem w_X8_isSoundAlone_L2 {G : gG} {p : Program} {l : Launch} {e : Env} {s : State} {m : MethodId} {args : Array Value} {below : List Frame} {meth : Method} {c : Code} (X : gX G p s m args meth c RX8 cX8_isSoundAlone 2 (some .boolean) (gWs yX8_isSoundAlone cX8_isSoundAlone 2 (some .boolean))) (k29 : Option (Int)) (z0 : Nat) (hz0 : z0 < 15) (M : gM) (q : (Int)) (hk29 : k29 = some q → ∀ (H : Heap) (locs : List Loc) (ls : Array Slot), gH G M H → va_S (gA G) s.heap H locs → gLv ls 2 [] → W p l e { frames := 1, cells := 0, slots := 0, locals := 21 } s m args below meth c H locs 0 0 (MQ below (gQz G q M) args s 0 0 (gA G)) (F0 m 29 ls [])) : ∀ (n : Nat) (x1 : Int) (nx1 : nmI x1), f_X8_isSoundAlone_L2 k29 z0 M n x1 = some q → ∀ (H : Heap) (locs : List Loc) (ls : Array Slot), gH G M H → va_S (gA G) s.heap H locs → gLv ls 2 [(0, .ref (gAd G 7 z0)), (1, .int (iI x1))] → W p l e { frames := 1, cells := 0, slots := 0, locals := 21 } s m args below meth c H locs 0 0 (MQ below (gQz G q M) args s 0 0 (gA G)) (F0 m 2 ls []) := by
  intro n
  induction n with
  | zero =>
    intro x1 nx1 hf
    cases hf
  | succ n ih =>
    intro x1 nx1 hf H locs ls hH hS hl
    rw [f_X8_isSoundAlone_L2] at hf
    refine lv_iload_n X.1 X.2.1 dX8_isSoundAlone_2 rfl (lv_at hl.1 1 rfl) ?_
    refine lv_aload_n X.1 X.2.1 dX8_isSoundAlone_3 rfl (lv_at hl.1 0 rfl) ?_
    have nd4 : nmI (M 7 z0 6) := hH.1.1 _ _ _
    refine g_get X cX8 hH (r := 7) (i := z0) hz0 rfl 6 (by decide) k_199 rfl (v := .int (iI (M 7 z0 6))) rfl dX8_isSoundAlone_4 ?_
    refine g_icmp_ge X nx1 nd4 (tgt := 29) dX8_isSoundAlone_7 (by decide) (fun hc7 => ?_) (fun hc7 => ?_)
    · replace hf := it_f hf hc7
      exact hk29  hf _ _ _ hH hS (gLv_sub hl [] rfl)
    · replace hf := it_t hf hc7
      refine lv_aload_n X.1 X.2.1 dX8_isSoundAlone_10 rfl (lv_at hl.1 0 rfl) ?_
      refine lv_iload_n X.1 X.2.1 dX8_isSoundAlone_11 rfl (lv_at hl.1 1 rfl) ?_
      refine gGoR (gRunV X hH (As := [.int (iI x1)]) (m_X8_actionAt l G z0 hz0 x1 nx1 M _ rfl) calX8_actionAt k_740 k_741 k_739 hz0 cX8 rfl ⟨by decide, by decide⟩ rfl hl rfl (Nat.le_of_ble_eq_true rfl) ⟨Nat.le_of_ble_eq_true rfl, Nat.le_of_ble_eq_true rfl⟩ dX8_isSoundAlone_12) hS (fun H locs hr12 hH hS => ?_)
      replace hr12 : (f_X8_actionAt z0 x1 M) < 60 := hr12
      refine gGoZ (gRunV X hH (As := []) (m_X0_isSound l G ((f_X8_actionAt z0 x1 M)) hr12 M _ rfl) calX0_isSound k_960 k_961 k_959 hr12 cX0 rfl ⟨by decide, by decide⟩ rfl hl rfl (Nat.le_of_ble_eq_true rfl) ⟨Nat.le_of_ble_eq_true rfl, Nat.le_of_ble_eq_true rfl⟩ dX8_isSoundAlone_15) hS (fun H locs br15 hH hS => ?_)
      refine g_if_ne X (nmI_b br15) (tgt := 23) dX8_isSoundAlone_18 (by decide) (fun hc18 => ?_) (fun hc18 => ?_)
      · replace hf := it_f hf hc18
        refine g_iinc X (a := x1) (lv' := [(1, .int (iI (wI (x1 + 1)))), (0, .ref (gAd G 7 z0))]) dX8_isSoundAlone_23 hl (k := 1) rfl (by decide) rfl (fun ls hl => ?_)
        refine lv_goto (tgt := 2) X.1 X.2.1 dX8_isSoundAlone_26 (by decide) ?_
        exact ih (wI (x1 + 1)) (nmI_w _) hf _ _ _ hH hS (gLv_sub hl [1, 0] rfl)
      · replace hf := it_t hf hc18
        refine lv_iconst X.1 X.2.1 dX8_isSoundAlone_21 (v := iI 0) rfl ?_
        have hq := Option.some.inj hf; subst hq
        exact gRetZ X hH hS (res := 0) (by decide) dX8_isSoundAlone_22
theorem m_X8_isSoundAlone (l : Launch) (G : gG) (i0 : Nat) (hi0 : i0 < 15) (M : gM) (q : (Int)) (hf : f_X8_isSoundAlone i0 M = some q) : gMet l yX8_isSoundAlone cX8_isSoundAlone 2 (some .boolean) 1 21 G M [.ref (gAd G 7 i0)] (gQz G q M) := by
  refine gOfW (by decide) (by show _ ≤ 2; exact Nat.le_of_ble_eq_true rfl) rfl ?_
  intro p e s m below meth c X hH ls hl
  replace hl : gLv ls 2 [(0, .ref (gAd G 7 i0))] := hl
  have hS : va_S (gA G) s.heap s.heap [] := va_S.rf
  generalize hargs : ([.ref (gAd G 7 i0)] : List Value).toArray = args at X ⊢
  clear hargs
  unfold f_X8_isSoundAlone at hf
  refine lv_iconst X.1 X.2.1 dX8_isSoundAlone_0 (v := iI 0) rfl ?_
  refine g_istore_n X (lv' := [(1, .int (iI 0)), (0, .ref (gAd G 7 i0))]) dX8_isSoundAlone_1 rfl hl (by decide) rfl (fun ls hl => ?_)
  refine w_X8_isSoundAlone_L2 X _ i0 hi0 M q ?_ 64 0 (nmI_l (by decide)) hf _ _ _ hH hS (gLv_sub hl [1, 0] rfl)
  · intro  hf H locs ls hH hS hl
    refine lv_iconst X.1 X.2.1 dX8_isSoundAlone_29 (v := iI 1) rfl ?_
    have hq := Option.some.inj hf; subst hq
    exact gRetZ X hH hS (res := 1) (by decide) dX8_isSoundAlone_30
theorem w_X5_soundTargets_L4 {G : gG} {p : Program} {l : Launch} {e : Env} {s : State} {m : MethodId} {args : Array Value} {below : List Frame} {meth : Method} {c : Code} (X : gX G p s m args meth c RX5 cX5_soundTargets 4 (some .int) (gWs yX5_soundTargets cX5_soundTargets 4 (some .int))) (k49 : Int → Option (Int)) (M : gM) (q : (Int)) (hk49 : ∀ (x1 : Int) (nx1 : nmI x1), k49 x1 = some q → ∀ (H : Heap) (locs : List Loc) (ls : Array Slot), gH G M H → va_S (gA G) s.heap H locs → gLv ls 4 [(1, .int (iI x1))] → W p l e { frames := 3, cells := 0, slots := 0, locals := 68 } s m args below meth c H locs 0 0 (MQ below (gQi G q M) args s 0 0 (gA G)) (F0 m 49 ls [])) : ∀ (n : Nat) (x1 : Int) (nx1 : nmI x1) (x2 : Int) (nx2 : nmI x2), f_X5_soundTargets_L4 k49 M n x1 x2 = some q → ∀ (H : Heap) (locs : List Loc) (ls : Array Slot), gH G M H → va_S (gA G) s.heap H locs → gLv ls 4 [(0, .ref (gAd G 2 0)), (1, .int (iI x1)), (2, .int (iI x2))] → W p l e { frames := 3, cells := 0, slots := 0, locals := 68 } s m args below meth c H locs 0 0 (MQ below (gQi G q M) args s 0 0 (gA G)) (F0 m 4 ls []) := by
  intro n
  induction n with
  | zero =>
    intro x1 nx1 x2 nx2 hf
    cases hf
  | succ n ih =>
    intro x1 nx1 x2 nx2 hf H locs ls hH hS hl
    rw [f_X5_soundTargets_L4] at hf
    refine lv_iload_n X.1 X.2.1 dX5_soundTargets_4 rfl (lv_at hl.1 2 rfl) ?_
    refine lv_aload_n X.1 X.2.1 dX5_soundTargets_5 rfl (lv_at hl.1 0 rfl) ?_
    have nd6 : nmI (M 2 0 5) := hH.1.1 _ _ _
    refine g_get X cX5 hH (r := 2) (i := 0) (by decide) rfl 5 (by decide) k_250 rfl (v := .int (iI (M 2 0 5))) rfl dX5_soundTargets_6 ?_
    refine g_icmp_ge X nx2 nd6 (tgt := 49) dX5_soundTargets_9 (by decide) (fun hc9 => ?_) (fun hc9 => ?_)
    · replace hf := it_f hf hc9
      exact hk49 x1 nx1 hf _ _ _ hH hS (gLv_sub hl [1] rfl)
    · replace hf := it_t hf hc9
      refine lv_aload_n X.1 X.2.1 dX5_soundTargets_12 rfl (lv_at hl.1 0 rfl) ?_
      refine lv_iload_n X.1 X.2.1 dX5_soundTargets_13 rfl (lv_at hl.1 2 rfl) ?_
      refine gGoR (gRunV X hH (As := [.int (iI x2)]) (m_X5_targetAt l G x2 nx2 M _ rfl) calX5_targetAt k_631 k_632 k_638 (by decide) cX5 rfl ⟨by decide, by decide⟩ rfl hl rfl (Nat.le_of_ble_eq_true rfl) ⟨Nat.le_of_ble_eq_true rfl, Nat.le_of_ble_eq_true rfl⟩ dX5_soundTargets_14) hS (fun H locs hr14 hH hS => ?_)
      replace hr14 : (f_X5_targetAt x2 M) < 15 := hr14
      refine g_astore_n X (lv' := [(3, .ref (gAd G 7 ((f_X5_targetAt x2 M)))), (0, .ref (gAd G 2 0)), (1, .int (iI x1)), (2, .int (iI x2))]) dX5_soundTargets_17 rfl hl (by decide) rfl (fun ls hl => ?_)
      refine lv_aload_n X.1 X.2.1 dX5_soundTargets_18 rfl (lv_at hl.1 0 rfl) ?_
      obtain ⟨r19, hq19, hf_⟩ := ob_e hf; clear hf; have hf := hf_; clear hf_
      refine gGoZ (gRunV X hH (As := []) (m_X8_isSoundAlone l G ((f_X5_targetAt x2 M)) hr14 M _ hq19) calX8_isSoundAlone k_956 k_957 k_955 hr14 cX8 rfl ⟨by decide, by decide⟩ rfl hl rfl (Nat.le_of_ble_eq_true rfl) ⟨Nat.le_of_ble_eq_true rfl, Nat.le_of_ble_eq_true rfl⟩ dX5_soundTargets_19) hS (fun H locs br19 hH hS => ?_)
      obtain ⟨k43, ek43, hf_⟩ := oj_e hf; clear hf; have hf := hf_; clear hf_
      have hk43 : ∀ (x1_43 : Int) (nx1_43 : nmI x1_43), k43 x1_43 = some q → ∀ (H : Heap) (locs : List Loc) (ls : Array Slot), gH G M H → va_S (gA G) s.heap H locs → gLv ls 4 [(0, .ref (gAd G 2 0)), (1, .int (iI x1_43)), (2, .int (iI x2))] → W p l e { frames := 3, cells := 0, slots := 0, locals := 68 } s m args below meth c H locs 0 0 (MQ below (gQi G q M) args s 0 0 (gA G)) (F0 m 43 ls []) := by
        intro x1_43 nx1_43 hf H locs ls hH hS hl
        subst ek43
        refine g_iinc X (a := x2) (lv' := [(2, .int (iI (wI (x2 + 1)))), (0, .ref (gAd G 2 0)), (1, .int (iI x1_43))]) dX5_soundTargets_43 hl (k := 2) rfl (by decide) rfl (fun ls hl => ?_)
        refine lv_goto (tgt := 4) X.1 X.2.1 dX5_soundTargets_46 (by decide) ?_
        exact ih x1_43 nx1_43 (wI (x2 + 1)) (nmI_w _) hf _ _ _ hH hS (gLv_sub hl [1, 2, 0] rfl)
      clear ek43
      refine g_if_eq X (nmI_b br19) (tgt := 43) dX5_soundTargets_22 (by decide) (fun hc22 => ?_) (fun hc22 => ?_)
      · replace hf := it_t hf hc22
        exact hk43 x1 nx1 hf _ _ _ hH hS (gLv_sub hl [1, 2, 3] rfl)
      · replace hf := it_f hf hc22
        refine lv_aload_n X.1 X.2.1 dX5_soundTargets_25 rfl (lv_at hl.1 1 rfl) ?_
        refine lv_aload_n X.1 X.2.1 dX5_soundTargets_26 rfl (lv_at hl.1 0 rfl) ?_
        obtain ⟨r27, hq27, hf_⟩ := ob_e hf; clear hf; have hf := hf_; clear hf_
        refine gGoI (gRunV X hH (As := [.ref (gAd G 7 ((f_X5_targetAt x2 M)))]) (m_X5_inputTargets l G ((f_X5_targetAt x2 M)) hr14 M _ hq27) calX5_inputTargets k_723 k_724 k_722 (by decide) cX5 rfl ⟨by decide, by decide⟩ rfl hl rfl (Nat.le_of_ble_eq_true rfl) ⟨Nat.le_of_ble_eq_true rfl, Nat.le_of_ble_eq_true rfl⟩ dX5_soundTargets_27) hS (fun H locs nr27 hH hS => ?_)
        refine lv_iload_n X.1 X.2.1 dX5_soundTargets_30 rfl (lv_at hl.1 2 rfl) ?_
        refine lv_iconst X.1 X.2.1 dX5_soundTargets_31 (v := iI (-1)) rfl ?_
        refine g_ixor X dX5_soundTargets_32 ?_
        refine g_iand X dX5_soundTargets_33 ?_
        refine g_if_ne X (nmI_and _ _) (tgt := 43) dX5_soundTargets_34 (by decide) (fun hc34 => ?_) (fun hc34 => ?_)
        · replace hf := it_f hf hc34
          exact hk43 x1 nx1 hf _ _ _ hH hS (gLv_sub hl [1, 2, 3] rfl)
        · replace hf := it_t hf hc34
          refine lv_iload_n X.1 X.2.1 dX5_soundTargets_37 rfl (lv_at hl.1 2 rfl) ?_
          refine lv_iconst X.1 X.2.1 dX5_soundTargets_38 (v := iI 1) rfl ?_
          refine lv_iload_n X.1 X.2.1 dX5_soundTargets_39 rfl (lv_at hl.1 3 rfl) ?_
          refine g_ishl X dX5_soundTargets_40 ?_
          refine g_ior X dX5_soundTargets_41 ?_
          refine g_istore_n X (lv' := [(1, .int (iI (gOr x1 (gShl 1 x2)))), (3, .ref (gAd G 7 ((f_X5_targetAt x2 M)))), (0, .ref (gAd G 2 0)), (2, .int (iI x2))]) dX5_soundTargets_42 rfl hl (by decide) rfl (fun ls hl => ?_)
          exact hk43 (gOr x1 (gShl 1 x2)) (nmI_or _ _) hf _ _ _ hH hS (gLv_sub hl [2, 0, 3] rfl)
theorem m_X5_soundTargets (l : Launch) (G : gG)  (M : gM) (q : (Int)) (hf : f_X5_soundTargets M = some q) : gMet l yX5_soundTargets cX5_soundTargets 4 (some .int) 3 68 G M [.ref (gAd G 2 0)] (gQi G q M) := by
  refine gOfW (by decide) (by show _ ≤ 4; exact Nat.le_of_ble_eq_true rfl) rfl ?_
  intro p e s m below meth c X hH ls hl
  replace hl : gLv ls 4 [(0, .ref (gAd G 2 0))] := hl
  have hS : va_S (gA G) s.heap s.heap [] := va_S.rf
  generalize hargs : ([.ref (gAd G 2 0)] : List Value).toArray = args at X ⊢
  clear hargs
  unfold f_X5_soundTargets at hf
  refine lv_iconst X.1 X.2.1 dX5_soundTargets_0 (v := iI 0) rfl ?_
  refine g_istore_n X (lv' := [(1, .int (iI 0)), (0, .ref (gAd G 2 0))]) dX5_soundTargets_1 rfl hl (by decide) rfl (fun ls hl => ?_)
  refine lv_iconst X.1 X.2.1 dX5_soundTargets_2 (v := iI 0) rfl ?_
  refine g_istore_n X (lv' := [(2, .int (iI 0)), (1, .int (iI 0)), (0, .ref (gAd G 2 0))]) dX5_soundTargets_3 rfl hl (by decide) rfl (fun ls hl => ?_)
  refine w_X5_soundTargets_L4 X _ M q ?_ 64 0 (nmI_l (by decide)) 0 (nmI_l (by decide)) hf _ _ _ hH hS (gLv_sub hl [2, 1, 0] rfl)
  · intro y1_4_49 ny1_4_49 hf H locs ls hH hS hl
    refine lv_iload_n X.1 X.2.1 dX5_soundTargets_49 rfl (lv_at hl.1 0 rfl) ?_
    have hq := Option.some.inj hf; subst hq
    exact gRetI X hH hS (res := y1_4_49) ny1_4_49 dX5_soundTargets_50
theorem w_X8_isAllDone_L2 {G : gG} {p : Program} {l : Launch} {e : Env} {s : State} {m : MethodId} {args : Array Value} {below : List Frame} {meth : Method} {c : Code} (X : gX G p s m args meth c RX8 cX8_isAllDone 2 (some .boolean) (gWs yX8_isAllDone cX8_isAllDone 2 (some .boolean))) (k30 : Option (Int)) (z0 : Nat) (hz0 : z0 < 15) (M : gM) (q : (Int)) (hk30 : k30 = some q → ∀ (H : Heap) (locs : List Loc) (ls : Array Slot), gH G M H → va_S (gA G) s.heap H locs → gLv ls 2 [] → W p l e { frames := 1, cells := 0, slots := 0, locals := 21 } s m args below meth c H locs 0 0 (MQ below (gQz G q M) args s 0 0 (gA G)) (F0 m 30 ls [])) : ∀ (n : Nat) (x1 : Int) (nx1 : nmI x1), f_X8_isAllDone_L2 k30 z0 M n x1 = some q → ∀ (H : Heap) (locs : List Loc) (ls : Array Slot), gH G M H → va_S (gA G) s.heap H locs → gLv ls 2 [(0, .ref (gAd G 7 z0)), (1, .int (iI x1))] → W p l e { frames := 1, cells := 0, slots := 0, locals := 21 } s m args below meth c H locs 0 0 (MQ below (gQz G q M) args s 0 0 (gA G)) (F0 m 2 ls []) := by
  intro n
  induction n with
  | zero =>
    intro x1 nx1 hf
    cases hf
  | succ n ih =>
    intro x1 nx1 hf H locs ls hH hS hl
    rw [f_X8_isAllDone_L2] at hf
    refine lv_iload_n X.1 X.2.1 dX8_isAllDone_2 rfl (lv_at hl.1 1 rfl) ?_
    refine lv_aload_n X.1 X.2.1 dX8_isAllDone_3 rfl (lv_at hl.1 0 rfl) ?_
    have nd4 : nmI (M 7 z0 6) := hH.1.1 _ _ _
    refine g_get X cX8 hH (r := 7) (i := z0) hz0 rfl 6 (by decide) k_199 rfl (v := .int (iI (M 7 z0 6))) rfl dX8_isAllDone_4 ?_
    refine g_icmp_ge X nx1 nd4 (tgt := 30) dX8_isAllDone_7 (by decide) (fun hc7 => ?_) (fun hc7 => ?_)
    · replace hf := it_f hf hc7
      exact hk30  hf _ _ _ hH hS (gLv_sub hl [] rfl)
    · replace hf := it_t hf hc7
      refine lv_aload_n X.1 X.2.1 dX8_isAllDone_10 rfl (lv_at hl.1 0 rfl) ?_
      refine lv_iload_n X.1 X.2.1 dX8_isAllDone_11 rfl (lv_at hl.1 1 rfl) ?_
      refine gGoR (gRunV X hH (As := [.int (iI x1)]) (m_X8_actionAt l G z0 hz0 x1 nx1 M _ rfl) calX8_actionAt k_740 k_741 k_739 hz0 cX8 rfl ⟨by decide, by decide⟩ rfl hl rfl (Nat.le_of_ble_eq_true rfl) ⟨Nat.le_of_ble_eq_true rfl, Nat.le_of_ble_eq_true rfl⟩ dX8_isAllDone_12) hS (fun H locs hr12 hH hS => ?_)
      replace hr12 : (f_X8_actionAt z0 x1 M) < 60 := hr12
      have nd15 : nmI (M 9 ((f_X8_actionAt z0 x1 M)) 2) := hH.1.1 _ _ _
      refine g_get X cX0 hH (r := 9) (i := (f_X8_actionAt z0 x1 M)) hr12 rfl 2 (by decide) k_144 rfl (v := .int (iI (M 9 ((f_X8_actionAt z0 x1 M)) 2))) rfl dX8_isAllDone_15 ?_
      refine lv_iconst X.1 X.2.1 dX8_isAllDone_18 (v := iI 3) rfl ?_
      refine g_icmp_eq X nd15 (nmI_l (by decide)) (tgt := 24) dX8_isAllDone_19 (by decide) (fun hc19 => ?_) (fun hc19 => ?_)
      · replace hf := it_t hf hc19
        refine g_iinc X (a := x1) (lv' := [(1, .int (iI (wI (x1 + 1)))), (0, .ref (gAd G 7 z0))]) dX8_isAllDone_24 hl (k := 1) rfl (by decide) rfl (fun ls hl => ?_)
        refine lv_goto (tgt := 2) X.1 X.2.1 dX8_isAllDone_27 (by decide) ?_
        exact ih (wI (x1 + 1)) (nmI_w _) hf _ _ _ hH hS (gLv_sub hl [1, 0] rfl)
      · replace hf := it_f hf hc19
        refine lv_iconst X.1 X.2.1 dX8_isAllDone_22 (v := iI 0) rfl ?_
        have hq := Option.some.inj hf; subst hq
        exact gRetZ X hH hS (res := 0) (by decide) dX8_isAllDone_23
theorem m_X8_isAllDone (l : Launch) (G : gG) (i0 : Nat) (hi0 : i0 < 15) (M : gM) (q : (Int)) (hf : f_X8_isAllDone i0 M = some q) : gMet l yX8_isAllDone cX8_isAllDone 2 (some .boolean) 1 21 G M [.ref (gAd G 7 i0)] (gQz G q M) := by
  refine gOfW (by decide) (by show _ ≤ 2; exact Nat.le_of_ble_eq_true rfl) rfl ?_
  intro p e s m below meth c X hH ls hl
  replace hl : gLv ls 2 [(0, .ref (gAd G 7 i0))] := hl
  have hS : va_S (gA G) s.heap s.heap [] := va_S.rf
  generalize hargs : ([.ref (gAd G 7 i0)] : List Value).toArray = args at X ⊢
  clear hargs
  unfold f_X8_isAllDone at hf
  refine lv_iconst X.1 X.2.1 dX8_isAllDone_0 (v := iI 0) rfl ?_
  refine g_istore_n X (lv' := [(1, .int (iI 0)), (0, .ref (gAd G 7 i0))]) dX8_isAllDone_1 rfl hl (by decide) rfl (fun ls hl => ?_)
  refine w_X8_isAllDone_L2 X _ i0 hi0 M q ?_ 64 0 (nmI_l (by decide)) hf _ _ _ hH hS (gLv_sub hl [1, 0] rfl)
  · intro  hf H locs ls hH hS hl
    refine lv_iconst X.1 X.2.1 dX8_isAllDone_30 (v := iI 1) rfl ?_
    have hq := Option.some.inj hf; subst hq
    exact gRetZ X hH hS (res := 1) (by decide) dX8_isAllDone_31
theorem w_X7_filesAfter_L2 {G : gG} {p : Program} {l : Launch} {e : Env} {s : State} {m : MethodId} {args : Array Value} {below : List Frame} {meth : Method} {c : Code} (X : gX G p s m args meth c RX7 cX7_filesAfter 4 none (gWs yX7_filesAfter cX7_filesAfter 4 none)) (k27 : gM → Option gM) (z1 : Int) (nz1 : nmI z1) (q : gM) (hk27 : ∀  (M : gM), k27 M = some q → ∀ (H : Heap) (locs : List Loc) (ls : Array Slot), gH G M H → va_S (gA G) s.heap H locs → gLv ls 4 [(0, .ref (gAd G 1 0)), (1, .int (iI z1)), (2, .ref (gAd G 12 1))] → W p l e { frames := 1, cells := 0, slots := 0, locals := 22 } s m args below meth c H locs 0 0 (MQ below (gQv G q) args s 0 0 (gA G)) (F0 m 27 ls [])) : ∀ (n : Nat) (x3 : Int) (nx3 : nmI x3) (M : gM), f_X7_filesAfter_L2 k27 z1 n x3 M = some q → ∀ (H : Heap) (locs : List Loc) (ls : Array Slot), gH G M H → va_S (gA G) s.heap H locs → gLv ls 4 [(0, .ref (gAd G 1 0)), (1, .int (iI z1)), (2, .ref (gAd G 12 1)), (3, .int (iI x3))] → W p l e { frames := 1, cells := 0, slots := 0, locals := 22 } s m args below meth c H locs 0 0 (MQ below (gQv G q) args s 0 0 (gA G)) (F0 m 2 ls []) := by
  intro n
  induction n with
  | zero =>
    intro x3 nx3 M hf
    cases hf
  | succ n ih =>
    intro x3 nx3 M hf H locs ls hH hS hl
    rw [f_X7_filesAfter_L2] at hf
    refine lv_iload_n X.1 X.2.1 dX7_filesAfter_2 rfl (lv_at hl.1 3 rfl) ?_
    refine lv_bipush X.1 X.2.1 dX7_filesAfter_3 (v := iI 16) (by decide) ?_
    refine g_icmp_ge X nx3 (nmI_l (by decide)) (tgt := 27) dX7_filesAfter_5 (by decide) (fun hc5 => ?_) (fun hc5 => ?_)
    · replace hf := it_f hf hc5
      exact hk27 M hf _ _ _ hH hS (gLv_sub hl [0, 1, 2] rfl)
    · replace hf := it_t hf hc5
      refine lv_aload_n X.1 X.2.1 dX7_filesAfter_8 rfl (lv_at hl.1 2 rfl) ?_
      refine lv_iload_n X.1 X.2.1 dX7_filesAfter_9 rfl (lv_at hl.1 3 rfl) ?_
      refine lv_aload_n X.1 X.2.1 dX7_filesAfter_10 rfl (lv_at hl.1 0 rfl) ?_
      refine g_get X cX7 hH (r := 1) (i := 0) (by decide) rfl 0 (by decide) k_64 rfl (v := .ref (gAd G 12 0)) rfl dX7_filesAfter_11 ?_
      refine lv_iload_n X.1 X.2.1 dX7_filesAfter_14 rfl (lv_at hl.1 3 rfl) ?_
      refine gGoI (gRunSN X hH (As := [.ref (gAd G 12 0), .int (iI x3)]) (m_X11_at l G 12 0 16 (by decide) gArr_12 x3 nx3 M _ rfl) calX11_at k_563 k_576 ⟨by decide, by decide⟩ rfl hl rfl (Nat.le_of_ble_eq_true rfl) ⟨Nat.le_of_ble_eq_true rfl, Nat.le_of_ble_eq_true rfl⟩ dX7_filesAfter_15) hS (fun H locs nr15 hH hS => ?_)
      refine gGoV (gRunSN X hH (As := [.ref (gAd G 12 1), .int (iI x3), .int (iI ((f_X11_at 12 0 16 x3 M)))]) (m_X11_store l G 12 1 16 (by decide) gArr_12 x3 nx3 ((f_X11_at 12 0 16 x3 M)) nr15 M _ rfl) calX11_store k_566 k_577 ⟨by decide, by decide⟩ rfl hl rfl (Nat.le_of_ble_eq_true rfl) ⟨Nat.le_of_ble_eq_true rfl, Nat.le_of_ble_eq_true rfl⟩ dX7_filesAfter_18) hS (fun H locs hH hS => ?_)
      refine g_iinc X (a := x3) (lv' := [(3, .int (iI (wI (x3 + 1)))), (0, .ref (gAd G 1 0)), (1, .int (iI z1)), (2, .ref (gAd G 12 1))]) dX7_filesAfter_21 hl (k := 3) rfl (by decide) rfl (fun ls hl => ?_)
      refine lv_goto (tgt := 2) X.1 X.2.1 dX7_filesAfter_24 (by decide) ?_
      exact ih (wI (x3 + 1)) (nmI_w _) ((f_X11_store 12 1 16 x3 ((f_X11_at 12 0 16 x3 M)) M)) hf _ _ _ hH hS (gLv_sub hl [1, 2, 3, 0] rfl)
theorem w_X7_filesAfter_L34 {G : gG} {p : Program} {l : Launch} {e : Env} {s : State} {m : MethodId} {args : Array Value} {below : List Frame} {meth : Method} {c : Code} (X : gX G p s m args meth c RX7 cX7_filesAfter 4 none (gWs yX7_filesAfter cX7_filesAfter 4 none)) (k65 : gM → Option gM) (z1 : Int) (nz1 : nmI z1) (q : gM) (hk65 : ∀  (M : gM), k65 M = some q → ∀ (H : Heap) (locs : List Loc) (ls : Array Slot), gH G M H → va_S (gA G) s.heap H locs → gLv ls 4 [] → W p l e { frames := 1, cells := 0, slots := 0, locals := 22 } s m args below meth c H locs 0 0 (MQ below (gQv G q) args s 0 0 (gA G)) (F0 m 65 ls [])) : ∀ (n : Nat) (x3 : Int) (nx3 : nmI x3) (M : gM), f_X7_filesAfter_L34 k65 z1 n x3 M = some q → ∀ (H : Heap) (locs : List Loc) (ls : Array Slot), gH G M H → va_S (gA G) s.heap H locs → gLv ls 4 [(0, .ref (gAd G 1 0)), (1, .int (iI z1)), (2, .ref (gAd G 12 1)), (3, .int (iI x3))] → W p l e { frames := 1, cells := 0, slots := 0, locals := 22 } s m args below meth c H locs 0 0 (MQ below (gQv G q) args s 0 0 (gA G)) (F0 m 34 ls []) := by
  intro n
  induction n with
  | zero =>
    intro x3 nx3 M hf
    cases hf
  | succ n ih =>
    intro x3 nx3 M hf H locs ls hH hS hl
    rw [f_X7_filesAfter_L34] at hf
    refine lv_iload_n X.1 X.2.1 dX7_filesAfter_34 rfl (lv_at hl.1 3 rfl) ?_
    refine lv_iload_n X.1 X.2.1 dX7_filesAfter_35 rfl (lv_at hl.1 1 rfl) ?_
    refine g_icmp_lt X nx3 nz1 (tgt := 65) dX7_filesAfter_36 (by decide) (fun hc36 => ?_) (fun hc36 => ?_)
    · replace hf := it_t hf hc36
      exact hk65 M hf _ _ _ hH hS (gLv_sub hl [] rfl)
    · replace hf := it_f hf hc36
      refine lv_aload_n X.1 X.2.1 dX7_filesAfter_39 rfl (lv_at hl.1 2 rfl) ?_
      refine lv_aload_n X.1 X.2.1 dX7_filesAfter_40 rfl (lv_at hl.1 0 rfl) ?_
      refine g_get X cX7 hH (r := 1) (i := 0) (by decide) rfl 3 (by decide) k_71 rfl (v := .ref (gAd G 15 0)) rfl dX7_filesAfter_41 ?_
      refine lv_iload_n X.1 X.2.1 dX7_filesAfter_44 rfl (lv_at hl.1 3 rfl) ?_
      refine gGoI (gRunSN X hH (As := [.ref (gAd G 15 0), .int (iI x3)]) (m_X11_at l G 15 0 30 (by decide) gArr_15 x3 nx3 M _ rfl) calX11_at k_563 k_576 ⟨by decide, by decide⟩ rfl hl rfl (Nat.le_of_ble_eq_true rfl) ⟨Nat.le_of_ble_eq_true rfl, Nat.le_of_ble_eq_true rfl⟩ dX7_filesAfter_45) hS (fun H locs nr45 hH hS => ?_)
      refine lv_aload_n X.1 X.2.1 dX7_filesAfter_48 rfl (lv_at hl.1 0 rfl) ?_
      refine g_get X cX7 hH (r := 1) (i := 0) (by decide) rfl 4 (by decide) k_72 rfl (v := .ref (gAd G 16 0)) rfl dX7_filesAfter_49 ?_
      refine lv_iload_n X.1 X.2.1 dX7_filesAfter_52 rfl (lv_at hl.1 3 rfl) ?_
      refine gGoI (gRunSN X hH (As := [.ref (gAd G 16 0), .int (iI x3)]) (m_X11_at l G 16 0 30 (by decide) gArr_16 x3 nx3 M _ rfl) calX11_at k_563 k_576 ⟨by decide, by decide⟩ rfl hl rfl (Nat.le_of_ble_eq_true rfl) ⟨Nat.le_of_ble_eq_true rfl, Nat.le_of_ble_eq_true rfl⟩ dX7_filesAfter_53) hS (fun H locs nr53 hH hS => ?_)
      refine gGoV (gRunSN X hH (As := [.ref (gAd G 12 1), .int (iI ((f_X11_at 15 0 30 x3 M))), .int (iI ((f_X11_at 16 0 30 x3 M)))]) (m_X11_store l G 12 1 16 (by decide) gArr_12 ((f_X11_at 15 0 30 x3 M)) nr45 ((f_X11_at 16 0 30 x3 M)) nr53 M _ rfl) calX11_store k_566 k_577 ⟨by decide, by decide⟩ rfl hl rfl (Nat.le_of_ble_eq_true rfl) ⟨Nat.le_of_ble_eq_true rfl, Nat.le_of_ble_eq_true rfl⟩ dX7_filesAfter_56) hS (fun H locs hH hS => ?_)
      refine g_iinc X (a := x3) (lv' := [(3, .int (iI (wI (x3 + (-1))))), (0, .ref (gAd G 1 0)), (1, .int (iI z1)), (2, .ref (gAd G 12 1))]) dX7_filesAfter_59 hl (k := 3) rfl (by decide) rfl (fun ls hl => ?_)
      refine lv_goto (tgt := 34) X.1 X.2.1 dX7_filesAfter_62 (by decide) ?_
      exact ih (wI (x3 + (-1))) (nmI_w _) ((f_X11_store 12 1 16 ((f_X11_at 15 0 30 x3 M)) ((f_X11_at 16 0 30 x3 M)) M)) hf _ _ _ hH hS (gLv_sub hl [1, 2, 3, 0] rfl)
theorem m_X7_filesAfter (l : Launch) (G : gG) (v1 : Int) (nv1 : nmI v1) (M : gM) (q : gM) (hf : f_X7_filesAfter v1 M = some q) : gMet l yX7_filesAfter cX7_filesAfter 4 none 1 22 G M [.ref (gAd G 1 0), .int (iI v1), .ref (gAd G 12 1)] (gQv G q) := by
  refine gOfW (by decide) (by show _ ≤ 4; exact Nat.le_of_ble_eq_true rfl) rfl ?_
  intro p e s m below meth c X hH ls hl
  replace hl : gLv ls 4 [(0, .ref (gAd G 1 0)), (1, .int (iI v1)), (2, .ref (gAd G 12 1))] := hl
  have hS : va_S (gA G) s.heap s.heap [] := va_S.rf
  generalize hargs : ([.ref (gAd G 1 0), .int (iI v1), .ref (gAd G 12 1)] : List Value).toArray = args at X ⊢
  clear hargs
  unfold f_X7_filesAfter at hf
  refine lv_iconst X.1 X.2.1 dX7_filesAfter_0 (v := iI 0) rfl ?_
  refine g_istore_n X (lv' := [(3, .int (iI 0)), (0, .ref (gAd G 1 0)), (1, .int (iI v1)), (2, .ref (gAd G 12 1))]) dX7_filesAfter_1 rfl hl (by decide) rfl (fun ls hl => ?_)
  refine w_X7_filesAfter_L2 X _ v1 nv1 q ?_ 64 0 (nmI_l (by decide)) M hf _ _ _ hH hS (gLv_sub hl [1, 2, 3, 0] rfl)
  · intro  M_2_27 hf H locs ls hH hS hl
    refine lv_aload_n X.1 X.2.1 dX7_filesAfter_27 rfl (lv_at hl.1 0 rfl) ?_
    have nd28 : nmI (M_2_27 1 0 5) := hH.1.1 _ _ _
    refine g_get X cX7 hH (r := 1) (i := 0) (by decide) rfl 5 (by decide) k_73 rfl (v := .int (iI (M_2_27 1 0 5))) rfl dX7_filesAfter_28 ?_
    refine lv_iconst X.1 X.2.1 dX7_filesAfter_31 (v := iI 1) rfl ?_
    refine g_isub X dX7_filesAfter_32 ?_
    refine g_istore_n X (lv' := [(3, .int (iI (wI ((M_2_27 1 0 5) - 1)))), (0, .ref (gAd G 1 0)), (1, .int (iI v1)), (2, .ref (gAd G 12 1))]) dX7_filesAfter_33 rfl hl (by decide) rfl (fun ls hl => ?_)
    refine w_X7_filesAfter_L34 X _ v1 nv1 q ?_ 64 (wI ((M_2_27 1 0 5) - 1)) (nmI_w _) M_2_27 hf _ _ _ hH hS (gLv_sub hl [1, 2, 3, 0] rfl)
    · intro  M_34_65 hf H locs ls hH hS hl
      have hq := Option.some.inj hf; subst hq
      exact gRetV X hH hS dX7_filesAfter_65
theorem w_X4_makeTarget_L30 {G : gG} {p : Program} {l : Launch} {e : Env} {s : State} {m : MethodId} {args : Array Value} {below : List Frame} {meth : Method} {c : Code} (X : gX G p s m args meth c RX4 cX4_makeTarget 7 none (gWs yX4_makeTarget cX4_makeTarget 7 none)) (k109 : Int → Int → Option gM) (z1 : Nat) (hz1 : z1 < 15) (M : gM) (q : gM) (hk109 : ∀ (x2 : Int) (nx2 : nmI x2) (x3 : Int) (bx3 : x3 = 0 ∨ x3 = 1), k109 x2 x3 = some q → ∀ (H : Heap) (locs : List Loc) (ls : Array Slot), gH G M H → va_S (gA G) s.heap H locs → gLv ls 7 [(0, .ref (gAd G 5 0)), (1, .ref (gAd G 7 z1)), (2, .int (iI x2)), (3, .int (iI x3))] → W p l e { frames := 3, cells := 0, slots := 0, locals := 69 } s m args below meth c H locs 0 0 (MQ below (gQv G q) args s 0 0 (gA G)) (F0 m 109 ls [])) : ∀ (n : Nat) (x2 : Int) (nx2 : nmI x2) (x3 : Int) (bx3 : x3 = 0 ∨ x3 = 1) (x4 : Int) (nx4 : nmI x4), f_X4_makeTarget_L30 k109 z1 M n x2 x3 x4 = some q → ∀ (H : Heap) (locs : List Loc) (ls : Array Slot), gH G M H → va_S (gA G) s.heap H locs → gLv ls 7 [(0, .ref (gAd G 5 0)), (1, .ref (gAd G 7 z1)), (2, .int (iI x2)), (3, .int (iI x3)), (4, .int (iI x4))] → W p l e { frames := 3, cells := 0, slots := 0, locals := 69 } s m args below meth c H locs 0 0 (MQ below (gQv G q) args s 0 0 (gA G)) (F0 m 30 ls []) := by
  intro n
  induction n with
  | zero =>
    intro x2 nx2 x3 bx3 x4 nx4 hf
    cases hf
  | succ n ih =>
    intro x2 nx2 x3 bx3 x4 nx4 hf H locs ls hH hS hl
    rw [f_X4_makeTarget_L30] at hf
    refine lv_iload X.1 X.2.1 dX4_makeTarget_30 (lv_at hl.1 4 rfl) ?_
    refine lv_aload_n X.1 X.2.1 dX4_makeTarget_32 rfl (lv_at hl.1 1 rfl) ?_
    have nd33 : nmI (M 7 z1 6) := hH.1.1 _ _ _
    refine g_get X cX8 hH (r := 7) (i := z1) hz1 rfl 6 (by decide) k_201 rfl (v := .int (iI (M 7 z1 6))) rfl dX4_makeTarget_33 ?_
    refine g_icmp_ge X nx4 nd33 (tgt := 109) dX4_makeTarget_36 (by decide) (fun hc36 => ?_) (fun hc36 => ?_)
    · replace hf := it_f hf hc36
      exact hk109 x2 nx2 x3 bx3 hf _ _ _ hH hS (gLv_sub hl [0, 1, 2, 3] rfl)
    · replace hf := it_t hf hc36
      refine lv_aload_n X.1 X.2.1 dX4_makeTarget_39 rfl (lv_at hl.1 0 rfl) ?_
      refine g_get X cX4 hH (r := 5) (i := 0) (by decide) rfl 2 (by decide) k_430 rfl (v := .ref (gAd G 6 1)) rfl dX4_makeTarget_40 ?_
      refine lv_aload_n X.1 X.2.1 dX4_makeTarget_43 rfl (lv_at hl.1 1 rfl) ?_
      refine lv_iload X.1 X.2.1 dX4_makeTarget_44 (lv_at hl.1 4 rfl) ?_
      obtain ⟨r46, hq46, hf_⟩ := ob_e hf; clear hf; have hf := hf_; clear hf_
      refine gGoI (gRunV X hH (As := [.ref (gAd G 7 z1), .int (iI x4)]) (m_X9_keyOf l G 1 (by decide) z1 hz1 x4 nx4 M _ hq46) calX9_keyOf k_764 k_765 k_986 (by decide) cX9 rfl ⟨by decide, by decide⟩ rfl hl rfl (Nat.le_of_ble_eq_true rfl) ⟨Nat.le_of_ble_eq_true rfl, Nat.le_of_ble_eq_true rfl⟩ dX4_makeTarget_46) hS (fun H locs nr46 hH hS => ?_)
      refine g_istore X (lv' := [(5, .int (iI r46)), (0, .ref (gAd G 5 0)), (1, .ref (gAd G 7 z1)), (2, .int (iI x2)), (3, .int (iI x3)), (4, .int (iI x4))]) dX4_makeTarget_49 hl (by decide) rfl (fun ls hl => ?_)
      refine lv_iload X.1 X.2.1 dX4_makeTarget_51 (lv_at hl.1 0 rfl) ?_
      refine lv_aload_n X.1 X.2.1 dX4_makeTarget_53 rfl (lv_at hl.1 1 rfl) ?_
      refine g_get X cX4 hH (r := 5) (i := 0) (by decide) rfl 2 (by decide) k_430 rfl (v := .ref (gAd G 6 1)) rfl dX4_makeTarget_54 ?_
      refine lv_aload_n X.1 X.2.1 dX4_makeTarget_57 rfl (lv_at hl.1 2 rfl) ?_
      refine lv_iload X.1 X.2.1 dX4_makeTarget_58 (lv_at hl.1 0 rfl) ?_
      refine gGoI (gRunV X hH (As := [.ref (gAd G 7 z1), .int (iI r46)]) (m_X9_contentFound l G 1 (by decide) z1 hz1 r46 nr46 M _ rfl) calX9_contentFound k_777 k_778 k_987 (by decide) cX9 rfl ⟨by decide, by decide⟩ rfl hl rfl (Nat.le_of_ble_eq_true rfl) ⟨Nat.le_of_ble_eq_true rfl, Nat.le_of_ble_eq_true rfl⟩ dX4_makeTarget_60) hS (fun H locs nr60 hH hS => ?_)
      refine gGoI (gRunSN X hH (As := [.int (iI r46), .int (iI ((f_X9_contentFound 1 z1 r46 M)))]) (m_X11_resultOf l G r46 nr46 ((f_X9_contentFound 1 z1 r46 M)) nr60 M _ rfl) calX11_resultOf k_903 k_988 ⟨by decide, by decide⟩ rfl hl rfl (Nat.le_of_ble_eq_true rfl) ⟨Nat.le_of_ble_eq_true rfl, Nat.le_of_ble_eq_true rfl⟩ dX4_makeTarget_63) hS (fun H locs nr63 hH hS => ?_)
      refine g_istore X (lv' := [(6, .int (iI ((f_X11_resultOf r46 ((f_X9_contentFound 1 z1 r46 M)) M)))), (5, .int (iI r46)), (0, .ref (gAd G 5 0)), (1, .ref (gAd G 7 z1)), (2, .int (iI x2)), (3, .int (iI x3)), (4, .int (iI x4))]) dX4_makeTarget_66 hl (by decide) rfl (fun ls hl => ?_)
      refine lv_iload_n X.1 X.2.1 dX4_makeTarget_68 rfl (lv_at hl.1 4 rfl) ?_
      refine lv_iload X.1 X.2.1 dX4_makeTarget_69 (lv_at hl.1 0 rfl) ?_
      refine gGoI (gRunSN X hH (As := [.int (iI x2), .int (iI ((f_X11_resultOf r46 ((f_X9_contentFound 1 z1 r46 M)) M)))]) (m_X11_plus l G x2 nx2 ((f_X11_resultOf r46 ((f_X9_contentFound 1 z1 r46 M)) M)) nr63 M _ rfl) calX11_plus k_704 k_989 ⟨by decide, by decide⟩ rfl hl rfl (Nat.le_of_ble_eq_true rfl) ⟨Nat.le_of_ble_eq_true rfl, Nat.le_of_ble_eq_true rfl⟩ dX4_makeTarget_71) hS (fun H locs nr71 hH hS => ?_)
      refine g_istore_n X (lv' := [(2, .int (iI ((f_X11_plus x2 ((f_X11_resultOf r46 ((f_X9_contentFound 1 z1 r46 M)) M)) M)))), (6, .int (iI ((f_X11_resultOf r46 ((f_X9_contentFound 1 z1 r46 M)) M)))), (5, .int (iI r46)), (0, .ref (gAd G 5 0)), (1, .ref (gAd G 7 z1)), (3, .int (iI x3)), (4, .int (iI x4))]) dX4_makeTarget_74 rfl hl (by decide) rfl (fun ls hl => ?_)
      refine lv_iload_n X.1 X.2.1 dX4_makeTarget_75 rfl (lv_at hl.1 5 rfl) ?_
      obtain ⟨k102, ek102, hf_⟩ := oj_e hf; clear hf; have hf := hf_; clear hf_
      have hk102 : ∀ (xs0_102 : Int) (bxs0_102 : xs0_102 = 0 ∨ xs0_102 = 1), k102 xs0_102 = some q → ∀ (H : Heap) (locs : List Loc) (ls : Array Slot), gH G M H → va_S (gA G) s.heap H locs → gLv ls 7 [(0, .ref (gAd G 5 0)), (1, .ref (gAd G 7 z1)), (2, .int (iI ((f_X11_plus x2 ((f_X11_resultOf r46 ((f_X9_contentFound 1 z1 r46 M)) M)) M)))), (4, .int (iI x4))] → W p l e { frames := 3, cells := 0, slots := 0, locals := 69 } s m args below meth c H locs 0 0 (MQ below (gQv G q) args s 0 0 (gA G)) (F0 m 102 ls [.int (iI xs0_102)]) := by
        intro xs0_102 bxs0_102 hf H locs ls hH hS hl
        subst ek102
        refine g_istore_n X (lv' := [(3, .int (iI xs0_102)), (0, .ref (gAd G 5 0)), (1, .ref (gAd G 7 z1)), (2, .int (iI ((f_X11_plus x2 ((f_X11_resultOf r46 ((f_X9_contentFound 1 z1 r46 M)) M)) M)))), (4, .int (iI x4))]) dX4_makeTarget_102 rfl hl (by decide) rfl (fun ls hl => ?_)
        refine g_iinc X (a := x4) (lv' := [(4, .int (iI (wI (x4 + 1)))), (3, .int (iI xs0_102)), (0, .ref (gAd G 5 0)), (1, .ref (gAd G 7 z1)), (2, .int (iI ((f_X11_plus x2 ((f_X11_resultOf r46 ((f_X9_contentFound 1 z1 r46 M)) M)) M))))]) dX4_makeTarget_103 hl (k := 4) rfl (by decide) rfl (fun ls hl => ?_)
        refine lv_goto (tgt := 30) X.1 X.2.1 dX4_makeTarget_106 (by decide) ?_
        exact ih ((f_X11_plus x2 ((f_X11_resultOf r46 ((f_X9_contentFound 1 z1 r46 M)) M)) M)) nr71 xs0_102 bxs0_102 (wI (x4 + 1)) (nmI_w _) hf _ _ _ hH hS (gLv_sub hl [2, 3, 4, 1, 0] rfl)
      clear ek102
      obtain ⟨k101, ek101, hf_⟩ := oj_e hf; clear hf; have hf := hf_; clear hf_
      have hk101 : k101 = some q → ∀ (H : Heap) (locs : List Loc) (ls : Array Slot), gH G M H → va_S (gA G) s.heap H locs → gLv ls 7 [(0, .ref (gAd G 5 0)), (1, .ref (gAd G 7 z1)), (2, .int (iI ((f_X11_plus x2 ((f_X11_resultOf r46 ((f_X9_contentFound 1 z1 r46 M)) M)) M)))), (4, .int (iI x4))] → W p l e { frames := 3, cells := 0, slots := 0, locals := 69 } s m args below meth c H locs 0 0 (MQ below (gQv G q) args s 0 0 (gA G)) (F0 m 101 ls []) := by
        intro  hf H locs ls hH hS hl
        subst ek101
        refine lv_iconst X.1 X.2.1 dX4_makeTarget_101 (v := iI 0) rfl ?_
        exact hk102 0 (by decide) hf _ _ _ hH hS (gLv_sub hl [0, 1, 2, 3] rfl)
      clear ek101
      refine g_if_eq X (nmI_b bx3) (tgt := 101) dX4_makeTarget_76 (by decide) (fun hc76 => ?_) (fun hc76 => ?_)
      · replace hf := it_t hf hc76
        exact hk101  hf _ _ _ hH hS (gLv_sub hl [3, 4, 0, 6] rfl)
      · replace hf := it_f hf hc76
        refine lv_aload_n X.1 X.2.1 dX4_makeTarget_79 rfl (lv_at hl.1 4 rfl) ?_
        refine lv_iload X.1 X.2.1 dX4_makeTarget_80 (lv_at hl.1 2 rfl) ?_
        refine gGoZ (gRunV X hH (As := [.int (iI r46)]) (m_X8_breaksOut l G z1 hz1 r46 nr46 M _ rfl) calX8_breaksOut k_772 k_773 k_990 hz1 cX8 rfl ⟨by decide, by decide⟩ rfl hl rfl (Nat.le_of_ble_eq_true rfl) ⟨Nat.le_of_ble_eq_true rfl, Nat.le_of_ble_eq_true rfl⟩ dX4_makeTarget_82) hS (fun H locs br82 hH hS => ?_)
        refine g_if_ne X (nmI_b br82) (tgt := 101) dX4_makeTarget_85 (by decide) (fun hc85 => ?_) (fun hc85 => ?_)
        · replace hf := it_f hf hc85
          exact hk101  hf _ _ _ hH hS (gLv_sub hl [3, 4, 0, 6] rfl)
        · replace hf := it_t hf hc85
          refine lv_aload_n X.1 X.2.1 dX4_makeTarget_88 rfl (lv_at hl.1 4 rfl) ?_
          refine lv_iload X.1 X.2.1 dX4_makeTarget_89 (lv_at hl.1 1 rfl) ?_
          refine gGoZ (gRunV X hH (As := [.int (iI ((f_X11_resultOf r46 ((f_X9_contentFound 1 z1 r46 M)) M)))]) (m_X8_isGoodResult l G z1 hz1 ((f_X11_resultOf r46 ((f_X9_contentFound 1 z1 r46 M)) M)) nr63 M _ rfl) calX8_isGoodResult k_911 k_912 k_991 hz1 cX8 rfl ⟨by decide, by decide⟩ rfl hl rfl (Nat.le_of_ble_eq_true rfl) ⟨Nat.le_of_ble_eq_true rfl, Nat.le_of_ble_eq_true rfl⟩ dX4_makeTarget_91) hS (fun H locs br91 hH hS => ?_)
          refine g_if_eq X (nmI_b br91) (tgt := 101) dX4_makeTarget_94 (by decide) (fun hc94 => ?_) (fun hc94 => ?_)
          · replace hf := it_t hf hc94
            exact hk101  hf _ _ _ hH hS (gLv_sub hl [3, 4, 0, 6] rfl)
          · replace hf := it_f hf hc94
            refine lv_iconst X.1 X.2.1 dX4_makeTarget_97 (v := iI 1) rfl ?_
            refine lv_goto (tgt := 102) X.1 X.2.1 dX4_makeTarget_98 (by decide) ?_
            exact hk102 1 (by decide) hf _ _ _ hH hS (gLv_sub hl [3, 4, 0, 6] rfl)
theorem m_X4_makeTarget (l : Launch) (G : gG) (i1 : Nat) (hi1 : i1 < 15) (M : gM) (q : gM) (hf : f_X4_makeTarget i1 M = some q) : gMet l yX4_makeTarget cX4_makeTarget 7 none 3 69 G M [.ref (gAd G 5 0), .ref (gAd G 7 i1)] (gQv G q) := by
  refine gOfW (by decide) (by show _ ≤ 7; exact Nat.le_of_ble_eq_true rfl) rfl ?_
  intro p e s m below meth c X hH ls hl
  replace hl : gLv ls 7 [(0, .ref (gAd G 5 0)), (1, .ref (gAd G 7 i1))] := hl
  have hS : va_S (gA G) s.heap s.heap [] := va_S.rf
  generalize hargs : ([.ref (gAd G 5 0), .ref (gAd G 7 i1)] : List Value).toArray = args at X ⊢
  clear hargs
  unfold f_X4_makeTarget at hf
  refine lv_bipush X.1 X.2.1 dX4_makeTarget_0 (v := iI 7) (by decide) ?_
  refine g_istore_n X (lv' := [(2, .int (iI 7)), (0, .ref (gAd G 5 0)), (1, .ref (gAd G 7 i1))]) dX4_makeTarget_2 rfl hl (by decide) rfl (fun ls hl => ?_)
  refine lv_aload_n X.1 X.2.1 dX4_makeTarget_3 rfl (lv_at hl.1 1 rfl) ?_
  refine g_get X cX4 hH (r := 5) (i := 0) (by decide) rfl 0 (by decide) k_428 rfl (v := .ref (gAd G 2 0)) rfl dX4_makeTarget_4 ?_
  refine lv_aload_n X.1 X.2.1 dX4_makeTarget_7 rfl (lv_at hl.1 2 rfl) ?_
  obtain ⟨r8, hq8, hf_⟩ := ob_e hf; clear hf; have hf := hf_; clear hf_
  refine gGoI (gRunV X hH (As := [.ref (gAd G 7 i1)]) (m_X5_inputTargets l G i1 hi1 M _ hq8) calX5_inputTargets k_723 k_724 k_985 (by decide) cX5 rfl ⟨by decide, by decide⟩ rfl hl rfl (Nat.le_of_ble_eq_true rfl) ⟨Nat.le_of_ble_eq_true rfl, Nat.le_of_ble_eq_true rfl⟩ dX4_makeTarget_8) hS (fun H locs nr8 hH hS => ?_)
  refine lv_aload_n X.1 X.2.1 dX4_makeTarget_11 rfl (lv_at hl.1 1 rfl) ?_
  have nd12 : nmI (M 5 0 3) := hH.1.1 _ _ _
  refine g_get X cX4 hH (r := 5) (i := 0) (by decide) rfl 3 (by decide) k_431 rfl (v := .int (iI (M 5 0 3))) rfl dX4_makeTarget_12 ?_
  refine lv_iconst X.1 X.2.1 dX4_makeTarget_15 (v := iI (-1)) rfl ?_
  refine g_ixor X dX4_makeTarget_16 ?_
  refine g_iand X dX4_makeTarget_17 ?_
  obtain ⟨k26, ek26, hf_⟩ := oj_e hf; clear hf; have hf := hf_; clear hf_
  have hk26 : ∀ (xs0_26 : Int) (bxs0_26 : xs0_26 = 0 ∨ xs0_26 = 1), k26 xs0_26 = some q → ∀ (H : Heap) (locs : List Loc) (ls : Array Slot), gH G M H → va_S (gA G) s.heap H locs → gLv ls 7 [(0, .ref (gAd G 5 0)), (1, .ref (gAd G 7 i1)), (2, .int (iI 7))] → W p l e { frames := 3, cells := 0, slots := 0, locals := 69 } s m args below meth c H locs 0 0 (MQ below (gQv G q) args s 0 0 (gA G)) (F0 m 26 ls [.int (iI xs0_26)]) := by
    intro xs0_26 bxs0_26 hf H locs ls hH hS hl
    subst ek26
    refine g_istore_n X (lv' := [(3, .int (iI xs0_26)), (0, .ref (gAd G 5 0)), (1, .ref (gAd G 7 i1)), (2, .int (iI 7))]) dX4_makeTarget_26 rfl hl (by decide) rfl (fun ls hl => ?_)
    refine lv_iconst X.1 X.2.1 dX4_makeTarget_27 (v := iI 0) rfl ?_
    refine g_istore X (lv' := [(4, .int (iI 0)), (3, .int (iI xs0_26)), (0, .ref (gAd G 5 0)), (1, .ref (gAd G 7 i1)), (2, .int (iI 7))]) dX4_makeTarget_28 hl (by decide) rfl (fun ls hl => ?_)
    refine w_X4_makeTarget_L30 X _ i1 hi1 M q ?_ 64 7 (nmI_l (by decide)) xs0_26 bxs0_26 0 (nmI_l (by decide)) hf _ _ _ hH hS (gLv_sub hl [2, 3, 4, 1, 0] rfl)
    · intro y2_30_109 ny2_30_109 y3_30_109 by3_30_109 hf H locs ls hH hS hl
      refine lv_aload_n X.1 X.2.1 dX4_makeTarget_109 rfl (lv_at hl.1 0 rfl) ?_
      refine g_get X cX4 hH (r := 5) (i := 0) (by decide) rfl 2 (by decide) k_430 rfl (v := .ref (gAd G 6 1)) rfl dX4_makeTarget_110 ?_
      refine g_get X cX9 hH (r := 6) (i := 1) (by decide) rfl 2 (by decide) k_329 rfl (v := .ref (gAd G 23 1)) rfl dX4_makeTarget_113 ?_
      refine lv_aload_n X.1 X.2.1 dX4_makeTarget_116 rfl (lv_at hl.1 1 rfl) ?_
      have nd117 : nmI (M 7 i1 0) := hH.1.1 _ _ _
      refine g_get X cX8 hH (r := 7) (i := i1) hi1 rfl 0 (by decide) k_178 rfl (v := .int (iI (M 7 i1 0))) rfl dX4_makeTarget_117 ?_
      refine lv_iload_n X.1 X.2.1 dX4_makeTarget_120 rfl (lv_at hl.1 2 rfl) ?_
      refine gGoV (gRunSN X hH (As := [.ref (gAd G 23 1), .int (iI (M 7 i1 0)), .int (iI y2_30_109)]) (m_X11_store l G 23 1 14 (by decide) gArr_23 (M 7 i1 0) nd117 y2_30_109 ny2_30_109 M _ rfl) calX11_store k_566 k_992 ⟨by decide, by decide⟩ rfl hl rfl (Nat.le_of_ble_eq_true rfl) ⟨Nat.le_of_ble_eq_true rfl, Nat.le_of_ble_eq_true rfl⟩ dX4_makeTarget_121) hS (fun H locs hH hS => ?_)
      refine lv_iload_n X.1 X.2.1 dX4_makeTarget_124 rfl (lv_at hl.1 3 rfl) ?_
      refine g_if_eq X (nmI_b by3_30_109) (tgt := 143) dX4_makeTarget_125 (by decide) (fun hc125 => ?_) (fun hc125 => ?_)
      · replace hf := it_t hf hc125
        have hq := Option.some.inj hf; subst hq
        exact gRetV X hH hS dX4_makeTarget_143
      · replace hf := it_f hf hc125
        refine lv_aload_n X.1 X.2.1 dX4_makeTarget_128 rfl (lv_at hl.1 0 rfl) ?_
        refine lv_dup X.1 X.2.1 dX4_makeTarget_129 rfl ?_
        have nd130 : nmI (((f_X11_store 23 1 14 (M 7 i1 0) y2_30_109 M)) 5 0 3) := hH.1.1 _ _ _
        refine g_get X cX4 hH (r := 5) (i := 0) (by decide) rfl 3 (by decide) k_431 rfl (v := .int (iI (((f_X11_store 23 1 14 (M 7 i1 0) y2_30_109 M)) 5 0 3))) rfl dX4_makeTarget_130 ?_
        refine lv_iconst X.1 X.2.1 dX4_makeTarget_133 (v := iI 1) rfl ?_
        refine lv_aload_n X.1 X.2.1 dX4_makeTarget_134 rfl (lv_at hl.1 1 rfl) ?_
        have nd135 : nmI (((f_X11_store 23 1 14 (M 7 i1 0) y2_30_109 M)) 7 i1 0) := hH.1.1 _ _ _
        refine g_get X cX8 hH (r := 7) (i := i1) hi1 rfl 0 (by decide) k_178 rfl (v := .int (iI (((f_X11_store 23 1 14 (M 7 i1 0) y2_30_109 M)) 7 i1 0))) rfl dX4_makeTarget_135 ?_
        refine g_ishl X dX4_makeTarget_138 ?_
        refine g_ior X dX4_makeTarget_139 ?_
        refine g_putI X cX4 hH hS (r := 5) (i := 0) (by decide) rfl 3 (by decide) k_431 rfl rfl rfl (Nat.le_of_ble_eq_true rfl) (x := gOr (((f_X11_store 23 1 14 (M 7 i1 0) y2_30_109 M)) 5 0 3) (gShl 1 (((f_X11_store 23 1 14 (M 7 i1 0) y2_30_109 M)) 7 i1 0))) (nmI_or _ _) rfl rfl rfl dX4_makeTarget_140 (fun H locs hH hS => ?_)
        have hq := Option.some.inj hf; subst hq
        exact gRetV X hH hS dX4_makeTarget_143
  clear ek26
  refine g_if_ne X (nmI_and _ _) (tgt := 25) dX4_makeTarget_18 (by decide) (fun hc18 => ?_) (fun hc18 => ?_)
  · replace hf := it_f hf hc18
    refine lv_iconst X.1 X.2.1 dX4_makeTarget_25 (v := iI 0) rfl ?_
    exact hk26 0 (by decide) hf _ _ _ hH hS (gLv_sub hl [1, 2, 0] rfl)
  · replace hf := it_t hf hc18
    refine lv_iconst X.1 X.2.1 dX4_makeTarget_21 (v := iI 1) rfl ?_
    refine lv_goto (tgt := 26) X.1 X.2.1 dX4_makeTarget_22 (by decide) ?_
    exact hk26 1 (by decide) hf _ _ _ hH hS (gLv_sub hl [1, 2, 0] rfl)
theorem w_X4_make_L22 {G : gG} {p : Program} {l : Launch} {e : Env} {s : State} {m : MethodId} {args : Array Value} {below : List Frame} {meth : Method} {c : Code} (X : gX G p s m args meth c RX4 cX4_make 3 none (gWs yX4_make cX4_make 3 none)) (k51 : gM → Option gM) (q : gM) (hk51 : ∀  (M : gM), k51 M = some q → ∀ (H : Heap) (locs : List Loc) (ls : Array Slot), gH G M H → va_S (gA G) s.heap H locs → gLv ls 3 [] → W p l e { frames := 4, cells := 0, slots := 0, locals := 95 } s m args below meth c H locs 0 0 (MQ below (gQv G q) args s 0 0 (gA G)) (F0 m 51 ls [])) : ∀ (n : Nat) (x2 : Int) (nx2 : nmI x2) (M : gM), f_X4_make_L22 k51 n x2 M = some q → ∀ (H : Heap) (locs : List Loc) (ls : Array Slot), gH G M H → va_S (gA G) s.heap H locs → gLv ls 3 [(0, .ref (gAd G 5 0)), (2, .int (iI x2))] → W p l e { frames := 4, cells := 0, slots := 0, locals := 95 } s m args below meth c H locs 0 0 (MQ below (gQv G q) args s 0 0 (gA G)) (F0 m 22 ls []) := by
  intro n
  induction n with
  | zero =>
    intro x2 nx2 M hf
    cases hf
  | succ n ih =>
    intro x2 nx2 M hf H locs ls hH hS hl
    rw [f_X4_make_L22] at hf
    refine lv_iload_n X.1 X.2.1 dX4_make_22 rfl (lv_at hl.1 1 rfl) ?_
    refine lv_aload_n X.1 X.2.1 dX4_make_23 rfl (lv_at hl.1 0 rfl) ?_
    refine g_get X cX4 hH (r := 5) (i := 0) (by decide) rfl 0 (by decide) k_428 rfl (v := .ref (gAd G 2 0)) rfl dX4_make_24 ?_
    have nd27 : nmI (M 2 0 5) := hH.1.1 _ _ _
    refine g_get X cX5 hH (r := 2) (i := 0) (by decide) rfl 5 (by decide) k_252 rfl (v := .int (iI (M 2 0 5))) rfl dX4_make_27 ?_
    refine g_icmp_ge X nx2 nd27 (tgt := 51) dX4_make_30 (by decide) (fun hc30 => ?_) (fun hc30 => ?_)
    · replace hf := it_f hf hc30
      exact hk51 M hf _ _ _ hH hS (gLv_sub hl [] rfl)
    · replace hf := it_t hf hc30
      refine lv_aload_n X.1 X.2.1 dX4_make_33 rfl (lv_at hl.1 0 rfl) ?_
      refine lv_aload_n X.1 X.2.1 dX4_make_34 rfl (lv_at hl.1 0 rfl) ?_
      refine g_get X cX4 hH (r := 5) (i := 0) (by decide) rfl 0 (by decide) k_428 rfl (v := .ref (gAd G 2 0)) rfl dX4_make_35 ?_
      refine lv_iload_n X.1 X.2.1 dX4_make_38 rfl (lv_at hl.1 1 rfl) ?_
      refine gGoR (gRunV X hH (As := [.int (iI x2)]) (m_X5_targetAt l G x2 nx2 M _ rfl) calX5_targetAt k_631 k_632 k_980 (by decide) cX5 rfl ⟨by decide, by decide⟩ rfl hl rfl (Nat.le_of_ble_eq_true rfl) ⟨Nat.le_of_ble_eq_true rfl, Nat.le_of_ble_eq_true rfl⟩ dX4_make_39) hS (fun H locs hr39 hH hS => ?_)
      replace hr39 : (f_X5_targetAt x2 M) < 15 := hr39
      obtain ⟨r42, hq42, hf_⟩ := ob_e hf; clear hf; have hf := hf_; clear hf_
      refine gGoV (gRunV X hH (As := [.ref (gAd G 7 ((f_X5_targetAt x2 M)))]) (m_X4_makeTarget l G ((f_X5_targetAt x2 M)) hr39 M _ hq42) calX4_makeTarget k_983 k_24 k_981 (by decide) cX4 rfl ⟨by decide, by decide⟩ rfl hl rfl (Nat.le_of_ble_eq_true rfl) ⟨Nat.le_of_ble_eq_true rfl, Nat.le_of_ble_eq_true rfl⟩ dX4_make_42) hS (fun H locs hH hS => ?_)
      refine g_iinc X (a := x2) (lv' := [(2, .int (iI (wI (x2 + 1)))), (0, .ref (gAd G 5 0))]) dX4_make_45 hl (k := 1) rfl (by decide) rfl (fun ls hl => ?_)
      refine lv_goto (tgt := 22) X.1 X.2.1 dX4_make_48 (by decide) ?_
      exact ih (wI (x2 + 1)) (nmI_w _) r42 hf _ _ _ hH hS (gLv_sub hl [1, 0] rfl)
theorem m_X4_make (l : Launch) (G : gG) (v1 : Int) (nv1 : nmI v1) (M : gM) (q : gM) (hf : f_X4_make v1 M = some q) : gMet l yX4_make cX4_make 3 none 4 95 G M [.ref (gAd G 5 0), .int (iI v1)] (gQv G q) := by
  refine gOfW (by decide) (by show _ ≤ 3; exact Nat.le_of_ble_eq_true rfl) rfl ?_
  intro p e s m below meth c X hH ls hl
  replace hl : gLv ls 3 [(0, .ref (gAd G 5 0)), (1, .int (iI v1))] := hl
  have hS : va_S (gA G) s.heap s.heap [] := va_S.rf
  generalize hargs : ([.ref (gAd G 5 0), .int (iI v1)] : List Value).toArray = args at X ⊢
  clear hargs
  unfold f_X4_make at hf
  refine lv_aload_n X.1 X.2.1 dX4_make_0 rfl (lv_at hl.1 0 rfl) ?_
  refine g_get X cX4 hH (r := 5) (i := 0) (by decide) rfl 1 (by decide) k_429 rfl (v := .ref (gAd G 1 0)) rfl dX4_make_1 ?_
  refine lv_iload_n X.1 X.2.1 dX4_make_4 rfl (lv_at hl.1 1 rfl) ?_
  refine lv_aload_n X.1 X.2.1 dX4_make_5 rfl (lv_at hl.1 0 rfl) ?_
  refine g_get X cX4 hH (r := 5) (i := 0) (by decide) rfl 2 (by decide) k_430 rfl (v := .ref (gAd G 6 1)) rfl dX4_make_6 ?_
  refine g_get X cX9 hH (r := 6) (i := 1) (by decide) rfl 1 (by decide) k_327 rfl (v := .ref (gAd G 12 1)) rfl dX4_make_9 ?_
  obtain ⟨r12, hq12, hf_⟩ := ob_e hf; clear hf; have hf := hf_; clear hf_
  refine gGoV (gRunV X hH (As := [.int (iI v1), .ref (gAd G 12 1)]) (m_X7_filesAfter l G v1 nv1 M _ hq12) calX7_filesAfter k_977 k_978 k_976 (by decide) cX7 rfl ⟨by decide, by decide⟩ rfl hl rfl (Nat.le_of_ble_eq_true rfl) ⟨Nat.le_of_ble_eq_true rfl, Nat.le_of_ble_eq_true rfl⟩ dX4_make_12) hS (fun H locs hH hS => ?_)
  refine lv_aload_n X.1 X.2.1 dX4_make_15 rfl (lv_at hl.1 0 rfl) ?_
  refine lv_iconst X.1 X.2.1 dX4_make_16 (v := iI 0) rfl ?_
  refine g_putI X cX4 hH hS (r := 5) (i := 0) (by decide) rfl 3 (by decide) k_431 rfl rfl rfl (Nat.le_of_ble_eq_true rfl) (x := 0) (nmI_l (by decide)) rfl rfl rfl dX4_make_17 (fun H locs hH hS => ?_)
  refine lv_iconst X.1 X.2.1 dX4_make_20 (v := iI 0) rfl ?_
  refine g_istore_n X (lv' := [(2, .int (iI 0)), (0, .ref (gAd G 5 0)), (1, .int (iI v1))]) dX4_make_21 rfl hl (by decide) rfl (fun ls hl => ?_)
  refine w_X4_make_L22 X _  q ?_ 64 0 (nmI_l (by decide)) (gU r12 5 0 3 0) hf _ _ _ hH hS (gLv_sub hl [1, 0] rfl)
  · intro  M_22_51 hf H locs ls hH hS hl
    have hq := Option.some.inj hf; subst hq
    exact gRetV X hH hS dX4_make_51
theorem w_X4_isStale_L22 {G : gG} {p : Program} {l : Launch} {e : Env} {s : State} {m : MethodId} {args : Array Value} {below : List Frame} {meth : Method} {c : Code} (X : gX G p s m args meth c RX4 cX4_isStale 4 (some .boolean) (gWs yX4_isStale cX4_isStale 4 (some .boolean))) (k72 : Option (Int × gM)) (z1 : Nat) (hz1 : z1 < 15) (M : gM) (q : (Int × gM)) (hk72 : k72 = some q → ∀ (H : Heap) (locs : List Loc) (ls : Array Slot), gH G M H → va_S (gA G) s.heap H locs → gLv ls 4 [] → W p l e { frames := 5, cells := 0, slots := 0, locals := 117 } s m args below meth c H locs 0 0 (MQ below (gQz G q.1 q.2) args s 0 0 (gA G)) (F0 m 72 ls [])) : ∀ (n : Nat) (x2 : Int) (nx2 : nmI x2), f_X4_isStale_L22 k72 z1 M n x2 = some q → ∀ (H : Heap) (locs : List Loc) (ls : Array Slot), gH G M H → va_S (gA G) s.heap H locs → gLv ls 4 [(0, .ref (gAd G 5 0)), (1, .ref (gAd G 7 z1)), (2, .int (iI x2))] → W p l e { frames := 5, cells := 0, slots := 0, locals := 117 } s m args below meth c H locs 0 0 (MQ below (gQz G q.1 q.2) args s 0 0 (gA G)) (F0 m 22 ls []) := by
  intro n
  induction n with
  | zero =>
    intro x2 nx2 hf
    cases hf
  | succ n ih =>
    intro x2 nx2 hf H locs ls hH hS hl
    rw [f_X4_isStale_L22] at hf
    refine lv_iload_n X.1 X.2.1 dX4_isStale_22 rfl (lv_at hl.1 2 rfl) ?_
    refine lv_aload_n X.1 X.2.1 dX4_isStale_23 rfl (lv_at hl.1 1 rfl) ?_
    have nd24 : nmI (M 7 z1 6) := hH.1.1 _ _ _
    refine g_get X cX8 hH (r := 7) (i := z1) hz1 rfl 6 (by decide) k_201 rfl (v := .int (iI (M 7 z1 6))) rfl dX4_isStale_24 ?_
    refine g_icmp_ge X nx2 nd24 (tgt := 72) dX4_isStale_27 (by decide) (fun hc27 => ?_) (fun hc27 => ?_)
    · replace hf := it_f hf hc27
      exact hk72  hf _ _ _ hH hS (gLv_sub hl [] rfl)
    · replace hf := it_t hf hc27
      refine lv_aload_n X.1 X.2.1 dX4_isStale_30 rfl (lv_at hl.1 0 rfl) ?_
      refine g_get X cX4 hH (r := 5) (i := 0) (by decide) rfl 2 (by decide) k_430 rfl (v := .ref (gAd G 6 1)) rfl dX4_isStale_31 ?_
      refine lv_aload_n X.1 X.2.1 dX4_isStale_34 rfl (lv_at hl.1 1 rfl) ?_
      refine lv_iload_n X.1 X.2.1 dX4_isStale_35 rfl (lv_at hl.1 2 rfl) ?_
      obtain ⟨r36, hq36, hf_⟩ := ob_e hf; clear hf; have hf := hf_; clear hf_
      refine gGoI (gRunV X hH (As := [.ref (gAd G 7 z1), .int (iI x2)]) (m_X9_keyOf l G 1 (by decide) z1 hz1 x2 nx2 M _ hq36) calX9_keyOf k_764 k_765 k_986 (by decide) cX9 rfl ⟨by decide, by decide⟩ rfl hl rfl (Nat.le_of_ble_eq_true rfl) ⟨Nat.le_of_ble_eq_true rfl, Nat.le_of_ble_eq_true rfl⟩ dX4_isStale_36) hS (fun H locs nr36 hH hS => ?_)
      refine g_istore_n X (lv' := [(3, .int (iI r36)), (0, .ref (gAd G 5 0)), (1, .ref (gAd G 7 z1)), (2, .int (iI x2))]) dX4_isStale_39 rfl hl (by decide) rfl (fun ls hl => ?_)
      refine lv_aload_n X.1 X.2.1 dX4_isStale_40 rfl (lv_at hl.1 2 rfl) ?_
      refine lv_iload_n X.1 X.2.1 dX4_isStale_41 rfl (lv_at hl.1 3 rfl) ?_
      refine gGoR (gRunV X hH (As := [.int (iI x2)]) (m_X8_actionAt l G z1 hz1 x2 nx2 M _ rfl) calX8_actionAt k_740 k_741 k_993 hz1 cX8 rfl ⟨by decide, by decide⟩ rfl hl rfl (Nat.le_of_ble_eq_true rfl) ⟨Nat.le_of_ble_eq_true rfl, Nat.le_of_ble_eq_true rfl⟩ dX4_isStale_42) hS (fun H locs hr42 hH hS => ?_)
      replace hr42 : (f_X8_actionAt z1 x2 M) < 60 := hr42
      have nd45 : nmI (M 9 ((f_X8_actionAt z1 x2 M)) 3) := hH.1.1 _ _ _
      refine g_get X cX0 hH (r := 9) (i := (f_X8_actionAt z1 x2 M)) hr42 rfl 3 (by decide) k_149 rfl (v := .int (iI (M 9 ((f_X8_actionAt z1 x2 M)) 3))) rfl dX4_isStale_45 ?_
      refine lv_iload_n X.1 X.2.1 dX4_isStale_48 rfl (lv_at hl.1 0 rfl) ?_
      refine lv_aload_n X.1 X.2.1 dX4_isStale_49 rfl (lv_at hl.1 1 rfl) ?_
      refine g_get X cX4 hH (r := 5) (i := 0) (by decide) rfl 2 (by decide) k_430 rfl (v := .ref (gAd G 6 1)) rfl dX4_isStale_50 ?_
      refine lv_aload_n X.1 X.2.1 dX4_isStale_53 rfl (lv_at hl.1 2 rfl) ?_
      refine lv_iload_n X.1 X.2.1 dX4_isStale_54 rfl (lv_at hl.1 0 rfl) ?_
      refine gGoI (gRunV X hH (As := [.ref (gAd G 7 z1), .int (iI r36)]) (m_X9_contentFound l G 1 (by decide) z1 hz1 r36 nr36 M _ rfl) calX9_contentFound k_777 k_778 k_987 (by decide) cX9 rfl ⟨by decide, by decide⟩ rfl hl rfl (Nat.le_of_ble_eq_true rfl) ⟨Nat.le_of_ble_eq_true rfl, Nat.le_of_ble_eq_true rfl⟩ dX4_isStale_55) hS (fun H locs nr55 hH hS => ?_)
      refine gGoI (gRunSN X hH (As := [.int (iI r36), .int (iI ((f_X9_contentFound 1 z1 r36 M)))]) (m_X11_resultOf l G r36 nr36 ((f_X9_contentFound 1 z1 r36 M)) nr55 M _ rfl) calX11_resultOf k_903 k_988 ⟨by decide, by decide⟩ rfl hl rfl (Nat.le_of_ble_eq_true rfl) ⟨Nat.le_of_ble_eq_true rfl, Nat.le_of_ble_eq_true rfl⟩ dX4_isStale_58) hS (fun H locs nr58 hH hS => ?_)
      refine g_icmp_eq X nd45 nr58 (tgt := 66) dX4_isStale_61 (by decide) (fun hc61 => ?_) (fun hc61 => ?_)
      · replace hf := it_t hf hc61
        refine g_iinc X (a := x2) (lv' := [(2, .int (iI (wI (x2 + 1)))), (3, .int (iI r36)), (0, .ref (gAd G 5 0)), (1, .ref (gAd G 7 z1))]) dX4_isStale_66 hl (k := 3) rfl (by decide) rfl (fun ls hl => ?_)
        refine lv_goto (tgt := 22) X.1 X.2.1 dX4_isStale_69 (by decide) ?_
        exact ih (wI (x2 + 1)) (nmI_w _) hf _ _ _ hH hS (gLv_sub hl [2, 3, 0] rfl)
      · replace hf := it_f hf hc61
        refine lv_iconst X.1 X.2.1 dX4_isStale_64 (v := iI 1) rfl ?_
        have hq := Option.some.inj hf; subst hq
        exact gRetZ X hH hS (res := 1) (by decide) dX4_isStale_65
theorem m_X4_isStale (l : Launch) (G : gG) (i1 : Nat) (hi1 : i1 < 15) (M : gM) (q : (Int × gM)) (hf : f_X4_isStale i1 M = some q) : gMet l yX4_isStale cX4_isStale 4 (some .boolean) 5 117 G M [.ref (gAd G 5 0), .ref (gAd G 7 i1)] (gQz G q.1 q.2) := by
  refine gOfW (by decide) (by show _ ≤ 4; exact Nat.le_of_ble_eq_true rfl) rfl ?_
  intro p e s m below meth c X hH ls hl
  replace hl : gLv ls 4 [(0, .ref (gAd G 5 0)), (1, .ref (gAd G 7 i1))] := hl
  have hS : va_S (gA G) s.heap s.heap [] := va_S.rf
  generalize hargs : ([.ref (gAd G 5 0), .ref (gAd G 7 i1)] : List Value).toArray = args at X ⊢
  clear hargs
  unfold f_X4_isStale at hf
  refine lv_aload_n X.1 X.2.1 dX4_isStale_0 rfl (lv_at hl.1 1 rfl) ?_
  obtain ⟨r1, hq1, hf_⟩ := ob_e hf; clear hf; have hf := hf_; clear hf_
  refine gGoZ (gRunV X hH (As := []) (m_X8_isAllDone l G i1 hi1 M _ hq1) calX8_isAllDone k_969 k_970 k_968 hi1 cX8 rfl ⟨by decide, by decide⟩ rfl hl rfl (Nat.le_of_ble_eq_true rfl) ⟨Nat.le_of_ble_eq_true rfl, Nat.le_of_ble_eq_true rfl⟩ dX4_isStale_1) hS (fun H locs br1 hH hS => ?_)
  refine g_if_ne X (nmI_b br1) (tgt := 9) dX4_isStale_4 (by decide) (fun hc4 => ?_) (fun hc4 => ?_)
  · replace hf := it_f hf hc4
    refine lv_aload_n X.1 X.2.1 dX4_isStale_9 rfl (lv_at hl.1 0 rfl) ?_
    refine lv_aload_n X.1 X.2.1 dX4_isStale_10 rfl (lv_at hl.1 0 rfl) ?_
    refine g_get X cX4 hH (r := 5) (i := 0) (by decide) rfl 1 (by decide) k_429 rfl (v := .ref (gAd G 1 0)) rfl dX4_isStale_11 ?_
    have nd14 : nmI (M 1 0 5) := hH.1.1 _ _ _
    refine g_get X cX7 hH (r := 1) (i := 0) (by decide) rfl 5 (by decide) k_74 rfl (v := .int (iI (M 1 0 5))) rfl dX4_isStale_14 ?_
    obtain ⟨r17, hq17, hf_⟩ := ob_e hf; clear hf; have hf := hf_; clear hf_
    refine gGoV (gRunV X hH (As := [.int (iI (M 1 0 5))]) (m_X4_make l G (M 1 0 5) nd14 M _ hq17) calX4_make k_974 k_23 k_972 (by decide) cX4 rfl ⟨by decide, by decide⟩ rfl hl rfl (Nat.le_of_ble_eq_true rfl) ⟨Nat.le_of_ble_eq_true rfl, Nat.le_of_ble_eq_true rfl⟩ dX4_isStale_17) hS (fun H locs hH hS => ?_)
    refine lv_iconst X.1 X.2.1 dX4_isStale_20 (v := iI 0) rfl ?_
    refine g_istore_n X (lv' := [(2, .int (iI 0)), (0, .ref (gAd G 5 0)), (1, .ref (gAd G 7 i1))]) dX4_isStale_21 rfl hl (by decide) rfl (fun ls hl => ?_)
    refine w_X4_isStale_L22 X _ i1 hi1 r17 q ?_ 64 0 (nmI_l (by decide)) hf _ _ _ hH hS (gLv_sub hl [1, 2, 0] rfl)
    · intro  hf H locs ls hH hS hl
      refine lv_iconst X.1 X.2.1 dX4_isStale_72 (v := iI 0) rfl ?_
      have hq := Option.some.inj hf; subst hq
      exact gRetZ X hH hS (res := 0) (by decide) dX4_isStale_73
  · replace hf := it_t hf hc4
    refine lv_iconst X.1 X.2.1 dX4_isStale_7 (v := iI 0) rfl ?_
    have hq := Option.some.inj hf; subst hq
    exact gRetZ X hH hS (res := 0) (by decide) dX4_isStale_8
theorem m_X4_goodTargets (l : Launch) (G : gG) (v1 : Int) (nv1 : nmI v1) (M : gM) (q : (Int × gM)) (hf : f_X4_goodTargets v1 M = some q) : gMet l yX4_goodTargets cX4_goodTargets 2 (some .int) 5 117 G M [.ref (gAd G 5 0), .int (iI v1)] (gQi G q.1 q.2) := by
  refine gOfW (by decide) (by show _ ≤ 2; exact Nat.le_of_ble_eq_true rfl) rfl ?_
  intro p e s m below meth c X hH ls hl
  replace hl : gLv ls 2 [(0, .ref (gAd G 5 0)), (1, .int (iI v1))] := hl
  have hS : va_S (gA G) s.heap s.heap [] := va_S.rf
  generalize hargs : ([.ref (gAd G 5 0), .int (iI v1)] : List Value).toArray = args at X ⊢
  clear hargs
  unfold f_X4_goodTargets at hf
  refine lv_aload_n X.1 X.2.1 dX4_goodTargets_0 rfl (lv_at hl.1 0 rfl) ?_
  refine lv_iload_n X.1 X.2.1 dX4_goodTargets_1 rfl (lv_at hl.1 1 rfl) ?_
  obtain ⟨r2, hq2, hf_⟩ := ob_e hf; clear hf; have hf := hf_; clear hf_
  refine gGoV (gRunV X hH (As := [.int (iI v1)]) (m_X4_make l G v1 nv1 M _ hq2) calX4_make k_974 k_23 k_972 (by decide) cX4 rfl ⟨by decide, by decide⟩ rfl hl rfl (Nat.le_of_ble_eq_true rfl) ⟨Nat.le_of_ble_eq_true rfl, Nat.le_of_ble_eq_true rfl⟩ dX4_goodTargets_2) hS (fun H locs hH hS => ?_)
  refine lv_aload_n X.1 X.2.1 dX4_goodTargets_5 rfl (lv_at hl.1 0 rfl) ?_
  have nd6 : nmI (r2 5 0 3) := hH.1.1 _ _ _
  refine g_get X cX4 hH (r := 5) (i := 0) (by decide) rfl 3 (by decide) k_431 rfl (v := .int (iI (r2 5 0 3))) rfl dX4_goodTargets_6 ?_
  have hq := Option.some.inj hf; subst hq
  exact gRetI X hH hS (res := r2 5 0 3) nd6 dX4_goodTargets_9
theorem m_X4_digestOf (l : Launch) (G : gG) (i1 : Nat) (hi1 : i1 < 15) (M : gM) (q : (Int × gM)) (hf : f_X4_digestOf i1 M = some q) : gMet l yX4_digestOf cX4_digestOf 2 (some .int) 5 117 G M [.ref (gAd G 5 0), .ref (gAd G 7 i1)] (gQi G q.1 q.2) := by
  refine gOfW (by decide) (by show _ ≤ 2; exact Nat.le_of_ble_eq_true rfl) rfl ?_
  intro p e s m below meth c X hH ls hl
  replace hl : gLv ls 2 [(0, .ref (gAd G 5 0)), (1, .ref (gAd G 7 i1))] := hl
  have hS : va_S (gA G) s.heap s.heap [] := va_S.rf
  generalize hargs : ([.ref (gAd G 5 0), .ref (gAd G 7 i1)] : List Value).toArray = args at X ⊢
  clear hargs
  unfold f_X4_digestOf at hf
  refine lv_aload_n X.1 X.2.1 dX4_digestOf_0 rfl (lv_at hl.1 0 rfl) ?_
  refine lv_aload_n X.1 X.2.1 dX4_digestOf_1 rfl (lv_at hl.1 0 rfl) ?_
  refine g_get X cX4 hH (r := 5) (i := 0) (by decide) rfl 1 (by decide) k_429 rfl (v := .ref (gAd G 1 0)) rfl dX4_digestOf_2 ?_
  have nd5 : nmI (M 1 0 5) := hH.1.1 _ _ _
  refine g_get X cX7 hH (r := 1) (i := 0) (by decide) rfl 5 (by decide) k_74 rfl (v := .int (iI (M 1 0 5))) rfl dX4_digestOf_5 ?_
  obtain ⟨r8, hq8, hf_⟩ := ob_e hf; clear hf; have hf := hf_; clear hf_
  refine gGoV (gRunV X hH (As := [.int (iI (M 1 0 5))]) (m_X4_make l G (M 1 0 5) nd5 M _ hq8) calX4_make k_974 k_23 k_972 (by decide) cX4 rfl ⟨by decide, by decide⟩ rfl hl rfl (Nat.le_of_ble_eq_true rfl) ⟨Nat.le_of_ble_eq_true rfl, Nat.le_of_ble_eq_true rfl⟩ dX4_digestOf_8) hS (fun H locs hH hS => ?_)
  refine lv_aload_n X.1 X.2.1 dX4_digestOf_11 rfl (lv_at hl.1 0 rfl) ?_
  refine g_get X cX4 hH (r := 5) (i := 0) (by decide) rfl 2 (by decide) k_430 rfl (v := .ref (gAd G 6 1)) rfl dX4_digestOf_12 ?_
  refine g_get X cX9 hH (r := 6) (i := 1) (by decide) rfl 2 (by decide) k_329 rfl (v := .ref (gAd G 23 1)) rfl dX4_digestOf_15 ?_
  refine lv_aload_n X.1 X.2.1 dX4_digestOf_18 rfl (lv_at hl.1 1 rfl) ?_
  have nd19 : nmI (r8 7 i1 0) := hH.1.1 _ _ _
  refine g_get X cX8 hH (r := 7) (i := i1) hi1 rfl 0 (by decide) k_178 rfl (v := .int (iI (r8 7 i1 0))) rfl dX4_digestOf_19 ?_
  refine gGoI (gRunSN X hH (As := [.ref (gAd G 23 1), .int (iI (r8 7 i1 0))]) (m_X11_at l G 23 1 14 (by decide) gArr_23 (r8 7 i1 0) nd19 r8 _ rfl) calX11_at k_563 k_1003 ⟨by decide, by decide⟩ rfl hl rfl (Nat.le_of_ble_eq_true rfl) ⟨Nat.le_of_ble_eq_true rfl, Nat.le_of_ble_eq_true rfl⟩ dX4_digestOf_22) hS (fun H locs nr22 hH hS => ?_)
  have hq := Option.some.inj hf; subst hq
  exact gRetI X hH hS (res := (f_X11_at 23 1 14 (r8 7 i1 0) r8)) nr22 dX4_digestOf_25
theorem m_X2_wayOf (l : Launch) (G : gG) (i1 : Nat) (hi1 : i1 < 15) (M : gM) (q : (Int × gM)) (hf : f_X2_wayOf i1 M = some q) : gMet l yX2_wayOf cX2_wayOf 2 (some .int) 4 90 G M [.ref (gAd G 4 0), .ref (gAd G 7 i1)] (gQi G q.1 q.2) := by
  refine gOfW (by decide) (by show _ ≤ 2; exact Nat.le_of_ble_eq_true rfl) rfl ?_
  intro p e s m below meth c X hH ls hl
  replace hl : gLv ls 2 [(0, .ref (gAd G 4 0)), (1, .ref (gAd G 7 i1))] := hl
  have hS : va_S (gA G) s.heap s.heap [] := va_S.rf
  generalize hargs : ([.ref (gAd G 4 0), .ref (gAd G 7 i1)] : List Value).toArray = args at X ⊢
  clear hargs
  unfold f_X2_wayOf at hf
  refine lv_aload_n X.1 X.2.1 dX2_wayOf_0 rfl (lv_at hl.1 0 rfl) ?_
  have nd1 : nmI (M 4 0 6) := hH.1.1 _ _ _
  refine g_get X cX2 hH (r := 4) (i := 0) (by decide) rfl 6 (by decide) k_389 rfl (v := .int (iI (M 4 0 6))) rfl dX2_wayOf_1 ?_
  refine lv_aload_n X.1 X.2.1 dX2_wayOf_4 rfl (lv_at hl.1 1 rfl) ?_
  have nd5 : nmI (M 7 i1 0) := hH.1.1 _ _ _
  refine g_get X cX8 hH (r := 7) (i := i1) hi1 rfl 0 (by decide) k_179 rfl (v := .int (iI (M 7 i1 0))) rfl dX2_wayOf_5 ?_
  refine gGoI (gRunSN X hH (As := [.int (iI (M 4 0 6)), .int (iI (M 7 i1 0))]) (m_X11_bitOf l G (M 4 0 6) nd1 (M 7 i1 0) nd5 M _ rfl) calX11_bitOf k_720 k_734 ⟨by decide, by decide⟩ rfl hl rfl (Nat.le_of_ble_eq_true rfl) ⟨Nat.le_of_ble_eq_true rfl, Nat.le_of_ble_eq_true rfl⟩ dX2_wayOf_8) hS (fun H locs nr8 hH hS => ?_)
  refine g_if_ne X nr8 (tgt := 16) dX2_wayOf_11 (by decide) (fun hc11 => ?_) (fun hc11 => ?_)
  · replace hf := it_f hf hc11
    refine lv_aload_n X.1 X.2.1 dX2_wayOf_16 rfl (lv_at hl.1 0 rfl) ?_
    refine g_get X cX2 hH (r := 4) (i := 0) (by decide) rfl 0 (by decide) k_382 rfl (v := .ref (gAd G 2 0)) rfl dX2_wayOf_17 ?_
    refine lv_aload_n X.1 X.2.1 dX2_wayOf_20 rfl (lv_at hl.1 0 rfl) ?_
    have nd21 : nmI (M 4 0 6) := hH.1.1 _ _ _
    refine g_get X cX2 hH (r := 4) (i := 0) (by decide) rfl 6 (by decide) k_389 rfl (v := .int (iI (M 4 0 6))) rfl dX2_wayOf_21 ?_
    obtain ⟨r24, hq24, hf_⟩ := ob_e hf; clear hf; have hf := hf_; clear hf_
    refine gGoV (gRunV X hH (As := [.int (iI (M 4 0 6))]) (m_X5_findWays l G (M 4 0 6) nd21 M _ hq24) calX5_findWays k_822 k_823 k_821 (by decide) cX5 rfl ⟨by decide, by decide⟩ rfl hl rfl (Nat.le_of_ble_eq_true rfl) ⟨Nat.le_of_ble_eq_true rfl, Nat.le_of_ble_eq_true rfl⟩ dX2_wayOf_24) hS (fun H locs hH hS => ?_)
    refine lv_aload_n X.1 X.2.1 dX2_wayOf_27 rfl (lv_at hl.1 1 rfl) ?_
    have nd28 : nmI (r24 7 i1 10) := hH.1.1 _ _ _
    refine g_get X cX8 hH (r := 7) (i := i1) hi1 rfl 10 (by decide) k_211 rfl (v := .int (iI (r24 7 i1 10))) rfl dX2_wayOf_28 ?_
    have hq := Option.some.inj hf; subst hq
    exact gRetI X hH hS (res := r24 7 i1 10) nd28 dX2_wayOf_31
  · replace hf := it_t hf hc11
    refine lv_iconst X.1 X.2.1 dX2_wayOf_14 (v := iI (-1)) rfl ?_
    have hq := Option.some.inj hf; subst hq
    exact gRetI X hH hS (res := (-1)) (nmI_l (by decide)) dX2_wayOf_15
theorem w_X5_isAllDone_L2 {G : gG} {p : Program} {l : Launch} {e : Env} {s : State} {m : MethodId} {args : Array Value} {below : List Frame} {meth : Method} {c : Code} (X : gX G p s m args meth c RX5 cX5_isAllDone 3 (some .boolean) (gWs yX5_isAllDone cX5_isAllDone 3 (some .boolean))) (k38 : Option (Int)) (z1 : Int) (nz1 : nmI z1) (M : gM) (q : (Int)) (hk38 : k38 = some q → ∀ (H : Heap) (locs : List Loc) (ls : Array Slot), gH G M H → va_S (gA G) s.heap H locs → gLv ls 3 [] → W p l e { frames := 2, cells := 0, slots := 0, locals := 42 } s m args below meth c H locs 0 0 (MQ below (gQz G q M) args s 0 0 (gA G)) (F0 m 38 ls [])) : ∀ (n : Nat) (x2 : Int) (nx2 : nmI x2), f_X5_isAllDone_L2 k38 z1 M n x2 = some q → ∀ (H : Heap) (locs : List Loc) (ls : Array Slot), gH G M H → va_S (gA G) s.heap H locs → gLv ls 3 [(0, .ref (gAd G 2 0)), (1, .int (iI z1)), (2, .int (iI x2))] → W p l e { frames := 2, cells := 0, slots := 0, locals := 42 } s m args below meth c H locs 0 0 (MQ below (gQz G q M) args s 0 0 (gA G)) (F0 m 2 ls []) := by
  intro n
  induction n with
  | zero =>
    intro x2 nx2 hf
    cases hf
  | succ n ih =>
    intro x2 nx2 hf H locs ls hH hS hl
    rw [f_X5_isAllDone_L2] at hf
    refine lv_iload_n X.1 X.2.1 dX5_isAllDone_2 rfl (lv_at hl.1 2 rfl) ?_
    refine lv_aload_n X.1 X.2.1 dX5_isAllDone_3 rfl (lv_at hl.1 0 rfl) ?_
    have nd4 : nmI (M 2 0 5) := hH.1.1 _ _ _
    refine g_get X cX5 hH (r := 2) (i := 0) (by decide) rfl 5 (by decide) k_250 rfl (v := .int (iI (M 2 0 5))) rfl dX5_isAllDone_4 ?_
    refine g_icmp_ge X nx2 nd4 (tgt := 38) dX5_isAllDone_7 (by decide) (fun hc7 => ?_) (fun hc7 => ?_)
    · replace hf := it_f hf hc7
      exact hk38  hf _ _ _ hH hS (gLv_sub hl [] rfl)
    · replace hf := it_t hf hc7
      refine lv_iload_n X.1 X.2.1 dX5_isAllDone_10 rfl (lv_at hl.1 1 rfl) ?_
      refine lv_iload_n X.1 X.2.1 dX5_isAllDone_11 rfl (lv_at hl.1 2 rfl) ?_
      refine gGoI (gRunSN X hH (As := [.int (iI z1), .int (iI x2)]) (m_X11_bitOf l G z1 nz1 x2 nx2 M _ rfl) calX11_bitOf k_720 k_719 ⟨by decide, by decide⟩ rfl hl rfl (Nat.le_of_ble_eq_true rfl) ⟨Nat.le_of_ble_eq_true rfl, Nat.le_of_ble_eq_true rfl⟩ dX5_isAllDone_12) hS (fun H locs nr12 hH hS => ?_)
      refine lv_iconst X.1 X.2.1 dX5_isAllDone_15 (v := iI 1) rfl ?_
      obtain ⟨k32, ek32, hf_⟩ := oj_e hf; clear hf; have hf := hf_; clear hf_
      have hk32 : k32 = some q → ∀ (H : Heap) (locs : List Loc) (ls : Array Slot), gH G M H → va_S (gA G) s.heap H locs → gLv ls 3 [(0, .ref (gAd G 2 0)), (1, .int (iI z1)), (2, .int (iI x2))] → W p l e { frames := 2, cells := 0, slots := 0, locals := 42 } s m args below meth c H locs 0 0 (MQ below (gQz G q M) args s 0 0 (gA G)) (F0 m 32 ls []) := by
        intro  hf H locs ls hH hS hl
        subst ek32
        refine g_iinc X (a := x2) (lv' := [(2, .int (iI (wI (x2 + 1)))), (0, .ref (gAd G 2 0)), (1, .int (iI z1))]) dX5_isAllDone_32 hl (k := 2) rfl (by decide) rfl (fun ls hl => ?_)
        refine lv_goto (tgt := 2) X.1 X.2.1 dX5_isAllDone_35 (by decide) ?_
        exact ih (wI (x2 + 1)) (nmI_w _) hf _ _ _ hH hS (gLv_sub hl [1, 2, 0] rfl)
      clear ek32
      refine g_icmp_ne X nr12 (nmI_l (by decide)) (tgt := 32) dX5_isAllDone_16 (by decide) (fun hc16 => ?_) (fun hc16 => ?_)
      · replace hf := it_f hf hc16
        exact hk32  hf _ _ _ hH hS (gLv_sub hl [0, 1, 2] rfl)
      · replace hf := it_t hf hc16
        refine lv_aload_n X.1 X.2.1 dX5_isAllDone_19 rfl (lv_at hl.1 0 rfl) ?_
        refine lv_iload_n X.1 X.2.1 dX5_isAllDone_20 rfl (lv_at hl.1 2 rfl) ?_
        refine gGoR (gRunV X hH (As := [.int (iI x2)]) (m_X5_targetAt l G x2 nx2 M _ rfl) calX5_targetAt k_631 k_632 k_638 (by decide) cX5 rfl ⟨by decide, by decide⟩ rfl hl rfl (Nat.le_of_ble_eq_true rfl) ⟨Nat.le_of_ble_eq_true rfl, Nat.le_of_ble_eq_true rfl⟩ dX5_isAllDone_21) hS (fun H locs hr21 hH hS => ?_)
        replace hr21 : (f_X5_targetAt x2 M) < 15 := hr21
        obtain ⟨r24, hq24, hf_⟩ := ob_e hf; clear hf; have hf := hf_; clear hf_
        refine gGoZ (gRunV X hH (As := []) (m_X8_isAllDone l G ((f_X5_targetAt x2 M)) hr21 M _ hq24) calX8_isAllDone k_969 k_970 k_1017 hr21 cX8 rfl ⟨by decide, by decide⟩ rfl hl rfl (Nat.le_of_ble_eq_true rfl) ⟨Nat.le_of_ble_eq_true rfl, Nat.le_of_ble_eq_true rfl⟩ dX5_isAllDone_24) hS (fun H locs br24 hH hS => ?_)
        refine g_if_ne X (nmI_b br24) (tgt := 32) dX5_isAllDone_27 (by decide) (fun hc27 => ?_) (fun hc27 => ?_)
        · replace hf := it_f hf hc27
          exact hk32  hf _ _ _ hH hS (gLv_sub hl [0, 1, 2] rfl)
        · replace hf := it_t hf hc27
          refine lv_iconst X.1 X.2.1 dX5_isAllDone_30 (v := iI 0) rfl ?_
          have hq := Option.some.inj hf; subst hq
          exact gRetZ X hH hS (res := 0) (by decide) dX5_isAllDone_31
theorem m_X5_isAllDone (l : Launch) (G : gG) (v1 : Int) (nv1 : nmI v1) (M : gM) (q : (Int)) (hf : f_X5_isAllDone v1 M = some q) : gMet l yX5_isAllDone cX5_isAllDone 3 (some .boolean) 2 42 G M [.ref (gAd G 2 0), .int (iI v1)] (gQz G q M) := by
  refine gOfW (by decide) (by show _ ≤ 3; exact Nat.le_of_ble_eq_true rfl) rfl ?_
  intro p e s m below meth c X hH ls hl
  replace hl : gLv ls 3 [(0, .ref (gAd G 2 0)), (1, .int (iI v1))] := hl
  have hS : va_S (gA G) s.heap s.heap [] := va_S.rf
  generalize hargs : ([.ref (gAd G 2 0), .int (iI v1)] : List Value).toArray = args at X ⊢
  clear hargs
  unfold f_X5_isAllDone at hf
  refine lv_iconst X.1 X.2.1 dX5_isAllDone_0 (v := iI 0) rfl ?_
  refine g_istore_n X (lv' := [(2, .int (iI 0)), (0, .ref (gAd G 2 0)), (1, .int (iI v1))]) dX5_isAllDone_1 rfl hl (by decide) rfl (fun ls hl => ?_)
  refine w_X5_isAllDone_L2 X _ v1 nv1 M q ?_ 64 0 (nmI_l (by decide)) hf _ _ _ hH hS (gLv_sub hl [1, 2, 0] rfl)
  · intro  hf H locs ls hH hS hl
    refine lv_iconst X.1 X.2.1 dX5_isAllDone_38 (v := iI 1) rfl ?_
    have hq := Option.some.inj hf; subst hq
    exact gRetZ X hH hS (res := 1) (by decide) dX5_isAllDone_39
theorem w_X5_proofOverInputs_L5 {G : gG} {p : Program} {l : Launch} {e : Env} {s : State} {m : MethodId} {args : Array Value} {below : List Frame} {meth : Method} {c : Code} (X : gX G p s m args meth c RX5 cX5_proofOverInputs 5 (some .int) (gWs yX5_proofOverInputs cX5_proofOverInputs 5 (some .int))) (k44 : Int → Option (Int)) (z1 : Nat) (hz1 : z1 < 15) (M : gM) (q : (Int)) (hk44 : ∀ (x2 : Int) (nx2 : nmI x2), k44 x2 = some q → ∀ (H : Heap) (locs : List Loc) (ls : Array Slot), gH G M H → va_S (gA G) s.heap H locs → gLv ls 5 [(0, .ref (gAd G 2 0)), (1, .ref (gAd G 7 z1)), (2, .int (iI x2))] → W p l e { frames := 2, cells := 0, slots := 0, locals := 44 } s m args below meth c H locs 0 0 (MQ below (gQi G q M) args s 0 0 (gA G)) (F0 m 44 ls [])) : ∀ (n : Nat) (x2 : Int) (nx2 : nmI x2) (x3 : Int) (nx3 : nmI x3), f_X5_proofOverInputs_L5 k44 z1 M n x2 x3 = some q → ∀ (H : Heap) (locs : List Loc) (ls : Array Slot), gH G M H → va_S (gA G) s.heap H locs → gLv ls 5 [(0, .ref (gAd G 2 0)), (1, .ref (gAd G 7 z1)), (2, .int (iI x2)), (3, .int (iI x3))] → W p l e { frames := 2, cells := 0, slots := 0, locals := 44 } s m args below meth c H locs 0 0 (MQ below (gQi G q M) args s 0 0 (gA G)) (F0 m 5 ls []) := by
  intro n
  induction n with
  | zero =>
    intro x2 nx2 x3 nx3 hf
    cases hf
  | succ n ih =>
    intro x2 nx2 x3 nx3 hf H locs ls hH hS hl
    rw [f_X5_proofOverInputs_L5] at hf
    refine lv_iload_n X.1 X.2.1 dX5_proofOverInputs_5 rfl (lv_at hl.1 3 rfl) ?_
    refine lv_aload_n X.1 X.2.1 dX5_proofOverInputs_6 rfl (lv_at hl.1 1 rfl) ?_
    have nd7 : nmI (M 7 z1 6) := hH.1.1 _ _ _
    refine g_get X cX8 hH (r := 7) (i := z1) hz1 rfl 6 (by decide) k_203 rfl (v := .int (iI (M 7 z1 6))) rfl dX5_proofOverInputs_7 ?_
    refine g_icmp_ge X nx3 nd7 (tgt := 44) dX5_proofOverInputs_10 (by decide) (fun hc10 => ?_) (fun hc10 => ?_)
    · replace hf := it_f hf hc10
      exact hk44 x2 nx2 hf _ _ _ hH hS (gLv_sub hl [0, 1, 2] rfl)
    · replace hf := it_t hf hc10
      refine lv_aload_n X.1 X.2.1 dX5_proofOverInputs_13 rfl (lv_at hl.1 1 rfl) ?_
      refine lv_iload_n X.1 X.2.1 dX5_proofOverInputs_14 rfl (lv_at hl.1 3 rfl) ?_
      refine gGoR (gRunV X hH (As := [.int (iI x3)]) (m_X8_actionAt l G z1 hz1 x3 nx3 M _ rfl) calX8_actionAt k_740 k_741 k_1026 hz1 cX8 rfl ⟨by decide, by decide⟩ rfl hl rfl (Nat.le_of_ble_eq_true rfl) ⟨Nat.le_of_ble_eq_true rfl, Nat.le_of_ble_eq_true rfl⟩ dX5_proofOverInputs_15) hS (fun H locs hr15 hH hS => ?_)
      replace hr15 : (f_X8_actionAt z1 x3 M) < 60 := hr15
      refine g_astore X (lv' := [(4, .ref (gAd G 9 ((f_X8_actionAt z1 x3 M)))), (0, .ref (gAd G 2 0)), (1, .ref (gAd G 7 z1)), (2, .int (iI x2)), (3, .int (iI x3))]) dX5_proofOverInputs_18 hl (by decide) rfl (fun ls hl => ?_)
      refine lv_iload_n X.1 X.2.1 dX5_proofOverInputs_20 rfl (lv_at hl.1 3 rfl) ?_
      refine lv_aload X.1 X.2.1 dX5_proofOverInputs_21 (lv_at hl.1 0 rfl) ?_
      have nd23 : nmI (M 9 ((f_X8_actionAt z1 x3 M)) 3) := hH.1.1 _ _ _
      refine g_get X cX0 hH (r := 9) (i := (f_X8_actionAt z1 x3 M)) hr15 rfl 3 (by decide) k_151 rfl (v := .int (iI (M 9 ((f_X8_actionAt z1 x3 M)) 3))) rfl dX5_proofOverInputs_23 ?_
      refine gGoI (gRunSN X hH (As := [.int (iI x2), .int (iI (M 9 ((f_X8_actionAt z1 x3 M)) 3))]) (m_X11_plus l G x2 nx2 (M 9 ((f_X8_actionAt z1 x3 M)) 3) nd23 M _ rfl) calX11_plus k_704 k_1027 ⟨by decide, by decide⟩ rfl hl rfl (Nat.le_of_ble_eq_true rfl) ⟨Nat.le_of_ble_eq_true rfl, Nat.le_of_ble_eq_true rfl⟩ dX5_proofOverInputs_26) hS (fun H locs nr26 hH hS => ?_)
      refine lv_aload X.1 X.2.1 dX5_proofOverInputs_29 (lv_at hl.1 0 rfl) ?_
      have nd31 : nmI (M 9 ((f_X8_actionAt z1 x3 M)) 4) := hH.1.1 _ _ _
      refine g_get X cX0 hH (r := 9) (i := (f_X8_actionAt z1 x3 M)) hr15 rfl 4 (by decide) k_154 rfl (v := .int (iI (M 9 ((f_X8_actionAt z1 x3 M)) 4))) rfl dX5_proofOverInputs_31 ?_
      refine gGoI (gRunSN X hH (As := [.int (iI ((f_X11_plus x2 (M 9 ((f_X8_actionAt z1 x3 M)) 3) M))), .int (iI (M 9 ((f_X8_actionAt z1 x3 M)) 4))]) (m_X11_plus l G ((f_X11_plus x2 (M 9 ((f_X8_actionAt z1 x3 M)) 3) M)) nr26 (M 9 ((f_X8_actionAt z1 x3 M)) 4) nd31 M _ rfl) calX11_plus k_704 k_1027 ⟨by decide, by decide⟩ rfl hl rfl (Nat.le_of_ble_eq_true rfl) ⟨Nat.le_of_ble_eq_true rfl, Nat.le_of_ble_eq_true rfl⟩ dX5_proofOverInputs_34) hS (fun H locs nr34 hH hS => ?_)
      refine g_istore_n X (lv' := [(2, .int (iI ((f_X11_plus ((f_X11_plus x2 (M 9 ((f_X8_actionAt z1 x3 M)) 3) M)) (M 9 ((f_X8_actionAt z1 x3 M)) 4) M)))), (4, .ref (gAd G 9 ((f_X8_actionAt z1 x3 M)))), (0, .ref (gAd G 2 0)), (1, .ref (gAd G 7 z1)), (3, .int (iI x3))]) dX5_proofOverInputs_37 rfl hl (by decide) rfl (fun ls hl => ?_)
      refine g_iinc X (a := x3) (lv' := [(3, .int (iI (wI (x3 + 1)))), (2, .int (iI ((f_X11_plus ((f_X11_plus x2 (M 9 ((f_X8_actionAt z1 x3 M)) 3) M)) (M 9 ((f_X8_actionAt z1 x3 M)) 4) M)))), (4, .ref (gAd G 9 ((f_X8_actionAt z1 x3 M)))), (0, .ref (gAd G 2 0)), (1, .ref (gAd G 7 z1))]) dX5_proofOverInputs_38 hl (k := 4) rfl (by decide) rfl (fun ls hl => ?_)
      refine lv_goto (tgt := 5) X.1 X.2.1 dX5_proofOverInputs_41 (by decide) ?_
      exact ih ((f_X11_plus ((f_X11_plus x2 (M 9 ((f_X8_actionAt z1 x3 M)) 3) M)) (M 9 ((f_X8_actionAt z1 x3 M)) 4) M)) nr34 (wI (x3 + 1)) (nmI_w _) hf _ _ _ hH hS (gLv_sub hl [3, 4, 1, 0] rfl)
theorem w_X5_proofOverInputs_L46 {G : gG} {p : Program} {l : Launch} {e : Env} {s : State} {m : MethodId} {args : Array Value} {below : List Frame} {meth : Method} {c : Code} (X : gX G p s m args meth c RX5 cX5_proofOverInputs 5 (some .int) (gWs yX5_proofOverInputs cX5_proofOverInputs 5 (some .int))) (k98 : Int → Option (Int)) (z1 : Nat) (hz1 : z1 < 15) (M : gM) (q : (Int)) (hk98 : ∀ (x2 : Int) (nx2 : nmI x2), k98 x2 = some q → ∀ (H : Heap) (locs : List Loc) (ls : Array Slot), gH G M H → va_S (gA G) s.heap H locs → gLv ls 5 [(2, .int (iI x2))] → W p l e { frames := 2, cells := 0, slots := 0, locals := 44 } s m args below meth c H locs 0 0 (MQ below (gQi G q M) args s 0 0 (gA G)) (F0 m 98 ls [])) : ∀ (n : Nat) (x2 : Int) (nx2 : nmI x2) (x3 : Int) (nx3 : nmI x3), f_X5_proofOverInputs_L46 k98 z1 M n x2 x3 = some q → ∀ (H : Heap) (locs : List Loc) (ls : Array Slot), gH G M H → va_S (gA G) s.heap H locs → gLv ls 5 [(0, .ref (gAd G 2 0)), (1, .ref (gAd G 7 z1)), (2, .int (iI x2)), (3, .int (iI x3))] → W p l e { frames := 2, cells := 0, slots := 0, locals := 44 } s m args below meth c H locs 0 0 (MQ below (gQi G q M) args s 0 0 (gA G)) (F0 m 46 ls []) := by
  intro n
  induction n with
  | zero =>
    intro x2 nx2 x3 nx3 hf
    cases hf
  | succ n ih =>
    intro x2 nx2 x3 nx3 hf H locs ls hH hS hl
    rw [f_X5_proofOverInputs_L46] at hf
    refine lv_iload_n X.1 X.2.1 dX5_proofOverInputs_46 rfl (lv_at hl.1 3 rfl) ?_
    refine lv_aload_n X.1 X.2.1 dX5_proofOverInputs_47 rfl (lv_at hl.1 1 rfl) ?_
    refine g_get X cX8 hH (r := 7) (i := z1) hz1 rfl 1 (by decide) k_184 rfl (v := .ref (gAd G 8 z1)) rfl dX5_proofOverInputs_48 ?_
    have nd51 : nmI (M 8 z1 5) := hH.1.1 _ _ _
    refine g_get X cX6 hH (r := 8) (i := z1) (by show _ < 16; omega) rfl 5 (by decide) k_119 rfl (v := .int (iI (M 8 z1 5))) rfl dX5_proofOverInputs_51 ?_
    refine g_icmp_ge X nx3 nd51 (tgt := 98) dX5_proofOverInputs_54 (by decide) (fun hc54 => ?_) (fun hc54 => ?_)
    · replace hf := it_f hf hc54
      exact hk98 x2 nx2 hf _ _ _ hH hS (gLv_sub hl [2] rfl)
    · replace hf := it_t hf hc54
      refine lv_aload_n X.1 X.2.1 dX5_proofOverInputs_57 rfl (lv_at hl.1 1 rfl) ?_
      refine g_get X cX8 hH (r := 7) (i := z1) hz1 rfl 1 (by decide) k_184 rfl (v := .ref (gAd G 8 z1)) rfl dX5_proofOverInputs_58 ?_
      refine lv_iload_n X.1 X.2.1 dX5_proofOverInputs_61 rfl (lv_at hl.1 3 rfl) ?_
      refine gGoI (gRunV X hH (As := [.int (iI x3)]) (m_X6_chosen l G z1 (by show _ < 16; omega) x3 nx3 M _ rfl) calX6_chosen k_727 k_728 k_726 (by show _ < 16; omega) cX6 rfl ⟨by decide, by decide⟩ rfl hl rfl (Nat.le_of_ble_eq_true rfl) ⟨Nat.le_of_ble_eq_true rfl, Nat.le_of_ble_eq_true rfl⟩ dX5_proofOverInputs_62) hS (fun H locs nr62 hH hS => ?_)
      refine g_istore X (lv' := [(4, .int (iI ((f_X6_chosen z1 x3 M)))), (0, .ref (gAd G 2 0)), (1, .ref (gAd G 7 z1)), (2, .int (iI x2)), (3, .int (iI x3))]) dX5_proofOverInputs_65 hl (by decide) rfl (fun ls hl => ?_)
      refine lv_iload X.1 X.2.1 dX5_proofOverInputs_67 (lv_at hl.1 0 rfl) ?_
      refine gGoZ (gRunSN X hH (As := [.int (iI ((f_X6_chosen z1 x3 M)))]) (m_X11_isTarget l G ((f_X6_chosen z1 x3 M)) nr62 M _ rfl) calX11_isTarget k_731 k_730 ⟨by decide, by decide⟩ rfl hl rfl (Nat.le_of_ble_eq_true rfl) ⟨Nat.le_of_ble_eq_true rfl, Nat.le_of_ble_eq_true rfl⟩ dX5_proofOverInputs_69) hS (fun H locs br69 hH hS => ?_)
      obtain ⟨k92, ek92, hf_⟩ := oj_e hf; clear hf; have hf := hf_; clear hf_
      have hk92 : ∀ (x2_92 : Int) (nx2_92 : nmI x2_92), k92 x2_92 = some q → ∀ (H : Heap) (locs : List Loc) (ls : Array Slot), gH G M H → va_S (gA G) s.heap H locs → gLv ls 5 [(0, .ref (gAd G 2 0)), (1, .ref (gAd G 7 z1)), (2, .int (iI x2_92)), (3, .int (iI x3))] → W p l e { frames := 2, cells := 0, slots := 0, locals := 44 } s m args below meth c H locs 0 0 (MQ below (gQi G q M) args s 0 0 (gA G)) (F0 m 92 ls []) := by
        intro x2_92 nx2_92 hf H locs ls hH hS hl
        subst ek92
        refine g_iinc X (a := x3) (lv' := [(3, .int (iI (wI (x3 + 1)))), (0, .ref (gAd G 2 0)), (1, .ref (gAd G 7 z1)), (2, .int (iI x2_92))]) dX5_proofOverInputs_92 hl (k := 3) rfl (by decide) rfl (fun ls hl => ?_)
        refine lv_goto (tgt := 46) X.1 X.2.1 dX5_proofOverInputs_95 (by decide) ?_
        exact ih x2_92 nx2_92 (wI (x3 + 1)) (nmI_w _) hf _ _ _ hH hS (gLv_sub hl [1, 2, 3, 0] rfl)
      clear ek92
      refine g_if_eq X (nmI_b br69) (tgt := 92) dX5_proofOverInputs_72 (by decide) (fun hc72 => ?_) (fun hc72 => ?_)
      · replace hf := it_t hf hc72
        exact hk92 x2 nx2 hf _ _ _ hH hS (gLv_sub hl [1, 2, 3, 4] rfl)
      · replace hf := it_f hf hc72
        refine lv_iload_n X.1 X.2.1 dX5_proofOverInputs_75 rfl (lv_at hl.1 3 rfl) ?_
        refine lv_aload_n X.1 X.2.1 dX5_proofOverInputs_76 rfl (lv_at hl.1 1 rfl) ?_
        refine g_get X cX5 hH (r := 2) (i := 0) (by decide) rfl 2 (by decide) k_246 rfl (v := .ref (gAd G 21 0)) rfl dX5_proofOverInputs_77 ?_
        refine lv_iload X.1 X.2.1 dX5_proofOverInputs_80 (lv_at hl.1 0 rfl) ?_
        refine lv_bipush X.1 X.2.1 dX5_proofOverInputs_82 (v := iI 16) (by decide) ?_
        refine g_isub X dX5_proofOverInputs_84 ?_
        refine gGoI (gRunSN X hH (As := [.ref (gAd G 21 0), .int (iI (wI (((f_X6_chosen z1 x3 M)) - 16)))]) (m_X11_at l G 21 0 14 (by decide) gArr_21 (wI (((f_X6_chosen z1 x3 M)) - 16)) (nmI_w _) M _ rfl) calX11_at k_563 k_1028 ⟨by decide, by decide⟩ rfl hl rfl (Nat.le_of_ble_eq_true rfl) ⟨Nat.le_of_ble_eq_true rfl, Nat.le_of_ble_eq_true rfl⟩ dX5_proofOverInputs_85) hS (fun H locs nr85 hH hS => ?_)
        refine gGoI (gRunSN X hH (As := [.int (iI x2), .int (iI ((f_X11_at 21 0 14 (wI (((f_X6_chosen z1 x3 M)) - 16)) M)))]) (m_X11_plus l G x2 nx2 ((f_X11_at 21 0 14 (wI (((f_X6_chosen z1 x3 M)) - 16)) M)) nr85 M _ rfl) calX11_plus k_704 k_1027 ⟨by decide, by decide⟩ rfl hl rfl (Nat.le_of_ble_eq_true rfl) ⟨Nat.le_of_ble_eq_true rfl, Nat.le_of_ble_eq_true rfl⟩ dX5_proofOverInputs_88) hS (fun H locs nr88 hH hS => ?_)
        refine g_istore_n X (lv' := [(2, .int (iI ((f_X11_plus x2 ((f_X11_at 21 0 14 (wI (((f_X6_chosen z1 x3 M)) - 16)) M)) M)))), (4, .int (iI ((f_X6_chosen z1 x3 M)))), (0, .ref (gAd G 2 0)), (1, .ref (gAd G 7 z1)), (3, .int (iI x3))]) dX5_proofOverInputs_91 rfl hl (by decide) rfl (fun ls hl => ?_)
        exact hk92 ((f_X11_plus x2 ((f_X11_at 21 0 14 (wI (((f_X6_chosen z1 x3 M)) - 16)) M)) M)) nr88 hf _ _ _ hH hS (gLv_sub hl [2, 3, 0, 4] rfl)
theorem m_X5_proofOverInputs (l : Launch) (G : gG) (i1 : Nat) (hi1 : i1 < 15) (M : gM) (q : (Int)) (hf : f_X5_proofOverInputs i1 M = some q) : gMet l yX5_proofOverInputs cX5_proofOverInputs 5 (some .int) 2 44 G M [.ref (gAd G 2 0), .ref (gAd G 7 i1)] (gQi G q M) := by
  refine gOfW (by decide) (by show _ ≤ 5; exact Nat.le_of_ble_eq_true rfl) rfl ?_
  intro p e s m below meth c X hH ls hl
  replace hl : gLv ls 5 [(0, .ref (gAd G 2 0)), (1, .ref (gAd G 7 i1))] := hl
  have hS : va_S (gA G) s.heap s.heap [] := va_S.rf
  generalize hargs : ([.ref (gAd G 2 0), .ref (gAd G 7 i1)] : List Value).toArray = args at X ⊢
  clear hargs
  unfold f_X5_proofOverInputs at hf
  refine lv_bipush X.1 X.2.1 dX5_proofOverInputs_0 (v := iI 7) (by decide) ?_
  refine g_istore_n X (lv' := [(2, .int (iI 7)), (0, .ref (gAd G 2 0)), (1, .ref (gAd G 7 i1))]) dX5_proofOverInputs_2 rfl hl (by decide) rfl (fun ls hl => ?_)
  refine lv_iconst X.1 X.2.1 dX5_proofOverInputs_3 (v := iI 0) rfl ?_
  refine g_istore_n X (lv' := [(3, .int (iI 0)), (2, .int (iI 7)), (0, .ref (gAd G 2 0)), (1, .ref (gAd G 7 i1))]) dX5_proofOverInputs_4 rfl hl (by decide) rfl (fun ls hl => ?_)
  refine w_X5_proofOverInputs_L5 X _ i1 hi1 M q ?_ 64 7 (nmI_l (by decide)) 0 (nmI_l (by decide)) hf _ _ _ hH hS (gLv_sub hl [2, 3, 1, 0] rfl)
  · intro y2_5_44 ny2_5_44 hf H locs ls hH hS hl
    refine lv_iconst X.1 X.2.1 dX5_proofOverInputs_44 (v := iI 0) rfl ?_
    refine g_istore_n X (lv' := [(3, .int (iI 0)), (0, .ref (gAd G 2 0)), (1, .ref (gAd G 7 i1)), (2, .int (iI y2_5_44))]) dX5_proofOverInputs_45 rfl hl (by decide) rfl (fun ls hl => ?_)
    refine w_X5_proofOverInputs_L46 X _ i1 hi1 M q ?_ 64 y2_5_44 ny2_5_44 0 (nmI_l (by decide)) hf _ _ _ hH hS (gLv_sub hl [1, 2, 3, 0] rfl)
    · intro y2_46_98 ny2_46_98 hf H locs ls hH hS hl
      refine lv_iload_n X.1 X.2.1 dX5_proofOverInputs_98 rfl (lv_at hl.1 0 rfl) ?_
      have hq := Option.some.inj hf; subst hq
      exact gRetI X hH hS (res := y2_46_98) ny2_46_98 dX5_proofOverInputs_99
