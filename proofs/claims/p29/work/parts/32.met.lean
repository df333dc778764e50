theorem m_X8_breaksOut (l : Launch) (G : gG) (i0 : Nat) (hi0 : i0 < 15) (v1 : Int) (nv1 : nmI v1) (M : gM) (q : (Int)) (hf : f_X8_breaksOut i0 v1 M = q) : gMet l yX8_breaksOut cX8_breaksOut 2 (some .boolean) 1 21 G M [.ref (gAd G 7 i0), .int (iI v1)] (gQz G q M) := by
  refine gOfW (by decide) (by show _ ≤ 2; exact Nat.le_of_ble_eq_true rfl) rfl ?_
  intro p e s m below meth c X hH ls hl
  replace hl : gLv ls 2 [(0, .ref (gAd G 7 i0)), (1, .int (iI v1))] := hl
  have hS : va_S (gA G) s.heap s.heap [] := va_S.rf
  generalize hargs : ([.ref (gAd G 7 i0), .int (iI v1)] : List Value).toArray = args at X ⊢
  clear hargs
  unfold f_X8_breaksOut at hf
  refine lv_aload_n X.1 X.2.1 dX8_breaksOut_0 rfl (lv_at hl.1 0 rfl) ?_
  have nd1 : nmI (M 7 i0 7) := hH.1.1 _ _ _
  refine g_get X cX8 hH (r := 7) (i := i0) hi0 rfl 7 (by decide) k_204 rfl (v := .int (iI (M 7 i0 7))) rfl dX8_breaksOut_1 ?_
  refine lv_iconst X.1 X.2.1 dX8_breaksOut_4 (v := iI (-1)) rfl ?_
  refine g_icmp_eq X nd1 (nmI_l (by decide)) (tgt := 26) dX8_breaksOut_5 (by decide) (fun hc5 => ?_) (fun hc5 => ?_)
  · replace hf := it_t hf hc5
    refine lv_iconst X.1 X.2.1 dX8_breaksOut_26 (v := iI 0) rfl ?_
    subst hf
    exact gRetZ X hH hS (res := 0) (by decide) dX8_breaksOut_27
  · replace hf := it_f hf hc5
    refine lv_aload_n X.1 X.2.1 dX8_breaksOut_8 rfl (lv_at hl.1 0 rfl) ?_
    have nd9 : nmI (M 7 i0 7) := hH.1.1 _ _ _
    refine g_get X cX8 hH (r := 7) (i := i0) hi0 rfl 7 (by decide) k_204 rfl (v := .int (iI (M 7 i0 7))) rfl dX8_breaksOut_9 ?_
    refine lv_iload_n X.1 X.2.1 dX8_breaksOut_12 rfl (lv_at hl.1 1 rfl) ?_
    refine lv_bipush X.1 X.2.1 dX8_breaksOut_13 (v := iI 16) (by decide) ?_
    refine g_irem X nv1 (nmI_l (by decide)) (by decide) dX8_breaksOut_15 ?_
    refine gGoI (gRunSN X hH (As := [.int (iI (M 7 i0 7)), .int (iI (gRem v1 16))]) (m_X11_bitOf l G (M 7 i0 7) nd9 (gRem v1 16) (nmI_rem _ _) M _ rfl) calX11_bitOf k_720 k_775 ⟨by decide, by decide⟩ rfl hl rfl (Nat.le_of_ble_eq_true rfl) ⟨Nat.le_of_ble_eq_true rfl, Nat.le_of_ble_eq_true rfl⟩ dX8_breaksOut_16) hS (fun H locs nr16 hH hS => ?_)
    refine g_if_ne X nr16 (tgt := 26) dX8_breaksOut_19 (by decide) (fun hc19 => ?_) (fun hc19 => ?_)
    · replace hf := it_f hf hc19
      refine lv_iconst X.1 X.2.1 dX8_breaksOut_26 (v := iI 0) rfl ?_
      subst hf
      exact gRetZ X hH hS (res := 0) (by decide) dX8_breaksOut_27
    · replace hf := it_t hf hc19
      refine lv_iconst X.1 X.2.1 dX8_breaksOut_22 (v := iI 1) rfl ?_
      refine lv_goto (tgt := 27) X.1 X.2.1 dX8_breaksOut_23 (by decide) ?_
      subst hf
      exact gRetZ X hH hS (res := 1) (by decide) dX8_breaksOut_27
theorem m_X8_fileFound (l : Launch) (G : gG) (i0 : Nat) (hi0 : i0 < 15) (v1 : Int) (nv1 : nmI v1) (M : gM) (q : (Int)) (hf : f_X8_fileFound i0 v1 M = q) : gMet l yX8_fileFound cX8_fileFound 2 (some .int) 0 0 G M [.ref (gAd G 7 i0), .int (iI v1)] (gQi G q M) := by
  refine gOfW (by decide) (by show _ ≤ 2; exact Nat.le_of_ble_eq_true rfl) rfl ?_
  intro p e s m below meth c X hH ls hl
  replace hl : gLv ls 2 [(0, .ref (gAd G 7 i0)), (1, .int (iI v1))] := hl
  have hS : va_S (gA G) s.heap s.heap [] := va_S.rf
  generalize hargs : ([.ref (gAd G 7 i0), .int (iI v1)] : List Value).toArray = args at X ⊢
  clear hargs
  unfold f_X8_fileFound at hf
  refine lv_aload_n X.1 X.2.1 dX8_fileFound_0 rfl (lv_at hl.1 0 rfl) ?_
  have nd1 : nmI (M 7 i0 7) := hH.1.1 _ _ _
  refine g_get X cX8 hH (r := 7) (i := i0) hi0 rfl 7 (by decide) k_204 rfl (v := .int (iI (M 7 i0 7))) rfl dX8_fileFound_1 ?_
  refine lv_iconst X.1 X.2.1 dX8_fileFound_4 (v := iI (-1)) rfl ?_
  refine g_icmp_ne X nd1 (nmI_l (by decide)) (tgt := 12) dX8_fileFound_5 (by decide) (fun hc5 => ?_) (fun hc5 => ?_)
  · replace hf := it_f hf hc5
    refine lv_iload_n X.1 X.2.1 dX8_fileFound_12 rfl (lv_at hl.1 1 rfl) ?_
    refine lv_bipush X.1 X.2.1 dX8_fileFound_13 (v := iI 16) (by decide) ?_
    refine g_irem X nv1 (nmI_l (by decide)) (by decide) dX8_fileFound_15 ?_
    subst hf
    exact gRetI X hH hS (res := gRem v1 16) (nmI_rem _ _) dX8_fileFound_16
  · replace hf := it_t hf hc5
    refine lv_iconst X.1 X.2.1 dX8_fileFound_8 (v := iI (-1)) rfl ?_
    refine lv_goto (tgt := 16) X.1 X.2.1 dX8_fileFound_9 (by decide) ?_
    subst hf
    exact gRetI X hH hS (res := (-1)) (nmI_l (by decide)) dX8_fileFound_16
theorem m_X9_contentFound (l : Launch) (G : gG) (i0 : Nat) (hi0 : i0 < 2) (i1 : Nat) (hi1 : i1 < 15) (v2 : Int) (nv2 : nmI v2) (M : gM) (q : (Int)) (hf : f_X9_contentFound i0 i1 v2 M = q) : gMet l yX9_contentFound cX9_contentFound 3 (some .int) 1 21 G M [.ref (gAd G 6 i0), .ref (gAd G 7 i1), .int (iI v2)] (gQi G q M) := by
  refine gOfW (by decide) (by show _ ≤ 3; exact Nat.le_of_ble_eq_true rfl) rfl ?_
  intro p e s m below meth c X hH ls hl
  replace hl : gLv ls 3 [(0, .ref (gAd G 6 i0)), (1, .ref (gAd G 7 i1)), (2, .int (iI v2))] := hl
  have hS : va_S (gA G) s.heap s.heap [] := va_S.rf
  generalize hargs : ([.ref (gAd G 6 i0), .ref (gAd G 7 i1), .int (iI v2)] : List Value).toArray = args at X ⊢
  clear hargs
  unfold f_X9_contentFound at hf
  refine lv_aload_n X.1 X.2.1 dX9_contentFound_0 rfl (lv_at hl.1 0 rfl) ?_
  refine g_get X cX9 hH (r := 6) (i := i0) hi0 rfl 1 (by decide) k_326 rfl (v := .ref (gAd G 12 i0)) rfl dX9_contentFound_1 ?_
  refine lv_aload_n X.1 X.2.1 dX9_contentFound_4 rfl (lv_at hl.1 1 rfl) ?_
  refine lv_iload_n X.1 X.2.1 dX9_contentFound_5 rfl (lv_at hl.1 2 rfl) ?_
  refine gGoI (gRunV X hH (As := [.int (iI v2)]) (m_X8_fileFound l G i1 hi1 v2 nv2 M _ rfl) calX8_fileFound k_781 k_782 k_780 hi1 cX8 rfl ⟨by decide, by decide⟩ rfl hl rfl (Nat.le_of_ble_eq_true rfl) ⟨Nat.le_of_ble_eq_true rfl, Nat.le_of_ble_eq_true rfl⟩ dX9_contentFound_6) hS (fun H locs nr6 hH hS => ?_)
  refine gGoI (gRunSN X hH (As := [.ref (gAd G 12 i0), .int (iI ((f_X8_fileFound i1 v2 M)))]) (m_X11_at l G 12 i0 16 (by show _ < 2; omega) gArr_12 ((f_X8_fileFound i1 v2 M)) nr6 M _ rfl) calX11_at k_563 k_768 ⟨by decide, by decide⟩ rfl hl rfl (Nat.le_of_ble_eq_true rfl) ⟨Nat.le_of_ble_eq_true rfl, Nat.le_of_ble_eq_true rfl⟩ dX9_contentFound_9) hS (fun H locs nr9 hH hS => ?_)
  subst hf
  exact gRetI X hH hS (res := (f_X11_at 12 i0 16 ((f_X8_fileFound i1 v2 M)) M)) nr9 dX9_contentFound_12
theorem m_X3_isOf (l : Launch) (G : gG) (i0 : Nat) (hi0 : i0 < 40) (v1 : Int) (nv1 : nmI v1) (v2 : Int) (nv2 : nmI v2) (v3 : Int) (nv3 : nmI v3) (M : gM) (q : (Int)) (hf : f_X3_isOf i0 v1 v2 v3 M = q) : gMet l yX3_isOf cX3_isOf 4 (some .boolean) 0 0 G M [.ref (gAd G 10 i0), .int (iI v1), .int (iI v2), .int (iI v3)] (gQz G q M) := by
  refine gOfW (by decide) (by show _ ≤ 4; exact Nat.le_of_ble_eq_true rfl) rfl ?_
  intro p e s m below meth c X hH ls hl
  replace hl : gLv ls 4 [(0, .ref (gAd G 10 i0)), (1, .int (iI v1)), (2, .int (iI v2)), (3, .int (iI v3))] := hl
  have hS : va_S (gA G) s.heap s.heap [] := va_S.rf
  generalize hargs : ([.ref (gAd G 10 i0), .int (iI v1), .int (iI v2), .int (iI v3)] : List Value).toArray = args at X ⊢
  clear hargs
  unfold f_X3_isOf at hf
  refine lv_aload_n X.1 X.2.1 dX3_isOf_0 rfl (lv_at hl.1 0 rfl) ?_
  have nd1 : nmI (M 10 i0 6) := hH.1.1 _ _ _
  have bd1 := hH.1.2.1 10 i0 6 rfl
  refine g_get X cX3 hH (r := 10) (i := i0) hi0 rfl 6 (by decide) k_290 rfl (v := .int (iI (M 10 i0 6))) rfl dX3_isOf_1 ?_
  refine g_if_eq X nd1 (tgt := 35) dX3_isOf_4 (by decide) (fun hc4 => ?_) (fun hc4 => ?_)
  · replace hf := it_t hf hc4
    refine lv_iconst X.1 X.2.1 dX3_isOf_35 (v := iI 0) rfl ?_
    subst hf
    exact gRetZ X hH hS (res := 0) (by decide) dX3_isOf_36
  · replace hf := it_f hf hc4
    refine lv_aload_n X.1 X.2.1 dX3_isOf_7 rfl (lv_at hl.1 0 rfl) ?_
    have nd8 : nmI (M 10 i0 0) := hH.1.1 _ _ _
    refine g_get X cX3 hH (r := 10) (i := i0) hi0 rfl 0 (by decide) k_280 rfl (v := .int (iI (M 10 i0 0))) rfl dX3_isOf_8 ?_
    refine lv_iload_n X.1 X.2.1 dX3_isOf_11 rfl (lv_at hl.1 1 rfl) ?_
    refine g_icmp_ne X nd8 nv1 (tgt := 35) dX3_isOf_12 (by decide) (fun hc12 => ?_) (fun hc12 => ?_)
    · replace hf := it_f hf hc12
      refine lv_iconst X.1 X.2.1 dX3_isOf_35 (v := iI 0) rfl ?_
      subst hf
      exact gRetZ X hH hS (res := 0) (by decide) dX3_isOf_36
    · replace hf := it_t hf hc12
      refine lv_aload_n X.1 X.2.1 dX3_isOf_15 rfl (lv_at hl.1 0 rfl) ?_
      have nd16 : nmI (M 10 i0 1) := hH.1.1 _ _ _
      refine g_get X cX3 hH (r := 10) (i := i0) hi0 rfl 1 (by decide) k_281 rfl (v := .int (iI (M 10 i0 1))) rfl dX3_isOf_16 ?_
      refine lv_iload_n X.1 X.2.1 dX3_isOf_19 rfl (lv_at hl.1 2 rfl) ?_
      refine g_icmp_ne X nd16 nv2 (tgt := 35) dX3_isOf_20 (by decide) (fun hc20 => ?_) (fun hc20 => ?_)
      · replace hf := it_f hf hc20
        refine lv_iconst X.1 X.2.1 dX3_isOf_35 (v := iI 0) rfl ?_
        subst hf
        exact gRetZ X hH hS (res := 0) (by decide) dX3_isOf_36
      · replace hf := it_t hf hc20
        refine lv_aload_n X.1 X.2.1 dX3_isOf_23 rfl (lv_at hl.1 0 rfl) ?_
        have nd24 : nmI (M 10 i0 2) := hH.1.1 _ _ _
        refine g_get X cX3 hH (r := 10) (i := i0) hi0 rfl 2 (by decide) k_282 rfl (v := .int (iI (M 10 i0 2))) rfl dX3_isOf_24 ?_
        refine lv_iload_n X.1 X.2.1 dX3_isOf_27 rfl (lv_at hl.1 3 rfl) ?_
        refine g_icmp_ne X nd24 nv3 (tgt := 35) dX3_isOf_28 (by decide) (fun hc28 => ?_) (fun hc28 => ?_)
        · replace hf := it_f hf hc28
          refine lv_iconst X.1 X.2.1 dX3_isOf_35 (v := iI 0) rfl ?_
          subst hf
          exact gRetZ X hH hS (res := 0) (by decide) dX3_isOf_36
        · replace hf := it_t hf hc28
          refine lv_iconst X.1 X.2.1 dX3_isOf_31 (v := iI 1) rfl ?_
          refine lv_goto (tgt := 36) X.1 X.2.1 dX3_isOf_32 (by decide) ?_
          subst hf
          exact gRetZ X hH hS (res := 1) (by decide) dX3_isOf_36
theorem w_X1_firstFit_L3 {G : gG} {p : Program} {l : Launch} {e : Env} {s : State} {m : MethodId} {args : Array Value} {below : List Frame} {meth : Method} {c : Code} (X : gX G p s m args meth c RX1 cX1_firstFit 7 (some (.object "BuildGrid$Entry")) (gWs yX1_firstFit cX1_firstFit 7 (some (.object "BuildGrid$Entry")))) (k58 : Option (Option Nat)) (z1 : Int) (nz1 : nmI z1) (z2 : Int) (nz2 : nmI z2) (z3 : Int) (nz3 : nmI z3) (z4 : Int) (bz4 : z4 = 0 ∨ z4 = 1) (M : gM) (q : (Option Nat)) (hk58 : k58 = some q → ∀ (H : Heap) (locs : List Loc) (ls : Array Slot), gH G M H → va_S (gA G) s.heap H locs → gLv ls 7 [] → W p l e { frames := 3, cells := 0, slots := 0, locals := 61 } s m args below meth c H locs 0 0 (MQ below (gQq G 10 q M) args s 0 0 (gA G)) (F0 m 58 ls [])) : ∀ (n : Nat) (x5 : Int) (nx5 : nmI x5), f_X1_firstFit_L3 k58 z1 z2 z3 z4 M n x5 = some q → ∀ (H : Heap) (locs : List Loc) (ls : Array Slot), gH G M H → va_S (gA G) s.heap H locs → gLv ls 7 [(0, .ref (gAd G 3 0)), (1, .int (iI z1)), (2, .int (iI z2)), (3, .int (iI z3)), (4, .int (iI z4)), (5, .int (iI x5))] → W p l e { frames := 3, cells := 0, slots := 0, locals := 61 } s m args below meth c H locs 0 0 (MQ below (gQq G 10 q M) args s 0 0 (gA G)) (F0 m 3 ls []) := by
  intro n
  induction n with
  | zero =>
    intro x5 nx5 hf
    cases hf
  | succ n ih =>
    intro x5 nx5 hf H locs ls hH hS hl
    rw [f_X1_firstFit_L3] at hf
    refine lv_iload X.1 X.2.1 dX1_firstFit_3 (lv_at hl.1 5 rfl) ?_
    refine lv_aload_n X.1 X.2.1 dX1_firstFit_5 rfl (lv_at hl.1 0 rfl) ?_
    have nd6 : nmI (M 3 0 2) := hH.1.1 _ _ _
    refine g_get X cX1 hH (r := 3) (i := 0) (by decide) rfl 2 (by decide) k_308 rfl (v := .int (iI (M 3 0 2))) rfl dX1_firstFit_6 ?_
    refine g_icmp_ge X nx5 nd6 (tgt := 58) dX1_firstFit_9 (by decide) (fun hc9 => ?_) (fun hc9 => ?_)
    · replace hf := it_f hf hc9
      exact hk58  hf _ _ _ hH hS (gLv_sub hl [] rfl)
    · replace hf := it_t hf hc9
      refine lv_aload_n X.1 X.2.1 dX1_firstFit_12 rfl (lv_at hl.1 0 rfl) ?_
      refine lv_iload X.1 X.2.1 dX1_firstFit_13 (lv_at hl.1 5 rfl) ?_
      obtain ⟨r15, hq15, hf_⟩ := ob_e hf; clear hf; have hf := hf_; clear hf_
      refine gGoQ (gRunV X hH (As := [.int (iI x5)]) (m_X1_entryAt l G x5 nx5 M _ hq15) calX1_entryAt k_684 k_685 k_789 (by decide) cX1 rfl ⟨by decide, by decide⟩ rfl hl rfl (Nat.le_of_ble_eq_true rfl) ⟨Nat.le_of_ble_eq_true rfl, Nat.le_of_ble_eq_true rfl⟩ dX1_firstFit_15) hS (fun H locs hr15 hH hS => ?_)
      refine g_astoreO X (lv' := [(6, va_re (gAd G 10) r15), (0, .ref (gAd G 3 0)), (1, .int (iI z1)), (2, .int (iI z2)), (3, .int (iI z3)), (4, .int (iI z4)), (5, .int (iI x5))]) dX1_firstFit_18 hl (by decide) rfl (fun ls hl => ?_)
      refine g_aloadO X (ad := gAd G 10) (x := r15) dX1_firstFit_20 (lv_at hl.1 0 rfl) ?_
      obtain ⟨k52, ek52, hf_⟩ := oj_e hf; clear hf; have hf := hf_; clear hf_
      have hk52 : k52 = some q → ∀ (H : Heap) (locs : List Loc) (ls : Array Slot), gH G M H → va_S (gA G) s.heap H locs → gLv ls 7 [(0, .ref (gAd G 3 0)), (1, .int (iI z1)), (2, .int (iI z2)), (3, .int (iI z3)), (4, .int (iI z4)), (5, .int (iI x5))] → W p l e { frames := 3, cells := 0, slots := 0, locals := 61 } s m args below meth c H locs 0 0 (MQ below (gQq G 10 q M) args s 0 0 (gA G)) (F0 m 52 ls []) := by
        intro  hf H locs ls hH hS hl
        subst ek52
        refine g_iinc X (a := x5) (lv' := [(5, .int (iI (wI (x5 + 1)))), (0, .ref (gAd G 3 0)), (1, .int (iI z1)), (2, .int (iI z2)), (3, .int (iI z3)), (4, .int (iI z4))]) dX1_firstFit_52 hl (k := 5) rfl (by decide) rfl (fun ls hl => ?_)
        refine lv_goto (tgt := 3) X.1 X.2.1 dX1_firstFit_55 (by decide) ?_
        exact ih (wI (x5 + 1)) (nmI_w _) hf _ _ _ hH hS (gLv_sub hl [1, 2, 3, 4, 5, 0] rfl)
      clear ek52
      refine g_ifnullO X (ad := gAd G 10) (x := r15) (tgt := 52) dX1_firstFit_22 (by decide) ?_ ?_
      · intro hx
        subst hx
        replace hf := om_n hf
        exact hk52  hf _ _ _ hH hS (gLv_sub hl [1, 2, 3, 4, 5, 6] rfl)
      · intro a22 hx
        subst hx
        replace hf := om_s hf
        have ha22 : a22 < 40 := hr15 _ rfl
        refine lv_aload X.1 X.2.1 dX1_firstFit_25 (lv_at hl.1 0 rfl) ?_
        refine lv_iload_n X.1 X.2.1 dX1_firstFit_27 rfl (lv_at hl.1 2 rfl) ?_
        refine lv_iload_n X.1 X.2.1 dX1_firstFit_28 rfl (lv_at hl.1 3 rfl) ?_
        refine lv_iload_n X.1 X.2.1 dX1_firstFit_29 rfl (lv_at hl.1 4 rfl) ?_
        refine gGoZ (gRunV X hH (As := [.int (iI z1), .int (iI z2), .int (iI z3)]) (m_X3_isOf l G a22 ha22 z1 nz1 z2 nz2 z3 nz3 M _ rfl) calX3_isOf k_791 k_792 k_790 ha22 cX3 rfl ⟨by decide, by decide⟩ rfl hl rfl (Nat.le_of_ble_eq_true rfl) ⟨Nat.le_of_ble_eq_true rfl, Nat.le_of_ble_eq_true rfl⟩ dX1_firstFit_30) hS (fun H locs br30 hH hS => ?_)
        refine g_if_eq X (nmI_b br30) (tgt := 52) dX1_firstFit_33 (by decide) (fun hc33 => ?_) (fun hc33 => ?_)
        · replace hf := it_t hf hc33
          exact hk52  hf _ _ _ hH hS (gLv_sub hl [1, 2, 3, 4, 5, 6] rfl)
        · replace hf := it_f hf hc33
          refine lv_iload X.1 X.2.1 dX1_firstFit_36 (lv_at hl.1 5 rfl) ?_
          refine g_if_eq X (nmI_b bz4) (tgt := 49) dX1_firstFit_38 (by decide) (fun hc38 => ?_) (fun hc38 => ?_)
          · replace hf := it_t hf hc38
            refine lv_aload X.1 X.2.1 dX1_firstFit_49 (lv_at hl.1 0 rfl) ?_
            have hq := Option.some.inj hf; subst hq
            exact gRetQ X hH hS (reg := 10) (o := (some a22)) (fun a h => by cases h; exact ha22) dX1_firstFit_51
          · replace hf := it_f hf hc38
            refine lv_aload X.1 X.2.1 dX1_firstFit_41 (lv_at hl.1 0 rfl) ?_
            refine gGoZ (gRunV X hH (As := []) (m_X3_isRightlySigned l G a22 ha22 M _ rfl) calX3_isRightlySigned k_696 k_697 k_794 ha22 cX3 rfl ⟨by decide, by decide⟩ rfl hl rfl (Nat.le_of_ble_eq_true rfl) ⟨Nat.le_of_ble_eq_true rfl, Nat.le_of_ble_eq_true rfl⟩ dX1_firstFit_43) hS (fun H locs br43 hH hS => ?_)
            refine g_if_eq X (nmI_b br43) (tgt := 52) dX1_firstFit_46 (by decide) (fun hc46 => ?_) (fun hc46 => ?_)
            · replace hf := it_t hf hc46
              exact hk52  hf _ _ _ hH hS (gLv_sub hl [1, 2, 3, 4, 5, 6] rfl)
            · replace hf := it_f hf hc46
              refine lv_aload X.1 X.2.1 dX1_firstFit_49 (lv_at hl.1 0 rfl) ?_
              have hq := Option.some.inj hf; subst hq
              exact gRetQ X hH hS (reg := 10) (o := (some a22)) (fun a h => by cases h; exact ha22) dX1_firstFit_51
theorem m_X1_firstFit (l : Launch) (G : gG) (v1 : Int) (nv1 : nmI v1) (v2 : Int) (nv2 : nmI v2) (v3 : Int) (nv3 : nmI v3) (v4 : Int) (bv4 : v4 = 0 ∨ v4 = 1) (M : gM) (q : (Option Nat)) (hf : f_X1_firstFit v1 v2 v3 v4 M = some q) : gMet l yX1_firstFit cX1_firstFit 7 (some (.object "BuildGrid$Entry")) 3 61 G M [.ref (gAd G 3 0), .int (iI v1), .int (iI v2), .int (iI v3), .int (iI v4)] (gQq G 10 q M) := by
  refine gOfW (by decide) (by show _ ≤ 7; exact Nat.le_of_ble_eq_true rfl) rfl ?_
  intro p e s m below meth c X hH ls hl
  replace hl : gLv ls 7 [(0, .ref (gAd G 3 0)), (1, .int (iI v1)), (2, .int (iI v2)), (3, .int (iI v3)), (4, .int (iI v4))] := hl
  have hS : va_S (gA G) s.heap s.heap [] := va_S.rf
  generalize hargs : ([.ref (gAd G 3 0), .int (iI v1), .int (iI v2), .int (iI v3), .int (iI v4)] : List Value).toArray = args at X ⊢
  clear hargs
  unfold f_X1_firstFit at hf
  refine lv_iconst X.1 X.2.1 dX1_firstFit_0 (v := iI 0) rfl ?_
  refine g_istore X (lv' := [(5, .int (iI 0)), (0, .ref (gAd G 3 0)), (1, .int (iI v1)), (2, .int (iI v2)), (3, .int (iI v3)), (4, .int (iI v4))]) dX1_firstFit_1 hl (by decide) rfl (fun ls hl => ?_)
  refine w_X1_firstFit_L3 X _ v1 nv1 v2 nv2 v3 nv3 v4 bv4 M q ?_ 64 0 (nmI_l (by decide)) hf _ _ _ hH hS (gLv_sub hl [1, 2, 3, 4, 5, 0] rfl)
  · intro  hf H locs ls hH hS hl
    refine lv_null X.1 X.2.1 dX1_firstFit_58 ?_
    have hq := Option.some.inj hf; subst hq
    exact gRetQ X hH hS (reg := 10) (o := none) (fun a h => nomatch h) dX1_firstFit_59
theorem m_X0_finish (l : Launch) (G : gG) (i0 : Nat) (hi0 : i0 < 60) (v1 : Int) (nv1 : nmI v1) (v2 : Int) (nv2 : nmI v2) (M : gM) (q : gM) (hf : f_X0_finish i0 v1 v2 M = q) : gMet l yX0_finish cX0_finish 3 none 0 0 G M [.ref (gAd G 9 i0), .int (iI v1), .int (iI v2)] (gQv G q) := by
  refine gOfW (by decide) (by show _ ≤ 3; exact Nat.le_of_ble_eq_true rfl) rfl ?_
  intro p e s m below meth c X hH ls hl
  replace hl : gLv ls 3 [(0, .ref (gAd G 9 i0)), (1, .int (iI v1)), (2, .int (iI v2))] := hl
  have hS : va_S (gA G) s.heap s.heap [] := va_S.rf
  generalize hargs : ([.ref (gAd G 9 i0), .int (iI v1), .int (iI v2)] : List Value).toArray = args at X ⊢
  clear hargs
  unfold f_X0_finish at hf
  refine lv_aload_n X.1 X.2.1 dX0_finish_0 rfl (lv_at hl.1 0 rfl) ?_
  refine lv_iconst X.1 X.2.1 dX0_finish_1 (v := iI 3) rfl ?_
  refine g_putI X cX0 hH hS (r := 9) (i := i0) hi0 rfl 2 (by decide) k_143 rfl rfl rfl (Nat.le_of_ble_eq_true rfl) (x := 3) (nmI_l (by decide)) rfl rfl rfl dX0_finish_2 (fun H locs hH hS => ?_)
  refine lv_aload_n X.1 X.2.1 dX0_finish_5 rfl (lv_at hl.1 0 rfl) ?_
  refine lv_iload_n X.1 X.2.1 dX0_finish_6 rfl (lv_at hl.1 1 rfl) ?_
  refine g_putI X cX0 hH hS (r := 9) (i := i0) hi0 rfl 3 (by decide) k_148 rfl rfl rfl (Nat.le_of_ble_eq_true rfl) (x := v1) nv1 rfl rfl rfl dX0_finish_7 (fun H locs hH hS => ?_)
  refine lv_aload_n X.1 X.2.1 dX0_finish_10 rfl (lv_at hl.1 0 rfl) ?_
  refine lv_iload_n X.1 X.2.1 dX0_finish_11 rfl (lv_at hl.1 2 rfl) ?_
  refine g_putI X cX0 hH hS (r := 9) (i := i0) hi0 rfl 4 (by decide) k_153 rfl rfl rfl (Nat.le_of_ble_eq_true rfl) (x := v2) nv2 rfl rfl rfl dX0_finish_12 (fun H locs hH hS => ?_)
  refine lv_aload_n X.1 X.2.1 dX0_finish_15 rfl (lv_at hl.1 0 rfl) ?_
  refine lv_aload_n X.1 X.2.1 dX0_finish_16 rfl (lv_at hl.1 0 rfl) ?_
  have nd17 : nmI ((gU (gU (gU M 9 i0 2 3) 9 i0 3 v1) 9 i0 4 v2) 9 i0 7) := hH.1.1 _ _ _
  refine g_get X cX0 hH (r := 9) (i := i0) hi0 rfl 7 (by decide) k_158 rfl (v := .int (iI ((gU (gU (gU M 9 i0 2 3) 9 i0 3 v1) 9 i0 4 v2) 9 i0 7))) rfl dX0_finish_17 ?_
  refine g_if_le X nd17 (tgt := 27) dX0_finish_20 (by decide) (fun hc20 => ?_) (fun hc20 => ?_)
  · replace hf := it_f hf hc20
    refine lv_iconst X.1 X.2.1 dX0_finish_27 (v := iI 0) rfl ?_
    refine g_putZ X cX0 hH hS (r := 9) (i := i0) hi0 rfl 5 (by decide) k_155 rfl rfl rfl (Nat.le_of_ble_eq_true rfl) (x := 0) (by decide) rfl dX0_finish_28 (fun H locs hH hS => ?_)
    subst hf
    exact gRetV X hH hS dX0_finish_31
  · replace hf := it_t hf hc20
    refine lv_iconst X.1 X.2.1 dX0_finish_23 (v := iI 1) rfl ?_
    refine lv_goto (tgt := 28) X.1 X.2.1 dX0_finish_24 (by decide) ?_
    refine g_putZ X cX0 hH hS (r := 9) (i := i0) hi0 rfl 5 (by decide) k_155 rfl rfl rfl (Nat.le_of_ble_eq_true rfl) (x := 1) (by decide) rfl dX0_finish_28 (fun H locs hH hS => ?_)
    subst hf
    exact gRetV X hH hS dX0_finish_31
theorem w_X8_digestOfResults_L5 {G : gG} {p : Program} {l : Launch} {e : Env} {s : State} {m : MethodId} {args : Array Value} {below : List Frame} {meth : Method} {c : Code} (X : gX G p s m args meth c RX8 cX8_digestOfResults 3 (some .int) (gWs yX8_digestOfResults cX8_digestOfResults 3 (some .int))) (k32 : Int → Option (Int)) (z0 : Nat) (hz0 : z0 < 15) (M : gM) (q : (Int)) (hk32 : ∀ (x1 : Int) (nx1 : nmI x1), k32 x1 = some q → ∀ (H : Heap) (locs : List Loc) (ls : Array Slot), gH G M H → va_S (gA G) s.heap H locs → gLv ls 3 [(1, .int (iI x1))] → W p l e { frames := 1, cells := 0, slots := 0, locals := 21 } s m args below meth c H locs 0 0 (MQ below (gQi G q M) args s 0 0 (gA G)) (F0 m 32 ls [])) : ∀ (n : Nat) (x1 : Int) (nx1 : nmI x1) (x2 : Int) (nx2 : nmI x2), f_X8_digestOfResults_L5 k32 z0 M n x1 x2 = some q → ∀ (H : Heap) (locs : List Loc) (ls : Array Slot), gH G M H → va_S (gA G) s.heap H locs → gLv ls 3 [(0, .ref (gAd G 7 z0)), (1, .int (iI x1)), (2, .int (iI x2))] → W p l e { frames := 1, cells := 0, slots := 0, locals := 21 } s m args below meth c H locs 0 0 (MQ below (gQi G q M) args s 0 0 (gA G)) (F0 m 5 ls []) := by
  intro n
  induction n with
  | zero =>
    intro x1 nx1 x2 nx2 hf
    cases hf
  | succ n ih =>
    intro x1 nx1 x2 nx2 hf H locs ls hH hS hl
    rw [f_X8_digestOfResults_L5] at hf
    refine lv_iload_n X.1 X.2.1 dX8_digestOfResults_5 rfl (lv_at hl.1 2 rfl) ?_
    refine lv_aload_n X.1 X.2.1 dX8_digestOfResults_6 rfl (lv_at hl.1 0 rfl) ?_
    have nd7 : nmI (M 7 z0 6) := hH.1.1 _ _ _
    refine g_get X cX8 hH (r := 7) (i := z0) hz0 rfl 6 (by decide) k_199 rfl (v := .int (iI (M 7 z0 6))) rfl dX8_digestOfResults_7 ?_
    refine g_icmp_ge X nx2 nd7 (tgt := 32) dX8_digestOfResults_10 (by decide) (fun hc10 => ?_) (fun hc10 => ?_)
    · replace hf := it_f hf hc10
      exact hk32 x1 nx1 hf _ _ _ hH hS (gLv_sub hl [1] rfl)
    · replace hf := it_t hf hc10
      refine lv_iload_n X.1 X.2.1 dX8_digestOfResults_13 rfl (lv_at hl.1 1 rfl) ?_
      refine lv_aload_n X.1 X.2.1 dX8_digestOfResults_14 rfl (lv_at hl.1 0 rfl) ?_
      refine lv_iload_n X.1 X.2.1 dX8_digestOfResults_15 rfl (lv_at hl.1 2 rfl) ?_
      refine gGoR (gRunV X hH (As := [.int (iI x2)]) (m_X8_actionAt l G z0 hz0 x2 nx2 M _ rfl) calX8_actionAt k_740 k_741 k_739 hz0 cX8 rfl ⟨by decide, by decide⟩ rfl hl rfl (Nat.le_of_ble_eq_true rfl) ⟨Nat.le_of_ble_eq_true rfl, Nat.le_of_ble_eq_true rfl⟩ dX8_digestOfResults_16) hS (fun H locs hr16 hH hS => ?_)
      replace hr16 : (f_X8_actionAt z0 x2 M) < 60 := hr16
      have nd19 : nmI (M 9 ((f_X8_actionAt z0 x2 M)) 3) := hH.1.1 _ _ _
      refine g_get X cX0 hH (r := 9) (i := (f_X8_actionAt z0 x2 M)) hr16 rfl 3 (by decide) k_150 rfl (v := .int (iI (M 9 ((f_X8_actionAt z0 x2 M)) 3))) rfl dX8_digestOfResults_19 ?_
      refine gGoI (gRunSN X hH (As := [.int (iI x1), .int (iI (M 9 ((f_X8_actionAt z0 x2 M)) 3))]) (m_X11_plus l G x1 nx1 (M 9 ((f_X8_actionAt z0 x2 M)) 3) nd19 M _ rfl) calX11_plus k_704 k_807 ⟨by decide, by decide⟩ rfl hl rfl (Nat.le_of_ble_eq_true rfl) ⟨Nat.le_of_ble_eq_true rfl, Nat.le_of_ble_eq_true rfl⟩ dX8_digestOfResults_22) hS (fun H locs nr22 hH hS => ?_)
      refine g_istore_n X (lv' := [(1, .int (iI ((f_X11_plus x1 (M 9 ((f_X8_actionAt z0 x2 M)) 3) M)))), (0, .ref (gAd G 7 z0)), (2, .int (iI x2))]) dX8_digestOfResults_25 rfl hl (by decide) rfl (fun ls hl => ?_)
      refine g_iinc X (a := x2) (lv' := [(2, .int (iI (wI (x2 + 1)))), (1, .int (iI ((f_X11_plus x1 (M 9 ((f_X8_actionAt z0 x2 M)) 3) M)))), (0, .ref (gAd G 7 z0))]) dX8_digestOfResults_26 hl (k := 2) rfl (by decide) rfl (fun ls hl => ?_)
      refine lv_goto (tgt := 5) X.1 X.2.1 dX8_digestOfResults_29 (by decide) ?_
      exact ih ((f_X11_plus x1 (M 9 ((f_X8_actionAt z0 x2 M)) 3) M)) nr22 (wI (x2 + 1)) (nmI_w _) hf _ _ _ hH hS (gLv_sub hl [2, 1, 0] rfl)
theorem m_X8_digestOfResults (l : Launch) (G : gG) (i0 : Nat) (hi0 : i0 < 15) (M : gM) (q : (Int)) (hf : f_X8_digestOfResults i0 M = some q) : gMet l yX8_digestOfResults cX8_digestOfResults 3 (some .int) 1 21 G M [.ref (gAd G 7 i0)] (gQi G q M) := by
  refine gOfW (by decide) (by show _ ≤ 3; exact Nat.le_of_ble_eq_true rfl) rfl ?_
  intro p e s m below meth c X hH ls hl
  replace hl : gLv ls 3 [(0, .ref (gAd G 7 i0))] := hl
  have hS : va_S (gA G) s.heap s.heap [] := va_S.rf
  generalize hargs : ([.ref (gAd G 7 i0)] : List Value).toArray = args at X ⊢
  clear hargs
  unfold f_X8_digestOfResults at hf
  refine lv_bipush X.1 X.2.1 dX8_digestOfResults_0 (v := iI 7) (by decide) ?_
  refine g_istore_n X (lv' := [(1, .int (iI 7)), (0, .ref (gAd G 7 i0))]) dX8_digestOfResults_2 rfl hl (by decide) rfl (fun ls hl => ?_)
  refine lv_iconst X.1 X.2.1 dX8_digestOfResults_3 (v := iI 0) rfl ?_
  refine g_istore_n X (lv' := [(2, .int (iI 0)), (1, .int (iI 7)), (0, .ref (gAd G 7 i0))]) dX8_digestOfResults_4 rfl hl (by decide) rfl (fun ls hl => ?_)
  refine w_X8_digestOfResults_L5 X _ i0 hi0 M q ?_ 64 7 (nmI_l (by decide)) 0 (nmI_l (by decide)) hf _ _ _ hH hS (gLv_sub hl [2, 1, 0] rfl)
  · intro y1_5_32 ny1_5_32 hf H locs ls hH hS hl
    refine lv_iload_n X.1 X.2.1 dX8_digestOfResults_32 rfl (lv_at hl.1 0 rfl) ?_
    have hq := Option.some.inj hf; subst hq
    exact gRetI X hH hS (res := y1_5_32) ny1_5_32 dX8_digestOfResults_33
theorem m_X2_finish (l : Launch) (G : gG) (i1 : Nat) (hi1 : i1 < 15) (i2 : Nat) (hi2 : i2 < 60) (v3 : Int) (nv3 : nmI v3) (v4 : Int) (nv4 : nmI v4) (M : gM) (q : gM) (hf : f_X2_finish i1 i2 v3 v4 M = some q) : gMet l yX2_finish cX2_finish 5 none 2 43 G M [.ref (gAd G 4 0), .ref (gAd G 7 i1), .ref (gAd G 9 i2), .int (iI v3), .int (iI v4)] (gQv G q) := by
  refine gOfW (by decide) (by show _ ≤ 5; exact Nat.le_of_ble_eq_true rfl) rfl ?_
  intro p e s m below meth c X hH ls hl
  replace hl : gLv ls 5 [(0, .ref (gAd G 4 0)), (1, .ref (gAd G 7 i1)), (2, .ref (gAd G 9 i2)), (3, .int (iI v3)), (4, .int (iI v4))] := hl
  have hS : va_S (gA G) s.heap s.heap [] := va_S.rf
  generalize hargs : ([.ref (gAd G 4 0), .ref (gAd G 7 i1), .ref (gAd G 9 i2), .int (iI v3), .int (iI v4)] : List Value).toArray = args at X ⊢
  clear hargs
  unfold f_X2_finish at hf
  refine lv_aload_n X.1 X.2.1 dX2_finish_0 rfl (lv_at hl.1 2 rfl) ?_
  refine lv_iload_n X.1 X.2.1 dX2_finish_1 rfl (lv_at hl.1 3 rfl) ?_
  refine lv_iload X.1 X.2.1 dX2_finish_2 (lv_at hl.1 4 rfl) ?_
  refine gGoV (gRunV X hH (As := [.int (iI v3), .int (iI v4)]) (m_X0_finish l G i2 hi2 v3 nv3 v4 nv4 M _ rfl) calX0_finish k_800 k_801 k_799 hi2 cX0 rfl ⟨by decide, by decide⟩ rfl hl rfl (Nat.le_of_ble_eq_true rfl) ⟨Nat.le_of_ble_eq_true rfl, Nat.le_of_ble_eq_true rfl⟩ dX2_finish_4) hS (fun H locs hH hS => ?_)
  refine lv_aload_n X.1 X.2.1 dX2_finish_7 rfl (lv_at hl.1 0 rfl) ?_
  refine g_get X cX2 hH (r := 4) (i := 0) (by decide) rfl 2 (by decide) k_384 rfl (v := .ref (gAd G 6 0)) rfl dX2_finish_8 ?_
  refine g_get X cX9 hH (r := 6) (i := 0) (by decide) rfl 2 (by decide) k_330 rfl (v := .ref (gAd G 23 0)) rfl dX2_finish_11 ?_
  refine lv_aload_n X.1 X.2.1 dX2_finish_14 rfl (lv_at hl.1 1 rfl) ?_
  have nd15 : nmI (((f_X0_finish i2 v3 v4 M)) 7 i1 0) := hH.1.1 _ _ _
  refine g_get X cX8 hH (r := 7) (i := i1) hi1 rfl 0 (by decide) k_179 rfl (v := .int (iI (((f_X0_finish i2 v3 v4 M)) 7 i1 0))) rfl dX2_finish_15 ?_
  refine lv_aload_n X.1 X.2.1 dX2_finish_18 rfl (lv_at hl.1 1 rfl) ?_
  obtain ⟨r19, hq19, hf_⟩ := ob_e hf; clear hf; have hf := hf_; clear hf_
  refine gGoI (gRunV X hH (As := []) (m_X8_digestOfResults l G i1 hi1 ((f_X0_finish i2 v3 v4 M)) _ hq19) calX8_digestOfResults k_804 k_805 k_803 hi1 cX8 rfl ⟨by decide, by decide⟩ rfl hl rfl (Nat.le_of_ble_eq_true rfl) ⟨Nat.le_of_ble_eq_true rfl, Nat.le_of_ble_eq_true rfl⟩ dX2_finish_19) hS (fun H locs nr19 hH hS => ?_)
  refine gGoV (gRunSN X hH (As := [.ref (gAd G 23 0), .int (iI (((f_X0_finish i2 v3 v4 M)) 7 i1 0)), .int (iI r19)]) (m_X11_store l G 23 0 14 (by decide) gArr_23 (((f_X0_finish i2 v3 v4 M)) 7 i1 0) nd15 r19 nr19 ((f_X0_finish i2 v3 v4 M)) _ rfl) calX11_store k_566 k_678 ⟨by decide, by decide⟩ rfl hl rfl (Nat.le_of_ble_eq_true rfl) ⟨Nat.le_of_ble_eq_true rfl, Nat.le_of_ble_eq_true rfl⟩ dX2_finish_22) hS (fun H locs hH hS => ?_)
  have hq := Option.some.inj hf; subst hq
  exact gRetV X hH hS dX2_finish_25
theorem m_X2_leaveOpen (l : Launch) (G : gG) (i1 : Nat) (hi1 : i1 < 15) (i2 : Nat) (hi2 : i2 < 60) (M : gM) (q : gM) (hf : f_X2_leaveOpen i1 i2 M = some q) : gMet l yX2_leaveOpen cX2_leaveOpen 7 none 4 96 G M [.ref (gAd G 4 0), .ref (gAd G 7 i1), .ref (gAd G 9 i2)] (gQv G q) := by
  refine gOfW (by decide) (by show _ ≤ 7; exact Nat.le_of_ble_eq_true rfl) rfl ?_
  intro p e s m below meth c X hH ls hl
  replace hl : gLv ls 7 [(0, .ref (gAd G 4 0)), (1, .ref (gAd G 7 i1)), (2, .ref (gAd G 9 i2))] := hl
  have hS : va_S (gA G) s.heap s.heap [] := va_S.rf
  generalize hargs : ([.ref (gAd G 4 0), .ref (gAd G 7 i1), .ref (gAd G 9 i2)] : List Value).toArray = args at X ⊢
  clear hargs
  unfold f_X2_leaveOpen at hf
  refine lv_aload_n X.1 X.2.1 dX2_leaveOpen_0 rfl (lv_at hl.1 0 rfl) ?_
  refine g_get X cX2 hH (r := 4) (i := 0) (by decide) rfl 0 (by decide) k_382 rfl (v := .ref (gAd G 2 0)) rfl dX2_leaveOpen_1 ?_
  refine lv_aload_n X.1 X.2.1 dX2_leaveOpen_4 rfl (lv_at hl.1 1 rfl) ?_
  obtain ⟨r5, hq5, hf_⟩ := ob_e hf; clear hf; have hf := hf_; clear hf_
  refine gGoI (gRunV X hH (As := [.ref (gAd G 7 i1)]) (m_X5_stateOfInputs l G i1 hi1 M _ hq5) calX5_stateOfInputs k_756 k_757 k_755 (by decide) cX5 rfl ⟨by decide, by decide⟩ rfl hl rfl (Nat.le_of_ble_eq_true rfl) ⟨Nat.le_of_ble_eq_true rfl, Nat.le_of_ble_eq_true rfl⟩ dX2_leaveOpen_5) hS (fun H locs nr5 hH hS => ?_)
  refine g_istore_n X (lv' := [(3, .int (iI r5)), (0, .ref (gAd G 4 0)), (1, .ref (gAd G 7 i1)), (2, .ref (gAd G 9 i2))]) dX2_leaveOpen_8 rfl hl (by decide) rfl (fun ls hl => ?_)
  refine lv_iload_n X.1 X.2.1 dX2_leaveOpen_9 rfl (lv_at hl.1 0 rfl) ?_
  refine lv_iconst X.1 X.2.1 dX2_leaveOpen_10 (v := iI 3) rfl ?_
  refine g_icmp_eq X nr5 (nmI_l (by decide)) (tgt := 20) dX2_leaveOpen_11 (by decide) (fun hc11 => ?_) (fun hc11 => ?_)
  · replace hf := it_t hf hc11
    refine lv_aload_n X.1 X.2.1 dX2_leaveOpen_20 rfl (lv_at hl.1 1 rfl) ?_
    refine g_get X cX2 hH (r := 4) (i := 0) (by decide) rfl 2 (by decide) k_384 rfl (v := .ref (gAd G 6 0)) rfl dX2_leaveOpen_21 ?_
    refine lv_aload_n X.1 X.2.1 dX2_leaveOpen_24 rfl (lv_at hl.1 2 rfl) ?_
    refine lv_aload_n X.1 X.2.1 dX2_leaveOpen_25 rfl (lv_at hl.1 3 rfl) ?_
    have nd26 : nmI (M 9 i2 1) := hH.1.1 _ _ _
    refine g_get X cX0 hH (r := 9) (i := i2) hi2 rfl 1 (by decide) k_142 rfl (v := .int (iI (M 9 i2 1))) rfl dX2_leaveOpen_26 ?_
    obtain ⟨r29, hq29, hf_⟩ := ob_e hf; clear hf; have hf := hf_; clear hf_
    refine gGoI (gRunV X hH (As := [.ref (gAd G 7 i1), .int (iI (M 9 i2 1))]) (m_X9_keyOf l G 0 (by decide) i1 hi1 (M 9 i2 1) nd26 M _ hq29) calX9_keyOf k_764 k_765 k_763 (by decide) cX9 rfl ⟨by decide, by decide⟩ rfl hl rfl (Nat.le_of_ble_eq_true rfl) ⟨Nat.le_of_ble_eq_true rfl, Nat.le_of_ble_eq_true rfl⟩ dX2_leaveOpen_29) hS (fun H locs nr29 hH hS => ?_)
    refine g_istore X (lv' := [(4, .int (iI r29)), (3, .int (iI r5)), (0, .ref (gAd G 4 0)), (1, .ref (gAd G 7 i1)), (2, .ref (gAd G 9 i2))]) dX2_leaveOpen_32 hl (by decide) rfl (fun ls hl => ?_)
    refine lv_null X.1 X.2.1 dX2_leaveOpen_34 ?_
    refine g_astoreO X (ad := gAd G 0) (x := none) (lv' := [(5, .null), (4, .int (iI r29)), (3, .int (iI r5)), (0, .ref (gAd G 4 0)), (1, .ref (gAd G 7 i1)), (2, .ref (gAd G 9 i2))]) dX2_leaveOpen_35 hl (by decide) rfl (fun ls hl => ?_)
    refine lv_aload_n X.1 X.2.1 dX2_leaveOpen_37 rfl (lv_at hl.1 4 rfl) ?_
    refine lv_iload X.1 X.2.1 dX2_leaveOpen_38 (lv_at hl.1 1 rfl) ?_
    refine gGoZ (gRunV X hH (As := [.int (iI r29)]) (m_X8_breaksOut l G i1 hi1 r29 nr29 M _ rfl) calX8_breaksOut k_772 k_773 k_771 hi1 cX8 rfl ⟨by decide, by decide⟩ rfl hl rfl (Nat.le_of_ble_eq_true rfl) ⟨Nat.le_of_ble_eq_true rfl, Nat.le_of_ble_eq_true rfl⟩ dX2_leaveOpen_40) hS (fun H locs br40 hH hS => ?_)
    obtain ⟨k81, ek81, hf_⟩ := oj_e hf; clear hf; have hf := hf_; clear hf_
    have hk81 : ∀ (x5_81 : Option Nat) (hx5_81 : ∀ a, x5_81 = some a → a < 40), k81 x5_81 = some q → ∀ (H : Heap) (locs : List Loc) (ls : Array Slot), gH G M H → va_S (gA G) s.heap H locs → gLv ls 7 [(0, .ref (gAd G 4 0)), (1, .ref (gAd G 7 i1)), (2, .ref (gAd G 9 i2)), (5, va_re (gAd G 10) x5_81)] → W p l e { frames := 4, cells := 0, slots := 0, locals := 96 } s m args below meth c H locs 0 0 (MQ below (gQv G q) args s 0 0 (gA G)) (F0 m 81 ls []) := by
      intro x5_81 hx5_81 hf H locs ls hH hS hl
      subst ek81
      refine g_aloadO X (ad := gAd G 10) (x := x5_81) dX2_leaveOpen_81 (lv_at hl.1 3 rfl) ?_
      refine g_ifnonnullO X (ad := gAd G 10) (x := x5_81) (tgt := 94) dX2_leaveOpen_83 (by decide) ?_ ?_
      · intro a83 hx
        subst hx
        replace hf := om_s hf
        have ha83 : a83 < 40 := hx5_81 _ rfl
        refine lv_aload_n X.1 X.2.1 dX2_leaveOpen_94 rfl (lv_at hl.1 0 rfl) ?_
        refine lv_iconst X.1 X.2.1 dX2_leaveOpen_95 (v := iI 1) rfl ?_
        refine gGoV (gRunV X hH (As := [.int (iI 1)]) (m_X2_tally l G 1 (nmI_l (by decide)) M _ rfl) calX2_tally k_675 k_5 k_673 (by decide) cX2 rfl ⟨by decide, by decide⟩ rfl hl rfl (Nat.le_of_ble_eq_true rfl) ⟨Nat.le_of_ble_eq_true rfl, Nat.le_of_ble_eq_true rfl⟩ dX2_leaveOpen_96) hS (fun H locs hH hS => ?_)
        refine lv_aload_n X.1 X.2.1 dX2_leaveOpen_99 rfl (lv_at hl.1 0 rfl) ?_
        refine lv_aload_n X.1 X.2.1 dX2_leaveOpen_100 rfl (lv_at hl.1 1 rfl) ?_
        refine lv_aload_n X.1 X.2.1 dX2_leaveOpen_101 rfl (lv_at hl.1 2 rfl) ?_
        refine lv_aload X.1 X.2.1 dX2_leaveOpen_102 (lv_at hl.1 3 rfl) ?_
        have nd104 : nmI (((f_X2_tally 1 M)) 10 a83 3) := hH.1.1 _ _ _
        refine g_get X cX3 hH (r := 10) (i := a83) ha83 rfl 3 (by decide) k_285 rfl (v := .int (iI (((f_X2_tally 1 M)) 10 a83 3))) rfl dX2_leaveOpen_104 ?_
        refine lv_aload X.1 X.2.1 dX2_leaveOpen_107 (lv_at hl.1 3 rfl) ?_
        have nd109 : nmI (((f_X2_tally 1 M)) 10 a83 4) := hH.1.1 _ _ _
        refine g_get X cX3 hH (r := 10) (i := a83) ha83 rfl 4 (by decide) k_288 rfl (v := .int (iI (((f_X2_tally 1 M)) 10 a83 4))) rfl dX2_leaveOpen_109 ?_
        obtain ⟨r112, hq112, hf_⟩ := ob_e hf; clear hf; have hf := hf_; clear hf_
        refine gGoV (gRunV X hH (As := [.ref (gAd G 7 i1), .ref (gAd G 9 i2), .int (iI (((f_X2_tally 1 M)) 10 a83 3)), .int (iI (((f_X2_tally 1 M)) 10 a83 4))]) (m_X2_finish l G i1 hi1 i2 hi2 (((f_X2_tally 1 M)) 10 a83 3) nd104 (((f_X2_tally 1 M)) 10 a83 4) nd109 ((f_X2_tally 1 M)) _ hq112) calX2_finish k_797 k_9 k_795 (by decide) cX2 rfl ⟨by decide, by decide⟩ rfl hl rfl (Nat.le_of_ble_eq_true rfl) ⟨Nat.le_of_ble_eq_true rfl, Nat.le_of_ble_eq_true rfl⟩ dX2_leaveOpen_112) hS (fun H locs hH hS => ?_)
        have hq := Option.some.inj hf; subst hq
        exact gRetV X hH hS dX2_leaveOpen_115
      · intro hx
        subst hx
        replace hf := om_n hf
        refine lv_aload_n X.1 X.2.1 dX2_leaveOpen_86 rfl (lv_at hl.1 2 rfl) ?_
        refine lv_iconst X.1 X.2.1 dX2_leaveOpen_87 (v := iI 1) rfl ?_
        refine g_putI X cX0 hH hS (r := 9) (i := i2) hi2 rfl 2 (by decide) k_145 rfl rfl rfl (Nat.le_of_ble_eq_true rfl) (x := 1) (nmI_l (by decide)) rfl rfl rfl dX2_leaveOpen_88 (fun H locs hH hS => ?_)
        refine lv_goto (tgt := 115) X.1 X.2.1 dX2_leaveOpen_91 (by decide) ?_
        have hq := Option.some.inj hf; subst hq
        exact gRetV X hH hS dX2_leaveOpen_115
    clear ek81
    refine g_if_ne X (nmI_b br40) (tgt := 81) dX2_leaveOpen_43 (by decide) (fun hc43 => ?_) (fun hc43 => ?_)
    · replace hf := it_f hf hc43
      exact hk81 none (fun a h => nomatch h) hf _ _ _ hH hS (gLv_sub hl [3, 4, 5, 0] rfl)
    · replace hf := it_t hf hc43
      refine lv_aload_n X.1 X.2.1 dX2_leaveOpen_46 rfl (lv_at hl.1 3 rfl) ?_
      refine g_get X cX2 hH (r := 4) (i := 0) (by decide) rfl 2 (by decide) k_384 rfl (v := .ref (gAd G 6 0)) rfl dX2_leaveOpen_47 ?_
      refine lv_aload_n X.1 X.2.1 dX2_leaveOpen_50 rfl (lv_at hl.1 4 rfl) ?_
      refine lv_iload X.1 X.2.1 dX2_leaveOpen_51 (lv_at hl.1 1 rfl) ?_
      refine gGoI (gRunV X hH (As := [.ref (gAd G 7 i1), .int (iI r29)]) (m_X9_contentFound l G 0 (by decide) i1 hi1 r29 nr29 M _ rfl) calX9_contentFound k_777 k_778 k_776 (by decide) cX9 rfl ⟨by decide, by decide⟩ rfl hl rfl (Nat.le_of_ble_eq_true rfl) ⟨Nat.le_of_ble_eq_true rfl, Nat.le_of_ble_eq_true rfl⟩ dX2_leaveOpen_53) hS (fun H locs nr53 hH hS => ?_)
      refine g_istore X (lv' := [(6, .int (iI ((f_X9_contentFound 0 i1 r29 M)))), (5, .null), (4, .int (iI r29)), (3, .int (iI r5)), (0, .ref (gAd G 4 0)), (1, .ref (gAd G 7 i1)), (2, .ref (gAd G 9 i2))]) dX2_leaveOpen_56 hl (by decide) rfl (fun ls hl => ?_)
      refine lv_aload_n X.1 X.2.1 dX2_leaveOpen_58 rfl (lv_at hl.1 4 rfl) ?_
      refine g_get X cX2 hH (r := 4) (i := 0) (by decide) rfl 1 (by decide) k_383 rfl (v := .ref (gAd G 3 0)) rfl dX2_leaveOpen_59 ?_
      refine lv_iload X.1 X.2.1 dX2_leaveOpen_62 (lv_at hl.1 2 rfl) ?_
      refine lv_aload_n X.1 X.2.1 dX2_leaveOpen_64 rfl (lv_at hl.1 5 rfl) ?_
      refine lv_iload X.1 X.2.1 dX2_leaveOpen_65 (lv_at hl.1 2 rfl) ?_
      refine gGoI (gRunV X hH (As := [.int (iI r29)]) (m_X8_fileFound l G i1 hi1 r29 nr29 M _ rfl) calX8_fileFound k_781 k_782 k_784 hi1 cX8 rfl ⟨by decide, by decide⟩ rfl hl rfl (Nat.le_of_ble_eq_true rfl) ⟨Nat.le_of_ble_eq_true rfl, Nat.le_of_ble_eq_true rfl⟩ dX2_leaveOpen_67) hS (fun H locs nr67 hH hS => ?_)
      refine lv_iload X.1 X.2.1 dX2_leaveOpen_70 (lv_at hl.1 0 rfl) ?_
      refine lv_aload_n X.1 X.2.1 dX2_leaveOpen_72 rfl (lv_at hl.1 4 rfl) ?_
      have nd73 : nmI (M 4 0 9) := hH.1.1 _ _ _
      have bd73 := hH.1.2.1 4 0 9 rfl
      refine g_get X cX2 hH (r := 4) (i := 0) (by decide) rfl 9 (by decide) k_393 rfl (v := .int (iI (M 4 0 9))) rfl dX2_leaveOpen_73 ?_
      obtain ⟨r76, hq76, hf_⟩ := ob_e hf; clear hf; have hf := hf_; clear hf_
      refine gGoQ (gRunV X hH (As := [.int (iI r29), .int (iI ((f_X8_fileFound i1 r29 M))), .int (iI ((f_X9_contentFound 0 i1 r29 M))), .int (iI (M 4 0 9))]) (m_X1_firstFit l G r29 nr29 ((f_X8_fileFound i1 r29 M)) nr67 ((f_X9_contentFound 0 i1 r29 M)) nr53 (M 4 0 9) bd73 M _ hq76) calX1_firstFit k_786 k_787 k_785 (by decide) cX1 rfl ⟨by decide, by decide⟩ rfl hl rfl (Nat.le_of_ble_eq_true rfl) ⟨Nat.le_of_ble_eq_true rfl, Nat.le_of_ble_eq_true rfl⟩ dX2_leaveOpen_76) hS (fun H locs hr76 hH hS => ?_)
      refine g_astoreO X (lv' := [(5, va_re (gAd G 10) r76), (6, .int (iI ((f_X9_contentFound 0 i1 r29 M)))), (4, .int (iI r29)), (3, .int (iI r5)), (0, .ref (gAd G 4 0)), (1, .ref (gAd G 7 i1)), (2, .ref (gAd G 9 i2))]) dX2_leaveOpen_79 hl (by decide) rfl (fun ls hl => ?_)
      exact hk81 r76 hr76 hf _ _ _ hH hS (gLv_sub hl [4, 5, 6, 0] rfl)
  · replace hf := it_f hf hc11
    refine lv_aload_n X.1 X.2.1 dX2_leaveOpen_14 rfl (lv_at hl.1 3 rfl) ?_
    refine lv_iload_n X.1 X.2.1 dX2_leaveOpen_15 rfl (lv_at hl.1 0 rfl) ?_
    refine g_putI X cX0 hH hS (r := 9) (i := i2) hi2 rfl 2 (by decide) k_145 rfl rfl rfl (Nat.le_of_ble_eq_true rfl) (x := r5) nr5 rfl rfl rfl dX2_leaveOpen_16 (fun H locs hH hS => ?_)
    have hq := Option.some.inj hf; subst hq
    exact gRetV X hH hS dX2_leaveOpen_19
theorem w_X2_settle_L39 {G : gG} {p : Program} {l : Launch} {e : Env} {s : State} {m : MethodId} {args : Array Value} {below : List Frame} {meth : Method} {c : Code} (X : gX G p s m args meth c RX2 cX2_settle 7 none (gWs yX2_settle cX2_settle 7 none)) (k97 : gM → Option gM) (z1 : Int) (nz1 : nmI z1) (z2 : Nat) (hz2 : z2 < 15) (z3 : Nat) (hz3 : z3 < 15) (z4 : Int) (nz4 : nmI z4) (q : gM) (hk97 : ∀  (M : gM), k97 M = some q → ∀ (H : Heap) (locs : List Loc) (ls : Array Slot), gH G M H → va_S (gA G) s.heap H locs → gLv ls 7 [(0, .ref (gAd G 4 0)), (1, .int (iI z1))] → W p l e { frames := 5, cells := 0, slots := 0, locals := 122 } s m args below meth c H locs 0 0 (MQ below (gQv G q) args s 0 0 (gA G)) (F0 m 97 ls [])) : ∀ (n : Nat) (x5 : Int) (nx5 : nmI x5) (M : gM), f_X2_settle_L39 k97 z1 z2 z3 z4 n x5 M = some q → ∀ (H : Heap) (locs : List Loc) (ls : Array Slot), gH G M H → va_S (gA G) s.heap H locs → gLv ls 7 [(0, .ref (gAd G 4 0)), (1, .int (iI z1)), (2, .ref (gAd G 7 z2)), (3, .ref (gAd G 25 z3)), (4, .int (iI z4)), (5, .int (iI x5))] → W p l e { frames := 5, cells := 0, slots := 0, locals := 122 } s m args below meth c H locs 0 0 (MQ below (gQv G q) args s 0 0 (gA G)) (F0 m 39 ls []) := by
  intro n
  induction n with
  | zero =>
    intro x5 nx5 M hf
    cases hf
  | succ n ih =>
    intro x5 nx5 M hf H locs ls hH hS hl
    rw [f_X2_settle_L39] at hf
    refine lv_iload X.1 X.2.1 dX2_settle_39 (lv_at hl.1 5 rfl) ?_
    refine lv_iload X.1 X.2.1 dX2_settle_41 (lv_at hl.1 4 rfl) ?_
    refine g_icmp_ge X nx5 nz4 (tgt := 97) dX2_settle_43 (by decide) (fun hc43 => ?_) (fun hc43 => ?_)
    · replace hf := it_f hf hc43
      exact hk97 M hf _ _ _ hH hS (gLv_sub hl [0, 1] rfl)
    · replace hf := it_t hf hc43
      refine lv_aload_n X.1 X.2.1 dX2_settle_46 rfl (lv_at hl.1 3 rfl) ?_
      refine lv_iload X.1 X.2.1 dX2_settle_47 (lv_at hl.1 5 rfl) ?_
      obtain ⟨hg, hf_⟩ := og_e hf; clear hf; have hf := hf_; clear hf_
      refine g_aald X hH (r := 25) (i := z3) hz3 rfl (t0 := 2) rfl nx5 hg (v := gAd G 9 ((4 * z3 + x5.toNat))) rfl dX2_settle_49 ?_
      refine g_astore X (lv' := [(6, .ref (gAd G 9 ((4 * z3 + x5.toNat)))), (0, .ref (gAd G 4 0)), (1, .int (iI z1)), (2, .ref (gAd G 7 z2)), (3, .ref (gAd G 25 z3)), (4, .int (iI z4)), (5, .int (iI x5))]) dX2_settle_50 hl (by decide) rfl (fun ls hl => ?_)
      refine lv_aload X.1 X.2.1 dX2_settle_52 (lv_at hl.1 0 rfl) ?_
      have nd54 : nmI (M 9 ((4 * z3 + x5.toNat)) 2) := hH.1.1 _ _ _
      refine g_get X cX0 hH (r := 9) (i := (4 * z3 + x5.toNat)) (by show _ < 60; omega) rfl 2 (by decide) k_145 rfl (v := .int (iI (M 9 ((4 * z3 + x5.toNat)) 2))) rfl dX2_settle_54 ?_
      obtain ⟨k67, ek67, hf_⟩ := oj_e hf; clear hf; have hf := hf_; clear hf_
      have hk67 : ∀  (M_67 : gM), k67 M_67 = some q → ∀ (H : Heap) (locs : List Loc) (ls : Array Slot), gH G M_67 H → va_S (gA G) s.heap H locs → gLv ls 7 [(0, .ref (gAd G 4 0)), (1, .int (iI z1)), (2, .ref (gAd G 7 z2)), (3, .ref (gAd G 25 z3)), (4, .int (iI z4)), (5, .int (iI x5)), (6, .ref (gAd G 9 ((4 * z3 + x5.toNat))))] → W p l e { frames := 5, cells := 0, slots := 0, locals := 122 } s m args below meth c H locs 0 0 (MQ below (gQv G q) args s 0 0 (gA G)) (F0 m 67 ls []) := by
        intro  M_67 hf H locs ls hH hS hl
        subst ek67
        refine lv_aload_n X.1 X.2.1 dX2_settle_67 rfl (lv_at hl.1 0 rfl) ?_
        refine lv_aload_n X.1 X.2.1 dX2_settle_68 rfl (lv_at hl.1 0 rfl) ?_
        have nd69 : nmI (M_67 4 0 8) := hH.1.1 _ _ _
        have bd69 := hH.1.2.1 4 0 8 rfl
        refine g_get X cX2 hH (r := 4) (i := 0) (by decide) rfl 8 (by decide) k_392 rfl (v := .int (iI (M_67 4 0 8))) rfl dX2_settle_69 ?_
        obtain ⟨k88, ek88, hf_⟩ := oj_e hf; clear hf; have hf := hf_; clear hf_
        have hk88 : ∀ (xs1_88 : Int) (bxs1_88 : xs1_88 = 0 ∨ xs1_88 = 1), k88 xs1_88 = some q → ∀ (H : Heap) (locs : List Loc) (ls : Array Slot), gH G M_67 H → va_S (gA G) s.heap H locs → gLv ls 7 [(0, .ref (gAd G 4 0)), (1, .int (iI z1)), (2, .ref (gAd G 7 z2)), (3, .ref (gAd G 25 z3)), (4, .int (iI z4)), (5, .int (iI x5))] → W p l e { frames := 5, cells := 0, slots := 0, locals := 122 } s m args below meth c H locs 0 0 (MQ below (gQv G q) args s 0 0 (gA G)) (F0 m 88 ls [.int (iI xs1_88), .ref (gAd G 4 0)]) := by
          intro xs1_88 bxs1_88 hf H locs ls hH hS hl
          subst ek88
          refine g_putZ X cX2 hH hS (r := 4) (i := 0) (by decide) rfl 8 (by decide) k_392 rfl rfl rfl (Nat.le_of_ble_eq_true rfl) (x := xs1_88) bxs1_88 rfl dX2_settle_88 (fun H locs hH hS => ?_)
          refine g_iinc X (a := x5) (lv' := [(5, .int (iI (wI (x5 + 1)))), (0, .ref (gAd G 4 0)), (1, .int (iI z1)), (2, .ref (gAd G 7 z2)), (3, .ref (gAd G 25 z3)), (4, .int (iI z4))]) dX2_settle_91 hl (k := 5) rfl (by decide) rfl (fun ls hl => ?_)
          refine lv_goto (tgt := 39) X.1 X.2.1 dX2_settle_94 (by decide) ?_
          exact ih (wI (x5 + 1)) (nmI_w _) (gU M_67 4 0 8 xs1_88) hf _ _ _ hH hS (gLv_sub hl [1, 2, 3, 4, 5, 0] rfl)
        clear ek88
        obtain ⟨k83, ek83, hf_⟩ := oj_e hf; clear hf; have hf := hf_; clear hf_
        have hk83 : k83 = some q → ∀ (H : Heap) (locs : List Loc) (ls : Array Slot), gH G M_67 H → va_S (gA G) s.heap H locs → gLv ls 7 [(0, .ref (gAd G 4 0)), (1, .int (iI z1)), (2, .ref (gAd G 7 z2)), (3, .ref (gAd G 25 z3)), (4, .int (iI z4)), (5, .int (iI x5))] → W p l e { frames := 5, cells := 0, slots := 0, locals := 122 } s m args below meth c H locs 0 0 (MQ below (gQv G q) args s 0 0 (gA G)) (F0 m 83 ls [.ref (gAd G 4 0)]) := by
          intro  hf H locs ls hH hS hl
          subst ek83
          refine lv_iconst X.1 X.2.1 dX2_settle_83 (v := iI 1) rfl ?_
          refine lv_goto (tgt := 88) X.1 X.2.1 dX2_settle_84 (by decide) ?_
          exact hk88 1 (by decide) hf _ _ _ hH hS (gLv_sub hl [0, 1, 2, 3, 4, 5] rfl)
        clear ek83
        refine g_if_ne X nd69 (tgt := 83) dX2_settle_72 (by decide) (fun hc72 => ?_) (fun hc72 => ?_)
        · replace hf := it_f hf hc72
          exact hk83  hf _ _ _ hH hS (gLv_sub hl [0, 1, 2, 3, 4, 5] rfl)
        · replace hf := it_t hf hc72
          refine lv_aload X.1 X.2.1 dX2_settle_75 (lv_at hl.1 6 rfl) ?_
          refine gGoZ (gRunV X hH (As := []) (m_X0_isUnfinished l G ((4 * z3 + x5.toNat)) (by show _ < 60; omega) M_67 _ rfl) calX0_isUnfinished k_760 k_761 k_808 (by show _ < 60; omega) cX0 rfl ⟨by decide, by decide⟩ rfl hl rfl (Nat.le_of_ble_eq_true rfl) ⟨Nat.le_of_ble_eq_true rfl, Nat.le_of_ble_eq_true rfl⟩ dX2_settle_77) hS (fun H locs br77 hH hS => ?_)
          refine g_if_eq X (nmI_b br77) (tgt := 87) dX2_settle_80 (by decide) (fun hc80 => ?_) (fun hc80 => ?_)
          · replace hf := it_t hf hc80
            refine lv_iconst X.1 X.2.1 dX2_settle_87 (v := iI 0) rfl ?_
            exact hk88 0 (by decide) hf _ _ _ hH hS (gLv_sub hl [0, 1, 2, 3, 4, 5] rfl)
          · replace hf := it_f hf hc80
            exact hk83  hf _ _ _ hH hS (gLv_sub hl [0, 1, 2, 3, 4, 5] rfl)
      clear ek67
      refine g_if_ne X nd54 (tgt := 67) dX2_settle_57 (by decide) (fun hc57 => ?_) (fun hc57 => ?_)
      · replace hf := it_f hf hc57
        exact hk67 M hf _ _ _ hH hS (gLv_sub hl [1, 2, 3, 4, 5, 6, 0] rfl)
      · replace hf := it_t hf hc57
        refine lv_aload_n X.1 X.2.1 dX2_settle_60 rfl (lv_at hl.1 1 rfl) ?_
        refine lv_aload_n X.1 X.2.1 dX2_settle_61 rfl (lv_at hl.1 3 rfl) ?_
        refine lv_aload X.1 X.2.1 dX2_settle_62 (lv_at hl.1 0 rfl) ?_
        obtain ⟨r64, hq64, hf_⟩ := ob_e hf; clear hf; have hf := hf_; clear hf_
        refine gGoV (gRunV X hH (As := [.ref (gAd G 7 z2), .ref (gAd G 9 ((4 * z3 + x5.toNat)))]) (m_X2_leaveOpen l G z2 hz2 ((4 * z3 + x5.toNat)) (by show _ < 60; omega) M _ hq64) calX2_leaveOpen k_753 k_8 k_751 (by decide) cX2 rfl ⟨by decide, by decide⟩ rfl hl rfl (Nat.le_of_ble_eq_true rfl) ⟨Nat.le_of_ble_eq_true rfl, Nat.le_of_ble_eq_true rfl⟩ dX2_settle_64) hS (fun H locs hH hS => ?_)
        exact hk67 r64 hf _ _ _ hH hS (gLv_sub hl [1, 2, 3, 4, 5, 6, 0] rfl)
theorem w_X2_settle_L7 {G : gG} {p : Program} {l : Launch} {e : Env} {s : State} {m : MethodId} {args : Array Value} {below : List Frame} {meth : Method} {c : Code} (X : gX G p s m args meth c RX2 cX2_settle 7 none (gWs yX2_settle cX2_settle 7 none)) (k103 : gM → Option gM) (q : gM) (hk103 : ∀  (M : gM), k103 M = some q → ∀ (H : Heap) (locs : List Loc) (ls : Array Slot), gH G M H → va_S (gA G) s.heap H locs → gLv ls 7 [] → W p l e { frames := 5, cells := 0, slots := 0, locals := 122 } s m args below meth c H locs 0 0 (MQ below (gQv G q) args s 0 0 (gA G)) (F0 m 103 ls [])) : ∀ (n : Nat) (x1 : Int) (nx1 : nmI x1) (M : gM), f_X2_settle_L7 k103 n x1 M = some q → ∀ (H : Heap) (locs : List Loc) (ls : Array Slot), gH G M H → va_S (gA G) s.heap H locs → gLv ls 7 [(0, .ref (gAd G 4 0)), (1, .int (iI x1))] → W p l e { frames := 5, cells := 0, slots := 0, locals := 122 } s m args below meth c H locs 0 0 (MQ below (gQv G q) args s 0 0 (gA G)) (F0 m 7 ls []) := by
  intro n
  induction n with
  | zero =>
    intro x1 nx1 M hf
    cases hf
  | succ n ih =>
    intro x1 nx1 M hf H locs ls hH hS hl
    rw [f_X2_settle_L7] at hf
    refine lv_iload_n X.1 X.2.1 dX2_settle_7 rfl (lv_at hl.1 1 rfl) ?_
    refine lv_aload_n X.1 X.2.1 dX2_settle_8 rfl (lv_at hl.1 0 rfl) ?_
    refine g_get X cX2 hH (r := 4) (i := 0) (by decide) rfl 0 (by decide) k_382 rfl (v := .ref (gAd G 2 0)) rfl dX2_settle_9 ?_
    have nd12 : nmI (M 2 0 5) := hH.1.1 _ _ _
    refine g_get X cX5 hH (r := 2) (i := 0) (by decide) rfl 5 (by decide) k_251 rfl (v := .int (iI (M 2 0 5))) rfl dX2_settle_12 ?_
    refine g_icmp_ge X nx1 nd12 (tgt := 103) dX2_settle_15 (by decide) (fun hc15 => ?_) (fun hc15 => ?_)
    · replace hf := it_f hf hc15
      exact hk103 M hf _ _ _ hH hS (gLv_sub hl [] rfl)
    · replace hf := it_t hf hc15
      refine lv_aload_n X.1 X.2.1 dX2_settle_18 rfl (lv_at hl.1 0 rfl) ?_
      refine g_get X cX2 hH (r := 4) (i := 0) (by decide) rfl 0 (by decide) k_382 rfl (v := .ref (gAd G 2 0)) rfl dX2_settle_19 ?_
      refine lv_iload_n X.1 X.2.1 dX2_settle_22 rfl (lv_at hl.1 1 rfl) ?_
      refine gGoR (gRunV X hH (As := [.int (iI x1)]) (m_X5_targetAt l G x1 nx1 M _ rfl) calX5_targetAt k_631 k_632 k_733 (by decide) cX5 rfl ⟨by decide, by decide⟩ rfl hl rfl (Nat.le_of_ble_eq_true rfl) ⟨Nat.le_of_ble_eq_true rfl, Nat.le_of_ble_eq_true rfl⟩ dX2_settle_23) hS (fun H locs hr23 hH hS => ?_)
      replace hr23 : (f_X5_targetAt x1 M) < 15 := hr23
      refine g_astore_n X (lv' := [(2, .ref (gAd G 7 ((f_X5_targetAt x1 M)))), (0, .ref (gAd G 4 0)), (1, .int (iI x1))]) dX2_settle_26 rfl hl (by decide) rfl (fun ls hl => ?_)
      refine lv_aload_n X.1 X.2.1 dX2_settle_27 rfl (lv_at hl.1 0 rfl) ?_
      refine g_get X cX8 hH (r := 7) (i := (f_X5_targetAt x1 M)) hr23 rfl 2 (by decide) k_188 rfl (v := .ref (gAd G 25 ((f_X5_targetAt x1 M)))) rfl dX2_settle_28 ?_
      refine g_astore_n X (lv' := [(3, .ref (gAd G 25 ((f_X5_targetAt x1 M)))), (2, .ref (gAd G 7 ((f_X5_targetAt x1 M)))), (0, .ref (gAd G 4 0)), (1, .int (iI x1))]) dX2_settle_31 rfl hl (by decide) rfl (fun ls hl => ?_)
      refine lv_aload_n X.1 X.2.1 dX2_settle_32 rfl (lv_at hl.1 0 rfl) ?_
      refine g_alen X hH (r := 25) (i := (f_X5_targetAt x1 M)) (by show _ < 15; omega) rfl (t0 := 2) rfl (n := 4) rfl dX2_settle_33 ?_
      refine g_istore X (lv' := [(4, .int (iI 4)), (3, .ref (gAd G 25 ((f_X5_targetAt x1 M)))), (2, .ref (gAd G 7 ((f_X5_targetAt x1 M)))), (0, .ref (gAd G 4 0)), (1, .int (iI x1))]) dX2_settle_34 hl (by decide) rfl (fun ls hl => ?_)
      refine lv_iconst X.1 X.2.1 dX2_settle_36 (v := iI 0) rfl ?_
      refine g_istore X (lv' := [(5, .int (iI 0)), (4, .int (iI 4)), (3, .ref (gAd G 25 ((f_X5_targetAt x1 M)))), (2, .ref (gAd G 7 ((f_X5_targetAt x1 M)))), (0, .ref (gAd G 4 0)), (1, .int (iI x1))]) dX2_settle_37 hl (by decide) rfl (fun ls hl => ?_)
      refine w_X2_settle_L39 X _ x1 nx1 ((f_X5_targetAt x1 M)) hr23 ((f_X5_targetAt x1 M)) (by show _ < 15; omega) 4 (nmI_l (by decide)) q ?_ 64 0 (nmI_l (by decide)) M hf _ _ _ hH hS (gLv_sub hl [4, 5, 3, 2, 1, 0] rfl)
      · intro  M_39_97 hf H locs ls hH hS hl
        refine g_iinc X (a := x1) (lv' := [(1, .int (iI (wI (x1 + 1)))), (0, .ref (gAd G 4 0))]) dX2_settle_97 hl (k := 1) rfl (by decide) rfl (fun ls hl => ?_)
        refine lv_goto (tgt := 7) X.1 X.2.1 dX2_settle_100 (by decide) ?_
        exact ih (wI (x1 + 1)) (nmI_w _) M_39_97 hf _ _ _ hH hS (gLv_sub hl [1, 0] rfl)
theorem m_X2_settle (l : Launch) (G : gG)  (M : gM) (q : gM) (hf : f_X2_settle M = some q) : gMet l yX2_settle cX2_settle 7 none 5 122 G M [.ref (gAd G 4 0)] (gQv G q) := by
  refine gOfW (by decide) (by show _ ≤ 7; exact Nat.le_of_ble_eq_true rfl) rfl ?_
  intro p e s m below meth c X hH ls hl
  replace hl : gLv ls 7 [(0, .ref (gAd G 4 0))] := hl
  have hS : va_S (gA G) s.heap s.heap [] := va_S.rf
  generalize hargs : ([.ref (gAd G 4 0)] : List Value).toArray = args at X ⊢
  clear hargs
  unfold f_X2_settle at hf
  refine lv_aload_n X.1 X.2.1 dX2_settle_0 rfl (lv_at hl.1 0 rfl) ?_
  refine lv_iconst X.1 X.2.1 dX2_settle_1 (v := iI 0) rfl ?_
  refine g_putZ X cX2 hH hS (r := 4) (i := 0) (by decide) rfl 8 (by decide) k_392 rfl rfl rfl (Nat.le_of_ble_eq_true rfl) (x := 0) (by decide) rfl dX2_settle_2 (fun H locs hH hS => ?_)
  refine lv_iconst X.1 X.2.1 dX2_settle_5 (v := iI 0) rfl ?_
  refine g_istore_n X (lv' := [(1, .int (iI 0)), (0, .ref (gAd G 4 0))]) dX2_settle_6 rfl hl (by decide) rfl (fun ls hl => ?_)
  refine w_X2_settle_L7 X _  q ?_ 64 0 (nmI_l (by decide)) (gU M 4 0 8 0) hf _ _ _ hH hS (gLv_sub hl [1, 0] rfl)
  · intro  M_7_103 hf H locs ls hH hS hl
    have hq := Option.some.inj hf; subst hq
    exact gRetV X hH hS dX2_settle_103
theorem w_X2_begin_L26 {G : gG} {p : Program} {l : Launch} {e : Env} {s : State} {m : MethodId} {args : Array Value} {below : List Frame} {meth : Method} {c : Code} (X : gX G p s m args meth c RX2 cX2_begin 6 (some .int) (gWs yX2_begin cX2_begin 6 (some .int))) (k96 : Int → gM → Option (Int × gM)) (q : (Int × gM)) (hk96 : ∀ (x2 : Int) (nx2 : nmI x2) (M : gM), k96 x2 M = some q → ∀ (H : Heap) (locs : List Loc) (ls : Array Slot), gH G M H → va_S (gA G) s.heap H locs → gLv ls 6 [(0, .ref (gAd G 4 0)), (2, .int (iI x2))] → W p l e { frames := 6, cells := 0, slots := 0, locals := 148 } s m args below meth c H locs 0 0 (MQ below (gQi G q.1 q.2) args s 0 0 (gA G)) (F0 m 96 ls [])) : ∀ (n : Nat) (x2 : Int) (nx2 : nmI x2) (x3 : Int) (nx3 : nmI x3) (M : gM), f_X2_begin_L26 k96 n x2 x3 M = some q → ∀ (H : Heap) (locs : List Loc) (ls : Array Slot), gH G M H → va_S (gA G) s.heap H locs → gLv ls 6 [(0, .ref (gAd G 4 0)), (2, .int (iI x2)), (3, .int (iI x3))] → W p l e { frames := 6, cells := 0, slots := 0, locals := 148 } s m args below meth c H locs 0 0 (MQ below (gQi G q.1 q.2) args s 0 0 (gA G)) (F0 m 26 ls []) := by
  intro n
  induction n with
  | zero =>
    intro x2 nx2 x3 nx3 M hf
    cases hf
  | succ n ih =>
    intro x2 nx2 x3 nx3 M hf H locs ls hH hS hl
    rw [f_X2_begin_L26] at hf
    refine lv_iload_n X.1 X.2.1 dX2_begin_26 rfl (lv_at hl.1 2 rfl) ?_
    refine lv_aload_n X.1 X.2.1 dX2_begin_27 rfl (lv_at hl.1 0 rfl) ?_
    refine g_get X cX2 hH (r := 4) (i := 0) (by decide) rfl 0 (by decide) k_382 rfl (v := .ref (gAd G 2 0)) rfl dX2_begin_28 ?_
    have nd31 : nmI (M 2 0 5) := hH.1.1 _ _ _
    refine g_get X cX5 hH (r := 2) (i := 0) (by decide) rfl 5 (by decide) k_251 rfl (v := .int (iI (M 2 0 5))) rfl dX2_begin_31 ?_
    refine g_icmp_ge X nx3 nd31 (tgt := 96) dX2_begin_34 (by decide) (fun hc34 => ?_) (fun hc34 => ?_)
    · replace hf := it_f hf hc34
      exact hk96 x2 nx2 M hf _ _ _ hH hS (gLv_sub hl [0, 1] rfl)
    · replace hf := it_t hf hc34
      refine lv_aload_n X.1 X.2.1 dX2_begin_37 rfl (lv_at hl.1 0 rfl) ?_
      refine g_get X cX2 hH (r := 4) (i := 0) (by decide) rfl 0 (by decide) k_382 rfl (v := .ref (gAd G 2 0)) rfl dX2_begin_38 ?_
      refine lv_iload_n X.1 X.2.1 dX2_begin_41 rfl (lv_at hl.1 2 rfl) ?_
      refine gGoR (gRunV X hH (As := [.int (iI x3)]) (m_X5_targetAt l G x3 nx3 M _ rfl) calX5_targetAt k_631 k_632 k_733 (by decide) cX5 rfl ⟨by decide, by decide⟩ rfl hl rfl (Nat.le_of_ble_eq_true rfl) ⟨Nat.le_of_ble_eq_true rfl, Nat.le_of_ble_eq_true rfl⟩ dX2_begin_42) hS (fun H locs hr42 hH hS => ?_)
      replace hr42 : (f_X5_targetAt x3 M) < 15 := hr42
      refine g_astore X (lv' := [(4, .ref (gAd G 7 ((f_X5_targetAt x3 M)))), (0, .ref (gAd G 4 0)), (2, .int (iI x2)), (3, .int (iI x3))]) dX2_begin_45 hl (by decide) rfl (fun ls hl => ?_)
      refine lv_aload_n X.1 X.2.1 dX2_begin_47 rfl (lv_at hl.1 1 rfl) ?_
      have nd48 : nmI (M 4 0 6) := hH.1.1 _ _ _
      refine g_get X cX2 hH (r := 4) (i := 0) (by decide) rfl 6 (by decide) k_389 rfl (v := .int (iI (M 4 0 6))) rfl dX2_begin_48 ?_
      refine lv_iload_n X.1 X.2.1 dX2_begin_51 rfl (lv_at hl.1 3 rfl) ?_
      refine gGoI (gRunSN X hH (As := [.int (iI (M 4 0 6)), .int (iI x3)]) (m_X11_bitOf l G (M 4 0 6) nd48 x3 nx3 M _ rfl) calX11_bitOf k_720 k_734 ⟨by decide, by decide⟩ rfl hl rfl (Nat.le_of_ble_eq_true rfl) ⟨Nat.le_of_ble_eq_true rfl, Nat.le_of_ble_eq_true rfl⟩ dX2_begin_52) hS (fun H locs nr52 hH hS => ?_)
      refine lv_iconst X.1 X.2.1 dX2_begin_55 (v := iI 1) rfl ?_
      obtain ⟨k64, ek64, hf_⟩ := oj_e hf; clear hf; have hf := hf_; clear hf_
      have hk64 : ∀ (xs0_64 : Int) (bxs0_64 : xs0_64 = 0 ∨ xs0_64 = 1), k64 xs0_64 = some q → ∀ (H : Heap) (locs : List Loc) (ls : Array Slot), gH G M H → va_S (gA G) s.heap H locs → gLv ls 6 [(0, .ref (gAd G 4 0)), (2, .int (iI x2)), (3, .int (iI x3)), (4, .ref (gAd G 7 ((f_X5_targetAt x3 M))))] → W p l e { frames := 6, cells := 0, slots := 0, locals := 148 } s m args below meth c H locs 0 0 (MQ below (gQi G q.1 q.2) args s 0 0 (gA G)) (F0 m 64 ls [.int (iI xs0_64)]) := by
        intro xs0_64 bxs0_64 hf H locs ls hH hS hl
        subst ek64
        refine g_istore X (lv' := [(5, .int (iI xs0_64)), (0, .ref (gAd G 4 0)), (2, .int (iI x2)), (3, .int (iI x3)), (4, .ref (gAd G 7 ((f_X5_targetAt x3 M))))]) dX2_begin_64 hl (by decide) rfl (fun ls hl => ?_)
        refine lv_aload X.1 X.2.1 dX2_begin_66 (lv_at hl.1 4 rfl) ?_
        refine lv_iload X.1 X.2.1 dX2_begin_68 (lv_at hl.1 0 rfl) ?_
        obtain ⟨r70, hq70, hf_⟩ := ob_e hf; clear hf; have hf := hf_; clear hf_
        refine gGoV (gRunV X hH (As := [.int (iI xs0_64)]) (m_X8_startOver l G ((f_X5_targetAt x3 M)) hr42 xs0_64 bxs0_64 M _ hq70) calX8_startOver k_736 k_737 k_735 hr42 cX8 rfl ⟨by decide, by decide⟩ rfl hl rfl (Nat.le_of_ble_eq_true rfl) ⟨Nat.le_of_ble_eq_true rfl, Nat.le_of_ble_eq_true rfl⟩ dX2_begin_70) hS (fun H locs hH hS => ?_)
        refine lv_iload_n X.1 X.2.1 dX2_begin_73 rfl (lv_at hl.1 2 rfl) ?_
        refine lv_iload X.1 X.2.1 dX2_begin_74 (lv_at hl.1 0 rfl) ?_
        obtain ⟨k88, ek88, hf_⟩ := oj_e hf; clear hf; have hf := hf_; clear hf_
        have hk88 : ∀ (xs1_88 : Int) (nxs1_88 : nmI xs1_88), k88 xs1_88 = some q → ∀ (H : Heap) (locs : List Loc) (ls : Array Slot), gH G r70 H → va_S (gA G) s.heap H locs → gLv ls 6 [(0, .ref (gAd G 4 0)), (3, .int (iI x3))] → W p l e { frames := 6, cells := 0, slots := 0, locals := 148 } s m args below meth c H locs 0 0 (MQ below (gQi G q.1 q.2) args s 0 0 (gA G)) (F0 m 88 ls [.int (iI xs1_88), .int (iI x2)]) := by
          intro xs1_88 nxs1_88 hf H locs ls hH hS hl
          subst ek88
          refine g_iadd X dX2_begin_88 ?_
          refine g_istore_n X (lv' := [(2, .int (iI (wI (x2 + xs1_88)))), (0, .ref (gAd G 4 0)), (3, .int (iI x3))]) dX2_begin_89 rfl hl (by decide) rfl (fun ls hl => ?_)
          refine g_iinc X (a := x3) (lv' := [(3, .int (iI (wI (x3 + 1)))), (2, .int (iI (wI (x2 + xs1_88)))), (0, .ref (gAd G 4 0))]) dX2_begin_90 hl (k := 2) rfl (by decide) rfl (fun ls hl => ?_)
          refine lv_goto (tgt := 26) X.1 X.2.1 dX2_begin_93 (by decide) ?_
          exact ih (wI (x2 + xs1_88)) (nmI_w _) (wI (x3 + 1)) (nmI_w _) r70 hf _ _ _ hH hS (gLv_sub hl [2, 1, 0] rfl)
        clear ek88
        refine g_if_eq X (nmI_b bxs0_64) (tgt := 87) dX2_begin_76 (by decide) (fun hc76 => ?_) (fun hc76 => ?_)
        · replace hf := it_t hf hc76
          refine lv_iconst X.1 X.2.1 dX2_begin_87 (v := iI 0) rfl ?_
          exact hk88 0 (nmI_l (by decide)) hf _ _ _ hH hS (gLv_sub hl [1, 3] rfl)
        · replace hf := it_f hf hc76
          refine lv_aload X.1 X.2.1 dX2_begin_79 (lv_at hl.1 4 rfl) ?_
          have nd81 : nmI (r70 7 ((f_X5_targetAt x3 M)) 6) := hH.1.1 _ _ _
          refine g_get X cX8 hH (r := 7) (i := (f_X5_targetAt x3 M)) hr42 rfl 6 (by decide) k_200 rfl (v := .int (iI (r70 7 ((f_X5_targetAt x3 M)) 6))) rfl dX2_begin_81 ?_
          refine lv_goto (tgt := 88) X.1 X.2.1 dX2_begin_84 (by decide) ?_
          exact hk88 (r70 7 ((f_X5_targetAt x3 M)) 6) nd81 hf _ _ _ hH hS (gLv_sub hl [1, 3] rfl)
      clear ek64
      refine g_icmp_ne X nr52 (nmI_l (by decide)) (tgt := 63) dX2_begin_56 (by decide) (fun hc56 => ?_) (fun hc56 => ?_)
      · replace hf := it_f hf hc56
        refine lv_iconst X.1 X.2.1 dX2_begin_63 (v := iI 0) rfl ?_
        exact hk64 0 (by decide) hf _ _ _ hH hS (gLv_sub hl [1, 2, 3, 0] rfl)
      · replace hf := it_t hf hc56
        refine lv_iconst X.1 X.2.1 dX2_begin_59 (v := iI 1) rfl ?_
        refine lv_goto (tgt := 64) X.1 X.2.1 dX2_begin_60 (by decide) ?_
        exact hk64 1 (by decide) hf _ _ _ hH hS (gLv_sub hl [1, 2, 3, 0] rfl)
theorem m_X2_begin (l : Launch) (G : gG) (v1 : Int) (nv1 : nmI v1) (M : gM) (q : (Int × gM)) (hf : f_X2_begin v1 M = some q) : gMet l yX2_begin cX2_begin 6 (some .int) 6 148 G M [.ref (gAd G 4 0), .int (iI v1)] (gQi G q.1 q.2) := by
  refine gOfW (by decide) (by show _ ≤ 6; exact Nat.le_of_ble_eq_true rfl) rfl ?_
  intro p e s m below meth c X hH ls hl
  replace hl : gLv ls 6 [(0, .ref (gAd G 4 0)), (1, .int (iI v1))] := hl
  have hS : va_S (gA G) s.heap s.heap [] := va_S.rf
  generalize hargs : ([.ref (gAd G 4 0), .int (iI v1)] : List Value).toArray = args at X ⊢
  clear hargs
  unfold f_X2_begin at hf
  refine lv_aload_n X.1 X.2.1 dX2_begin_0 rfl (lv_at hl.1 0 rfl) ?_
  refine lv_aload_n X.1 X.2.1 dX2_begin_1 rfl (lv_at hl.1 0 rfl) ?_
  refine g_get X cX2 hH (r := 4) (i := 0) (by decide) rfl 0 (by decide) k_382 rfl (v := .ref (gAd G 2 0)) rfl dX2_begin_2 ?_
  refine lv_iload_n X.1 X.2.1 dX2_begin_5 rfl (lv_at hl.1 1 rfl) ?_
  obtain ⟨r6, hq6, hf_⟩ := ob_e hf; clear hf; have hf := hf_; clear hf_
  refine gGoI (gRunV X hH (As := [.int (iI v1)]) (m_X5_withNeeded l G v1 nv1 M _ hq6) calX5_withNeeded k_716 k_717 k_715 (by decide) cX5 rfl ⟨by decide, by decide⟩ rfl hl rfl (Nat.le_of_ble_eq_true rfl) ⟨Nat.le_of_ble_eq_true rfl, Nat.le_of_ble_eq_true rfl⟩ dX2_begin_6) hS (fun H locs nr6 hH hS => ?_)
  refine g_putI X cX2 hH hS (r := 4) (i := 0) (by decide) rfl 6 (by decide) k_389 rfl rfl rfl (Nat.le_of_ble_eq_true rfl) (x := r6) nr6 rfl rfl rfl dX2_begin_9 (fun H locs hH hS => ?_)
  refine lv_aload_n X.1 X.2.1 dX2_begin_12 rfl (lv_at hl.1 0 rfl) ?_
  refine lv_dup X.1 X.2.1 dX2_begin_13 rfl ?_
  have nd14 : nmI ((gU M 4 0 6 r6) 4 0 7) := hH.1.1 _ _ _
  refine g_get X cX2 hH (r := 4) (i := 0) (by decide) rfl 7 (by decide) k_390 rfl (v := .int (iI ((gU M 4 0 6 r6) 4 0 7))) rfl dX2_begin_14 ?_
  refine lv_iconst X.1 X.2.1 dX2_begin_17 (v := iI 1) rfl ?_
  refine g_iadd X dX2_begin_18 ?_
  refine g_putI X cX2 hH hS (r := 4) (i := 0) (by decide) rfl 7 (by decide) k_390 rfl rfl rfl (Nat.le_of_ble_eq_true rfl) (x := wI (((gU M 4 0 6 r6) 4 0 7) + 1)) (nmI_w _) rfl rfl rfl dX2_begin_19 (fun H locs hH hS => ?_)
  refine lv_iconst X.1 X.2.1 dX2_begin_22 (v := iI 0) rfl ?_
  refine g_istore_n X (lv' := [(2, .int (iI 0)), (0, .ref (gAd G 4 0)), (1, .int (iI v1))]) dX2_begin_23 rfl hl (by decide) rfl (fun ls hl => ?_)
  refine lv_iconst X.1 X.2.1 dX2_begin_24 (v := iI 0) rfl ?_
  refine g_istore_n X (lv' := [(3, .int (iI 0)), (2, .int (iI 0)), (0, .ref (gAd G 4 0)), (1, .int (iI v1))]) dX2_begin_25 rfl hl (by decide) rfl (fun ls hl => ?_)
  refine w_X2_begin_L26 X _  q ?_ 64 0 (nmI_l (by decide)) 0 (nmI_l (by decide)) (gU (gU M 4 0 6 r6) 4 0 7 (wI (((gU M 4 0 6 r6) 4 0 7) + 1))) hf _ _ _ hH hS (gLv_sub hl [2, 1, 0] rfl)
  · intro y2_26_96 ny2_26_96 M_26_96 hf H locs ls hH hS hl
    refine lv_aload_n X.1 X.2.1 dX2_begin_96 rfl (lv_at hl.1 0 rfl) ?_
    obtain ⟨r97, hq97, hf_⟩ := ob_e hf; clear hf; have hf := hf_; clear hf_
    refine gGoV (gRunV X hH (As := []) (m_X2_settle l G  M_26_96 _ hq97) calX2_settle k_749 k_7 k_747 (by decide) cX2 rfl ⟨by decide, by decide⟩ rfl hl rfl (Nat.le_of_ble_eq_true rfl) ⟨Nat.le_of_ble_eq_true rfl, Nat.le_of_ble_eq_true rfl⟩ dX2_begin_97) hS (fun H locs hH hS => ?_)
    refine lv_iload_n X.1 X.2.1 dX2_begin_100 rfl (lv_at hl.1 1 rfl) ?_
    have hq := Option.some.inj hf; subst hq
    exact gRetI X hH hS (res := y2_26_96) ny2_26_96 dX2_begin_101
theorem m_J9_max_7cf53 (l : Launch) (G : gG) (v0 : Int) (nv0 : nmI v0) (v1 : Int) (nv1 : nmI v1) (M : gM) (q : (Int)) (hf : f_J9_max_7cf53 v0 v1 M = q) : gMet l yJ9_max_7cf53 cJ9_max_7cf53 2 (some .int) 0 0 G M [.int (iI v0), .int (iI v1)] (gQi G q M) := by
  refine gOfWF (by decide +kernel) (by show _ ≤ 2; exact Nat.le_of_ble_eq_true rfl) rfl ?_
  intro p e s m below meth c X hH ls hl
  replace hl : gLv ls 2 [(0, .int (iI v0)), (1, .int (iI v1))] := hl
  have hS : va_S (gA G) s.heap s.heap [] := va_S.rf
  generalize hargs : ([.int (iI v0), .int (iI v1)] : List Value).toArray = args at X ⊢
  clear hargs
  unfold f_J9_max_7cf53 at hf
  refine lv_iload_n X.1 X.2.1 dJ9_max_7cf53_0 rfl (lv_at hl.1 0 rfl) ?_
  refine lv_iload_n X.1 X.2.1 dJ9_max_7cf53_1 rfl (lv_at hl.1 1 rfl) ?_
  refine g_icmp_lt X nv0 nv1 (tgt := 9) dJ9_max_7cf53_2 (by decide) (fun hc2 => ?_) (fun hc2 => ?_)
  · replace hf := it_t hf hc2
    refine lv_iload_n X.1 X.2.1 dJ9_max_7cf53_9 rfl (lv_at hl.1 1 rfl) ?_
    subst hf
    exact gRetI X hH hS (res := v1) nv1 dJ9_max_7cf53_10
  · replace hf := it_f hf hc2
    refine lv_iload_n X.1 X.2.1 dJ9_max_7cf53_5 rfl (lv_at hl.1 0 rfl) ?_
    refine lv_goto (tgt := 10) X.1 X.2.1 dJ9_max_7cf53_6 (by decide) ?_
    subst hf
    exact gRetI X hH hS (res := v0) nv0 dJ9_max_7cf53_10
theorem w_X5_spreadWay_L2 {G : gG} {p : Program} {l : Launch} {e : Env} {s : State} {m : MethodId} {args : Array Value} {below : List Frame} {meth : Method} {c : Code} (X : gX G p s m args meth c RX5 cX5_spreadWay 4 none (gWs yX5_spreadWay cX5_spreadWay 4 none)) (k50 : gM → Option gM) (z1 : Nat) (hz1 : z1 < 15) (q : gM) (hk50 : ∀  (M : gM), k50 M = some q → ∀ (H : Heap) (locs : List Loc) (ls : Array Slot), gH G M H → va_S (gA G) s.heap H locs → gLv ls 4 [] → W p l e { frames := 2, cells := 0, slots := 0, locals := 44 } s m args below meth c H locs 0 0 (MQ below (gQv G q) args s 0 0 (gA G)) (F0 m 50 ls [])) : ∀ (n : Nat) (x2 : Int) (nx2 : nmI x2) (M : gM), f_X5_spreadWay_L2 k50 z1 n x2 M = some q → ∀ (H : Heap) (locs : List Loc) (ls : Array Slot), gH G M H → va_S (gA G) s.heap H locs → gLv ls 4 [(0, .ref (gAd G 2 0)), (1, .ref (gAd G 7 z1)), (2, .int (iI x2))] → W p l e { frames := 2, cells := 0, slots := 0, locals := 44 } s m args below meth c H locs 0 0 (MQ below (gQv G q) args s 0 0 (gA G)) (F0 m 2 ls []) := by
  intro n
  induction n with
  | zero =>
    intro x2 nx2 M hf
    cases hf
  | succ n ih =>
    intro x2 nx2 M hf H locs ls hH hS hl
    rw [f_X5_spreadWay_L2] at hf
    refine lv_iload_n X.1 X.2.1 dX5_spreadWay_2 rfl (lv_at hl.1 2 rfl) ?_
    refine lv_aload_n X.1 X.2.1 dX5_spreadWay_3 rfl (lv_at hl.1 1 rfl) ?_
    refine g_get X cX8 hH (r := 7) (i := z1) hz1 rfl 1 (by decide) k_184 rfl (v := .ref (gAd G 8 z1)) rfl dX5_spreadWay_4 ?_
    have nd7 : nmI (M 8 z1 5) := hH.1.1 _ _ _
    refine g_get X cX6 hH (r := 8) (i := z1) (by show _ < 16; omega) rfl 5 (by decide) k_119 rfl (v := .int (iI (M 8 z1 5))) rfl dX5_spreadWay_7 ?_
    refine g_icmp_ge X nx2 nd7 (tgt := 50) dX5_spreadWay_10 (by decide) (fun hc10 => ?_) (fun hc10 => ?_)
    · replace hf := it_f hf hc10
      exact hk50 M hf _ _ _ hH hS (gLv_sub hl [] rfl)
    · replace hf := it_t hf hc10
      refine lv_aload_n X.1 X.2.1 dX5_spreadWay_13 rfl (lv_at hl.1 0 rfl) ?_
      refine lv_aload_n X.1 X.2.1 dX5_spreadWay_14 rfl (lv_at hl.1 1 rfl) ?_
      refine g_get X cX8 hH (r := 7) (i := z1) hz1 rfl 1 (by decide) k_184 rfl (v := .ref (gAd G 8 z1)) rfl dX5_spreadWay_15 ?_
      refine lv_iload_n X.1 X.2.1 dX5_spreadWay_18 rfl (lv_at hl.1 2 rfl) ?_
      refine gGoI (gRunV X hH (As := [.int (iI x2)]) (m_X6_chosen l G z1 (by show _ < 16; omega) x2 nx2 M _ rfl) calX6_chosen k_727 k_728 k_726 (by show _ < 16; omega) cX6 rfl ⟨by decide, by decide⟩ rfl hl rfl (Nat.le_of_ble_eq_true rfl) ⟨Nat.le_of_ble_eq_true rfl, Nat.le_of_ble_eq_true rfl⟩ dX5_spreadWay_19) hS (fun H locs nr19 hH hS => ?_)
      refine lv_bipush X.1 X.2.1 dX5_spreadWay_22 (v := iI 16) (by decide) ?_
      refine g_isub X dX5_spreadWay_24 ?_
      refine gGoR (gRunV X hH (As := [.int (iI (wI (((f_X6_chosen z1 x2 M)) - 16)))]) (m_X5_targetAt l G (wI (((f_X6_chosen z1 x2 M)) - 16)) (nmI_w _) M _ rfl) calX5_targetAt k_631 k_632 k_638 (by decide) cX5 rfl ⟨by decide, by decide⟩ rfl hl rfl (Nat.le_of_ble_eq_true rfl) ⟨Nat.le_of_ble_eq_true rfl, Nat.le_of_ble_eq_true rfl⟩ dX5_spreadWay_25) hS (fun H locs hr25 hH hS => ?_)
      replace hr25 : (f_X5_targetAt (wI (((f_X6_chosen z1 x2 M)) - 16)) M) < 15 := hr25
      refine g_astore_n X (lv' := [(3, .ref (gAd G 7 ((f_X5_targetAt (wI (((f_X6_chosen z1 x2 M)) - 16)) M)))), (0, .ref (gAd G 2 0)), (1, .ref (gAd G 7 z1)), (2, .int (iI x2))]) dX5_spreadWay_28 rfl hl (by decide) rfl (fun ls hl => ?_)
      refine lv_aload_n X.1 X.2.1 dX5_spreadWay_29 rfl (lv_at hl.1 0 rfl) ?_
      refine lv_aload_n X.1 X.2.1 dX5_spreadWay_30 rfl (lv_at hl.1 0 rfl) ?_
      have nd31 : nmI (M 7 ((f_X5_targetAt (wI (((f_X6_chosen z1 x2 M)) - 16)) M)) 10) := hH.1.1 _ _ _
      refine g_get X cX8 hH (r := 7) (i := (f_X5_targetAt (wI (((f_X6_chosen z1 x2 M)) - 16)) M)) hr25 rfl 10 (by decide) k_212 rfl (v := .int (iI (M 7 ((f_X5_targetAt (wI (((f_X6_chosen z1 x2 M)) - 16)) M)) 10))) rfl dX5_spreadWay_31 ?_
      refine lv_aload_n X.1 X.2.1 dX5_spreadWay_34 rfl (lv_at hl.1 2 rfl) ?_
      have nd35 : nmI (M 7 z1 10) := hH.1.1 _ _ _
      refine g_get X cX8 hH (r := 7) (i := z1) hz1 rfl 10 (by decide) k_212 rfl (v := .int (iI (M 7 z1 10))) rfl dX5_spreadWay_35 ?_
      refine gGoI (gRunS X hH (As := [.int (iI (M 7 ((f_X5_targetAt (wI (((f_X6_chosen z1 x2 M)) - 16)) M)) 10)), .int (iI (M 7 z1 10))]) (m_J9_max_7cf53 l G (M 7 ((f_X5_targetAt (wI (((f_X6_chosen z1 x2 M)) - 16)) M)) 10) nd31 (M 7 z1 10) nd35 M _ rfl) calJ9_max_7cf53 k_830 k_829 ⟨by decide, by decide⟩ rfl hl rfl (Nat.le_of_ble_eq_true rfl) ⟨Nat.le_of_ble_eq_true rfl, Nat.le_of_ble_eq_true rfl⟩ dX5_spreadWay_38) hS (fun H locs nr38 hH hS => ?_)
      refine g_putI X cX8 hH hS (r := 7) (i := (f_X5_targetAt (wI (((f_X6_chosen z1 x2 M)) - 16)) M)) hr25 rfl 10 (by decide) k_212 rfl rfl rfl (Nat.le_of_ble_eq_true rfl) (x := (f_J9_max_7cf53 (M 7 ((f_X5_targetAt (wI (((f_X6_chosen z1 x2 M)) - 16)) M)) 10) (M 7 z1 10) M)) nr38 rfl rfl rfl dX5_spreadWay_41 (fun H locs hH hS => ?_)
      refine g_iinc X (a := x2) (lv' := [(2, .int (iI (wI (x2 + 1)))), (3, .ref (gAd G 7 ((f_X5_targetAt (wI (((f_X6_chosen z1 x2 M)) - 16)) M)))), (0, .ref (gAd G 2 0)), (1, .ref (gAd G 7 z1))]) dX5_spreadWay_44 hl (k := 3) rfl (by decide) rfl (fun ls hl => ?_)
      refine lv_goto (tgt := 2) X.1 X.2.1 dX5_spreadWay_47 (by decide) ?_
      exact ih (wI (x2 + 1)) (nmI_w _) (gU M 7 ((f_X5_targetAt (wI (((f_X6_chosen z1 x2 M)) - 16)) M)) 10 ((f_J9_max_7cf53 (M 7 ((f_X5_targetAt (wI (((f_X6_chosen z1 x2 M)) - 16)) M)) 10) (M 7 z1 10) M))) hf _ _ _ hH hS (gLv_sub hl [2, 3, 0] rfl)
theorem m_X5_spreadWay (l : Launch) (G : gG) (i1 : Nat) (hi1 : i1 < 15) (M : gM) (q : gM) (hf : f_X5_spreadWay i1 M = some q) : gMet l yX5_spreadWay cX5_spreadWay 4 none 2 44 G M [.ref (gAd G 2 0), .ref (gAd G 7 i1)] (gQv G q) := by
  refine gOfW (by decide) (by show _ ≤ 4; exact Nat.le_of_ble_eq_true rfl) rfl ?_
  intro p e s m below meth c X hH ls hl
  replace hl : gLv ls 4 [(0, .ref (gAd G 2 0)), (1, .ref (gAd G 7 i1))] := hl
  have hS : va_S (gA G) s.heap s.heap [] := va_S.rf
  generalize hargs : ([.ref (gAd G 2 0), .ref (gAd G 7 i1)] : List Value).toArray = args at X ⊢
  clear hargs
  unfold f_X5_spreadWay at hf
  refine lv_iconst X.1 X.2.1 dX5_spreadWay_0 (v := iI 0) rfl ?_
  refine g_istore_n X (lv' := [(2, .int (iI 0)), (0, .ref (gAd G 2 0)), (1, .ref (gAd G 7 i1))]) dX5_spreadWay_1 rfl hl (by decide) rfl (fun ls hl => ?_)
  refine w_X5_spreadWay_L2 X _ i1 hi1 q ?_ 64 0 (nmI_l (by decide)) M hf _ _ _ hH hS (gLv_sub hl [1, 2, 0] rfl)
  · intro  M_2_50 hf H locs ls hH hS hl
    have hq := Option.some.inj hf; subst hq
    exact gRetV X hH hS dX5_spreadWay_50
theorem w_X5_findWays_L2 {G : gG} {p : Program} {l : Launch} {e : Env} {s : State} {m : MethodId} {args : Array Value} {below : List Frame} {meth : Method} {c : Code} (X : gX G p s m args meth c RX5 cX5_findWays 4 none (gWs yX5_findWays cX5_findWays 4 none)) (k25 : gM → Option gM) (z1 : Int) (nz1 : nmI z1) (q : gM) (hk25 : ∀  (M : gM), k25 M = some q → ∀ (H : Heap) (locs : List Loc) (ls : Array Slot), gH G M H → va_S (gA G) s.heap H locs → gLv ls 4 [(0, .ref (gAd G 2 0)), (1, .int (iI z1))] → W p l e { frames := 3, cells := 0, slots := 0, locals := 67 } s m args below meth c H locs 0 0 (MQ below (gQv G q) args s 0 0 (gA G)) (F0 m 25 ls [])) : ∀ (n : Nat) (x2 : Int) (nx2 : nmI x2) (M : gM), f_X5_findWays_L2 k25 z1 n x2 M = some q → ∀ (H : Heap) (locs : List Loc) (ls : Array Slot), gH G M H → va_S (gA G) s.heap H locs → gLv ls 4 [(0, .ref (gAd G 2 0)), (1, .int (iI z1)), (2, .int (iI x2))] → W p l e { frames := 3, cells := 0, slots := 0, locals := 67 } s m args below meth c H locs 0 0 (MQ below (gQv G q) args s 0 0 (gA G)) (F0 m 2 ls []) := by
  intro n
  induction n with
  | zero =>
    intro x2 nx2 M hf
    cases hf
  | succ n ih =>
    intro x2 nx2 M hf H locs ls hH hS hl
    rw [f_X5_findWays_L2] at hf
    refine lv_iload_n X.1 X.2.1 dX5_findWays_2 rfl (lv_at hl.1 2 rfl) ?_
    refine lv_aload_n X.1 X.2.1 dX5_findWays_3 rfl (lv_at hl.1 0 rfl) ?_
    have nd4 : nmI (M 2 0 5) := hH.1.1 _ _ _
    refine g_get X cX5 hH (r := 2) (i := 0) (by decide) rfl 5 (by decide) k_250 rfl (v := .int (iI (M 2 0 5))) rfl dX5_findWays_4 ?_
    refine g_icmp_ge X nx2 nd4 (tgt := 25) dX5_findWays_7 (by decide) (fun hc7 => ?_) (fun hc7 => ?_)
    · replace hf := it_f hf hc7
      exact hk25 M hf _ _ _ hH hS (gLv_sub hl [0, 1] rfl)
    · replace hf := it_t hf hc7
      refine lv_aload_n X.1 X.2.1 dX5_findWays_10 rfl (lv_at hl.1 0 rfl) ?_
      refine lv_iload_n X.1 X.2.1 dX5_findWays_11 rfl (lv_at hl.1 2 rfl) ?_
      refine gGoR (gRunV X hH (As := [.int (iI x2)]) (m_X5_targetAt l G x2 nx2 M _ rfl) calX5_targetAt k_631 k_632 k_638 (by decide) cX5 rfl ⟨by decide, by decide⟩ rfl hl rfl (Nat.le_of_ble_eq_true rfl) ⟨Nat.le_of_ble_eq_true rfl, Nat.le_of_ble_eq_true rfl⟩ dX5_findWays_12) hS (fun H locs hr12 hH hS => ?_)
      replace hr12 : (f_X5_targetAt x2 M) < 15 := hr12
      refine lv_iconst X.1 X.2.1 dX5_findWays_15 (v := iI 0) rfl ?_
      refine g_putI X cX8 hH hS (r := 7) (i := (f_X5_targetAt x2 M)) hr12 rfl 10 (by decide) k_212 rfl rfl rfl (Nat.le_of_ble_eq_true rfl) (x := 0) (nmI_l (by decide)) rfl rfl rfl dX5_findWays_16 (fun H locs hH hS => ?_)
      refine g_iinc X (a := x2) (lv' := [(2, .int (iI (wI (x2 + 1)))), (0, .ref (gAd G 2 0)), (1, .int (iI z1))]) dX5_findWays_19 hl (k := 2) rfl (by decide) rfl (fun ls hl => ?_)
      refine lv_goto (tgt := 2) X.1 X.2.1 dX5_findWays_22 (by decide) ?_
      exact ih (wI (x2 + 1)) (nmI_w _) (gU M 7 ((f_X5_targetAt x2 M)) 10 0) hf _ _ _ hH hS (gLv_sub hl [1, 2, 0] rfl)
theorem w_X5_findWays_L32 {G : gG} {p : Program} {l : Launch} {e : Env} {s : State} {m : MethodId} {args : Array Value} {below : List Frame} {meth : Method} {c : Code} (X : gX G p s m args meth c RX5 cX5_findWays 4 none (gWs yX5_findWays cX5_findWays 4 none)) (k75 : gM → Option gM) (z1 : Int) (nz1 : nmI z1) (q : gM) (hk75 : ∀  (M : gM), k75 M = some q → ∀ (H : Heap) (locs : List Loc) (ls : Array Slot), gH G M H → va_S (gA G) s.heap H locs → gLv ls 4 [] → W p l e { frames := 3, cells := 0, slots := 0, locals := 67 } s m args below meth c H locs 0 0 (MQ below (gQv G q) args s 0 0 (gA G)) (F0 m 75 ls [])) : ∀ (n : Nat) (x2 : Int) (nx2 : nmI x2) (M : gM), f_X5_findWays_L32 k75 z1 n x2 M = some q → ∀ (H : Heap) (locs : List Loc) (ls : Array Slot), gH G M H → va_S (gA G) s.heap H locs → gLv ls 4 [(0, .ref (gAd G 2 0)), (1, .int (iI z1)), (2, .int (iI x2))] → W p l e { frames := 3, cells := 0, slots := 0, locals := 67 } s m args below meth c H locs 0 0 (MQ below (gQv G q) args s 0 0 (gA G)) (F0 m 32 ls []) := by
  intro n
  induction n with
  | zero =>
    intro x2 nx2 M hf
    cases hf
  | succ n ih =>
    intro x2 nx2 M hf H locs ls hH hS hl
    rw [f_X5_findWays_L32] at hf
    refine lv_iload_n X.1 X.2.1 dX5_findWays_32 rfl (lv_at hl.1 2 rfl) ?_
    refine g_if_lt X nx2 (tgt := 75) dX5_findWays_33 (by decide) (fun hc33 => ?_) (fun hc33 => ?_)
    · replace hf := it_t hf hc33
      exact hk75 M hf _ _ _ hH hS (gLv_sub hl [] rfl)
    · replace hf := it_f hf hc33
      refine lv_iload_n X.1 X.2.1 dX5_findWays_36 rfl (lv_at hl.1 1 rfl) ?_
      refine lv_iload_n X.1 X.2.1 dX5_findWays_37 rfl (lv_at hl.1 2 rfl) ?_
      refine gGoI (gRunSN X hH (As := [.int (iI z1), .int (iI x2)]) (m_X11_bitOf l G z1 nz1 x2 nx2 M _ rfl) calX11_bitOf k_720 k_719 ⟨by decide, by decide⟩ rfl hl rfl (Nat.le_of_ble_eq_true rfl) ⟨Nat.le_of_ble_eq_true rfl, Nat.le_of_ble_eq_true rfl⟩ dX5_findWays_38) hS (fun H locs nr38 hH hS => ?_)
      refine lv_iconst X.1 X.2.1 dX5_findWays_41 (v := iI 1) rfl ?_
      obtain ⟨k69, ek69, hf_⟩ := oj_e hf; clear hf; have hf := hf_; clear hf_
      have hk69 : ∀  (M_69 : gM), k69 M_69 = some q → ∀ (H : Heap) (locs : List Loc) (ls : Array Slot), gH G M_69 H → va_S (gA G) s.heap H locs → gLv ls 4 [(0, .ref (gAd G 2 0)), (1, .int (iI z1)), (2, .int (iI x2))] → W p l e { frames := 3, cells := 0, slots := 0, locals := 67 } s m args below meth c H locs 0 0 (MQ below (gQv G q) args s 0 0 (gA G)) (F0 m 69 ls []) := by
        intro  M_69 hf H locs ls hH hS hl
        subst ek69
        refine g_iinc X (a := x2) (lv' := [(2, .int (iI (wI (x2 + (-1))))), (0, .ref (gAd G 2 0)), (1, .int (iI z1))]) dX5_findWays_69 hl (k := 2) rfl (by decide) rfl (fun ls hl => ?_)
        refine lv_goto (tgt := 32) X.1 X.2.1 dX5_findWays_72 (by decide) ?_
        exact ih (wI (x2 + (-1))) (nmI_w _) M_69 hf _ _ _ hH hS (gLv_sub hl [1, 2, 0] rfl)
      clear ek69
      refine g_icmp_ne X nr38 (nmI_l (by decide)) (tgt := 69) dX5_findWays_42 (by decide) (fun hc42 => ?_) (fun hc42 => ?_)
      · replace hf := it_f hf hc42
        exact hk69 M hf _ _ _ hH hS (gLv_sub hl [0, 1, 2] rfl)
      · replace hf := it_t hf hc42
        refine lv_aload_n X.1 X.2.1 dX5_findWays_45 rfl (lv_at hl.1 0 rfl) ?_
        refine lv_iload_n X.1 X.2.1 dX5_findWays_46 rfl (lv_at hl.1 2 rfl) ?_
        refine gGoR (gRunV X hH (As := [.int (iI x2)]) (m_X5_targetAt l G x2 nx2 M _ rfl) calX5_targetAt k_631 k_632 k_638 (by decide) cX5 rfl ⟨by decide, by decide⟩ rfl hl rfl (Nat.le_of_ble_eq_true rfl) ⟨Nat.le_of_ble_eq_true rfl, Nat.le_of_ble_eq_true rfl⟩ dX5_findWays_47) hS (fun H locs hr47 hH hS => ?_)
        replace hr47 : (f_X5_targetAt x2 M) < 15 := hr47
        refine g_astore_n X (lv' := [(3, .ref (gAd G 7 ((f_X5_targetAt x2 M)))), (0, .ref (gAd G 2 0)), (1, .int (iI z1)), (2, .int (iI x2))]) dX5_findWays_50 rfl hl (by decide) rfl (fun ls hl => ?_)
        refine lv_aload_n X.1 X.2.1 dX5_findWays_51 rfl (lv_at hl.1 0 rfl) ?_
        refine lv_dup X.1 X.2.1 dX5_findWays_52 rfl ?_
        have nd53 : nmI (M 7 ((f_X5_targetAt x2 M)) 10) := hH.1.1 _ _ _
        refine g_get X cX8 hH (r := 7) (i := (f_X5_targetAt x2 M)) hr47 rfl 10 (by decide) k_212 rfl (v := .int (iI (M 7 ((f_X5_targetAt x2 M)) 10))) rfl dX5_findWays_53 ?_
        refine lv_aload_n X.1 X.2.1 dX5_findWays_56 rfl (lv_at hl.1 0 rfl) ?_
        have nd57 : nmI (M 7 ((f_X5_targetAt x2 M)) 9) := hH.1.1 _ _ _
        refine g_get X cX8 hH (r := 7) (i := (f_X5_targetAt x2 M)) hr47 rfl 9 (by decide) k_209 rfl (v := .int (iI (M 7 ((f_X5_targetAt x2 M)) 9))) rfl dX5_findWays_57 ?_
        refine g_iadd X dX5_findWays_60 ?_
        refine g_putI X cX8 hH hS (r := 7) (i := (f_X5_targetAt x2 M)) hr47 rfl 10 (by decide) k_212 rfl rfl rfl (Nat.le_of_ble_eq_true rfl) (x := wI ((M 7 ((f_X5_targetAt x2 M)) 10) + (M 7 ((f_X5_targetAt x2 M)) 9))) (nmI_w _) rfl rfl rfl dX5_findWays_61 (fun H locs hH hS => ?_)
        refine lv_aload_n X.1 X.2.1 dX5_findWays_64 rfl (lv_at hl.1 1 rfl) ?_
        refine lv_aload_n X.1 X.2.1 dX5_findWays_65 rfl (lv_at hl.1 0 rfl) ?_
        obtain ⟨r66, hq66, hf_⟩ := ob_e hf; clear hf; have hf := hf_; clear hf_
        refine gGoV (gRunV X hH (As := [.ref (gAd G 7 ((f_X5_targetAt x2 M)))]) (m_X5_spreadWay l G ((f_X5_targetAt x2 M)) hr47 (gU M 7 ((f_X5_targetAt x2 M)) 10 (wI ((M 7 ((f_X5_targetAt x2 M)) 10) + (M 7 ((f_X5_targetAt x2 M)) 9)))) _ hq66) calX5_spreadWay k_827 k_11 k_825 (by decide) cX5 rfl ⟨by decide, by decide⟩ rfl hl rfl (Nat.le_of_ble_eq_true rfl) ⟨Nat.le_of_ble_eq_true rfl, Nat.le_of_ble_eq_true rfl⟩ dX5_findWays_66) hS (fun H locs hH hS => ?_)
        exact hk69 r66 hf _ _ _ hH hS (gLv_sub hl [1, 2, 3] rfl)
theorem m_X5_findWays (l : Launch) (G : gG) (v1 : Int) (nv1 : nmI v1) (M : gM) (q : gM) (hf : f_X5_findWays v1 M = some q) : gMet l yX5_findWays cX5_findWays 4 none 3 67 G M [.ref (gAd G 2 0), .int (iI v1)] (gQv G q) := by
  refine gOfW (by decide) (by show _ ≤ 4; exact Nat.le_of_ble_eq_true rfl) rfl ?_
  intro p e s m below meth c X hH ls hl
  replace hl : gLv ls 4 [(0, .ref (gAd G 2 0)), (1, .int (iI v1))] := hl
  have hS : va_S (gA G) s.heap s.heap [] := va_S.rf
  generalize hargs : ([.ref (gAd G 2 0), .int (iI v1)] : List Value).toArray = args at X ⊢
  clear hargs
  unfold f_X5_findWays at hf
  refine lv_iconst X.1 X.2.1 dX5_findWays_0 (v := iI 0) rfl ?_
  refine g_istore_n X (lv' := [(2, .int (iI 0)), (0, .ref (gAd G 2 0)), (1, .int (iI v1))]) dX5_findWays_1 rfl hl (by decide) rfl (fun ls hl => ?_)
  refine w_X5_findWays_L2 X _ v1 nv1 q ?_ 64 0 (nmI_l (by decide)) M hf _ _ _ hH hS (gLv_sub hl [1, 2, 0] rfl)
  · intro  M_2_25 hf H locs ls hH hS hl
    refine lv_aload_n X.1 X.2.1 dX5_findWays_25 rfl (lv_at hl.1 0 rfl) ?_
    have nd26 : nmI (M_2_25 2 0 5) := hH.1.1 _ _ _
    refine g_get X cX5 hH (r := 2) (i := 0) (by decide) rfl 5 (by decide) k_250 rfl (v := .int (iI (M_2_25 2 0 5))) rfl dX5_findWays_26 ?_
    refine lv_iconst X.1 X.2.1 dX5_findWays_29 (v := iI 1) rfl ?_
    refine g_isub X dX5_findWays_30 ?_
    refine g_istore_n X (lv' := [(2, .int (iI (wI ((M_2_25 2 0 5) - 1)))), (0, .ref (gAd G 2 0)), (1, .int (iI v1))]) dX5_findWays_31 rfl hl (by decide) rfl (fun ls hl => ?_)
    refine w_X5_findWays_L32 X _ v1 nv1 q ?_ 64 (wI ((M_2_25 2 0 5) - 1)) (nmI_w _) M_2_25 hf _ _ _ hH hS (gLv_sub hl [1, 2, 0] rfl)
    · intro  M_32_75 hf H locs ls hH hS hl
      have hq := Option.some.inj hf; subst hq
      exact gRetV X hH hS dX5_findWays_75
theorem m_X10_isIdle (l : Launch) (G : gG) (i0 : Nat) (hi0 : i0 < 4) (M : gM) (q : (Int)) (hf : f_X10_isIdle i0 M = q) : gMet l yX10_isIdle cX10_isIdle 1 (some .boolean) 0 0 G M [.ref (gAd G 11 i0)] (gQz G q M) := by
  refine gOfW (by decide) (by show _ ≤ 1; exact Nat.le_of_ble_eq_true rfl) rfl ?_
  intro p e s m below meth c X hH ls hl
  replace hl : gLv ls 1 [(0, .ref (gAd G 11 i0))] := hl
  have hS : va_S (gA G) s.heap s.heap [] := va_S.rf
  generalize hargs : ([.ref (gAd G 11 i0)] : List Value).toArray = args at X ⊢
  clear hargs
  unfold f_X10_isIdle at hf
  refine lv_aload_n X.1 X.2.1 dX10_isIdle_0 rfl (lv_at hl.1 0 rfl) ?_
  have nd1 : nmI (M 11 i0 1) := hH.1.1 _ _ _
  refine g_get X cX10 hH (r := 11) (i := i0) hi0 rfl 1 (by decide) k_350 rfl (v := .int (iI (M 11 i0 1))) rfl dX10_isIdle_1 ?_
  refine g_if_le X nd1 (tgt := 18) dX10_isIdle_4 (by decide) (fun hc4 => ?_) (fun hc4 => ?_)
  · replace hf := it_f hf hc4
    refine lv_iconst X.1 X.2.1 dX10_isIdle_18 (v := iI 0) rfl ?_
    subst hf
    exact gRetZ X hH hS (res := 0) (by decide) dX10_isIdle_19
  · replace hf := it_t hf hc4
    refine lv_aload_n X.1 X.2.1 dX10_isIdle_7 rfl (lv_at hl.1 0 rfl) ?_
    refine g_get X cX10 hH (r := 11) (i := i0) hi0 rfl 3 (by decide) k_354 rfl (v := va_re (gAd G 9) (gAct (M 11 i0 3))) rfl dX10_isIdle_8 ?_
    obtain ⟨o8, eo8, hf_⟩ := oj_e hf; clear hf; have hf := hf_; clear hf_
    have ho8 : ∀ a, o8 = some a → a < 60 := by intro a h; rw [eo8] at h; exact gAct_lt (hH.1.2.2 _) h
    rw [← eo8]
    refine g_ifnonnullO X (ad := gAd G 9) (x := o8) (tgt := 18) dX10_isIdle_11 (by decide) ?_ ?_
    · intro a11 hx
      subst hx
      replace hf := om_s hf
      have ha11 : a11 < 60 := ho8 _ rfl
      refine lv_iconst X.1 X.2.1 dX10_isIdle_18 (v := iI 0) rfl ?_
      subst hf
      exact gRetZ X hH hS (res := 0) (by decide) dX10_isIdle_19
    · intro hx
      subst hx
      replace hf := om_n hf
      refine lv_iconst X.1 X.2.1 dX10_isIdle_14 (v := iI 1) rfl ?_
      refine lv_goto (tgt := 19) X.1 X.2.1 dX10_isIdle_15 (by decide) ?_
      subst hf
      exact gRetZ X hH hS (res := 1) (by decide) dX10_isIdle_19
theorem w_X2_strongestIdle_L13 {G : gG} {p : Program} {l : Launch} {e : Env} {s : State} {m : MethodId} {args : Array Value} {below : List Frame} {meth : Method} {c : Code} (X : gX G p s m args meth c RX2 cX2_strongestIdle 6 (some (.object "BuildGrid$Worker")) (gWs yX2_strongestIdle cX2_strongestIdle 6 (some (.object "BuildGrid$Worker")))) (k58 : Option Nat → Option (Option Nat)) (z3 : Int) (nz3 : nmI z3) (M : gM) (q : (Option Nat)) (hk58 : ∀ (x1 : Option Nat) (hx1 : ∀ a, x1 = some a → a < 4), k58 x1 = some q → ∀ (H : Heap) (locs : List Loc) (ls : Array Slot), gH G M H → va_S (gA G) s.heap H locs → gLv ls 6 [(1, va_re (gAd G 11) x1)] → W p l e { frames := 1, cells := 0, slots := 0, locals := 20 } s m args below meth c H locs 0 0 (MQ below (gQq G 11 q M) args s 0 0 (gA G)) (F0 m 58 ls [])) : ∀ (n : Nat) (x1 : Option Nat) (hx1 : ∀ a, x1 = some a → a < 4) (x4 : Int) (nx4 : nmI x4), f_X2_strongestIdle_L13 k58 z3 M n x1 x4 = some q → ∀ (H : Heap) (locs : List Loc) (ls : Array Slot), gH G M H → va_S (gA G) s.heap H locs → gLv ls 6 [(1, va_re (gAd G 11) x1), (2, .ref (gAd G 28 0)), (3, .int (iI z3)), (4, .int (iI x4))] → W p l e { frames := 1, cells := 0, slots := 0, locals := 20 } s m args below meth c H locs 0 0 (MQ below (gQq G 11 q M) args s 0 0 (gA G)) (F0 m 13 ls []) := by
  intro n
  induction n with
  | zero =>
    intro x1 hx1 x4 nx4 hf
    cases hf
  | succ n ih =>
    intro x1 hx1 x4 nx4 hf H locs ls hH hS hl
    rw [f_X2_strongestIdle_L13] at hf
    refine lv_iload X.1 X.2.1 dX2_strongestIdle_13 (lv_at hl.1 3 rfl) ?_
    refine lv_iload_n X.1 X.2.1 dX2_strongestIdle_15 rfl (lv_at hl.1 2 rfl) ?_
    refine g_icmp_ge X nx4 nz3 (tgt := 58) dX2_strongestIdle_16 (by decide) (fun hc16 => ?_) (fun hc16 => ?_)
    · replace hf := it_f hf hc16
      exact hk58 x1 hx1 hf _ _ _ hH hS (gLv_sub hl [0] rfl)
    · replace hf := it_t hf hc16
      refine lv_aload_n X.1 X.2.1 dX2_strongestIdle_19 rfl (lv_at hl.1 1 rfl) ?_
      refine lv_iload X.1 X.2.1 dX2_strongestIdle_20 (lv_at hl.1 3 rfl) ?_
      obtain ⟨hg, hf_⟩ := og_e hf; clear hf; have hf := hf_; clear hf_
      refine g_aald X hH (r := 28) (i := 0) (by decide) rfl (t0 := 5) rfl nx4 hg (v := gAd G 11 x4.toNat) rfl dX2_strongestIdle_22 ?_
      refine g_astore X (lv' := [(5, .ref (gAd G 11 x4.toNat)), (1, va_re (gAd G 11) x1), (2, .ref (gAd G 28 0)), (3, .int (iI z3)), (4, .int (iI x4))]) dX2_strongestIdle_23 hl (by decide) rfl (fun ls hl => ?_)
      refine lv_aload X.1 X.2.1 dX2_strongestIdle_25 (lv_at hl.1 0 rfl) ?_
      refine gGoZ (gRunV X hH (As := []) (m_X10_isIdle l G x4.toNat (by show _ < 4; omega) M _ rfl) calX10_isIdle k_837 k_838 k_836 (by show _ < 4; omega) cX10 rfl ⟨by decide, by decide⟩ rfl hl rfl (Nat.le_of_ble_eq_true rfl) ⟨Nat.le_of_ble_eq_true rfl, Nat.le_of_ble_eq_true rfl⟩ dX2_strongestIdle_27) hS (fun H locs br27 hH hS => ?_)
      obtain ⟨k52, ek52, hf_⟩ := oj_e hf; clear hf; have hf := hf_; clear hf_
      have hk52 : ∀ (x1_52 : Option Nat) (hx1_52 : ∀ a, x1_52 = some a → a < 4), k52 x1_52 = some q → ∀ (H : Heap) (locs : List Loc) (ls : Array Slot), gH G M H → va_S (gA G) s.heap H locs → gLv ls 6 [(1, va_re (gAd G 11) x1_52), (2, .ref (gAd G 28 0)), (3, .int (iI z3)), (4, .int (iI x4))] → W p l e { frames := 1, cells := 0, slots := 0, locals := 20 } s m args below meth c H locs 0 0 (MQ below (gQq G 11 q M) args s 0 0 (gA G)) (F0 m 52 ls []) := by
        intro x1_52 hx1_52 hf H locs ls hH hS hl
        subst ek52
        refine g_iinc X (a := x4) (lv' := [(4, .int (iI (wI (x4 + 1)))), (1, va_re (gAd G 11) x1_52), (2, .ref (gAd G 28 0)), (3, .int (iI z3))]) dX2_strongestIdle_52 hl (k := 3) rfl (by decide) rfl (fun ls hl => ?_)
        refine lv_goto (tgt := 13) X.1 X.2.1 dX2_strongestIdle_55 (by decide) ?_
        exact ih x1_52 hx1_52 (wI (x4 + 1)) (nmI_w _) hf _ _ _ hH hS (gLv_sub hl [1, 2, 3, 0] rfl)
      clear ek52
      refine g_if_eq X (nmI_b br27) (tgt := 52) dX2_strongestIdle_30 (by decide) (fun hc30 => ?_) (fun hc30 => ?_)
      · replace hf := it_t hf hc30
        exact hk52 x1 hx1 hf _ _ _ hH hS (gLv_sub hl [1, 2, 3, 4] rfl)
      · replace hf := it_f hf hc30
        refine g_aload_nO X (ad := gAd G 11) (x := x1) dX2_strongestIdle_33 rfl (lv_at hl.1 1 rfl) ?_
        obtain ⟨k49, ek49, hf_⟩ := oj_e hf; clear hf; have hf := hf_; clear hf_
        have hk49 : k49 = some q → ∀ (H : Heap) (locs : List Loc) (ls : Array Slot), gH G M H → va_S (gA G) s.heap H locs → gLv ls 6 [(2, .ref (gAd G 28 0)), (3, .int (iI z3)), (4, .int (iI x4)), (5, .ref (gAd G 11 x4.toNat))] → W p l e { frames := 1, cells := 0, slots := 0, locals := 20 } s m args below meth c H locs 0 0 (MQ below (gQq G 11 q M) args s 0 0 (gA G)) (F0 m 49 ls []) := by
          intro  hf H locs ls hH hS hl
          subst ek49
          refine lv_aload X.1 X.2.1 dX2_strongestIdle_49 (lv_at hl.1 3 rfl) ?_
          refine g_astore_n X (lv' := [(1, .ref (gAd G 11 x4.toNat)), (2, .ref (gAd G 28 0)), (3, .int (iI z3)), (4, .int (iI x4)), (5, .ref (gAd G 11 x4.toNat))]) dX2_strongestIdle_51 rfl hl (by decide) rfl (fun ls hl => ?_)
          exact hk52 ((some x4.toNat)) (fun a h => by cases h; exact (by show _ < 4; omega)) hf _ _ _ hH hS (gLv_sub hl [0, 1, 2, 3] rfl)
        clear ek49
        refine g_ifnullO X (ad := gAd G 11) (x := x1) (tgt := 49) dX2_strongestIdle_34 (by decide) ?_ ?_
        · intro hx
          subst hx
          replace hf := om_n hf
          exact hk49  hf _ _ _ hH hS (gLv_sub hl [2, 3, 4, 0] rfl)
        · intro a34 hx
          subst hx
          replace hf := om_s hf
          have ha34 : a34 < 4 := hx1 _ rfl
          refine lv_aload X.1 X.2.1 dX2_strongestIdle_37 (lv_at hl.1 0 rfl) ?_
          have nd39 : nmI (M 11 x4.toNat 1) := hH.1.1 _ _ _
          refine g_get X cX10 hH (r := 11) (i := x4.toNat) (by show _ < 4; omega) rfl 1 (by decide) k_351 rfl (v := .int (iI (M 11 x4.toNat 1))) rfl dX2_strongestIdle_39 ?_
          refine lv_aload_n X.1 X.2.1 dX2_strongestIdle_42 rfl (lv_at hl.1 1 rfl) ?_
          have nd43 : nmI (M 11 a34 1) := hH.1.1 _ _ _
          refine g_get X cX10 hH (r := 11) (i := a34) ha34 rfl 1 (by decide) k_351 rfl (v := .int (iI (M 11 a34 1))) rfl dX2_strongestIdle_43 ?_
          refine g_icmp_le X nd39 nd43 (tgt := 52) dX2_strongestIdle_46 (by decide) (fun hc46 => ?_) (fun hc46 => ?_)
          · replace hf := it_f hf hc46
            exact hk52 ((some a34)) (fun a h => by cases h; exact ha34) hf _ _ _ hH hS (gLv_sub hl [1, 2, 3, 4] rfl)
          · replace hf := it_t hf hc46
            exact hk49  hf _ _ _ hH hS (gLv_sub hl [2, 3, 4, 0] rfl)
theorem m_X2_strongestIdle (l : Launch) (G : gG)  (M : gM) (q : (Option Nat)) (hf : f_X2_strongestIdle M = some q) : gMet l yX2_strongestIdle cX2_strongestIdle 6 (some (.object "BuildGrid$Worker")) 1 20 G M [.ref (gAd G 4 0)] (gQq G 11 q M) := by
  refine gOfW (by decide) (by show _ ≤ 6; exact Nat.le_of_ble_eq_true rfl) rfl ?_
  intro p e s m below meth c X hH ls hl
  replace hl : gLv ls 6 [(0, .ref (gAd G 4 0))] := hl
  have hS : va_S (gA G) s.heap s.heap [] := va_S.rf
  generalize hargs : ([.ref (gAd G 4 0)] : List Value).toArray = args at X ⊢
  clear hargs
  unfold f_X2_strongestIdle at hf
  refine lv_null X.1 X.2.1 dX2_strongestIdle_0 ?_
  refine g_astore_nO X (ad := gAd G 0) (x := none) (lv' := [(1, .null), (0, .ref (gAd G 4 0))]) dX2_strongestIdle_1 rfl hl (by decide) rfl (fun ls hl => ?_)
  refine lv_aload_n X.1 X.2.1 dX2_strongestIdle_2 rfl (lv_at hl.1 1 rfl) ?_
  refine g_get X cX2 hH (r := 4) (i := 0) (by decide) rfl 4 (by decide) k_386 rfl (v := .ref (gAd G 28 0)) rfl dX2_strongestIdle_3 ?_
  refine g_astore_n X (lv' := [(2, .ref (gAd G 28 0)), (1, .null), (0, .ref (gAd G 4 0))]) dX2_strongestIdle_6 rfl hl (by decide) rfl (fun ls hl => ?_)
  refine lv_aload_n X.1 X.2.1 dX2_strongestIdle_7 rfl (lv_at hl.1 0 rfl) ?_
  refine g_alen X hH (r := 28) (i := 0) (by decide) rfl (t0 := 5) rfl (n := 4) rfl dX2_strongestIdle_8 ?_
  refine g_istore_n X (lv' := [(3, .int (iI 4)), (2, .ref (gAd G 28 0)), (1, .null), (0, .ref (gAd G 4 0))]) dX2_strongestIdle_9 rfl hl (by decide) rfl (fun ls hl => ?_)
  refine lv_iconst X.1 X.2.1 dX2_strongestIdle_10 (v := iI 0) rfl ?_
  refine g_istore X (lv' := [(4, .int (iI 0)), (3, .int (iI 4)), (2, .ref (gAd G 28 0)), (1, .null), (0, .ref (gAd G 4 0))]) dX2_strongestIdle_11 hl (by decide) rfl (fun ls hl => ?_)
  refine w_X2_strongestIdle_L13 X _ 4 (nmI_l (by decide)) M q ?_ 64 none (fun a h => nomatch h) 0 (nmI_l (by decide)) hf _ _ _ hH hS (gLv_sub hl [3, 2, 1, 0] rfl)
  · intro y1_13_58 hy1_13_58 hf H locs ls hH hS hl
    refine g_aload_nO X (ad := gAd G 11) (x := y1_13_58) dX2_strongestIdle_58 rfl (lv_at hl.1 0 rfl) ?_
    have hq := Option.some.inj hf; subst hq
    exact gRetQ X hH hS (reg := 11) (o := y1_13_58) hy1_13_58 dX2_strongestIdle_59
theorem w_X8_firstReady_L2 {G : gG} {p : Program} {l : Launch} {e : Env} {s : State} {m : MethodId} {args : Array Value} {below : List Frame} {meth : Method} {c : Code} (X : gX G p s m args meth c RX8 cX8_firstReady 3 (some (.object "BuildGrid$Action")) (gWs yX8_firstReady cX8_firstReady 3 (some (.object "BuildGrid$Action")))) (k32 : Option (Option Nat)) (z0 : Nat) (hz0 : z0 < 15) (M : gM) (q : (Option Nat)) (hk32 : k32 = some q → ∀ (H : Heap) (locs : List Loc) (ls : Array Slot), gH G M H → va_S (gA G) s.heap H locs → gLv ls 3 [] → W p l e { frames := 1, cells := 0, slots := 0, locals := 21 } s m args below meth c H locs 0 0 (MQ below (gQq G 9 q M) args s 0 0 (gA G)) (F0 m 32 ls [])) : ∀ (n : Nat) (x1 : Int) (nx1 : nmI x1), f_X8_firstReady_L2 k32 z0 M n x1 = some q → ∀ (H : Heap) (locs : List Loc) (ls : Array Slot), gH G M H → va_S (gA G) s.heap H locs → gLv ls 3 [(0, .ref (gAd G 7 z0)), (1, .int (iI x1))] → W p l e { frames := 1, cells := 0, slots := 0, locals := 21 } s m args below meth c H locs 0 0 (MQ below (gQq G 9 q M) args s 0 0 (gA G)) (F0 m 2 ls []) := by
  intro n
  induction n with
  | zero =>
    intro x1 nx1 hf
    cases hf
  | succ n ih =>
    intro x1 nx1 hf H locs ls hH hS hl
    rw [f_X8_firstReady_L2] at hf
    refine lv_iload_n X.1 X.2.1 dX8_firstReady_2 rfl (lv_at hl.1 1 rfl) ?_
    refine lv_aload_n X.1 X.2.1 dX8_firstReady_3 rfl (lv_at hl.1 0 rfl) ?_
    have nd4 : nmI (M 7 z0 6) := hH.1.1 _ _ _
    refine g_get X cX8 hH (r := 7) (i := z0) hz0 rfl 6 (by decide) k_199 rfl (v := .int (iI (M 7 z0 6))) rfl dX8_firstReady_4 ?_
    refine g_icmp_ge X nx1 nd4 (tgt := 32) dX8_firstReady_7 (by decide) (fun hc7 => ?_) (fun hc7 => ?_)
    · replace hf := it_f hf hc7
      exact hk32  hf _ _ _ hH hS (gLv_sub hl [] rfl)
    · replace hf := it_t hf hc7
      refine lv_aload_n X.1 X.2.1 dX8_firstReady_10 rfl (lv_at hl.1 0 rfl) ?_
      refine lv_iload_n X.1 X.2.1 dX8_firstReady_11 rfl (lv_at hl.1 1 rfl) ?_
      refine gGoR (gRunV X hH (As := [.int (iI x1)]) (m_X8_actionAt l G z0 hz0 x1 nx1 M _ rfl) calX8_actionAt k_740 k_741 k_739 hz0 cX8 rfl ⟨by decide, by decide⟩ rfl hl rfl (Nat.le_of_ble_eq_true rfl) ⟨Nat.le_of_ble_eq_true rfl, Nat.le_of_ble_eq_true rfl⟩ dX8_firstReady_12) hS (fun H locs hr12 hH hS => ?_)
      replace hr12 : (f_X8_actionAt z0 x1 M) < 60 := hr12
      refine g_astore_n X (lv' := [(2, .ref (gAd G 9 ((f_X8_actionAt z0 x1 M)))), (0, .ref (gAd G 7 z0)), (1, .int (iI x1))]) dX8_firstReady_15 rfl hl (by decide) rfl (fun ls hl => ?_)
      refine lv_aload_n X.1 X.2.1 dX8_firstReady_16 rfl (lv_at hl.1 0 rfl) ?_
      have nd17 : nmI (M 9 ((f_X8_actionAt z0 x1 M)) 2) := hH.1.1 _ _ _
      refine g_get X cX0 hH (r := 9) (i := (f_X8_actionAt z0 x1 M)) hr12 rfl 2 (by decide) k_144 rfl (v := .int (iI (M 9 ((f_X8_actionAt z0 x1 M)) 2))) rfl dX8_firstReady_17 ?_
      refine lv_iconst X.1 X.2.1 dX8_firstReady_20 (v := iI 1) rfl ?_
      refine g_icmp_ne X nd17 (nmI_l (by decide)) (tgt := 26) dX8_firstReady_21 (by decide) (fun hc21 => ?_) (fun hc21 => ?_)
      · replace hf := it_f hf hc21
        refine g_iinc X (a := x1) (lv' := [(1, .int (iI (wI (x1 + 1)))), (2, .ref (gAd G 9 ((f_X8_actionAt z0 x1 M)))), (0, .ref (gAd G 7 z0))]) dX8_firstReady_26 hl (k := 2) rfl (by decide) rfl (fun ls hl => ?_)
        refine lv_goto (tgt := 2) X.1 X.2.1 dX8_firstReady_29 (by decide) ?_
        exact ih (wI (x1 + 1)) (nmI_w _) hf _ _ _ hH hS (gLv_sub hl [2, 0] rfl)
      · replace hf := it_t hf hc21
        refine lv_aload_n X.1 X.2.1 dX8_firstReady_24 rfl (lv_at hl.1 0 rfl) ?_
        have hq := Option.some.inj hf; subst hq
        exact gRetQ X hH hS (reg := 9) (o := (some ((f_X8_actionAt z0 x1 M)))) (fun a h => by cases h; exact hr12) dX8_firstReady_25
theorem m_X8_firstReady (l : Launch) (G : gG) (i0 : Nat) (hi0 : i0 < 15) (M : gM) (q : (Option Nat)) (hf : f_X8_firstReady i0 M = some q) : gMet l yX8_firstReady cX8_firstReady 3 (some (.object "BuildGrid$Action")) 1 21 G M [.ref (gAd G 7 i0)] (gQq G 9 q M) := by
  refine gOfW (by decide) (by show _ ≤ 3; exact Nat.le_of_ble_eq_true rfl) rfl ?_
  intro p e s m below meth c X hH ls hl
  replace hl : gLv ls 3 [(0, .ref (gAd G 7 i0))] := hl
  have hS : va_S (gA G) s.heap s.heap [] := va_S.rf
  generalize hargs : ([.ref (gAd G 7 i0)] : List Value).toArray = args at X ⊢
  clear hargs
  unfold f_X8_firstReady at hf
  refine lv_iconst X.1 X.2.1 dX8_firstReady_0 (v := iI 0) rfl ?_
  refine g_istore_n X (lv' := [(1, .int (iI 0)), (0, .ref (gAd G 7 i0))]) dX8_firstReady_1 rfl hl (by decide) rfl (fun ls hl => ?_)
  refine w_X8_firstReady_L2 X _ i0 hi0 M q ?_ 64 0 (nmI_l (by decide)) hf _ _ _ hH hS (gLv_sub hl [1, 0] rfl)
  · intro  hf H locs ls hH hS hl
    refine lv_null X.1 X.2.1 dX8_firstReady_32 ?_
    have hq := Option.some.inj hf; subst hq
    exact gRetQ X hH hS (reg := 9) (o := none) (fun a h => nomatch h) dX8_firstReady_33
theorem w_X2_longestReady_L6 {G : gG} {p : Program} {l : Launch} {e : Env} {s : State} {m : MethodId} {args : Array Value} {below : List Frame} {meth : Method} {c : Code} (X : gX G p s m args meth c RX2 cX2_longestReady 6 (some (.object "BuildGrid$Action")) (gWs yX2_longestReady cX2_longestReady 6 (some (.object "BuildGrid$Action")))) (k63 : Option Nat → Option (Option Nat)) (M : gM) (q : (Option Nat)) (hk63 : ∀ (x1 : Option Nat) (hx1 : ∀ a, x1 = some a → a < 60), k63 x1 = some q → ∀ (H : Heap) (locs : List Loc) (ls : Array Slot), gH G M H → va_S (gA G) s.heap H locs → gLv ls 6 [(1, va_re (gAd G 9) x1)] → W p l e { frames := 2, cells := 0, slots := 0, locals := 43 } s m args below meth c H locs 0 0 (MQ below (gQq G 9 q M) args s 0 0 (gA G)) (F0 m 63 ls [])) : ∀ (n : Nat) (x1 : Option Nat) (hx1 : ∀ a, x1 = some a → a < 60) (x2 : Int) (nx2 : nmI x2) (x3 : Int) (nx3 : nmI x3), f_X2_longestReady_L6 k63 M n x1 x2 x3 = some q → ∀ (H : Heap) (locs : List Loc) (ls : Array Slot), gH G M H → va_S (gA G) s.heap H locs → gLv ls 6 [(0, .ref (gAd G 4 0)), (1, va_re (gAd G 9) x1), (2, .int (iI x2)), (3, .int (iI x3))] → W p l e { frames := 2, cells := 0, slots := 0, locals := 43 } s m args below meth c H locs 0 0 (MQ below (gQq G 9 q M) args s 0 0 (gA G)) (F0 m 6 ls []) := by
  intro n
  induction n with
  | zero =>
    intro x1 hx1 x2 nx2 x3 nx3 hf
    cases hf
  | succ n ih =>
    intro x1 hx1 x2 nx2 x3 nx3 hf H locs ls hH hS hl
    rw [f_X2_longestReady_L6] at hf
    refine lv_iload_n X.1 X.2.1 dX2_longestReady_6 rfl (lv_at hl.1 3 rfl) ?_
    refine lv_aload_n X.1 X.2.1 dX2_longestReady_7 rfl (lv_at hl.1 0 rfl) ?_
    refine g_get X cX2 hH (r := 4) (i := 0) (by decide) rfl 0 (by decide) k_382 rfl (v := .ref (gAd G 2 0)) rfl dX2_longestReady_8 ?_
    have nd11 : nmI (M 2 0 5) := hH.1.1 _ _ _
    refine g_get X cX5 hH (r := 2) (i := 0) (by decide) rfl 5 (by decide) k_251 rfl (v := .int (iI (M 2 0 5))) rfl dX2_longestReady_11 ?_
    refine g_icmp_ge X nx3 nd11 (tgt := 63) dX2_longestReady_14 (by decide) (fun hc14 => ?_) (fun hc14 => ?_)
    · replace hf := it_f hf hc14
      exact hk63 x1 hx1 hf _ _ _ hH hS (gLv_sub hl [1] rfl)
    · replace hf := it_t hf hc14
      refine lv_aload_n X.1 X.2.1 dX2_longestReady_17 rfl (lv_at hl.1 0 rfl) ?_
      refine g_get X cX2 hH (r := 4) (i := 0) (by decide) rfl 0 (by decide) k_382 rfl (v := .ref (gAd G 2 0)) rfl dX2_longestReady_18 ?_
      refine lv_iload_n X.1 X.2.1 dX2_longestReady_21 rfl (lv_at hl.1 3 rfl) ?_
      refine gGoR (gRunV X hH (As := [.int (iI x3)]) (m_X5_targetAt l G x3 nx3 M _ rfl) calX5_targetAt k_631 k_632 k_733 (by decide) cX5 rfl ⟨by decide, by decide⟩ rfl hl rfl (Nat.le_of_ble_eq_true rfl) ⟨Nat.le_of_ble_eq_true rfl, Nat.le_of_ble_eq_true rfl⟩ dX2_longestReady_22) hS (fun H locs hr22 hH hS => ?_)
      replace hr22 : (f_X5_targetAt x3 M) < 15 := hr22
      refine g_astore X (lv' := [(4, .ref (gAd G 7 ((f_X5_targetAt x3 M)))), (0, .ref (gAd G 4 0)), (1, va_re (gAd G 9) x1), (2, .int (iI x2)), (3, .int (iI x3))]) dX2_longestReady_25 hl (by decide) rfl (fun ls hl => ?_)
      refine lv_aload X.1 X.2.1 dX2_longestReady_27 (lv_at hl.1 0 rfl) ?_
      obtain ⟨r29, hq29, hf_⟩ := ob_e hf; clear hf; have hf := hf_; clear hf_
      refine gGoQ (gRunV X hH (As := []) (m_X8_firstReady l G ((f_X5_targetAt x3 M)) hr22 M _ hq29) calX8_firstReady k_845 k_846 k_844 hr22 cX8 rfl ⟨by decide, by decide⟩ rfl hl rfl (Nat.le_of_ble_eq_true rfl) ⟨Nat.le_of_ble_eq_true rfl, Nat.le_of_ble_eq_true rfl⟩ dX2_longestReady_29) hS (fun H locs hr29 hH hS => ?_)
      refine g_astoreO X (lv' := [(5, va_re (gAd G 9) r29), (4, .ref (gAd G 7 ((f_X5_targetAt x3 M)))), (0, .ref (gAd G 4 0)), (1, va_re (gAd G 9) x1), (2, .int (iI x2)), (3, .int (iI x3))]) dX2_longestReady_32 hl (by decide) rfl (fun ls hl => ?_)
      refine g_aloadO X (ad := gAd G 9) (x := r29) dX2_longestReady_34 (lv_at hl.1 0 rfl) ?_
      obtain ⟨k57, ek57, hf_⟩ := oj_e hf; clear hf; have hf := hf_; clear hf_
      have hk57 : ∀ (x1_57 : Option Nat) (hx1_57 : ∀ a, x1_57 = some a → a < 60) (x2_57 : Int) (nx2_57 : nmI x2_57), k57 x1_57 x2_57 = some q → ∀ (H : Heap) (locs : List Loc) (ls : Array Slot), gH G M H → va_S (gA G) s.heap H locs → gLv ls 6 [(0, .ref (gAd G 4 0)), (1, va_re (gAd G 9) x1_57), (2, .int (iI x2_57)), (3, .int (iI x3))] → W p l e { frames := 2, cells := 0, slots := 0, locals := 43 } s m args below meth c H locs 0 0 (MQ below (gQq G 9 q M) args s 0 0 (gA G)) (F0 m 57 ls []) := by
        intro x1_57 hx1_57 x2_57 nx2_57 hf H locs ls hH hS hl
        subst ek57
        refine g_iinc X (a := x3) (lv' := [(3, .int (iI (wI (x3 + 1)))), (0, .ref (gAd G 4 0)), (1, va_re (gAd G 9) x1_57), (2, .int (iI x2_57))]) dX2_longestReady_57 hl (k := 3) rfl (by decide) rfl (fun ls hl => ?_)
        refine lv_goto (tgt := 6) X.1 X.2.1 dX2_longestReady_60 (by decide) ?_
        exact ih x1_57 hx1_57 x2_57 nx2_57 (wI (x3 + 1)) (nmI_w _) hf _ _ _ hH hS (gLv_sub hl [1, 2, 3, 0] rfl)
      clear ek57
      refine g_ifnullO X (ad := gAd G 9) (x := r29) (tgt := 57) dX2_longestReady_36 (by decide) ?_ ?_
      · intro hx
        subst hx
        replace hf := om_n hf
        exact hk57 x1 hx1 x2 nx2 hf _ _ _ hH hS (gLv_sub hl [2, 3, 4, 5] rfl)
      · intro a36 hx
        subst hx
        replace hf := om_s hf
        have ha36 : a36 < 60 := hr29 _ rfl
        refine lv_aload X.1 X.2.1 dX2_longestReady_39 (lv_at hl.1 1 rfl) ?_
        have nd41 : nmI (M 7 ((f_X5_targetAt x3 M)) 10) := hH.1.1 _ _ _
        refine g_get X cX8 hH (r := 7) (i := (f_X5_targetAt x3 M)) hr22 rfl 10 (by decide) k_211 rfl (v := .int (iI (M 7 ((f_X5_targetAt x3 M)) 10))) rfl dX2_longestReady_41 ?_
        refine lv_iload_n X.1 X.2.1 dX2_longestReady_44 rfl (lv_at hl.1 4 rfl) ?_
        refine g_icmp_le X nd41 nx2 (tgt := 57) dX2_longestReady_45 (by decide) (fun hc45 => ?_) (fun hc45 => ?_)
        · replace hf := it_f hf hc45
          exact hk57 x1 hx1 x2 nx2 hf _ _ _ hH hS (gLv_sub hl [2, 3, 4, 5] rfl)
        · replace hf := it_t hf hc45
          refine lv_aload X.1 X.2.1 dX2_longestReady_48 (lv_at hl.1 0 rfl) ?_
          refine g_astore_n X (lv' := [(1, .ref (gAd G 9 a36)), (5, .ref (gAd G 9 a36)), (4, .ref (gAd G 7 ((f_X5_targetAt x3 M)))), (0, .ref (gAd G 4 0)), (2, .int (iI x2)), (3, .int (iI x3))]) dX2_longestReady_50 rfl hl (by decide) rfl (fun ls hl => ?_)
          refine lv_aload X.1 X.2.1 dX2_longestReady_51 (lv_at hl.1 2 rfl) ?_
          have nd53 : nmI (M 7 ((f_X5_targetAt x3 M)) 10) := hH.1.1 _ _ _
          refine g_get X cX8 hH (r := 7) (i := (f_X5_targetAt x3 M)) hr22 rfl 10 (by decide) k_211 rfl (v := .int (iI (M 7 ((f_X5_targetAt x3 M)) 10))) rfl dX2_longestReady_53 ?_
          refine g_istore_n X (lv' := [(2, .int (iI (M 7 ((f_X5_targetAt x3 M)) 10))), (1, .ref (gAd G 9 a36)), (5, .ref (gAd G 9 a36)), (4, .ref (gAd G 7 ((f_X5_targetAt x3 M)))), (0, .ref (gAd G 4 0)), (3, .int (iI x3))]) dX2_longestReady_56 rfl hl (by decide) rfl (fun ls hl => ?_)
          exact hk57 ((some a36)) (fun a h => by cases h; exact ha36) (M 7 ((f_X5_targetAt x3 M)) 10) nd53 hf _ _ _ hH hS (gLv_sub hl [4, 1, 0, 5] rfl)
theorem m_X2_longestReady (l : Launch) (G : gG)  (M : gM) (q : (Option Nat)) (hf : f_X2_longestReady M = some q) : gMet l yX2_longestReady cX2_longestReady 6 (some (.object "BuildGrid$Action")) 2 43 G M [.ref (gAd G 4 0)] (gQq G 9 q M) := by
  refine gOfW (by decide) (by show _ ≤ 6; exact Nat.le_of_ble_eq_true rfl) rfl ?_
  intro p e s m below meth c X hH ls hl
  replace hl : gLv ls 6 [(0, .ref (gAd G 4 0))] := hl
  have hS : va_S (gA G) s.heap s.heap [] := va_S.rf
  generalize hargs : ([.ref (gAd G 4 0)] : List Value).toArray = args at X ⊢
  clear hargs
  unfold f_X2_longestReady at hf
  refine lv_null X.1 X.2.1 dX2_longestReady_0 ?_
  refine g_astore_nO X (ad := gAd G 0) (x := none) (lv' := [(1, .null), (0, .ref (gAd G 4 0))]) dX2_longestReady_1 rfl hl (by decide) rfl (fun ls hl => ?_)
  refine lv_iconst X.1 X.2.1 dX2_longestReady_2 (v := iI 0) rfl ?_
  refine g_istore_n X (lv' := [(2, .int (iI 0)), (1, .null), (0, .ref (gAd G 4 0))]) dX2_longestReady_3 rfl hl (by decide) rfl (fun ls hl => ?_)
  refine lv_iconst X.1 X.2.1 dX2_longestReady_4 (v := iI 0) rfl ?_
  refine g_istore_n X (lv' := [(3, .int (iI 0)), (2, .int (iI 0)), (1, .null), (0, .ref (gAd G 4 0))]) dX2_longestReady_5 rfl hl (by decide) rfl (fun ls hl => ?_)
  refine w_X2_longestReady_L6 X _ M q ?_ 64 none (fun a h => nomatch h) 0 (nmI_l (by decide)) 0 (nmI_l (by decide)) hf _ _ _ hH hS (gLv_sub hl [3, 2, 1, 0] rfl)
  · intro y1_6_63 hy1_6_63 hf H locs ls hH hS hl
    refine g_aload_nO X (ad := gAd G 9) (x := y1_6_63) dX2_longestReady_63 rfl (lv_at hl.1 0 rfl) ?_
    have hq := Option.some.inj hf; subst hq
    exact gRetQ X hH hS (reg := 9) (o := y1_6_63) hy1_6_63 dX2_longestReady_64
theorem m_X8_work (l : Launch) (G : gG) (i0 : Nat) (hi0 : i0 < 15) (M : gM) (q : (Int)) (hf : f_X8_work i0 M = q) : gMet l yX8_work cX8_work 1 (some .int) 0 0 G M [.ref (gAd G 7 i0)] (gQi G q M) := by
  refine gOfW (by decide) (by show _ ≤ 1; exact Nat.le_of_ble_eq_true rfl) rfl ?_
  intro p e s m below meth c X hH ls hl
  replace hl : gLv ls 1 [(0, .ref (gAd G 7 i0))] := hl
  have hS : va_S (gA G) s.heap s.heap [] := va_S.rf
  generalize hargs : ([.ref (gAd G 7 i0)] : List Value).toArray = args at X ⊢
  clear hargs
  unfold f_X8_work at hf
  refine lv_bipush X.1 X.2.1 dX8_work_0 (v := iI 6) (by decide) ?_
  refine lv_iconst X.1 X.2.1 dX8_work_2 (v := iI 2) rfl ?_
  refine lv_aload_n X.1 X.2.1 dX8_work_3 rfl (lv_at hl.1 0 rfl) ?_
  refine g_get X cX8 hH (r := 7) (i := i0) hi0 rfl 1 (by decide) k_182 rfl (v := .ref (gAd G 8 i0)) rfl dX8_work_4 ?_
  have nd7 : nmI (M 8 i0 5) := hH.1.1 _ _ _
  refine g_get X cX6 hH (r := 8) (i := i0) (by show _ < 16; omega) rfl 5 (by decide) k_118 rfl (v := .int (iI (M 8 i0 5))) rfl dX8_work_7 ?_
  refine g_imul X dX8_work_10 ?_
  refine g_iadd X dX8_work_11 ?_
  refine lv_aload_n X.1 X.2.1 dX8_work_12 rfl (lv_at hl.1 0 rfl) ?_
  have nd13 : nmI (M 7 i0 3) := hH.1.1 _ _ _
  refine g_get X cX8 hH (r := 7) (i := i0) hi0 rfl 3 (by decide) k_189 rfl (v := .int (iI (M 7 i0 3))) rfl dX8_work_13 ?_
  refine lv_iconst X.1 X.2.1 dX8_work_16 (v := iI 1) rfl ?_
  refine g_icmp_ne X nd13 (nmI_l (by decide)) (tgt := 24) dX8_work_17 (by decide) (fun hc17 => ?_) (fun hc17 => ?_)
  · replace hf := it_f hf hc17
    refine lv_iconst X.1 X.2.1 dX8_work_24 (v := iI 0) rfl ?_
    refine g_iadd X dX8_work_25 ?_
    subst hf
    exact gRetI X hH hS (res := wI ((wI (6 + (wI (2 * (M 8 i0 5))))) + 0)) (nmI_w _) dX8_work_26
  · replace hf := it_t hf hc17
    refine lv_iconst X.1 X.2.1 dX8_work_20 (v := iI 4) rfl ?_
    refine lv_goto (tgt := 25) X.1 X.2.1 dX8_work_21 (by decide) ?_
    refine g_iadd X dX8_work_25 ?_
    subst hf
    exact gRetI X hH hS (res := wI ((wI (6 + (wI (2 * (M 8 i0 5))))) + 4)) (nmI_w _) dX8_work_26
theorem m_X10_ticksFor (l : Launch) (G : gG) (i0 : Nat) (hi0 : i0 < 4) (i1 : Nat) (hi1 : i1 < 15) (M : gM) (q : (Int)) (hf : f_X10_ticksFor i0 i1 M = q) : gMet l yX10_ticksFor cX10_ticksFor 3 (some .int) 1 21 G M [.ref (gAd G 11 i0), .ref (gAd G 7 i1)] (gQi G q M) := by
  refine gOfW (by decide) (by show _ ≤ 3; exact Nat.le_of_ble_eq_true rfl) rfl ?_
  intro p e s m below meth c X hH ls hl
  replace hl : gLv ls 3 [(0, .ref (gAd G 11 i0)), (1, .ref (gAd G 7 i1))] := hl
  have hS : va_S (gA G) s.heap s.heap [] := va_S.rf
  generalize hargs : ([.ref (gAd G 11 i0), .ref (gAd G 7 i1)] : List Value).toArray = args at X ⊢
  clear hargs
  unfold f_X10_ticksFor at hf
  refine lv_aload_n X.1 X.2.1 dX10_ticksFor_0 rfl (lv_at hl.1 0 rfl) ?_
  have nd1 : nmI (M 11 i0 1) := hH.1.1 _ _ _
  refine g_get X cX10 hH (r := 11) (i := i0) hi0 rfl 1 (by decide) k_350 rfl (v := .int (iI (M 11 i0 1))) rfl dX10_ticksFor_1 ?_
  refine g_if_gt X nd1 (tgt := 9) dX10_ticksFor_4 (by decide) (fun hc4 => ?_) (fun hc4 => ?_)
  · replace hf := it_t hf hc4
    refine lv_aload_n X.1 X.2.1 dX10_ticksFor_9 rfl (lv_at hl.1 1 rfl) ?_
    refine gGoI (gRunV X hH (As := []) (m_X8_work l G i1 hi1 M _ rfl) calX8_work k_861 k_862 k_860 hi1 cX8 rfl ⟨by decide, by decide⟩ rfl hl rfl (Nat.le_of_ble_eq_true rfl) ⟨Nat.le_of_ble_eq_true rfl, Nat.le_of_ble_eq_true rfl⟩ dX10_ticksFor_10) hS (fun H locs nr10 hH hS => ?_)
    refine lv_aload_n X.1 X.2.1 dX10_ticksFor_13 rfl (lv_at hl.1 0 rfl) ?_
    have nd14 : nmI (M 11 i0 1) := hH.1.1 _ _ _
    refine g_get X cX10 hH (r := 11) (i := i0) hi0 rfl 1 (by decide) k_350 rfl (v := .int (iI (M 11 i0 1))) rfl dX10_ticksFor_14 ?_
    refine g_iadd X dX10_ticksFor_17 ?_
    refine lv_iconst X.1 X.2.1 dX10_ticksFor_18 (v := iI 1) rfl ?_
    refine g_isub X dX10_ticksFor_19 ?_
    refine lv_aload_n X.1 X.2.1 dX10_ticksFor_20 rfl (lv_at hl.1 0 rfl) ?_
    have nd21 : nmI (M 11 i0 1) := hH.1.1 _ _ _
    refine g_get X cX10 hH (r := 11) (i := i0) hi0 rfl 1 (by decide) k_350 rfl (v := .int (iI (M 11 i0 1))) rfl dX10_ticksFor_21 ?_
    refine g_idiv X (nmI_w _) nd21 (by omega) dX10_ticksFor_24 ?_
    refine g_istore_n X (lv' := [(2, .int (iI (wI ((wI ((wI (((f_X8_work i1 M)) + (M 11 i0 1))) - 1)).tdiv (M 11 i0 1))))), (0, .ref (gAd G 11 i0)), (1, .ref (gAd G 7 i1))]) dX10_ticksFor_25 rfl hl (by decide) rfl (fun ls hl => ?_)
    refine lv_aload_n X.1 X.2.1 dX10_ticksFor_26 rfl (lv_at hl.1 1 rfl) ?_
    have nd27 : nmI (M 11 i0 2) := hH.1.1 _ _ _
    refine g_get X cX10 hH (r := 11) (i := i0) hi0 rfl 2 (by decide) k_353 rfl (v := .int (iI (M 11 i0 2))) rfl dX10_ticksFor_27 ?_
    refine lv_aload_n X.1 X.2.1 dX10_ticksFor_30 rfl (lv_at hl.1 2 rfl) ?_
    have nd31 : nmI (M 7 i1 4) := hH.1.1 _ _ _
    refine g_get X cX8 hH (r := 7) (i := i1) hi1 rfl 4 (by decide) k_194 rfl (v := .int (iI (M 7 i1 4))) rfl dX10_ticksFor_31 ?_
    refine g_icmp_ne X nd27 nd31 (tgt := 47) dX10_ticksFor_34 (by decide) (fun hc34 => ?_) (fun hc34 => ?_)
    · replace hf := it_f hf hc34
      refine lv_iload_n X.1 X.2.1 dX10_ticksFor_47 rfl (lv_at hl.1 0 rfl) ?_
      subst hf
      exact gRetI X hH hS (res := wI ((wI ((wI (((f_X8_work i1 M)) + (M 11 i0 1))) - 1)).tdiv (M 11 i0 1))) (nmI_w _) dX10_ticksFor_48
    · replace hf := it_t hf hc34
      refine lv_iconst X.1 X.2.1 dX10_ticksFor_37 (v := iI 1) rfl ?_
      refine lv_iload_n X.1 X.2.1 dX10_ticksFor_38 rfl (lv_at hl.1 0 rfl) ?_
      refine lv_iconst X.1 X.2.1 dX10_ticksFor_39 (v := iI 2) rfl ?_
      refine g_isub X dX10_ticksFor_40 ?_
      refine gGoI (gRunS X hH (As := [.int (iI 1), .int (iI (wI ((wI ((wI ((wI (((f_X8_work i1 M)) + (M 11 i0 1))) - 1)).tdiv (M 11 i0 1))) - 2)))]) (m_J9_max_7cf53 l G 1 (nmI_l (by decide)) (wI ((wI ((wI ((wI (((f_X8_work i1 M)) + (M 11 i0 1))) - 1)).tdiv (M 11 i0 1))) - 2)) (nmI_w _) M _ rfl) calJ9_max_7cf53 k_830 k_864 ⟨by decide, by decide⟩ rfl hl rfl (Nat.le_of_ble_eq_true rfl) ⟨Nat.le_of_ble_eq_true rfl, Nat.le_of_ble_eq_true rfl⟩ dX10_ticksFor_41) hS (fun H locs nr41 hH hS => ?_)
      refine lv_goto (tgt := 48) X.1 X.2.1 dX10_ticksFor_44 (by decide) ?_
      subst hf
      exact gRetI X hH hS (res := (f_J9_max_7cf53 1 (wI ((wI ((wI ((wI (((f_X8_work i1 M)) + (M 11 i0 1))) - 1)).tdiv (M 11 i0 1))) - 2)) M)) nr41 dX10_ticksFor_48
  · replace hf := it_f hf hc4
    refine lv_iconst X.1 X.2.1 dX10_ticksFor_7 (v := iI 1) rfl ?_
    subst hf
    exact gRetI X hH hS (res := 1) (nmI_l (by decide)) dX10_ticksFor_8
theorem m_X10_start (l : Launch) (G : gG) (i0 : Nat) (hi0 : i0 < 4) (i1 : Nat) (hi1 : i1 < 60) (i2 : Nat) (hi2 : i2 < 15) (v3 : Int) (nv3 : nmI v3) (v4 : Int) (nv4 : nmI v4) (M : gM) (q : gM) (hf : f_X10_start i0 i1 i2 v3 v4 M = q) : gMet l yX10_start cX10_start 5 none 2 43 G M [.ref (gAd G 11 i0), .ref (gAd G 9 i1), .ref (gAd G 7 i2), .int (iI v3), .int (iI v4)] (gQv G q) := by
  refine gOfW (by decide) (by show _ ≤ 5; exact Nat.le_of_ble_eq_true rfl) rfl ?_
  intro p e s m below meth c X hH ls hl
  replace hl : gLv ls 5 [(0, .ref (gAd G 11 i0)), (1, .ref (gAd G 9 i1)), (2, .ref (gAd G 7 i2)), (3, .int (iI v3)), (4, .int (iI v4))] := hl
  have hS : va_S (gA G) s.heap s.heap [] := va_S.rf
  generalize hargs : ([.ref (gAd G 11 i0), .ref (gAd G 9 i1), .ref (gAd G 7 i2), .int (iI v3), .int (iI v4)] : List Value).toArray = args at X ⊢
  clear hargs
  unfold f_X10_start at hf
  refine lv_aload_n X.1 X.2.1 dX10_start_0 rfl (lv_at hl.1 0 rfl) ?_
  refine lv_aload_n X.1 X.2.1 dX10_start_1 rfl (lv_at hl.1 1 rfl) ?_
  refine g_putR X cX10 hH hS (r := 11) (i := i0) hi0 rfl 3 (by decide) k_354 rfl rfl (E := "BuildGrid$Action") (by decide +kernel) (Nat.le_of_ble_eq_true rfl) (a := i1) hi1 rfl (gPutA _ _ _ _) dX10_start_2 (fun H locs hH hS => ?_)
  refine lv_aload_n X.1 X.2.1 dX10_start_5 rfl (lv_at hl.1 0 rfl) ?_
  refine lv_iload_n X.1 X.2.1 dX10_start_6 rfl (lv_at hl.1 3 rfl) ?_
  refine g_putI X cX10 hH hS (r := 11) (i := i0) hi0 rfl 4 (by decide) k_356 rfl rfl rfl (Nat.le_of_ble_eq_true rfl) (x := v3) nv3 rfl rfl rfl dX10_start_7 (fun H locs hH hS => ?_)
  refine lv_aload_n X.1 X.2.1 dX10_start_10 rfl (lv_at hl.1 0 rfl) ?_
  refine lv_iload X.1 X.2.1 dX10_start_11 (lv_at hl.1 4 rfl) ?_
  refine g_putI X cX10 hH hS (r := 11) (i := i0) hi0 rfl 5 (by decide) k_358 rfl rfl rfl (Nat.le_of_ble_eq_true rfl) (x := v4) nv4 rfl rfl rfl dX10_start_13 (fun H locs hH hS => ?_)
  refine lv_aload_n X.1 X.2.1 dX10_start_16 rfl (lv_at hl.1 0 rfl) ?_
  refine lv_aload_n X.1 X.2.1 dX10_start_17 rfl (lv_at hl.1 0 rfl) ?_
  refine lv_aload_n X.1 X.2.1 dX10_start_18 rfl (lv_at hl.1 2 rfl) ?_
  refine gGoI (gRunV X hH (As := [.ref (gAd G 7 i2)]) (m_X10_ticksFor l G i0 hi0 i2 hi2 (gU (gU (gU M 11 i0 3 ((i1 : Int))) 11 i0 4 v3) 11 i0 5 v4) _ rfl) calX10_ticksFor k_858 k_15 k_856 hi0 cX10 rfl ⟨by decide, by decide⟩ rfl hl rfl (Nat.le_of_ble_eq_true rfl) ⟨Nat.le_of_ble_eq_true rfl, Nat.le_of_ble_eq_true rfl⟩ dX10_start_19) hS (fun H locs nr19 hH hS => ?_)
  refine g_putI X cX10 hH hS (r := 11) (i := i0) hi0 rfl 7 (by decide) k_362 rfl rfl rfl (Nat.le_of_ble_eq_true rfl) (x := (f_X10_ticksFor i0 i2 (gU (gU (gU M 11 i0 3 ((i1 : Int))) 11 i0 4 v3) 11 i0 5 v4))) nr19 rfl rfl rfl dX10_start_22 (fun H locs hH hS => ?_)
  refine lv_aload_n X.1 X.2.1 dX10_start_25 rfl (lv_at hl.1 0 rfl) ?_
  refine lv_aload_n X.1 X.2.1 dX10_start_26 rfl (lv_at hl.1 0 rfl) ?_
  have nd27 : nmI ((gU (gU (gU (gU M 11 i0 3 ((i1 : Int))) 11 i0 4 v3) 11 i0 5 v4) 11 i0 7 ((f_X10_ticksFor i0 i2 (gU (gU (gU M 11 i0 3 ((i1 : Int))) 11 i0 4 v3) 11 i0 5 v4)))) 11 i0 7) := hH.1.1 _ _ _
  refine g_get X cX10 hH (r := 11) (i := i0) hi0 rfl 7 (by decide) k_362 rfl (v := .int (iI ((gU (gU (gU (gU M 11 i0 3 ((i1 : Int))) 11 i0 4 v3) 11 i0 5 v4) 11 i0 7 ((f_X10_ticksFor i0 i2 (gU (gU (gU M 11 i0 3 ((i1 : Int))) 11 i0 4 v3) 11 i0 5 v4)))) 11 i0 7))) rfl dX10_start_27 ?_
  refine g_putI X cX10 hH hS (r := 11) (i := i0) hi0 rfl 6 (by decide) k_360 rfl rfl rfl (Nat.le_of_ble_eq_true rfl) (x := (gU (gU (gU (gU M 11 i0 3 ((i1 : Int))) 11 i0 4 v3) 11 i0 5 v4) 11 i0 7 ((f_X10_ticksFor i0 i2 (gU (gU (gU M 11 i0 3 ((i1 : Int))) 11 i0 4 v3) 11 i0 5 v4)))) 11 i0 7) nd27 rfl rfl rfl dX10_start_30 (fun H locs hH hS => ?_)
  subst hf
  exact gRetV X hH hS dX10_start_33
theorem m_X2_start (l : Launch) (G : gG) (i1 : Nat) (hi1 : i1 < 4) (i2 : Nat) (hi2 : i2 < 60) (M : gM) (q : gM) (hf : f_X2_start i1 i2 M = some q) : gMet l yX2_start cX2_start 5 none 3 69 G M [.ref (gAd G 4 0), .ref (gAd G 11 i1), .ref (gAd G 9 i2)] (gQv G q) := by
  refine gOfW (by decide) (by show _ ≤ 5; exact Nat.le_of_ble_eq_true rfl) rfl ?_
  intro p e s m below meth c X hH ls hl
  replace hl : gLv ls 5 [(0, .ref (gAd G 4 0)), (1, .ref (gAd G 11 i1)), (2, .ref (gAd G 9 i2))] := hl
  have hS : va_S (gA G) s.heap s.heap [] := va_S.rf
  generalize hargs : ([.ref (gAd G 4 0), .ref (gAd G 11 i1), .ref (gAd G 9 i2)] : List Value).toArray = args at X ⊢
  clear hargs
  unfold f_X2_start at hf
  refine lv_aload_n X.1 X.2.1 dX2_start_0 rfl (lv_at hl.1 0 rfl) ?_
  refine g_get X cX2 hH (r := 4) (i := 0) (by decide) rfl 0 (by decide) k_382 rfl (v := .ref (gAd G 2 0)) rfl dX2_start_1 ?_
  refine lv_aload_n X.1 X.2.1 dX2_start_4 rfl (lv_at hl.1 2 rfl) ?_
  have nd5 : nmI (M 9 i2 0) := hH.1.1 _ _ _
  refine g_get X cX0 hH (r := 9) (i := i2) hi2 rfl 0 (by decide) k_140 rfl (v := .int (iI (M 9 i2 0))) rfl dX2_start_5 ?_
  refine gGoR (gRunV X hH (As := [.int (iI (M 9 i2 0))]) (m_X5_targetAt l G (M 9 i2 0) nd5 M _ rfl) calX5_targetAt k_631 k_632 k_733 (by decide) cX5 rfl ⟨by decide, by decide⟩ rfl hl rfl (Nat.le_of_ble_eq_true rfl) ⟨Nat.le_of_ble_eq_true rfl, Nat.le_of_ble_eq_true rfl⟩ dX2_start_8) hS (fun H locs hr8 hH hS => ?_)
  replace hr8 : (f_X5_targetAt (M 9 i2 0) M) < 15 := hr8
  refine g_astore_n X (lv' := [(3, .ref (gAd G 7 ((f_X5_targetAt (M 9 i2 0) M)))), (0, .ref (gAd G 4 0)), (1, .ref (gAd G 11 i1)), (2, .ref (gAd G 9 i2))]) dX2_start_11 rfl hl (by decide) rfl (fun ls hl => ?_)
  refine lv_aload_n X.1 X.2.1 dX2_start_12 rfl (lv_at hl.1 1 rfl) ?_
  refine g_get X cX2 hH (r := 4) (i := 0) (by decide) rfl 2 (by decide) k_384 rfl (v := .ref (gAd G 6 0)) rfl dX2_start_13 ?_
  refine lv_aload_n X.1 X.2.1 dX2_start_16 rfl (lv_at hl.1 0 rfl) ?_
  refine lv_aload_n X.1 X.2.1 dX2_start_17 rfl (lv_at hl.1 3 rfl) ?_
  have nd18 : nmI (M 9 i2 1) := hH.1.1 _ _ _
  refine g_get X cX0 hH (r := 9) (i := i2) hi2 rfl 1 (by decide) k_142 rfl (v := .int (iI (M 9 i2 1))) rfl dX2_start_18 ?_
  obtain ⟨r21, hq21, hf_⟩ := ob_e hf; clear hf; have hf := hf_; clear hf_
  refine gGoI (gRunV X hH (As := [.ref (gAd G 7 ((f_X5_targetAt (M 9 i2 0) M))), .int (iI (M 9 i2 1))]) (m_X9_keyOf l G 0 (by decide) ((f_X5_targetAt (M 9 i2 0) M)) hr8 (M 9 i2 1) nd18 M _ hq21) calX9_keyOf k_764 k_765 k_763 (by decide) cX9 rfl ⟨by decide, by decide⟩ rfl hl rfl (Nat.le_of_ble_eq_true rfl) ⟨Nat.le_of_ble_eq_true rfl, Nat.le_of_ble_eq_true rfl⟩ dX2_start_21) hS (fun H locs nr21 hH hS => ?_)
  refine g_istore X (lv' := [(4, .int (iI r21)), (3, .ref (gAd G 7 ((f_X5_targetAt (M 9 i2 0) M)))), (0, .ref (gAd G 4 0)), (1, .ref (gAd G 11 i1)), (2, .ref (gAd G 9 i2))]) dX2_start_24 hl (by decide) rfl (fun ls hl => ?_)
  refine lv_aload_n X.1 X.2.1 dX2_start_26 rfl (lv_at hl.1 3 rfl) ?_
  refine lv_aload_n X.1 X.2.1 dX2_start_27 rfl (lv_at hl.1 4 rfl) ?_
  refine lv_aload_n X.1 X.2.1 dX2_start_28 rfl (lv_at hl.1 1 rfl) ?_
  refine lv_iload X.1 X.2.1 dX2_start_29 (lv_at hl.1 0 rfl) ?_
  refine lv_aload_n X.1 X.2.1 dX2_start_31 rfl (lv_at hl.1 2 rfl) ?_
  refine g_get X cX2 hH (r := 4) (i := 0) (by decide) rfl 2 (by decide) k_384 rfl (v := .ref (gAd G 6 0)) rfl dX2_start_32 ?_
  refine lv_aload_n X.1 X.2.1 dX2_start_35 rfl (lv_at hl.1 1 rfl) ?_
  refine lv_iload X.1 X.2.1 dX2_start_36 (lv_at hl.1 0 rfl) ?_
  refine gGoI (gRunV X hH (As := [.ref (gAd G 7 ((f_X5_targetAt (M 9 i2 0) M))), .int (iI r21)]) (m_X9_contentFound l G 0 (by decide) ((f_X5_targetAt (M 9 i2 0) M)) hr8 r21 nr21 M _ rfl) calX9_contentFound k_777 k_778 k_776 (by decide) cX9 rfl ⟨by decide, by decide⟩ rfl hl rfl (Nat.le_of_ble_eq_true rfl) ⟨Nat.le_of_ble_eq_true rfl, Nat.le_of_ble_eq_true rfl⟩ dX2_start_38) hS (fun H locs nr38 hH hS => ?_)
  refine gGoV (gRunV X hH (As := [.ref (gAd G 9 i2), .ref (gAd G 7 ((f_X5_targetAt (M 9 i2 0) M))), .int (iI r21), .int (iI ((f_X9_contentFound 0 ((f_X5_targetAt (M 9 i2 0) M)) r21 M)))]) (m_X10_start l G i1 hi1 i2 hi2 ((f_X5_targetAt (M 9 i2 0) M)) hr8 r21 nr21 ((f_X9_contentFound 0 ((f_X5_targetAt (M 9 i2 0) M)) r21 M)) nr38 M _ rfl) calX10_start k_853 k_854 k_852 hi1 cX10 rfl ⟨by decide, by decide⟩ rfl hl rfl (Nat.le_of_ble_eq_true rfl) ⟨Nat.le_of_ble_eq_true rfl, Nat.le_of_ble_eq_true rfl⟩ dX2_start_41) hS (fun H locs hH hS => ?_)
  refine lv_aload_n X.1 X.2.1 dX2_start_44 rfl (lv_at hl.1 2 rfl) ?_
  refine lv_iconst X.1 X.2.1 dX2_start_45 (v := iI 0) rfl ?_
  refine gGoV (gRunV X hH (As := [.int (iI 0)]) (m_X2_tally l G 0 (nmI_l (by decide)) ((f_X10_start i1 i2 ((f_X5_targetAt (M 9 i2 0) M)) r21 ((f_X9_contentFound 0 ((f_X5_targetAt (M 9 i2 0) M)) r21 M)) M)) _ rfl) calX2_tally k_675 k_5 k_673 (by decide) cX2 rfl ⟨by decide, by decide⟩ rfl hl rfl (Nat.le_of_ble_eq_true rfl) ⟨Nat.le_of_ble_eq_true rfl, Nat.le_of_ble_eq_true rfl⟩ dX2_start_46) hS (fun H locs hH hS => ?_)
  have hq := Option.some.inj hf; subst hq
  exact gRetV X hH hS dX2_start_49
theorem w_X2_beginReady_L13 {G : gG} {p : Program} {l : Launch} {e : Env} {s : State} {m : MethodId} {args : Array Value} {below : List Frame} {meth : Method} {c : Code} (X : gX G p s m args meth c RX2 cX2_beginReady 4 none (gWs yX2_beginReady cX2_beginReady 4 none)) (k72 : gM → Option gM) (q : gM) (hk72 : ∀  (M : gM), k72 M = some q → ∀ (H : Heap) (locs : List Loc) (ls : Array Slot), gH G M H → va_S (gA G) s.heap H locs → gLv ls 4 [] → W p l e { frames := 4, cells := 0, slots := 0, locals := 93 } s m args below meth c H locs 0 0 (MQ below (gQv G q) args s 0 0 (gA G)) (F0 m 72 ls [])) : ∀ (n : Nat) (x1 : Int) (nx1 : nmI x1) (M : gM), f_X2_beginReady_L13 k72 n x1 M = some q → ∀ (H : Heap) (locs : List Loc) (ls : Array Slot), gH G M H → va_S (gA G) s.heap H locs → gLv ls 4 [(0, .ref (gAd G 4 0)), (1, .int (iI x1))] → W p l e { frames := 4, cells := 0, slots := 0, locals := 93 } s m args below meth c H locs 0 0 (MQ below (gQv G q) args s 0 0 (gA G)) (F0 m 13 ls []) := by
  intro n
  induction n with
  | zero =>
    intro x1 nx1 M hf
    cases hf
  | succ n ih =>
    intro x1 nx1 M hf H locs ls hH hS hl
    rw [f_X2_beginReady_L13] at hf
    refine lv_iload_n X.1 X.2.1 dX2_beginReady_13 rfl (lv_at hl.1 1 rfl) ?_
    refine lv_iconst X.1 X.2.1 dX2_beginReady_14 (v := iI 4) rfl ?_
    refine g_icmp_ge X nx1 (nmI_l (by decide)) (tgt := 72) dX2_beginReady_15 (by decide) (fun hc15 => ?_) (fun hc15 => ?_)
    · replace hf := it_f hf hc15
      exact hk72 M hf _ _ _ hH hS (gLv_sub hl [] rfl)
    · replace hf := it_t hf hc15
      refine lv_aload_n X.1 X.2.1 dX2_beginReady_18 rfl (lv_at hl.1 0 rfl) ?_
      obtain ⟨r19, hq19, hf_⟩ := ob_e hf; clear hf; have hf := hf_; clear hf_
      refine gGoQ (gRunV X hH (As := []) (m_X2_strongestIdle l G  M _ hq19) calX2_strongestIdle k_834 k_12 k_832 (by decide) cX2 rfl ⟨by decide, by decide⟩ rfl hl rfl (Nat.le_of_ble_eq_true rfl) ⟨Nat.le_of_ble_eq_true rfl, Nat.le_of_ble_eq_true rfl⟩ dX2_beginReady_19) hS (fun H locs hr19 hH hS => ?_)
      refine g_astore_nO X (lv' := [(2, va_re (gAd G 11) r19), (0, .ref (gAd G 4 0)), (1, .int (iI x1))]) dX2_beginReady_22 rfl hl (by decide) rfl (fun ls hl => ?_)
      refine g_aload_nO X (ad := gAd G 11) (x := r19) dX2_beginReady_23 rfl (lv_at hl.1 0 rfl) ?_
      obtain ⟨k35, ek35, hf_⟩ := oj_e hf; clear hf; have hf := hf_; clear hf_
      have hk35 : ∀ (x2_35 : Option Nat) (hx2_35 : ∀ a, x2_35 = some a → a < 4) (xs0_35 : Option Nat) (hxs0_35 : ∀ a, xs0_35 = some a → a < 60), k35 x2_35 xs0_35 = some q → ∀ (H : Heap) (locs : List Loc) (ls : Array Slot), gH G M H → va_S (gA G) s.heap H locs → gLv ls 4 [(0, .ref (gAd G 4 0)), (1, .int (iI x1)), (2, va_re (gAd G 11) x2_35)] → W p l e { frames := 4, cells := 0, slots := 0, locals := 93 } s m args below meth c H locs 0 0 (MQ below (gQv G q) args s 0 0 (gA G)) (F0 m 35 ls [va_re (gAd G 9) xs0_35]) := by
        intro x2_35 hx2_35 xs0_35 hxs0_35 hf H locs ls hH hS hl
        subst ek35
        refine g_astore_nO X (lv' := [(3, va_re (gAd G 9) xs0_35), (0, .ref (gAd G 4 0)), (1, .int (iI x1)), (2, va_re (gAd G 11) x2_35)]) dX2_beginReady_35 rfl hl (by decide) rfl (fun ls hl => ?_)
        refine g_aload_nO X (ad := gAd G 11) (x := x2_35) dX2_beginReady_36 rfl (lv_at hl.1 3 rfl) ?_
        refine g_ifnullO X (ad := gAd G 11) (x := x2_35) (tgt := 44) dX2_beginReady_37 (by decide) ?_ ?_
        · intro hx
          subst hx
          replace hf := om_n hf
          have hq := Option.some.inj hf; subst hq
          exact gRetV X hH hS dX2_beginReady_44
        · intro a37 hx
          subst hx
          replace hf := om_s hf
          have ha37 : a37 < 4 := hx2_35 _ rfl
          refine g_aload_nO X (ad := gAd G 9) (x := xs0_35) dX2_beginReady_40 rfl (lv_at hl.1 0 rfl) ?_
          refine g_ifnonnullO X (ad := gAd G 9) (x := xs0_35) (tgt := 45) dX2_beginReady_41 (by decide) ?_ ?_
          · intro a41 hx
            subst hx
            replace hf := om_s hf
            have ha41 : a41 < 60 := hxs0_35 _ rfl
            refine lv_aload_n X.1 X.2.1 dX2_beginReady_45 rfl (lv_at hl.1 0 rfl) ?_
            refine lv_iconst X.1 X.2.1 dX2_beginReady_46 (v := iI 2) rfl ?_
            refine g_putI X cX0 hH hS (r := 9) (i := a41) ha41 rfl 2 (by decide) k_145 rfl rfl rfl (Nat.le_of_ble_eq_true rfl) (x := 2) (nmI_l (by decide)) rfl rfl rfl dX2_beginReady_47 (fun H locs hH hS => ?_)
            refine lv_aload_n X.1 X.2.1 dX2_beginReady_50 rfl (lv_at hl.1 0 rfl) ?_
            refine lv_dup X.1 X.2.1 dX2_beginReady_51 rfl ?_
            have nd52 : nmI ((gU M 9 a41 2 2) 9 a41 6) := hH.1.1 _ _ _
            refine g_get X cX0 hH (r := 9) (i := a41) ha41 rfl 6 (by decide) k_157 rfl (v := .int (iI ((gU M 9 a41 2 2) 9 a41 6))) rfl dX2_beginReady_52 ?_
            refine lv_iconst X.1 X.2.1 dX2_beginReady_55 (v := iI 1) rfl ?_
            refine g_iadd X dX2_beginReady_56 ?_
            refine g_putI X cX0 hH hS (r := 9) (i := a41) ha41 rfl 6 (by decide) k_157 rfl rfl rfl (Nat.le_of_ble_eq_true rfl) (x := wI (((gU M 9 a41 2 2) 9 a41 6) + 1)) (nmI_w _) rfl rfl rfl dX2_beginReady_57 (fun H locs hH hS => ?_)
            refine lv_aload_n X.1 X.2.1 dX2_beginReady_60 rfl (lv_at hl.1 1 rfl) ?_
            refine lv_aload_n X.1 X.2.1 dX2_beginReady_61 rfl (lv_at hl.1 3 rfl) ?_
            refine lv_aload_n X.1 X.2.1 dX2_beginReady_62 rfl (lv_at hl.1 0 rfl) ?_
            obtain ⟨r63, hq63, hf_⟩ := ob_e hf; clear hf; have hf := hf_; clear hf_
            refine gGoV (gRunV X hH (As := [.ref (gAd G 11 a37), .ref (gAd G 9 a41)]) (m_X2_start l G a37 ha37 a41 ha41 (gU (gU M 9 a41 2 2) 9 a41 6 (wI (((gU M 9 a41 2 2) 9 a41 6) + 1))) _ hq63) calX2_start k_850 k_14 k_848 (by decide) cX2 rfl ⟨by decide, by decide⟩ rfl hl rfl (Nat.le_of_ble_eq_true rfl) ⟨Nat.le_of_ble_eq_true rfl, Nat.le_of_ble_eq_true rfl⟩ dX2_beginReady_63) hS (fun H locs hH hS => ?_)
            refine g_iinc X (a := x1) (lv' := [(1, .int (iI (wI (x1 + 1)))), (3, .ref (gAd G 9 a41)), (0, .ref (gAd G 4 0)), (2, .ref (gAd G 11 a37))]) dX2_beginReady_66 hl (k := 2) rfl (by decide) rfl (fun ls hl => ?_)
            refine lv_goto (tgt := 13) X.1 X.2.1 dX2_beginReady_69 (by decide) ?_
            exact ih (wI (x1 + 1)) (nmI_w _) r63 hf _ _ _ hH hS (gLv_sub hl [2, 0] rfl)
          · intro hx
            subst hx
            replace hf := om_n hf
            have hq := Option.some.inj hf; subst hq
            exact gRetV X hH hS dX2_beginReady_44
      clear ek35
      refine g_ifnonnullO X (ad := gAd G 11) (x := r19) (tgt := 31) dX2_beginReady_24 (by decide) ?_ ?_
      · intro a24 hx
        subst hx
        replace hf := om_s hf
        have ha24 : a24 < 4 := hr19 _ rfl
        refine lv_aload_n X.1 X.2.1 dX2_beginReady_31 rfl (lv_at hl.1 1 rfl) ?_
        obtain ⟨r32, hq32, hf_⟩ := ob_e hf; clear hf; have hf := hf_; clear hf_
        refine gGoQ (gRunV X hH (As := []) (m_X2_longestReady l G  M _ hq32) calX2_longestReady k_842 k_13 k_840 (by decide) cX2 rfl ⟨by decide, by decide⟩ rfl hl rfl (Nat.le_of_ble_eq_true rfl) ⟨Nat.le_of_ble_eq_true rfl, Nat.le_of_ble_eq_true rfl⟩ dX2_beginReady_32) hS (fun H locs hr32 hH hS => ?_)
        exact hk35 ((some a24)) (fun a h => by cases h; exact ha24) r32 hr32 hf _ _ _ hH hS (gLv_sub hl [1, 2, 0] rfl)
      · intro hx
        subst hx
        replace hf := om_n hf
        refine lv_null X.1 X.2.1 dX2_beginReady_27 ?_
        refine lv_goto (tgt := 35) X.1 X.2.1 dX2_beginReady_28 (by decide) ?_
        exact hk35 none (fun a h => nomatch h) none (fun a h => nomatch h) hf _ _ _ hH hS (gLv_sub hl [1, 2, 0] rfl)
theorem m_X2_beginReady (l : Launch) (G : gG)  (M : gM) (q : gM) (hf : f_X2_beginReady M = some q) : gMet l yX2_beginReady cX2_beginReady 4 none 4 93 G M [.ref (gAd G 4 0)] (gQv G q) := by
  refine gOfW (by decide) (by show _ ≤ 4; exact Nat.le_of_ble_eq_true rfl) rfl ?_
  intro p e s m below meth c X hH ls hl
  replace hl : gLv ls 4 [(0, .ref (gAd G 4 0))] := hl
  have hS : va_S (gA G) s.heap s.heap [] := va_S.rf
  generalize hargs : ([.ref (gAd G 4 0)] : List Value).toArray = args at X ⊢
  clear hargs
  unfold f_X2_beginReady at hf
  refine lv_aload_n X.1 X.2.1 dX2_beginReady_0 rfl (lv_at hl.1 0 rfl) ?_
  refine g_get X cX2 hH (r := 4) (i := 0) (by decide) rfl 0 (by decide) k_382 rfl (v := .ref (gAd G 2 0)) rfl dX2_beginReady_1 ?_
  refine lv_aload_n X.1 X.2.1 dX2_beginReady_4 rfl (lv_at hl.1 0 rfl) ?_
  have nd5 : nmI (M 4 0 6) := hH.1.1 _ _ _
  refine g_get X cX2 hH (r := 4) (i := 0) (by decide) rfl 6 (by decide) k_389 rfl (v := .int (iI (M 4 0 6))) rfl dX2_beginReady_5 ?_
  obtain ⟨r8, hq8, hf_⟩ := ob_e hf; clear hf; have hf := hf_; clear hf_
  refine gGoV (gRunV X hH (As := [.int (iI (M 4 0 6))]) (m_X5_findWays l G (M 4 0 6) nd5 M _ hq8) calX5_findWays k_822 k_823 k_821 (by decide) cX5 rfl ⟨by decide, by decide⟩ rfl hl rfl (Nat.le_of_ble_eq_true rfl) ⟨Nat.le_of_ble_eq_true rfl, Nat.le_of_ble_eq_true rfl⟩ dX2_beginReady_8) hS (fun H locs hH hS => ?_)
  refine lv_iconst X.1 X.2.1 dX2_beginReady_11 (v := iI 0) rfl ?_
  refine g_istore_n X (lv' := [(1, .int (iI 0)), (0, .ref (gAd G 4 0))]) dX2_beginReady_12 rfl hl (by decide) rfl (fun ls hl => ?_)
  refine w_X2_beginReady_L13 X _  q ?_ 64 0 (nmI_l (by decide)) r8 hf _ _ _ hH hS (gLv_sub hl [1, 0] rfl)
  · intro  M_13_72 hf H locs ls hH hS hl
    have hq := Option.some.inj hf; subst hq
    exact gRetV X hH hS dX2_beginReady_72
theorem w_X2_longestBusy_L13 {G : gG} {p : Program} {l : Launch} {e : Env} {s : State} {m : MethodId} {args : Array Value} {below : List Frame} {meth : Method} {c : Code} (X : gX G p s m args meth c RX2 cX2_longestBusy 6 (some (.object "BuildGrid$Worker")) (gWs yX2_longestBusy cX2_longestBusy 6 (some (.object "BuildGrid$Worker")))) (k58 : Option Nat → Option (Option Nat)) (z3 : Int) (nz3 : nmI z3) (M : gM) (q : (Option Nat)) (hk58 : ∀ (x1 : Option Nat) (hx1 : ∀ a, x1 = some a → a < 4), k58 x1 = some q → ∀ (H : Heap) (locs : List Loc) (ls : Array Slot), gH G M H → va_S (gA G) s.heap H locs → gLv ls 6 [(1, va_re (gAd G 11) x1)] → W p l e { frames := 0, cells := 0, slots := 0, locals := 0 } s m args below meth c H locs 0 0 (MQ below (gQq G 11 q M) args s 0 0 (gA G)) (F0 m 58 ls [])) : ∀ (n : Nat) (x1 : Option Nat) (hx1 : ∀ a, x1 = some a → a < 4) (x4 : Int) (nx4 : nmI x4), f_X2_longestBusy_L13 k58 z3 M n x1 x4 = some q → ∀ (H : Heap) (locs : List Loc) (ls : Array Slot), gH G M H → va_S (gA G) s.heap H locs → gLv ls 6 [(1, va_re (gAd G 11) x1), (2, .ref (gAd G 28 0)), (3, .int (iI z3)), (4, .int (iI x4))] → W p l e { frames := 0, cells := 0, slots := 0, locals := 0 } s m args below meth c H locs 0 0 (MQ below (gQq G 11 q M) args s 0 0 (gA G)) (F0 m 13 ls []) := by
  intro n
  induction n with
  | zero =>
    intro x1 hx1 x4 nx4 hf
    cases hf
  | succ n ih =>
    intro x1 hx1 x4 nx4 hf H locs ls hH hS hl
    rw [f_X2_longestBusy_L13] at hf
    refine lv_iload X.1 X.2.1 dX2_longestBusy_13 (lv_at hl.1 3 rfl) ?_
    refine lv_iload_n X.1 X.2.1 dX2_longestBusy_15 rfl (lv_at hl.1 2 rfl) ?_
    refine g_icmp_ge X nx4 nz3 (tgt := 58) dX2_longestBusy_16 (by decide) (fun hc16 => ?_) (fun hc16 => ?_)
    · replace hf := it_f hf hc16
      exact hk58 x1 hx1 hf _ _ _ hH hS (gLv_sub hl [0] rfl)
    · replace hf := it_t hf hc16
      refine lv_aload_n X.1 X.2.1 dX2_longestBusy_19 rfl (lv_at hl.1 1 rfl) ?_
      refine lv_iload X.1 X.2.1 dX2_longestBusy_20 (lv_at hl.1 3 rfl) ?_
      obtain ⟨hg, hf_⟩ := og_e hf; clear hf; have hf := hf_; clear hf_
      refine g_aald X hH (r := 28) (i := 0) (by decide) rfl (t0 := 5) rfl nx4 hg (v := gAd G 11 x4.toNat) rfl dX2_longestBusy_22 ?_
      refine g_astore X (lv' := [(5, .ref (gAd G 11 x4.toNat)), (1, va_re (gAd G 11) x1), (2, .ref (gAd G 28 0)), (3, .int (iI z3)), (4, .int (iI x4))]) dX2_longestBusy_23 hl (by decide) rfl (fun ls hl => ?_)
      refine lv_aload X.1 X.2.1 dX2_longestBusy_25 (lv_at hl.1 0 rfl) ?_
      refine g_get X cX10 hH (r := 11) (i := x4.toNat) (by show _ < 4; omega) rfl 3 (by decide) k_355 rfl (v := va_re (gAd G 9) (gAct (M 11 x4.toNat 3))) rfl dX2_longestBusy_27 ?_
      obtain ⟨o27, eo27, hf_⟩ := oj_e hf; clear hf; have hf := hf_; clear hf_
      have ho27 : ∀ a, o27 = some a → a < 60 := by intro a h; rw [eo27] at h; exact gAct_lt (hH.1.2.2 _) h
      rw [← eo27]
      obtain ⟨k52, ek52, hf_⟩ := oj_e hf; clear hf; have hf := hf_; clear hf_
      have hk52 : ∀ (x1_52 : Option Nat) (hx1_52 : ∀ a, x1_52 = some a → a < 4), k52 x1_52 = some q → ∀ (H : Heap) (locs : List Loc) (ls : Array Slot), gH G M H → va_S (gA G) s.heap H locs → gLv ls 6 [(1, va_re (gAd G 11) x1_52), (2, .ref (gAd G 28 0)), (3, .int (iI z3)), (4, .int (iI x4))] → W p l e { frames := 0, cells := 0, slots := 0, locals := 0 } s m args below meth c H locs 0 0 (MQ below (gQq G 11 q M) args s 0 0 (gA G)) (F0 m 52 ls []) := by
        intro x1_52 hx1_52 hf H locs ls hH hS hl
        subst ek52
        refine g_iinc X (a := x4) (lv' := [(4, .int (iI (wI (x4 + 1)))), (1, va_re (gAd G 11) x1_52), (2, .ref (gAd G 28 0)), (3, .int (iI z3))]) dX2_longestBusy_52 hl (k := 3) rfl (by decide) rfl (fun ls hl => ?_)
        refine lv_goto (tgt := 13) X.1 X.2.1 dX2_longestBusy_55 (by decide) ?_
        exact ih x1_52 hx1_52 (wI (x4 + 1)) (nmI_w _) hf _ _ _ hH hS (gLv_sub hl [1, 2, 3, 0] rfl)
      clear ek52
      refine g_ifnullO X (ad := gAd G 9) (x := o27) (tgt := 52) dX2_longestBusy_30 (by decide) ?_ ?_
      · intro hx
        subst hx
        replace hf := om_n hf
        exact hk52 x1 hx1 hf _ _ _ hH hS (gLv_sub hl [1, 2, 3, 4] rfl)
      · intro a30 hx
        subst hx
        replace hf := om_s hf
        have ha30 : a30 < 60 := ho27 _ rfl
        refine g_aload_nO X (ad := gAd G 11) (x := x1) dX2_longestBusy_33 rfl (lv_at hl.1 1 rfl) ?_
        obtain ⟨k49, ek49, hf_⟩ := oj_e hf; clear hf; have hf := hf_; clear hf_
        have hk49 : k49 = some q → ∀ (H : Heap) (locs : List Loc) (ls : Array Slot), gH G M H → va_S (gA G) s.heap H locs → gLv ls 6 [(2, .ref (gAd G 28 0)), (3, .int (iI z3)), (4, .int (iI x4)), (5, .ref (gAd G 11 x4.toNat))] → W p l e { frames := 0, cells := 0, slots := 0, locals := 0 } s m args below meth c H locs 0 0 (MQ below (gQq G 11 q M) args s 0 0 (gA G)) (F0 m 49 ls []) := by
          intro  hf H locs ls hH hS hl
          subst ek49
          refine lv_aload X.1 X.2.1 dX2_longestBusy_49 (lv_at hl.1 3 rfl) ?_
          refine g_astore_n X (lv' := [(1, .ref (gAd G 11 x4.toNat)), (2, .ref (gAd G 28 0)), (3, .int (iI z3)), (4, .int (iI x4)), (5, .ref (gAd G 11 x4.toNat))]) dX2_longestBusy_51 rfl hl (by decide) rfl (fun ls hl => ?_)
          exact hk52 ((some x4.toNat)) (fun a h => by cases h; exact (by show _ < 4; omega)) hf _ _ _ hH hS (gLv_sub hl [0, 1, 2, 3] rfl)
        clear ek49
        refine g_ifnullO X (ad := gAd G 11) (x := x1) (tgt := 49) dX2_longestBusy_34 (by decide) ?_ ?_
        · intro hx
          subst hx
          replace hf := om_n hf
          exact hk49  hf _ _ _ hH hS (gLv_sub hl [2, 3, 4, 0] rfl)
        · intro a34 hx
          subst hx
          replace hf := om_s hf
          have ha34 : a34 < 4 := hx1 _ rfl
          refine lv_aload X.1 X.2.1 dX2_longestBusy_37 (lv_at hl.1 0 rfl) ?_
          have nd39 : nmI (M 11 x4.toNat 6) := hH.1.1 _ _ _
          refine g_get X cX10 hH (r := 11) (i := x4.toNat) (by show _ < 4; omega) rfl 6 (by decide) k_361 rfl (v := .int (iI (M 11 x4.toNat 6))) rfl dX2_longestBusy_39 ?_
          refine lv_aload_n X.1 X.2.1 dX2_longestBusy_42 rfl (lv_at hl.1 1 rfl) ?_
          have nd43 : nmI (M 11 a34 6) := hH.1.1 _ _ _
          refine g_get X cX10 hH (r := 11) (i := a34) ha34 rfl 6 (by decide) k_361 rfl (v := .int (iI (M 11 a34 6))) rfl dX2_longestBusy_43 ?_
          refine g_icmp_le X nd39 nd43 (tgt := 52) dX2_longestBusy_46 (by decide) (fun hc46 => ?_) (fun hc46 => ?_)
          · replace hf := it_f hf hc46
            exact hk52 ((some a34)) (fun a h => by cases h; exact ha34) hf _ _ _ hH hS (gLv_sub hl [1, 2, 3, 4] rfl)
          · replace hf := it_t hf hc46
            exact hk49  hf _ _ _ hH hS (gLv_sub hl [2, 3, 4, 0] rfl)
theorem m_X2_longestBusy (l : Launch) (G : gG)  (M : gM) (q : (Option Nat)) (hf : f_X2_longestBusy M = some q) : gMet l yX2_longestBusy cX2_longestBusy 6 (some (.object "BuildGrid$Worker")) 0 0 G M [.ref (gAd G 4 0)] (gQq G 11 q M) := by
  refine gOfW (by decide) (by show _ ≤ 6; exact Nat.le_of_ble_eq_true rfl) rfl ?_
  intro p e s m below meth c X hH ls hl
  replace hl : gLv ls 6 [(0, .ref (gAd G 4 0))] := hl
  have hS : va_S (gA G) s.heap s.heap [] := va_S.rf
  generalize hargs : ([.ref (gAd G 4 0)] : List Value).toArray = args at X ⊢
  clear hargs
  unfold f_X2_longestBusy at hf
  refine lv_null X.1 X.2.1 dX2_longestBusy_0 ?_
  refine g_astore_nO X (ad := gAd G 0) (x := none) (lv' := [(1, .null), (0, .ref (gAd G 4 0))]) dX2_longestBusy_1 rfl hl (by decide) rfl (fun ls hl => ?_)
  refine lv_aload_n X.1 X.2.1 dX2_longestBusy_2 rfl (lv_at hl.1 1 rfl) ?_
  refine g_get X cX2 hH (r := 4) (i := 0) (by decide) rfl 4 (by decide) k_386 rfl (v := .ref (gAd G 28 0)) rfl dX2_longestBusy_3 ?_
  refine g_astore_n X (lv' := [(2, .ref (gAd G 28 0)), (1, .null), (0, .ref (gAd G 4 0))]) dX2_longestBusy_6 rfl hl (by decide) rfl (fun ls hl => ?_)
  refine lv_aload_n X.1 X.2.1 dX2_longestBusy_7 rfl (lv_at hl.1 0 rfl) ?_
  refine g_alen X hH (r := 28) (i := 0) (by decide) rfl (t0 := 5) rfl (n := 4) rfl dX2_longestBusy_8 ?_
  refine g_istore_n X (lv' := [(3, .int (iI 4)), (2, .ref (gAd G 28 0)), (1, .null), (0, .ref (gAd G 4 0))]) dX2_longestBusy_9 rfl hl (by decide) rfl (fun ls hl => ?_)
  refine lv_iconst X.1 X.2.1 dX2_longestBusy_10 (v := iI 0) rfl ?_
  refine g_istore X (lv' := [(4, .int (iI 0)), (3, .int (iI 4)), (2, .ref (gAd G 28 0)), (1, .null), (0, .ref (gAd G 4 0))]) dX2_longestBusy_11 hl (by decide) rfl (fun ls hl => ?_)
  refine w_X2_longestBusy_L13 X _ 4 (nmI_l (by decide)) M q ?_ 64 none (fun a h => nomatch h) 0 (nmI_l (by decide)) hf _ _ _ hH hS (gLv_sub hl [3, 2, 1, 0] rfl)
  · intro y1_13_58 hy1_13_58 hf H locs ls hH hS hl
    refine g_aload_nO X (ad := gAd G 11) (x := y1_13_58) dX2_longestBusy_58 rfl (lv_at hl.1 0 rfl) ?_
    have hq := Option.some.inj hf; subst hq
    exact gRetQ X hH hS (reg := 11) (o := y1_13_58) hy1_13_58 dX2_longestBusy_59
theorem m_X2_speculate (l : Launch) (G : gG)  (M : gM) (q : gM) (hf : f_X2_speculate M = some q) : gMet l yX2_speculate cX2_speculate 2 none 4 93 G M [.ref (gAd G 4 0)] (gQv G q) := by
  refine gOfW (by decide) (by show _ ≤ 2; exact Nat.le_of_ble_eq_true rfl) rfl ?_
  intro p e s m below meth c X hH ls hl
  replace hl : gLv ls 2 [(0, .ref (gAd G 4 0))] := hl
  have hS : va_S (gA G) s.heap s.heap [] := va_S.rf
  generalize hargs : ([.ref (gAd G 4 0)] : List Value).toArray = args at X ⊢
  clear hargs
  unfold f_X2_speculate at hf
  refine lv_aload_n X.1 X.2.1 dX2_speculate_0 rfl (lv_at hl.1 0 rfl) ?_
  obtain ⟨r1, hq1, hf_⟩ := ob_e hf; clear hf; have hf := hf_; clear hf_
  refine gGoQ (gRunV X hH (As := []) (m_X2_longestBusy l G  M _ hq1) calX2_longestBusy k_871 k_17 k_869 (by decide) cX2 rfl ⟨by decide, by decide⟩ rfl hl rfl (Nat.le_of_ble_eq_true rfl) ⟨Nat.le_of_ble_eq_true rfl, Nat.le_of_ble_eq_true rfl⟩ dX2_speculate_1) hS (fun H locs hr1 hH hS => ?_)
  refine g_astore_nO X (lv' := [(1, va_re (gAd G 11) r1), (0, .ref (gAd G 4 0))]) dX2_speculate_4 rfl hl (by decide) rfl (fun ls hl => ?_)
  refine lv_aload_n X.1 X.2.1 dX2_speculate_5 rfl (lv_at hl.1 1 rfl) ?_
  refine g_get X cX2 hH (r := 4) (i := 0) (by decide) rfl 3 (by decide) k_385 rfl (v := .ref (gAd G 11 0)) rfl dX2_speculate_6 ?_
  refine gGoZ (gRunV X hH (As := []) (m_X10_isIdle l G 0 (by decide) M _ rfl) calX10_isIdle k_837 k_838 k_836 (by decide) cX10 rfl ⟨by decide, by decide⟩ rfl hl rfl (Nat.le_of_ble_eq_true rfl) ⟨Nat.le_of_ble_eq_true rfl, Nat.le_of_ble_eq_true rfl⟩ dX2_speculate_9) hS (fun H locs br9 hH hS => ?_)
  refine g_if_eq X (nmI_b br9) (tgt := 38) dX2_speculate_12 (by decide) (fun hc12 => ?_) (fun hc12 => ?_)
  · replace hf := it_t hf hc12
    have hq := Option.some.inj hf; subst hq
    exact gRetV X hH hS dX2_speculate_38
  · replace hf := it_f hf hc12
    refine g_aload_nO X (ad := gAd G 11) (x := r1) dX2_speculate_15 rfl (lv_at hl.1 0 rfl) ?_
    refine g_ifnullO X (ad := gAd G 11) (x := r1) (tgt := 38) dX2_speculate_16 (by decide) ?_ ?_
    · intro hx
      subst hx
      replace hf := om_n hf
      have hq := Option.some.inj hf; subst hq
      exact gRetV X hH hS dX2_speculate_38
    · intro a16 hx
      subst hx
      replace hf := om_s hf
      have ha16 : a16 < 4 := hr1 _ rfl
      refine lv_aload_n X.1 X.2.1 dX2_speculate_19 rfl (lv_at hl.1 0 rfl) ?_
      refine g_get X cX10 hH (r := 11) (i := a16) ha16 rfl 3 (by decide) k_355 rfl (v := va_re (gAd G 9) (gAct (M 11 a16 3))) rfl dX2_speculate_20 ?_
      obtain ⟨o20, eo20, hf_⟩ := oj_e hf; clear hf; have hf := hf_; clear hf_
      have ho20 : ∀ a, o20 = some a → a < 60 := by intro a h; rw [eo20] at h; exact gAct_lt (hH.1.2.2 _) h
      rw [← eo20]
      refine g_ifnullO X (ad := gAd G 9) (x := o20) (tgt := 38) dX2_speculate_23 (by decide) ?_ ?_
      · intro hx
        subst hx
        replace hf := om_n hf
        have hq := Option.some.inj hf; subst hq
        exact gRetV X hH hS dX2_speculate_38
      · intro a23 hx
        subst hx
        replace hf := om_s hf
        have ha23 : a23 < 60 := ho20 _ rfl
        refine lv_aload_n X.1 X.2.1 dX2_speculate_26 rfl (lv_at hl.1 1 rfl) ?_
        refine lv_aload_n X.1 X.2.1 dX2_speculate_27 rfl (lv_at hl.1 1 rfl) ?_
        refine g_get X cX2 hH (r := 4) (i := 0) (by decide) rfl 3 (by decide) k_385 rfl (v := .ref (gAd G 11 0)) rfl dX2_speculate_28 ?_
        refine lv_aload_n X.1 X.2.1 dX2_speculate_31 rfl (lv_at hl.1 0 rfl) ?_
        refine g_get X cX10 hH (r := 11) (i := a16) ha16 rfl 3 (by decide) k_355 rfl (v := va_re (gAd G 9) (gAct (M 11 a16 3))) rfl dX2_speculate_32 ?_
        obtain ⟨o32, eo32, hf_⟩ := oj_e hf; clear hf; have hf := hf_; clear hf_
        have ho32 : ∀ a, o32 = some a → a < 60 := by intro a h; rw [eo32] at h; exact gAct_lt (hH.1.2.2 _) h
        rw [← eo32]
        obtain ⟨a35_1, hx, hf_⟩ := ob_e hf; clear hf; have hf := hf_; clear hf_
        subst hx
        have ha35_1 : a35_1 < 60 := ho32 _ rfl
        obtain ⟨r35, hq35, hf_⟩ := ob_e hf; clear hf; have hf := hf_; clear hf_
        refine gGoV (gRunV X hH (As := [.ref (gAd G 11 0), .ref (gAd G 9 a35_1)]) (m_X2_start l G 0 (by decide) a35_1 ha35_1 M _ hq35) calX2_start k_850 k_14 k_848 (by decide) cX2 rfl ⟨by decide, by decide⟩ rfl hl rfl (Nat.le_of_ble_eq_true rfl) ⟨Nat.le_of_ble_eq_true rfl, Nat.le_of_ble_eq_true rfl⟩ dX2_speculate_35) hS (fun H locs hH hS => ?_)
        have hq := Option.some.inj hf; subst hq
        exact gRetV X hH hS dX2_speculate_38
theorem m_X10_spendTick (l : Launch) (G : gG) (i0 : Nat) (hi0 : i0 < 4) (M : gM) (q : gM) (hf : f_X10_spendTick i0 M = q) : gMet l yX10_spendTick cX10_spendTick 1 none 0 0 G M [.ref (gAd G 11 i0)] (gQv G q) := by
  refine gOfW (by decide) (by show _ ≤ 1; exact Nat.le_of_ble_eq_true rfl) rfl ?_
  intro p e s m below meth c X hH ls hl
  replace hl : gLv ls 1 [(0, .ref (gAd G 11 i0))] := hl
  have hS : va_S (gA G) s.heap s.heap [] := va_S.rf
  generalize hargs : ([.ref (gAd G 11 i0)] : List Value).toArray = args at X ⊢
  clear hargs
  unfold f_X10_spendTick at hf
  refine lv_aload_n X.1 X.2.1 dX10_spendTick_0 rfl (lv_at hl.1 0 rfl) ?_
  refine g_get X cX10 hH (r := 11) (i := i0) hi0 rfl 3 (by decide) k_354 rfl (v := va_re (gAd G 9) (gAct (M 11 i0 3))) rfl dX10_spendTick_1 ?_
  obtain ⟨o1, eo1, hf_⟩ := oj_e hf; clear hf; have hf := hf_; clear hf_
  have ho1 : ∀ a, o1 = some a → a < 60 := by intro a h; rw [eo1] at h; exact gAct_lt (hH.1.2.2 _) h
  rw [← eo1]
  refine g_ifnullO X (ad := gAd G 9) (x := o1) (tgt := 17) dX10_spendTick_4 (by decide) ?_ ?_
  · intro hx
    subst hx
    replace hf := om_n hf
    subst hf
    exact gRetV X hH hS dX10_spendTick_17
  · intro a4 hx
    subst hx
    replace hf := om_s hf
    have ha4 : a4 < 60 := ho1 _ rfl
    refine lv_aload_n X.1 X.2.1 dX10_spendTick_7 rfl (lv_at hl.1 0 rfl) ?_
    refine lv_dup X.1 X.2.1 dX10_spendTick_8 rfl ?_
    have nd9 : nmI (M 11 i0 6) := hH.1.1 _ _ _
    refine g_get X cX10 hH (r := 11) (i := i0) hi0 rfl 6 (by decide) k_360 rfl (v := .int (iI (M 11 i0 6))) rfl dX10_spendTick_9 ?_
    refine lv_iconst X.1 X.2.1 dX10_spendTick_12 (v := iI 1) rfl ?_
    refine g_isub X dX10_spendTick_13 ?_
    refine g_putI X cX10 hH hS (r := 11) (i := i0) hi0 rfl 6 (by decide) k_360 rfl rfl rfl (Nat.le_of_ble_eq_true rfl) (x := wI ((M 11 i0 6) - 1)) (nmI_w _) rfl rfl rfl dX10_spendTick_14 (fun H locs hH hS => ?_)
    subst hf
    exact gRetV X hH hS dX10_spendTick_17
theorem m_X10_hasEnded (l : Launch) (G : gG) (i0 : Nat) (hi0 : i0 < 4) (M : gM) (q : (Int)) (hf : f_X10_hasEnded i0 M = q) : gMet l yX10_hasEnded cX10_hasEnded 1 (some .boolean) 0 0 G M [.ref (gAd G 11 i0)] (gQz G q M) := by
  refine gOfW (by decide) (by show _ ≤ 1; exact Nat.le_of_ble_eq_true rfl) rfl ?_
  intro p e s m below meth c X hH ls hl
  replace hl : gLv ls 1 [(0, .ref (gAd G 11 i0))] := hl
  have hS : va_S (gA G) s.heap s.heap [] := va_S.rf
  generalize hargs : ([.ref (gAd G 11 i0)] : List Value).toArray = args at X ⊢
  clear hargs
  unfold f_X10_hasEnded at hf
  refine lv_aload_n X.1 X.2.1 dX10_hasEnded_0 rfl (lv_at hl.1 0 rfl) ?_
  refine g_get X cX10 hH (r := 11) (i := i0) hi0 rfl 3 (by decide) k_354 rfl (v := va_re (gAd G 9) (gAct (M 11 i0 3))) rfl dX10_hasEnded_1 ?_
  obtain ⟨o1, eo1, hf_⟩ := oj_e hf; clear hf; have hf := hf_; clear hf_
  have ho1 : ∀ a, o1 = some a → a < 60 := by intro a h; rw [eo1] at h; exact gAct_lt (hH.1.2.2 _) h
  rw [← eo1]
  refine g_ifnullO X (ad := gAd G 9) (x := o1) (tgt := 18) dX10_hasEnded_4 (by decide) ?_ ?_
  · intro hx
    subst hx
    replace hf := om_n hf
    refine lv_iconst X.1 X.2.1 dX10_hasEnded_18 (v := iI 0) rfl ?_
    subst hf
    exact gRetZ X hH hS (res := 0) (by decide) dX10_hasEnded_19
  · intro a4 hx
    subst hx
    replace hf := om_s hf
    have ha4 : a4 < 60 := ho1 _ rfl
    refine lv_aload_n X.1 X.2.1 dX10_hasEnded_7 rfl (lv_at hl.1 0 rfl) ?_
    have nd8 : nmI (M 11 i0 6) := hH.1.1 _ _ _
    refine g_get X cX10 hH (r := 11) (i := i0) hi0 rfl 6 (by decide) k_360 rfl (v := .int (iI (M 11 i0 6))) rfl dX10_hasEnded_8 ?_
    refine g_if_gt X nd8 (tgt := 18) dX10_hasEnded_11 (by decide) (fun hc11 => ?_) (fun hc11 => ?_)
    · replace hf := it_t hf hc11
      refine lv_iconst X.1 X.2.1 dX10_hasEnded_18 (v := iI 0) rfl ?_
      subst hf
      exact gRetZ X hH hS (res := 0) (by decide) dX10_hasEnded_19
    · replace hf := it_f hf hc11
      refine lv_iconst X.1 X.2.1 dX10_hasEnded_14 (v := iI 1) rfl ?_
      refine lv_goto (tgt := 19) X.1 X.2.1 dX10_hasEnded_15 (by decide) ?_
      subst hf
      exact gRetZ X hH hS (res := 1) (by decide) dX10_hasEnded_19
theorem w_X2_dismissFrom_L11 {G : gG} {p : Program} {l : Launch} {e : Env} {s : State} {m : MethodId} {args : Array Value} {below : List Frame} {meth : Method} {c : Code} (X : gX G p s m args meth c RX2 cX2_dismissFrom 6 none (gWs yX2_dismissFrom cX2_dismissFrom 6 none)) (k44 : gM → Option gM) (z1 : Nat) (hz1 : z1 < 60) (z3 : Int) (nz3 : nmI z3) (q : gM) (hk44 : ∀  (M : gM), k44 M = some q → ∀ (H : Heap) (locs : List Loc) (ls : Array Slot), gH G M H → va_S (gA G) s.heap H locs → gLv ls 6 [] → W p l e { frames := 1, cells := 0, slots := 0, locals := 21 } s m args below meth c H locs 0 0 (MQ below (gQv G q) args s 0 0 (gA G)) (F0 m 44 ls [])) : ∀ (n : Nat) (x4 : Int) (nx4 : nmI x4) (M : gM), f_X2_dismissFrom_L11 k44 z1 z3 n x4 M = some q → ∀ (H : Heap) (locs : List Loc) (ls : Array Slot), gH G M H → va_S (gA G) s.heap H locs → gLv ls 6 [(1, .ref (gAd G 9 z1)), (2, .ref (gAd G 28 0)), (3, .int (iI z3)), (4, .int (iI x4))] → W p l e { frames := 1, cells := 0, slots := 0, locals := 21 } s m args below meth c H locs 0 0 (MQ below (gQv G q) args s 0 0 (gA G)) (F0 m 11 ls []) := by
  intro n
  induction n with
  | zero =>
    intro x4 nx4 M hf
    cases hf
  | succ n ih =>
    intro x4 nx4 M hf H locs ls hH hS hl
    rw [f_X2_dismissFrom_L11] at hf
    refine lv_iload X.1 X.2.1 dX2_dismissFrom_11 (lv_at hl.1 3 rfl) ?_
    refine lv_iload_n X.1 X.2.1 dX2_dismissFrom_13 rfl (lv_at hl.1 2 rfl) ?_
    refine g_icmp_ge X nx4 nz3 (tgt := 44) dX2_dismissFrom_14 (by decide) (fun hc14 => ?_) (fun hc14 => ?_)
    · replace hf := it_f hf hc14
      exact hk44 M hf _ _ _ hH hS (gLv_sub hl [] rfl)
    · replace hf := it_t hf hc14
      refine lv_aload_n X.1 X.2.1 dX2_dismissFrom_17 rfl (lv_at hl.1 1 rfl) ?_
      refine lv_iload X.1 X.2.1 dX2_dismissFrom_18 (lv_at hl.1 3 rfl) ?_
      obtain ⟨hg, hf_⟩ := og_e hf; clear hf; have hf := hf_; clear hf_
      refine g_aald X hH (r := 28) (i := 0) (by decide) rfl (t0 := 5) rfl nx4 hg (v := gAd G 11 x4.toNat) rfl dX2_dismissFrom_20 ?_
      refine g_astore X (lv' := [(5, .ref (gAd G 11 x4.toNat)), (1, .ref (gAd G 9 z1)), (2, .ref (gAd G 28 0)), (3, .int (iI z3)), (4, .int (iI x4))]) dX2_dismissFrom_21 hl (by decide) rfl (fun ls hl => ?_)
      refine lv_aload X.1 X.2.1 dX2_dismissFrom_23 (lv_at hl.1 0 rfl) ?_
      refine g_get X cX10 hH (r := 11) (i := x4.toNat) (by show _ < 4; omega) rfl 3 (by decide) k_355 rfl (v := va_re (gAd G 9) (gAct (M 11 x4.toNat 3))) rfl dX2_dismissFrom_25 ?_
      obtain ⟨o25, eo25, hf_⟩ := oj_e hf; clear hf; have hf := hf_; clear hf_
      have ho25 : ∀ a, o25 = some a → a < 60 := by intro a h; rw [eo25] at h; exact gAct_lt (hH.1.2.2 _) h
      rw [← eo25]
      refine lv_aload_n X.1 X.2.1 dX2_dismissFrom_28 rfl (lv_at hl.1 1 rfl) ?_
      obtain ⟨k38, ek38, hf_⟩ := oj_e hf; clear hf; have hf := hf_; clear hf_
      have hk38 : ∀  (M_38 : gM), k38 M_38 = some q → ∀ (H : Heap) (locs : List Loc) (ls : Array Slot), gH G M_38 H → va_S (gA G) s.heap H locs → gLv ls 6 [(1, .ref (gAd G 9 z1)), (2, .ref (gAd G 28 0)), (3, .int (iI z3)), (4, .int (iI x4))] → W p l e { frames := 1, cells := 0, slots := 0, locals := 21 } s m args below meth c H locs 0 0 (MQ below (gQv G q) args s 0 0 (gA G)) (F0 m 38 ls []) := by
        intro  M_38 hf H locs ls hH hS hl
        subst ek38
        refine g_iinc X (a := x4) (lv' := [(4, .int (iI (wI (x4 + 1)))), (1, .ref (gAd G 9 z1)), (2, .ref (gAd G 28 0)), (3, .int (iI z3))]) dX2_dismissFrom_38 hl (k := 3) rfl (by decide) rfl (fun ls hl => ?_)
        refine lv_goto (tgt := 11) X.1 X.2.1 dX2_dismissFrom_41 (by decide) ?_
        exact ih (wI (x4 + 1)) (nmI_w _) M_38 hf _ _ _ hH hS (gLv_sub hl [1, 2, 3, 0] rfl)
      clear ek38
      refine g_acmp_ne X (ad := gAd G 9) (x := o25) (y := (some z1)) (tgt := 38) (fun a b h1 h2 h => (gAd_inj (G := G) (r := 9) (r' := 9) (ho25 a h1) ((fun a h => by cases h; exact hz1) b h2) h).2) dX2_dismissFrom_29 (by decide) (fun hc29 => ?_) (fun hc29 => ?_)
      · replace hf := it_f hf hc29
        exact hk38 M hf _ _ _ hH hS (gLv_sub hl [1, 2, 3, 4] rfl)
      · replace hf := it_t hf hc29
        refine lv_aload X.1 X.2.1 dX2_dismissFrom_32 (lv_at hl.1 0 rfl) ?_
        refine lv_iconst X.1 X.2.1 dX2_dismissFrom_34 (v := iI (-1)) rfl ?_
        refine gGoV (gRunV X hH (As := [.int (iI ((-1)))]) (m_X10_rest l G x4.toNat (by show _ < 4; omega) ((-1)) (nmI_l (by decide)) M _ rfl) calX10_rest k_666 k_667 k_665 (by show _ < 4; omega) cX10 rfl ⟨by decide, by decide⟩ rfl hl rfl (Nat.le_of_ble_eq_true rfl) ⟨Nat.le_of_ble_eq_true rfl, Nat.le_of_ble_eq_true rfl⟩ dX2_dismissFrom_35) hS (fun H locs hH hS => ?_)
        exact hk38 ((f_X10_rest x4.toNat ((-1)) M)) hf _ _ _ hH hS (gLv_sub hl [1, 2, 3, 4] rfl)
theorem m_X2_dismissFrom (l : Launch) (G : gG) (i1 : Nat) (hi1 : i1 < 60) (M : gM) (q : gM) (hf : f_X2_dismissFrom i1 M = some q) : gMet l yX2_dismissFrom cX2_dismissFrom 6 none 1 21 G M [.ref (gAd G 4 0), .ref (gAd G 9 i1)] (gQv G q) := by
  refine gOfW (by decide) (by show _ ≤ 6; exact Nat.le_of_ble_eq_true rfl) rfl ?_
  intro p e s m below meth c X hH ls hl
  replace hl : gLv ls 6 [(0, .ref (gAd G 4 0)), (1, .ref (gAd G 9 i1))] := hl
  have hS : va_S (gA G) s.heap s.heap [] := va_S.rf
  generalize hargs : ([.ref (gAd G 4 0), .ref (gAd G 9 i1)] : List Value).toArray = args at X ⊢
  clear hargs
  unfold f_X2_dismissFrom at hf
  refine lv_aload_n X.1 X.2.1 dX2_dismissFrom_0 rfl (lv_at hl.1 0 rfl) ?_
  refine g_get X cX2 hH (r := 4) (i := 0) (by decide) rfl 4 (by decide) k_386 rfl (v := .ref (gAd G 28 0)) rfl dX2_dismissFrom_1 ?_
  refine g_astore_n X (lv' := [(2, .ref (gAd G 28 0)), (0, .ref (gAd G 4 0)), (1, .ref (gAd G 9 i1))]) dX2_dismissFrom_4 rfl hl (by decide) rfl (fun ls hl => ?_)
  refine lv_aload_n X.1 X.2.1 dX2_dismissFrom_5 rfl (lv_at hl.1 0 rfl) ?_
  refine g_alen X hH (r := 28) (i := 0) (by decide) rfl (t0 := 5) rfl (n := 4) rfl dX2_dismissFrom_6 ?_
  refine g_istore_n X (lv' := [(3, .int (iI 4)), (2, .ref (gAd G 28 0)), (0, .ref (gAd G 4 0)), (1, .ref (gAd G 9 i1))]) dX2_dismissFrom_7 rfl hl (by decide) rfl (fun ls hl => ?_)
  refine lv_iconst X.1 X.2.1 dX2_dismissFrom_8 (v := iI 0) rfl ?_
  refine g_istore X (lv' := [(4, .int (iI 0)), (3, .int (iI 4)), (2, .ref (gAd G 28 0)), (0, .ref (gAd G 4 0)), (1, .ref (gAd G 9 i1))]) dX2_dismissFrom_9 hl (by decide) rfl (fun ls hl => ?_)
  refine w_X2_dismissFrom_L11 X _ i1 hi1 4 (nmI_l (by decide)) q ?_ 64 0 (nmI_l (by decide)) M hf _ _ _ hH hS (gLv_sub hl [4, 2, 1, 0] rfl)
  · intro  M_11_44 hf H locs ls hH hS hl
    have hq := Option.some.inj hf; subst hq
    exact gRetV X hH hS dX2_dismissFrom_44
