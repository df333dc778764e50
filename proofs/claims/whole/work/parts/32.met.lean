theorem w_X5_withNeeded_L9 {G : gG} {p : Program} {l : Launch} {e : Env} {s : State} {m : MethodId} {args : Array Value} {below : List Frame} {meth : Method} {c : Code} (X : gX G p s m args meth c RX5 cX5_withNeeded 4 (some .int) (gWs yX5_withNeeded cX5_withNeeded 4 (some .int))) (k40 : Int → Option (Int)) (M : gM) (q : (Int)) (hk40 : ∀ (x2 : Int) (nx2 : nmI x2), k40 x2 = some q → ∀ (H : Heap) (locs : List Loc) (ls : Array Slot), gH G M H → va_S (gA G) s.heap H locs → gLv ls 4 [(2, .int (iI x2))] → W p l e { frames := 3, cells := 0, slots := 0, locals := 68 } s m args below meth c H locs 0 0 (MQ below (gQi G q M) args s 0 0 (gA G)) (F0 m 40 ls [])) : ∀ (n : Nat) (x2 : Int) (nx2 : nmI x2) (x3 : Int) (nx3 : nmI x3), f_X5_withNeeded_L9 k40 M n x2 x3 = some q → ∀ (H : Heap) (locs : List Loc) (ls : Array Slot), gH G M H → va_S (gA G) s.heap H locs → gLv ls 4 [(0, .ref (gAd G 2 0)), (2, .int (iI x2)), (3, .int (iI x3))] → W p l e { frames := 3, cells := 0, slots := 0, locals := 68 } s m args below meth c H locs 0 0 (MQ below (gQi G q M) args s 0 0 (gA G)) (F0 m 9 ls []) := by
  intro n
  induction n with
  | zero =>
    intro x2 nx2 x3 nx3 hf
    cases hf
  | succ n ih =>
    intro x2 nx2 x3 nx3 hf H locs ls hH hS hl
    rw [f_X5_withNeeded_L9] at hf
    refine lv_iload_n X.1 X.2.1 dX5_withNeeded_9 rfl (lv_at hl.1 2 rfl) ?_
    refine g_if_lt X nx3 (tgt := 40) dX5_withNeeded_10 (by decide) (fun hc10 => ?_) (fun hc10 => ?_)
    · replace hf := it_t hf hc10
      exact hk40 x2 nx2 hf _ _ _ hH hS (gLv_sub hl [1] rfl)
    · replace hf := it_f hf hc10
      refine lv_iload_n X.1 X.2.1 dX5_withNeeded_13 rfl (lv_at hl.1 1 rfl) ?_
      refine lv_iload_n X.1 X.2.1 dX5_withNeeded_14 rfl (lv_at hl.1 2 rfl) ?_
      refine gGoI (gRunSN X hH (As := [.int (iI x2), .int (iI x3)]) (m_X11_bitOf l G x2 nx2 x3 nx3 M _ rfl) calX11_bitOf k_695 k_273 ⟨by decide, by decide⟩ rfl hl rfl (Nat.le_of_ble_eq_true rfl) ⟨Nat.le_refl 0, Nat.le_refl 0⟩ dX5_withNeeded_15) hS (fun H locs nr15 hH hS => ?_)
      refine lv_iconst X.1 X.2.1 dX5_withNeeded_18 (v := iI 1) rfl ?_
      obtain ⟨k34, ek34, hf_⟩ := oj_e hf; clear hf; have hf := hf_; clear hf_
      have hk34 : ∀ (x2_34 : Int) (nx2_34 : nmI x2_34), k34 x2_34 = some q → ∀ (H : Heap) (locs : List Loc) (ls : Array Slot), gH G M H → va_S (gA G) s.heap H locs → gLv ls 4 [(0, .ref (gAd G 2 0)), (2, .int (iI x2_34)), (3, .int (iI x3))] → W p l e { frames := 3, cells := 0, slots := 0, locals := 68 } s m args below meth c H locs 0 0 (MQ below (gQi G q M) args s 0 0 (gA G)) (F0 m 34 ls []) := by
        intro x2_34 nx2_34 hf H locs ls hH hS hl
        subst ek34
        refine g_iinc X (a := x3) (lv' := [(3, .int (iI (wI (x3 + (-1))))), (0, .ref (gAd G 2 0)), (2, .int (iI x2_34))]) dX5_withNeeded_34 hl (k := 2) rfl (by decide) rfl (fun ls hl => ?_)
        refine lv_goto (tgt := 9) X.1 X.2.1 dX5_withNeeded_37 (by decide) ?_
        exact ih x2_34 nx2_34 (wI (x3 + (-1))) (nmI_w _) hf _ _ _ hH hS (gLv_sub hl [1, 2, 0] rfl)
      clear ek34
      refine g_icmp_ne X nr15 (nmI_l (by decide)) (tgt := 34) dX5_withNeeded_19 (by decide) (fun hc19 => ?_) (fun hc19 => ?_)
      · replace hf := it_f hf hc19
        exact hk34 x2 nx2 hf _ _ _ hH hS (gLv_sub hl [0, 1, 2] rfl)
      · replace hf := it_t hf hc19
        refine lv_iload_n X.1 X.2.1 dX5_withNeeded_22 rfl (lv_at hl.1 1 rfl) ?_
        refine lv_aload_n X.1 X.2.1 dX5_withNeeded_23 rfl (lv_at hl.1 0 rfl) ?_
        refine lv_aload_n X.1 X.2.1 dX5_withNeeded_24 rfl (lv_at hl.1 0 rfl) ?_
        refine lv_iload_n X.1 X.2.1 dX5_withNeeded_25 rfl (lv_at hl.1 2 rfl) ?_
        refine gGoR (gRunV X hH (As := [.int (iI x3)]) (m_X5_targetAt l G x3 nx3 M _ rfl) calX5_targetAt k_628 k_629 k_239 (by decide) cX5 rfl ⟨by decide, by decide⟩ rfl hl rfl (Nat.le_of_ble_eq_true rfl) ⟨Nat.le_refl 0, Nat.le_refl 0⟩ dX5_withNeeded_26) hS (fun H locs hr26 hH hS => ?_)
        replace hr26 : (f_X5_targetAt x3 M) < 15 := hr26
        obtain ⟨r29, hq29, hf_⟩ := ob_e hf; clear hf; have hf := hf_; clear hf_
        refine gGoI (gRunV X hH (As := [.ref (gAd G 7 ((f_X5_targetAt x3 M)))]) (m_X5_inputTargets l G ((f_X5_targetAt x3 M)) hr26 M _ hq29) calX5_inputTargets k_697 k_698 k_274 (by decide) cX5 rfl ⟨by decide, by decide⟩ rfl hl rfl (Nat.le_of_ble_eq_true rfl) ⟨Nat.le_refl 0, Nat.le_refl 0⟩ dX5_withNeeded_29) hS (fun H locs nr29 hH hS => ?_)
        refine g_ior X dX5_withNeeded_32 ?_
        refine g_istore_n X (lv' := [(2, .int (iI (gOr x2 r29))), (0, .ref (gAd G 2 0)), (3, .int (iI x3))]) dX5_withNeeded_33 rfl hl (by decide) rfl (fun ls hl => ?_)
        exact hk34 (gOr x2 r29) (nmI_or _ _) hf _ _ _ hH hS (gLv_sub hl [1, 0, 2] rfl)
theorem m_X5_withNeeded (l : Launch) (G : gG) (v1 : Int) (nv1 : nmI v1) (M : gM) (q : (Int)) (hf : f_X5_withNeeded v1 M = some q) : gMet l yX5_withNeeded cX5_withNeeded 4 (some .int) 3 68 G M [.ref (gAd G 2 0), .int (iI v1)] (gQi G q M) := by
  refine gOfW (by decide) (by show _ ≤ 4; exact Nat.le_of_ble_eq_true rfl) rfl ?_
  intro p e s m below meth c X hH ls hl
  replace hl : gLv ls 4 [(0, .ref (gAd G 2 0)), (1, .int (iI v1))] := hl
  have hS : va_S (gA G) s.heap s.heap [] := va_S.rf
  generalize hargs : ([.ref (gAd G 2 0), .int (iI v1)] : List Value).toArray = args at X ⊢
  clear hargs
  unfold f_X5_withNeeded at hf
  refine lv_iload_n X.1 X.2.1 dX5_withNeeded_0 rfl (lv_at hl.1 1 rfl) ?_
  refine g_istore_n X (lv' := [(2, .int (iI v1)), (0, .ref (gAd G 2 0)), (1, .int (iI v1))]) dX5_withNeeded_1 rfl hl (by decide) rfl (fun ls hl => ?_)
  refine lv_aload_n X.1 X.2.1 dX5_withNeeded_2 rfl (lv_at hl.1 1 rfl) ?_
  have nd3 : nmI (M 2 0 5) := hH.1.1 _ _ _
  refine g_get X cX5 hH (r := 2) (i := 0) (by decide) rfl 5 (by decide) k_107 rfl (v := .int (iI (M 2 0 5))) rfl dX5_withNeeded_3 ?_
  refine lv_iconst X.1 X.2.1 dX5_withNeeded_6 (v := iI 1) rfl ?_
  refine g_isub X dX5_withNeeded_7 ?_
  refine g_istore_n X (lv' := [(3, .int (iI (wI ((M 2 0 5) - 1)))), (2, .int (iI v1)), (0, .ref (gAd G 2 0)), (1, .int (iI v1))]) dX5_withNeeded_8 rfl hl (by decide) rfl (fun ls hl => ?_)
  refine w_X5_withNeeded_L9 X _ M q ?_ 64 v1 nv1 (wI ((M 2 0 5) - 1)) (nmI_w _) hf _ _ _ hH hS (gLv_sub hl [2, 1, 0] rfl)
  · intro y2_9_40 ny2_9_40 hf H locs ls hH hS hl
    refine lv_iload_n X.1 X.2.1 dX5_withNeeded_40 rfl (lv_at hl.1 0 rfl) ?_
    have hq := Option.some.inj hf; subst hq
    exact gRetI X hH hS (res := y2_9_40) ny2_9_40 dX5_withNeeded_41
theorem m_X8_actionAt (l : Launch) (G : gG) (i0 : Nat) (hi0 : i0 < 15) (v1 : Int) (nv1 : nmI v1) (M : gM) (q : (Nat)) (hf : f_X8_actionAt i0 v1 M = q) : gMet l yX8_actionAt cX8_actionAt 2 (some (.object "BuildGrid$Action")) 0 0 G M [.ref (gAd G 7 i0), .int (iI v1)] (gQr G 9 q M) := by
  refine gOfW (by decide) (by show _ ≤ 2; exact Nat.le_of_ble_eq_true rfl) rfl ?_
  intro p e s m below meth c X hH ls hl
  replace hl : gLv ls 2 [(0, .ref (gAd G 7 i0)), (1, .int (iI v1))] := hl
  have hS : va_S (gA G) s.heap s.heap [] := va_S.rf
  generalize hargs : ([.ref (gAd G 7 i0), .int (iI v1)] : List Value).toArray = args at X ⊢
  clear hargs
  unfold f_X8_actionAt at hf
  refine lv_iload_n X.1 X.2.1 dX8_actionAt_0 rfl (lv_at hl.1 1 rfl) ?_
  obtain ⟨k18, ek18, hf_⟩ := oj_e hf; clear hf; have hf := hf_; clear hf_
  have hk18 : k18 = q → ∀ (H : Heap) (locs : List Loc) (ls : Array Slot), gH G M H → va_S (gA G) s.heap H locs → gLv ls 2 [(0, .ref (gAd G 7 i0))] → W p l e { frames := 0, cells := 0, slots := 0, locals := 0 } s m args below meth c H locs 0 0 (MQ below (gQr G 9 q M) args s 0 0 (gA G)) (F0 m 18 ls []) := by
    intro  hf H locs ls hH hS hl
    subst ek18
    refine lv_aload_n X.1 X.2.1 dX8_actionAt_18 rfl (lv_at hl.1 0 rfl) ?_
    refine g_get X cX8 hH (r := 7) (i := i0) hi0 rfl 2 (by decide) k_70 rfl (v := .ref (gAd G 25 i0)) rfl dX8_actionAt_19 ?_
    refine lv_iconst X.1 X.2.1 dX8_actionAt_22 (v := iI 0) rfl ?_
    have hg : (0 : Int) ≤ 0 ∧ (0 : Int) < 4 := ⟨by omega, by omega⟩
    refine g_aald X hH (r := 25) (i := i0) (by show _ < 15; omega) rfl (t0 := 2) rfl (nmI_l (by decide)) hg (v := gAd G 9 ((4 * i0 + 0))) rfl dX8_actionAt_23 ?_
    subst hf
    exact gRetR X hH hS (i := (4 * i0 + 0)) (by show _ < 60; omega) dX8_actionAt_24
  clear ek18
  refine g_if_lt X nv1 (tgt := 18) dX8_actionAt_1 (by decide) (fun hc1 => ?_) (fun hc1 => ?_)
  · replace hf := it_t hf hc1
    exact hk18  hf _ _ _ hH hS (gLv_sub hl [0] rfl)
  · replace hf := it_f hf hc1
    refine lv_iload_n X.1 X.2.1 dX8_actionAt_4 rfl (lv_at hl.1 1 rfl) ?_
    refine lv_iconst X.1 X.2.1 dX8_actionAt_5 (v := iI 4) rfl ?_
    refine g_icmp_ge X nv1 (nmI_l (by decide)) (tgt := 18) dX8_actionAt_6 (by decide) (fun hc6 => ?_) (fun hc6 => ?_)
    · replace hf := it_f hf hc6
      exact hk18  hf _ _ _ hH hS (gLv_sub hl [0] rfl)
    · replace hf := it_t hf hc6
      refine lv_aload_n X.1 X.2.1 dX8_actionAt_9 rfl (lv_at hl.1 0 rfl) ?_
      refine g_get X cX8 hH (r := 7) (i := i0) hi0 rfl 2 (by decide) k_70 rfl (v := .ref (gAd G 25 i0)) rfl dX8_actionAt_10 ?_
      refine lv_iload_n X.1 X.2.1 dX8_actionAt_13 rfl (lv_at hl.1 1 rfl) ?_
      have hg : (0 : Int) ≤ v1 ∧ (v1 : Int) < 4 := ⟨by omega, by omega⟩
      refine g_aald X hH (r := 25) (i := i0) (by show _ < 15; omega) rfl (t0 := 2) rfl nv1 hg (v := gAd G 9 ((4 * i0 + v1.toNat))) rfl dX8_actionAt_14 ?_
      refine lv_goto (tgt := 24) X.1 X.2.1 dX8_actionAt_15 (by decide) ?_
      subst hf
      exact gRetR X hH hS (i := (4 * i0 + v1.toNat)) (by show _ < 60; omega) dX8_actionAt_24
theorem m_X0_open (l : Launch) (G : gG) (i0 : Nat) (hi0 : i0 < 60) (M : gM) (q : gM) (hf : f_X0_open i0 M = q) : gMet l yX0_open cX0_open 1 none 0 0 G M [.ref (gAd G 9 i0)] (gQv G q) := by
  refine gOfW (by decide) (by show _ ≤ 1; exact Nat.le_of_ble_eq_true rfl) rfl ?_
  intro p e s m below meth c X hH ls hl
  replace hl : gLv ls 1 [(0, .ref (gAd G 9 i0))] := hl
  have hS : va_S (gA G) s.heap s.heap [] := va_S.rf
  generalize hargs : ([.ref (gAd G 9 i0)] : List Value).toArray = args at X ⊢
  clear hargs
  unfold f_X0_open at hf
  refine lv_aload_n X.1 X.2.1 dX0_open_0 rfl (lv_at hl.1 0 rfl) ?_
  refine lv_iconst X.1 X.2.1 dX0_open_1 (v := iI 0) rfl ?_
  refine g_putI X cX0 hH hS (r := 9) (i := i0) hi0 rfl 2 (by decide) k_44 rfl rfl rfl (Nat.le_of_ble_eq_true rfl) (x := 0) (nmI_l (by decide)) rfl rfl rfl dX0_open_2 (fun H locs hH hS => ?_)
  refine lv_aload_n X.1 X.2.1 dX0_open_5 rfl (lv_at hl.1 0 rfl) ?_
  refine lv_iconst X.1 X.2.1 dX0_open_6 (v := iI 0) rfl ?_
  refine g_putI X cX0 hH hS (r := 9) (i := i0) hi0 rfl 7 (by decide) k_59 rfl rfl rfl (Nat.le_of_ble_eq_true rfl) (x := 0) (nmI_l (by decide)) rfl rfl rfl dX0_open_7 (fun H locs hH hS => ?_)
  subst hf
  exact gRetV X hH hS dX0_open_10
theorem w_X8_startOver_L2 {G : gG} {p : Program} {l : Launch} {e : Env} {s : State} {m : MethodId} {args : Array Value} {below : List Frame} {meth : Method} {c : Code} (X : gX G p s m args meth c RX8 cX8_startOver 4 none (gWs yX8_startOver cX8_startOver 4 none)) (k35 : gM → Option gM) (z0 : Nat) (hz0 : z0 < 15) (z1 : Int) (bz1 : z1 = 0 ∨ z1 = 1) (q : gM) (hk35 : ∀  (M : gM), k35 M = some q → ∀ (H : Heap) (locs : List Loc) (ls : Array Slot), gH G M H → va_S (gA G) s.heap H locs → gLv ls 4 [] → W p l e { frames := 1, cells := 0, slots := 0, locals := 21 } s m args below meth c H locs 0 0 (MQ below (gQv G q) args s 0 0 (gA G)) (F0 m 35 ls [])) : ∀ (n : Nat) (x2 : Int) (nx2 : nmI x2) (M : gM), f_X8_startOver_L2 k35 z0 z1 n x2 M = some q → ∀ (H : Heap) (locs : List Loc) (ls : Array Slot), gH G M H → va_S (gA G) s.heap H locs → gLv ls 4 [(0, .ref (gAd G 7 z0)), (1, .int (iI z1)), (2, .int (iI x2))] → W p l e { frames := 1, cells := 0, slots := 0, locals := 21 } s m args below meth c H locs 0 0 (MQ below (gQv G q) args s 0 0 (gA G)) (F0 m 2 ls []) := by
  intro n
  induction n with
  | zero =>
    intro x2 nx2 M hf
    cases hf
  | succ n ih =>
    intro x2 nx2 M hf H locs ls hH hS hl
    rw [f_X8_startOver_L2] at hf
    refine lv_iload_n X.1 X.2.1 dX8_startOver_2 rfl (lv_at hl.1 2 rfl) ?_
    refine lv_aload_n X.1 X.2.1 dX8_startOver_3 rfl (lv_at hl.1 0 rfl) ?_
    have nd4 : nmI (M 7 z0 6) := hH.1.1 _ _ _
    refine g_get X cX8 hH (r := 7) (i := z0) hz0 rfl 6 (by decide) k_83 rfl (v := .int (iI (M 7 z0 6))) rfl dX8_startOver_4 ?_
    refine g_icmp_ge X nx2 nd4 (tgt := 35) dX8_startOver_7 (by decide) (fun hc7 => ?_) (fun hc7 => ?_)
    · replace hf := it_f hf hc7
      exact hk35 M hf _ _ _ hH hS (gLv_sub hl [] rfl)
    · replace hf := it_t hf hc7
      refine lv_aload_n X.1 X.2.1 dX8_startOver_10 rfl (lv_at hl.1 0 rfl) ?_
      refine lv_iload_n X.1 X.2.1 dX8_startOver_11 rfl (lv_at hl.1 2 rfl) ?_
      refine gGoR (gRunV X hH (As := [.int (iI x2)]) (m_X8_actionAt l G z0 hz0 x2 nx2 M _ rfl) calX8_actionAt k_706 k_707 k_280 hz0 cX8 rfl ⟨by decide, by decide⟩ rfl hl rfl (Nat.le_of_ble_eq_true rfl) ⟨Nat.le_refl 0, Nat.le_refl 0⟩ dX8_startOver_12) hS (fun H locs hr12 hH hS => ?_)
      replace hr12 : (f_X8_actionAt z0 x2 M) < 60 := hr12
      refine g_astore_n X (lv' := [(3, .ref (gAd G 9 ((f_X8_actionAt z0 x2 M)))), (0, .ref (gAd G 7 z0)), (1, .int (iI z1)), (2, .int (iI x2))]) dX8_startOver_15 rfl hl (by decide) rfl (fun ls hl => ?_)
      refine lv_aload_n X.1 X.2.1 dX8_startOver_16 rfl (lv_at hl.1 0 rfl) ?_
      refine gGoV (gRunV X hH (As := []) (m_X0_open l G ((f_X8_actionAt z0 x2 M)) hr12 M _ rfl) calX0_open k_709 k_710 k_281 hr12 cX0 rfl ⟨by decide, by decide⟩ rfl hl rfl (Nat.le_of_ble_eq_true rfl) ⟨Nat.le_refl 0, Nat.le_refl 0⟩ dX8_startOver_17) hS (fun H locs hH hS => ?_)
      refine lv_iload_n X.1 X.2.1 dX8_startOver_20 rfl (lv_at hl.1 2 rfl) ?_
      obtain ⟨k29, ek29, hf_⟩ := oj_e hf; clear hf; have hf := hf_; clear hf_
      have hk29 : ∀  (M_29 : gM), k29 M_29 = some q → ∀ (H : Heap) (locs : List Loc) (ls : Array Slot), gH G M_29 H → va_S (gA G) s.heap H locs → gLv ls 4 [(0, .ref (gAd G 7 z0)), (1, .int (iI z1)), (2, .int (iI x2))] → W p l e { frames := 1, cells := 0, slots := 0, locals := 21 } s m args below meth c H locs 0 0 (MQ below (gQv G q) args s 0 0 (gA G)) (F0 m 29 ls []) := by
        intro  M_29 hf H locs ls hH hS hl
        subst ek29
        refine g_iinc X (a := x2) (lv' := [(2, .int (iI (wI (x2 + 1)))), (0, .ref (gAd G 7 z0)), (1, .int (iI z1))]) dX8_startOver_29 hl (k := 2) rfl (by decide) rfl (fun ls hl => ?_)
        refine lv_goto (tgt := 2) X.1 X.2.1 dX8_startOver_32 (by decide) ?_
        exact ih (wI (x2 + 1)) (nmI_w _) M_29 hf _ _ _ hH hS (gLv_sub hl [1, 2, 0] rfl)
      clear ek29
      refine g_if_ne X (nmI_b bz1) (tgt := 29) dX8_startOver_21 (by decide) (fun hc21 => ?_) (fun hc21 => ?_)
      · replace hf := it_f hf hc21
        exact hk29 ((f_X0_open ((f_X8_actionAt z0 x2 M)) M)) hf _ _ _ hH hS (gLv_sub hl [1, 2, 3] rfl)
      · replace hf := it_t hf hc21
        refine lv_aload_n X.1 X.2.1 dX8_startOver_24 rfl (lv_at hl.1 0 rfl) ?_
        refine lv_iconst X.1 X.2.1 dX8_startOver_25 (v := iI (-1)) rfl ?_
        refine g_putI X cX0 hH hS (r := 9) (i := (f_X8_actionAt z0 x2 M)) hr12 rfl 2 (by decide) k_45 rfl rfl rfl (Nat.le_of_ble_eq_true rfl) (x := (-1)) (nmI_l (by decide)) rfl rfl rfl dX8_startOver_26 (fun H locs hH hS => ?_)
        exact hk29 (gU ((f_X0_open ((f_X8_actionAt z0 x2 M)) M)) 9 ((f_X8_actionAt z0 x2 M)) 2 ((-1))) hf _ _ _ hH hS (gLv_sub hl [1, 2, 3] rfl)
theorem m_X8_startOver (l : Launch) (G : gG) (i0 : Nat) (hi0 : i0 < 15) (v1 : Int) (bv1 : v1 = 0 ∨ v1 = 1) (M : gM) (q : gM) (hf : f_X8_startOver i0 v1 M = some q) : gMet l yX8_startOver cX8_startOver 4 none 1 21 G M [.ref (gAd G 7 i0), .int (iI v1)] (gQv G q) := by
  refine gOfW (by decide) (by show _ ≤ 4; exact Nat.le_of_ble_eq_true rfl) rfl ?_
  intro p e s m below meth c X hH ls hl
  replace hl : gLv ls 4 [(0, .ref (gAd G 7 i0)), (1, .int (iI v1))] := hl
  have hS : va_S (gA G) s.heap s.heap [] := va_S.rf
  generalize hargs : ([.ref (gAd G 7 i0), .int (iI v1)] : List Value).toArray = args at X ⊢
  clear hargs
  unfold f_X8_startOver at hf
  refine lv_iconst X.1 X.2.1 dX8_startOver_0 (v := iI 0) rfl ?_
  refine g_istore_n X (lv' := [(2, .int (iI 0)), (0, .ref (gAd G 7 i0)), (1, .int (iI v1))]) dX8_startOver_1 rfl hl (by decide) rfl (fun ls hl => ?_)
  refine w_X8_startOver_L2 X _ i0 hi0 v1 bv1 q ?_ 64 0 (nmI_l (by decide)) M hf _ _ _ hH hS (gLv_sub hl [1, 2, 0] rfl)
  · intro  M_2_35 hf H locs ls hH hS hl
    have hq := Option.some.inj hf; subst hq
    exact gRetV X hH hS dX8_startOver_35
theorem m_X0_isUnfinished (l : Launch) (G : gG) (i0 : Nat) (hi0 : i0 < 60) (M : gM) (q : (Int)) (hf : f_X0_isUnfinished i0 M = q) : gMet l yX0_isUnfinished cX0_isUnfinished 1 (some .boolean) 0 0 G M [.ref (gAd G 9 i0)] (gQz G q M) := by
  refine gOfW (by decide) (by show _ ≤ 1; exact Nat.le_of_ble_eq_true rfl) rfl ?_
  intro p e s m below meth c X hH ls hl
  replace hl : gLv ls 1 [(0, .ref (gAd G 9 i0))] := hl
  have hS : va_S (gA G) s.heap s.heap [] := va_S.rf
  generalize hargs : ([.ref (gAd G 9 i0)] : List Value).toArray = args at X ⊢
  clear hargs
  unfold f_X0_isUnfinished at hf
  refine lv_aload_n X.1 X.2.1 dX0_isUnfinished_0 rfl (lv_at hl.1 0 rfl) ?_
  have nd1 : nmI (M 9 i0 2) := hH.1.1 _ _ _
  refine g_get X cX0 hH (r := 9) (i := i0) hi0 rfl 2 (by decide) k_44 rfl (v := .int (iI (M 9 i0 2))) rfl dX0_isUnfinished_1 ?_
  obtain ⟨k23, ek23, hf_⟩ := oj_e hf; clear hf; have hf := hf_; clear hf_
  have hk23 : k23 = q → ∀ (H : Heap) (locs : List Loc) (ls : Array Slot), gH G M H → va_S (gA G) s.heap H locs → gLv ls 1 [] → W p l e { frames := 0, cells := 0, slots := 0, locals := 0 } s m args below meth c H locs 0 0 (MQ below (gQz G q M) args s 0 0 (gA G)) (F0 m 23 ls []) := by
    intro  hf H locs ls hH hS hl
    subst ek23
    refine lv_iconst X.1 X.2.1 dX0_isUnfinished_23 (v := iI 1) rfl ?_
    refine lv_goto (tgt := 28) X.1 X.2.1 dX0_isUnfinished_24 (by decide) ?_
    subst hf
    exact gRetZ X hH hS (res := 1) (by decide) dX0_isUnfinished_28
  clear ek23
  refine g_if_eq X nd1 (tgt := 23) dX0_isUnfinished_4 (by decide) (fun hc4 => ?_) (fun hc4 => ?_)
  · replace hf := it_t hf hc4
    exact hk23  hf _ _ _ hH hS (gLv_sub hl [] rfl)
  · replace hf := it_f hf hc4
    refine lv_aload_n X.1 X.2.1 dX0_isUnfinished_7 rfl (lv_at hl.1 0 rfl) ?_
    have nd8 : nmI (M 9 i0 2) := hH.1.1 _ _ _
    refine g_get X cX0 hH (r := 9) (i := i0) hi0 rfl 2 (by decide) k_44 rfl (v := .int (iI (M 9 i0 2))) rfl dX0_isUnfinished_8 ?_
    refine lv_iconst X.1 X.2.1 dX0_isUnfinished_11 (v := iI 1) rfl ?_
    refine g_icmp_eq X nd8 (nmI_l (by decide)) (tgt := 23) dX0_isUnfinished_12 (by decide) (fun hc12 => ?_) (fun hc12 => ?_)
    · replace hf := it_t hf hc12
      exact hk23  hf _ _ _ hH hS (gLv_sub hl [] rfl)
    · replace hf := it_f hf hc12
      refine lv_aload_n X.1 X.2.1 dX0_isUnfinished_15 rfl (lv_at hl.1 0 rfl) ?_
      have nd16 : nmI (M 9 i0 2) := hH.1.1 _ _ _
      refine g_get X cX0 hH (r := 9) (i := i0) hi0 rfl 2 (by decide) k_44 rfl (v := .int (iI (M 9 i0 2))) rfl dX0_isUnfinished_16 ?_
      refine lv_iconst X.1 X.2.1 dX0_isUnfinished_19 (v := iI 2) rfl ?_
      refine g_icmp_ne X nd16 (nmI_l (by decide)) (tgt := 27) dX0_isUnfinished_20 (by decide) (fun hc20 => ?_) (fun hc20 => ?_)
      · replace hf := it_f hf hc20
        refine lv_iconst X.1 X.2.1 dX0_isUnfinished_27 (v := iI 0) rfl ?_
        subst hf
        exact gRetZ X hH hS (res := 0) (by decide) dX0_isUnfinished_28
      · replace hf := it_t hf hc20
        exact hk23  hf _ _ _ hH hS (gLv_sub hl [] rfl)
theorem w_X5_stateOfInputs_L51 {G : gG} {p : Program} {l : Launch} {e : Env} {s : State} {m : MethodId} {args : Array Value} {below : List Frame} {meth : Method} {c : Code} (X : gX G p s m args meth c RX5 cX5_stateOfInputs 9 (some .int) (gWs yX5_stateOfInputs cX5_stateOfInputs 9 (some .int))) (k101 : Int → Option (Int)) (z1 : Nat) (hz1 : z1 < 15) (z2 : Int) (nz2 : nmI z2) (z4 : Int) (nz4 : nmI z4) (z5 : Nat) (hz5 : z5 < 15) (z6 : Int) (nz6 : nmI z6) (M : gM) (q : (Int)) (hk101 : ∀ (x3 : Int) (nx3 : nmI x3), k101 x3 = some q → ∀ (H : Heap) (locs : List Loc) (ls : Array Slot), gH G M H → va_S (gA G) s.heap H locs → gLv ls 9 [(0, .ref (gAd G 2 0)), (1, .ref (gAd G 7 z1)), (2, .int (iI z2)), (3, .int (iI x3)), (4, .int (iI z4))] → W p l e { frames := 3, cells := 0, slots := 0, locals := 68 } s m args below meth c H locs 0 0 (MQ below (gQi G q M) args s 0 0 (gA G)) (F0 m 101 ls [])) : ∀ (n : Nat) (x3 : Int) (nx3 : nmI x3) (x7 : Int) (nx7 : nmI x7), f_X5_stateOfInputs_L51 k101 z1 z2 z4 z5 z6 M n x3 x7 = some q → ∀ (H : Heap) (locs : List Loc) (ls : Array Slot), gH G M H → va_S (gA G) s.heap H locs → gLv ls 9 [(0, .ref (gAd G 2 0)), (1, .ref (gAd G 7 z1)), (2, .int (iI z2)), (3, .int (iI x3)), (4, .int (iI z4)), (5, .ref (gAd G 25 z5)), (6, .int (iI z6)), (7, .int (iI x7))] → W p l e { frames := 3, cells := 0, slots := 0, locals := 68 } s m args below meth c H locs 0 0 (MQ below (gQi G q M) args s 0 0 (gA G)) (F0 m 51 ls []) := by
  intro n
  induction n with
  | zero =>
    intro x3 nx3 x7 nx7 hf
    cases hf
  | succ n ih =>
    intro x3 nx3 x7 nx7 hf H locs ls hH hS hl
    rw [f_X5_stateOfInputs_L51] at hf
    refine lv_iload X.1 X.2.1 dX5_stateOfInputs_51 (lv_at hl.1 7 rfl) ?_
    refine lv_iload X.1 X.2.1 dX5_stateOfInputs_53 (lv_at hl.1 6 rfl) ?_
    refine g_icmp_ge X nx7 nz6 (tgt := 101) dX5_stateOfInputs_55 (by decide) (fun hc55 => ?_) (fun hc55 => ?_)
    · replace hf := it_f hf hc55
      exact hk101 x3 nx3 hf _ _ _ hH hS (gLv_sub hl [0, 1, 2, 3, 4] rfl)
    · replace hf := it_t hf hc55
      refine lv_aload X.1 X.2.1 dX5_stateOfInputs_58 (lv_at hl.1 5 rfl) ?_
      refine lv_iload X.1 X.2.1 dX5_stateOfInputs_60 (lv_at hl.1 7 rfl) ?_
      obtain ⟨hg, hf_⟩ := og_e hf; clear hf; have hf := hf_; clear hf_
      refine g_aald X hH (r := 25) (i := z5) hz5 rfl (t0 := 2) rfl nx7 hg (v := gAd G 9 ((4 * z5 + x7.toNat))) rfl dX5_stateOfInputs_62 ?_
      refine g_astore X (lv' := [(8, .ref (gAd G 9 ((4 * z5 + x7.toNat)))), (0, .ref (gAd G 2 0)), (1, .ref (gAd G 7 z1)), (2, .int (iI z2)), (3, .int (iI x3)), (4, .int (iI z4)), (5, .ref (gAd G 25 z5)), (6, .int (iI z6)), (7, .int (iI x7))]) dX5_stateOfInputs_63 hl (by decide) rfl (fun ls hl => ?_)
      refine lv_aload X.1 X.2.1 dX5_stateOfInputs_65 (lv_at hl.1 0 rfl) ?_
      refine gGoZ (gRunV X hH (As := []) (m_X0_isUnfinished l G ((4 * z5 + x7.toNat)) (by show _ < 60; omega) M _ rfl) calX0_isUnfinished k_719 k_720 k_285 (by show _ < 60; omega) cX0 rfl ⟨by decide, by decide⟩ rfl hl rfl (Nat.le_of_ble_eq_true rfl) ⟨Nat.le_refl 0, Nat.le_refl 0⟩ dX5_stateOfInputs_67) hS (fun H locs br67 hH hS => ?_)
      refine g_if_eq X (nmI_b br67) (tgt := 75) dX5_stateOfInputs_70 (by decide) (fun hc70 => ?_) (fun hc70 => ?_)
      · replace hf := it_t hf hc70
        refine lv_aload X.1 X.2.1 dX5_stateOfInputs_75 (lv_at hl.1 0 rfl) ?_
        have nd77 : nmI (M 9 ((4 * z5 + x7.toNat)) 2) := hH.1.1 _ _ _
        refine g_get X cX0 hH (r := 9) (i := (4 * z5 + x7.toNat)) (by show _ < 60; omega) rfl 2 (by decide) k_47 rfl (v := .int (iI (M 9 ((4 * z5 + x7.toNat)) 2))) rfl dX5_stateOfInputs_77 ?_
        refine lv_iconst X.1 X.2.1 dX5_stateOfInputs_80 (v := iI 4) rfl ?_
        obtain ⟨k95, ek95, hf_⟩ := oj_e hf; clear hf; have hf := hf_; clear hf_
        have hk95 : ∀ (x3_95 : Int) (nx3_95 : nmI x3_95), k95 x3_95 = some q → ∀ (H : Heap) (locs : List Loc) (ls : Array Slot), gH G M H → va_S (gA G) s.heap H locs → gLv ls 9 [(0, .ref (gAd G 2 0)), (1, .ref (gAd G 7 z1)), (2, .int (iI z2)), (3, .int (iI x3_95)), (4, .int (iI z4)), (5, .ref (gAd G 25 z5)), (6, .int (iI z6)), (7, .int (iI x7))] → W p l e { frames := 3, cells := 0, slots := 0, locals := 68 } s m args below meth c H locs 0 0 (MQ below (gQi G q M) args s 0 0 (gA G)) (F0 m 95 ls []) := by
          intro x3_95 nx3_95 hf H locs ls hH hS hl
          subst ek95
          refine g_iinc X (a := x7) (lv' := [(7, .int (iI (wI (x7 + 1)))), (0, .ref (gAd G 2 0)), (1, .ref (gAd G 7 z1)), (2, .int (iI z2)), (3, .int (iI x3_95)), (4, .int (iI z4)), (5, .ref (gAd G 25 z5)), (6, .int (iI z6))]) dX5_stateOfInputs_95 hl (k := 7) rfl (by decide) rfl (fun ls hl => ?_)
          refine lv_goto (tgt := 51) X.1 X.2.1 dX5_stateOfInputs_98 (by decide) ?_
          exact ih x3_95 nx3_95 (wI (x7 + 1)) (nmI_w _) hf _ _ _ hH hS (gLv_sub hl [1, 2, 3, 4, 5, 6, 7, 0] rfl)
        clear ek95
        obtain ⟨k93, ek93, hf_⟩ := oj_e hf; clear hf; have hf := hf_; clear hf_
        have hk93 : k93 = some q → ∀ (H : Heap) (locs : List Loc) (ls : Array Slot), gH G M H → va_S (gA G) s.heap H locs → gLv ls 9 [(0, .ref (gAd G 2 0)), (1, .ref (gAd G 7 z1)), (2, .int (iI z2)), (4, .int (iI z4)), (5, .ref (gAd G 25 z5)), (6, .int (iI z6)), (7, .int (iI x7))] → W p l e { frames := 3, cells := 0, slots := 0, locals := 68 } s m args below meth c H locs 0 0 (MQ below (gQi G q M) args s 0 0 (gA G)) (F0 m 93 ls []) := by
          intro  hf H locs ls hH hS hl
          subst ek93
          refine lv_iconst X.1 X.2.1 dX5_stateOfInputs_93 (v := iI 5) rfl ?_
          refine g_istore_n X (lv' := [(3, .int (iI 5)), (0, .ref (gAd G 2 0)), (1, .ref (gAd G 7 z1)), (2, .int (iI z2)), (4, .int (iI z4)), (5, .ref (gAd G 25 z5)), (6, .int (iI z6)), (7, .int (iI x7))]) dX5_stateOfInputs_94 rfl hl (by decide) rfl (fun ls hl => ?_)
          exact hk95 5 (nmI_l (by decide)) hf _ _ _ hH hS (gLv_sub hl [1, 2, 3, 0, 4, 5, 6, 7] rfl)
        clear ek93
        refine g_icmp_eq X nd77 (nmI_l (by decide)) (tgt := 93) dX5_stateOfInputs_81 (by decide) (fun hc81 => ?_) (fun hc81 => ?_)
        · replace hf := it_t hf hc81
          exact hk93  hf _ _ _ hH hS (gLv_sub hl [1, 2, 3, 5, 6, 7, 8] rfl)
        · replace hf := it_f hf hc81
          refine lv_aload X.1 X.2.1 dX5_stateOfInputs_84 (lv_at hl.1 0 rfl) ?_
          have nd86 : nmI (M 9 ((4 * z5 + x7.toNat)) 2) := hH.1.1 _ _ _
          refine g_get X cX0 hH (r := 9) (i := (4 * z5 + x7.toNat)) (by show _ < 60; omega) rfl 2 (by decide) k_47 rfl (v := .int (iI (M 9 ((4 * z5 + x7.toNat)) 2))) rfl dX5_stateOfInputs_86 ?_
          refine lv_iconst X.1 X.2.1 dX5_stateOfInputs_89 (v := iI 5) rfl ?_
          refine g_icmp_ne X nd86 (nmI_l (by decide)) (tgt := 95) dX5_stateOfInputs_90 (by decide) (fun hc90 => ?_) (fun hc90 => ?_)
          · replace hf := it_f hf hc90
            exact hk95 x3 nx3 hf _ _ _ hH hS (gLv_sub hl [1, 2, 3, 4, 5, 6, 7, 8] rfl)
          · replace hf := it_t hf hc90
            exact hk93  hf _ _ _ hH hS (gLv_sub hl [1, 2, 3, 5, 6, 7, 8] rfl)
      · replace hf := it_f hf hc70
        refine lv_iconst X.1 X.2.1 dX5_stateOfInputs_73 (v := iI 0) rfl ?_
        have hq := Option.some.inj hf; subst hq
        exact gRetI X hH hS (res := 0) (nmI_l (by decide)) dX5_stateOfInputs_74
theorem w_X5_stateOfInputs_L11 {G : gG} {p : Program} {l : Launch} {e : Env} {s : State} {m : MethodId} {args : Array Value} {below : List Frame} {meth : Method} {c : Code} (X : gX G p s m args meth c RX5 cX5_stateOfInputs 9 (some .int) (gWs yX5_stateOfInputs cX5_stateOfInputs 9 (some .int))) (k107 : Int → Option (Int)) (z1 : Nat) (hz1 : z1 < 15) (z2 : Int) (nz2 : nmI z2) (M : gM) (q : (Int)) (hk107 : ∀ (x3 : Int) (nx3 : nmI x3), k107 x3 = some q → ∀ (H : Heap) (locs : List Loc) (ls : Array Slot), gH G M H → va_S (gA G) s.heap H locs → gLv ls 9 [(3, .int (iI x3))] → W p l e { frames := 3, cells := 0, slots := 0, locals := 68 } s m args below meth c H locs 0 0 (MQ below (gQi G q M) args s 0 0 (gA G)) (F0 m 107 ls [])) : ∀ (n : Nat) (x3 : Int) (nx3 : nmI x3) (x4 : Int) (nx4 : nmI x4), f_X5_stateOfInputs_L11 k107 z1 z2 M n x3 x4 = some q → ∀ (H : Heap) (locs : List Loc) (ls : Array Slot), gH G M H → va_S (gA G) s.heap H locs → gLv ls 9 [(0, .ref (gAd G 2 0)), (1, .ref (gAd G 7 z1)), (2, .int (iI z2)), (3, .int (iI x3)), (4, .int (iI x4))] → W p l e { frames := 3, cells := 0, slots := 0, locals := 68 } s m args below meth c H locs 0 0 (MQ below (gQi G q M) args s 0 0 (gA G)) (F0 m 11 ls []) := by
  intro n
  induction n with
  | zero =>
    intro x3 nx3 x4 nx4 hf
    cases hf
  | succ n ih =>
    intro x3 nx3 x4 nx4 hf H locs ls hH hS hl
    rw [f_X5_stateOfInputs_L11] at hf
    refine lv_iload X.1 X.2.1 dX5_stateOfInputs_11 (lv_at hl.1 4 rfl) ?_
    refine lv_aload_n X.1 X.2.1 dX5_stateOfInputs_13 rfl (lv_at hl.1 1 rfl) ?_
    have nd14 : nmI (M 7 z1 0) := hH.1.1 _ _ _
    refine g_get X cX8 hH (r := 7) (i := z1) hz1 rfl 0 (by decide) k_65 rfl (v := .int (iI (M 7 z1 0))) rfl dX5_stateOfInputs_14 ?_
    refine g_icmp_ge X nx4 nd14 (tgt := 107) dX5_stateOfInputs_17 (by decide) (fun hc17 => ?_) (fun hc17 => ?_)
    · replace hf := it_f hf hc17
      exact hk107 x3 nx3 hf _ _ _ hH hS (gLv_sub hl [3] rfl)
    · replace hf := it_t hf hc17
      refine lv_iload_n X.1 X.2.1 dX5_stateOfInputs_20 rfl (lv_at hl.1 2 rfl) ?_
      refine lv_iload X.1 X.2.1 dX5_stateOfInputs_21 (lv_at hl.1 4 rfl) ?_
      refine gGoI (gRunSN X hH (As := [.int (iI z2), .int (iI x4)]) (m_X11_bitOf l G z2 nz2 x4 nx4 M _ rfl) calX11_bitOf k_695 k_273 ⟨by decide, by decide⟩ rfl hl rfl (Nat.le_of_ble_eq_true rfl) ⟨Nat.le_refl 0, Nat.le_refl 0⟩ dX5_stateOfInputs_23) hS (fun H locs nr23 hH hS => ?_)
      obtain ⟨k101, ek101, hf_⟩ := oj_e hf; clear hf; have hf := hf_; clear hf_
      have hk101 : ∀ (x3_101 : Int) (nx3_101 : nmI x3_101), k101 x3_101 = some q → ∀ (H : Heap) (locs : List Loc) (ls : Array Slot), gH G M H → va_S (gA G) s.heap H locs → gLv ls 9 [(0, .ref (gAd G 2 0)), (1, .ref (gAd G 7 z1)), (2, .int (iI z2)), (3, .int (iI x3_101)), (4, .int (iI x4))] → W p l e { frames := 3, cells := 0, slots := 0, locals := 68 } s m args below meth c H locs 0 0 (MQ below (gQi G q M) args s 0 0 (gA G)) (F0 m 101 ls []) := by
        intro x3_101 nx3_101 hf H locs ls hH hS hl
        subst ek101
        refine g_iinc X (a := x4) (lv' := [(4, .int (iI (wI (x4 + 1)))), (0, .ref (gAd G 2 0)), (1, .ref (gAd G 7 z1)), (2, .int (iI z2)), (3, .int (iI x3_101))]) dX5_stateOfInputs_101 hl (k := 4) rfl (by decide) rfl (fun ls hl => ?_)
        refine lv_goto (tgt := 11) X.1 X.2.1 dX5_stateOfInputs_104 (by decide) ?_
        exact ih x3_101 nx3_101 (wI (x4 + 1)) (nmI_w _) hf _ _ _ hH hS (gLv_sub hl [1, 2, 3, 4, 0] rfl)
      clear ek101
      refine g_if_ne X nr23 (tgt := 32) dX5_stateOfInputs_26 (by decide) (fun hc26 => ?_) (fun hc26 => ?_)
      · replace hf := it_f hf hc26
        refine lv_aload_n X.1 X.2.1 dX5_stateOfInputs_32 rfl (lv_at hl.1 0 rfl) ?_
        refine lv_iload X.1 X.2.1 dX5_stateOfInputs_33 (lv_at hl.1 4 rfl) ?_
        refine gGoR (gRunV X hH (As := [.int (iI x4)]) (m_X5_targetAt l G x4 nx4 M _ rfl) calX5_targetAt k_628 k_629 k_239 (by decide) cX5 rfl ⟨by decide, by decide⟩ rfl hl rfl (Nat.le_of_ble_eq_true rfl) ⟨Nat.le_refl 0, Nat.le_refl 0⟩ dX5_stateOfInputs_35) hS (fun H locs hr35 hH hS => ?_)
        replace hr35 : (f_X5_targetAt x4 M) < 15 := hr35
        refine g_get X cX8 hH (r := 7) (i := (f_X5_targetAt x4 M)) hr35 rfl 2 (by decide) k_71 rfl (v := .ref (gAd G 25 ((f_X5_targetAt x4 M)))) rfl dX5_stateOfInputs_38 ?_
        refine g_astore X (lv' := [(5, .ref (gAd G 25 ((f_X5_targetAt x4 M)))), (0, .ref (gAd G 2 0)), (1, .ref (gAd G 7 z1)), (2, .int (iI z2)), (3, .int (iI x3)), (4, .int (iI x4))]) dX5_stateOfInputs_41 hl (by decide) rfl (fun ls hl => ?_)
        refine lv_aload X.1 X.2.1 dX5_stateOfInputs_43 (lv_at hl.1 0 rfl) ?_
        refine g_alen X hH (r := 25) (i := (f_X5_targetAt x4 M)) (by show _ < 15; omega) rfl (t0 := 2) rfl (n := 4) rfl dX5_stateOfInputs_45 ?_
        refine g_istore X (lv' := [(6, .int (iI 4)), (5, .ref (gAd G 25 ((f_X5_targetAt x4 M)))), (0, .ref (gAd G 2 0)), (1, .ref (gAd G 7 z1)), (2, .int (iI z2)), (3, .int (iI x3)), (4, .int (iI x4))]) dX5_stateOfInputs_46 hl (by decide) rfl (fun ls hl => ?_)
        refine lv_iconst X.1 X.2.1 dX5_stateOfInputs_48 (v := iI 0) rfl ?_
        refine g_istore X (lv' := [(7, .int (iI 0)), (6, .int (iI 4)), (5, .ref (gAd G 25 ((f_X5_targetAt x4 M)))), (0, .ref (gAd G 2 0)), (1, .ref (gAd G 7 z1)), (2, .int (iI z2)), (3, .int (iI x3)), (4, .int (iI x4))]) dX5_stateOfInputs_49 hl (by decide) rfl (fun ls hl => ?_)
        refine w_X5_stateOfInputs_L51 X _ z1 hz1 z2 nz2 x4 nx4 ((f_X5_targetAt x4 M)) (by show _ < 15; omega) 4 (nmI_l (by decide)) M q ?_ 64 x3 nx3 0 (nmI_l (by decide)) hf _ _ _ hH hS (gLv_sub hl [3, 4, 5, 6, 7, 2, 1, 0] rfl)
        · intro y3_51_101 ny3_51_101 hf H locs ls hH hS hl
          exact hk101 y3_51_101 ny3_51_101 hf _ _ _ hH hS (gLv_sub hl [0, 1, 2, 3, 4] rfl)
      · replace hf := it_t hf hc26
        refine lv_goto (tgt := 101) X.1 X.2.1 dX5_stateOfInputs_29 (by decide) ?_
        exact hk101 x3 nx3 hf _ _ _ hH hS (gLv_sub hl [0, 1, 2, 3, 4] rfl)
theorem m_X5_stateOfInputs (l : Launch) (G : gG) (i1 : Nat) (hi1 : i1 < 15) (M : gM) (q : (Int)) (hf : f_X5_stateOfInputs i1 M = some q) : gMet l yX5_stateOfInputs cX5_stateOfInputs 9 (some .int) 3 68 G M [.ref (gAd G 2 0), .ref (gAd G 7 i1)] (gQi G q M) := by
  refine gOfW (by decide) (by show _ ≤ 9; exact Nat.le_of_ble_eq_true rfl) rfl ?_
  intro p e s m below meth c X hH ls hl
  replace hl : gLv ls 9 [(0, .ref (gAd G 2 0)), (1, .ref (gAd G 7 i1))] := hl
  have hS : va_S (gA G) s.heap s.heap [] := va_S.rf
  generalize hargs : ([.ref (gAd G 2 0), .ref (gAd G 7 i1)] : List Value).toArray = args at X ⊢
  clear hargs
  unfold f_X5_stateOfInputs at hf
  refine lv_aload_n X.1 X.2.1 dX5_stateOfInputs_0 rfl (lv_at hl.1 0 rfl) ?_
  refine lv_aload_n X.1 X.2.1 dX5_stateOfInputs_1 rfl (lv_at hl.1 1 rfl) ?_
  obtain ⟨r2, hq2, hf_⟩ := ob_e hf; clear hf; have hf := hf_; clear hf_
  refine gGoI (gRunV X hH (As := [.ref (gAd G 7 i1)]) (m_X5_inputTargets l G i1 hi1 M _ hq2) calX5_inputTargets k_697 k_698 k_274 (by decide) cX5 rfl ⟨by decide, by decide⟩ rfl hl rfl (Nat.le_of_ble_eq_true rfl) ⟨Nat.le_refl 0, Nat.le_refl 0⟩ dX5_stateOfInputs_2) hS (fun H locs nr2 hH hS => ?_)
  refine g_istore_n X (lv' := [(2, .int (iI r2)), (0, .ref (gAd G 2 0)), (1, .ref (gAd G 7 i1))]) dX5_stateOfInputs_5 rfl hl (by decide) rfl (fun ls hl => ?_)
  refine lv_iconst X.1 X.2.1 dX5_stateOfInputs_6 (v := iI 3) rfl ?_
  refine g_istore_n X (lv' := [(3, .int (iI 3)), (2, .int (iI r2)), (0, .ref (gAd G 2 0)), (1, .ref (gAd G 7 i1))]) dX5_stateOfInputs_7 rfl hl (by decide) rfl (fun ls hl => ?_)
  refine lv_iconst X.1 X.2.1 dX5_stateOfInputs_8 (v := iI 0) rfl ?_
  refine g_istore X (lv' := [(4, .int (iI 0)), (3, .int (iI 3)), (2, .int (iI r2)), (0, .ref (gAd G 2 0)), (1, .ref (gAd G 7 i1))]) dX5_stateOfInputs_9 hl (by decide) rfl (fun ls hl => ?_)
  refine w_X5_stateOfInputs_L11 X _ i1 hi1 r2 nr2 M q ?_ 64 3 (nmI_l (by decide)) 0 (nmI_l (by decide)) hf _ _ _ hH hS (gLv_sub hl [3, 4, 2, 1, 0] rfl)
  · intro y3_11_107 ny3_11_107 hf H locs ls hH hS hl
    refine lv_iload_n X.1 X.2.1 dX5_stateOfInputs_107 rfl (lv_at hl.1 0 rfl) ?_
    have hq := Option.some.inj hf; subst hq
    exact gRetI X hH hS (res := y3_11_107) ny3_11_107 dX5_stateOfInputs_108
theorem w_X9_keyOf_L53 {G : gG} {p : Program} {l : Launch} {e : Env} {s : State} {m : MethodId} {args : Array Value} {below : List Frame} {meth : Method} {c : Code} (X : gX G p s m args meth c RX9 cX9_keyOf 6 (some .int) (gWs yX9_keyOf cX9_keyOf 6 (some .int))) (k119 : Int → Option (Int)) (z0 : Nat) (hz0 : z0 < 2) (z1 : Nat) (hz1 : z1 < 15) (M : gM) (q : (Int)) (hk119 : ∀ (x3 : Int) (nx3 : nmI x3), k119 x3 = some q → ∀ (H : Heap) (locs : List Loc) (ls : Array Slot), gH G M H → va_S (gA G) s.heap H locs → gLv ls 6 [(3, .int (iI x3))] → W p l e { frames := 2, cells := 0, slots := 0, locals := 44 } s m args below meth c H locs 0 0 (MQ below (gQi G q M) args s 0 0 (gA G)) (F0 m 119 ls [])) : ∀ (n : Nat) (x3 : Int) (nx3 : nmI x3) (x4 : Int) (nx4 : nmI x4), f_X9_keyOf_L53 k119 z0 z1 M n x3 x4 = some q → ∀ (H : Heap) (locs : List Loc) (ls : Array Slot), gH G M H → va_S (gA G) s.heap H locs → gLv ls 6 [(0, .ref (gAd G 6 z0)), (1, .ref (gAd G 7 z1)), (3, .int (iI x3)), (4, .int (iI x4))] → W p l e { frames := 2, cells := 0, slots := 0, locals := 44 } s m args below meth c H locs 0 0 (MQ below (gQi G q M) args s 0 0 (gA G)) (F0 m 53 ls []) := by
  intro n
  induction n with
  | zero =>
    intro x3 nx3 x4 nx4 hf
    cases hf
  | succ n ih =>
    intro x3 nx3 x4 nx4 hf H locs ls hH hS hl
    rw [f_X9_keyOf_L53] at hf
    refine lv_iload X.1 X.2.1 dX9_keyOf_53 (lv_at hl.1 3 rfl) ?_
    refine lv_aload_n X.1 X.2.1 dX9_keyOf_55 rfl (lv_at hl.1 1 rfl) ?_
    refine g_get X cX8 hH (r := 7) (i := z1) hz1 rfl 1 (by decide) k_67 rfl (v := .ref (gAd G 8 z1)) rfl dX9_keyOf_56 ?_
    have nd59 : nmI (M 8 z1 5) := hH.1.1 _ _ _
    refine g_get X cX6 hH (r := 8) (i := z1) (by show _ < 16; omega) rfl 5 (by decide) k_34 rfl (v := .int (iI (M 8 z1 5))) rfl dX9_keyOf_59 ?_
    refine g_icmp_ge X nx4 nd59 (tgt := 119) dX9_keyOf_62 (by decide) (fun hc62 => ?_) (fun hc62 => ?_)
    · replace hf := it_f hf hc62
      exact hk119 x3 nx3 hf _ _ _ hH hS (gLv_sub hl [2] rfl)
    · replace hf := it_t hf hc62
      refine lv_aload_n X.1 X.2.1 dX9_keyOf_65 rfl (lv_at hl.1 1 rfl) ?_
      refine g_get X cX8 hH (r := 7) (i := z1) hz1 rfl 1 (by decide) k_67 rfl (v := .ref (gAd G 8 z1)) rfl dX9_keyOf_66 ?_
      refine lv_iload X.1 X.2.1 dX9_keyOf_69 (lv_at hl.1 3 rfl) ?_
      refine gGoI (gRunV X hH (As := [.int (iI x4)]) (m_X6_chosen l G z1 (by show _ < 16; omega) x4 nx4 M _ rfl) calX6_chosen k_700 k_701 k_289 (by show _ < 16; omega) cX6 rfl ⟨by decide, by decide⟩ rfl hl rfl (Nat.le_of_ble_eq_true rfl) ⟨Nat.le_refl 0, Nat.le_refl 0⟩ dX9_keyOf_71) hS (fun H locs nr71 hH hS => ?_)
      refine g_istore X (lv' := [(5, .int (iI ((f_X6_chosen z1 x4 M)))), (0, .ref (gAd G 6 z0)), (1, .ref (gAd G 7 z1)), (3, .int (iI x3)), (4, .int (iI x4))]) dX9_keyOf_74 hl (by decide) rfl (fun ls hl => ?_)
      refine lv_iload_n X.1 X.2.1 dX9_keyOf_76 rfl (lv_at hl.1 3 rfl) ?_
      refine lv_iload X.1 X.2.1 dX9_keyOf_77 (lv_at hl.1 0 rfl) ?_
      refine gGoZ (gRunSN X hH (As := [.int (iI ((f_X6_chosen z1 x4 M)))]) (m_X11_isTarget l G ((f_X6_chosen z1 x4 M)) nr71 M _ rfl) calX11_isTarget k_614 k_290 ⟨by decide, by decide⟩ rfl hl rfl (Nat.le_of_ble_eq_true rfl) ⟨Nat.le_refl 0, Nat.le_refl 0⟩ dX9_keyOf_79) hS (fun H locs br79 hH hS => ?_)
      obtain ⟨k109, ek109, hf_⟩ := oj_e hf; clear hf; have hf := hf_; clear hf_
      have hk109 : ∀ (xs1_109 : Int) (nxs1_109 : nmI xs1_109), k109 xs1_109 = some q → ∀ (H : Heap) (locs : List Loc) (ls : Array Slot), gH G M H → va_S (gA G) s.heap H locs → gLv ls 6 [(0, .ref (gAd G 6 z0)), (1, .ref (gAd G 7 z1)), (4, .int (iI x4))] → W p l e { frames := 2, cells := 0, slots := 0, locals := 44 } s m args below meth c H locs 0 0 (MQ below (gQi G q M) args s 0 0 (gA G)) (F0 m 109 ls [.int (iI xs1_109), .int (iI x3)]) := by
        intro xs1_109 nxs1_109 hf H locs ls hH hS hl
        subst ek109
        refine gGoI (gRunSN X hH (As := [.int (iI x3), .int (iI xs1_109)]) (m_X11_plus l G x3 nx3 xs1_109 nxs1_109 M _ rfl) calX11_plus k_675 k_287 ⟨by decide, by decide⟩ rfl hl rfl (Nat.le_of_ble_eq_true rfl) ⟨Nat.le_refl 0, Nat.le_refl 0⟩ dX9_keyOf_109) hS (fun H locs nr109 hH hS => ?_)
        refine g_istore_n X (lv' := [(3, .int (iI ((f_X11_plus x3 xs1_109 M)))), (0, .ref (gAd G 6 z0)), (1, .ref (gAd G 7 z1)), (4, .int (iI x4))]) dX9_keyOf_112 rfl hl (by decide) rfl (fun ls hl => ?_)
        refine g_iinc X (a := x4) (lv' := [(4, .int (iI (wI (x4 + 1)))), (3, .int (iI ((f_X11_plus x3 xs1_109 M)))), (0, .ref (gAd G 6 z0)), (1, .ref (gAd G 7 z1))]) dX9_keyOf_113 hl (k := 3) rfl (by decide) rfl (fun ls hl => ?_)
        refine lv_goto (tgt := 53) X.1 X.2.1 dX9_keyOf_116 (by decide) ?_
        exact ih ((f_X11_plus x3 xs1_109 M)) nr109 (wI (x4 + 1)) (nmI_w _) hf _ _ _ hH hS (gLv_sub hl [2, 3, 1, 0] rfl)
      clear ek109
      refine g_if_eq X (nmI_b br79) (tgt := 100) dX9_keyOf_82 (by decide) (fun hc82 => ?_) (fun hc82 => ?_)
      · replace hf := it_t hf hc82
        refine lv_aload_n X.1 X.2.1 dX9_keyOf_100 rfl (lv_at hl.1 1 rfl) ?_
        refine g_get X cX9 hH (r := 6) (i := z0) hz0 rfl 1 (by decide) k_139 rfl (v := .ref (gAd G 12 z0)) rfl dX9_keyOf_101 ?_
        refine lv_iload X.1 X.2.1 dX9_keyOf_104 (lv_at hl.1 0 rfl) ?_
        refine gGoI (gRunSN X hH (As := [.ref (gAd G 12 z0), .int (iI ((f_X6_chosen z1 x4 M)))]) (m_X11_at l G 12 z0 16 (by show _ < 2; omega) gArr_12 ((f_X6_chosen z1 x4 M)) nr71 M _ rfl) calX11_at k_590 k_288 ⟨by decide, by decide⟩ rfl hl rfl (Nat.le_of_ble_eq_true rfl) ⟨Nat.le_refl 0, Nat.le_refl 0⟩ dX9_keyOf_106) hS (fun H locs nr106 hH hS => ?_)
        exact hk109 ((f_X11_at 12 z0 16 ((f_X6_chosen z1 x4 M)) M)) nr106 hf _ _ _ hH hS (gLv_sub hl [1, 2, 4] rfl)
      · replace hf := it_f hf hc82
        refine lv_aload_n X.1 X.2.1 dX9_keyOf_85 rfl (lv_at hl.1 1 rfl) ?_
        refine g_get X cX9 hH (r := 6) (i := z0) hz0 rfl 2 (by decide) k_141 rfl (v := .ref (gAd G 23 z0)) rfl dX9_keyOf_86 ?_
        refine lv_iload X.1 X.2.1 dX9_keyOf_89 (lv_at hl.1 0 rfl) ?_
        refine lv_bipush X.1 X.2.1 dX9_keyOf_91 (v := iI 16) (by decide) ?_
        refine g_isub X dX9_keyOf_93 ?_
        refine gGoI (gRunSN X hH (As := [.ref (gAd G 23 z0), .int (iI (wI (((f_X6_chosen z1 x4 M)) - 16)))]) (m_X11_at l G 23 z0 14 (by show _ < 2; omega) gArr_23 (wI (((f_X6_chosen z1 x4 M)) - 16)) (nmI_w _) M _ rfl) calX11_at k_590 k_288 ⟨by decide, by decide⟩ rfl hl rfl (Nat.le_of_ble_eq_true rfl) ⟨Nat.le_refl 0, Nat.le_refl 0⟩ dX9_keyOf_94) hS (fun H locs nr94 hH hS => ?_)
        refine lv_goto (tgt := 109) X.1 X.2.1 dX9_keyOf_97 (by decide) ?_
        exact hk109 ((f_X11_at 23 z0 14 (wI (((f_X6_chosen z1 x4 M)) - 16)) M)) nr94 hf _ _ _ hH hS (gLv_sub hl [1, 2, 4] rfl)
theorem m_X9_keyOf (l : Launch) (G : gG) (i0 : Nat) (hi0 : i0 < 2) (i1 : Nat) (hi1 : i1 < 15) (v2 : Int) (nv2 : nmI v2) (M : gM) (q : (Int)) (hf : f_X9_keyOf i0 i1 v2 M = some q) : gMet l yX9_keyOf cX9_keyOf 6 (some .int) 2 44 G M [.ref (gAd G 6 i0), .ref (gAd G 7 i1), .int (iI v2)] (gQi G q M) := by
  refine gOfW (by decide) (by show _ ≤ 6; exact Nat.le_of_ble_eq_true rfl) rfl ?_
  intro p e s m below meth c X hH ls hl
  replace hl : gLv ls 6 [(0, .ref (gAd G 6 i0)), (1, .ref (gAd G 7 i1)), (2, .int (iI v2))] := hl
  have hS : va_S (gA G) s.heap s.heap [] := va_S.rf
  generalize hargs : ([.ref (gAd G 6 i0), .ref (gAd G 7 i1), .int (iI v2)] : List Value).toArray = args at X ⊢
  clear hargs
  unfold f_X9_keyOf at hf
  refine lv_bipush X.1 X.2.1 dX9_keyOf_0 (v := iI 7) (by decide) ?_
  refine lv_aload_n X.1 X.2.1 dX9_keyOf_2 rfl (lv_at hl.1 1 rfl) ?_
  have nd3 : nmI (M 7 i1 3) := hH.1.1 _ _ _
  refine g_get X cX8 hH (r := 7) (i := i1) hi1 rfl 3 (by decide) k_74 rfl (v := .int (iI (M 7 i1 3))) rfl dX9_keyOf_3 ?_
  refine gGoI (gRunSN X hH (As := [.int (iI 7), .int (iI (M 7 i1 3))]) (m_X11_plus l G 7 (nmI_l (by decide)) (M 7 i1 3) nd3 M _ rfl) calX11_plus k_675 k_287 ⟨by decide, by decide⟩ rfl hl rfl (Nat.le_of_ble_eq_true rfl) ⟨Nat.le_refl 0, Nat.le_refl 0⟩ dX9_keyOf_6) hS (fun H locs nr6 hH hS => ?_)
  refine g_istore_n X (lv' := [(3, .int (iI ((f_X11_plus 7 (M 7 i1 3) M)))), (0, .ref (gAd G 6 i0)), (1, .ref (gAd G 7 i1)), (2, .int (iI v2))]) dX9_keyOf_9 rfl hl (by decide) rfl (fun ls hl => ?_)
  refine lv_iload_n X.1 X.2.1 dX9_keyOf_10 rfl (lv_at hl.1 0 rfl) ?_
  refine lv_aload_n X.1 X.2.1 dX9_keyOf_11 rfl (lv_at hl.1 2 rfl) ?_
  have nd12 : nmI (M 7 i1 4) := hH.1.1 _ _ _
  refine g_get X cX8 hH (r := 7) (i := i1) hi1 rfl 4 (by decide) k_77 rfl (v := .int (iI (M 7 i1 4))) rfl dX9_keyOf_12 ?_
  refine gGoI (gRunSN X hH (As := [.int (iI ((f_X11_plus 7 (M 7 i1 3) M))), .int (iI (M 7 i1 4))]) (m_X11_plus l G ((f_X11_plus 7 (M 7 i1 3) M)) nr6 (M 7 i1 4) nd12 M _ rfl) calX11_plus k_675 k_287 ⟨by decide, by decide⟩ rfl hl rfl (Nat.le_of_ble_eq_true rfl) ⟨Nat.le_refl 0, Nat.le_refl 0⟩ dX9_keyOf_15) hS (fun H locs nr15 hH hS => ?_)
  refine g_istore_n X (lv' := [(3, .int (iI ((f_X11_plus ((f_X11_plus 7 (M 7 i1 3) M)) (M 7 i1 4) M)))), (0, .ref (gAd G 6 i0)), (1, .ref (gAd G 7 i1)), (2, .int (iI v2))]) dX9_keyOf_18 rfl hl (by decide) rfl (fun ls hl => ?_)
  refine lv_iload_n X.1 X.2.1 dX9_keyOf_19 rfl (lv_at hl.1 0 rfl) ?_
  refine lv_aload_n X.1 X.2.1 dX9_keyOf_20 rfl (lv_at hl.1 1 rfl) ?_
  refine g_get X cX9 hH (r := 6) (i := i0) hi0 rfl 0 (by decide) k_138 rfl (v := .ref (gAd G 14 0)) rfl dX9_keyOf_21 ?_
  refine lv_aload_n X.1 X.2.1 dX9_keyOf_24 rfl (lv_at hl.1 2 rfl) ?_
  have nd25 : nmI (M 7 i1 4) := hH.1.1 _ _ _
  refine g_get X cX8 hH (r := 7) (i := i1) hi1 rfl 4 (by decide) k_77 rfl (v := .int (iI (M 7 i1 4))) rfl dX9_keyOf_25 ?_
  refine gGoI (gRunSN X hH (As := [.ref (gAd G 14 0), .int (iI (M 7 i1 4))]) (m_X11_at l G 14 0 4 (by decide) gArr_14 (M 7 i1 4) nd25 M _ rfl) calX11_at k_590 k_288 ⟨by decide, by decide⟩ rfl hl rfl (Nat.le_of_ble_eq_true rfl) ⟨Nat.le_refl 0, Nat.le_refl 0⟩ dX9_keyOf_28) hS (fun H locs nr28 hH hS => ?_)
  refine gGoI (gRunSN X hH (As := [.int (iI ((f_X11_plus ((f_X11_plus 7 (M 7 i1 3) M)) (M 7 i1 4) M))), .int (iI ((f_X11_at 14 0 4 (M 7 i1 4) M)))]) (m_X11_plus l G ((f_X11_plus ((f_X11_plus 7 (M 7 i1 3) M)) (M 7 i1 4) M)) nr15 ((f_X11_at 14 0 4 (M 7 i1 4) M)) nr28 M _ rfl) calX11_plus k_675 k_287 ⟨by decide, by decide⟩ rfl hl rfl (Nat.le_of_ble_eq_true rfl) ⟨Nat.le_refl 0, Nat.le_refl 0⟩ dX9_keyOf_31) hS (fun H locs nr31 hH hS => ?_)
  refine g_istore_n X (lv' := [(3, .int (iI ((f_X11_plus ((f_X11_plus ((f_X11_plus 7 (M 7 i1 3) M)) (M 7 i1 4) M)) ((f_X11_at 14 0 4 (M 7 i1 4) M)) M)))), (0, .ref (gAd G 6 i0)), (1, .ref (gAd G 7 i1)), (2, .int (iI v2))]) dX9_keyOf_34 rfl hl (by decide) rfl (fun ls hl => ?_)
  refine lv_iload_n X.1 X.2.1 dX9_keyOf_35 rfl (lv_at hl.1 0 rfl) ?_
  refine lv_aload_n X.1 X.2.1 dX9_keyOf_36 rfl (lv_at hl.1 2 rfl) ?_
  have nd37 : nmI (M 7 i1 5) := hH.1.1 _ _ _
  refine g_get X cX8 hH (r := 7) (i := i1) hi1 rfl 5 (by decide) k_82 rfl (v := .int (iI (M 7 i1 5))) rfl dX9_keyOf_37 ?_
  refine gGoI (gRunSN X hH (As := [.int (iI ((f_X11_plus ((f_X11_plus ((f_X11_plus 7 (M 7 i1 3) M)) (M 7 i1 4) M)) ((f_X11_at 14 0 4 (M 7 i1 4) M)) M))), .int (iI (M 7 i1 5))]) (m_X11_plus l G ((f_X11_plus ((f_X11_plus ((f_X11_plus 7 (M 7 i1 3) M)) (M 7 i1 4) M)) ((f_X11_at 14 0 4 (M 7 i1 4) M)) M)) nr31 (M 7 i1 5) nd37 M _ rfl) calX11_plus k_675 k_287 ⟨by decide, by decide⟩ rfl hl rfl (Nat.le_of_ble_eq_true rfl) ⟨Nat.le_refl 0, Nat.le_refl 0⟩ dX9_keyOf_40) hS (fun H locs nr40 hH hS => ?_)
  refine g_istore_n X (lv' := [(3, .int (iI ((f_X11_plus ((f_X11_plus ((f_X11_plus ((f_X11_plus 7 (M 7 i1 3) M)) (M 7 i1 4) M)) ((f_X11_at 14 0 4 (M 7 i1 4) M)) M)) (M 7 i1 5) M)))), (0, .ref (gAd G 6 i0)), (1, .ref (gAd G 7 i1)), (2, .int (iI v2))]) dX9_keyOf_43 rfl hl (by decide) rfl (fun ls hl => ?_)
  refine lv_iload_n X.1 X.2.1 dX9_keyOf_44 rfl (lv_at hl.1 0 rfl) ?_
  refine lv_iload_n X.1 X.2.1 dX9_keyOf_45 rfl (lv_at hl.1 3 rfl) ?_
  refine gGoI (gRunSN X hH (As := [.int (iI ((f_X11_plus ((f_X11_plus ((f_X11_plus ((f_X11_plus 7 (M 7 i1 3) M)) (M 7 i1 4) M)) ((f_X11_at 14 0 4 (M 7 i1 4) M)) M)) (M 7 i1 5) M))), .int (iI v2)]) (m_X11_plus l G ((f_X11_plus ((f_X11_plus ((f_X11_plus ((f_X11_plus 7 (M 7 i1 3) M)) (M 7 i1 4) M)) ((f_X11_at 14 0 4 (M 7 i1 4) M)) M)) (M 7 i1 5) M)) nr40 v2 nv2 M _ rfl) calX11_plus k_675 k_287 ⟨by decide, by decide⟩ rfl hl rfl (Nat.le_of_ble_eq_true rfl) ⟨Nat.le_refl 0, Nat.le_refl 0⟩ dX9_keyOf_46) hS (fun H locs nr46 hH hS => ?_)
  refine g_istore_n X (lv' := [(3, .int (iI ((f_X11_plus ((f_X11_plus ((f_X11_plus ((f_X11_plus ((f_X11_plus 7 (M 7 i1 3) M)) (M 7 i1 4) M)) ((f_X11_at 14 0 4 (M 7 i1 4) M)) M)) (M 7 i1 5) M)) v2 M)))), (0, .ref (gAd G 6 i0)), (1, .ref (gAd G 7 i1)), (2, .int (iI v2))]) dX9_keyOf_49 rfl hl (by decide) rfl (fun ls hl => ?_)
  refine lv_iconst X.1 X.2.1 dX9_keyOf_50 (v := iI 0) rfl ?_
  refine g_istore X (lv' := [(4, .int (iI 0)), (3, .int (iI ((f_X11_plus ((f_X11_plus ((f_X11_plus ((f_X11_plus ((f_X11_plus 7 (M 7 i1 3) M)) (M 7 i1 4) M)) ((f_X11_at 14 0 4 (M 7 i1 4) M)) M)) (M 7 i1 5) M)) v2 M)))), (0, .ref (gAd G 6 i0)), (1, .ref (gAd G 7 i1)), (2, .int (iI v2))]) dX9_keyOf_51 hl (by decide) rfl (fun ls hl => ?_)
  refine w_X9_keyOf_L53 X _ i0 hi0 i1 hi1 M q ?_ 64 ((f_X11_plus ((f_X11_plus ((f_X11_plus ((f_X11_plus ((f_X11_plus 7 (M 7 i1 3) M)) (M 7 i1 4) M)) ((f_X11_at 14 0 4 (M 7 i1 4) M)) M)) (M 7 i1 5) M)) v2 M)) nr46 0 (nmI_l (by decide)) hf _ _ _ hH hS (gLv_sub hl [2, 3, 1, 0] rfl)
  · intro y3_53_119 ny3_53_119 hf H locs ls hH hS hl
    refine lv_iload_n X.1 X.2.1 dX9_keyOf_119 rfl (lv_at hl.1 0 rfl) ?_
    have hq := Option.some.inj hf; subst hq
    exact gRetI X hH hS (res := y3_53_119) ny3_53_119 dX9_keyOf_120
theorem m_X8_breaksOut (l : Launch) (G : gG) (i0 : Nat) (hi0 : i0 < 15) (v1 : Int) (nv1 : nmI v1) (M : gM) (q : (Int)) (hf : f_X8_breaksOut i0 v1 M = q) : gMet l yX8_breaksOut cX8_breaksOut 2 (some .boolean) 1 21 G M [.ref (gAd G 7 i0), .int (iI v1)] (gQz G q M) := by
  refine gOfW (by decide) (by show _ ≤ 2; exact Nat.le_of_ble_eq_true rfl) rfl ?_
  intro p e s m below meth c X hH ls hl
  replace hl : gLv ls 2 [(0, .ref (gAd G 7 i0)), (1, .int (iI v1))] := hl
  have hS : va_S (gA G) s.heap s.heap [] := va_S.rf
  generalize hargs : ([.ref (gAd G 7 i0), .int (iI v1)] : List Value).toArray = args at X ⊢
  clear hargs
  unfold f_X8_breaksOut at hf
  refine lv_aload_n X.1 X.2.1 dX8_breaksOut_0 rfl (lv_at hl.1 0 rfl) ?_
  have nd1 : nmI (M 7 i0 7) := hH.1.1 _ _ _
  refine g_get X cX8 hH (r := 7) (i := i0) hi0 rfl 7 (by decide) k_88 rfl (v := .int (iI (M 7 i0 7))) rfl dX8_breaksOut_1 ?_
  refine lv_iconst X.1 X.2.1 dX8_breaksOut_4 (v := iI (-1)) rfl ?_
  refine g_icmp_eq X nd1 (nmI_l (by decide)) (tgt := 26) dX8_breaksOut_5 (by decide) (fun hc5 => ?_) (fun hc5 => ?_)
  · replace hf := it_t hf hc5
    refine lv_iconst X.1 X.2.1 dX8_breaksOut_26 (v := iI 0) rfl ?_
    subst hf
    exact gRetZ X hH hS (res := 0) (by decide) dX8_breaksOut_27
  · replace hf := it_f hf hc5
    refine lv_aload_n X.1 X.2.1 dX8_breaksOut_8 rfl (lv_at hl.1 0 rfl) ?_
    have nd9 : nmI (M 7 i0 7) := hH.1.1 _ _ _
    refine g_get X cX8 hH (r := 7) (i := i0) hi0 rfl 7 (by decide) k_88 rfl (v := .int (iI (M 7 i0 7))) rfl dX8_breaksOut_9 ?_
    refine lv_iload_n X.1 X.2.1 dX8_breaksOut_12 rfl (lv_at hl.1 1 rfl) ?_
    refine lv_bipush X.1 X.2.1 dX8_breaksOut_13 (v := iI 16) (by decide) ?_
    refine g_irem X nv1 (nmI_l (by decide)) (by decide) dX8_breaksOut_15 ?_
    refine gGoI (gRunSN X hH (As := [.int (iI (M 7 i0 7)), .int (iI (gRem v1 16))]) (m_X11_bitOf l G (M 7 i0 7) nd9 (gRem v1 16) (nmI_rem _ _) M _ rfl) calX11_bitOf k_695 k_292 ⟨by decide, by decide⟩ rfl hl rfl (Nat.le_of_ble_eq_true rfl) ⟨Nat.le_refl 0, Nat.le_refl 0⟩ dX8_breaksOut_16) hS (fun H locs nr16 hH hS => ?_)
    refine g_if_ne X nr16 (tgt := 26) dX8_breaksOut_19 (by decide) (fun hc19 => ?_) (fun hc19 => ?_)
    · replace hf := it_f hf hc19
      refine lv_iconst X.1 X.2.1 dX8_breaksOut_26 (v := iI 0) rfl ?_
      subst hf
      exact gRetZ X hH hS (res := 0) (by decide) dX8_breaksOut_27
    · replace hf := it_t hf hc19
      refine lv_iconst X.1 X.2.1 dX8_breaksOut_22 (v := iI 1) rfl ?_
      refine lv_goto (tgt := 27) X.1 X.2.1 dX8_breaksOut_23 (by decide) ?_
      subst hf
      exact gRetZ X hH hS (res := 1) (by decide) dX8_breaksOut_27
theorem m_X8_fileFound (l : Launch) (G : gG) (i0 : Nat) (hi0 : i0 < 15) (v1 : Int) (nv1 : nmI v1) (M : gM) (q : (Int)) (hf : f_X8_fileFound i0 v1 M = q) : gMet l yX8_fileFound cX8_fileFound 2 (some .int) 0 0 G M [.ref (gAd G 7 i0), .int (iI v1)] (gQi G q M) := by
  refine gOfW (by decide) (by show _ ≤ 2; exact Nat.le_of_ble_eq_true rfl) rfl ?_
  intro p e s m below meth c X hH ls hl
  replace hl : gLv ls 2 [(0, .ref (gAd G 7 i0)), (1, .int (iI v1))] := hl
  have hS : va_S (gA G) s.heap s.heap [] := va_S.rf
  generalize hargs : ([.ref (gAd G 7 i0), .int (iI v1)] : List Value).toArray = args at X ⊢
  clear hargs
  unfold f_X8_fileFound at hf
  refine lv_aload_n X.1 X.2.1 dX8_fileFound_0 rfl (lv_at hl.1 0 rfl) ?_
  have nd1 : nmI (M 7 i0 7) := hH.1.1 _ _ _
  refine g_get X cX8 hH (r := 7) (i := i0) hi0 rfl 7 (by decide) k_88 rfl (v := .int (iI (M 7 i0 7))) rfl dX8_fileFound_1 ?_
  refine lv_iconst X.1 X.2.1 dX8_fileFound_4 (v := iI (-1)) rfl ?_
  refine g_icmp_ne X nd1 (nmI_l (by decide)) (tgt := 12) dX8_fileFound_5 (by decide) (fun hc5 => ?_) (fun hc5 => ?_)
  · replace hf := it_f hf hc5
    refine lv_iload_n X.1 X.2.1 dX8_fileFound_12 rfl (lv_at hl.1 1 rfl) ?_
    refine lv_bipush X.1 X.2.1 dX8_fileFound_13 (v := iI 16) (by decide) ?_
    refine g_irem X nv1 (nmI_l (by decide)) (by decide) dX8_fileFound_15 ?_
    subst hf
    exact gRetI X hH hS (res := gRem v1 16) (nmI_rem _ _) dX8_fileFound_16
  · replace hf := it_t hf hc5
    refine lv_iconst X.1 X.2.1 dX8_fileFound_8 (v := iI (-1)) rfl ?_
    refine lv_goto (tgt := 16) X.1 X.2.1 dX8_fileFound_9 (by decide) ?_
    subst hf
    exact gRetI X hH hS (res := (-1)) (nmI_l (by decide)) dX8_fileFound_16
theorem m_X9_contentFound (l : Launch) (G : gG) (i0 : Nat) (hi0 : i0 < 2) (i1 : Nat) (hi1 : i1 < 15) (v2 : Int) (nv2 : nmI v2) (M : gM) (q : (Int)) (hf : f_X9_contentFound i0 i1 v2 M = q) : gMet l yX9_contentFound cX9_contentFound 3 (some .int) 1 21 G M [.ref (gAd G 6 i0), .ref (gAd G 7 i1), .int (iI v2)] (gQi G q M) := by
  refine gOfW (by decide) (by show _ ≤ 3; exact Nat.le_of_ble_eq_true rfl) rfl ?_
  intro p e s m below meth c X hH ls hl
  replace hl : gLv ls 3 [(0, .ref (gAd G 6 i0)), (1, .ref (gAd G 7 i1)), (2, .int (iI v2))] := hl
  have hS : va_S (gA G) s.heap s.heap [] := va_S.rf
  generalize hargs : ([.ref (gAd G 6 i0), .ref (gAd G 7 i1), .int (iI v2)] : List Value).toArray = args at X ⊢
  clear hargs
  unfold f_X9_contentFound at hf
  refine lv_aload_n X.1 X.2.1 dX9_contentFound_0 rfl (lv_at hl.1 0 rfl) ?_
  refine g_get X cX9 hH (r := 6) (i := i0) hi0 rfl 1 (by decide) k_139 rfl (v := .ref (gAd G 12 i0)) rfl dX9_contentFound_1 ?_
  refine lv_aload_n X.1 X.2.1 dX9_contentFound_4 rfl (lv_at hl.1 1 rfl) ?_
  refine lv_iload_n X.1 X.2.1 dX9_contentFound_5 rfl (lv_at hl.1 2 rfl) ?_
  refine gGoI (gRunV X hH (As := [.int (iI v2)]) (m_X8_fileFound l G i1 hi1 v2 nv2 M _ rfl) calX8_fileFound k_731 k_732 k_294 hi1 cX8 rfl ⟨by decide, by decide⟩ rfl hl rfl (Nat.le_of_ble_eq_true rfl) ⟨Nat.le_refl 0, Nat.le_refl 0⟩ dX9_contentFound_6) hS (fun H locs nr6 hH hS => ?_)
  refine gGoI (gRunSN X hH (As := [.ref (gAd G 12 i0), .int (iI ((f_X8_fileFound i1 v2 M)))]) (m_X11_at l G 12 i0 16 (by show _ < 2; omega) gArr_12 ((f_X8_fileFound i1 v2 M)) nr6 M _ rfl) calX11_at k_590 k_288 ⟨by decide, by decide⟩ rfl hl rfl (Nat.le_of_ble_eq_true rfl) ⟨Nat.le_refl 0, Nat.le_refl 0⟩ dX9_contentFound_9) hS (fun H locs nr9 hH hS => ?_)
  subst hf
  exact gRetI X hH hS (res := (f_X11_at 12 i0 16 ((f_X8_fileFound i1 v2 M)) M)) nr9 dX9_contentFound_12
theorem m_X3_isOf (l : Launch) (G : gG) (i0 : Nat) (hi0 : i0 < 40) (v1 : Int) (nv1 : nmI v1) (v2 : Int) (nv2 : nmI v2) (v3 : Int) (nv3 : nmI v3) (M : gM) (q : (Int)) (hf : f_X3_isOf i0 v1 v2 v3 M = q) : gMet l yX3_isOf cX3_isOf 4 (some .boolean) 0 0 G M [.ref (gAd G 10 i0), .int (iI v1), .int (iI v2), .int (iI v3)] (gQz G q M) := by
  refine gOfW (by decide) (by show _ ≤ 4; exact Nat.le_of_ble_eq_true rfl) rfl ?_
  intro p e s m below meth c X hH ls hl
  replace hl : gLv ls 4 [(0, .ref (gAd G 10 i0)), (1, .int (iI v1)), (2, .int (iI v2)), (3, .int (iI v3))] := hl
  have hS : va_S (gA G) s.heap s.heap [] := va_S.rf
  generalize hargs : ([.ref (gAd G 10 i0), .int (iI v1), .int (iI v2), .int (iI v3)] : List Value).toArray = args at X ⊢
  clear hargs
  unfold f_X3_isOf at hf
  refine lv_aload_n X.1 X.2.1 dX3_isOf_0 rfl (lv_at hl.1 0 rfl) ?_
  have nd1 : nmI (M 10 i0 6) := hH.1.1 _ _ _
  have bd1 := hH.1.2.1 10 i0 6 rfl
  refine g_get X cX3 hH (r := 10) (i := i0) hi0 rfl 6 (by decide) k_128 rfl (v := .int (iI (M 10 i0 6))) rfl dX3_isOf_1 ?_
  refine g_if_eq X nd1 (tgt := 35) dX3_isOf_4 (by decide) (fun hc4 => ?_) (fun hc4 => ?_)
  · replace hf := it_t hf hc4
    refine lv_iconst X.1 X.2.1 dX3_isOf_35 (v := iI 0) rfl ?_
    subst hf
    exact gRetZ X hH hS (res := 0) (by decide) dX3_isOf_36
  · replace hf := it_f hf hc4
    refine lv_aload_n X.1 X.2.1 dX3_isOf_7 rfl (lv_at hl.1 0 rfl) ?_
    have nd8 : nmI (M 10 i0 0) := hH.1.1 _ _ _
    refine g_get X cX3 hH (r := 10) (i := i0) hi0 rfl 0 (by decide) k_117 rfl (v := .int (iI (M 10 i0 0))) rfl dX3_isOf_8 ?_
    refine lv_iload_n X.1 X.2.1 dX3_isOf_11 rfl (lv_at hl.1 1 rfl) ?_
    refine g_icmp_ne X nd8 nv1 (tgt := 35) dX3_isOf_12 (by decide) (fun hc12 => ?_) (fun hc12 => ?_)
    · replace hf := it_f hf hc12
      refine lv_iconst X.1 X.2.1 dX3_isOf_35 (v := iI 0) rfl ?_
      subst hf
      exact gRetZ X hH hS (res := 0) (by decide) dX3_isOf_36
    · replace hf := it_t hf hc12
      refine lv_aload_n X.1 X.2.1 dX3_isOf_15 rfl (lv_at hl.1 0 rfl) ?_
      have nd16 : nmI (M 10 i0 1) := hH.1.1 _ _ _
      refine g_get X cX3 hH (r := 10) (i := i0) hi0 rfl 1 (by decide) k_118 rfl (v := .int (iI (M 10 i0 1))) rfl dX3_isOf_16 ?_
      refine lv_iload_n X.1 X.2.1 dX3_isOf_19 rfl (lv_at hl.1 2 rfl) ?_
      refine g_icmp_ne X nd16 nv2 (tgt := 35) dX3_isOf_20 (by decide) (fun hc20 => ?_) (fun hc20 => ?_)
      · replace hf := it_f hf hc20
        refine lv_iconst X.1 X.2.1 dX3_isOf_35 (v := iI 0) rfl ?_
        subst hf
        exact gRetZ X hH hS (res := 0) (by decide) dX3_isOf_36
      · replace hf := it_t hf hc20
        refine lv_aload_n X.1 X.2.1 dX3_isOf_23 rfl (lv_at hl.1 0 rfl) ?_
        have nd24 : nmI (M 10 i0 2) := hH.1.1 _ _ _
        refine g_get X cX3 hH (r := 10) (i := i0) hi0 rfl 2 (by decide) k_119 rfl (v := .int (iI (M 10 i0 2))) rfl dX3_isOf_24 ?_
        refine lv_iload_n X.1 X.2.1 dX3_isOf_27 rfl (lv_at hl.1 3 rfl) ?_
        refine g_icmp_ne X nd24 nv3 (tgt := 35) dX3_isOf_28 (by decide) (fun hc28 => ?_) (fun hc28 => ?_)
        · replace hf := it_f hf hc28
          refine lv_iconst X.1 X.2.1 dX3_isOf_35 (v := iI 0) rfl ?_
          subst hf
          exact gRetZ X hH hS (res := 0) (by decide) dX3_isOf_36
        · replace hf := it_t hf hc28
          refine lv_iconst X.1 X.2.1 dX3_isOf_31 (v := iI 1) rfl ?_
          refine lv_goto (tgt := 36) X.1 X.2.1 dX3_isOf_32 (by decide) ?_
          subst hf
          exact gRetZ X hH hS (res := 1) (by decide) dX3_isOf_36
theorem w_X1_firstFit_L3 {G : gG} {p : Program} {l : Launch} {e : Env} {s : State} {m : MethodId} {args : Array Value} {below : List Frame} {meth : Method} {c : Code} (X : gX G p s m args meth c RX1 cX1_firstFit 7 (some (.object "BuildGrid$Entry")) (gWs yX1_firstFit cX1_firstFit 7 (some (.object "BuildGrid$Entry")))) (k58 : Option (Option Nat)) (z1 : Int) (nz1 : nmI z1) (z2 : Int) (nz2 : nmI z2) (z3 : Int) (nz3 : nmI z3) (z4 : Int) (bz4 : z4 = 0 ∨ z4 = 1) (M : gM) (q : (Option Nat)) (hk58 : k58 = some q → ∀ (H : Heap) (locs : List Loc) (ls : Array Slot), gH G M H → va_S (gA G) s.heap H locs → gLv ls 7 [] → W p l e { frames := 3, cells := 0, slots := 0, locals := 61 } s m args below meth c H locs 0 0 (MQ below (gQq G 10 q M) args s 0 0 (gA G)) (F0 m 58 ls [])) : ∀ (n : Nat) (x5 : Int) (nx5 : nmI x5), f_X1_firstFit_L3 k58 z1 z2 z3 z4 M n x5 = some q → ∀ (H : Heap) (locs : List Loc) (ls : Array Slot), gH G M H → va_S (gA G) s.heap H locs → gLv ls 7 [(0, .ref (gAd G 3 0)), (1, .int (iI z1)), (2, .int (iI z2)), (3, .int (iI z3)), (4, .int (iI z4)), (5, .int (iI x5))] → W p l e { frames := 3, cells := 0, slots := 0, locals := 61 } s m args below meth c H locs 0 0 (MQ below (gQq G 10 q M) args s 0 0 (gA G)) (F0 m 3 ls []) := by
  intro n
  induction n with
  | zero =>
    intro x5 nx5 hf
    cases hf
  | succ n ih =>
    intro x5 nx5 hf H locs ls hH hS hl
    rw [f_X1_firstFit_L3] at hf
    refine lv_iload X.1 X.2.1 dX1_firstFit_3 (lv_at hl.1 5 rfl) ?_
    refine lv_aload_n X.1 X.2.1 dX1_firstFit_5 rfl (lv_at hl.1 0 rfl) ?_
    have nd6 : nmI (M 3 0 2) := hH.1.1 _ _ _
    refine g_get X cX1 hH (r := 3) (i := 0) (by decide) rfl 2 (by decide) k_132 rfl (v := .int (iI (M 3 0 2))) rfl dX1_firstFit_6 ?_
    refine g_icmp_ge X nx5 nd6 (tgt := 58) dX1_firstFit_9 (by decide) (fun hc9 => ?_) (fun hc9 => ?_)
    · replace hf := it_f hf hc9
      exact hk58  hf _ _ _ hH hS (gLv_sub hl [] rfl)
    · replace hf := it_t hf hc9
      refine lv_aload_n X.1 X.2.1 dX1_firstFit_12 rfl (lv_at hl.1 0 rfl) ?_
      refine lv_iload X.1 X.2.1 dX1_firstFit_13 (lv_at hl.1 5 rfl) ?_
      obtain ⟨r15, hq15, hf_⟩ := ob_e hf; clear hf; have hf := hf_; clear hf_
      refine gGoQ (gRunV X hH (As := [.int (iI x5)]) (m_X1_entryAt l G x5 nx5 M _ hq15) calX1_entryAt k_662 k_663 k_297 (by decide) cX1 rfl ⟨by decide, by decide⟩ rfl hl rfl (Nat.le_of_ble_eq_true rfl) ⟨Nat.le_refl 0, Nat.le_refl 0⟩ dX1_firstFit_15) hS (fun H locs hr15 hH hS => ?_)
      refine g_astoreO X (lv' := [(6, va_re (gAd G 10) r15), (0, .ref (gAd G 3 0)), (1, .int (iI z1)), (2, .int (iI z2)), (3, .int (iI z3)), (4, .int (iI z4)), (5, .int (iI x5))]) dX1_firstFit_18 hl (by decide) rfl (fun ls hl => ?_)
      refine g_aloadO X (ad := gAd G 10) (x := r15) dX1_firstFit_20 (lv_at hl.1 0 rfl) ?_
      obtain ⟨k52, ek52, hf_⟩ := oj_e hf; clear hf; have hf := hf_; clear hf_
      have hk52 : k52 = some q → ∀ (H : Heap) (locs : List Loc) (ls : Array Slot), gH G M H → va_S (gA G) s.heap H locs → gLv ls 7 [(0, .ref (gAd G 3 0)), (1, .int (iI z1)), (2, .int (iI z2)), (3, .int (iI z3)), (4, .int (iI z4)), (5, .int (iI x5))] → W p l e { frames := 3, cells := 0, slots := 0, locals := 61 } s m args below meth c H locs 0 0 (MQ below (gQq G 10 q M) args s 0 0 (gA G)) (F0 m 52 ls []) := by
        intro  hf H locs ls hH hS hl
        subst ek52
        refine g_iinc X (a := x5) (lv' := [(5, .int (iI (wI (x5 + 1)))), (0, .ref (gAd G 3 0)), (1, .int (iI z1)), (2, .int (iI z2)), (3, .int (iI z3)), (4, .int (iI z4))]) dX1_firstFit_52 hl (k := 5) rfl (by decide) rfl (fun ls hl => ?_)
        refine lv_goto (tgt := 3) X.1 X.2.1 dX1_firstFit_55 (by decide) ?_
        exact ih (wI (x5 + 1)) (nmI_w _) hf _ _ _ hH hS (gLv_sub hl [1, 2, 3, 4, 5, 0] rfl)
      clear ek52
      refine g_ifnullO X (ad := gAd G 10) (x := r15) (tgt := 52) dX1_firstFit_22 (by decide) ?_ ?_
      · intro hx
        subst hx
        replace hf := om_n hf
        exact hk52  hf _ _ _ hH hS (gLv_sub hl [1, 2, 3, 4, 5, 6] rfl)
      · intro a22 hx
        subst hx
        replace hf := om_s hf
        have ha22 : a22 < 40 := hr15 _ rfl
        refine lv_aload X.1 X.2.1 dX1_firstFit_25 (lv_at hl.1 0 rfl) ?_
        refine lv_iload_n X.1 X.2.1 dX1_firstFit_27 rfl (lv_at hl.1 2 rfl) ?_
        refine lv_iload_n X.1 X.2.1 dX1_firstFit_28 rfl (lv_at hl.1 3 rfl) ?_
        refine lv_iload_n X.1 X.2.1 dX1_firstFit_29 rfl (lv_at hl.1 4 rfl) ?_
        refine gGoZ (gRunV X hH (As := [.int (iI z1), .int (iI z2), .int (iI z3)]) (m_X3_isOf l G a22 ha22 z1 nz1 z2 nz2 z3 nz3 M _ rfl) calX3_isOf k_737 k_738 k_298 ha22 cX3 rfl ⟨by decide, by decide⟩ rfl hl rfl (Nat.le_of_ble_eq_true rfl) ⟨Nat.le_refl 0, Nat.le_refl 0⟩ dX1_firstFit_30) hS (fun H locs br30 hH hS => ?_)
        refine g_if_eq X (nmI_b br30) (tgt := 52) dX1_firstFit_33 (by decide) (fun hc33 => ?_) (fun hc33 => ?_)
        · replace hf := it_t hf hc33
          exact hk52  hf _ _ _ hH hS (gLv_sub hl [1, 2, 3, 4, 5, 6] rfl)
        · replace hf := it_f hf hc33
          refine lv_iload X.1 X.2.1 dX1_firstFit_36 (lv_at hl.1 5 rfl) ?_
          refine g_if_eq X (nmI_b bz4) (tgt := 49) dX1_firstFit_38 (by decide) (fun hc38 => ?_) (fun hc38 => ?_)
          · replace hf := it_t hf hc38
            refine lv_aload X.1 X.2.1 dX1_firstFit_49 (lv_at hl.1 0 rfl) ?_
            have hq := Option.some.inj hf; subst hq
            exact gRetQ X hH hS (reg := 10) (o := (some a22)) (fun a h => by cases h; exact ha22) dX1_firstFit_51
          · replace hf := it_f hf hc38
            refine lv_aload X.1 X.2.1 dX1_firstFit_41 (lv_at hl.1 0 rfl) ?_
            refine gGoZ (gRunV X hH (As := []) (m_X3_isRightlySigned l G a22 ha22 M _ rfl) calX3_isRightlySigned k_670 k_671 k_299 ha22 cX3 rfl ⟨by decide, by decide⟩ rfl hl rfl (Nat.le_of_ble_eq_true rfl) ⟨Nat.le_refl 0, Nat.le_refl 0⟩ dX1_firstFit_43) hS (fun H locs br43 hH hS => ?_)
            refine g_if_eq X (nmI_b br43) (tgt := 52) dX1_firstFit_46 (by decide) (fun hc46 => ?_) (fun hc46 => ?_)
            · replace hf := it_t hf hc46
              exact hk52  hf _ _ _ hH hS (gLv_sub hl [1, 2, 3, 4, 5, 6] rfl)
            · replace hf := it_f hf hc46
              refine lv_aload X.1 X.2.1 dX1_firstFit_49 (lv_at hl.1 0 rfl) ?_
              have hq := Option.some.inj hf; subst hq
              exact gRetQ X hH hS (reg := 10) (o := (some a22)) (fun a h => by cases h; exact ha22) dX1_firstFit_51
theorem m_X1_firstFit (l : Launch) (G : gG) (v1 : Int) (nv1 : nmI v1) (v2 : Int) (nv2 : nmI v2) (v3 : Int) (nv3 : nmI v3) (v4 : Int) (bv4 : v4 = 0 ∨ v4 = 1) (M : gM) (q : (Option Nat)) (hf : f_X1_firstFit v1 v2 v3 v4 M = some q) : gMet l yX1_firstFit cX1_firstFit 7 (some (.object "BuildGrid$Entry")) 3 61 G M [.ref (gAd G 3 0), .int (iI v1), .int (iI v2), .int (iI v3), .int (iI v4)] (gQq G 10 q M) := by
  refine gOfW (by decide) (by show _ ≤ 7; exact Nat.le_of_ble_eq_true rfl) rfl ?_
  intro p e s m below meth c X hH ls hl
  replace hl : gLv ls 7 [(0, .ref (gAd G 3 0)), (1, .int (iI v1)), (2, .int (iI v2)), (3, .int (iI v3)), (4, .int (iI v4))] := hl
  have hS : va_S (gA G) s.heap s.heap [] := va_S.rf
  generalize hargs : ([.ref (gAd G 3 0), .int (iI v1), .int (iI v2), .int (iI v3), .int (iI v4)] : List Value).toArray = args at X ⊢
  clear hargs
  unfold f_X1_firstFit at hf
  refine lv_iconst X.1 X.2.1 dX1_firstFit_0 (v := iI 0) rfl ?_
  refine g_istore X (lv' := [(5, .int (iI 0)), (0, .ref (gAd G 3 0)), (1, .int (iI v1)), (2, .int (iI v2)), (3, .int (iI v3)), (4, .int (iI v4))]) dX1_firstFit_1 hl (by decide) rfl (fun ls hl => ?_)
  refine w_X1_firstFit_L3 X _ v1 nv1 v2 nv2 v3 nv3 v4 bv4 M q ?_ 64 0 (nmI_l (by decide)) hf _ _ _ hH hS (gLv_sub hl [1, 2, 3, 4, 5, 0] rfl)
  · intro  hf H locs ls hH hS hl
    refine lv_null X.1 X.2.1 dX1_firstFit_58 ?_
    have hq := Option.some.inj hf; subst hq
    exact gRetQ X hH hS (reg := 10) (o := none) (fun a h => nomatch h) dX1_firstFit_59
theorem m_X0_finish (l : Launch) (G : gG) (i0 : Nat) (hi0 : i0 < 60) (v1 : Int) (nv1 : nmI v1) (v2 : Int) (nv2 : nmI v2) (M : gM) (q : gM) (hf : f_X0_finish i0 v1 v2 M = q) : gMet l yX0_finish cX0_finish 3 none 0 0 G M [.ref (gAd G 9 i0), .int (iI v1), .int (iI v2)] (gQv G q) := by
  refine gOfW (by decide) (by show _ ≤ 3; exact Nat.le_of_ble_eq_true rfl) rfl ?_
  intro p e s m below meth c X hH ls hl
  replace hl : gLv ls 3 [(0, .ref (gAd G 9 i0)), (1, .int (iI v1)), (2, .int (iI v2))] := hl
  have hS : va_S (gA G) s.heap s.heap [] := va_S.rf
  generalize hargs : ([.ref (gAd G 9 i0), .int (iI v1), .int (iI v2)] : List Value).toArray = args at X ⊢
  clear hargs
  unfold f_X0_finish at hf
  refine lv_aload_n X.1 X.2.1 dX0_finish_0 rfl (lv_at hl.1 0 rfl) ?_
  refine lv_iconst X.1 X.2.1 dX0_finish_1 (v := iI 3) rfl ?_
  refine g_putI X cX0 hH hS (r := 9) (i := i0) hi0 rfl 2 (by decide) k_44 rfl rfl rfl (Nat.le_of_ble_eq_true rfl) (x := 3) (nmI_l (by decide)) rfl rfl rfl dX0_finish_2 (fun H locs hH hS => ?_)
  refine lv_aload_n X.1 X.2.1 dX0_finish_5 rfl (lv_at hl.1 0 rfl) ?_
  refine lv_iload_n X.1 X.2.1 dX0_finish_6 rfl (lv_at hl.1 1 rfl) ?_
  refine g_putI X cX0 hH hS (r := 9) (i := i0) hi0 rfl 3 (by decide) k_49 rfl rfl rfl (Nat.le_of_ble_eq_true rfl) (x := v1) nv1 rfl rfl rfl dX0_finish_7 (fun H locs hH hS => ?_)
  refine lv_aload_n X.1 X.2.1 dX0_finish_10 rfl (lv_at hl.1 0 rfl) ?_
  refine lv_iload_n X.1 X.2.1 dX0_finish_11 rfl (lv_at hl.1 2 rfl) ?_
  refine g_putI X cX0 hH hS (r := 9) (i := i0) hi0 rfl 4 (by decide) k_54 rfl rfl rfl (Nat.le_of_ble_eq_true rfl) (x := v2) nv2 rfl rfl rfl dX0_finish_12 (fun H locs hH hS => ?_)
  refine lv_aload_n X.1 X.2.1 dX0_finish_15 rfl (lv_at hl.1 0 rfl) ?_
  refine lv_aload_n X.1 X.2.1 dX0_finish_16 rfl (lv_at hl.1 0 rfl) ?_
  have nd17 : nmI ((gU (gU (gU M 9 i0 2 3) 9 i0 3 v1) 9 i0 4 v2) 9 i0 7) := hH.1.1 _ _ _
  refine g_get X cX0 hH (r := 9) (i := i0) hi0 rfl 7 (by decide) k_59 rfl (v := .int (iI ((gU (gU (gU M 9 i0 2 3) 9 i0 3 v1) 9 i0 4 v2) 9 i0 7))) rfl dX0_finish_17 ?_
  refine g_if_le X nd17 (tgt := 27) dX0_finish_20 (by decide) (fun hc20 => ?_) (fun hc20 => ?_)
  · replace hf := it_f hf hc20
    refine lv_iconst X.1 X.2.1 dX0_finish_27 (v := iI 0) rfl ?_
    refine g_putZ X cX0 hH hS (r := 9) (i := i0) hi0 rfl 5 (by decide) k_56 rfl rfl rfl (Nat.le_of_ble_eq_true rfl) (x := 0) (by decide) rfl dX0_finish_28 (fun H locs hH hS => ?_)
    subst hf
    exact gRetV X hH hS dX0_finish_31
  · replace hf := it_t hf hc20
    refine lv_iconst X.1 X.2.1 dX0_finish_23 (v := iI 1) rfl ?_
    refine lv_goto (tgt := 28) X.1 X.2.1 dX0_finish_24 (by decide) ?_
    refine g_putZ X cX0 hH hS (r := 9) (i := i0) hi0 rfl 5 (by decide) k_56 rfl rfl rfl (Nat.le_of_ble_eq_true rfl) (x := 1) (by decide) rfl dX0_finish_28 (fun H locs hH hS => ?_)
    subst hf
    exact gRetV X hH hS dX0_finish_31
theorem w_X8_digestOfResults_L5 {G : gG} {p : Program} {l : Launch} {e : Env} {s : State} {m : MethodId} {args : Array Value} {below : List Frame} {meth : Method} {c : Code} (X : gX G p s m args meth c RX8 cX8_digestOfResults 3 (some .int) (gWs yX8_digestOfResults cX8_digestOfResults 3 (some .int))) (k32 : Int → Option (Int)) (z0 : Nat) (hz0 : z0 < 15) (M : gM) (q : (Int)) (hk32 : ∀ (x1 : Int) (nx1 : nmI x1), k32 x1 = some q → ∀ (H : Heap) (locs : List Loc) (ls : Array Slot), gH G M H → va_S (gA G) s.heap H locs → gLv ls 3 [(1, .int (iI x1))] → W p l e { frames := 1, cells := 0, slots := 0, locals := 21 } s m args below meth c H locs 0 0 (MQ below (gQi G q M) args s 0 0 (gA G)) (F0 m 32 ls [])) : ∀ (n : Nat) (x1 : Int) (nx1 : nmI x1) (x2 : Int) (nx2 : nmI x2), f_X8_digestOfResults_L5 k32 z0 M n x1 x2 = some q → ∀ (H : Heap) (locs : List Loc) (ls : Array Slot), gH G M H → va_S (gA G) s.heap H locs → gLv ls 3 [(0, .ref (gAd G 7 z0)), (1, .int (iI x1)), (2, .int (iI x2))] → W p l e { frames := 1, cells := 0, slots := 0, locals := 21 } s m args below meth c H locs 0 0 (MQ below (gQi G q M) args s 0 0 (gA G)) (F0 m 5 ls []) := by
  intro n
  induction n with
  | zero =>
    intro x1 nx1 x2 nx2 hf
    cases hf
  | succ n ih =>
    intro x1 nx1 x2 nx2 hf H locs ls hH hS hl
    rw [f_X8_digestOfResults_L5] at hf
    refine lv_iload_n X.1 X.2.1 dX8_digestOfResults_5 rfl (lv_at hl.1 2 rfl) ?_
    refine lv_aload_n X.1 X.2.1 dX8_digestOfResults_6 rfl (lv_at hl.1 0 rfl) ?_
    have nd7 : nmI (M 7 z0 6) := hH.1.1 _ _ _
    refine g_get X cX8 hH (r := 7) (i := z0) hz0 rfl 6 (by decide) k_83 rfl (v := .int (iI (M 7 z0 6))) rfl dX8_digestOfResults_7 ?_
    refine g_icmp_ge X nx2 nd7 (tgt := 32) dX8_digestOfResults_10 (by decide) (fun hc10 => ?_) (fun hc10 => ?_)
    · replace hf := it_f hf hc10
      exact hk32 x1 nx1 hf _ _ _ hH hS (gLv_sub hl [1] rfl)
    · replace hf := it_t hf hc10
      refine lv_iload_n X.1 X.2.1 dX8_digestOfResults_13 rfl (lv_at hl.1 1 rfl) ?_
      refine lv_aload_n X.1 X.2.1 dX8_digestOfResults_14 rfl (lv_at hl.1 0 rfl) ?_
      refine lv_iload_n X.1 X.2.1 dX8_digestOfResults_15 rfl (lv_at hl.1 2 rfl) ?_
      refine gGoR (gRunV X hH (As := [.int (iI x2)]) (m_X8_actionAt l G z0 hz0 x2 nx2 M _ rfl) calX8_actionAt k_706 k_707 k_280 hz0 cX8 rfl ⟨by decide, by decide⟩ rfl hl rfl (Nat.le_of_ble_eq_true rfl) ⟨Nat.le_refl 0, Nat.le_refl 0⟩ dX8_digestOfResults_16) hS (fun H locs hr16 hH hS => ?_)
      replace hr16 : (f_X8_actionAt z0 x2 M) < 60 := hr16
      have nd19 : nmI (M 9 ((f_X8_actionAt z0 x2 M)) 3) := hH.1.1 _ _ _
      refine g_get X cX0 hH (r := 9) (i := (f_X8_actionAt z0 x2 M)) hr16 rfl 3 (by decide) k_51 rfl (v := .int (iI (M 9 ((f_X8_actionAt z0 x2 M)) 3))) rfl dX8_digestOfResults_19 ?_
      refine gGoI (gRunSN X hH (As := [.int (iI x1), .int (iI (M 9 ((f_X8_actionAt z0 x2 M)) 3))]) (m_X11_plus l G x1 nx1 (M 9 ((f_X8_actionAt z0 x2 M)) 3) nd19 M _ rfl) calX11_plus k_675 k_303 ⟨by decide, by decide⟩ rfl hl rfl (Nat.le_of_ble_eq_true rfl) ⟨Nat.le_refl 0, Nat.le_refl 0⟩ dX8_digestOfResults_22) hS (fun H locs nr22 hH hS => ?_)
      refine g_istore_n X (lv' := [(1, .int (iI ((f_X11_plus x1 (M 9 ((f_X8_actionAt z0 x2 M)) 3) M)))), (0, .ref (gAd G 7 z0)), (2, .int (iI x2))]) dX8_digestOfResults_25 rfl hl (by decide) rfl (fun ls hl => ?_)
      refine g_iinc X (a := x2) (lv' := [(2, .int (iI (wI (x2 + 1)))), (1, .int (iI ((f_X11_plus x1 (M 9 ((f_X8_actionAt z0 x2 M)) 3) M)))), (0, .ref (gAd G 7 z0))]) dX8_digestOfResults_26 hl (k := 2) rfl (by decide) rfl (fun ls hl => ?_)
      refine lv_goto (tgt := 5) X.1 X.2.1 dX8_digestOfResults_29 (by decide) ?_
      exact ih ((f_X11_plus x1 (M 9 ((f_X8_actionAt z0 x2 M)) 3) M)) nr22 (wI (x2 + 1)) (nmI_w _) hf _ _ _ hH hS (gLv_sub hl [2, 1, 0] rfl)
theorem m_X8_digestOfResults (l : Launch) (G : gG) (i0 : Nat) (hi0 : i0 < 15) (M : gM) (q : (Int)) (hf : f_X8_digestOfResults i0 M = some q) : gMet l yX8_digestOfResults cX8_digestOfResults 3 (some .int) 1 21 G M [.ref (gAd G 7 i0)] (gQi G q M) := by
  refine gOfW (by decide) (by show _ ≤ 3; exact Nat.le_of_ble_eq_true rfl) rfl ?_
  intro p e s m below meth c X hH ls hl
  replace hl : gLv ls 3 [(0, .ref (gAd G 7 i0))] := hl
  have hS : va_S (gA G) s.heap s.heap [] := va_S.rf
  generalize hargs : ([.ref (gAd G 7 i0)] : List Value).toArray = args at X ⊢
  clear hargs
  unfold f_X8_digestOfResults at hf
  refine lv_bipush X.1 X.2.1 dX8_digestOfResults_0 (v := iI 7) (by decide) ?_
  refine g_istore_n X (lv' := [(1, .int (iI 7)), (0, .ref (gAd G 7 i0))]) dX8_digestOfResults_2 rfl hl (by decide) rfl (fun ls hl => ?_)
  refine lv_iconst X.1 X.2.1 dX8_digestOfResults_3 (v := iI 0) rfl ?_
  refine g_istore_n X (lv' := [(2, .int (iI 0)), (1, .int (iI 7)), (0, .ref (gAd G 7 i0))]) dX8_digestOfResults_4 rfl hl (by decide) rfl (fun ls hl => ?_)
  refine w_X8_digestOfResults_L5 X _ i0 hi0 M q ?_ 64 7 (nmI_l (by decide)) 0 (nmI_l (by decide)) hf _ _ _ hH hS (gLv_sub hl [2, 1, 0] rfl)
  · intro y1_5_32 ny1_5_32 hf H locs ls hH hS hl
    refine lv_iload_n X.1 X.2.1 dX8_digestOfResults_32 rfl (lv_at hl.1 0 rfl) ?_
    have hq := Option.some.inj hf; subst hq
    exact gRetI X hH hS (res := y1_5_32) ny1_5_32 dX8_digestOfResults_33
theorem m_X2_finish (l : Launch) (G : gG) (i1 : Nat) (hi1 : i1 < 15) (i2 : Nat) (hi2 : i2 < 60) (v3 : Int) (nv3 : nmI v3) (v4 : Int) (nv4 : nmI v4) (M : gM) (q : gM) (hf : f_X2_finish i1 i2 v3 v4 M = some q) : gMet l yX2_finish cX2_finish 5 none 2 43 G M [.ref (gAd G 4 0), .ref (gAd G 7 i1), .ref (gAd G 9 i2), .int (iI v3), .int (iI v4)] (gQv G q) := by
  refine gOfW (by decide) (by show _ ≤ 5; exact Nat.le_of_ble_eq_true rfl) rfl ?_
  intro p e s m below meth c X hH ls hl
  replace hl : gLv ls 5 [(0, .ref (gAd G 4 0)), (1, .ref (gAd G 7 i1)), (2, .ref (gAd G 9 i2)), (3, .int (iI v3)), (4, .int (iI v4))] := hl
  have hS : va_S (gA G) s.heap s.heap [] := va_S.rf
  generalize hargs : ([.ref (gAd G 4 0), .ref (gAd G 7 i1), .ref (gAd G 9 i2), .int (iI v3), .int (iI v4)] : List Value).toArray = args at X ⊢
  clear hargs
  unfold f_X2_finish at hf
  refine lv_aload_n X.1 X.2.1 dX2_finish_0 rfl (lv_at hl.1 2 rfl) ?_
  refine lv_iload_n X.1 X.2.1 dX2_finish_1 rfl (lv_at hl.1 3 rfl) ?_
  refine lv_iload X.1 X.2.1 dX2_finish_2 (lv_at hl.1 4 rfl) ?_
  refine gGoV (gRunV X hH (As := [.int (iI v3), .int (iI v4)]) (m_X0_finish l G i2 hi2 v3 nv3 v4 nv4 M _ rfl) calX0_finish k_742 k_743 k_301 hi2 cX0 rfl ⟨by decide, by decide⟩ rfl hl rfl (Nat.le_of_ble_eq_true rfl) ⟨Nat.le_refl 0, Nat.le_refl 0⟩ dX2_finish_4) hS (fun H locs hH hS => ?_)
  refine lv_aload_n X.1 X.2.1 dX2_finish_7 rfl (lv_at hl.1 0 rfl) ?_
  refine g_get X cX2 hH (r := 4) (i := 0) (by decide) rfl 2 (by decide) k_167 rfl (v := .ref (gAd G 6 0)) rfl dX2_finish_8 ?_
  refine g_get X cX9 hH (r := 6) (i := 0) (by decide) rfl 2 (by decide) k_143 rfl (v := .ref (gAd G 23 0)) rfl dX2_finish_11 ?_
  refine lv_aload_n X.1 X.2.1 dX2_finish_14 rfl (lv_at hl.1 1 rfl) ?_
  have nd15 : nmI (((f_X0_finish i2 v3 v4 M)) 7 i1 0) := hH.1.1 _ _ _
  refine g_get X cX8 hH (r := 7) (i := i1) hi1 rfl 0 (by decide) k_63 rfl (v := .int (iI (((f_X0_finish i2 v3 v4 M)) 7 i1 0))) rfl dX2_finish_15 ?_
  refine lv_aload_n X.1 X.2.1 dX2_finish_18 rfl (lv_at hl.1 1 rfl) ?_
  obtain ⟨r19, hq19, hf_⟩ := ob_e hf; clear hf; have hf := hf_; clear hf_
  refine gGoI (gRunV X hH (As := []) (m_X8_digestOfResults l G i1 hi1 ((f_X0_finish i2 v3 v4 M)) _ hq19) calX8_digestOfResults k_745 k_746 k_302 hi1 cX8 rfl ⟨by decide, by decide⟩ rfl hl rfl (Nat.le_of_ble_eq_true rfl) ⟨Nat.le_refl 0, Nat.le_refl 0⟩ dX2_finish_19) hS (fun H locs nr19 hH hS => ?_)
  refine gGoV (gRunSN X hH (As := [.ref (gAd G 23 0), .int (iI (((f_X0_finish i2 v3 v4 M)) 7 i1 0)), .int (iI r19)]) (m_X11_store l G 23 0 14 (by decide) gArr_23 (((f_X0_finish i2 v3 v4 M)) 7 i1 0) nd15 r19 nr19 ((f_X0_finish i2 v3 v4 M)) _ rfl) calX11_store k_592 k_255 ⟨by decide, by decide⟩ rfl hl rfl (Nat.le_of_ble_eq_true rfl) ⟨Nat.le_refl 0, Nat.le_refl 0⟩ dX2_finish_22) hS (fun H locs hH hS => ?_)
  have hq := Option.some.inj hf; subst hq
  exact gRetV X hH hS dX2_finish_25
theorem m_X2_leaveOpen (l : Launch) (G : gG) (i1 : Nat) (hi1 : i1 < 15) (i2 : Nat) (hi2 : i2 < 60) (M : gM) (q : gM) (hf : f_X2_leaveOpen i1 i2 M = some q) : gMet l yX2_leaveOpen cX2_leaveOpen 7 none 4 96 G M [.ref (gAd G 4 0), .ref (gAd G 7 i1), .ref (gAd G 9 i2)] (gQv G q) := by
  refine gOfW (by decide) (by show _ ≤ 7; exact Nat.le_of_ble_eq_true rfl) rfl ?_
  intro p e s m below meth c X hH ls hl
  replace hl : gLv ls 7 [(0, .ref (gAd G 4 0)), (1, .ref (gAd G 7 i1)), (2, .ref (gAd G 9 i2))] := hl
  have hS : va_S (gA G) s.heap s.heap [] := va_S.rf
  generalize hargs : ([.ref (gAd G 4 0), .ref (gAd G 7 i1), .ref (gAd G 9 i2)] : List Value).toArray = args at X ⊢
  clear hargs
  unfold f_X2_leaveOpen at hf
  refine lv_aload_n X.1 X.2.1 dX2_leaveOpen_0 rfl (lv_at hl.1 0 rfl) ?_
  refine g_get X cX2 hH (r := 4) (i := 0) (by decide) rfl 0 (by decide) k_165 rfl (v := .ref (gAd G 2 0)) rfl dX2_leaveOpen_1 ?_
  refine lv_aload_n X.1 X.2.1 dX2_leaveOpen_4 rfl (lv_at hl.1 1 rfl) ?_
  obtain ⟨r5, hq5, hf_⟩ := ob_e hf; clear hf; have hf := hf_; clear hf_
  refine gGoI (gRunV X hH (As := [.ref (gAd G 7 i1)]) (m_X5_stateOfInputs l G i1 hi1 M _ hq5) calX5_stateOfInputs k_716 k_717 k_284 (by decide) cX5 rfl ⟨by decide, by decide⟩ rfl hl rfl (Nat.le_of_ble_eq_true rfl) ⟨Nat.le_refl 0, Nat.le_refl 0⟩ dX2_leaveOpen_5) hS (fun H locs nr5 hH hS => ?_)
  refine g_istore_n X (lv' := [(3, .int (iI r5)), (0, .ref (gAd G 4 0)), (1, .ref (gAd G 7 i1)), (2, .ref (gAd G 9 i2))]) dX2_leaveOpen_8 rfl hl (by decide) rfl (fun ls hl => ?_)
  refine lv_iload_n X.1 X.2.1 dX2_leaveOpen_9 rfl (lv_at hl.1 0 rfl) ?_
  refine lv_iconst X.1 X.2.1 dX2_leaveOpen_10 (v := iI 3) rfl ?_
  refine g_icmp_eq X nr5 (nmI_l (by decide)) (tgt := 20) dX2_leaveOpen_11 (by decide) (fun hc11 => ?_) (fun hc11 => ?_)
  · replace hf := it_t hf hc11
    refine lv_aload_n X.1 X.2.1 dX2_leaveOpen_20 rfl (lv_at hl.1 1 rfl) ?_
    refine g_get X cX2 hH (r := 4) (i := 0) (by decide) rfl 2 (by decide) k_167 rfl (v := .ref (gAd G 6 0)) rfl dX2_leaveOpen_21 ?_
    refine lv_aload_n X.1 X.2.1 dX2_leaveOpen_24 rfl (lv_at hl.1 2 rfl) ?_
    refine lv_aload_n X.1 X.2.1 dX2_leaveOpen_25 rfl (lv_at hl.1 3 rfl) ?_
    have nd26 : nmI (M 9 i2 1) := hH.1.1 _ _ _
    refine g_get X cX0 hH (r := 9) (i := i2) hi2 rfl 1 (by decide) k_43 rfl (v := .int (iI (M 9 i2 1))) rfl dX2_leaveOpen_26 ?_
    obtain ⟨r29, hq29, hf_⟩ := ob_e hf; clear hf; have hf := hf_; clear hf_
    refine gGoI (gRunV X hH (As := [.ref (gAd G 7 i1), .int (iI (M 9 i2 1))]) (m_X9_keyOf l G 0 (by decide) i1 hi1 (M 9 i2 1) nd26 M _ hq29) calX9_keyOf k_722 k_723 k_286 (by decide) cX9 rfl ⟨by decide, by decide⟩ rfl hl rfl (Nat.le_of_ble_eq_true rfl) ⟨Nat.le_refl 0, Nat.le_refl 0⟩ dX2_leaveOpen_29) hS (fun H locs nr29 hH hS => ?_)
    refine g_istore X (lv' := [(4, .int (iI r29)), (3, .int (iI r5)), (0, .ref (gAd G 4 0)), (1, .ref (gAd G 7 i1)), (2, .ref (gAd G 9 i2))]) dX2_leaveOpen_32 hl (by decide) rfl (fun ls hl => ?_)
    refine lv_null X.1 X.2.1 dX2_leaveOpen_34 ?_
    refine g_astoreO X (ad := gAd G 0) (x := none) (lv' := [(5, .null), (4, .int (iI r29)), (3, .int (iI r5)), (0, .ref (gAd G 4 0)), (1, .ref (gAd G 7 i1)), (2, .ref (gAd G 9 i2))]) dX2_leaveOpen_35 hl (by decide) rfl (fun ls hl => ?_)
    refine lv_aload_n X.1 X.2.1 dX2_leaveOpen_37 rfl (lv_at hl.1 4 rfl) ?_
    refine lv_iload X.1 X.2.1 dX2_leaveOpen_38 (lv_at hl.1 1 rfl) ?_
    refine gGoZ (gRunV X hH (As := [.int (iI r29)]) (m_X8_breaksOut l G i1 hi1 r29 nr29 M _ rfl) calX8_breaksOut k_725 k_726 k_291 hi1 cX8 rfl ⟨by decide, by decide⟩ rfl hl rfl (Nat.le_of_ble_eq_true rfl) ⟨Nat.le_refl 0, Nat.le_refl 0⟩ dX2_leaveOpen_40) hS (fun H locs br40 hH hS => ?_)
    obtain ⟨k81, ek81, hf_⟩ := oj_e hf; clear hf; have hf := hf_; clear hf_
    have hk81 : ∀ (x5_81 : Option Nat) (hx5_81 : ∀ a, x5_81 = some a → a < 40), k81 x5_81 = some q → ∀ (H : Heap) (locs : List Loc) (ls : Array Slot), gH G M H → va_S (gA G) s.heap H locs → gLv ls 7 [(0, .ref (gAd G 4 0)), (1, .ref (gAd G 7 i1)), (2, .ref (gAd G 9 i2)), (5, va_re (gAd G 10) x5_81)] → W p l e { frames := 4, cells := 0, slots := 0, locals := 96 } s m args below meth c H locs 0 0 (MQ below (gQv G q) args s 0 0 (gA G)) (F0 m 81 ls []) := by
      intro x5_81 hx5_81 hf H locs ls hH hS hl
      subst ek81
      refine g_aloadO X (ad := gAd G 10) (x := x5_81) dX2_leaveOpen_81 (lv_at hl.1 3 rfl) ?_
      refine g_ifnonnullO X (ad := gAd G 10) (x := x5_81) (tgt := 94) dX2_leaveOpen_83 (by decide) ?_ ?_
      · intro a83 hx
        subst hx
        replace hf := om_s hf
        have ha83 : a83 < 40 := hx5_81 _ rfl
        refine lv_aload_n X.1 X.2.1 dX2_leaveOpen_94 rfl (lv_at hl.1 0 rfl) ?_
        refine lv_iconst X.1 X.2.1 dX2_leaveOpen_95 (v := iI 1) rfl ?_
        refine gGoV (gRunV X hH (As := [.int (iI 1)]) (m_X2_tally l G 1 (nmI_l (by decide)) M _ rfl) calX2_tally k_656 k_1078 k_253 (by decide) cX2 rfl ⟨by decide, by decide⟩ rfl hl rfl (Nat.le_of_ble_eq_true rfl) ⟨Nat.le_refl 0, Nat.le_refl 0⟩ dX2_leaveOpen_96) hS (fun H locs hH hS => ?_)
        refine lv_aload_n X.1 X.2.1 dX2_leaveOpen_99 rfl (lv_at hl.1 0 rfl) ?_
        refine lv_aload_n X.1 X.2.1 dX2_leaveOpen_100 rfl (lv_at hl.1 1 rfl) ?_
        refine lv_aload_n X.1 X.2.1 dX2_leaveOpen_101 rfl (lv_at hl.1 2 rfl) ?_
        refine lv_aload X.1 X.2.1 dX2_leaveOpen_102 (lv_at hl.1 3 rfl) ?_
        have nd104 : nmI (((f_X2_tally 1 M)) 10 a83 3) := hH.1.1 _ _ _
        refine g_get X cX3 hH (r := 10) (i := a83) ha83 rfl 3 (by decide) k_123 rfl (v := .int (iI (((f_X2_tally 1 M)) 10 a83 3))) rfl dX2_leaveOpen_104 ?_
        refine lv_aload X.1 X.2.1 dX2_leaveOpen_107 (lv_at hl.1 3 rfl) ?_
        have nd109 : nmI (((f_X2_tally 1 M)) 10 a83 4) := hH.1.1 _ _ _
        refine g_get X cX3 hH (r := 10) (i := a83) ha83 rfl 4 (by decide) k_126 rfl (v := .int (iI (((f_X2_tally 1 M)) 10 a83 4))) rfl dX2_leaveOpen_109 ?_
        obtain ⟨r112, hq112, hf_⟩ := ob_e hf; clear hf; have hf := hf_; clear hf_
        refine gGoV (gRunV X hH (As := [.ref (gAd G 7 i1), .ref (gAd G 9 i2), .int (iI (((f_X2_tally 1 M)) 10 a83 3)), .int (iI (((f_X2_tally 1 M)) 10 a83 4))]) (m_X2_finish l G i1 hi1 i2 hi2 (((f_X2_tally 1 M)) 10 a83 3) nd104 (((f_X2_tally 1 M)) 10 a83 4) nd109 ((f_X2_tally 1 M)) _ hq112) calX2_finish k_740 k_1082 k_300 (by decide) cX2 rfl ⟨by decide, by decide⟩ rfl hl rfl (Nat.le_of_ble_eq_true rfl) ⟨Nat.le_refl 0, Nat.le_refl 0⟩ dX2_leaveOpen_112) hS (fun H locs hH hS => ?_)
        have hq := Option.some.inj hf; subst hq
        exact gRetV X hH hS dX2_leaveOpen_115
      · intro hx
        subst hx
        replace hf := om_n hf
        refine lv_aload_n X.1 X.2.1 dX2_leaveOpen_86 rfl (lv_at hl.1 2 rfl) ?_
        refine lv_iconst X.1 X.2.1 dX2_leaveOpen_87 (v := iI 1) rfl ?_
        refine g_putI X cX0 hH hS (r := 9) (i := i2) hi2 rfl 2 (by decide) k_46 rfl rfl rfl (Nat.le_of_ble_eq_true rfl) (x := 1) (nmI_l (by decide)) rfl rfl rfl dX2_leaveOpen_88 (fun H locs hH hS => ?_)
        refine lv_goto (tgt := 115) X.1 X.2.1 dX2_leaveOpen_91 (by decide) ?_
        have hq := Option.some.inj hf; subst hq
        exact gRetV X hH hS dX2_leaveOpen_115
    clear ek81
    refine g_if_ne X (nmI_b br40) (tgt := 81) dX2_leaveOpen_43 (by decide) (fun hc43 => ?_) (fun hc43 => ?_)
    · replace hf := it_f hf hc43
      exact hk81 none (fun a h => nomatch h) hf _ _ _ hH hS (gLv_sub hl [3, 4, 5, 0] rfl)
    · replace hf := it_t hf hc43
      refine lv_aload_n X.1 X.2.1 dX2_leaveOpen_46 rfl (lv_at hl.1 3 rfl) ?_
      refine g_get X cX2 hH (r := 4) (i := 0) (by decide) rfl 2 (by decide) k_167 rfl (v := .ref (gAd G 6 0)) rfl dX2_leaveOpen_47 ?_
      refine lv_aload_n X.1 X.2.1 dX2_leaveOpen_50 rfl (lv_at hl.1 4 rfl) ?_
      refine lv_iload X.1 X.2.1 dX2_leaveOpen_51 (lv_at hl.1 1 rfl) ?_
      refine gGoI (gRunV X hH (As := [.ref (gAd G 7 i1), .int (iI r29)]) (m_X9_contentFound l G 0 (by decide) i1 hi1 r29 nr29 M _ rfl) calX9_contentFound k_728 k_729 k_293 (by decide) cX9 rfl ⟨by decide, by decide⟩ rfl hl rfl (Nat.le_of_ble_eq_true rfl) ⟨Nat.le_refl 0, Nat.le_refl 0⟩ dX2_leaveOpen_53) hS (fun H locs nr53 hH hS => ?_)
      refine g_istore X (lv' := [(6, .int (iI ((f_X9_contentFound 0 i1 r29 M)))), (5, .null), (4, .int (iI r29)), (3, .int (iI r5)), (0, .ref (gAd G 4 0)), (1, .ref (gAd G 7 i1)), (2, .ref (gAd G 9 i2))]) dX2_leaveOpen_56 hl (by decide) rfl (fun ls hl => ?_)
      refine lv_aload_n X.1 X.2.1 dX2_leaveOpen_58 rfl (lv_at hl.1 4 rfl) ?_
      refine g_get X cX2 hH (r := 4) (i := 0) (by decide) rfl 1 (by decide) k_166 rfl (v := .ref (gAd G 3 0)) rfl dX2_leaveOpen_59 ?_
      refine lv_iload X.1 X.2.1 dX2_leaveOpen_62 (lv_at hl.1 2 rfl) ?_
      refine lv_aload_n X.1 X.2.1 dX2_leaveOpen_64 rfl (lv_at hl.1 5 rfl) ?_
      refine lv_iload X.1 X.2.1 dX2_leaveOpen_65 (lv_at hl.1 2 rfl) ?_
      refine gGoI (gRunV X hH (As := [.int (iI r29)]) (m_X8_fileFound l G i1 hi1 r29 nr29 M _ rfl) calX8_fileFound k_731 k_732 k_295 hi1 cX8 rfl ⟨by decide, by decide⟩ rfl hl rfl (Nat.le_of_ble_eq_true rfl) ⟨Nat.le_refl 0, Nat.le_refl 0⟩ dX2_leaveOpen_67) hS (fun H locs nr67 hH hS => ?_)
      refine lv_iload X.1 X.2.1 dX2_leaveOpen_70 (lv_at hl.1 0 rfl) ?_
      refine lv_aload_n X.1 X.2.1 dX2_leaveOpen_72 rfl (lv_at hl.1 4 rfl) ?_
      have nd73 : nmI (M 4 0 9) := hH.1.1 _ _ _
      have bd73 := hH.1.2.1 4 0 9 rfl
      refine g_get X cX2 hH (r := 4) (i := 0) (by decide) rfl 9 (by decide) k_176 rfl (v := .int (iI (M 4 0 9))) rfl dX2_leaveOpen_73 ?_
      obtain ⟨r76, hq76, hf_⟩ := ob_e hf; clear hf; have hf := hf_; clear hf_
      refine gGoQ (gRunV X hH (As := [.int (iI r29), .int (iI ((f_X8_fileFound i1 r29 M))), .int (iI ((f_X9_contentFound 0 i1 r29 M))), .int (iI (M 4 0 9))]) (m_X1_firstFit l G r29 nr29 ((f_X8_fileFound i1 r29 M)) nr67 ((f_X9_contentFound 0 i1 r29 M)) nr53 (M 4 0 9) bd73 M _ hq76) calX1_firstFit k_734 k_735 k_296 (by decide) cX1 rfl ⟨by decide, by decide⟩ rfl hl rfl (Nat.le_of_ble_eq_true rfl) ⟨Nat.le_refl 0, Nat.le_refl 0⟩ dX2_leaveOpen_76) hS (fun H locs hr76 hH hS => ?_)
      refine g_astoreO X (lv' := [(5, va_re (gAd G 10) r76), (6, .int (iI ((f_X9_contentFound 0 i1 r29 M)))), (4, .int (iI r29)), (3, .int (iI r5)), (0, .ref (gAd G 4 0)), (1, .ref (gAd G 7 i1)), (2, .ref (gAd G 9 i2))]) dX2_leaveOpen_79 hl (by decide) rfl (fun ls hl => ?_)
      exact hk81 r76 hr76 hf _ _ _ hH hS (gLv_sub hl [4, 5, 6, 0] rfl)
  · replace hf := it_f hf hc11
    refine lv_aload_n X.1 X.2.1 dX2_leaveOpen_14 rfl (lv_at hl.1 3 rfl) ?_
    refine lv_iload_n X.1 X.2.1 dX2_leaveOpen_15 rfl (lv_at hl.1 0 rfl) ?_
    refine g_putI X cX0 hH hS (r := 9) (i := i2) hi2 rfl 2 (by decide) k_46 rfl rfl rfl (Nat.le_of_ble_eq_true rfl) (x := r5) nr5 rfl rfl rfl dX2_leaveOpen_16 (fun H locs hH hS => ?_)
    have hq := Option.some.inj hf; subst hq
    exact gRetV X hH hS dX2_leaveOpen_19
theorem w_X2_settle_L39 {G : gG} {p : Program} {l : Launch} {e : Env} {s : State} {m : MethodId} {args : Array Value} {below : List Frame} {meth : Method} {c : Code} (X : gX G p s m args meth c RX2 cX2_settle 7 none (gWs yX2_settle cX2_settle 7 none)) (k97 : gM → Option gM) (z1 : Int) (nz1 : nmI z1) (z2 : Nat) (hz2 : z2 < 15) (z3 : Nat) (hz3 : z3 < 15) (z4 : Int) (nz4 : nmI z4) (q : gM) (hk97 : ∀  (M : gM), k97 M = some q → ∀ (H : Heap) (locs : List Loc) (ls : Array Slot), gH G M H → va_S (gA G) s.heap H locs → gLv ls 7 [(0, .ref (gAd G 4 0)), (1, .int (iI z1))] → W p l e { frames := 5, cells := 0, slots := 0, locals := 122 } s m args below meth c H locs 0 0 (MQ below (gQv G q) args s 0 0 (gA G)) (F0 m 97 ls [])) : ∀ (n : Nat) (x5 : Int) (nx5 : nmI x5) (M : gM), f_X2_settle_L39 k97 z1 z2 z3 z4 n x5 M = some q → ∀ (H : Heap) (locs : List Loc) (ls : Array Slot), gH G M H → va_S (gA G) s.heap H locs → gLv ls 7 [(0, .ref (gAd G 4 0)), (1, .int (iI z1)), (2, .ref (gAd G 7 z2)), (3, .ref (gAd G 25 z3)), (4, .int (iI z4)), (5, .int (iI x5))] → W p l e { frames := 5, cells := 0, slots := 0, locals := 122 } s m args below meth c H locs 0 0 (MQ below (gQv G q) args s 0 0 (gA G)) (F0 m 39 ls []) := by
  intro n
  induction n with
  | zero =>
    intro x5 nx5 M hf
    cases hf
  | succ n ih =>
    intro x5 nx5 M hf H locs ls hH hS hl
    rw [f_X2_settle_L39] at hf
    refine lv_iload X.1 X.2.1 dX2_settle_39 (lv_at hl.1 5 rfl) ?_
    refine lv_iload X.1 X.2.1 dX2_settle_41 (lv_at hl.1 4 rfl) ?_
    refine g_icmp_ge X nx5 nz4 (tgt := 97) dX2_settle_43 (by decide) (fun hc43 => ?_) (fun hc43 => ?_)
    · replace hf := it_f hf hc43
      exact hk97 M hf _ _ _ hH hS (gLv_sub hl [0, 1] rfl)
    · replace hf := it_t hf hc43
      refine lv_aload_n X.1 X.2.1 dX2_settle_46 rfl (lv_at hl.1 3 rfl) ?_
      refine lv_iload X.1 X.2.1 dX2_settle_47 (lv_at hl.1 5 rfl) ?_
      obtain ⟨hg, hf_⟩ := og_e hf; clear hf; have hf := hf_; clear hf_
      refine g_aald X hH (r := 25) (i := z3) hz3 rfl (t0 := 2) rfl nx5 hg (v := gAd G 9 ((4 * z3 + x5.toNat))) rfl dX2_settle_49 ?_
      refine g_astore X (lv' := [(6, .ref (gAd G 9 ((4 * z3 + x5.toNat)))), (0, .ref (gAd G 4 0)), (1, .int (iI z1)), (2, .ref (gAd G 7 z2)), (3, .ref (gAd G 25 z3)), (4, .int (iI z4)), (5, .int (iI x5))]) dX2_settle_50 hl (by decide) rfl (fun ls hl => ?_)
      refine lv_aload X.1 X.2.1 dX2_settle_52 (lv_at hl.1 0 rfl) ?_
      have nd54 : nmI (M 9 ((4 * z3 + x5.toNat)) 2) := hH.1.1 _ _ _
      refine g_get X cX0 hH (r := 9) (i := (4 * z3 + x5.toNat)) (by show _ < 60; omega) rfl 2 (by decide) k_46 rfl (v := .int (iI (M 9 ((4 * z3 + x5.toNat)) 2))) rfl dX2_settle_54 ?_
      obtain ⟨k67, ek67, hf_⟩ := oj_e hf; clear hf; have hf := hf_; clear hf_
      have hk67 : ∀  (M_67 : gM), k67 M_67 = some q → ∀ (H : Heap) (locs : List Loc) (ls : Array Slot), gH G M_67 H → va_S (gA G) s.heap H locs → gLv ls 7 [(0, .ref (gAd G 4 0)), (1, .int (iI z1)), (2, .ref (gAd G 7 z2)), (3, .ref (gAd G 25 z3)), (4, .int (iI z4)), (5, .int (iI x5)), (6, .ref (gAd G 9 ((4 * z3 + x5.toNat))))] → W p l e { frames := 5, cells := 0, slots := 0, locals := 122 } s m args below meth c H locs 0 0 (MQ below (gQv G q) args s 0 0 (gA G)) (F0 m 67 ls []) := by
        intro  M_67 hf H locs ls hH hS hl
        subst ek67
        refine lv_aload_n X.1 X.2.1 dX2_settle_67 rfl (lv_at hl.1 0 rfl) ?_
        refine lv_aload_n X.1 X.2.1 dX2_settle_68 rfl (lv_at hl.1 0 rfl) ?_
        have nd69 : nmI (M_67 4 0 8) := hH.1.1 _ _ _
        have bd69 := hH.1.2.1 4 0 8 rfl
        refine g_get X cX2 hH (r := 4) (i := 0) (by decide) rfl 8 (by decide) k_175 rfl (v := .int (iI (M_67 4 0 8))) rfl dX2_settle_69 ?_
        obtain ⟨k88, ek88, hf_⟩ := oj_e hf; clear hf; have hf := hf_; clear hf_
        have hk88 : ∀ (xs1_88 : Int) (bxs1_88 : xs1_88 = 0 ∨ xs1_88 = 1), k88 xs1_88 = some q → ∀ (H : Heap) (locs : List Loc) (ls : Array Slot), gH G M_67 H → va_S (gA G) s.heap H locs → gLv ls 7 [(0, .ref (gAd G 4 0)), (1, .int (iI z1)), (2, .ref (gAd G 7 z2)), (3, .ref (gAd G 25 z3)), (4, .int (iI z4)), (5, .int (iI x5))] → W p l e { frames := 5, cells := 0, slots := 0, locals := 122 } s m args below meth c H locs 0 0 (MQ below (gQv G q) args s 0 0 (gA G)) (F0 m 88 ls [.int (iI xs1_88), .ref (gAd G 4 0)]) := by
          intro xs1_88 bxs1_88 hf H locs ls hH hS hl
          subst ek88
          refine g_putZ X cX2 hH hS (r := 4) (i := 0) (by decide) rfl 8 (by decide) k_175 rfl rfl rfl (Nat.le_of_ble_eq_true rfl) (x := xs1_88) bxs1_88 rfl dX2_settle_88 (fun H locs hH hS => ?_)
          refine g_iinc X (a := x5) (lv' := [(5, .int (iI (wI (x5 + 1)))), (0, .ref (gAd G 4 0)), (1, .int (iI z1)), (2, .ref (gAd G 7 z2)), (3, .ref (gAd G 25 z3)), (4, .int (iI z4))]) dX2_settle_91 hl (k := 5) rfl (by decide) rfl (fun ls hl => ?_)
          refine lv_goto (tgt := 39) X.1 X.2.1 dX2_settle_94 (by decide) ?_
          exact ih (wI (x5 + 1)) (nmI_w _) (gU M_67 4 0 8 xs1_88) hf _ _ _ hH hS (gLv_sub hl [1, 2, 3, 4, 5, 0] rfl)
        clear ek88
        obtain ⟨k83, ek83, hf_⟩ := oj_e hf; clear hf; have hf := hf_; clear hf_
        have hk83 : k83 = some q → ∀ (H : Heap) (locs : List Loc) (ls : Array Slot), gH G M_67 H → va_S (gA G) s.heap H locs → gLv ls 7 [(0, .ref (gAd G 4 0)), (1, .int (iI z1)), (2, .ref (gAd G 7 z2)), (3, .ref (gAd G 25 z3)), (4, .int (iI z4)), (5, .int (iI x5))] → W p l e { frames := 5, cells := 0, slots := 0, locals := 122 } s m args below meth c H locs 0 0 (MQ below (gQv G q) args s 0 0 (gA G)) (F0 m 83 ls [.ref (gAd G 4 0)]) := by
          intro  hf H locs ls hH hS hl
          subst ek83
          refine lv_iconst X.1 X.2.1 dX2_settle_83 (v := iI 1) rfl ?_
          refine lv_goto (tgt := 88) X.1 X.2.1 dX2_settle_84 (by decide) ?_
          exact hk88 1 (by decide) hf _ _ _ hH hS (gLv_sub hl [0, 1, 2, 3, 4, 5] rfl)
        clear ek83
        refine g_if_ne X nd69 (tgt := 83) dX2_settle_72 (by decide) (fun hc72 => ?_) (fun hc72 => ?_)
        · replace hf := it_f hf hc72
          exact hk83  hf _ _ _ hH hS (gLv_sub hl [0, 1, 2, 3, 4, 5] rfl)
        · replace hf := it_t hf hc72
          refine lv_aload X.1 X.2.1 dX2_settle_75 (lv_at hl.1 6 rfl) ?_
          refine gGoZ (gRunV X hH (As := []) (m_X0_isUnfinished l G ((4 * z3 + x5.toNat)) (by show _ < 60; omega) M_67 _ rfl) calX0_isUnfinished k_719 k_720 k_304 (by show _ < 60; omega) cX0 rfl ⟨by decide, by decide⟩ rfl hl rfl (Nat.le_of_ble_eq_true rfl) ⟨Nat.le_refl 0, Nat.le_refl 0⟩ dX2_settle_77) hS (fun H locs br77 hH hS => ?_)
          refine g_if_eq X (nmI_b br77) (tgt := 87) dX2_settle_80 (by decide) (fun hc80 => ?_) (fun hc80 => ?_)
          · replace hf := it_t hf hc80
            refine lv_iconst X.1 X.2.1 dX2_settle_87 (v := iI 0) rfl ?_
            exact hk88 0 (by decide) hf _ _ _ hH hS (gLv_sub hl [0, 1, 2, 3, 4, 5] rfl)
          · replace hf := it_f hf hc80
            exact hk83  hf _ _ _ hH hS (gLv_sub hl [0, 1, 2, 3, 4, 5] rfl)
      clear ek67
      refine g_if_ne X nd54 (tgt := 67) dX2_settle_57 (by decide) (fun hc57 => ?_) (fun hc57 => ?_)
      · replace hf := it_f hf hc57
        exact hk67 M hf _ _ _ hH hS (gLv_sub hl [1, 2, 3, 4, 5, 6, 0] rfl)
      · replace hf := it_t hf hc57
        refine lv_aload_n X.1 X.2.1 dX2_settle_60 rfl (lv_at hl.1 1 rfl) ?_
        refine lv_aload_n X.1 X.2.1 dX2_settle_61 rfl (lv_at hl.1 3 rfl) ?_
        refine lv_aload X.1 X.2.1 dX2_settle_62 (lv_at hl.1 0 rfl) ?_
        obtain ⟨r64, hq64, hf_⟩ := ob_e hf; clear hf; have hf := hf_; clear hf_
        refine gGoV (gRunV X hH (As := [.ref (gAd G 7 z2), .ref (gAd G 9 ((4 * z3 + x5.toNat)))]) (m_X2_leaveOpen l G z2 hz2 ((4 * z3 + x5.toNat)) (by show _ < 60; omega) M _ hq64) calX2_leaveOpen k_714 k_1081 k_283 (by decide) cX2 rfl ⟨by decide, by decide⟩ rfl hl rfl (Nat.le_of_ble_eq_true rfl) ⟨Nat.le_refl 0, Nat.le_refl 0⟩ dX2_settle_64) hS (fun H locs hH hS => ?_)
        exact hk67 r64 hf _ _ _ hH hS (gLv_sub hl [1, 2, 3, 4, 5, 6, 0] rfl)
theorem w_X2_settle_L7 {G : gG} {p : Program} {l : Launch} {e : Env} {s : State} {m : MethodId} {args : Array Value} {below : List Frame} {meth : Method} {c : Code} (X : gX G p s m args meth c RX2 cX2_settle 7 none (gWs yX2_settle cX2_settle 7 none)) (k103 : gM → Option gM) (q : gM) (hk103 : ∀  (M : gM), k103 M = some q → ∀ (H : Heap) (locs : List Loc) (ls : Array Slot), gH G M H → va_S (gA G) s.heap H locs → gLv ls 7 [] → W p l e { frames := 5, cells := 0, slots := 0, locals := 122 } s m args below meth c H locs 0 0 (MQ below (gQv G q) args s 0 0 (gA G)) (F0 m 103 ls [])) : ∀ (n : Nat) (x1 : Int) (nx1 : nmI x1) (M : gM), f_X2_settle_L7 k103 n x1 M = some q → ∀ (H : Heap) (locs : List Loc) (ls : Array Slot), gH G M H → va_S (gA G) s.heap H locs → gLv ls 7 [(0, .ref (gAd G 4 0)), (1, .int (iI x1))] → W p l e { frames := 5, cells := 0, slots := 0, locals := 122 } s m args below meth c H locs 0 0 (MQ below (gQv G q) args s 0 0 (gA G)) (F0 m 7 ls []) := by
  intro n
  induction n with
  | zero =>
    intro x1 nx1 M hf
    cases hf
  | succ n ih =>
    intro x1 nx1 M hf H locs ls hH hS hl
    rw [f_X2_settle_L7] at hf
    refine lv_iload_n X.1 X.2.1 dX2_settle_7 rfl (lv_at hl.1 1 rfl) ?_
    refine lv_aload_n X.1 X.2.1 dX2_settle_8 rfl (lv_at hl.1 0 rfl) ?_
    refine g_get X cX2 hH (r := 4) (i := 0) (by decide) rfl 0 (by decide) k_165 rfl (v := .ref (gAd G 2 0)) rfl dX2_settle_9 ?_
    have nd12 : nmI (M 2 0 5) := hH.1.1 _ _ _
    refine g_get X cX5 hH (r := 2) (i := 0) (by decide) rfl 5 (by decide) k_108 rfl (v := .int (iI (M 2 0 5))) rfl dX2_settle_12 ?_
    refine g_icmp_ge X nx1 nd12 (tgt := 103) dX2_settle_15 (by decide) (fun hc15 => ?_) (fun hc15 => ?_)
    · replace hf := it_f hf hc15
      exact hk103 M hf _ _ _ hH hS (gLv_sub hl [] rfl)
    · replace hf := it_t hf hc15
      refine lv_aload_n X.1 X.2.1 dX2_settle_18 rfl (lv_at hl.1 0 rfl) ?_
      refine g_get X cX2 hH (r := 4) (i := 0) (by decide) rfl 0 (by decide) k_165 rfl (v := .ref (gAd G 2 0)) rfl dX2_settle_19 ?_
      refine lv_iload_n X.1 X.2.1 dX2_settle_22 rfl (lv_at hl.1 1 rfl) ?_
      refine gGoR (gRunV X hH (As := [.int (iI x1)]) (m_X5_targetAt l G x1 nx1 M _ rfl) calX5_targetAt k_628 k_629 k_277 (by decide) cX5 rfl ⟨by decide, by decide⟩ rfl hl rfl (Nat.le_of_ble_eq_true rfl) ⟨Nat.le_refl 0, Nat.le_refl 0⟩ dX2_settle_23) hS (fun H locs hr23 hH hS => ?_)
      replace hr23 : (f_X5_targetAt x1 M) < 15 := hr23
      refine g_astore_n X (lv' := [(2, .ref (gAd G 7 ((f_X5_targetAt x1 M)))), (0, .ref (gAd G 4 0)), (1, .int (iI x1))]) dX2_settle_26 rfl hl (by decide) rfl (fun ls hl => ?_)
      refine lv_aload_n X.1 X.2.1 dX2_settle_27 rfl (lv_at hl.1 0 rfl) ?_
      refine g_get X cX8 hH (r := 7) (i := (f_X5_targetAt x1 M)) hr23 rfl 2 (by decide) k_72 rfl (v := .ref (gAd G 25 ((f_X5_targetAt x1 M)))) rfl dX2_settle_28 ?_
      refine g_astore_n X (lv' := [(3, .ref (gAd G 25 ((f_X5_targetAt x1 M)))), (2, .ref (gAd G 7 ((f_X5_targetAt x1 M)))), (0, .ref (gAd G 4 0)), (1, .int (iI x1))]) dX2_settle_31 rfl hl (by decide) rfl (fun ls hl => ?_)
      refine lv_aload_n X.1 X.2.1 dX2_settle_32 rfl (lv_at hl.1 0 rfl) ?_
      refine g_alen X hH (r := 25) (i := (f_X5_targetAt x1 M)) (by show _ < 15; omega) rfl (t0 := 2) rfl (n := 4) rfl dX2_settle_33 ?_
      refine g_istore X (lv' := [(4, .int (iI 4)), (3, .ref (gAd G 25 ((f_X5_targetAt x1 M)))), (2, .ref (gAd G 7 ((f_X5_targetAt x1 M)))), (0, .ref (gAd G 4 0)), (1, .int (iI x1))]) dX2_settle_34 hl (by decide) rfl (fun ls hl => ?_)
      refine lv_iconst X.1 X.2.1 dX2_settle_36 (v := iI 0) rfl ?_
      refine g_istore X (lv' := [(5, .int (iI 0)), (4, .int (iI 4)), (3, .ref (gAd G 25 ((f_X5_targetAt x1 M)))), (2, .ref (gAd G 7 ((f_X5_targetAt x1 M)))), (0, .ref (gAd G 4 0)), (1, .int (iI x1))]) dX2_settle_37 hl (by decide) rfl (fun ls hl => ?_)
      refine w_X2_settle_L39 X _ x1 nx1 ((f_X5_targetAt x1 M)) hr23 ((f_X5_targetAt x1 M)) (by show _ < 15; omega) 4 (nmI_l (by decide)) q ?_ 64 0 (nmI_l (by decide)) M hf _ _ _ hH hS (gLv_sub hl [4, 5, 3, 2, 1, 0] rfl)
      · intro  M_39_97 hf H locs ls hH hS hl
        refine g_iinc X (a := x1) (lv' := [(1, .int (iI (wI (x1 + 1)))), (0, .ref (gAd G 4 0))]) dX2_settle_97 hl (k := 1) rfl (by decide) rfl (fun ls hl => ?_)
        refine lv_goto (tgt := 7) X.1 X.2.1 dX2_settle_100 (by decide) ?_
        exact ih (wI (x1 + 1)) (nmI_w _) M_39_97 hf _ _ _ hH hS (gLv_sub hl [1, 0] rfl)
theorem m_X2_settle (l : Launch) (G : gG)  (M : gM) (q : gM) (hf : f_X2_settle M = some q) : gMet l yX2_settle cX2_settle 7 none 5 122 G M [.ref (gAd G 4 0)] (gQv G q) := by
  refine gOfW (by decide) (by show _ ≤ 7; exact Nat.le_of_ble_eq_true rfl) rfl ?_
  intro p e s m below meth c X hH ls hl
  replace hl : gLv ls 7 [(0, .ref (gAd G 4 0))] := hl
  have hS : va_S (gA G) s.heap s.heap [] := va_S.rf
  generalize hargs : ([.ref (gAd G 4 0)] : List Value).toArray = args at X ⊢
  clear hargs
  unfold f_X2_settle at hf
  refine lv_aload_n X.1 X.2.1 dX2_settle_0 rfl (lv_at hl.1 0 rfl) ?_
  refine lv_iconst X.1 X.2.1 dX2_settle_1 (v := iI 0) rfl ?_
  refine g_putZ X cX2 hH hS (r := 4) (i := 0) (by decide) rfl 8 (by decide) k_175 rfl rfl rfl (Nat.le_of_ble_eq_true rfl) (x := 0) (by decide) rfl dX2_settle_2 (fun H locs hH hS => ?_)
  refine lv_iconst X.1 X.2.1 dX2_settle_5 (v := iI 0) rfl ?_
  refine g_istore_n X (lv' := [(1, .int (iI 0)), (0, .ref (gAd G 4 0))]) dX2_settle_6 rfl hl (by decide) rfl (fun ls hl => ?_)
  refine w_X2_settle_L7 X _  q ?_ 64 0 (nmI_l (by decide)) (gU M 4 0 8 0) hf _ _ _ hH hS (gLv_sub hl [1, 0] rfl)
  · intro  M_7_103 hf H locs ls hH hS hl
    have hq := Option.some.inj hf; subst hq
    exact gRetV X hH hS dX2_settle_103
