theorem w_X4_makeTarget_L30 {G : gG} {p : Program} {l : Launch} {e : Env} {s : State} {m : MethodId} {args : Array Value} {below : List Frame} {meth : Method} {c : Code} (X : gX G p s m args meth c RX4 cX4_makeTarget 7 none (gWs yX4_makeTarget cX4_makeTarget 7 none)) (k109 : Int → Int → Option gM) (z1 : Nat) (hz1 : z1 < 15) (M : gM) (q : gM) (hk109 : ∀ (x2 : Int) (nx2 : nmI x2) (x3 : Int) (bx3 : x3 = 0 ∨ x3 = 1), k109 x2 x3 = some q → ∀ (H : Heap) (locs : List Loc) (ls : Array Slot), gH G M H → va_S (gA G) s.heap H locs → gLv ls 7 [(0, .ref (gAd G 5 0)), (1, .ref (gAd G 7 z1)), (2, .int (iI x2)), (3, .int (iI x3))] → W p l e { frames := 3, cells := 0, slots := 0, locals := 69 } s m args below meth c H locs 0 0 (MQ below (gQv G q) args s 0 0 (gA G)) (F0 m 109 ls [])) : ∀ (n : Nat) (x2 : Int) (nx2 : nmI x2) (x3 : Int) (bx3 : x3 = 0 ∨ x3 = 1) (x4 : Int) (nx4 : nmI x4), f_X4_makeTarget_L30 k109 z1 M n x2 x3 x4 = some q → ∀ (H : Heap) (locs : List Loc) (ls : Array Slot), gH G M H → va_S (gA G) s.heap H locs → gLv ls 7 [(0, .ref (gAd G 5 0)), (1, .ref (gAd G 7 z1)), (2, .int (iI x2)), (3, .int (iI x3)), (4, .int (iI x4))] → W p l e { frames := 3, cells := 0, slots := 0, locals := 69 } s m args below meth c H locs 0 0 (MQ below (gQv G q) args s 0 0 (gA G)) (F0 m 30 ls []) := by
  intro n
  induction n with
  | zero =>
    intro x2 nx2 x3 bx3 x4 nx4 hf
    cases hf
  | succ n ih =>
    intro x2 nx2 x3 bx3 x4 nx4 hf H locs ls hH hS hl
    rw [f_X4_makeTarget_L30] at hf
    refine lv_iload X.1 X.2.1 dX4_makeTarget_30 (lv_at hl.1 4 rfl) ?_
    refine lv_aload_n X.1 X.2.1 dX4_makeTarget_32 rfl (lv_at hl.1 1 rfl) ?_
    have nd33 : nmI (M 7 z1 6) := hH.1.1 _ _ _
    refine g_get X cX8 hH (r := 7) (i := z1) hz1 rfl 6 (by decide) k_85 rfl (v := .int (iI (M 7 z1 6))) rfl dX4_makeTarget_33 ?_
    refine g_icmp_ge X nx4 nd33 (tgt := 109) dX4_makeTarget_36 (by decide) (fun hc36 => ?_) (fun hc36 => ?_)
    · replace hf := it_f hf hc36
      exact hk109 x2 nx2 x3 bx3 hf _ _ _ hH hS (gLv_sub hl [0, 1, 2, 3] rfl)
    · replace hf := it_t hf hc36
      refine lv_aload_n X.1 X.2.1 dX4_makeTarget_39 rfl (lv_at hl.1 0 rfl) ?_
      refine g_get X cX4 hH (r := 5) (i := 0) (by decide) rfl 2 (by decide) k_187 rfl (v := .ref (gAd G 6 1)) rfl dX4_makeTarget_40 ?_
      refine lv_aload_n X.1 X.2.1 dX4_makeTarget_43 rfl (lv_at hl.1 1 rfl) ?_
      refine lv_iload X.1 X.2.1 dX4_makeTarget_44 (lv_at hl.1 4 rfl) ?_
      obtain ⟨r46, hq46, hf_⟩ := ob_e hf; clear hf; have hf := hf_; clear hf_
      refine gGoI (gRunV X hH (As := [.ref (gAd G 7 z1), .int (iI x4)]) (m_X9_keyOf l G 1 (by decide) z1 hz1 x4 nx4 M _ hq46) calX9_keyOf k_722 k_723 k_359 (by decide) cX9 rfl ⟨by decide, by decide⟩ rfl hl rfl (Nat.le_of_ble_eq_true rfl) ⟨Nat.le_refl 0, Nat.le_refl 0⟩ dX4_makeTarget_46) hS (fun H locs nr46 hH hS => ?_)
      refine g_istore X (lv' := [(5, .int (iI r46)), (0, .ref (gAd G 5 0)), (1, .ref (gAd G 7 z1)), (2, .int (iI x2)), (3, .int (iI x3)), (4, .int (iI x4))]) dX4_makeTarget_49 hl (by decide) rfl (fun ls hl => ?_)
      refine lv_iload X.1 X.2.1 dX4_makeTarget_51 (lv_at hl.1 0 rfl) ?_
      refine lv_aload_n X.1 X.2.1 dX4_makeTarget_53 rfl (lv_at hl.1 1 rfl) ?_
      refine g_get X cX4 hH (r := 5) (i := 0) (by decide) rfl 2 (by decide) k_187 rfl (v := .ref (gAd G 6 1)) rfl dX4_makeTarget_54 ?_
      refine lv_aload_n X.1 X.2.1 dX4_makeTarget_57 rfl (lv_at hl.1 2 rfl) ?_
      refine lv_iload X.1 X.2.1 dX4_makeTarget_58 (lv_at hl.1 0 rfl) ?_
      refine gGoI (gRunV X hH (As := [.ref (gAd G 7 z1), .int (iI r46)]) (m_X9_contentFound l G 1 (by decide) z1 hz1 r46 nr46 M _ rfl) calX9_contentFound k_728 k_729 k_360 (by decide) cX9 rfl ⟨by decide, by decide⟩ rfl hl rfl (Nat.le_of_ble_eq_true rfl) ⟨Nat.le_refl 0, Nat.le_refl 0⟩ dX4_makeTarget_60) hS (fun H locs nr60 hH hS => ?_)
      refine gGoI (gRunSN X hH (As := [.int (iI r46), .int (iI ((f_X9_contentFound 1 z1 r46 M)))]) (m_X11_resultOf l G r46 nr46 ((f_X9_contentFound 1 z1 r46 M)) nr60 M _ rfl) calX11_resultOf k_806 k_361 ⟨by decide, by decide⟩ rfl hl rfl (Nat.le_of_ble_eq_true rfl) ⟨Nat.le_refl 0, Nat.le_refl 0⟩ dX4_makeTarget_63) hS (fun H locs nr63 hH hS => ?_)
      refine g_istore X (lv' := [(6, .int (iI ((f_X11_resultOf r46 ((f_X9_contentFound 1 z1 r46 M)) M)))), (5, .int (iI r46)), (0, .ref (gAd G 5 0)), (1, .ref (gAd G 7 z1)), (2, .int (iI x2)), (3, .int (iI x3)), (4, .int (iI x4))]) dX4_makeTarget_66 hl (by decide) rfl (fun ls hl => ?_)
      refine lv_iload_n X.1 X.2.1 dX4_makeTarget_68 rfl (lv_at hl.1 4 rfl) ?_
      refine lv_iload X.1 X.2.1 dX4_makeTarget_69 (lv_at hl.1 0 rfl) ?_
      refine gGoI (gRunSN X hH (As := [.int (iI x2), .int (iI ((f_X11_resultOf r46 ((f_X9_contentFound 1 z1 r46 M)) M)))]) (m_X11_plus l G x2 nx2 ((f_X11_resultOf r46 ((f_X9_contentFound 1 z1 r46 M)) M)) nr63 M _ rfl) calX11_plus k_675 k_362 ⟨by decide, by decide⟩ rfl hl rfl (Nat.le_of_ble_eq_true rfl) ⟨Nat.le_refl 0, Nat.le_refl 0⟩ dX4_makeTarget_71) hS (fun H locs nr71 hH hS => ?_)
      refine g_istore_n X (lv' := [(2, .int (iI ((f_X11_plus x2 ((f_X11_resultOf r46 ((f_X9_contentFound 1 z1 r46 M)) M)) M)))), (6, .int (iI ((f_X11_resultOf r46 ((f_X9_contentFound 1 z1 r46 M)) M)))), (5, .int (iI r46)), (0, .ref (gAd G 5 0)), (1, .ref (gAd G 7 z1)), (3, .int (iI x3)), (4, .int (iI x4))]) dX4_makeTarget_74 rfl hl (by decide) rfl (fun ls hl => ?_)
      refine lv_iload_n X.1 X.2.1 dX4_makeTarget_75 rfl (lv_at hl.1 5 rfl) ?_
      obtain ⟨k102, ek102, hf_⟩ := oj_e hf; clear hf; have hf := hf_; clear hf_
      have hk102 : ∀ (xs0_102 : Int) (bxs0_102 : xs0_102 = 0 ∨ xs0_102 = 1), k102 xs0_102 = some q → ∀ (H : Heap) (locs : List Loc) (ls : Array Slot), gH G M H → va_S (gA G) s.heap H locs → gLv ls 7 [(0, .ref (gAd G 5 0)), (1, .ref (gAd G 7 z1)), (2, .int (iI ((f_X11_plus x2 ((f_X11_resultOf r46 ((f_X9_contentFound 1 z1 r46 M)) M)) M)))), (4, .int (iI x4))] → W p l e { frames := 3, cells := 0, slots := 0, locals := 69 } s m args below meth c H locs 0 0 (MQ below (gQv G q) args s 0 0 (gA G)) (F0 m 102 ls [.int (iI xs0_102)]) := by
        intro xs0_102 bxs0_102 hf H locs ls hH hS hl
        subst ek102
        refine g_istore_n X (lv' := [(3, .int (iI xs0_102)), (0, .ref (gAd G 5 0)), (1, .ref (gAd G 7 z1)), (2, .int (iI ((f_X11_plus x2 ((f_X11_resultOf r46 ((f_X9_contentFound 1 z1 r46 M)) M)) M)))), (4, .int (iI x4))]) dX4_makeTarget_102 rfl hl (by decide) rfl (fun ls hl => ?_)
        refine g_iinc X (a := x4) (lv' := [(4, .int (iI (wI (x4 + 1)))), (3, .int (iI xs0_102)), (0, .ref (gAd G 5 0)), (1, .ref (gAd G 7 z1)), (2, .int (iI ((f_X11_plus x2 ((f_X11_resultOf r46 ((f_X9_contentFound 1 z1 r46 M)) M)) M))))]) dX4_makeTarget_103 hl (k := 4) rfl (by decide) rfl (fun ls hl => ?_)
        refine lv_goto (tgt := 30) X.1 X.2.1 dX4_makeTarget_106 (by decide) ?_
        exact ih ((f_X11_plus x2 ((f_X11_resultOf r46 ((f_X9_contentFound 1 z1 r46 M)) M)) M)) nr71 xs0_102 bxs0_102 (wI (x4 + 1)) (nmI_w _) hf _ _ _ hH hS (gLv_sub hl [2, 3, 4, 1, 0] rfl)
      clear ek102
      obtain ⟨k101, ek101, hf_⟩ := oj_e hf; clear hf; have hf := hf_; clear hf_
      have hk101 : k101 = some q → ∀ (H : Heap) (locs : List Loc) (ls : Array Slot), gH G M H → va_S (gA G) s.heap H locs → gLv ls 7 [(0, .ref (gAd G 5 0)), (1, .ref (gAd G 7 z1)), (2, .int (iI ((f_X11_plus x2 ((f_X11_resultOf r46 ((f_X9_contentFound 1 z1 r46 M)) M)) M)))), (4, .int (iI x4))] → W p l e { frames := 3, cells := 0, slots := 0, locals := 69 } s m args below meth c H locs 0 0 (MQ below (gQv G q) args s 0 0 (gA G)) (F0 m 101 ls []) := by
        intro  hf H locs ls hH hS hl
        subst ek101
        refine lv_iconst X.1 X.2.1 dX4_makeTarget_101 (v := iI 0) rfl ?_
        exact hk102 0 (by decide) hf _ _ _ hH hS (gLv_sub hl [0, 1, 2, 3] rfl)
      clear ek101
      refine g_if_eq X (nmI_b bx3) (tgt := 101) dX4_makeTarget_76 (by decide) (fun hc76 => ?_) (fun hc76 => ?_)
      · replace hf := it_t hf hc76
        exact hk101  hf _ _ _ hH hS (gLv_sub hl [3, 4, 0, 6] rfl)
      · replace hf := it_f hf hc76
        refine lv_aload_n X.1 X.2.1 dX4_makeTarget_79 rfl (lv_at hl.1 4 rfl) ?_
        refine lv_iload X.1 X.2.1 dX4_makeTarget_80 (lv_at hl.1 2 rfl) ?_
        refine gGoZ (gRunV X hH (As := [.int (iI r46)]) (m_X8_breaksOut l G z1 hz1 r46 nr46 M _ rfl) calX8_breaksOut k_725 k_726 k_363 hz1 cX8 rfl ⟨by decide, by decide⟩ rfl hl rfl (Nat.le_of_ble_eq_true rfl) ⟨Nat.le_refl 0, Nat.le_refl 0⟩ dX4_makeTarget_82) hS (fun H locs br82 hH hS => ?_)
        refine g_if_ne X (nmI_b br82) (tgt := 101) dX4_makeTarget_85 (by decide) (fun hc85 => ?_) (fun hc85 => ?_)
        · replace hf := it_f hf hc85
          exact hk101  hf _ _ _ hH hS (gLv_sub hl [3, 4, 0, 6] rfl)
        · replace hf := it_t hf hc85
          refine lv_aload_n X.1 X.2.1 dX4_makeTarget_88 rfl (lv_at hl.1 4 rfl) ?_
          refine lv_iload X.1 X.2.1 dX4_makeTarget_89 (lv_at hl.1 1 rfl) ?_
          refine gGoZ (gRunV X hH (As := [.int (iI ((f_X11_resultOf r46 ((f_X9_contentFound 1 z1 r46 M)) M)))]) (m_X8_isGoodResult l G z1 hz1 ((f_X11_resultOf r46 ((f_X9_contentFound 1 z1 r46 M)) M)) nr63 M _ rfl) calX8_isGoodResult k_811 k_812 k_364 hz1 cX8 rfl ⟨by decide, by decide⟩ rfl hl rfl (Nat.le_of_ble_eq_true rfl) ⟨Nat.le_refl 0, Nat.le_refl 0⟩ dX4_makeTarget_91) hS (fun H locs br91 hH hS => ?_)
          refine g_if_eq X (nmI_b br91) (tgt := 101) dX4_makeTarget_94 (by decide) (fun hc94 => ?_) (fun hc94 => ?_)
          · replace hf := it_t hf hc94
            exact hk101  hf _ _ _ hH hS (gLv_sub hl [3, 4, 0, 6] rfl)
          · replace hf := it_f hf hc94
            refine lv_iconst X.1 X.2.1 dX4_makeTarget_97 (v := iI 1) rfl ?_
            refine lv_goto (tgt := 102) X.1 X.2.1 dX4_makeTarget_98 (by decide) ?_
            exact hk102 1 (by decide) hf _ _ _ hH hS (gLv_sub hl [3, 4, 0, 6] rfl)
theorem m_X4_makeTarget (l : Launch) (G : gG) (i1 : Nat) (hi1 : i1 < 15) (M : gM) (q : gM) (hf : f_X4_makeTarget i1 M = some q) : gMet l yX4_makeTarget cX4_makeTarget 7 none 3 69 G M [.ref (gAd G 5 0), .ref (gAd G 7 i1)] (gQv G q) := by
  refine gOfW (by decide) (by show _ ≤ 7; exact Nat.le_of_ble_eq_true rfl) rfl ?_
  intro p e s m below meth c X hH ls hl
  replace hl : gLv ls 7 [(0, .ref (gAd G 5 0)), (1, .ref (gAd G 7 i1))] := hl
  have hS : va_S (gA G) s.heap s.heap [] := va_S.rf
  generalize hargs : ([.ref (gAd G 5 0), .ref (gAd G 7 i1)] : List Value).toArray = args at X ⊢
  clear hargs
  unfold f_X4_makeTarget at hf
  refine lv_bipush X.1 X.2.1 dX4_makeTarget_0 (v := iI 7) (by decide) ?_
  refine g_istore_n X (lv' := [(2, .int (iI 7)), (0, .ref (gAd G 5 0)), (1, .ref (gAd G 7 i1))]) dX4_makeTarget_2 rfl hl (by decide) rfl (fun ls hl => ?_)
  refine lv_aload_n X.1 X.2.1 dX4_makeTarget_3 rfl (lv_at hl.1 1 rfl) ?_
  refine g_get X cX4 hH (r := 5) (i := 0) (by decide) rfl 0 (by decide) k_185 rfl (v := .ref (gAd G 2 0)) rfl dX4_makeTarget_4 ?_
  refine lv_aload_n X.1 X.2.1 dX4_makeTarget_7 rfl (lv_at hl.1 2 rfl) ?_
  obtain ⟨r8, hq8, hf_⟩ := ob_e hf; clear hf; have hf := hf_; clear hf_
  refine gGoI (gRunV X hH (As := [.ref (gAd G 7 i1)]) (m_X5_inputTargets l G i1 hi1 M _ hq8) calX5_inputTargets k_697 k_698 k_358 (by decide) cX5 rfl ⟨by decide, by decide⟩ rfl hl rfl (Nat.le_of_ble_eq_true rfl) ⟨Nat.le_refl 0, Nat.le_refl 0⟩ dX4_makeTarget_8) hS (fun H locs nr8 hH hS => ?_)
  refine lv_aload_n X.1 X.2.1 dX4_makeTarget_11 rfl (lv_at hl.1 1 rfl) ?_
  have nd12 : nmI (M 5 0 3) := hH.1.1 _ _ _
  refine g_get X cX4 hH (r := 5) (i := 0) (by decide) rfl 3 (by decide) k_188 rfl (v := .int (iI (M 5 0 3))) rfl dX4_makeTarget_12 ?_
  refine lv_iconst X.1 X.2.1 dX4_makeTarget_15 (v := iI (-1)) rfl ?_
  refine g_ixor X dX4_makeTarget_16 ?_
  refine g_iand X dX4_makeTarget_17 ?_
  obtain ⟨k26, ek26, hf_⟩ := oj_e hf; clear hf; have hf := hf_; clear hf_
  have hk26 : ∀ (xs0_26 : Int) (bxs0_26 : xs0_26 = 0 ∨ xs0_26 = 1), k26 xs0_26 = some q → ∀ (H : Heap) (locs : List Loc) (ls : Array Slot), gH G M H → va_S (gA G) s.heap H locs → gLv ls 7 [(0, .ref (gAd G 5 0)), (1, .ref (gAd G 7 i1)), (2, .int (iI 7))] → W p l e { frames := 3, cells := 0, slots := 0, locals := 69 } s m args below meth c H locs 0 0 (MQ below (gQv G q) args s 0 0 (gA G)) (F0 m 26 ls [.int (iI xs0_26)]) := by
    intro xs0_26 bxs0_26 hf H locs ls hH hS hl
    subst ek26
    refine g_istore_n X (lv' := [(3, .int (iI xs0_26)), (0, .ref (gAd G 5 0)), (1, .ref (gAd G 7 i1)), (2, .int (iI 7))]) dX4_makeTarget_26 rfl hl (by decide) rfl (fun ls hl => ?_)
    refine lv_iconst X.1 X.2.1 dX4_makeTarget_27 (v := iI 0) rfl ?_
    refine g_istore X (lv' := [(4, .int (iI 0)), (3, .int (iI xs0_26)), (0, .ref (gAd G 5 0)), (1, .ref (gAd G 7 i1)), (2, .int (iI 7))]) dX4_makeTarget_28 hl (by decide) rfl (fun ls hl => ?_)
    refine w_X4_makeTarget_L30 X _ i1 hi1 M q ?_ 64 7 (nmI_l (by decide)) xs0_26 bxs0_26 0 (nmI_l (by decide)) hf _ _ _ hH hS (gLv_sub hl [2, 3, 4, 1, 0] rfl)
    · intro y2_30_109 ny2_30_109 y3_30_109 by3_30_109 hf H locs ls hH hS hl
      refine lv_aload_n X.1 X.2.1 dX4_makeTarget_109 rfl (lv_at hl.1 0 rfl) ?_
      refine g_get X cX4 hH (r := 5) (i := 0) (by decide) rfl 2 (by decide) k_187 rfl (v := .ref (gAd G 6 1)) rfl dX4_makeTarget_110 ?_
      refine g_get X cX9 hH (r := 6) (i := 1) (by decide) rfl 2 (by decide) k_142 rfl (v := .ref (gAd G 23 1)) rfl dX4_makeTarget_113 ?_
      refine lv_aload_n X.1 X.2.1 dX4_makeTarget_116 rfl (lv_at hl.1 1 rfl) ?_
      have nd117 : nmI (M 7 i1 0) := hH.1.1 _ _ _
      refine g_get X cX8 hH (r := 7) (i := i1) hi1 rfl 0 (by decide) k_62 rfl (v := .int (iI (M 7 i1 0))) rfl dX4_makeTarget_117 ?_
      refine lv_iload_n X.1 X.2.1 dX4_makeTarget_120 rfl (lv_at hl.1 2 rfl) ?_
      refine gGoV (gRunSN X hH (As := [.ref (gAd G 23 1), .int (iI (M 7 i1 0)), .int (iI y2_30_109)]) (m_X11_store l G 23 1 14 (by decide) gArr_23 (M 7 i1 0) nd117 y2_30_109 ny2_30_109 M _ rfl) calX11_store k_592 k_365 ⟨by decide, by decide⟩ rfl hl rfl (Nat.le_of_ble_eq_true rfl) ⟨Nat.le_refl 0, Nat.le_refl 0⟩ dX4_makeTarget_121) hS (fun H locs hH hS => ?_)
      refine lv_iload_n X.1 X.2.1 dX4_makeTarget_124 rfl (lv_at hl.1 3 rfl) ?_
      refine g_if_eq X (nmI_b by3_30_109) (tgt := 143) dX4_makeTarget_125 (by decide) (fun hc125 => ?_) (fun hc125 => ?_)
      · replace hf := it_t hf hc125
        have hq := Option.some.inj hf; subst hq
        exact gRetV X hH hS dX4_makeTarget_143
      · replace hf := it_f hf hc125
        refine lv_aload_n X.1 X.2.1 dX4_makeTarget_128 rfl (lv_at hl.1 0 rfl) ?_
        refine lv_dup X.1 X.2.1 dX4_makeTarget_129 rfl ?_
        have nd130 : nmI (((f_X11_store 23 1 14 (M 7 i1 0) y2_30_109 M)) 5 0 3) := hH.1.1 _ _ _
        refine g_get X cX4 hH (r := 5) (i := 0) (by decide) rfl 3 (by decide) k_188 rfl (v := .int (iI (((f_X11_store 23 1 14 (M 7 i1 0) y2_30_109 M)) 5 0 3))) rfl dX4_makeTarget_130 ?_
        refine lv_iconst X.1 X.2.1 dX4_makeTarget_133 (v := iI 1) rfl ?_
        refine lv_aload_n X.1 X.2.1 dX4_makeTarget_134 rfl (lv_at hl.1 1 rfl) ?_
        have nd135 : nmI (((f_X11_store 23 1 14 (M 7 i1 0) y2_30_109 M)) 7 i1 0) := hH.1.1 _ _ _
        refine g_get X cX8 hH (r := 7) (i := i1) hi1 rfl 0 (by decide) k_62 rfl (v := .int (iI (((f_X11_store 23 1 14 (M 7 i1 0) y2_30_109 M)) 7 i1 0))) rfl dX4_makeTarget_135 ?_
        refine g_ishl X dX4_makeTarget_138 ?_
        refine g_ior X dX4_makeTarget_139 ?_
        refine g_putI X cX4 hH hS (r := 5) (i := 0) (by decide) rfl 3 (by decide) k_188 rfl rfl rfl (Nat.le_of_ble_eq_true rfl) (x := gOr (((f_X11_store 23 1 14 (M 7 i1 0) y2_30_109 M)) 5 0 3) (gShl 1 (((f_X11_store 23 1 14 (M 7 i1 0) y2_30_109 M)) 7 i1 0))) (nmI_or _ _) rfl rfl rfl dX4_makeTarget_140 (fun H locs hH hS => ?_)
        have hq := Option.some.inj hf; subst hq
        exact gRetV X hH hS dX4_makeTarget_143
  clear ek26
  refine g_if_ne X (nmI_and _ _) (tgt := 25) dX4_makeTarget_18 (by decide) (fun hc18 => ?_) (fun hc18 => ?_)
  · replace hf := it_f hf hc18
    refine lv_iconst X.1 X.2.1 dX4_makeTarget_25 (v := iI 0) rfl ?_
    exact hk26 0 (by decide) hf _ _ _ hH hS (gLv_sub hl [1, 2, 0] rfl)
  · replace hf := it_t hf hc18
    refine lv_iconst X.1 X.2.1 dX4_makeTarget_21 (v := iI 1) rfl ?_
    refine lv_goto (tgt := 26) X.1 X.2.1 dX4_makeTarget_22 (by decide) ?_
    exact hk26 1 (by decide) hf _ _ _ hH hS (gLv_sub hl [1, 2, 0] rfl)
theorem w_X4_make_L22 {G : gG} {p : Program} {l : Launch} {e : Env} {s : State} {m : MethodId} {args : Array Value} {below : List Frame} {meth : Method} {c : Code} (X : gX G p s m args meth c RX4 cX4_make 3 none (gWs yX4_make cX4_make 3 none)) (k51 : gM → Option gM) (q : gM) (hk51 : ∀  (M : gM), k51 M = some q → ∀ (H : Heap) (locs : List Loc) (ls : Array Slot), gH G M H → va_S (gA G) s.heap H locs → gLv ls 3 [] → W p l e { frames := 4, cells := 0, slots := 0, locals := 95 } s m args below meth c H locs 0 0 (MQ below (gQv G q) args s 0 0 (gA G)) (F0 m 51 ls [])) : ∀ (n : Nat) (x2 : Int) (nx2 : nmI x2) (M : gM), f_X4_make_L22 k51 n x2 M = some q → ∀ (H : Heap) (locs : List Loc) (ls : Array Slot), gH G M H → va_S (gA G) s.heap H locs → gLv ls 3 [(0, .ref (gAd G 5 0)), (2, .int (iI x2))] → W p l e { frames := 4, cells := 0, slots := 0, locals := 95 } s m args below meth c H locs 0 0 (MQ below (gQv G q) args s 0 0 (gA G)) (F0 m 22 ls []) := by
  intro n
  induction n with
  | zero =>
    intro x2 nx2 M hf
    cases hf
  | succ n ih =>
    intro x2 nx2 M hf H locs ls hH hS hl
    rw [f_X4_make_L22] at hf
    refine lv_iload_n X.1 X.2.1 dX4_make_22 rfl (lv_at hl.1 1 rfl) ?_
    refine lv_aload_n X.1 X.2.1 dX4_make_23 rfl (lv_at hl.1 0 rfl) ?_
    refine g_get X cX4 hH (r := 5) (i := 0) (by decide) rfl 0 (by decide) k_185 rfl (v := .ref (gAd G 2 0)) rfl dX4_make_24 ?_
    have nd27 : nmI (M 2 0 5) := hH.1.1 _ _ _
    refine g_get X cX5 hH (r := 2) (i := 0) (by decide) rfl 5 (by decide) k_109 rfl (v := .int (iI (M 2 0 5))) rfl dX4_make_27 ?_
    refine g_icmp_ge X nx2 nd27 (tgt := 51) dX4_make_30 (by decide) (fun hc30 => ?_) (fun hc30 => ?_)
    · replace hf := it_f hf hc30
      exact hk51 M hf _ _ _ hH hS (gLv_sub hl [] rfl)
    · replace hf := it_t hf hc30
      refine lv_aload_n X.1 X.2.1 dX4_make_33 rfl (lv_at hl.1 0 rfl) ?_
      refine lv_aload_n X.1 X.2.1 dX4_make_34 rfl (lv_at hl.1 0 rfl) ?_
      refine g_get X cX4 hH (r := 5) (i := 0) (by decide) rfl 0 (by decide) k_185 rfl (v := .ref (gAd G 2 0)) rfl dX4_make_35 ?_
      refine lv_iload_n X.1 X.2.1 dX4_make_38 rfl (lv_at hl.1 1 rfl) ?_
      refine gGoR (gRunV X hH (As := [.int (iI x2)]) (m_X5_targetAt l G x2 nx2 M _ rfl) calX5_targetAt k_628 k_629 k_356 (by decide) cX5 rfl ⟨by decide, by decide⟩ rfl hl rfl (Nat.le_of_ble_eq_true rfl) ⟨Nat.le_refl 0, Nat.le_refl 0⟩ dX4_make_39) hS (fun H locs hr39 hH hS => ?_)
      replace hr39 : (f_X5_targetAt x2 M) < 15 := hr39
      obtain ⟨r42, hq42, hf_⟩ := ob_e hf; clear hf; have hf := hf_; clear hf_
      refine gGoV (gRunV X hH (As := [.ref (gAd G 7 ((f_X5_targetAt x2 M)))]) (m_X4_makeTarget l G ((f_X5_targetAt x2 M)) hr39 M _ hq42) calX4_makeTarget k_862 k_1097 k_357 (by decide) cX4 rfl ⟨by decide, by decide⟩ rfl hl rfl (Nat.le_of_ble_eq_true rfl) ⟨Nat.le_refl 0, Nat.le_refl 0⟩ dX4_make_42) hS (fun H locs hH hS => ?_)
      refine g_iinc X (a := x2) (lv' := [(2, .int (iI (wI (x2 + 1)))), (0, .ref (gAd G 5 0))]) dX4_make_45 hl (k := 1) rfl (by decide) rfl (fun ls hl => ?_)
      refine lv_goto (tgt := 22) X.1 X.2.1 dX4_make_48 (by decide) ?_
      exact ih (wI (x2 + 1)) (nmI_w _) r42 hf _ _ _ hH hS (gLv_sub hl [1, 0] rfl)
theorem m_X4_make (l : Launch) (G : gG) (v1 : Int) (nv1 : nmI v1) (M : gM) (q : gM) (hf : f_X4_make v1 M = some q) : gMet l yX4_make cX4_make 3 none 4 95 G M [.ref (gAd G 5 0), .int (iI v1)] (gQv G q) := by
  refine gOfW (by decide) (by show _ ≤ 3; exact Nat.le_of_ble_eq_true rfl) rfl ?_
  intro p e s m below meth c X hH ls hl
  replace hl : gLv ls 3 [(0, .ref (gAd G 5 0)), (1, .int (iI v1))] := hl
  have hS : va_S (gA G) s.heap s.heap [] := va_S.rf
  generalize hargs : ([.ref (gAd G 5 0), .int (iI v1)] : List Value).toArray = args at X ⊢
  clear hargs
  unfold f_X4_make at hf
  refine lv_aload_n X.1 X.2.1 dX4_make_0 rfl (lv_at hl.1 0 rfl) ?_
  refine g_get X cX4 hH (r := 5) (i := 0) (by decide) rfl 1 (by decide) k_186 rfl (v := .ref (gAd G 1 0)) rfl dX4_make_1 ?_
  refine lv_iload_n X.1 X.2.1 dX4_make_4 rfl (lv_at hl.1 1 rfl) ?_
  refine lv_aload_n X.1 X.2.1 dX4_make_5 rfl (lv_at hl.1 0 rfl) ?_
  refine g_get X cX4 hH (r := 5) (i := 0) (by decide) rfl 2 (by decide) k_187 rfl (v := .ref (gAd G 6 1)) rfl dX4_make_6 ?_
  refine g_get X cX9 hH (r := 6) (i := 1) (by decide) rfl 1 (by decide) k_140 rfl (v := .ref (gAd G 12 1)) rfl dX4_make_9 ?_
  obtain ⟨r12, hq12, hf_⟩ := ob_e hf; clear hf; have hf := hf_; clear hf_
  refine gGoV (gRunV X hH (As := [.int (iI v1), .ref (gAd G 12 1)]) (m_X7_filesAfter l G v1 nv1 M _ hq12) calX7_filesAfter k_859 k_860 k_355 (by decide) cX7 rfl ⟨by decide, by decide⟩ rfl hl rfl (Nat.le_of_ble_eq_true rfl) ⟨Nat.le_refl 0, Nat.le_refl 0⟩ dX4_make_12) hS (fun H locs hH hS => ?_)
  refine lv_aload_n X.1 X.2.1 dX4_make_15 rfl (lv_at hl.1 0 rfl) ?_
  refine lv_iconst X.1 X.2.1 dX4_make_16 (v := iI 0) rfl ?_
  refine g_putI X cX4 hH hS (r := 5) (i := 0) (by decide) rfl 3 (by decide) k_188 rfl rfl rfl (Nat.le_of_ble_eq_true rfl) (x := 0) (nmI_l (by decide)) rfl rfl rfl dX4_make_17 (fun H locs hH hS => ?_)
  refine lv_iconst X.1 X.2.1 dX4_make_20 (v := iI 0) rfl ?_
  refine g_istore_n X (lv' := [(2, .int (iI 0)), (0, .ref (gAd G 5 0)), (1, .int (iI v1))]) dX4_make_21 rfl hl (by decide) rfl (fun ls hl => ?_)
  refine w_X4_make_L22 X _  q ?_ 64 0 (nmI_l (by decide)) (gU r12 5 0 3 0) hf _ _ _ hH hS (gLv_sub hl [1, 0] rfl)
  · intro  M_22_51 hf H locs ls hH hS hl
    have hq := Option.some.inj hf; subst hq
    exact gRetV X hH hS dX4_make_51
theorem w_X4_isStale_L22 {G : gG} {p : Program} {l : Launch} {e : Env} {s : State} {m : MethodId} {args : Array Value} {below : List Frame} {meth : Method} {c : Code} (X : gX G p s m args meth c RX4 cX4_isStale 4 (some .boolean) (gWs yX4_isStale cX4_isStale 4 (some .boolean))) (k72 : Option (Int × gM)) (z1 : Nat) (hz1 : z1 < 15) (M : gM) (q : (Int × gM)) (hk72 : k72 = some q → ∀ (H : Heap) (locs : List Loc) (ls : Array Slot), gH G M H → va_S (gA G) s.heap H locs → gLv ls 4 [] → W p l e { frames := 5, cells := 0, slots := 0, locals := 117 } s m args below meth c H locs 0 0 (MQ below (gQz G q.1 q.2) args s 0 0 (gA G)) (F0 m 72 ls [])) : ∀ (n : Nat) (x2 : Int) (nx2 : nmI x2), f_X4_isStale_L22 k72 z1 M n x2 = some q → ∀ (H : Heap) (locs : List Loc) (ls : Array Slot), gH G M H → va_S (gA G) s.heap H locs → gLv ls 4 [(0, .ref (gAd G 5 0)), (1, .ref (gAd G 7 z1)), (2, .int (iI x2))] → W p l e { frames := 5, cells := 0, slots := 0, locals := 117 } s m args below meth c H locs 0 0 (MQ below (gQz G q.1 q.2) args s 0 0 (gA G)) (F0 m 22 ls []) := by
  intro n
  induction n with
  | zero =>
    intro x2 nx2 hf
    cases hf
  | succ n ih =>
    intro x2 nx2 hf H locs ls hH hS hl
    rw [f_X4_isStale_L22] at hf
    refine lv_iload_n X.1 X.2.1 dX4_isStale_22 rfl (lv_at hl.1 2 rfl) ?_
    refine lv_aload_n X.1 X.2.1 dX4_isStale_23 rfl (lv_at hl.1 1 rfl) ?_
    have nd24 : nmI (M 7 z1 6) := hH.1.1 _ _ _
    refine g_get X cX8 hH (r := 7) (i := z1) hz1 rfl 6 (by decide) k_85 rfl (v := .int (iI (M 7 z1 6))) rfl dX4_isStale_24 ?_
    refine g_icmp_ge X nx2 nd24 (tgt := 72) dX4_isStale_27 (by decide) (fun hc27 => ?_) (fun hc27 => ?_)
    · replace hf := it_f hf hc27
      exact hk72  hf _ _ _ hH hS (gLv_sub hl [] rfl)
    · replace hf := it_t hf hc27
      refine lv_aload_n X.1 X.2.1 dX4_isStale_30 rfl (lv_at hl.1 0 rfl) ?_
      refine g_get X cX4 hH (r := 5) (i := 0) (by decide) rfl 2 (by decide) k_187 rfl (v := .ref (gAd G 6 1)) rfl dX4_isStale_31 ?_
      refine lv_aload_n X.1 X.2.1 dX4_isStale_34 rfl (lv_at hl.1 1 rfl) ?_
      refine lv_iload_n X.1 X.2.1 dX4_isStale_35 rfl (lv_at hl.1 2 rfl) ?_
      obtain ⟨r36, hq36, hf_⟩ := ob_e hf; clear hf; have hf := hf_; clear hf_
      refine gGoI (gRunV X hH (As := [.ref (gAd G 7 z1), .int (iI x2)]) (m_X9_keyOf l G 1 (by decide) z1 hz1 x2 nx2 M _ hq36) calX9_keyOf k_722 k_723 k_359 (by decide) cX9 rfl ⟨by decide, by decide⟩ rfl hl rfl (Nat.le_of_ble_eq_true rfl) ⟨Nat.le_refl 0, Nat.le_refl 0⟩ dX4_isStale_36) hS (fun H locs nr36 hH hS => ?_)
      refine g_istore_n X (lv' := [(3, .int (iI r36)), (0, .ref (gAd G 5 0)), (1, .ref (gAd G 7 z1)), (2, .int (iI x2))]) dX4_isStale_39 rfl hl (by decide) rfl (fun ls hl => ?_)
      refine lv_aload_n X.1 X.2.1 dX4_isStale_40 rfl (lv_at hl.1 2 rfl) ?_
      refine lv_iload_n X.1 X.2.1 dX4_isStale_41 rfl (lv_at hl.1 3 rfl) ?_
      refine gGoR (gRunV X hH (As := [.int (iI x2)]) (m_X8_actionAt l G z1 hz1 x2 nx2 M _ rfl) calX8_actionAt k_706 k_707 k_366 hz1 cX8 rfl ⟨by decide, by decide⟩ rfl hl rfl (Nat.le_of_ble_eq_true rfl) ⟨Nat.le_refl 0, Nat.le_refl 0⟩ dX4_isStale_42) hS (fun H locs hr42 hH hS => ?_)
      replace hr42 : (f_X8_actionAt z1 x2 M) < 60 := hr42
      have nd45 : nmI (M 9 ((f_X8_actionAt z1 x2 M)) 3) := hH.1.1 _ _ _
      refine g_get X cX0 hH (r := 9) (i := (f_X8_actionAt z1 x2 M)) hr42 rfl 3 (by decide) k_50 rfl (v := .int (iI (M 9 ((f_X8_actionAt z1 x2 M)) 3))) rfl dX4_isStale_45 ?_
      refine lv_iload_n X.1 X.2.1 dX4_isStale_48 rfl (lv_at hl.1 0 rfl) ?_
      refine lv_aload_n X.1 X.2.1 dX4_isStale_49 rfl (lv_at hl.1 1 rfl) ?_
      refine g_get X cX4 hH (r := 5) (i := 0) (by decide) rfl 2 (by decide) k_187 rfl (v := .ref (gAd G 6 1)) rfl dX4_isStale_50 ?_
      refine lv_aload_n X.1 X.2.1 dX4_isStale_53 rfl (lv_at hl.1 2 rfl) ?_
      refine lv_iload_n X.1 X.2.1 dX4_isStale_54 rfl (lv_at hl.1 0 rfl) ?_
      refine gGoI (gRunV X hH (As := [.ref (gAd G 7 z1), .int (iI r36)]) (m_X9_contentFound l G 1 (by decide) z1 hz1 r36 nr36 M _ rfl) calX9_contentFound k_728 k_729 k_360 (by decide) cX9 rfl ⟨by decide, by decide⟩ rfl hl rfl (Nat.le_of_ble_eq_true rfl) ⟨Nat.le_refl 0, Nat.le_refl 0⟩ dX4_isStale_55) hS (fun H locs nr55 hH hS => ?_)
      refine gGoI (gRunSN X hH (As := [.int (iI r36), .int (iI ((f_X9_contentFound 1 z1 r36 M)))]) (m_X11_resultOf l G r36 nr36 ((f_X9_contentFound 1 z1 r36 M)) nr55 M _ rfl) calX11_resultOf k_806 k_361 ⟨by decide, by decide⟩ rfl hl rfl (Nat.le_of_ble_eq_true rfl) ⟨Nat.le_refl 0, Nat.le_refl 0⟩ dX4_isStale_58) hS (fun H locs nr58 hH hS => ?_)
      refine g_icmp_eq X nd45 nr58 (tgt := 66) dX4_isStale_61 (by decide) (fun hc61 => ?_) (fun hc61 => ?_)
      · replace hf := it_t hf hc61
        refine g_iinc X (a := x2) (lv' := [(2, .int (iI (wI (x2 + 1)))), (3, .int (iI r36)), (0, .ref (gAd G 5 0)), (1, .ref (gAd G 7 z1))]) dX4_isStale_66 hl (k := 3) rfl (by decide) rfl (fun ls hl => ?_)
        refine lv_goto (tgt := 22) X.1 X.2.1 dX4_isStale_69 (by decide) ?_
        exact ih (wI (x2 + 1)) (nmI_w _) hf _ _ _ hH hS (gLv_sub hl [2, 3, 0] rfl)
      · replace hf := it_f hf hc61
        refine lv_iconst X.1 X.2.1 dX4_isStale_64 (v := iI 1) rfl ?_
        have hq := Option.some.inj hf; subst hq
        exact gRetZ X hH hS (res := 1) (by decide) dX4_isStale_65
theorem m_X4_isStale (l : Launch) (G : gG) (i1 : Nat) (hi1 : i1 < 15) (M : gM) (q : (Int × gM)) (hf : f_X4_isStale i1 M = some q) : gMet l yX4_isStale cX4_isStale 4 (some .boolean) 5 117 G M [.ref (gAd G 5 0), .ref (gAd G 7 i1)] (gQz G q.1 q.2) := by
  refine gOfW (by decide) (by show _ ≤ 4; exact Nat.le_of_ble_eq_true rfl) rfl ?_
  intro p e s m below meth c X hH ls hl
  replace hl : gLv ls 4 [(0, .ref (gAd G 5 0)), (1, .ref (gAd G 7 i1))] := hl
  have hS : va_S (gA G) s.heap s.heap [] := va_S.rf
  generalize hargs : ([.ref (gAd G 5 0), .ref (gAd G 7 i1)] : List Value).toArray = args at X ⊢
  clear hargs
  unfold f_X4_isStale at hf
  refine lv_aload_n X.1 X.2.1 dX4_isStale_0 rfl (lv_at hl.1 1 rfl) ?_
  obtain ⟨r1, hq1, hf_⟩ := ob_e hf; clear hf; have hf := hf_; clear hf_
  refine gGoZ (gRunV X hH (As := []) (m_X8_isAllDone l G i1 hi1 M _ hq1) calX8_isAllDone k_854 k_855 k_353 hi1 cX8 rfl ⟨by decide, by decide⟩ rfl hl rfl (Nat.le_of_ble_eq_true rfl) ⟨Nat.le_refl 0, Nat.le_refl 0⟩ dX4_isStale_1) hS (fun H locs br1 hH hS => ?_)
  refine g_if_ne X (nmI_b br1) (tgt := 9) dX4_isStale_4 (by decide) (fun hc4 => ?_) (fun hc4 => ?_)
  · replace hf := it_f hf hc4
    refine lv_aload_n X.1 X.2.1 dX4_isStale_9 rfl (lv_at hl.1 0 rfl) ?_
    refine lv_aload_n X.1 X.2.1 dX4_isStale_10 rfl (lv_at hl.1 0 rfl) ?_
    refine g_get X cX4 hH (r := 5) (i := 0) (by decide) rfl 1 (by decide) k_186 rfl (v := .ref (gAd G 1 0)) rfl dX4_isStale_11 ?_
    have nd14 : nmI (M 1 0 5) := hH.1.1 _ _ _
    refine g_get X cX7 hH (r := 1) (i := 0) (by decide) rfl 5 (by decide) k_16 rfl (v := .int (iI (M 1 0 5))) rfl dX4_isStale_14 ?_
    obtain ⟨r17, hq17, hf_⟩ := ob_e hf; clear hf; have hf := hf_; clear hf_
    refine gGoV (gRunV X hH (As := [.int (iI (M 1 0 5))]) (m_X4_make l G (M 1 0 5) nd14 M _ hq17) calX4_make k_857 k_1096 k_354 (by decide) cX4 rfl ⟨by decide, by decide⟩ rfl hl rfl (Nat.le_of_ble_eq_true rfl) ⟨Nat.le_refl 0, Nat.le_refl 0⟩ dX4_isStale_17) hS (fun H locs hH hS => ?_)
    refine lv_iconst X.1 X.2.1 dX4_isStale_20 (v := iI 0) rfl ?_
    refine g_istore_n X (lv' := [(2, .int (iI 0)), (0, .ref (gAd G 5 0)), (1, .ref (gAd G 7 i1))]) dX4_isStale_21 rfl hl (by decide) rfl (fun ls hl => ?_)
    refine w_X4_isStale_L22 X _ i1 hi1 r17 q ?_ 64 0 (nmI_l (by decide)) hf _ _ _ hH hS (gLv_sub hl [1, 2, 0] rfl)
    · intro  hf H locs ls hH hS hl
      refine lv_iconst X.1 X.2.1 dX4_isStale_72 (v := iI 0) rfl ?_
      have hq := Option.some.inj hf; subst hq
      exact gRetZ X hH hS (res := 0) (by decide) dX4_isStale_73
  · replace hf := it_t hf hc4
    refine lv_iconst X.1 X.2.1 dX4_isStale_7 (v := iI 0) rfl ?_
    have hq := Option.some.inj hf; subst hq
    exact gRetZ X hH hS (res := 0) (by decide) dX4_isStale_8
theorem m_X4_goodTargets (l : Launch) (G : gG) (v1 : Int) (nv1 : nmI v1) (M : gM) (q : (Int × gM)) (hf : f_X4_goodTargets v1 M = some q) : gMet l yX4_goodTargets cX4_goodTargets 2 (some .int) 5 117 G M [.ref (gAd G 5 0), .int (iI v1)] (gQi G q.1 q.2) := by
  refine gOfW (by decide) (by show _ ≤ 2; exact Nat.le_of_ble_eq_true rfl) rfl ?_
  intro p e s m below meth c X hH ls hl
  replace hl : gLv ls 2 [(0, .ref (gAd G 5 0)), (1, .int (iI v1))] := hl
  have hS : va_S (gA G) s.heap s.heap [] := va_S.rf
  generalize hargs : ([.ref (gAd G 5 0), .int (iI v1)] : List Value).toArray = args at X ⊢
  clear hargs
  unfold f_X4_goodTargets at hf
  refine lv_aload_n X.1 X.2.1 dX4_goodTargets_0 rfl (lv_at hl.1 0 rfl) ?_
  refine lv_iload_n X.1 X.2.1 dX4_goodTargets_1 rfl (lv_at hl.1 1 rfl) ?_
  obtain ⟨r2, hq2, hf_⟩ := ob_e hf; clear hf; have hf := hf_; clear hf_
  refine gGoV (gRunV X hH (As := [.int (iI v1)]) (m_X4_make l G v1 nv1 M _ hq2) calX4_make k_857 k_1096 k_354 (by decide) cX4 rfl ⟨by decide, by decide⟩ rfl hl rfl (Nat.le_of_ble_eq_true rfl) ⟨Nat.le_refl 0, Nat.le_refl 0⟩ dX4_goodTargets_2) hS (fun H locs hH hS => ?_)
  refine lv_aload_n X.1 X.2.1 dX4_goodTargets_5 rfl (lv_at hl.1 0 rfl) ?_
  have nd6 : nmI (r2 5 0 3) := hH.1.1 _ _ _
  refine g_get X cX4 hH (r := 5) (i := 0) (by decide) rfl 3 (by decide) k_188 rfl (v := .int (iI (r2 5 0 3))) rfl dX4_goodTargets_6 ?_
  have hq := Option.some.inj hf; subst hq
  exact gRetI X hH hS (res := r2 5 0 3) nd6 dX4_goodTargets_9
theorem m_X4_digestOf (l : Launch) (G : gG) (i1 : Nat) (hi1 : i1 < 15) (M : gM) (q : (Int × gM)) (hf : f_X4_digestOf i1 M = some q) : gMet l yX4_digestOf cX4_digestOf 2 (some .int) 5 117 G M [.ref (gAd G 5 0), .ref (gAd G 7 i1)] (gQi G q.1 q.2) := by
  refine gOfW (by decide) (by show _ ≤ 2; exact Nat.le_of_ble_eq_true rfl) rfl ?_
  intro p e s m below meth c X hH ls hl
  replace hl : gLv ls 2 [(0, .ref (gAd G 5 0)), (1, .ref (gAd G 7 i1))] := hl
  have hS : va_S (gA G) s.heap s.heap [] := va_S.rf
  generalize hargs : ([.ref (gAd G 5 0), .ref (gAd G 7 i1)] : List Value).toArray = args at X ⊢
  clear hargs
  unfold f_X4_digestOf at hf
  refine lv_aload_n X.1 X.2.1 dX4_digestOf_0 rfl (lv_at hl.1 0 rfl) ?_
  refine lv_aload_n X.1 X.2.1 dX4_digestOf_1 rfl (lv_at hl.1 0 rfl) ?_
  refine g_get X cX4 hH (r := 5) (i := 0) (by decide) rfl 1 (by decide) k_186 rfl (v := .ref (gAd G 1 0)) rfl dX4_digestOf_2 ?_
  have nd5 : nmI (M 1 0 5) := hH.1.1 _ _ _
  refine g_get X cX7 hH (r := 1) (i := 0) (by decide) rfl 5 (by decide) k_16 rfl (v := .int (iI (M 1 0 5))) rfl dX4_digestOf_5 ?_
  obtain ⟨r8, hq8, hf_⟩ := ob_e hf; clear hf; have hf := hf_; clear hf_
  refine gGoV (gRunV X hH (As := [.int (iI (M 1 0 5))]) (m_X4_make l G (M 1 0 5) nd5 M _ hq8) calX4_make k_857 k_1096 k_354 (by decide) cX4 rfl ⟨by decide, by decide⟩ rfl hl rfl (Nat.le_of_ble_eq_true rfl) ⟨Nat.le_refl 0, Nat.le_refl 0⟩ dX4_digestOf_8) hS (fun H locs hH hS => ?_)
  refine lv_aload_n X.1 X.2.1 dX4_digestOf_11 rfl (lv_at hl.1 0 rfl) ?_
  refine g_get X cX4 hH (r := 5) (i := 0) (by decide) rfl 2 (by decide) k_187 rfl (v := .ref (gAd G 6 1)) rfl dX4_digestOf_12 ?_
  refine g_get X cX9 hH (r := 6) (i := 1) (by decide) rfl 2 (by decide) k_142 rfl (v := .ref (gAd G 23 1)) rfl dX4_digestOf_15 ?_
  refine lv_aload_n X.1 X.2.1 dX4_digestOf_18 rfl (lv_at hl.1 1 rfl) ?_
  have nd19 : nmI (r8 7 i1 0) := hH.1.1 _ _ _
  refine g_get X cX8 hH (r := 7) (i := i1) hi1 rfl 0 (by decide) k_62 rfl (v := .int (iI (r8 7 i1 0))) rfl dX4_digestOf_19 ?_
  refine gGoI (gRunSN X hH (As := [.ref (gAd G 23 1), .int (iI (r8 7 i1 0))]) (m_X11_at l G 23 1 14 (by decide) gArr_23 (r8 7 i1 0) nd19 r8 _ rfl) calX11_at k_590 k_370 ⟨by decide, by decide⟩ rfl hl rfl (Nat.le_of_ble_eq_true rfl) ⟨Nat.le_refl 0, Nat.le_refl 0⟩ dX4_digestOf_22) hS (fun H locs nr22 hH hS => ?_)
  have hq := Option.some.inj hf; subst hq
  exact gRetI X hH hS (res := (f_X11_at 23 1 14 (r8 7 i1 0) r8)) nr22 dX4_digestOf_25
theorem m_X2_wayOf (l : Launch) (G : gG) (i1 : Nat) (hi1 : i1 < 15) (M : gM) (q : (Int × gM)) (hf : f_X2_wayOf i1 M = some q) : gMet l yX2_wayOf cX2_wayOf 2 (some .int) 4 90 G M [.ref (gAd G 4 0), .ref (gAd G 7 i1)] (gQi G q.1 q.2) := by
  refine gOfW (by decide) (by show _ ≤ 2; exact Nat.le_of_ble_eq_true rfl) rfl ?_
  intro p e s m below meth c X hH ls hl
  replace hl : gLv ls 2 [(0, .ref (gAd G 4 0)), (1, .ref (gAd G 7 i1))] := hl
  have hS : va_S (gA G) s.heap s.heap [] := va_S.rf
  generalize hargs : ([.ref (gAd G 4 0), .ref (gAd G 7 i1)] : List Value).toArray = args at X ⊢
  clear hargs
  unfold f_X2_wayOf at hf
  refine lv_aload_n X.1 X.2.1 dX2_wayOf_0 rfl (lv_at hl.1 0 rfl) ?_
  have nd1 : nmI (M 4 0 6) := hH.1.1 _ _ _
  refine g_get X cX2 hH (r := 4) (i := 0) (by decide) rfl 6 (by decide) k_172 rfl (v := .int (iI (M 4 0 6))) rfl dX2_wayOf_1 ?_
  refine lv_aload_n X.1 X.2.1 dX2_wayOf_4 rfl (lv_at hl.1 1 rfl) ?_
  have nd5 : nmI (M 7 i1 0) := hH.1.1 _ _ _
  refine g_get X cX8 hH (r := 7) (i := i1) hi1 rfl 0 (by decide) k_63 rfl (v := .int (iI (M 7 i1 0))) rfl dX2_wayOf_5 ?_
  refine gGoI (gRunSN X hH (As := [.int (iI (M 4 0 6)), .int (iI (M 7 i1 0))]) (m_X11_bitOf l G (M 4 0 6) nd1 (M 7 i1 0) nd5 M _ rfl) calX11_bitOf k_695 k_278 ⟨by decide, by decide⟩ rfl hl rfl (Nat.le_of_ble_eq_true rfl) ⟨Nat.le_refl 0, Nat.le_refl 0⟩ dX2_wayOf_8) hS (fun H locs nr8 hH hS => ?_)
  refine g_if_ne X nr8 (tgt := 16) dX2_wayOf_11 (by decide) (fun hc11 => ?_) (fun hc11 => ?_)
  · replace hf := it_f hf hc11
    refine lv_aload_n X.1 X.2.1 dX2_wayOf_16 rfl (lv_at hl.1 0 rfl) ?_
    refine g_get X cX2 hH (r := 4) (i := 0) (by decide) rfl 0 (by decide) k_165 rfl (v := .ref (gAd G 2 0)) rfl dX2_wayOf_17 ?_
    refine lv_aload_n X.1 X.2.1 dX2_wayOf_20 rfl (lv_at hl.1 0 rfl) ?_
    have nd21 : nmI (M 4 0 6) := hH.1.1 _ _ _
    refine g_get X cX2 hH (r := 4) (i := 0) (by decide) rfl 6 (by decide) k_172 rfl (v := .int (iI (M 4 0 6))) rfl dX2_wayOf_21 ?_
    obtain ⟨r24, hq24, hf_⟩ := ob_e hf; clear hf; have hf := hf_; clear hf_
    refine gGoV (gRunV X hH (As := [.int (iI (M 4 0 6))]) (m_X5_findWays l G (M 4 0 6) nd21 M _ hq24) calX5_findWays k_757 k_758 k_309 (by decide) cX5 rfl ⟨by decide, by decide⟩ rfl hl rfl (Nat.le_of_ble_eq_true rfl) ⟨Nat.le_refl 0, Nat.le_refl 0⟩ dX2_wayOf_24) hS (fun H locs hH hS => ?_)
    refine lv_aload_n X.1 X.2.1 dX2_wayOf_27 rfl (lv_at hl.1 1 rfl) ?_
    have nd28 : nmI (r24 7 i1 10) := hH.1.1 _ _ _
    refine g_get X cX8 hH (r := 7) (i := i1) hi1 rfl 10 (by decide) k_95 rfl (v := .int (iI (r24 7 i1 10))) rfl dX2_wayOf_28 ?_
    have hq := Option.some.inj hf; subst hq
    exact gRetI X hH hS (res := r24 7 i1 10) nd28 dX2_wayOf_31
  · replace hf := it_t hf hc11
    refine lv_iconst X.1 X.2.1 dX2_wayOf_14 (v := iI (-1)) rfl ?_
    have hq := Option.some.inj hf; subst hq
    exact gRetI X hH hS (res := (-1)) (nmI_l (by decide)) dX2_wayOf_15
theorem w_X5_isAllDone_L2 {G : gG} {p : Program} {l : Launch} {e : Env} {s : State} {m : MethodId} {args : Array Value} {below : List Frame} {meth : Method} {c : Code} (X : gX G p s m args meth c RX5 cX5_isAllDone 3 (some .boolean) (gWs yX5_isAllDone cX5_isAllDone 3 (some .boolean))) (k38 : Option (Int)) (z1 : Int) (nz1 : nmI z1) (M : gM) (q : (Int)) (hk38 : k38 = some q → ∀ (H : Heap) (locs : List Loc) (ls : Array Slot), gH G M H → va_S (gA G) s.heap H locs → gLv ls 3 [] → W p l e { frames := 2, cells := 0, slots := 0, locals := 42 } s m args below meth c H locs 0 0 (MQ below (gQz G q M) args s 0 0 (gA G)) (F0 m 38 ls [])) : ∀ (n : Nat) (x2 : Int) (nx2 : nmI x2), f_X5_isAllDone_L2 k38 z1 M n x2 = some q → ∀ (H : Heap) (locs : List Loc) (ls : Array Slot), gH G M H → va_S (gA G) s.heap H locs → gLv ls 3 [(0, .ref (gAd G 2 0)), (1, .int (iI z1)), (2, .int (iI x2))] → W p l e { frames := 2, cells := 0, slots := 0, locals := 42 } s m args below meth c H locs 0 0 (MQ below (gQz G q M) args s 0 0 (gA G)) (F0 m 2 ls []) := by
  intro n
  induction n with
  | zero =>
    intro x2 nx2 hf
    cases hf
  | succ n ih =>
    intro x2 nx2 hf H locs ls hH hS hl
    rw [f_X5_isAllDone_L2] at hf
    refine lv_iload_n X.1 X.2.1 dX5_isAllDone_2 rfl (lv_at hl.1 2 rfl) ?_
    refine lv_aload_n X.1 X.2.1 dX5_isAllDone_3 rfl (lv_at hl.1 0 rfl) ?_
    have nd4 : nmI (M 2 0 5) := hH.1.1 _ _ _
    refine g_get X cX5 hH (r := 2) (i := 0) (by decide) rfl 5 (by decide) k_107 rfl (v := .int (iI (M 2 0 5))) rfl dX5_isAllDone_4 ?_
    refine g_icmp_ge X nx2 nd4 (tgt := 38) dX5_isAllDone_7 (by decide) (fun hc7 => ?_) (fun hc7 => ?_)
    · replace hf := it_f hf hc7
      exact hk38  hf _ _ _ hH hS (gLv_sub hl [] rfl)
    · replace hf := it_t hf hc7
      refine lv_iload_n X.1 X.2.1 dX5_isAllDone_10 rfl (lv_at hl.1 1 rfl) ?_
      refine lv_iload_n X.1 X.2.1 dX5_isAllDone_11 rfl (lv_at hl.1 2 rfl) ?_
      refine gGoI (gRunSN X hH (As := [.int (iI z1), .int (iI x2)]) (m_X11_bitOf l G z1 nz1 x2 nx2 M _ rfl) calX11_bitOf k_695 k_273 ⟨by decide, by decide⟩ rfl hl rfl (Nat.le_of_ble_eq_true rfl) ⟨Nat.le_refl 0, Nat.le_refl 0⟩ dX5_isAllDone_12) hS (fun H locs nr12 hH hS => ?_)
      refine lv_iconst X.1 X.2.1 dX5_isAllDone_15 (v := iI 1) rfl ?_
      obtain ⟨k32, ek32, hf_⟩ := oj_e hf; clear hf; have hf := hf_; clear hf_
      have hk32 : k32 = some q → ∀ (H : Heap) (locs : List Loc) (ls : Array Slot), gH G M H → va_S (gA G) s.heap H locs → gLv ls 3 [(0, .ref (gAd G 2 0)), (1, .int (iI z1)), (2, .int (iI x2))] → W p l e { frames := 2, cells := 0, slots := 0, locals := 42 } s m args below meth c H locs 0 0 (MQ below (gQz G q M) args s 0 0 (gA G)) (F0 m 32 ls []) := by
        intro  hf H locs ls hH hS hl
        subst ek32
        refine g_iinc X (a := x2) (lv' := [(2, .int (iI (wI (x2 + 1)))), (0, .ref (gAd G 2 0)), (1, .int (iI z1))]) dX5_isAllDone_32 hl (k := 2) rfl (by decide) rfl (fun ls hl => ?_)
        refine lv_goto (tgt := 2) X.1 X.2.1 dX5_isAllDone_35 (by decide) ?_
        exact ih (wI (x2 + 1)) (nmI_w _) hf _ _ _ hH hS (gLv_sub hl [1, 2, 0] rfl)
      clear ek32
      refine g_icmp_ne X nr12 (nmI_l (by decide)) (tgt := 32) dX5_isAllDone_16 (by decide) (fun hc16 => ?_) (fun hc16 => ?_)
      · replace hf := it_f hf hc16
        exact hk32  hf _ _ _ hH hS (gLv_sub hl [0, 1, 2] rfl)
      · replace hf := it_t hf hc16
        refine lv_aload_n X.1 X.2.1 dX5_isAllDone_19 rfl (lv_at hl.1 0 rfl) ?_
        refine lv_iload_n X.1 X.2.1 dX5_isAllDone_20 rfl (lv_at hl.1 2 rfl) ?_
        refine gGoR (gRunV X hH (As := [.int (iI x2)]) (m_X5_targetAt l G x2 nx2 M _ rfl) calX5_targetAt k_628 k_629 k_239 (by decide) cX5 rfl ⟨by decide, by decide⟩ rfl hl rfl (Nat.le_of_ble_eq_true rfl) ⟨Nat.le_refl 0, Nat.le_refl 0⟩ dX5_isAllDone_21) hS (fun H locs hr21 hH hS => ?_)
        replace hr21 : (f_X5_targetAt x2 M) < 15 := hr21
        obtain ⟨r24, hq24, hf_⟩ := ob_e hf; clear hf; have hf := hf_; clear hf_
        refine gGoZ (gRunV X hH (As := []) (m_X8_isAllDone l G ((f_X5_targetAt x2 M)) hr21 M _ hq24) calX8_isAllDone k_854 k_855 k_376 hr21 cX8 rfl ⟨by decide, by decide⟩ rfl hl rfl (Nat.le_of_ble_eq_true rfl) ⟨Nat.le_refl 0, Nat.le_refl 0⟩ dX5_isAllDone_24) hS (fun H locs br24 hH hS => ?_)
        refine g_if_ne X (nmI_b br24) (tgt := 32) dX5_isAllDone_27 (by decide) (fun hc27 => ?_) (fun hc27 => ?_)
        · replace hf := it_f hf hc27
          exact hk32  hf _ _ _ hH hS (gLv_sub hl [0, 1, 2] rfl)
        · replace hf := it_t hf hc27
          refine lv_iconst X.1 X.2.1 dX5_isAllDone_30 (v := iI 0) rfl ?_
          have hq := Option.some.inj hf; subst hq
          exact gRetZ X hH hS (res := 0) (by decide) dX5_isAllDone_31
theorem m_X5_isAllDone (l : Launch) (G : gG) (v1 : Int) (nv1 : nmI v1) (M : gM) (q : (Int)) (hf : f_X5_isAllDone v1 M = some q) : gMet l yX5_isAllDone cX5_isAllDone 3 (some .boolean) 2 42 G M [.ref (gAd G 2 0), .int (iI v1)] (gQz G q M) := by
  refine gOfW (by decide) (by show _ ≤ 3; exact Nat.le_of_ble_eq_true rfl) rfl ?_
  intro p e s m below meth c X hH ls hl
  replace hl : gLv ls 3 [(0, .ref (gAd G 2 0)), (1, .int (iI v1))] := hl
  have hS : va_S (gA G) s.heap s.heap [] := va_S.rf
  generalize hargs : ([.ref (gAd G 2 0), .int (iI v1)] : List Value).toArray = args at X ⊢
  clear hargs
  unfold f_X5_isAllDone at hf
  refine lv_iconst X.1 X.2.1 dX5_isAllDone_0 (v := iI 0) rfl ?_
  refine g_istore_n X (lv' := [(2, .int (iI 0)), (0, .ref (gAd G 2 0)), (1, .int (iI v1))]) dX5_isAllDone_1 rfl hl (by decide) rfl (fun ls hl => ?_)
  refine w_X5_isAllDone_L2 X _ v1 nv1 M q ?_ 64 0 (nmI_l (by decide)) hf _ _ _ hH hS (gLv_sub hl [1, 2, 0] rfl)
  · intro  hf H locs ls hH hS hl
    refine lv_iconst X.1 X.2.1 dX5_isAllDone_38 (v := iI 1) rfl ?_
    have hq := Option.some.inj hf; subst hq
    exact gRetZ X hH hS (res := 1) (by decide) dX5_isAllDone_39
theorem w_X5_proofOverInputs_L5 {G : gG} {p : Program} {l : Launch} {e : Env} {s : State} {m : MethodId} {args : Array Value} {below : List Frame} {meth : Method} {c : Code} (X : gX G p s m args meth c RX5 cX5_proofOverInputs 5 (some .int) (gWs yX5_proofOverInputs cX5_proofOverInputs 5 (some .int))) (k44 : Int → Option (Int)) (z1 : Nat) (hz1 : z1 < 15) (M : gM) (q : (Int)) (hk44 : ∀ (x2 : Int) (nx2 : nmI x2), k44 x2 = some q → ∀ (H : Heap) (locs : List Loc) (ls : Array Slot), gH G M H → va_S (gA G) s.heap H locs → gLv ls 5 [(0, .ref (gAd G 2 0)), (1, .ref (gAd G 7 z1)), (2, .int (iI x2))] → W p l e { frames := 2, cells := 0, slots := 0, locals := 44 } s m args below meth c H locs 0 0 (MQ below (gQi G q M) args s 0 0 (gA G)) (F0 m 44 ls [])) : ∀ (n : Nat) (x2 : Int) (nx2 : nmI x2) (x3 : Int) (nx3 : nmI x3), f_X5_proofOverInputs_L5 k44 z1 M n x2 x3 = some q → ∀ (H : Heap) (locs : List Loc) (ls : Array Slot), gH G M H → va_S (gA G) s.heap H locs → gLv ls 5 [(0, .ref (gAd G 2 0)), (1, .ref (gAd G 7 z1)), (2, .int (iI x2)), (3, .int (iI x3))] → W p l e { frames := 2, cells := 0, slots := 0, locals := 44 } s m args below meth c H locs 0 0 (MQ below (gQi G q M) args s 0 0 (gA G)) (F0 m 5 ls []) := by
  intro n
  induction n with
  | zero =>
    intro x2 nx2 x3 nx3 hf
    cases hf
  | succ n ih =>
    intro x2 nx2 x3 nx3 hf H locs ls hH hS hl
    rw [f_X5_proofOverInputs_L5] at hf
    refine lv_iload_n X.1 X.2.1 dX5_proofOverInputs_5 rfl (lv_at hl.1 3 rfl) ?_
    refine lv_aload_n X.1 X.2.1 dX5_proofOverInputs_6 rfl (lv_at hl.1 1 rfl) ?_
    have nd7 : nmI (M 7 z1 6) := hH.1.1 _ _ _
    refine g_get X cX8 hH (r := 7) (i := z1) hz1 rfl 6 (by decide) k_87 rfl (v := .int (iI (M 7 z1 6))) rfl dX5_proofOverInputs_7 ?_
    refine g_icmp_ge X nx3 nd7 (tgt := 44) dX5_proofOverInputs_10 (by decide) (fun hc10 => ?_) (fun hc10 => ?_)
    · replace hf := it_f hf hc10
      exact hk44 x2 nx2 hf _ _ _ hH hS (gLv_sub hl [0, 1, 2] rfl)
    · replace hf := it_t hf hc10
      refine lv_aload_n X.1 X.2.1 dX5_proofOverInputs_13 rfl (lv_at hl.1 1 rfl) ?_
      refine lv_iload_n X.1 X.2.1 dX5_proofOverInputs_14 rfl (lv_at hl.1 3 rfl) ?_
      refine gGoR (gRunV X hH (As := [.int (iI x3)]) (m_X8_actionAt l G z1 hz1 x3 nx3 M _ rfl) calX8_actionAt k_706 k_707 k_379 hz1 cX8 rfl ⟨by decide, by decide⟩ rfl hl rfl (Nat.le_of_ble_eq_true rfl) ⟨Nat.le_refl 0, Nat.le_refl 0⟩ dX5_proofOverInputs_15) hS (fun H locs hr15 hH hS => ?_)
      replace hr15 : (f_X8_actionAt z1 x3 M) < 60 := hr15
      refine g_astore X (lv' := [(4, .ref (gAd G 9 ((f_X8_actionAt z1 x3 M)))), (0, .ref (gAd G 2 0)), (1, .ref (gAd G 7 z1)), (2, .int (iI x2)), (3, .int (iI x3))]) dX5_proofOverInputs_18 hl (by decide) rfl (fun ls hl => ?_)
      refine lv_iload_n X.1 X.2.1 dX5_proofOverInputs_20 rfl (lv_at hl.1 3 rfl) ?_
      refine lv_aload X.1 X.2.1 dX5_proofOverInputs_21 (lv_at hl.1 0 rfl) ?_
      have nd23 : nmI (M 9 ((f_X8_actionAt z1 x3 M)) 3) := hH.1.1 _ _ _
      refine g_get X cX0 hH (r := 9) (i := (f_X8_actionAt z1 x3 M)) hr15 rfl 3 (by decide) k_52 rfl (v := .int (iI (M 9 ((f_X8_actionAt z1 x3 M)) 3))) rfl dX5_proofOverInputs_23 ?_
      refine gGoI (gRunSN X hH (As := [.int (iI x2), .int (iI (M 9 ((f_X8_actionAt z1 x3 M)) 3))]) (m_X11_plus l G x2 nx2 (M 9 ((f_X8_actionAt z1 x3 M)) 3) nd23 M _ rfl) calX11_plus k_675 k_380 ⟨by decide, by decide⟩ rfl hl rfl (Nat.le_of_ble_eq_true rfl) ⟨Nat.le_refl 0, Nat.le_refl 0⟩ dX5_proofOverInputs_26) hS (fun H locs nr26 hH hS => ?_)
      refine lv_aload X.1 X.2.1 dX5_proofOverInputs_29 (lv_at hl.1 0 rfl) ?_
      have nd31 : nmI (M 9 ((f_X8_actionAt z1 x3 M)) 4) := hH.1.1 _ _ _
      refine g_get X cX0 hH (r := 9) (i := (f_X8_actionAt z1 x3 M)) hr15 rfl 4 (by decide) k_55 rfl (v := .int (iI (M 9 ((f_X8_actionAt z1 x3 M)) 4))) rfl dX5_proofOverInputs_31 ?_
      refine gGoI (gRunSN X hH (As := [.int (iI ((f_X11_plus x2 (M 9 ((f_X8_actionAt z1 x3 M)) 3) M))), .int (iI (M 9 ((f_X8_actionAt z1 x3 M)) 4))]) (m_X11_plus l G ((f_X11_plus x2 (M 9 ((f_X8_actionAt z1 x3 M)) 3) M)) nr26 (M 9 ((f_X8_actionAt z1 x3 M)) 4) nd31 M _ rfl) calX11_plus k_675 k_380 ⟨by decide, by decide⟩ rfl hl rfl (Nat.le_of_ble_eq_true rfl) ⟨Nat.le_refl 0, Nat.le_refl 0⟩ dX5_proofOverInputs_34) hS (fun H locs nr34 hH hS => ?_)
      refine g_istore_n X (lv' := [(2, .int (iI ((f_X11_plus ((f_X11_plus x2 (M 9 ((f_X8_actionAt z1 x3 M)) 3) M)) (M 9 ((f_X8_actionAt z1 x3 M)) 4) M)))), (4, .ref (gAd G 9 ((f_X8_actionAt z1 x3 M)))), (0, .ref (gAd G 2 0)), (1, .ref (gAd G 7 z1)), (3, .int (iI x3))]) dX5_proofOverInputs_37 rfl hl (by decide) rfl (fun ls hl => ?_)
      refine g_iinc X (a := x3) (lv' := [(3, .int (iI (wI (x3 + 1)))), (2, .int (iI ((f_X11_plus ((f_X11_plus x2 (M 9 ((f_X8_actionAt z1 x3 M)) 3) M)) (M 9 ((f_X8_actionAt z1 x3 M)) 4) M)))), (4, .ref (gAd G 9 ((f_X8_actionAt z1 x3 M)))), (0, .ref (gAd G 2 0)), (1, .ref (gAd G 7 z1))]) dX5_proofOverInputs_38 hl (k := 4) rfl (by decide) rfl (fun ls hl => ?_)
      refine lv_goto (tgt := 5) X.1 X.2.1 dX5_proofOverInputs_41 (by decide) ?_
      exact ih ((f_X11_plus ((f_X11_plus x2 (M 9 ((f_X8_actionAt z1 x3 M)) 3) M)) (M 9 ((f_X8_actionAt z1 x3 M)) 4) M)) nr34 (wI (x3 + 1)) (nmI_w _) hf _ _ _ hH hS (gLv_sub hl [3, 4, 1, 0] rfl)
theorem w_X5_proofOverInputs_L46 {G : gG} {p : Program} {l : Launch} {e : Env} {s : State} {m : MethodId} {args : Array Value} {below : List Frame} {meth : Method} {c : Code} (X : gX G p s m args meth c RX5 cX5_proofOverInputs 5 (some .int) (gWs yX5_proofOverInputs cX5_proofOverInputs 5 (some .int))) (k98 : Int → Option (Int)) (z1 : Nat) (hz1 : z1 < 15) (M : gM) (q : (Int)) (hk98 : ∀ (x2 : Int) (nx2 : nmI x2), k98 x2 = some q → ∀ (H : Heap) (locs : List Loc) (ls : Array Slot), gH G M H → va_S (gA G) s.heap H locs → gLv ls 5 [(2, .int (iI x2))] → W p l e { frames := 2, cells := 0, slots := 0, locals := 44 } s m args below meth c H locs 0 0 (MQ below (gQi G q M) args s 0 0 (gA G)) (F0 m 98 ls [])) : ∀ (n : Nat) (x2 : Int) (nx2 : nmI x2) (x3 : Int) (nx3 : nmI x3), f_X5_proofOverInputs_L46 k98 z1 M n x2 x3 = some q → ∀ (H : Heap) (locs : List Loc) (ls : Array Slot), gH G M H → va_S (gA G) s.heap H locs → gLv ls 5 [(0, .ref (gAd G 2 0)), (1, .ref (gAd G 7 z1)), (2, .int (iI x2)), (3, .int (iI x3))] → W p l e { frames := 2, cells := 0, slots := 0, locals := 44 } s m args below meth c H locs 0 0 (MQ below (gQi G q M) args s 0 0 (gA G)) (F0 m 46 ls []) := by
  intro n
  induction n with
  | zero =>
    intro x2 nx2 x3 nx3 hf
    cases hf
  | succ n ih =>
    intro x2 nx2 x3 nx3 hf H locs ls hH hS hl
    rw [f_X5_proofOverInputs_L46] at hf
    refine lv_iload_n X.1 X.2.1 dX5_proofOverInputs_46 rfl (lv_at hl.1 3 rfl) ?_
    refine lv_aload_n X.1 X.2.1 dX5_proofOverInputs_47 rfl (lv_at hl.1 1 rfl) ?_
    refine g_get X cX8 hH (r := 7) (i := z1) hz1 rfl 1 (by decide) k_68 rfl (v := .ref (gAd G 8 z1)) rfl dX5_proofOverInputs_48 ?_
    have nd51 : nmI (M 8 z1 5) := hH.1.1 _ _ _
    refine g_get X cX6 hH (r := 8) (i := z1) (by show _ < 16; omega) rfl 5 (by decide) k_36 rfl (v := .int (iI (M 8 z1 5))) rfl dX5_proofOverInputs_51 ?_
    refine g_icmp_ge X nx3 nd51 (tgt := 98) dX5_proofOverInputs_54 (by decide) (fun hc54 => ?_) (fun hc54 => ?_)
    · replace hf := it_f hf hc54
      exact hk98 x2 nx2 hf _ _ _ hH hS (gLv_sub hl [2] rfl)
    · replace hf := it_t hf hc54
      refine lv_aload_n X.1 X.2.1 dX5_proofOverInputs_57 rfl (lv_at hl.1 1 rfl) ?_
      refine g_get X cX8 hH (r := 7) (i := z1) hz1 rfl 1 (by decide) k_68 rfl (v := .ref (gAd G 8 z1)) rfl dX5_proofOverInputs_58 ?_
      refine lv_iload_n X.1 X.2.1 dX5_proofOverInputs_61 rfl (lv_at hl.1 3 rfl) ?_
      refine gGoI (gRunV X hH (As := [.int (iI x3)]) (m_X6_chosen l G z1 (by show _ < 16; omega) x3 nx3 M _ rfl) calX6_chosen k_700 k_701 k_275 (by show _ < 16; omega) cX6 rfl ⟨by decide, by decide⟩ rfl hl rfl (Nat.le_of_ble_eq_true rfl) ⟨Nat.le_refl 0, Nat.le_refl 0⟩ dX5_proofOverInputs_62) hS (fun H locs nr62 hH hS => ?_)
      refine g_istore X (lv' := [(4, .int (iI ((f_X6_chosen z1 x3 M)))), (0, .ref (gAd G 2 0)), (1, .ref (gAd G 7 z1)), (2, .int (iI x2)), (3, .int (iI x3))]) dX5_proofOverInputs_65 hl (by decide) rfl (fun ls hl => ?_)
      refine lv_iload X.1 X.2.1 dX5_proofOverInputs_67 (lv_at hl.1 0 rfl) ?_
      refine gGoZ (gRunSN X hH (As := [.int (iI ((f_X6_chosen z1 x3 M)))]) (m_X11_isTarget l G ((f_X6_chosen z1 x3 M)) nr62 M _ rfl) calX11_isTarget k_614 k_276 ⟨by decide, by decide⟩ rfl hl rfl (Nat.le_of_ble_eq_true rfl) ⟨Nat.le_refl 0, Nat.le_refl 0⟩ dX5_proofOverInputs_69) hS (fun H locs br69 hH hS => ?_)
      obtain ⟨k92, ek92, hf_⟩ := oj_e hf; clear hf; have hf := hf_; clear hf_
      have hk92 : ∀ (x2_92 : Int) (nx2_92 : nmI x2_92), k92 x2_92 = some q → ∀ (H : Heap) (locs : List Loc) (ls : Array Slot), gH G M H → va_S (gA G) s.heap H locs → gLv ls 5 [(0, .ref (gAd G 2 0)), (1, .ref (gAd G 7 z1)), (2, .int (iI x2_92)), (3, .int (iI x3))] → W p l e { frames := 2, cells := 0, slots := 0, locals := 44 } s m args below meth c H locs 0 0 (MQ below (gQi G q M) args s 0 0 (gA G)) (F0 m 92 ls []) := by
        intro x2_92 nx2_92 hf H locs ls hH hS hl
        subst ek92
        refine g_iinc X (a := x3) (lv' := [(3, .int (iI (wI (x3 + 1)))), (0, .ref (gAd G 2 0)), (1, .ref (gAd G 7 z1)), (2, .int (iI x2_92))]) dX5_proofOverInputs_92 hl (k := 3) rfl (by decide) rfl (fun ls hl => ?_)
        refine lv_goto (tgt := 46) X.1 X.2.1 dX5_proofOverInputs_95 (by decide) ?_
        exact ih x2_92 nx2_92 (wI (x3 + 1)) (nmI_w _) hf _ _ _ hH hS (gLv_sub hl [1, 2, 3, 0] rfl)
      clear ek92
      refine g_if_eq X (nmI_b br69) (tgt := 92) dX5_proofOverInputs_72 (by decide) (fun hc72 => ?_) (fun hc72 => ?_)
      · replace hf := it_t hf hc72
        exact hk92 x2 nx2 hf _ _ _ hH hS (gLv_sub hl [1, 2, 3, 4] rfl)
      · replace hf := it_f hf hc72
        refine lv_iload_n X.1 X.2.1 dX5_proofOverInputs_75 rfl (lv_at hl.1 3 rfl) ?_
        refine lv_aload_n X.1 X.2.1 dX5_proofOverInputs_76 rfl (lv_at hl.1 1 rfl) ?_
        refine g_get X cX5 hH (r := 2) (i := 0) (by decide) rfl 2 (by decide) k_103 rfl (v := .ref (gAd G 21 0)) rfl dX5_proofOverInputs_77 ?_
        refine lv_iload X.1 X.2.1 dX5_proofOverInputs_80 (lv_at hl.1 0 rfl) ?_
        refine lv_bipush X.1 X.2.1 dX5_proofOverInputs_82 (v := iI 16) (by decide) ?_
        refine g_isub X dX5_proofOverInputs_84 ?_
        refine gGoI (gRunSN X hH (As := [.ref (gAd G 21 0), .int (iI (wI (((f_X6_chosen z1 x3 M)) - 16)))]) (m_X11_at l G 21 0 14 (by decide) gArr_21 (wI (((f_X6_chosen z1 x3 M)) - 16)) (nmI_w _) M _ rfl) calX11_at k_590 k_381 ⟨by decide, by decide⟩ rfl hl rfl (Nat.le_of_ble_eq_true rfl) ⟨Nat.le_refl 0, Nat.le_refl 0⟩ dX5_proofOverInputs_85) hS (fun H locs nr85 hH hS => ?_)
        refine gGoI (gRunSN X hH (As := [.int (iI x2), .int (iI ((f_X11_at 21 0 14 (wI (((f_X6_chosen z1 x3 M)) - 16)) M)))]) (m_X11_plus l G x2 nx2 ((f_X11_at 21 0 14 (wI (((f_X6_chosen z1 x3 M)) - 16)) M)) nr85 M _ rfl) calX11_plus k_675 k_380 ⟨by decide, by decide⟩ rfl hl rfl (Nat.le_of_ble_eq_true rfl) ⟨Nat.le_refl 0, Nat.le_refl 0⟩ dX5_proofOverInputs_88) hS (fun H locs nr88 hH hS => ?_)
        refine g_istore_n X (lv' := [(2, .int (iI ((f_X11_plus x2 ((f_X11_at 21 0 14 (wI (((f_X6_chosen z1 x3 M)) - 16)) M)) M)))), (4, .int (iI ((f_X6_chosen z1 x3 M)))), (0, .ref (gAd G 2 0)), (1, .ref (gAd G 7 z1)), (3, .int (iI x3))]) dX5_proofOverInputs_91 rfl hl (by decide) rfl (fun ls hl => ?_)
        exact hk92 ((f_X11_plus x2 ((f_X11_at 21 0 14 (wI (((f_X6_chosen z1 x3 M)) - 16)) M)) M)) nr88 hf _ _ _ hH hS (gLv_sub hl [2, 3, 0, 4] rfl)
theorem m_X5_proofOverInputs (l : Launch) (G : gG) (i1 : Nat) (hi1 : i1 < 15) (M : gM) (q : (Int)) (hf : f_X5_proofOverInputs i1 M = some q) : gMet l yX5_proofOverInputs cX5_proofOverInputs 5 (some .int) 2 44 G M [.ref (gAd G 2 0), .ref (gAd G 7 i1)] (gQi G q M) := by
  refine gOfW (by decide) (by show _ ≤ 5; exact Nat.le_of_ble_eq_true rfl) rfl ?_
  intro p e s m below meth c X hH ls hl
  replace hl : gLv ls 5 [(0, .ref (gAd G 2 0)), (1, .ref (gAd G 7 i1))] := hl
  have hS : va_S (gA G) s.heap s.heap [] := va_S.rf
  generalize hargs : ([.ref (gAd G 2 0), .ref (gAd G 7 i1)] : List Value).toArray = args at X ⊢
  clear hargs
  unfold f_X5_proofOverInputs at hf
  refine lv_bipush X.1 X.2.1 dX5_proofOverInputs_0 (v := iI 7) (by decide) ?_
  refine g_istore_n X (lv' := [(2, .int (iI 7)), (0, .ref (gAd G 2 0)), (1, .ref (gAd G 7 i1))]) dX5_proofOverInputs_2 rfl hl (by decide) rfl (fun ls hl => ?_)
  refine lv_iconst X.1 X.2.1 dX5_proofOverInputs_3 (v := iI 0) rfl ?_
  refine g_istore_n X (lv' := [(3, .int (iI 0)), (2, .int (iI 7)), (0, .ref (gAd G 2 0)), (1, .ref (gAd G 7 i1))]) dX5_proofOverInputs_4 rfl hl (by decide) rfl (fun ls hl => ?_)
  refine w_X5_proofOverInputs_L5 X _ i1 hi1 M q ?_ 64 7 (nmI_l (by decide)) 0 (nmI_l (by decide)) hf _ _ _ hH hS (gLv_sub hl [2, 3, 1, 0] rfl)
  · intro y2_5_44 ny2_5_44 hf H locs ls hH hS hl
    refine lv_iconst X.1 X.2.1 dX5_proofOverInputs_44 (v := iI 0) rfl ?_
    refine g_istore_n X (lv' := [(3, .int (iI 0)), (0, .ref (gAd G 2 0)), (1, .ref (gAd G 7 i1)), (2, .int (iI y2_5_44))]) dX5_proofOverInputs_45 rfl hl (by decide) rfl (fun ls hl => ?_)
    refine w_X5_proofOverInputs_L46 X _ i1 hi1 M q ?_ 64 y2_5_44 ny2_5_44 0 (nmI_l (by decide)) hf _ _ _ hH hS (gLv_sub hl [1, 2, 3, 0] rfl)
    · intro y2_46_98 ny2_46_98 hf H locs ls hH hS hl
      refine lv_iload_n X.1 X.2.1 dX5_proofOverInputs_98 rfl (lv_at hl.1 0 rfl) ?_
      have hq := Option.some.inj hf; subst hq
      exact gRetI X hH hS (res := y2_46_98) ny2_46_98 dX5_proofOverInputs_99
theorem w_X5_proofOf_L2 {G : gG} {p : Program} {l : Launch} {e : Env} {s : State} {m : MethodId} {args : Array Value} {below : List Frame} {meth : Method} {c : Code} (X : gX G p s m args meth c RX5 cX5_proofOf 3 (some .int) (gWs yX5_proofOf cX5_proofOf 3 (some .int))) (k30 : gM → Option (Int × gM)) (z1 : Int) (nz1 : nmI z1) (q : (Int × gM)) (hk30 : ∀  (M : gM), k30 M = some q → ∀ (H : Heap) (locs : List Loc) (ls : Array Slot), gH G M H → va_S (gA G) s.heap H locs → gLv ls 3 [(0, .ref (gAd G 2 0)), (1, .int (iI z1))] → W p l e { frames := 3, cells := 0, slots := 0, locals := 68 } s m args below meth c H locs 0 0 (MQ below (gQi G q.1 q.2) args s 0 0 (gA G)) (F0 m 30 ls [])) : ∀ (n : Nat) (x2 : Int) (nx2 : nmI x2) (M : gM), f_X5_proofOf_L2 k30 z1 n x2 M = some q → ∀ (H : Heap) (locs : List Loc) (ls : Array Slot), gH G M H → va_S (gA G) s.heap H locs → gLv ls 3 [(0, .ref (gAd G 2 0)), (1, .int (iI z1)), (2, .int (iI x2))] → W p l e { frames := 3, cells := 0, slots := 0, locals := 68 } s m args below meth c H locs 0 0 (MQ below (gQi G q.1 q.2) args s 0 0 (gA G)) (F0 m 2 ls []) := by
  intro n
  induction n with
  | zero =>
    intro x2 nx2 M hf
    cases hf
  | succ n ih =>
    intro x2 nx2 M hf H locs ls hH hS hl
    rw [f_X5_proofOf_L2] at hf
    refine lv_iload_n X.1 X.2.1 dX5_proofOf_2 rfl (lv_at hl.1 2 rfl) ?_
    refine lv_iload_n X.1 X.2.1 dX5_proofOf_3 rfl (lv_at hl.1 1 rfl) ?_
    refine g_icmp_gt X nx2 nz1 (tgt := 30) dX5_proofOf_4 (by decide) (fun hc4 => ?_) (fun hc4 => ?_)
    · replace hf := it_t hf hc4
      exact hk30 M hf _ _ _ hH hS (gLv_sub hl [0, 1] rfl)
    · replace hf := it_f hf hc4
      refine lv_aload_n X.1 X.2.1 dX5_proofOf_7 rfl (lv_at hl.1 0 rfl) ?_
      refine g_get X cX5 hH (r := 2) (i := 0) (by decide) rfl 2 (by decide) k_103 rfl (v := .ref (gAd G 21 0)) rfl dX5_proofOf_8 ?_
      refine lv_iload_n X.1 X.2.1 dX5_proofOf_11 rfl (lv_at hl.1 2 rfl) ?_
      refine lv_aload_n X.1 X.2.1 dX5_proofOf_12 rfl (lv_at hl.1 0 rfl) ?_
      refine lv_aload_n X.1 X.2.1 dX5_proofOf_13 rfl (lv_at hl.1 0 rfl) ?_
      refine lv_iload_n X.1 X.2.1 dX5_proofOf_14 rfl (lv_at hl.1 2 rfl) ?_
      refine gGoR (gRunV X hH (As := [.int (iI x2)]) (m_X5_targetAt l G x2 nx2 M _ rfl) calX5_targetAt k_628 k_629 k_239 (by decide) cX5 rfl ⟨by decide, by decide⟩ rfl hl rfl (Nat.le_of_ble_eq_true rfl) ⟨Nat.le_refl 0, Nat.le_refl 0⟩ dX5_proofOf_15) hS (fun H locs hr15 hH hS => ?_)
      replace hr15 : (f_X5_targetAt x2 M) < 15 := hr15
      obtain ⟨r18, hq18, hf_⟩ := ob_e hf; clear hf; have hf := hf_; clear hf_
      refine gGoI (gRunV X hH (As := [.ref (gAd G 7 ((f_X5_targetAt x2 M)))]) (m_X5_proofOverInputs l G ((f_X5_targetAt x2 M)) hr15 M _ hq18) calX5_proofOverInputs k_883 k_1098 k_378 (by decide) cX5 rfl ⟨by decide, by decide⟩ rfl hl rfl (Nat.le_of_ble_eq_true rfl) ⟨Nat.le_refl 0, Nat.le_refl 0⟩ dX5_proofOf_18) hS (fun H locs nr18 hH hS => ?_)
      refine gGoV (gRunSN X hH (As := [.ref (gAd G 21 0), .int (iI x2), .int (iI r18)]) (m_X11_store l G 21 0 14 (by decide) gArr_21 x2 nx2 r18 nr18 M _ rfl) calX11_store k_592 k_382 ⟨by decide, by decide⟩ rfl hl rfl (Nat.le_of_ble_eq_true rfl) ⟨Nat.le_refl 0, Nat.le_refl 0⟩ dX5_proofOf_21) hS (fun H locs hH hS => ?_)
      refine g_iinc X (a := x2) (lv' := [(2, .int (iI (wI (x2 + 1)))), (0, .ref (gAd G 2 0)), (1, .int (iI z1))]) dX5_proofOf_24 hl (k := 2) rfl (by decide) rfl (fun ls hl => ?_)
      refine lv_goto (tgt := 2) X.1 X.2.1 dX5_proofOf_27 (by decide) ?_
      exact ih (wI (x2 + 1)) (nmI_w _) ((f_X11_store 21 0 14 x2 r18 M)) hf _ _ _ hH hS (gLv_sub hl [1, 2, 0] rfl)
theorem m_X5_proofOf (l : Launch) (G : gG) (v1 : Int) (nv1 : nmI v1) (M : gM) (q : (Int × gM)) (hf : f_X5_proofOf v1 M = some q) : gMet l yX5_proofOf cX5_proofOf 3 (some .int) 3 68 G M [.ref (gAd G 2 0), .int (iI v1)] (gQi G q.1 q.2) := by
  refine gOfW (by decide) (by show _ ≤ 3; exact Nat.le_of_ble_eq_true rfl) rfl ?_
  intro p e s m below meth c X hH ls hl
  replace hl : gLv ls 3 [(0, .ref (gAd G 2 0)), (1, .int (iI v1))] := hl
  have hS : va_S (gA G) s.heap s.heap [] := va_S.rf
  generalize hargs : ([.ref (gAd G 2 0), .int (iI v1)] : List Value).toArray = args at X ⊢
  clear hargs
  unfold f_X5_proofOf at hf
  refine lv_iconst X.1 X.2.1 dX5_proofOf_0 (v := iI 0) rfl ?_
  refine g_istore_n X (lv' := [(2, .int (iI 0)), (0, .ref (gAd G 2 0)), (1, .int (iI v1))]) dX5_proofOf_1 rfl hl (by decide) rfl (fun ls hl => ?_)
  refine w_X5_proofOf_L2 X _ v1 nv1 q ?_ 64 0 (nmI_l (by decide)) M hf _ _ _ hH hS (gLv_sub hl [1, 2, 0] rfl)
  · intro  M_2_30 hf H locs ls hH hS hl
    refine lv_aload_n X.1 X.2.1 dX5_proofOf_30 rfl (lv_at hl.1 0 rfl) ?_
    refine g_get X cX5 hH (r := 2) (i := 0) (by decide) rfl 2 (by decide) k_103 rfl (v := .ref (gAd G 21 0)) rfl dX5_proofOf_31 ?_
    refine lv_iload_n X.1 X.2.1 dX5_proofOf_34 rfl (lv_at hl.1 1 rfl) ?_
    refine gGoI (gRunSN X hH (As := [.ref (gAd G 21 0), .int (iI v1)]) (m_X11_at l G 21 0 14 (by decide) gArr_21 v1 nv1 M_2_30 _ rfl) calX11_at k_590 k_381 ⟨by decide, by decide⟩ rfl hl rfl (Nat.le_of_ble_eq_true rfl) ⟨Nat.le_refl 0, Nat.le_refl 0⟩ dX5_proofOf_35) hS (fun H locs nr35 hH hS => ?_)
    have hq := Option.some.inj hf; subst hq
    exact gRetI X hH hS (res := (f_X11_at 21 0 14 v1 M_2_30)) nr35 dX5_proofOf_38
theorem w_X5_hasInput_L2 {G : gG} {p : Program} {l : Launch} {e : Env} {s : State} {m : MethodId} {args : Array Value} {below : List Frame} {meth : Method} {c : Code} (X : gX G p s m args meth c RX5 cX5_hasInput 4 (some .boolean) (gWs yX5_hasInput cX5_hasInput 4 (some .boolean))) (k33 : Option (Int)) (z1 : Nat) (hz1 : z1 < 15) (z2 : Int) (nz2 : nmI z2) (M : gM) (q : (Int)) (hk33 : k33 = some q → ∀ (H : Heap) (locs : List Loc) (ls : Array Slot), gH G M H → va_S (gA G) s.heap H locs → gLv ls 4 [] → W p l e { frames := 2, cells := 0, slots := 0, locals := 44 } s m args below meth c H locs 0 0 (MQ below (gQz G q M) args s 0 0 (gA G)) (F0 m 33 ls [])) : ∀ (n : Nat) (x3 : Int) (nx3 : nmI x3), f_X5_hasInput_L2 k33 z1 z2 M n x3 = some q → ∀ (H : Heap) (locs : List Loc) (ls : Array Slot), gH G M H → va_S (gA G) s.heap H locs → gLv ls 4 [(1, .ref (gAd G 7 z1)), (2, .int (iI z2)), (3, .int (iI x3))] → W p l e { frames := 2, cells := 0, slots := 0, locals := 44 } s m args below meth c H locs 0 0 (MQ below (gQz G q M) args s 0 0 (gA G)) (F0 m 2 ls []) := by
  intro n
  induction n with
  | zero =>
    intro x3 nx3 hf
    cases hf
  | succ n ih =>
    intro x3 nx3 hf H locs ls hH hS hl
    rw [f_X5_hasInput_L2] at hf
    refine lv_iload_n X.1 X.2.1 dX5_hasInput_2 rfl (lv_at hl.1 2 rfl) ?_
    refine lv_aload_n X.1 X.2.1 dX5_hasInput_3 rfl (lv_at hl.1 0 rfl) ?_
    refine g_get X cX8 hH (r := 7) (i := z1) hz1 rfl 1 (by decide) k_68 rfl (v := .ref (gAd G 8 z1)) rfl dX5_hasInput_4 ?_
    have nd7 : nmI (M 8 z1 5) := hH.1.1 _ _ _
    refine g_get X cX6 hH (r := 8) (i := z1) (by show _ < 16; omega) rfl 5 (by decide) k_36 rfl (v := .int (iI (M 8 z1 5))) rfl dX5_hasInput_7 ?_
    refine g_icmp_ge X nx3 nd7 (tgt := 33) dX5_hasInput_10 (by decide) (fun hc10 => ?_) (fun hc10 => ?_)
    · replace hf := it_f hf hc10
      exact hk33  hf _ _ _ hH hS (gLv_sub hl [] rfl)
    · replace hf := it_t hf hc10
      refine lv_aload_n X.1 X.2.1 dX5_hasInput_13 rfl (lv_at hl.1 0 rfl) ?_
      refine g_get X cX8 hH (r := 7) (i := z1) hz1 rfl 1 (by decide) k_68 rfl (v := .ref (gAd G 8 z1)) rfl dX5_hasInput_14 ?_
      refine lv_iload_n X.1 X.2.1 dX5_hasInput_17 rfl (lv_at hl.1 2 rfl) ?_
      refine gGoI (gRunV X hH (As := [.int (iI x3)]) (m_X6_chosen l G z1 (by show _ < 16; omega) x3 nx3 M _ rfl) calX6_chosen k_700 k_701 k_275 (by show _ < 16; omega) cX6 rfl ⟨by decide, by decide⟩ rfl hl rfl (Nat.le_of_ble_eq_true rfl) ⟨Nat.le_refl 0, Nat.le_refl 0⟩ dX5_hasInput_18) hS (fun H locs nr18 hH hS => ?_)
      refine lv_iload_n X.1 X.2.1 dX5_hasInput_21 rfl (lv_at hl.1 1 rfl) ?_
      refine g_icmp_ne X nr18 nz2 (tgt := 27) dX5_hasInput_22 (by decide) (fun hc22 => ?_) (fun hc22 => ?_)
      · replace hf := it_f hf hc22
        refine g_iinc X (a := x3) (lv' := [(3, .int (iI (wI (x3 + 1)))), (1, .ref (gAd G 7 z1)), (2, .int (iI z2))]) dX5_hasInput_27 hl (k := 2) rfl (by decide) rfl (fun ls hl => ?_)
        refine lv_goto (tgt := 2) X.1 X.2.1 dX5_hasInput_30 (by decide) ?_
        exact ih (wI (x3 + 1)) (nmI_w _) hf _ _ _ hH hS (gLv_sub hl [1, 2, 0] rfl)
      · replace hf := it_t hf hc22
        refine lv_iconst X.1 X.2.1 dX5_hasInput_25 (v := iI 1) rfl ?_
        have hq := Option.some.inj hf; subst hq
        exact gRetZ X hH hS (res := 1) (by decide) dX5_hasInput_26
theorem m_X5_hasInput (l : Launch) (G : gG) (i1 : Nat) (hi1 : i1 < 15) (v2 : Int) (nv2 : nmI v2) (M : gM) (q : (Int)) (hf : f_X5_hasInput i1 v2 M = some q) : gMet l yX5_hasInput cX5_hasInput 4 (some .boolean) 2 44 G M [.ref (gAd G 2 0), .ref (gAd G 7 i1), .int (iI v2)] (gQz G q M) := by
  refine gOfW (by decide) (by show _ ≤ 4; exact Nat.le_of_ble_eq_true rfl) rfl ?_
  intro p e s m below meth c X hH ls hl
  replace hl : gLv ls 4 [(0, .ref (gAd G 2 0)), (1, .ref (gAd G 7 i1)), (2, .int (iI v2))] := hl
  have hS : va_S (gA G) s.heap s.heap [] := va_S.rf
  generalize hargs : ([.ref (gAd G 2 0), .ref (gAd G 7 i1), .int (iI v2)] : List Value).toArray = args at X ⊢
  clear hargs
  unfold f_X5_hasInput at hf
  refine lv_iconst X.1 X.2.1 dX5_hasInput_0 (v := iI 0) rfl ?_
  refine g_istore_n X (lv' := [(3, .int (iI 0)), (0, .ref (gAd G 2 0)), (1, .ref (gAd G 7 i1)), (2, .int (iI v2))]) dX5_hasInput_1 rfl hl (by decide) rfl (fun ls hl => ?_)
  refine w_X5_hasInput_L2 X _ i1 hi1 v2 nv2 M q ?_ 64 0 (nmI_l (by decide)) hf _ _ _ hH hS (gLv_sub hl [2, 3, 0] rfl)
  · intro  hf H locs ls hH hS hl
    refine lv_iconst X.1 X.2.1 dX5_hasInput_33 (v := iI 0) rfl ?_
    have hq := Option.some.inj hf; subst hq
    exact gRetZ X hH hS (res := 0) (by decide) dX5_hasInput_34
theorem w_X5_targetsOver_L20 {G : gG} {p : Program} {l : Launch} {e : Env} {s : State} {m : MethodId} {args : Array Value} {below : List Frame} {meth : Method} {c : Code} (X : gX G p s m args meth c RX5 cX5_targetsOver 5 (some .int) (gWs yX5_targetsOver cX5_targetsOver 5 (some .int))) (k68 : Int → Option (Int)) (z1 : Int) (nz1 : nmI z1) (M : gM) (q : (Int)) (hk68 : ∀ (x2 : Int) (nx2 : nmI x2), k68 x2 = some q → ∀ (H : Heap) (locs : List Loc) (ls : Array Slot), gH G M H → va_S (gA G) s.heap H locs → gLv ls 5 [(2, .int (iI x2))] → W p l e { frames := 3, cells := 0, slots := 0, locals := 68 } s m args below meth c H locs 0 0 (MQ below (gQi G q M) args s 0 0 (gA G)) (F0 m 68 ls [])) : ∀ (n : Nat) (x2 : Int) (nx2 : nmI x2) (x3 : Int) (nx3 : nmI x3), f_X5_targetsOver_L20 k68 z1 M n x2 x3 = some q → ∀ (H : Heap) (locs : List Loc) (ls : Array Slot), gH G M H → va_S (gA G) s.heap H locs → gLv ls 5 [(0, .ref (gAd G 2 0)), (1, .int (iI z1)), (2, .int (iI x2)), (3, .int (iI x3))] → W p l e { frames := 3, cells := 0, slots := 0, locals := 68 } s m args below meth c H locs 0 0 (MQ below (gQi G q M) args s 0 0 (gA G)) (F0 m 20 ls []) := by
  intro n
  induction n with
  | zero =>
    intro x2 nx2 x3 nx3 hf
    cases hf
  | succ n ih =>
    intro x2 nx2 x3 nx3 hf H locs ls hH hS hl
    rw [f_X5_targetsOver_L20] at hf
    refine lv_iload_n X.1 X.2.1 dX5_targetsOver_20 rfl (lv_at hl.1 3 rfl) ?_
    refine lv_aload_n X.1 X.2.1 dX5_targetsOver_21 rfl (lv_at hl.1 0 rfl) ?_
    have nd22 : nmI (M 2 0 5) := hH.1.1 _ _ _
    refine g_get X cX5 hH (r := 2) (i := 0) (by decide) rfl 5 (by decide) k_107 rfl (v := .int (iI (M 2 0 5))) rfl dX5_targetsOver_22 ?_
    refine g_icmp_ge X nx3 nd22 (tgt := 68) dX5_targetsOver_25 (by decide) (fun hc25 => ?_) (fun hc25 => ?_)
    · replace hf := it_f hf hc25
      exact hk68 x2 nx2 hf _ _ _ hH hS (gLv_sub hl [2] rfl)
    · replace hf := it_t hf hc25
      refine lv_aload_n X.1 X.2.1 dX5_targetsOver_28 rfl (lv_at hl.1 0 rfl) ?_
      refine lv_iload_n X.1 X.2.1 dX5_targetsOver_29 rfl (lv_at hl.1 3 rfl) ?_
      refine gGoR (gRunV X hH (As := [.int (iI x3)]) (m_X5_targetAt l G x3 nx3 M _ rfl) calX5_targetAt k_628 k_629 k_239 (by decide) cX5 rfl ⟨by decide, by decide⟩ rfl hl rfl (Nat.le_of_ble_eq_true rfl) ⟨Nat.le_refl 0, Nat.le_refl 0⟩ dX5_targetsOver_30) hS (fun H locs hr30 hH hS => ?_)
      replace hr30 : (f_X5_targetAt x3 M) < 15 := hr30
      refine g_astore X (lv' := [(4, .ref (gAd G 7 ((f_X5_targetAt x3 M)))), (0, .ref (gAd G 2 0)), (1, .int (iI z1)), (2, .int (iI x2)), (3, .int (iI x3))]) dX5_targetsOver_33 hl (by decide) rfl (fun ls hl => ?_)
      refine lv_aload_n X.1 X.2.1 dX5_targetsOver_35 rfl (lv_at hl.1 1 rfl) ?_
      refine lv_aload X.1 X.2.1 dX5_targetsOver_36 (lv_at hl.1 0 rfl) ?_
      obtain ⟨r38, hq38, hf_⟩ := ob_e hf; clear hf; have hf := hf_; clear hf_
      refine gGoI (gRunV X hH (As := [.ref (gAd G 7 ((f_X5_targetAt x3 M)))]) (m_X5_inputTargets l G ((f_X5_targetAt x3 M)) hr30 M _ hq38) calX5_inputTargets k_697 k_698 k_274 (by decide) cX5 rfl ⟨by decide, by decide⟩ rfl hl rfl (Nat.le_of_ble_eq_true rfl) ⟨Nat.le_refl 0, Nat.le_refl 0⟩ dX5_targetsOver_38) hS (fun H locs nr38 hH hS => ?_)
      refine lv_iload_n X.1 X.2.1 dX5_targetsOver_41 rfl (lv_at hl.1 3 rfl) ?_
      refine g_iand X dX5_targetsOver_42 ?_
      obtain ⟨k62, ek62, hf_⟩ := oj_e hf; clear hf; have hf := hf_; clear hf_
      have hk62 : ∀ (x2_62 : Int) (nx2_62 : nmI x2_62), k62 x2_62 = some q → ∀ (H : Heap) (locs : List Loc) (ls : Array Slot), gH G M H → va_S (gA G) s.heap H locs → gLv ls 5 [(0, .ref (gAd G 2 0)), (1, .int (iI z1)), (2, .int (iI x2_62)), (3, .int (iI x3))] → W p l e { frames := 3, cells := 0, slots := 0, locals := 68 } s m args below meth c H locs 0 0 (MQ below (gQi G q M) args s 0 0 (gA G)) (F0 m 62 ls []) := by
        intro x2_62 nx2_62 hf H locs ls hH hS hl
        subst ek62
        refine g_iinc X (a := x3) (lv' := [(3, .int (iI (wI (x3 + 1)))), (0, .ref (gAd G 2 0)), (1, .int (iI z1)), (2, .int (iI x2_62))]) dX5_targetsOver_62 hl (k := 3) rfl (by decide) rfl (fun ls hl => ?_)
        refine lv_goto (tgt := 20) X.1 X.2.1 dX5_targetsOver_65 (by decide) ?_
        exact ih x2_62 nx2_62 (wI (x3 + 1)) (nmI_w _) hf _ _ _ hH hS (gLv_sub hl [1, 2, 3, 0] rfl)
      clear ek62
      obtain ⟨k56, ek56, hf_⟩ := oj_e hf; clear hf; have hf := hf_; clear hf_
      have hk56 : k56 = some q → ∀ (H : Heap) (locs : List Loc) (ls : Array Slot), gH G M H → va_S (gA G) s.heap H locs → gLv ls 5 [(0, .ref (gAd G 2 0)), (1, .int (iI z1)), (2, .int (iI x2)), (3, .int (iI x3))] → W p l e { frames := 3, cells := 0, slots := 0, locals := 68 } s m args below meth c H locs 0 0 (MQ below (gQi G q M) args s 0 0 (gA G)) (F0 m 56 ls []) := by
        intro  hf H locs ls hH hS hl
        subst ek56
        refine lv_iload_n X.1 X.2.1 dX5_targetsOver_56 rfl (lv_at hl.1 2 rfl) ?_
        refine lv_iconst X.1 X.2.1 dX5_targetsOver_57 (v := iI 1) rfl ?_
        refine lv_iload_n X.1 X.2.1 dX5_targetsOver_58 rfl (lv_at hl.1 3 rfl) ?_
        refine g_ishl X dX5_targetsOver_59 ?_
        refine g_ior X dX5_targetsOver_60 ?_
        refine g_istore_n X (lv' := [(2, .int (iI (gOr x2 (gShl 1 x3)))), (0, .ref (gAd G 2 0)), (1, .int (iI z1)), (3, .int (iI x3))]) dX5_targetsOver_61 rfl hl (by decide) rfl (fun ls hl => ?_)
        exact hk62 (gOr x2 (gShl 1 x3)) (nmI_or _ _) hf _ _ _ hH hS (gLv_sub hl [1, 2, 0, 3] rfl)
      clear ek56
      refine g_if_ne X (nmI_and _ _) (tgt := 56) dX5_targetsOver_43 (by decide) (fun hc43 => ?_) (fun hc43 => ?_)
      · replace hf := it_f hf hc43
        exact hk56  hf _ _ _ hH hS (gLv_sub hl [1, 2, 3, 4] rfl)
      · replace hf := it_t hf hc43
        refine lv_aload_n X.1 X.2.1 dX5_targetsOver_46 rfl (lv_at hl.1 1 rfl) ?_
        refine lv_aload X.1 X.2.1 dX5_targetsOver_47 (lv_at hl.1 0 rfl) ?_
        refine lv_iload_n X.1 X.2.1 dX5_targetsOver_49 rfl (lv_at hl.1 2 rfl) ?_
        obtain ⟨r50, hq50, hf_⟩ := ob_e hf; clear hf; have hf := hf_; clear hf_
        refine gGoZ (gRunV X hH (As := [.ref (gAd G 7 ((f_X5_targetAt x3 M))), .int (iI z1)]) (m_X5_hasInput l G ((f_X5_targetAt x3 M)) hr30 z1 nz1 M _ hq50) calX5_hasInput k_900 k_1099 k_390 (by decide) cX5 rfl ⟨by decide, by decide⟩ rfl hl rfl (Nat.le_of_ble_eq_true rfl) ⟨Nat.le_refl 0, Nat.le_refl 0⟩ dX5_targetsOver_50) hS (fun H locs br50 hH hS => ?_)
        refine g_if_eq X (nmI_b br50) (tgt := 62) dX5_targetsOver_53 (by decide) (fun hc53 => ?_) (fun hc53 => ?_)
        · replace hf := it_t hf hc53
          exact hk62 x2 nx2 hf _ _ _ hH hS (gLv_sub hl [1, 2, 3, 4] rfl)
        · replace hf := it_f hf hc53
          exact hk56  hf _ _ _ hH hS (gLv_sub hl [1, 2, 3, 4] rfl)
theorem m_X5_targetsOver (l : Launch) (G : gG) (v1 : Int) (nv1 : nmI v1) (M : gM) (q : (Int)) (hf : f_X5_targetsOver v1 M = some q) : gMet l yX5_targetsOver cX5_targetsOver 5 (some .int) 3 68 G M [.ref (gAd G 2 0), .int (iI v1)] (gQi G q M) := by
  refine gOfW (by decide) (by show _ ≤ 5; exact Nat.le_of_ble_eq_true rfl) rfl ?_
  intro p e s m below meth c X hH ls hl
  replace hl : gLv ls 5 [(0, .ref (gAd G 2 0)), (1, .int (iI v1))] := hl
  have hS : va_S (gA G) s.heap s.heap [] := va_S.rf
  generalize hargs : ([.ref (gAd G 2 0), .int (iI v1)] : List Value).toArray = args at X ⊢
  clear hargs
  unfold f_X5_targetsOver at hf
  refine lv_iload_n X.1 X.2.1 dX5_targetsOver_0 rfl (lv_at hl.1 1 rfl) ?_
  refine gGoZ (gRunSN X hH (As := [.int (iI v1)]) (m_X11_isTarget l G v1 nv1 M _ rfl) calX11_isTarget k_614 k_276 ⟨by decide, by decide⟩ rfl hl rfl (Nat.le_of_ble_eq_true rfl) ⟨Nat.le_refl 0, Nat.le_refl 0⟩ dX5_targetsOver_1) hS (fun H locs br1 hH hS => ?_)
  obtain ⟨k17, ek17, hf_⟩ := oj_e hf; clear hf; have hf := hf_; clear hf_
  have hk17 : ∀ (xs0_17 : Int) (nxs0_17 : nmI xs0_17), k17 xs0_17 = some q → ∀ (H : Heap) (locs : List Loc) (ls : Array Slot), gH G M H → va_S (gA G) s.heap H locs → gLv ls 5 [(0, .ref (gAd G 2 0)), (1, .int (iI v1))] → W p l e { frames := 3, cells := 0, slots := 0, locals := 68 } s m args below meth c H locs 0 0 (MQ below (gQi G q M) args s 0 0 (gA G)) (F0 m 17 ls [.int (iI xs0_17)]) := by
    intro xs0_17 nxs0_17 hf H locs ls hH hS hl
    subst ek17
    refine g_istore_n X (lv' := [(2, .int (iI xs0_17)), (0, .ref (gAd G 2 0)), (1, .int (iI v1))]) dX5_targetsOver_17 rfl hl (by decide) rfl (fun ls hl => ?_)
    refine lv_iconst X.1 X.2.1 dX5_targetsOver_18 (v := iI 0) rfl ?_
    refine g_istore_n X (lv' := [(3, .int (iI 0)), (2, .int (iI xs0_17)), (0, .ref (gAd G 2 0)), (1, .int (iI v1))]) dX5_targetsOver_19 rfl hl (by decide) rfl (fun ls hl => ?_)
    refine w_X5_targetsOver_L20 X _ v1 nv1 M q ?_ 64 xs0_17 nxs0_17 0 (nmI_l (by decide)) hf _ _ _ hH hS (gLv_sub hl [2, 3, 1, 0] rfl)
    · intro y2_20_68 ny2_20_68 hf H locs ls hH hS hl
      refine lv_iload_n X.1 X.2.1 dX5_targetsOver_68 rfl (lv_at hl.1 0 rfl) ?_
      have hq := Option.some.inj hf; subst hq
      exact gRetI X hH hS (res := y2_20_68) ny2_20_68 dX5_targetsOver_69
  clear ek17
  refine g_if_eq X (nmI_b br1) (tgt := 16) dX5_targetsOver_4 (by decide) (fun hc4 => ?_) (fun hc4 => ?_)
  · replace hf := it_t hf hc4
    refine lv_iconst X.1 X.2.1 dX5_targetsOver_16 (v := iI 0) rfl ?_
    exact hk17 0 (nmI_l (by decide)) hf _ _ _ hH hS (gLv_sub hl [0, 1] rfl)
  · replace hf := it_f hf hc4
    refine lv_iconst X.1 X.2.1 dX5_targetsOver_7 (v := iI 1) rfl ?_
    refine lv_iload_n X.1 X.2.1 dX5_targetsOver_8 rfl (lv_at hl.1 1 rfl) ?_
    refine lv_bipush X.1 X.2.1 dX5_targetsOver_9 (v := iI 16) (by decide) ?_
    refine g_isub X dX5_targetsOver_11 ?_
    refine g_ishl X dX5_targetsOver_12 ?_
    refine lv_goto (tgt := 17) X.1 X.2.1 dX5_targetsOver_13 (by decide) ?_
    exact hk17 (gShl 1 (wI (v1 - 16))) (nmI_shl _ _) hf _ _ _ hH hS (gLv_sub hl [0, 1] rfl)
theorem w_X5_spreadDistance_L16 {G : gG} {p : Program} {l : Launch} {e : Env} {s : State} {m : MethodId} {args : Array Value} {below : List Frame} {meth : Method} {c : Code} (X : gX G p s m args meth c RX5 cX5_spreadDistance 6 none (gWs yX5_spreadDistance cX5_spreadDistance 6 none)) (k79 : gM → Option gM) (z1 : Nat) (hz1 : z1 < 15) (z2 : Int) (nz2 : nmI z2) (q : gM) (hk79 : ∀  (M : gM), k79 M = some q → ∀ (H : Heap) (locs : List Loc) (ls : Array Slot), gH G M H → va_S (gA G) s.heap H locs → gLv ls 6 [] → W p l e { frames := 2, cells := 0, slots := 0, locals := 44 } s m args below meth c H locs 0 0 (MQ below (gQv G q) args s 0 0 (gA G)) (F0 m 79 ls [])) : ∀ (n : Nat) (x3 : Int) (nx3 : nmI x3) (M : gM), f_X5_spreadDistance_L16 k79 z1 z2 n x3 M = some q → ∀ (H : Heap) (locs : List Loc) (ls : Array Slot), gH G M H → va_S (gA G) s.heap H locs → gLv ls 6 [(0, .ref (gAd G 2 0)), (1, .ref (gAd G 7 z1)), (2, .int (iI z2)), (3, .int (iI x3))] → W p l e { frames := 2, cells := 0, slots := 0, locals := 44 } s m args below meth c H locs 0 0 (MQ below (gQv G q) args s 0 0 (gA G)) (F0 m 16 ls []) := by
  intro n
  induction n with
  | zero =>
    intro x3 nx3 M hf
    cases hf
  | succ n ih =>
    intro x3 nx3 M hf H locs ls hH hS hl
    rw [f_X5_spreadDistance_L16] at hf
    refine lv_iload_n X.1 X.2.1 dX5_spreadDistance_16 rfl (lv_at hl.1 3 rfl) ?_
    refine lv_aload_n X.1 X.2.1 dX5_spreadDistance_17 rfl (lv_at hl.1 1 rfl) ?_
    refine g_get X cX8 hH (r := 7) (i := z1) hz1 rfl 1 (by decide) k_68 rfl (v := .ref (gAd G 8 z1)) rfl dX5_spreadDistance_18 ?_
    have nd21 : nmI (M 8 z1 5) := hH.1.1 _ _ _
    refine g_get X cX6 hH (r := 8) (i := z1) (by show _ < 16; omega) rfl 5 (by decide) k_36 rfl (v := .int (iI (M 8 z1 5))) rfl dX5_spreadDistance_21 ?_
    refine g_icmp_ge X nx3 nd21 (tgt := 79) dX5_spreadDistance_24 (by decide) (fun hc24 => ?_) (fun hc24 => ?_)
    · replace hf := it_f hf hc24
      exact hk79 M hf _ _ _ hH hS (gLv_sub hl [] rfl)
    · replace hf := it_t hf hc24
      refine lv_aload_n X.1 X.2.1 dX5_spreadDistance_27 rfl (lv_at hl.1 1 rfl) ?_
      refine g_get X cX8 hH (r := 7) (i := z1) hz1 rfl 1 (by decide) k_68 rfl (v := .ref (gAd G 8 z1)) rfl dX5_spreadDistance_28 ?_
      refine lv_iload_n X.1 X.2.1 dX5_spreadDistance_31 rfl (lv_at hl.1 3 rfl) ?_
      refine gGoI (gRunV X hH (As := [.int (iI x3)]) (m_X6_chosen l G z1 (by show _ < 16; omega) x3 nx3 M _ rfl) calX6_chosen k_700 k_701 k_275 (by show _ < 16; omega) cX6 rfl ⟨by decide, by decide⟩ rfl hl rfl (Nat.le_of_ble_eq_true rfl) ⟨Nat.le_refl 0, Nat.le_refl 0⟩ dX5_spreadDistance_32) hS (fun H locs nr32 hH hS => ?_)
      refine lv_bipush X.1 X.2.1 dX5_spreadDistance_35 (v := iI 16) (by decide) ?_
      refine g_isub X dX5_spreadDistance_37 ?_
      refine g_istore X (lv' := [(4, .int (iI (wI (((f_X6_chosen z1 x3 M)) - 16)))), (0, .ref (gAd G 2 0)), (1, .ref (gAd G 7 z1)), (2, .int (iI z2)), (3, .int (iI x3))]) dX5_spreadDistance_38 hl (by decide) rfl (fun ls hl => ?_)
      refine lv_aload_n X.1 X.2.1 dX5_spreadDistance_40 rfl (lv_at hl.1 1 rfl) ?_
      refine g_get X cX5 hH (r := 2) (i := 0) (by decide) rfl 3 (by decide) k_104 rfl (v := .ref (gAd G 22 0)) rfl dX5_spreadDistance_41 ?_
      refine lv_iload X.1 X.2.1 dX5_spreadDistance_44 (lv_at hl.1 0 rfl) ?_
      refine gGoI (gRunSN X hH (As := [.ref (gAd G 22 0), .int (iI (wI (((f_X6_chosen z1 x3 M)) - 16)))]) (m_X11_at l G 22 0 14 (by decide) gArr_22 (wI (((f_X6_chosen z1 x3 M)) - 16)) (nmI_w _) M _ rfl) calX11_at k_590 k_381 ⟨by decide, by decide⟩ rfl hl rfl (Nat.le_of_ble_eq_true rfl) ⟨Nat.le_refl 0, Nat.le_refl 0⟩ dX5_spreadDistance_46) hS (fun H locs nr46 hH hS => ?_)
      refine g_istore X (lv' := [(5, .int (iI ((f_X11_at 22 0 14 (wI (((f_X6_chosen z1 x3 M)) - 16)) M)))), (4, .int (iI (wI (((f_X6_chosen z1 x3 M)) - 16)))), (0, .ref (gAd G 2 0)), (1, .ref (gAd G 7 z1)), (2, .int (iI z2)), (3, .int (iI x3))]) dX5_spreadDistance_49 hl (by decide) rfl (fun ls hl => ?_)
      refine lv_iload X.1 X.2.1 dX5_spreadDistance_51 (lv_at hl.1 0 rfl) ?_
      refine lv_iconst X.1 X.2.1 dX5_spreadDistance_53 (v := iI (-1)) rfl ?_
      obtain ⟨k73, ek73, hf_⟩ := oj_e hf; clear hf; have hf := hf_; clear hf_
      have hk73 : ∀  (M_73 : gM), k73 M_73 = some q → ∀ (H : Heap) (locs : List Loc) (ls : Array Slot), gH G M_73 H → va_S (gA G) s.heap H locs → gLv ls 6 [(0, .ref (gAd G 2 0)), (1, .ref (gAd G 7 z1)), (2, .int (iI z2)), (3, .int (iI x3))] → W p l e { frames := 2, cells := 0, slots := 0, locals := 44 } s m args below meth c H locs 0 0 (MQ below (gQv G q) args s 0 0 (gA G)) (F0 m 73 ls []) := by
        intro  M_73 hf H locs ls hH hS hl
        subst ek73
        refine g_iinc X (a := x3) (lv' := [(3, .int (iI (wI (x3 + 1)))), (0, .ref (gAd G 2 0)), (1, .ref (gAd G 7 z1)), (2, .int (iI z2))]) dX5_spreadDistance_73 hl (k := 3) rfl (by decide) rfl (fun ls hl => ?_)
        refine lv_goto (tgt := 16) X.1 X.2.1 dX5_spreadDistance_76 (by decide) ?_
        exact ih (wI (x3 + 1)) (nmI_w _) M_73 hf _ _ _ hH hS (gLv_sub hl [1, 2, 3, 0] rfl)
      clear ek73
      obtain ⟨k63, ek63, hf_⟩ := oj_e hf; clear hf; have hf := hf_; clear hf_
      have hk63 : k63 = some q → ∀ (H : Heap) (locs : List Loc) (ls : Array Slot), gH G M H → va_S (gA G) s.heap H locs → gLv ls 6 [(0, .ref (gAd G 2 0)), (1, .ref (gAd G 7 z1)), (2, .int (iI z2)), (3, .int (iI x3)), (4, .int (iI (wI (((f_X6_chosen z1 x3 M)) - 16))))] → W p l e { frames := 2, cells := 0, slots := 0, locals := 44 } s m args below meth c H locs 0 0 (MQ below (gQv G q) args s 0 0 (gA G)) (F0 m 63 ls []) := by
        intro  hf H locs ls hH hS hl
        subst ek63
        refine lv_aload_n X.1 X.2.1 dX5_spreadDistance_63 rfl (lv_at hl.1 0 rfl) ?_
        refine g_get X cX5 hH (r := 2) (i := 0) (by decide) rfl 3 (by decide) k_104 rfl (v := .ref (gAd G 22 0)) rfl dX5_spreadDistance_64 ?_
        refine lv_iload X.1 X.2.1 dX5_spreadDistance_67 (lv_at hl.1 4 rfl) ?_
        refine lv_iload_n X.1 X.2.1 dX5_spreadDistance_69 rfl (lv_at hl.1 2 rfl) ?_
        refine gGoV (gRunSN X hH (As := [.ref (gAd G 22 0), .int (iI (wI (((f_X6_chosen z1 x3 M)) - 16))), .int (iI z2)]) (m_X11_store l G 22 0 14 (by decide) gArr_22 (wI (((f_X6_chosen z1 x3 M)) - 16)) (nmI_w _) z2 nz2 M _ rfl) calX11_store k_592 k_382 ⟨by decide, by decide⟩ rfl hl rfl (Nat.le_of_ble_eq_true rfl) ⟨Nat.le_refl 0, Nat.le_refl 0⟩ dX5_spreadDistance_70) hS (fun H locs hH hS => ?_)
        exact hk73 ((f_X11_store 22 0 14 (wI (((f_X6_chosen z1 x3 M)) - 16)) z2 M)) hf _ _ _ hH hS (gLv_sub hl [0, 1, 2, 3] rfl)
      clear ek63
      refine g_icmp_eq X nr46 (nmI_l (by decide)) (tgt := 63) dX5_spreadDistance_54 (by decide) (fun hc54 => ?_) (fun hc54 => ?_)
      · replace hf := it_t hf hc54
        exact hk63  hf _ _ _ hH hS (gLv_sub hl [2, 3, 4, 5, 1] rfl)
      · replace hf := it_f hf hc54
        refine lv_iload X.1 X.2.1 dX5_spreadDistance_57 (lv_at hl.1 0 rfl) ?_
        refine lv_iload_n X.1 X.2.1 dX5_spreadDistance_59 rfl (lv_at hl.1 4 rfl) ?_
        refine g_icmp_le X nr46 nz2 (tgt := 73) dX5_spreadDistance_60 (by decide) (fun hc60 => ?_) (fun hc60 => ?_)
        · replace hf := it_f hf hc60
          exact hk73 M hf _ _ _ hH hS (gLv_sub hl [2, 3, 4, 5] rfl)
        · replace hf := it_t hf hc60
          exact hk63  hf _ _ _ hH hS (gLv_sub hl [2, 3, 4, 5, 1] rfl)
theorem m_X5_spreadDistance (l : Launch) (G : gG) (i1 : Nat) (hi1 : i1 < 15) (M : gM) (q : gM) (hf : f_X5_spreadDistance i1 M = some q) : gMet l yX5_spreadDistance cX5_spreadDistance 6 none 2 44 G M [.ref (gAd G 2 0), .ref (gAd G 7 i1)] (gQv G q) := by
  refine gOfW (by decide) (by show _ ≤ 6; exact Nat.le_of_ble_eq_true rfl) rfl ?_
  intro p e s m below meth c X hH ls hl
  replace hl : gLv ls 6 [(0, .ref (gAd G 2 0)), (1, .ref (gAd G 7 i1))] := hl
  have hS : va_S (gA G) s.heap s.heap [] := va_S.rf
  generalize hargs : ([.ref (gAd G 2 0), .ref (gAd G 7 i1)] : List Value).toArray = args at X ⊢
  clear hargs
  unfold f_X5_spreadDistance at hf
  refine lv_aload_n X.1 X.2.1 dX5_spreadDistance_0 rfl (lv_at hl.1 0 rfl) ?_
  refine g_get X cX5 hH (r := 2) (i := 0) (by decide) rfl 3 (by decide) k_104 rfl (v := .ref (gAd G 22 0)) rfl dX5_spreadDistance_1 ?_
  refine lv_aload_n X.1 X.2.1 dX5_spreadDistance_4 rfl (lv_at hl.1 1 rfl) ?_
  have nd5 : nmI (M 7 i1 0) := hH.1.1 _ _ _
  refine g_get X cX8 hH (r := 7) (i := i1) hi1 rfl 0 (by decide) k_65 rfl (v := .int (iI (M 7 i1 0))) rfl dX5_spreadDistance_5 ?_
  refine gGoI (gRunSN X hH (As := [.ref (gAd G 22 0), .int (iI (M 7 i1 0))]) (m_X11_at l G 22 0 14 (by decide) gArr_22 (M 7 i1 0) nd5 M _ rfl) calX11_at k_590 k_381 ⟨by decide, by decide⟩ rfl hl rfl (Nat.le_of_ble_eq_true rfl) ⟨Nat.le_refl 0, Nat.le_refl 0⟩ dX5_spreadDistance_8) hS (fun H locs nr8 hH hS => ?_)
  refine lv_iconst X.1 X.2.1 dX5_spreadDistance_11 (v := iI 1) rfl ?_
  refine g_iadd X dX5_spreadDistance_12 ?_
  refine g_istore_n X (lv' := [(2, .int (iI (wI (((f_X11_at 22 0 14 (M 7 i1 0) M)) + 1)))), (0, .ref (gAd G 2 0)), (1, .ref (gAd G 7 i1))]) dX5_spreadDistance_13 rfl hl (by decide) rfl (fun ls hl => ?_)
  refine lv_iconst X.1 X.2.1 dX5_spreadDistance_14 (v := iI 0) rfl ?_
  refine g_istore_n X (lv' := [(3, .int (iI 0)), (2, .int (iI (wI (((f_X11_at 22 0 14 (M 7 i1 0) M)) + 1)))), (0, .ref (gAd G 2 0)), (1, .ref (gAd G 7 i1))]) dX5_spreadDistance_15 rfl hl (by decide) rfl (fun ls hl => ?_)
  refine w_X5_spreadDistance_L16 X _ i1 hi1 (wI (((f_X11_at 22 0 14 (M 7 i1 0) M)) + 1)) (nmI_w _) q ?_ 64 0 (nmI_l (by decide)) M hf _ _ _ hH hS (gLv_sub hl [2, 3, 1, 0] rfl)
  · intro  M_16_79 hf H locs ls hH hS hl
    have hq := Option.some.inj hf; subst hq
    exact gRetV X hH hS dX5_spreadDistance_79
theorem w_X5_distance_L2 {G : gG} {p : Program} {l : Launch} {e : Env} {s : State} {m : MethodId} {args : Array Value} {below : List Frame} {meth : Method} {c : Code} (X : gX G p s m args meth c RX5 cX5_distance 4 (some .int) (gWs yX5_distance cX5_distance 4 (some .int))) (k32 : gM → Option (Int × gM)) (z1 : Int) (nz1 : nmI z1) (z2 : Int) (nz2 : nmI z2) (q : (Int × gM)) (hk32 : ∀  (M : gM), k32 M = some q → ∀ (H : Heap) (locs : List Loc) (ls : Array Slot), gH G M H → va_S (gA G) s.heap H locs → gLv ls 4 [(0, .ref (gAd G 2 0)), (1, .int (iI z1)), (2, .int (iI z2))] → W p l e { frames := 3, cells := 0, slots := 0, locals := 69 } s m args below meth c H locs 0 0 (MQ below (gQi G q.1 q.2) args s 0 0 (gA G)) (F0 m 32 ls [])) : ∀ (n : Nat) (x3 : Int) (nx3 : nmI x3) (M : gM), f_X5_distance_L2 k32 z1 z2 n x3 M = some q → ∀ (H : Heap) (locs : List Loc) (ls : Array Slot), gH G M H → va_S (gA G) s.heap H locs → gLv ls 4 [(0, .ref (gAd G 2 0)), (1, .int (iI z1)), (2, .int (iI z2)), (3, .int (iI x3))] → W p l e { frames := 3, cells := 0, slots := 0, locals := 69 } s m args below meth c H locs 0 0 (MQ below (gQi G q.1 q.2) args s 0 0 (gA G)) (F0 m 2 ls []) := by
  intro n
  induction n with
  | zero =>
    intro x3 nx3 M hf
    cases hf
  | succ n ih =>
    intro x3 nx3 M hf H locs ls hH hS hl
    rw [f_X5_distance_L2] at hf
    refine lv_iload_n X.1 X.2.1 dX5_distance_2 rfl (lv_at hl.1 3 rfl) ?_
    refine lv_bipush X.1 X.2.1 dX5_distance_3 (v := iI 14) (by decide) ?_
    refine g_icmp_ge X nx3 (nmI_l (by decide)) (tgt := 32) dX5_distance_5 (by decide) (fun hc5 => ?_) (fun hc5 => ?_)
    · replace hf := it_f hf hc5
      exact hk32 M hf _ _ _ hH hS (gLv_sub hl [0, 1, 2] rfl)
    · replace hf := it_t hf hc5
      refine lv_aload_n X.1 X.2.1 dX5_distance_8 rfl (lv_at hl.1 0 rfl) ?_
      refine g_get X cX5 hH (r := 2) (i := 0) (by decide) rfl 3 (by decide) k_104 rfl (v := .ref (gAd G 22 0)) rfl dX5_distance_9 ?_
      refine lv_iload_n X.1 X.2.1 dX5_distance_12 rfl (lv_at hl.1 3 rfl) ?_
      refine lv_iload_n X.1 X.2.1 dX5_distance_13 rfl (lv_at hl.1 3 rfl) ?_
      refine lv_iload_n X.1 X.2.1 dX5_distance_14 rfl (lv_at hl.1 1 rfl) ?_
      obtain ⟨k23, ek23, hf_⟩ := oj_e hf; clear hf; have hf := hf_; clear hf_
      have hk23 : ∀ (xs2_23 : Int) (nxs2_23 : nmI xs2_23), k23 xs2_23 = some q → ∀ (H : Heap) (locs : List Loc) (ls : Array Slot), gH G M H → va_S (gA G) s.heap H locs → gLv ls 4 [(0, .ref (gAd G 2 0)), (1, .int (iI z1)), (2, .int (iI z2)), (3, .int (iI x3))] → W p l e { frames := 3, cells := 0, slots := 0, locals := 69 } s m args below meth c H locs 0 0 (MQ below (gQi G q.1 q.2) args s 0 0 (gA G)) (F0 m 23 ls [.int (iI xs2_23), .int (iI x3), .ref (gAd G 22 0)]) := by
        intro xs2_23 nxs2_23 hf H locs ls hH hS hl
        subst ek23
        refine gGoV (gRunSN X hH (As := [.ref (gAd G 22 0), .int (iI x3), .int (iI xs2_23)]) (m_X11_store l G 22 0 14 (by decide) gArr_22 x3 nx3 xs2_23 nxs2_23 M _ rfl) calX11_store k_592 k_382 ⟨by decide, by decide⟩ rfl hl rfl (Nat.le_of_ble_eq_true rfl) ⟨Nat.le_refl 0, Nat.le_refl 0⟩ dX5_distance_23) hS (fun H locs hH hS => ?_)
        refine g_iinc X (a := x3) (lv' := [(3, .int (iI (wI (x3 + 1)))), (0, .ref (gAd G 2 0)), (1, .int (iI z1)), (2, .int (iI z2))]) dX5_distance_26 hl (k := 3) rfl (by decide) rfl (fun ls hl => ?_)
        refine lv_goto (tgt := 2) X.1 X.2.1 dX5_distance_29 (by decide) ?_
        exact ih (wI (x3 + 1)) (nmI_w _) ((f_X11_store 22 0 14 x3 xs2_23 M)) hf _ _ _ hH hS (gLv_sub hl [1, 2, 3, 0] rfl)
      clear ek23
      refine g_icmp_ne X nx3 nz1 (tgt := 22) dX5_distance_15 (by decide) (fun hc15 => ?_) (fun hc15 => ?_)
      · replace hf := it_f hf hc15
        refine lv_iconst X.1 X.2.1 dX5_distance_22 (v := iI (-1)) rfl ?_
        exact hk23 ((-1)) (nmI_l (by decide)) hf _ _ _ hH hS (gLv_sub hl [0, 1, 2, 3] rfl)
      · replace hf := it_t hf hc15
        refine lv_iconst X.1 X.2.1 dX5_distance_18 (v := iI 0) rfl ?_
        refine lv_goto (tgt := 23) X.1 X.2.1 dX5_distance_19 (by decide) ?_
        exact hk23 0 (nmI_l (by decide)) hf _ _ _ hH hS (gLv_sub hl [0, 1, 2, 3] rfl)
theorem w_X5_distance_L34 {G : gG} {p : Program} {l : Launch} {e : Env} {s : State} {m : MethodId} {args : Array Value} {below : List Frame} {meth : Method} {c : Code} (X : gX G p s m args meth c RX5 cX5_distance 4 (some .int) (gWs yX5_distance cX5_distance 4 (some .int))) (k66 : gM → Option (Int × gM)) (z2 : Int) (nz2 : nmI z2) (q : (Int × gM)) (hk66 : ∀  (M : gM), k66 M = some q → ∀ (H : Heap) (locs : List Loc) (ls : Array Slot), gH G M H → va_S (gA G) s.heap H locs → gLv ls 4 [(0, .ref (gAd G 2 0)), (2, .int (iI z2))] → W p l e { frames := 3, cells := 0, slots := 0, locals := 69 } s m args below meth c H locs 0 0 (MQ below (gQi G q.1 q.2) args s 0 0 (gA G)) (F0 m 66 ls [])) : ∀ (n : Nat) (x3 : Int) (nx3 : nmI x3) (M : gM), f_X5_distance_L34 k66 z2 n x3 M = some q → ∀ (H : Heap) (locs : List Loc) (ls : Array Slot), gH G M H → va_S (gA G) s.heap H locs → gLv ls 4 [(0, .ref (gAd G 2 0)), (2, .int (iI z2)), (3, .int (iI x3))] → W p l e { frames := 3, cells := 0, slots := 0, locals := 69 } s m args below meth c H locs 0 0 (MQ below (gQi G q.1 q.2) args s 0 0 (gA G)) (F0 m 34 ls []) := by
  intro n
  induction n with
  | zero =>
    intro x3 nx3 M hf
    cases hf
  | succ n ih =>
    intro x3 nx3 M hf H locs ls hH hS hl
    rw [f_X5_distance_L34] at hf
    refine lv_iload_n X.1 X.2.1 dX5_distance_34 rfl (lv_at hl.1 2 rfl) ?_
    refine lv_iload_n X.1 X.2.1 dX5_distance_35 rfl (lv_at hl.1 1 rfl) ?_
    refine g_icmp_le X nx3 nz2 (tgt := 66) dX5_distance_36 (by decide) (fun hc36 => ?_) (fun hc36 => ?_)
    · replace hf := it_f hf hc36
      exact hk66 M hf _ _ _ hH hS (gLv_sub hl [0, 1] rfl)
    · replace hf := it_t hf hc36
      refine lv_aload_n X.1 X.2.1 dX5_distance_39 rfl (lv_at hl.1 0 rfl) ?_
      refine g_get X cX5 hH (r := 2) (i := 0) (by decide) rfl 3 (by decide) k_104 rfl (v := .ref (gAd G 22 0)) rfl dX5_distance_40 ?_
      refine lv_iload_n X.1 X.2.1 dX5_distance_43 rfl (lv_at hl.1 2 rfl) ?_
      refine gGoI (gRunSN X hH (As := [.ref (gAd G 22 0), .int (iI x3)]) (m_X11_at l G 22 0 14 (by decide) gArr_22 x3 nx3 M _ rfl) calX11_at k_590 k_381 ⟨by decide, by decide⟩ rfl hl rfl (Nat.le_of_ble_eq_true rfl) ⟨Nat.le_refl 0, Nat.le_refl 0⟩ dX5_distance_44) hS (fun H locs nr44 hH hS => ?_)
      refine lv_iconst X.1 X.2.1 dX5_distance_47 (v := iI (-1)) rfl ?_
      obtain ⟨k60, ek60, hf_⟩ := oj_e hf; clear hf; have hf := hf_; clear hf_
      have hk60 : ∀  (M_60 : gM), k60 M_60 = some q → ∀ (H : Heap) (locs : List Loc) (ls : Array Slot), gH G M_60 H → va_S (gA G) s.heap H locs → gLv ls 4 [(0, .ref (gAd G 2 0)), (2, .int (iI z2)), (3, .int (iI x3))] → W p l e { frames := 3, cells := 0, slots := 0, locals := 69 } s m args below meth c H locs 0 0 (MQ below (gQi G q.1 q.2) args s 0 0 (gA G)) (F0 m 60 ls []) := by
        intro  M_60 hf H locs ls hH hS hl
        subst ek60
        refine g_iinc X (a := x3) (lv' := [(3, .int (iI (wI (x3 + (-1))))), (0, .ref (gAd G 2 0)), (2, .int (iI z2))]) dX5_distance_60 hl (k := 2) rfl (by decide) rfl (fun ls hl => ?_)
        refine lv_goto (tgt := 34) X.1 X.2.1 dX5_distance_63 (by decide) ?_
        exact ih (wI (x3 + (-1))) (nmI_w _) M_60 hf _ _ _ hH hS (gLv_sub hl [1, 2, 0] rfl)
      clear ek60
      refine g_icmp_eq X nr44 (nmI_l (by decide)) (tgt := 60) dX5_distance_48 (by decide) (fun hc48 => ?_) (fun hc48 => ?_)
      · replace hf := it_t hf hc48
        exact hk60 M hf _ _ _ hH hS (gLv_sub hl [0, 1, 2] rfl)
      · replace hf := it_f hf hc48
        refine lv_aload_n X.1 X.2.1 dX5_distance_51 rfl (lv_at hl.1 0 rfl) ?_
        refine lv_aload_n X.1 X.2.1 dX5_distance_52 rfl (lv_at hl.1 0 rfl) ?_
        refine lv_iload_n X.1 X.2.1 dX5_distance_53 rfl (lv_at hl.1 2 rfl) ?_
        refine gGoR (gRunV X hH (As := [.int (iI x3)]) (m_X5_targetAt l G x3 nx3 M _ rfl) calX5_targetAt k_628 k_629 k_239 (by decide) cX5 rfl ⟨by decide, by decide⟩ rfl hl rfl (Nat.le_of_ble_eq_true rfl) ⟨Nat.le_refl 0, Nat.le_refl 0⟩ dX5_distance_54) hS (fun H locs hr54 hH hS => ?_)
        replace hr54 : (f_X5_targetAt x3 M) < 15 := hr54
        obtain ⟨r57, hq57, hf_⟩ := ob_e hf; clear hf; have hf := hf_; clear hf_
        refine gGoV (gRunV X hH (As := [.ref (gAd G 7 ((f_X5_targetAt x3 M)))]) (m_X5_spreadDistance l G ((f_X5_targetAt x3 M)) hr54 M _ hq57) calX5_spreadDistance k_909 k_1100 k_394 (by decide) cX5 rfl ⟨by decide, by decide⟩ rfl hl rfl (Nat.le_of_ble_eq_true rfl) ⟨Nat.le_refl 0, Nat.le_refl 0⟩ dX5_distance_57) hS (fun H locs hH hS => ?_)
        exact hk60 r57 hf _ _ _ hH hS (gLv_sub hl [0, 1, 2] rfl)
theorem m_X5_distance (l : Launch) (G : gG) (v1 : Int) (nv1 : nmI v1) (v2 : Int) (nv2 : nmI v2) (M : gM) (q : (Int × gM)) (hf : f_X5_distance v1 v2 M = some q) : gMet l yX5_distance cX5_distance 4 (some .int) 3 69 G M [.ref (gAd G 2 0), .int (iI v1), .int (iI v2)] (gQi G q.1 q.2) := by
  refine gOfW (by decide) (by show _ ≤ 4; exact Nat.le_of_ble_eq_true rfl) rfl ?_
  intro p e s m below meth c X hH ls hl
  replace hl : gLv ls 4 [(0, .ref (gAd G 2 0)), (1, .int (iI v1)), (2, .int (iI v2))] := hl
  have hS : va_S (gA G) s.heap s.heap [] := va_S.rf
  generalize hargs : ([.ref (gAd G 2 0), .int (iI v1), .int (iI v2)] : List Value).toArray = args at X ⊢
  clear hargs
  unfold f_X5_distance at hf
  refine lv_iconst X.1 X.2.1 dX5_distance_0 (v := iI 0) rfl ?_
  refine g_istore_n X (lv' := [(3, .int (iI 0)), (0, .ref (gAd G 2 0)), (1, .int (iI v1)), (2, .int (iI v2))]) dX5_distance_1 rfl hl (by decide) rfl (fun ls hl => ?_)
  refine w_X5_distance_L2 X _ v1 nv1 v2 nv2 q ?_ 64 0 (nmI_l (by decide)) M hf _ _ _ hH hS (gLv_sub hl [1, 2, 3, 0] rfl)
  · intro  M_2_32 hf H locs ls hH hS hl
    refine lv_iload_n X.1 X.2.1 dX5_distance_32 rfl (lv_at hl.1 1 rfl) ?_
    refine g_istore_n X (lv' := [(3, .int (iI v1)), (0, .ref (gAd G 2 0)), (1, .int (iI v1)), (2, .int (iI v2))]) dX5_distance_33 rfl hl (by decide) rfl (fun ls hl => ?_)
    refine w_X5_distance_L34 X _ v2 nv2 q ?_ 64 v1 nv1 M_2_32 hf _ _ _ hH hS (gLv_sub hl [1, 3, 0] rfl)
    · intro  M_34_66 hf H locs ls hH hS hl
      refine lv_aload_n X.1 X.2.1 dX5_distance_66 rfl (lv_at hl.1 0 rfl) ?_
      refine g_get X cX5 hH (r := 2) (i := 0) (by decide) rfl 3 (by decide) k_104 rfl (v := .ref (gAd G 22 0)) rfl dX5_distance_67 ?_
      refine lv_iload_n X.1 X.2.1 dX5_distance_70 rfl (lv_at hl.1 1 rfl) ?_
      refine gGoI (gRunSN X hH (As := [.ref (gAd G 22 0), .int (iI v2)]) (m_X11_at l G 22 0 14 (by decide) gArr_22 v2 nv2 M_34_66 _ rfl) calX11_at k_590 k_381 ⟨by decide, by decide⟩ rfl hl rfl (Nat.le_of_ble_eq_true rfl) ⟨Nat.le_refl 0, Nat.le_refl 0⟩ dX5_distance_71) hS (fun H locs nr71 hH hS => ?_)
      have hq := Option.some.inj hf; subst hq
      exact gRetI X hH hS (res := (f_X11_at 22 0 14 v2 M_34_66)) nr71 dX5_distance_74
theorem m_X11_isGoodAfter (l : Launch) (G : gG) (v1 : Int) (nv1 : nmI v1) (v2 : Int) (nv2 : nmI v2) (M : gM) (q : (Int × gM)) (hf : f_X11_isGoodAfter v1 v2 M = some q) : gMet l yX11_isGoodAfter cX11_isGoodAfter 3 (some .boolean) 6 138 G M [.ref (gAd G 0 0), .int (iI v1), .int (iI v2)] (gQz G q.1 q.2) := by
  refine gOfW (by decide) (by show _ ≤ 3; exact Nat.le_of_ble_eq_true rfl) rfl ?_
  intro p e s m below meth c X hH ls hl
  replace hl : gLv ls 3 [(0, .ref (gAd G 0 0)), (1, .int (iI v1)), (2, .int (iI v2))] := hl
  have hS : va_S (gA G) s.heap s.heap [] := va_S.rf
  generalize hargs : ([.ref (gAd G 0 0), .int (iI v1), .int (iI v2)] : List Value).toArray = args at X ⊢
  clear hargs
  unfold f_X11_isGoodAfter at hf
  refine lv_aload_n X.1 X.2.1 dX11_isGoodAfter_0 rfl (lv_at hl.1 0 rfl) ?_
  refine g_get X cX11 hH (r := 0) (i := 0) (by decide) rfl 4 (by decide) k_193 rfl (v := .ref (gAd G 5 0)) rfl dX11_isGoodAfter_1 ?_
  refine lv_iload_n X.1 X.2.1 dX11_isGoodAfter_4 rfl (lv_at hl.1 1 rfl) ?_
  obtain ⟨r5, hq5, hf_⟩ := ob_e hf; clear hf; have hf := hf_; clear hf_
  refine gGoI (gRunV X hH (As := [.int (iI v1)]) (m_X4_goodTargets l G v1 nv1 M _ hq5) calX4_goodTargets k_864 k_865 k_368 (by decide) cX4 rfl ⟨by decide, by decide⟩ rfl hl rfl (Nat.le_of_ble_eq_true rfl) ⟨Nat.le_refl 0, Nat.le_refl 0⟩ dX11_isGoodAfter_5) hS (fun H locs nr5 hH hS => ?_)
  refine lv_iload_n X.1 X.2.1 dX11_isGoodAfter_8 rfl (lv_at hl.1 2 rfl) ?_
  refine gGoI (gRunS X hH (As := [.int (iI r5.1), .int (iI v2)]) (m_X11_bitOf l G r5.1 nr5 v2 nv2 r5.2 _ rfl) calX11_bitOf k_695 k_351 ⟨by decide, by decide⟩ rfl hl rfl (Nat.le_of_ble_eq_true rfl) ⟨Nat.le_refl 0, Nat.le_refl 0⟩ dX11_isGoodAfter_9) hS (fun H locs nr9 hH hS => ?_)
  refine lv_iconst X.1 X.2.1 dX11_isGoodAfter_12 (v := iI 1) rfl ?_
  refine g_icmp_ne X nr9 (nmI_l (by decide)) (tgt := 20) dX11_isGoodAfter_13 (by decide) (fun hc13 => ?_) (fun hc13 => ?_)
  · replace hf := it_f hf hc13
    refine lv_iconst X.1 X.2.1 dX11_isGoodAfter_20 (v := iI 0) rfl ?_
    have hq := Option.some.inj hf; subst hq
    exact gRetZ X hH hS (res := 0) (by decide) dX11_isGoodAfter_21
  · replace hf := it_t hf hc13
    refine lv_iconst X.1 X.2.1 dX11_isGoodAfter_16 (v := iI 1) rfl ?_
    refine lv_goto (tgt := 21) X.1 X.2.1 dX11_isGoodAfter_17 (by decide) ?_
    have hq := Option.some.inj hf; subst hq
    exact gRetZ X hH hS (res := 1) (by decide) dX11_isGoodAfter_21
theorem m_X12_thrown (l : Launch) (G : gG)  (M : gM) (q : (Int)) (hf : f_X12_thrown M = q) : gMet l yX12_thrown cX12_thrown 1 (some .int) 0 0 G M [.ref (gAd G 29 0)] (gQi G q M) := by
  refine gOfW (by decide) (by show _ ≤ 1; exact Nat.le_of_ble_eq_true rfl) rfl ?_
  intro p e s m below meth c X hH ls hl
  replace hl : gLv ls 1 [(0, .ref (gAd G 29 0))] := hl
  have hS : va_S (gA G) s.heap s.heap [] := va_S.rf
  generalize hargs : ([.ref (gAd G 29 0)] : List Value).toArray = args at X ⊢
  clear hargs
  unfold f_X12_thrown at hf
  refine lv_aload_n X.1 X.2.1 dX12_thrown_0 rfl (lv_at hl.1 0 rfl) ?_
  have nd1 : nmI (M 29 0 0) := hH.1.1 _ _ _
  refine g_get X cX12 hH (r := 29) (i := 0) (by decide) rfl 0 (by decide) k_401 rfl (v := .int (iI (M 29 0 0))) rfl dX12_thrown_1 ?_
  subst hf
  exact gRetI X hH hS (res := M 29 0 0) nd1 dX12_thrown_4
theorem m_X12_in (l : Launch) (G : gG) (v0 : Int) (nv0 : nmI v0) (v1 : Int) (nv1 : nmI v1) (v2 : Int) (nv2 : nmI v2) (M : gM) (q : (Int)) (hf : f_X12_in v0 v1 v2 M = q) : gMet l yX12_in cX12_in 3 (some .boolean) 0 0 G M [.int (iI v0), .int (iI v1), .int (iI v2)] (gQz G q M) := by
  refine gOfW (by decide) (by show _ ≤ 3; exact Nat.le_of_ble_eq_true rfl) rfl ?_
  intro p e s m below meth c X hH ls hl
  replace hl : gLv ls 3 [(0, .int (iI v0)), (1, .int (iI v1)), (2, .int (iI v2))] := hl
  have hS : va_S (gA G) s.heap s.heap [] := va_S.rf
  generalize hargs : ([.int (iI v0), .int (iI v1), .int (iI v2)] : List Value).toArray = args at X ⊢
  clear hargs
  unfold f_X12_in at hf
  refine lv_iload_n X.1 X.2.1 dX12_in_0 rfl (lv_at hl.1 0 rfl) ?_
  refine lv_iload_n X.1 X.2.1 dX12_in_1 rfl (lv_at hl.1 1 rfl) ?_
  refine g_icmp_lt X nv0 nv1 (tgt := 14) dX12_in_2 (by decide) (fun hc2 => ?_) (fun hc2 => ?_)
  · replace hf := it_t hf hc2
    refine lv_iconst X.1 X.2.1 dX12_in_14 (v := iI 0) rfl ?_
    subst hf
    exact gRetZ X hH hS (res := 0) (by decide) dX12_in_15
  · replace hf := it_f hf hc2
    refine lv_iload_n X.1 X.2.1 dX12_in_5 rfl (lv_at hl.1 0 rfl) ?_
    refine lv_iload_n X.1 X.2.1 dX12_in_6 rfl (lv_at hl.1 2 rfl) ?_
    refine g_icmp_gt X nv0 nv2 (tgt := 14) dX12_in_7 (by decide) (fun hc7 => ?_) (fun hc7 => ?_)
    · replace hf := it_t hf hc7
      refine lv_iconst X.1 X.2.1 dX12_in_14 (v := iI 0) rfl ?_
      subst hf
      exact gRetZ X hH hS (res := 0) (by decide) dX12_in_15
    · replace hf := it_f hf hc7
      refine lv_iconst X.1 X.2.1 dX12_in_10 (v := iI 1) rfl ?_
      refine lv_goto (tgt := 15) X.1 X.2.1 dX12_in_11 (by decide) ?_
      subst hf
      exact gRetZ X hH hS (res := 1) (by decide) dX12_in_15
