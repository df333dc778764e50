theorem m_X12_count (l : Launch) (G : gG) (v1 : Int) (nv1 : nmI v1) (M : gM) (q : (Int × gM)) (hf : f_X12_count v1 M = some q) : gMet l yX12_count cX12_count 2 (some .int) 1 22 G M [.ref (gAd G 29 0), .int (iI v1)] (gQi G q.1 q.2) := by
  refine gOfW (by decide) (by show _ ≤ 2; exact Nat.le_of_ble_eq_true rfl) rfl ?_
  intro p e s m below meth c X hH ls hl
  replace hl : gLv ls 2 [(0, .ref (gAd G 29 0)), (1, .int (iI v1))] := hl
  have hS : va_S (gA G) s.heap s.heap [] := va_S.rf
  generalize hargs : ([.ref (gAd G 29 0), .int (iI v1)] : List Value).toArray = args at X ⊢
  clear hargs
  unfold f_X12_count at hf
  refine lv_aload_n X.1 X.2.1 dX12_count_0 rfl (lv_at hl.1 0 rfl) ?_
  refine lv_iload_n X.1 X.2.1 dX12_count_1 rfl (lv_at hl.1 1 rfl) ?_
  refine lv_iconst X.1 X.2.1 dX12_count_2 (v := iI 0) rfl ?_
  refine lv_iconst X.1 X.2.1 dX12_count_3 (v := iI 4) rfl ?_
  refine gGoZ (gRunS X hH (As := [.int (iI v1), .int (iI 0), .int (iI 4)]) (m_X12_in l G v1 nv1 0 (nmI_l (by decide)) 4 (nmI_l (by decide)) M _ rfl) calX12_in k_1389 k_1388 ⟨by decide, by decide⟩ rfl hl rfl (Nat.le_of_ble_eq_true rfl) ⟨Nat.le_of_ble_eq_true rfl, Nat.le_of_ble_eq_true rfl⟩ dX12_count_4) hS (fun H locs br4 hH hS => ?_)
  refine gGoZ (gRunV X hH (As := [.int (iI ((f_X12_in v1 0 4 M)))]) (m_X12_asked l G ((f_X12_in v1 0 4 M)) br4 M _ rfl) calX12_asked k_1393 k_30 k_1391 (by decide) cX12 rfl ⟨by decide, by decide⟩ rfl hl rfl (Nat.le_of_ble_eq_true rfl) ⟨Nat.le_of_ble_eq_true rfl, Nat.le_of_ble_eq_true rfl⟩ dX12_count_7) hS (fun H locs br7 hH hS => ?_)
  refine g_if_eq X (nmI_b br7) (tgt := 22) dX12_count_10 (by decide) (fun hc10 => ?_) (fun hc10 => ?_)
  · replace hf := it_t hf hc10
    refine lv_iconst X.1 X.2.1 dX12_count_22 (v := iI 0) rfl ?_
    have hq := Option.some.inj hf; subst hq
    exact gRetI X hH hS (res := 0) (nmI_l (by decide)) dX12_count_23
  · replace hf := it_f hf hc10
    refine lv_aload_n X.1 X.2.1 dX12_count_13 rfl (lv_at hl.1 0 rfl) ?_
    refine g_get X cX12 hH (r := 29) (i := 0) (by decide) rfl 47 (by decide) k_1257 rfl (v := .ref (gAd G 68 0)) rfl dX12_count_14 ?_
    refine lv_iload_n X.1 X.2.1 dX12_count_17 rfl (lv_at hl.1 1 rfl) ?_
    obtain ⟨hg, hf_⟩ := og_e hf; clear hf; have hf := hf_; clear hf_
    have nd18 : nmI (((f_X12_asked ((f_X12_in v1 0 4 M)) M).2) 68 0 v1.toNat) := hH.1.1 _ _ _
    refine g_iald X hH (r := 68) (i := 0) (by decide) rfl nv1 hg (v := ((f_X12_asked ((f_X12_in v1 0 4 M)) M).2) 68 0 v1.toNat) rfl dX12_count_18 ?_
    refine lv_goto (tgt := 23) X.1 X.2.1 dX12_count_19 (by decide) ?_
    have hq := Option.some.inj hf; subst hq
    exact gRetI X hH hS (res := ((f_X12_asked ((f_X12_in v1 0 4 M)) M).2) 68 0 v1.toNat) nd18 dX12_count_23
theorem m_X12_needed (l : Launch) (G : gG) (v1 : Int) (nv1 : nmI v1) (M : gM) (q : (Int × gM)) (hf : f_X12_needed v1 M = some q) : gMet l yX12_needed cX12_needed 2 (some .int) 2 48 G M [.ref (gAd G 29 0), .int (iI v1)] (gQi G q.1 q.2) := by
  refine gOfW (by decide) (by show _ ≤ 2; exact Nat.le_of_ble_eq_true rfl) rfl ?_
  intro p e s m below meth c X hH ls hl
  replace hl : gLv ls 2 [(0, .ref (gAd G 29 0)), (1, .int (iI v1))] := hl
  have hS : va_S (gA G) s.heap s.heap [] := va_S.rf
  generalize hargs : ([.ref (gAd G 29 0), .int (iI v1)] : List Value).toArray = args at X ⊢
  clear hargs
  unfold f_X12_needed at hf
  refine lv_aload_n X.1 X.2.1 dX12_needed_0 rfl (lv_at hl.1 0 rfl) ?_
  refine lv_aload_n X.1 X.2.1 dX12_needed_1 rfl (lv_at hl.1 0 rfl) ?_
  refine lv_iload_n X.1 X.2.1 dX12_needed_2 rfl (lv_at hl.1 1 rfl) ?_
  refine gGoZ (gRunV X hH (As := [.int (iI v1)]) (m_X12_isTarget l G v1 nv1 M _ rfl) calX12_isTarget k_1417 k_33 k_1415 (by decide) cX12 rfl ⟨by decide, by decide⟩ rfl hl rfl (Nat.le_of_ble_eq_true rfl) ⟨Nat.le_of_ble_eq_true rfl, Nat.le_of_ble_eq_true rfl⟩ dX12_needed_3) hS (fun H locs br3 hH hS => ?_)
  refine gGoZ (gRunV X hH (As := [.int (iI ((f_X12_isTarget v1 M)))]) (m_X12_asked l G ((f_X12_isTarget v1 M)) br3 M _ rfl) calX12_asked k_1393 k_30 k_1391 (by decide) cX12 rfl ⟨by decide, by decide⟩ rfl hl rfl (Nat.le_of_ble_eq_true rfl) ⟨Nat.le_of_ble_eq_true rfl, Nat.le_of_ble_eq_true rfl⟩ dX12_needed_6) hS (fun H locs br6 hH hS => ?_)
  refine g_if_eq X (nmI_b br6) (tgt := 22) dX12_needed_9 (by decide) (fun hc9 => ?_) (fun hc9 => ?_)
  · replace hf := it_t hf hc9
    refine lv_iconst X.1 X.2.1 dX12_needed_22 (v := iI 0) rfl ?_
    have hq := Option.some.inj hf; subst hq
    exact gRetI X hH hS (res := 0) (nmI_l (by decide)) dX12_needed_23
  · replace hf := it_f hf hc9
    refine lv_aload_n X.1 X.2.1 dX12_needed_12 rfl (lv_at hl.1 0 rfl) ?_
    refine lv_iconst X.1 X.2.1 dX12_needed_13 (v := iI 1) rfl ?_
    refine lv_iload_n X.1 X.2.1 dX12_needed_14 rfl (lv_at hl.1 1 rfl) ?_
    refine g_ishl X dX12_needed_15 ?_
    obtain ⟨r16, hq16, hf_⟩ := ob_e hf; clear hf; have hf := hf_; clear hf_
    refine gGoI (gRunV X hH (As := [.int (iI (gShl 1 v1))]) (m_X12_neededBy l G (gShl 1 v1) (nmI_shl _ _) ((f_X12_asked ((f_X12_isTarget v1 M)) M).2) _ hq16) calX12_neededBy k_1479 k_38 k_1477 (by decide) cX12 rfl ⟨by decide, by decide⟩ rfl hl rfl (Nat.le_of_ble_eq_true rfl) ⟨Nat.le_of_ble_eq_true rfl, Nat.le_of_ble_eq_true rfl⟩ dX12_needed_16) hS (fun H locs nr16 hH hS => ?_)
    refine lv_goto (tgt := 23) X.1 X.2.1 dX12_needed_19 (by decide) ?_
    have hq := Option.some.inj hf; subst hq
    exact gRetI X hH hS (res := r16) nr16 dX12_needed_23
theorem w_X12_needing_L91 {G : gG} {p : Program} {l : Launch} {e : Env} {s : State} {m : MethodId} {args : Array Value} {below : List Frame} {meth : Method} {c : Code} (X : gX G p s m args meth c RX12 cX12_needing 8 (some .int) (gWs yX12_needing cX12_needing 8 (some .int))) (k142 : Int → Option (Int × gM)) (z1 : Int) (nz1 : nmI z1) (z2 : Int) (nz2 : nmI z2) (z3 : Int) (nz3 : nmI z3) (z4 : Int) (nz4 : nmI z4) (z6 : Int) (nz6 : nmI z6) (M : gM) (q : (Int × gM)) (hk142 : ∀ (x5 : Int) (bx5 : x5 = 0 ∨ x5 = 1), k142 x5 = some q → ∀ (H : Heap) (locs : List Loc) (ls : Array Slot), gH G M H → va_S (gA G) s.heap H locs → gLv ls 8 [(0, .ref (gAd G 29 0)), (1, .int (iI z1)), (2, .int (iI z2)), (3, .int (iI z3)), (4, .int (iI z4)), (5, .int (iI x5)), (6, .int (iI z6))] → W p l e { frames := 3, cells := 0, slots := 0, locals := 64 } s m args below meth c H locs 0 0 (MQ below (gQi G q.1 q.2) args s 0 0 (gA G)) (F0 m 142 ls [])) : ∀ (n : Nat) (x5 : Int) (bx5 : x5 = 0 ∨ x5 = 1) (x7 : Int) (nx7 : nmI x7), f_X12_needing_L91 k142 z1 z2 z3 z4 z6 M n x5 x7 = some q → ∀ (H : Heap) (locs : List Loc) (ls : Array Slot), gH G M H → va_S (gA G) s.heap H locs → gLv ls 8 [(0, .ref (gAd G 29 0)), (1, .int (iI z1)), (2, .int (iI z2)), (3, .int (iI z3)), (4, .int (iI z4)), (5, .int (iI x5)), (6, .int (iI z6)), (7, .int (iI x7))] → W p l e { frames := 3, cells := 0, slots := 0, locals := 64 } s m args below meth c H locs 0 0 (MQ below (gQi G q.1 q.2) args s 0 0 (gA G)) (F0 m 91 ls []) := by
  intro n
  induction n with
  | zero =>
    intro x5 bx5 x7 nx7 hf
    cases hf
  | succ n ih =>
    intro x5 bx5 x7 nx7 hf H locs ls hH hS hl
    rw [f_X12_needing_L91] at hf
    refine lv_iload X.1 X.2.1 dX12_needing_91 (lv_at hl.1 7 rfl) ?_
    refine lv_aload_n X.1 X.2.1 dX12_needing_93 rfl (lv_at hl.1 0 rfl) ?_
    refine g_get X cX12 hH (r := 29) (i := 0) (by decide) rfl 14 (by decide) k_1224 rfl (v := .ref (gAd G 41 0)) rfl dX12_needing_94 ?_
    refine lv_iload X.1 X.2.1 dX12_needing_97 (lv_at hl.1 6 rfl) ?_
    obtain ⟨hg, hf_⟩ := og_e hf; clear hf; have hf := hf_; clear hf_
    have nd99 : nmI (M 41 0 z6.toNat) := hH.1.1 _ _ _
    refine g_iald X hH (r := 41) (i := 0) (by decide) rfl nz6 hg (v := M 41 0 z6.toNat) rfl dX12_needing_99 ?_
    refine g_icmp_ge X nx7 nd99 (tgt := 142) dX12_needing_100 (by decide) (fun hc100 => ?_) (fun hc100 => ?_)
    · replace hf := it_f hf hc100
      exact hk142 x5 bx5 hf _ _ _ hH hS (gLv_sub hl [0, 1, 2, 3, 4, 5, 6] rfl)
    · replace hf := it_t hf hc100
      refine lv_iload X.1 X.2.1 dX12_needing_103 (lv_at hl.1 4 rfl) ?_
      refine lv_iload X.1 X.2.1 dX12_needing_105 (lv_at hl.1 6 rfl) ?_
      refine g_ishr X dX12_needing_107 ?_
      refine lv_iconst X.1 X.2.1 dX12_needing_108 (v := iI 1) rfl ?_
      refine g_iand X dX12_needing_109 ?_
      refine lv_iconst X.1 X.2.1 dX12_needing_110 (v := iI 1) rfl ?_
      refine g_icmp_ne X (nmI_and _ _) (nmI_l (by decide)) (tgt := 142) dX12_needing_111 (by decide) (fun hc111 => ?_) (fun hc111 => ?_)
      · replace hf := it_f hf hc111
        exact hk142 x5 bx5 hf _ _ _ hH hS (gLv_sub hl [0, 1, 2, 3, 4, 5, 6] rfl)
      · replace hf := it_t hf hc111
        refine lv_iload X.1 X.2.1 dX12_needing_114 (lv_at hl.1 5 rfl) ?_
        refine lv_aload_n X.1 X.2.1 dX12_needing_116 rfl (lv_at hl.1 0 rfl) ?_
        refine lv_iload X.1 X.2.1 dX12_needing_117 (lv_at hl.1 6 rfl) ?_
        refine lv_iload X.1 X.2.1 dX12_needing_119 (lv_at hl.1 7 rfl) ?_
        obtain ⟨r121, hq121, hf_⟩ := ob_e hf; clear hf; have hf := hf_; clear hf_
        refine gGoI (gRunV X hH (As := [.int (iI z6), .int (iI x7)]) (m_X12_inputOf l G z6 nz6 x7 nx7 M _ hq121) calX12_inputOf k_1483 k_39 k_1481 (by decide) cX12 rfl ⟨by decide, by decide⟩ rfl hl rfl (Nat.le_of_ble_eq_true rfl) ⟨Nat.le_of_ble_eq_true rfl, Nat.le_of_ble_eq_true rfl⟩ dX12_needing_121) hS (fun H locs nr121 hH hS => ?_)
        refine lv_iload_n X.1 X.2.1 dX12_needing_124 rfl (lv_at hl.1 1 rfl) ?_
        obtain ⟨k133, ek133, hf_⟩ := oj_e hf; clear hf; have hf := hf_; clear hf_
        have hk133 : ∀ (xs1_133 : Int) (bxs1_133 : xs1_133 = 0 ∨ xs1_133 = 1), k133 xs1_133 = some q → ∀ (H : Heap) (locs : List Loc) (ls : Array Slot), gH G M H → va_S (gA G) s.heap H locs → gLv ls 8 [(0, .ref (gAd G 29 0)), (1, .int (iI z1)), (2, .int (iI z2)), (3, .int (iI z3)), (4, .int (iI z4)), (6, .int (iI z6)), (7, .int (iI x7))] → W p l e { frames := 3, cells := 0, slots := 0, locals := 64 } s m args below meth c H locs 0 0 (MQ below (gQi G q.1 q.2) args s 0 0 (gA G)) (F0 m 133 ls [.int (iI xs1_133), .int (iI x5)]) := by
          intro xs1_133 bxs1_133 hf H locs ls hH hS hl
          subst ek133
          refine g_ior X dX12_needing_133 ?_
          refine g_istore X (lv' := [(5, .int (iI (gOr x5 xs1_133))), (0, .ref (gAd G 29 0)), (1, .int (iI z1)), (2, .int (iI z2)), (3, .int (iI z3)), (4, .int (iI z4)), (6, .int (iI z6)), (7, .int (iI x7))]) dX12_needing_134 hl (by decide) rfl (fun ls hl => ?_)
          refine g_iinc X (a := x7) (lv' := [(7, .int (iI (wI (x7 + 1)))), (5, .int (iI (gOr x5 xs1_133))), (0, .ref (gAd G 29 0)), (1, .int (iI z1)), (2, .int (iI z2)), (3, .int (iI z3)), (4, .int (iI z4)), (6, .int (iI z6))]) dX12_needing_136 hl (k := 7) rfl (by decide) rfl (fun ls hl => ?_)
          refine lv_goto (tgt := 91) X.1 X.2.1 dX12_needing_139 (by decide) ?_
          exact ih (gOr x5 xs1_133) (b01_or bx5 bxs1_133) (wI (x7 + 1)) (nmI_w _) hf _ _ _ hH hS (gLv_sub hl [2, 3, 4, 5, 6, 1, 7, 0] rfl)
        clear ek133
        refine g_icmp_ne X nr121 nz1 (tgt := 132) dX12_needing_125 (by decide) (fun hc125 => ?_) (fun hc125 => ?_)
        · replace hf := it_f hf hc125
          refine lv_iconst X.1 X.2.1 dX12_needing_132 (v := iI 0) rfl ?_
          exact hk133 0 (by decide) hf _ _ _ hH hS (gLv_sub hl [0, 1, 2, 3, 4, 6, 7] rfl)
        · replace hf := it_t hf hc125
          refine lv_iconst X.1 X.2.1 dX12_needing_128 (v := iI 1) rfl ?_
          refine lv_goto (tgt := 133) X.1 X.2.1 dX12_needing_129 (by decide) ?_
          exact hk133 1 (by decide) hf _ _ _ hH hS (gLv_sub hl [0, 1, 2, 3, 4, 6, 7] rfl)
theorem w_X12_needing_L73 {G : gG} {p : Program} {l : Launch} {e : Env} {s : State} {m : MethodId} {args : Array Value} {below : List Frame} {meth : Method} {c : Code} (X : gX G p s m args meth c RX12 cX12_needing 8 (some .int) (gWs yX12_needing cX12_needing 8 (some .int))) (k148 : Int → Option (Int × gM)) (z1 : Int) (nz1 : nmI z1) (z2 : Int) (nz2 : nmI z2) (z3 : Int) (nz3 : nmI z3) (z4 : Int) (nz4 : nmI z4) (M : gM) (q : (Int × gM)) (hk148 : ∀ (x5 : Int) (bx5 : x5 = 0 ∨ x5 = 1), k148 x5 = some q → ∀ (H : Heap) (locs : List Loc) (ls : Array Slot), gH G M H → va_S (gA G) s.heap H locs → gLv ls 8 [(0, .ref (gAd G 29 0)), (1, .int (iI z1)), (2, .int (iI z2)), (3, .int (iI z3)), (5, .int (iI x5))] → W p l e { frames := 3, cells := 0, slots := 0, locals := 64 } s m args below meth c H locs 0 0 (MQ below (gQi G q.1 q.2) args s 0 0 (gA G)) (F0 m 148 ls [])) : ∀ (n : Nat) (x5 : Int) (bx5 : x5 = 0 ∨ x5 = 1) (x6 : Int) (nx6 : nmI x6), f_X12_needing_L73 k148 z1 z2 z3 z4 M n x5 x6 = some q → ∀ (H : Heap) (locs : List Loc) (ls : Array Slot), gH G M H → va_S (gA G) s.heap H locs → gLv ls 8 [(0, .ref (gAd G 29 0)), (1, .int (iI z1)), (2, .int (iI z2)), (3, .int (iI z3)), (4, .int (iI z4)), (5, .int (iI x5)), (6, .int (iI x6))] → W p l e { frames := 3, cells := 0, slots := 0, locals := 64 } s m args below meth c H locs 0 0 (MQ below (gQi G q.1 q.2) args s 0 0 (gA G)) (F0 m 73 ls []) := by
  intro n
  induction n with
  | zero =>
    intro x5 bx5 x6 nx6 hf
    cases hf
  | succ n ih =>
    intro x5 bx5 x6 nx6 hf H locs ls hH hS hl
    rw [f_X12_needing_L73] at hf
    refine lv_iload X.1 X.2.1 dX12_needing_73 (lv_at hl.1 6 rfl) ?_
    refine lv_aload_n X.1 X.2.1 dX12_needing_75 rfl (lv_at hl.1 0 rfl) ?_
    have nd76 : nmI (M 29 0 7) := hH.1.1 _ _ _
    refine g_get X cX12 hH (r := 29) (i := 0) (by decide) rfl 7 (by decide) k_1217 rfl (v := .int (iI (M 29 0 7))) rfl dX12_needing_76 ?_
    refine g_icmp_ge X nx6 nd76 (tgt := 148) dX12_needing_79 (by decide) (fun hc79 => ?_) (fun hc79 => ?_)
    · replace hf := it_f hf hc79
      exact hk148 x5 bx5 hf _ _ _ hH hS (gLv_sub hl [0, 1, 2, 3, 5] rfl)
    · replace hf := it_t hf hc79
      refine lv_iload_n X.1 X.2.1 dX12_needing_82 rfl (lv_at hl.1 1 rfl) ?_
      refine lv_bipush X.1 X.2.1 dX12_needing_83 (v := iI 16) (by decide) ?_
      refine g_icmp_ge X nz1 (nmI_l (by decide)) (tgt := 148) dX12_needing_85 (by decide) (fun hc85 => ?_) (fun hc85 => ?_)
      · replace hf := it_f hf hc85
        exact hk148 x5 bx5 hf _ _ _ hH hS (gLv_sub hl [0, 1, 2, 3, 5] rfl)
      · replace hf := it_t hf hc85
        refine lv_iconst X.1 X.2.1 dX12_needing_88 (v := iI 0) rfl ?_
        refine g_istore X (lv' := [(7, .int (iI 0)), (0, .ref (gAd G 29 0)), (1, .int (iI z1)), (2, .int (iI z2)), (3, .int (iI z3)), (4, .int (iI z4)), (5, .int (iI x5)), (6, .int (iI x6))]) dX12_needing_89 hl (by decide) rfl (fun ls hl => ?_)
        refine w_X12_needing_L91 X _ z1 nz1 z2 nz2 z3 nz3 z4 nz4 x6 nx6 M q ?_ 64 x5 bx5 0 (nmI_l (by decide)) hf _ _ _ hH hS (gLv_sub hl [1, 2, 3, 4, 5, 6, 7, 0] rfl)
        · intro y5_91_142 by5_91_142 hf H locs ls hH hS hl
          refine g_iinc X (a := x6) (lv' := [(6, .int (iI (wI (x6 + 1)))), (0, .ref (gAd G 29 0)), (1, .int (iI z1)), (2, .int (iI z2)), (3, .int (iI z3)), (4, .int (iI z4)), (5, .int (iI y5_91_142))]) dX12_needing_142 hl (k := 6) rfl (by decide) rfl (fun ls hl => ?_)
          refine lv_goto (tgt := 73) X.1 X.2.1 dX12_needing_145 (by decide) ?_
          exact ih y5_91_142 by5_91_142 (wI (x6 + 1)) (nmI_w _) hf _ _ _ hH hS (gLv_sub hl [1, 2, 3, 4, 5, 6, 0] rfl)
theorem w_X12_needing_L27 {G : gG} {p : Program} {l : Launch} {e : Env} {s : State} {m : MethodId} {args : Array Value} {below : List Frame} {meth : Method} {c : Code} (X : gX G p s m args meth c RX12 cX12_needing 8 (some .int) (gWs yX12_needing cX12_needing 8 (some .int))) (k169 : Int → Option (Int × gM)) (z1 : Int) (nz1 : nmI z1) (M : gM) (q : (Int × gM)) (hk169 : ∀ (x2 : Int) (nx2 : nmI x2), k169 x2 = some q → ∀ (H : Heap) (locs : List Loc) (ls : Array Slot), gH G M H → va_S (gA G) s.heap H locs → gLv ls 8 [(2, .int (iI x2))] → W p l e { frames := 3, cells := 0, slots := 0, locals := 64 } s m args below meth c H locs 0 0 (MQ below (gQi G q.1 q.2) args s 0 0 (gA G)) (F0 m 169 ls [])) : ∀ (n : Nat) (x2 : Int) (nx2 : nmI x2) (x3 : Int) (nx3 : nmI x3), f_X12_needing_L27 k169 z1 M n x2 x3 = some q → ∀ (H : Heap) (locs : List Loc) (ls : Array Slot), gH G M H → va_S (gA G) s.heap H locs → gLv ls 8 [(0, .ref (gAd G 29 0)), (1, .int (iI z1)), (2, .int (iI x2)), (3, .int (iI x3))] → W p l e { frames := 3, cells := 0, slots := 0, locals := 64 } s m args below meth c H locs 0 0 (MQ below (gQi G q.1 q.2) args s 0 0 (gA G)) (F0 m 27 ls []) := by
  intro n
  induction n with
  | zero =>
    intro x2 nx2 x3 nx3 hf
    cases hf
  | succ n ih =>
    intro x2 nx2 x3 nx3 hf H locs ls hH hS hl
    rw [f_X12_needing_L27] at hf
    refine lv_iload_n X.1 X.2.1 dX12_needing_27 rfl (lv_at hl.1 3 rfl) ?_
    refine lv_aload_n X.1 X.2.1 dX12_needing_28 rfl (lv_at hl.1 0 rfl) ?_
    have nd29 : nmI (M 29 0 7) := hH.1.1 _ _ _
    refine g_get X cX12 hH (r := 29) (i := 0) (by decide) rfl 7 (by decide) k_1217 rfl (v := .int (iI (M 29 0 7))) rfl dX12_needing_29 ?_
    refine g_icmp_ge X nx3 nd29 (tgt := 169) dX12_needing_32 (by decide) (fun hc32 => ?_) (fun hc32 => ?_)
    · replace hf := it_f hf hc32
      exact hk169 x2 nx2 hf _ _ _ hH hS (gLv_sub hl [2] rfl)
    · replace hf := it_t hf hc32
      refine lv_aload_n X.1 X.2.1 dX12_needing_35 rfl (lv_at hl.1 0 rfl) ?_
      refine lv_iconst X.1 X.2.1 dX12_needing_36 (v := iI 1) rfl ?_
      refine lv_iload_n X.1 X.2.1 dX12_needing_37 rfl (lv_at hl.1 3 rfl) ?_
      refine g_ishl X dX12_needing_38 ?_
      obtain ⟨r39, hq39, hf_⟩ := ob_e hf; clear hf; have hf := hf_; clear hf_
      refine gGoI (gRunV X hH (As := [.int (iI (gShl 1 x3))]) (m_X12_neededBy l G (gShl 1 x3) (nmI_shl _ _) M _ hq39) calX12_neededBy k_1479 k_38 k_1477 (by decide) cX12 rfl ⟨by decide, by decide⟩ rfl hl rfl (Nat.le_of_ble_eq_true rfl) ⟨Nat.le_of_ble_eq_true rfl, Nat.le_of_ble_eq_true rfl⟩ dX12_needing_39) hS (fun H locs nr39 hH hS => ?_)
      refine g_istore X (lv' := [(4, .int (iI r39)), (0, .ref (gAd G 29 0)), (1, .int (iI z1)), (2, .int (iI x2)), (3, .int (iI x3))]) dX12_needing_42 hl (by decide) rfl (fun ls hl => ?_)
      refine lv_iload_n X.1 X.2.1 dX12_needing_44 rfl (lv_at hl.1 2 rfl) ?_
      refine lv_bipush X.1 X.2.1 dX12_needing_45 (v := iI 16) (by decide) ?_
      obtain ⟨k68, ek68, hf_⟩ := oj_e hf; clear hf; have hf := hf_; clear hf_
      have hk68 : ∀ (xs0_68 : Int) (bxs0_68 : xs0_68 = 0 ∨ xs0_68 = 1), k68 xs0_68 = some q → ∀ (H : Heap) (locs : List Loc) (ls : Array Slot), gH G M H → va_S (gA G) s.heap H locs → gLv ls 8 [(0, .ref (gAd G 29 0)), (1, .int (iI z1)), (2, .int (iI x2)), (3, .int (iI x3)), (4, .int (iI r39))] → W p l e { frames := 3, cells := 0, slots := 0, locals := 64 } s m args below meth c H locs 0 0 (MQ below (gQi G q.1 q.2) args s 0 0 (gA G)) (F0 m 68 ls [.int (iI xs0_68)]) := by
        intro xs0_68 bxs0_68 hf H locs ls hH hS hl
        subst ek68
        refine g_istore X (lv' := [(5, .int (iI xs0_68)), (0, .ref (gAd G 29 0)), (1, .int (iI z1)), (2, .int (iI x2)), (3, .int (iI x3)), (4, .int (iI r39))]) dX12_needing_68 hl (by decide) rfl (fun ls hl => ?_)
        refine lv_iconst X.1 X.2.1 dX12_needing_70 (v := iI 0) rfl ?_
        refine g_istore X (lv' := [(6, .int (iI 0)), (5, .int (iI xs0_68)), (0, .ref (gAd G 29 0)), (1, .int (iI z1)), (2, .int (iI x2)), (3, .int (iI x3)), (4, .int (iI r39))]) dX12_needing_71 hl (by decide) rfl (fun ls hl => ?_)
        refine w_X12_needing_L73 X _ z1 nz1 x2 nx2 x3 nx3 r39 nr39 M q ?_ 64 xs0_68 bxs0_68 0 (nmI_l (by decide)) hf _ _ _ hH hS (gLv_sub hl [2, 3, 4, 5, 6, 1, 0] rfl)
        · intro y5_73_148 by5_73_148 hf H locs ls hH hS hl
          refine lv_iload_n X.1 X.2.1 dX12_needing_148 rfl (lv_at hl.1 2 rfl) ?_
          refine lv_iload X.1 X.2.1 dX12_needing_149 (lv_at hl.1 4 rfl) ?_
          obtain ⟨k161, ek161, hf_⟩ := oj_e hf; clear hf; have hf := hf_; clear hf_
          have hk161 : ∀ (xs1_161 : Int) (nxs1_161 : nmI xs1_161), k161 xs1_161 = some q → ∀ (H : Heap) (locs : List Loc) (ls : Array Slot), gH G M H → va_S (gA G) s.heap H locs → gLv ls 8 [(0, .ref (gAd G 29 0)), (1, .int (iI z1)), (3, .int (iI x3))] → W p l e { frames := 3, cells := 0, slots := 0, locals := 64 } s m args below meth c H locs 0 0 (MQ below (gQi G q.1 q.2) args s 0 0 (gA G)) (F0 m 161 ls [.int (iI xs1_161), .int (iI x2)]) := by
            intro xs1_161 nxs1_161 hf H locs ls hH hS hl
            subst ek161
            refine g_ior X dX12_needing_161 ?_
            refine g_istore_n X (lv' := [(2, .int (iI (gOr x2 xs1_161))), (0, .ref (gAd G 29 0)), (1, .int (iI z1)), (3, .int (iI x3))]) dX12_needing_162 rfl hl (by decide) rfl (fun ls hl => ?_)
            refine g_iinc X (a := x3) (lv' := [(3, .int (iI (wI (x3 + 1)))), (2, .int (iI (gOr x2 xs1_161))), (0, .ref (gAd G 29 0)), (1, .int (iI z1))]) dX12_needing_163 hl (k := 3) rfl (by decide) rfl (fun ls hl => ?_)
            refine lv_goto (tgt := 27) X.1 X.2.1 dX12_needing_166 (by decide) ?_
            exact ih (gOr x2 xs1_161) (nmI_or _ _) (wI (x3 + 1)) (nmI_w _) hf _ _ _ hH hS (gLv_sub hl [2, 3, 1, 0] rfl)
          clear ek161
          refine g_if_eq X (nmI_b by5_73_148) (tgt := 160) dX12_needing_151 (by decide) (fun hc151 => ?_) (fun hc151 => ?_)
          · replace hf := it_t hf hc151
            refine lv_iconst X.1 X.2.1 dX12_needing_160 (v := iI 0) rfl ?_
            exact hk161 0 (nmI_l (by decide)) hf _ _ _ hH hS (gLv_sub hl [0, 1, 3] rfl)
          · replace hf := it_f hf hc151
            refine lv_iconst X.1 X.2.1 dX12_needing_154 (v := iI 1) rfl ?_
            refine lv_iload_n X.1 X.2.1 dX12_needing_155 rfl (lv_at hl.1 3 rfl) ?_
            refine g_ishl X dX12_needing_156 ?_
            refine lv_goto (tgt := 161) X.1 X.2.1 dX12_needing_157 (by decide) ?_
            exact hk161 (gShl 1 x3) (nmI_shl _ _) hf _ _ _ hH hS (gLv_sub hl [0, 1, 3] rfl)
      clear ek68
      obtain ⟨k67, ek67, hf_⟩ := oj_e hf; clear hf; have hf := hf_; clear hf_
      have hk67 : k67 = some q → ∀ (H : Heap) (locs : List Loc) (ls : Array Slot), gH G M H → va_S (gA G) s.heap H locs → gLv ls 8 [(0, .ref (gAd G 29 0)), (1, .int (iI z1)), (2, .int (iI x2)), (3, .int (iI x3)), (4, .int (iI r39))] → W p l e { frames := 3, cells := 0, slots := 0, locals := 64 } s m args below meth c H locs 0 0 (MQ below (gQi G q.1 q.2) args s 0 0 (gA G)) (F0 m 67 ls []) := by
        intro  hf H locs ls hH hS hl
        subst ek67
        refine lv_iconst X.1 X.2.1 dX12_needing_67 (v := iI 0) rfl ?_
        exact hk68 0 (by decide) hf _ _ _ hH hS (gLv_sub hl [0, 1, 2, 3, 4] rfl)
      clear ek67
      refine g_icmp_lt X nz1 (nmI_l (by decide)) (tgt := 67) dX12_needing_47 (by decide) (fun hc47 => ?_) (fun hc47 => ?_)
      · replace hf := it_t hf hc47
        exact hk67  hf _ _ _ hH hS (gLv_sub hl [1, 2, 3, 4, 0] rfl)
      · replace hf := it_f hf hc47
        refine lv_iload X.1 X.2.1 dX12_needing_50 (lv_at hl.1 0 rfl) ?_
        refine lv_iload_n X.1 X.2.1 dX12_needing_52 rfl (lv_at hl.1 2 rfl) ?_
        refine lv_bipush X.1 X.2.1 dX12_needing_53 (v := iI 16) (by decide) ?_
        refine g_isub X dX12_needing_55 ?_
        refine g_ishr X dX12_needing_56 ?_
        refine lv_iconst X.1 X.2.1 dX12_needing_57 (v := iI 1) rfl ?_
        refine g_iand X dX12_needing_58 ?_
        refine lv_iconst X.1 X.2.1 dX12_needing_59 (v := iI 1) rfl ?_
        refine g_icmp_ne X (nmI_and _ _) (nmI_l (by decide)) (tgt := 67) dX12_needing_60 (by decide) (fun hc60 => ?_) (fun hc60 => ?_)
        · replace hf := it_f hf hc60
          exact hk67  hf _ _ _ hH hS (gLv_sub hl [1, 2, 3, 4, 0] rfl)
        · replace hf := it_t hf hc60
          refine lv_iconst X.1 X.2.1 dX12_needing_63 (v := iI 1) rfl ?_
          refine lv_goto (tgt := 68) X.1 X.2.1 dX12_needing_64 (by decide) ?_
          exact hk68 1 (by decide) hf _ _ _ hH hS (gLv_sub hl [1, 2, 3, 4, 0] rfl)
theorem m_X12_needing (l : Launch) (G : gG) (v1 : Int) (nv1 : nmI v1) (M : gM) (q : (Int × gM)) (hf : f_X12_needing v1 M = some q) : gMet l yX12_needing cX12_needing 8 (some .int) 3 64 G M [.ref (gAd G 29 0), .int (iI v1)] (gQi G q.1 q.2) := by
  refine gOfW (by decide) (by show _ ≤ 8; exact Nat.le_of_ble_eq_true rfl) rfl ?_
  intro p e s m below meth c X hH ls hl
  replace hl : gLv ls 8 [(0, .ref (gAd G 29 0)), (1, .int (iI v1))] := hl
  have hS : va_S (gA G) s.heap s.heap [] := va_S.rf
  generalize hargs : ([.ref (gAd G 29 0), .int (iI v1)] : List Value).toArray = args at X ⊢
  clear hargs
  unfold f_X12_needing at hf
  refine lv_aload_n X.1 X.2.1 dX12_needing_0 rfl (lv_at hl.1 0 rfl) ?_
  refine lv_iload_n X.1 X.2.1 dX12_needing_1 rfl (lv_at hl.1 1 rfl) ?_
  obtain ⟨k10, ek10, hf_⟩ := oj_e hf; clear hf; have hf := hf_; clear hf_
  have hk10 : ∀ (xs1_10 : Int) (bxs1_10 : xs1_10 = 0 ∨ xs1_10 = 1), k10 xs1_10 = some q → ∀ (H : Heap) (locs : List Loc) (ls : Array Slot), gH G M H → va_S (gA G) s.heap H locs → gLv ls 8 [(0, .ref (gAd G 29 0)), (1, .int (iI v1))] → W p l e { frames := 3, cells := 0, slots := 0, locals := 64 } s m args below meth c H locs 0 0 (MQ below (gQi G q.1 q.2) args s 0 0 (gA G)) (F0 m 10 ls [.int (iI xs1_10), .ref (gAd G 29 0)]) := by
    intro xs1_10 bxs1_10 hf H locs ls hH hS hl
    subst ek10
    refine lv_aload_n X.1 X.2.1 dX12_needing_10 rfl (lv_at hl.1 0 rfl) ?_
    refine lv_iload_n X.1 X.2.1 dX12_needing_11 rfl (lv_at hl.1 1 rfl) ?_
    refine gGoZ (gRunV X hH (As := [.int (iI v1)]) (m_X12_isInput l G v1 nv1 M _ rfl) calX12_isInput k_1413 k_32 k_1411 (by decide) cX12 rfl ⟨by decide, by decide⟩ rfl hl rfl (Nat.le_of_ble_eq_true rfl) ⟨Nat.le_of_ble_eq_true rfl, Nat.le_of_ble_eq_true rfl⟩ dX12_needing_12) hS (fun H locs br12 hH hS => ?_)
    refine gGoZ (gRunV X hH (As := [.int (iI xs1_10), .int (iI ((f_X12_isInput v1 M)))]) (m_X12_asked_ l G xs1_10 bxs1_10 ((f_X12_isInput v1 M)) br12 M _ rfl) calX12_asked_ k_1401 k_31 k_1399 (by decide) cX12 rfl ⟨by decide, by decide⟩ rfl hl rfl (Nat.le_of_ble_eq_true rfl) ⟨Nat.le_of_ble_eq_true rfl, Nat.le_of_ble_eq_true rfl⟩ dX12_needing_15) hS (fun H locs br15 hH hS => ?_)
    refine g_if_ne X (nmI_b br15) (tgt := 23) dX12_needing_18 (by decide) (fun hc18 => ?_) (fun hc18 => ?_)
    · replace hf := it_f hf hc18
      refine lv_iconst X.1 X.2.1 dX12_needing_23 (v := iI 0) rfl ?_
      refine g_istore_n X (lv' := [(2, .int (iI 0)), (0, .ref (gAd G 29 0)), (1, .int (iI v1))]) dX12_needing_24 rfl hl (by decide) rfl (fun ls hl => ?_)
      refine lv_iconst X.1 X.2.1 dX12_needing_25 (v := iI 0) rfl ?_
      refine g_istore_n X (lv' := [(3, .int (iI 0)), (2, .int (iI 0)), (0, .ref (gAd G 29 0)), (1, .int (iI v1))]) dX12_needing_26 rfl hl (by decide) rfl (fun ls hl => ?_)
      refine w_X12_needing_L27 X _ v1 nv1 ((f_X12_asked_ xs1_10 ((f_X12_isInput v1 M)) M).2) q ?_ 64 0 (nmI_l (by decide)) 0 (nmI_l (by decide)) hf _ _ _ hH hS (gLv_sub hl [2, 3, 1, 0] rfl)
      · intro y2_27_169 ny2_27_169 hf H locs ls hH hS hl
        refine lv_iload_n X.1 X.2.1 dX12_needing_169 rfl (lv_at hl.1 0 rfl) ?_
        have hq := Option.some.inj hf; subst hq
        exact gRetI X hH hS (res := y2_27_169) ny2_27_169 dX12_needing_170
    · replace hf := it_t hf hc18
      refine lv_iconst X.1 X.2.1 dX12_needing_21 (v := iI 0) rfl ?_
      have hq := Option.some.inj hf; subst hq
      exact gRetI X hH hS (res := 0) (nmI_l (by decide)) dX12_needing_22
  clear ek10
  refine g_if_lt X nv1 (tgt := 9) dX12_needing_2 (by decide) (fun hc2 => ?_) (fun hc2 => ?_)
  · replace hf := it_t hf hc2
    refine lv_iconst X.1 X.2.1 dX12_needing_9 (v := iI 0) rfl ?_
    exact hk10 0 (by decide) hf _ _ _ hH hS (gLv_sub hl [0, 1] rfl)
  · replace hf := it_f hf hc2
    refine lv_iconst X.1 X.2.1 dX12_needing_5 (v := iI 1) rfl ?_
    refine lv_goto (tgt := 10) X.1 X.2.1 dX12_needing_6 (by decide) ?_
    exact hk10 1 (by decide) hf _ _ _ hH hS (gLv_sub hl [0, 1] rfl)
theorem w_X12_steps_L76 {G : gG} {p : Program} {l : Launch} {e : Env} {s : State} {m : MethodId} {args : Array Value} {below : List Frame} {meth : Method} {c : Code} (X : gX G p s m args meth c RX12 cX12_steps 9 (some .int) (gWs yX12_steps cX12_steps 9 (some .int))) (k137 : Int → Option (Int × gM)) (z2 : Int) (nz2 : nmI z2) (z3 : Int) (nz3 : nmI z3) (z4 : Int) (nz4 : nmI z4) (z6 : Int) (nz6 : nmI z6) (M : gM) (q : (Int × gM)) (hk137 : ∀ (x5 : Int) (nx5 : nmI x5), k137 x5 = some q → ∀ (H : Heap) (locs : List Loc) (ls : Array Slot), gH G M H → va_S (gA G) s.heap H locs → gLv ls 9 [(0, .ref (gAd G 29 0)), (2, .int (iI z2)), (3, .int (iI z3)), (4, .int (iI z4)), (5, .int (iI x5)), (6, .int (iI z6))] → W p l e { frames := 2, cells := 0, slots := 0, locals := 43 } s m args below meth c H locs 0 0 (MQ below (gQi G q.1 q.2) args s 0 0 (gA G)) (F0 m 137 ls [])) : ∀ (n : Nat) (x5 : Int) (nx5 : nmI x5) (x7 : Int) (nx7 : nmI x7), f_X12_steps_L76 k137 z2 z3 z4 z6 M n x5 x7 = some q → ∀ (H : Heap) (locs : List Loc) (ls : Array Slot), gH G M H → va_S (gA G) s.heap H locs → gLv ls 9 [(0, .ref (gAd G 29 0)), (2, .int (iI z2)), (3, .int (iI z3)), (4, .int (iI z4)), (5, .int (iI x5)), (6, .int (iI z6)), (7, .int (iI x7))] → W p l e { frames := 2, cells := 0, slots := 0, locals := 43 } s m args below meth c H locs 0 0 (MQ below (gQi G q.1 q.2) args s 0 0 (gA G)) (F0 m 76 ls []) := by
  intro n
  induction n with
  | zero =>
    intro x5 nx5 x7 nx7 hf
    cases hf
  | succ n ih =>
    intro x5 nx5 x7 nx7 hf H locs ls hH hS hl
    rw [f_X12_steps_L76] at hf
    refine lv_iload X.1 X.2.1 dX12_steps_76 (lv_at hl.1 6 rfl) ?_
    refine lv_aload_n X.1 X.2.1 dX12_steps_78 rfl (lv_at hl.1 0 rfl) ?_
    refine g_get X cX12 hH (r := 29) (i := 0) (by decide) rfl 14 (by decide) k_1224 rfl (v := .ref (gAd G 41 0)) rfl dX12_steps_79 ?_
    refine lv_iload X.1 X.2.1 dX12_steps_82 (lv_at hl.1 5 rfl) ?_
    obtain ⟨hg, hf_⟩ := og_e hf; clear hf; have hf := hf_; clear hf_
    have nd84 : nmI (M 41 0 z6.toNat) := hH.1.1 _ _ _
    refine g_iald X hH (r := 41) (i := 0) (by decide) rfl nz6 hg (v := M 41 0 z6.toNat) rfl dX12_steps_84 ?_
    refine g_icmp_ge X nx7 nd84 (tgt := 137) dX12_steps_85 (by decide) (fun hc85 => ?_) (fun hc85 => ?_)
    · replace hf := it_f hf hc85
      exact hk137 x5 nx5 hf _ _ _ hH hS (gLv_sub hl [0, 1, 2, 3, 4, 5] rfl)
    · replace hf := it_t hf hc85
      refine lv_iload_n X.1 X.2.1 dX12_steps_88 rfl (lv_at hl.1 2 rfl) ?_
      refine lv_iload X.1 X.2.1 dX12_steps_89 (lv_at hl.1 5 rfl) ?_
      refine g_ishr X dX12_steps_91 ?_
      refine lv_iconst X.1 X.2.1 dX12_steps_92 (v := iI 1) rfl ?_
      refine g_iand X dX12_steps_93 ?_
      refine lv_iconst X.1 X.2.1 dX12_steps_94 (v := iI 1) rfl ?_
      refine g_icmp_ne X (nmI_and _ _) (nmI_l (by decide)) (tgt := 137) dX12_steps_95 (by decide) (fun hc95 => ?_) (fun hc95 => ?_)
      · replace hf := it_f hf hc95
        exact hk137 x5 nx5 hf _ _ _ hH hS (gLv_sub hl [0, 1, 2, 3, 4, 5] rfl)
      · replace hf := it_t hf hc95
        refine lv_aload_n X.1 X.2.1 dX12_steps_98 rfl (lv_at hl.1 0 rfl) ?_
        refine lv_iload X.1 X.2.1 dX12_steps_99 (lv_at hl.1 5 rfl) ?_
        refine lv_iload X.1 X.2.1 dX12_steps_101 (lv_at hl.1 6 rfl) ?_
        obtain ⟨r103, hq103, hf_⟩ := ob_e hf; clear hf; have hf := hf_; clear hf_
        refine gGoI (gRunV X hH (As := [.int (iI z6), .int (iI x7)]) (m_X12_inputOf l G z6 nz6 x7 nx7 M _ hq103) calX12_inputOf k_1483 k_39 k_1481 (by decide) cX12 rfl ⟨by decide, by decide⟩ rfl hl rfl (Nat.le_of_ble_eq_true rfl) ⟨Nat.le_of_ble_eq_true rfl, Nat.le_of_ble_eq_true rfl⟩ dX12_steps_103) hS (fun H locs nr103 hH hS => ?_)
        refine g_istore X (lv' := [(8, .int (iI r103)), (0, .ref (gAd G 29 0)), (2, .int (iI z2)), (3, .int (iI z3)), (4, .int (iI z4)), (5, .int (iI x5)), (6, .int (iI z6)), (7, .int (iI x7))]) dX12_steps_106 hl (by decide) rfl (fun ls hl => ?_)
        refine lv_iload X.1 X.2.1 dX12_steps_108 (lv_at hl.1 5 rfl) ?_
        refine lv_iload X.1 X.2.1 dX12_steps_110 (lv_at hl.1 0 rfl) ?_
        refine lv_bipush X.1 X.2.1 dX12_steps_112 (v := iI 16) (by decide) ?_
        obtain ⟨k128, ek128, hf_⟩ := oj_e hf; clear hf; have hf := hf_; clear hf_
        have hk128 : ∀ (xs1_128 : Int) (nxs1_128 : nmI xs1_128), k128 xs1_128 = some q → ∀ (H : Heap) (locs : List Loc) (ls : Array Slot), gH G M H → va_S (gA G) s.heap H locs → gLv ls 9 [(0, .ref (gAd G 29 0)), (2, .int (iI z2)), (3, .int (iI z3)), (4, .int (iI z4)), (6, .int (iI z6)), (7, .int (iI x7))] → W p l e { frames := 2, cells := 0, slots := 0, locals := 43 } s m args below meth c H locs 0 0 (MQ below (gQi G q.1 q.2) args s 0 0 (gA G)) (F0 m 128 ls [.int (iI xs1_128), .int (iI x5)]) := by
          intro xs1_128 nxs1_128 hf H locs ls hH hS hl
          subst ek128
          refine g_ior X dX12_steps_128 ?_
          refine g_istore X (lv' := [(5, .int (iI (gOr x5 xs1_128))), (0, .ref (gAd G 29 0)), (2, .int (iI z2)), (3, .int (iI z3)), (4, .int (iI z4)), (6, .int (iI z6)), (7, .int (iI x7))]) dX12_steps_129 hl (by decide) rfl (fun ls hl => ?_)
          refine g_iinc X (a := x7) (lv' := [(7, .int (iI (wI (x7 + 1)))), (5, .int (iI (gOr x5 xs1_128))), (0, .ref (gAd G 29 0)), (2, .int (iI z2)), (3, .int (iI z3)), (4, .int (iI z4)), (6, .int (iI z6))]) dX12_steps_131 hl (k := 6) rfl (by decide) rfl (fun ls hl => ?_)
          refine lv_goto (tgt := 76) X.1 X.2.1 dX12_steps_134 (by decide) ?_
          exact ih (gOr x5 xs1_128) (nmI_or _ _) (wI (x7 + 1)) (nmI_w _) hf _ _ _ hH hS (gLv_sub hl [2, 3, 4, 5, 1, 6, 0] rfl)
        clear ek128
        refine g_icmp_ge X nr103 (nmI_l (by decide)) (tgt := 121) dX12_steps_114 (by decide) (fun hc114 => ?_) (fun hc114 => ?_)
        · replace hf := it_f hf hc114
          refine lv_iconst X.1 X.2.1 dX12_steps_121 (v := iI 1) rfl ?_
          refine lv_iload X.1 X.2.1 dX12_steps_122 (lv_at hl.1 0 rfl) ?_
          refine lv_bipush X.1 X.2.1 dX12_steps_124 (v := iI 16) (by decide) ?_
          refine g_isub X dX12_steps_126 ?_
          refine g_ishl X dX12_steps_127 ?_
          exact hk128 (gShl 1 (wI (r103 - 16))) (nmI_shl _ _) hf _ _ _ hH hS (gLv_sub hl [1, 2, 3, 4, 6, 7] rfl)
        · replace hf := it_t hf hc114
          refine lv_iconst X.1 X.2.1 dX12_steps_117 (v := iI 0) rfl ?_
          refine lv_goto (tgt := 128) X.1 X.2.1 dX12_steps_118 (by decide) ?_
          exact hk128 0 (nmI_l (by decide)) hf _ _ _ hH hS (gLv_sub hl [1, 2, 3, 4, 6, 7] rfl)
theorem w_X12_steps_L64 {G : gG} {p : Program} {l : Launch} {e : Env} {s : State} {m : MethodId} {args : Array Value} {below : List Frame} {meth : Method} {c : Code} (X : gX G p s m args meth c RX12 cX12_steps 9 (some .int) (gWs yX12_steps cX12_steps 9 (some .int))) (k143 : Int → Option (Int × gM)) (z2 : Int) (nz2 : nmI z2) (z3 : Int) (nz3 : nmI z3) (z4 : Int) (nz4 : nmI z4) (M : gM) (q : (Int × gM)) (hk143 : ∀ (x5 : Int) (nx5 : nmI x5), k143 x5 = some q → ∀ (H : Heap) (locs : List Loc) (ls : Array Slot), gH G M H → va_S (gA G) s.heap H locs → gLv ls 9 [(0, .ref (gAd G 29 0)), (2, .int (iI z2)), (4, .int (iI z4)), (5, .int (iI x5))] → W p l e { frames := 2, cells := 0, slots := 0, locals := 43 } s m args below meth c H locs 0 0 (MQ below (gQi G q.1 q.2) args s 0 0 (gA G)) (F0 m 143 ls [])) : ∀ (n : Nat) (x5 : Int) (nx5 : nmI x5) (x6 : Int) (nx6 : nmI x6), f_X12_steps_L64 k143 z2 z3 z4 M n x5 x6 = some q → ∀ (H : Heap) (locs : List Loc) (ls : Array Slot), gH G M H → va_S (gA G) s.heap H locs → gLv ls 9 [(0, .ref (gAd G 29 0)), (2, .int (iI z2)), (3, .int (iI z3)), (4, .int (iI z4)), (5, .int (iI x5)), (6, .int (iI x6))] → W p l e { frames := 2, cells := 0, slots := 0, locals := 43 } s m args below meth c H locs 0 0 (MQ below (gQi G q.1 q.2) args s 0 0 (gA G)) (F0 m 64 ls []) := by
  intro n
  induction n with
  | zero =>
    intro x5 nx5 x6 nx6 hf
    cases hf
  | succ n ih =>
    intro x5 nx5 x6 nx6 hf H locs ls hH hS hl
    rw [f_X12_steps_L64] at hf
    refine lv_iload X.1 X.2.1 dX12_steps_64 (lv_at hl.1 5 rfl) ?_
    refine lv_aload_n X.1 X.2.1 dX12_steps_66 rfl (lv_at hl.1 0 rfl) ?_
    have nd67 : nmI (M 29 0 7) := hH.1.1 _ _ _
    refine g_get X cX12 hH (r := 29) (i := 0) (by decide) rfl 7 (by decide) k_1217 rfl (v := .int (iI (M 29 0 7))) rfl dX12_steps_67 ?_
    refine g_icmp_ge X nx6 nd67 (tgt := 143) dX12_steps_70 (by decide) (fun hc70 => ?_) (fun hc70 => ?_)
    · replace hf := it_f hf hc70
      exact hk143 x5 nx5 hf _ _ _ hH hS (gLv_sub hl [0, 1, 3, 4] rfl)
    · replace hf := it_t hf hc70
      refine lv_iconst X.1 X.2.1 dX12_steps_73 (v := iI 0) rfl ?_
      refine g_istore X (lv' := [(7, .int (iI 0)), (0, .ref (gAd G 29 0)), (2, .int (iI z2)), (3, .int (iI z3)), (4, .int (iI z4)), (5, .int (iI x5)), (6, .int (iI x6))]) dX12_steps_74 hl (by decide) rfl (fun ls hl => ?_)
      refine w_X12_steps_L76 X _ z2 nz2 z3 nz3 z4 nz4 x6 nx6 M q ?_ 64 x5 nx5 0 (nmI_l (by decide)) hf _ _ _ hH hS (gLv_sub hl [1, 2, 3, 4, 5, 6, 0] rfl)
      · intro y5_76_137 ny5_76_137 hf H locs ls hH hS hl
        refine g_iinc X (a := x6) (lv' := [(6, .int (iI (wI (x6 + 1)))), (0, .ref (gAd G 29 0)), (2, .int (iI z2)), (3, .int (iI z3)), (4, .int (iI z4)), (5, .int (iI y5_76_137))]) dX12_steps_137 hl (k := 5) rfl (by decide) rfl (fun ls hl => ?_)
        refine lv_goto (tgt := 64) X.1 X.2.1 dX12_steps_140 (by decide) ?_
        exact ih y5_76_137 ny5_76_137 (wI (x6 + 1)) (nmI_w _) hf _ _ _ hH hS (gLv_sub hl [1, 2, 3, 4, 5, 0] rfl)
theorem w_X12_steps_L37 {G : gG} {p : Program} {l : Launch} {e : Env} {s : State} {m : MethodId} {args : Array Value} {below : List Frame} {meth : Method} {c : Code} (X : gX G p s m args meth c RX12 cX12_steps 9 (some .int) (gWs yX12_steps cX12_steps 9 (some .int))) (k152 : Option (Int × gM)) (z2 : Int) (nz2 : nmI z2) (M : gM) (q : (Int × gM)) (hk152 : k152 = some q → ∀ (H : Heap) (locs : List Loc) (ls : Array Slot), gH G M H → va_S (gA G) s.heap H locs → gLv ls 9 [] → W p l e { frames := 2, cells := 0, slots := 0, locals := 43 } s m args below meth c H locs 0 0 (MQ below (gQi G q.1 q.2) args s 0 0 (gA G)) (F0 m 152 ls [])) : ∀ (n : Nat) (x3 : Int) (nx3 : nmI x3) (x4 : Int) (nx4 : nmI x4), f_X12_steps_L37 k152 z2 M n x3 x4 = some q → ∀ (H : Heap) (locs : List Loc) (ls : Array Slot), gH G M H → va_S (gA G) s.heap H locs → gLv ls 9 [(0, .ref (gAd G 29 0)), (2, .int (iI z2)), (3, .int (iI x3)), (4, .int (iI x4))] → W p l e { frames := 2, cells := 0, slots := 0, locals := 43 } s m args below meth c H locs 0 0 (MQ below (gQi G q.1 q.2) args s 0 0 (gA G)) (F0 m 37 ls []) := by
  intro n
  induction n with
  | zero =>
    intro x3 nx3 x4 nx4 hf
    cases hf
  | succ n ih =>
    intro x3 nx3 x4 nx4 hf H locs ls hH hS hl
    rw [f_X12_steps_L37] at hf
    refine lv_iload X.1 X.2.1 dX12_steps_37 (lv_at hl.1 3 rfl) ?_
    refine lv_aload_n X.1 X.2.1 dX12_steps_39 rfl (lv_at hl.1 0 rfl) ?_
    have nd40 : nmI (M 29 0 7) := hH.1.1 _ _ _
    refine g_get X cX12 hH (r := 29) (i := 0) (by decide) rfl 7 (by decide) k_1217 rfl (v := .int (iI (M 29 0 7))) rfl dX12_steps_40 ?_
    refine g_icmp_gt X nx4 nd40 (tgt := 152) dX12_steps_43 (by decide) (fun hc43 => ?_) (fun hc43 => ?_)
    · replace hf := it_t hf hc43
      exact hk152  hf _ _ _ hH hS (gLv_sub hl [] rfl)
    · replace hf := it_f hf hc43
      refine lv_iload_n X.1 X.2.1 dX12_steps_46 rfl (lv_at hl.1 2 rfl) ?_
      refine lv_iload_n X.1 X.2.1 dX12_steps_47 rfl (lv_at hl.1 1 rfl) ?_
      refine g_ishr X dX12_steps_48 ?_
      refine lv_iconst X.1 X.2.1 dX12_steps_49 (v := iI 1) rfl ?_
      refine g_iand X dX12_steps_50 ?_
      refine lv_iconst X.1 X.2.1 dX12_steps_51 (v := iI 1) rfl ?_
      refine g_icmp_ne X (nmI_and _ _) (nmI_l (by decide)) (tgt := 58) dX12_steps_52 (by decide) (fun hc52 => ?_) (fun hc52 => ?_)
      · replace hf := it_f hf hc52
        refine lv_iload_n X.1 X.2.1 dX12_steps_58 rfl (lv_at hl.1 2 rfl) ?_
        refine g_istore X (lv' := [(5, .int (iI x3)), (0, .ref (gAd G 29 0)), (2, .int (iI z2)), (3, .int (iI x3)), (4, .int (iI x4))]) dX12_steps_59 hl (by decide) rfl (fun ls hl => ?_)
        refine lv_iconst X.1 X.2.1 dX12_steps_61 (v := iI 0) rfl ?_
        refine g_istore X (lv' := [(6, .int (iI 0)), (5, .int (iI x3)), (0, .ref (gAd G 29 0)), (2, .int (iI z2)), (3, .int (iI x3)), (4, .int (iI x4))]) dX12_steps_62 hl (by decide) rfl (fun ls hl => ?_)
        refine w_X12_steps_L64 X _ z2 nz2 x3 nx3 x4 nx4 M q ?_ 64 x3 nx3 0 (nmI_l (by decide)) hf _ _ _ hH hS (gLv_sub hl [2, 3, 4, 5, 1, 0] rfl)
        · intro y5_64_143 ny5_64_143 hf H locs ls hH hS hl
          refine lv_iload X.1 X.2.1 dX12_steps_143 (lv_at hl.1 3 rfl) ?_
          refine g_istore_n X (lv' := [(3, .int (iI y5_64_143)), (0, .ref (gAd G 29 0)), (2, .int (iI z2)), (4, .int (iI x4)), (5, .int (iI y5_64_143))]) dX12_steps_145 rfl hl (by decide) rfl (fun ls hl => ?_)
          refine g_iinc X (a := x4) (lv' := [(4, .int (iI (wI (x4 + 1)))), (3, .int (iI y5_64_143)), (0, .ref (gAd G 29 0)), (2, .int (iI z2)), (5, .int (iI y5_64_143))]) dX12_steps_146 hl (k := 3) rfl (by decide) rfl (fun ls hl => ?_)
          refine lv_goto (tgt := 37) X.1 X.2.1 dX12_steps_149 (by decide) ?_
          exact ih y5_64_143 ny5_64_143 (wI (x4 + 1)) (nmI_w _) hf _ _ _ hH hS (gLv_sub hl [2, 3, 1, 0] rfl)
      · replace hf := it_t hf hc52
        refine lv_iload X.1 X.2.1 dX12_steps_55 (lv_at hl.1 3 rfl) ?_
        have hq := Option.some.inj hf; subst hq
        exact gRetI X hH hS (res := x4) nx4 dX12_steps_57
theorem m_X12_steps (l : Launch) (G : gG) (v1 : Int) (nv1 : nmI v1) (v2 : Int) (nv2 : nmI v2) (M : gM) (q : (Int × gM)) (hf : f_X12_steps v1 v2 M = some q) : gMet l yX12_steps cX12_steps 9 (some .int) 2 43 G M [.ref (gAd G 29 0), .int (iI v1), .int (iI v2)] (gQi G q.1 q.2) := by
  refine gOfW (by decide) (by show _ ≤ 9; exact Nat.le_of_ble_eq_true rfl) rfl ?_
  intro p e s m below meth c X hH ls hl
  replace hl : gLv ls 9 [(0, .ref (gAd G 29 0)), (1, .int (iI v1)), (2, .int (iI v2))] := hl
  have hS : va_S (gA G) s.heap s.heap [] := va_S.rf
  generalize hargs : ([.ref (gAd G 29 0), .int (iI v1), .int (iI v2)] : List Value).toArray = args at X ⊢
  clear hargs
  unfold f_X12_steps at hf
  refine lv_aload_n X.1 X.2.1 dX12_steps_0 rfl (lv_at hl.1 0 rfl) ?_
  refine lv_aload_n X.1 X.2.1 dX12_steps_1 rfl (lv_at hl.1 0 rfl) ?_
  refine lv_iload_n X.1 X.2.1 dX12_steps_2 rfl (lv_at hl.1 1 rfl) ?_
  refine gGoZ (gRunV X hH (As := [.int (iI v1)]) (m_X12_isTarget l G v1 nv1 M _ rfl) calX12_isTarget k_1417 k_33 k_1415 (by decide) cX12 rfl ⟨by decide, by decide⟩ rfl hl rfl (Nat.le_of_ble_eq_true rfl) ⟨Nat.le_of_ble_eq_true rfl, Nat.le_of_ble_eq_true rfl⟩ dX12_steps_3) hS (fun H locs br3 hH hS => ?_)
  obtain ⟨k22, ek22, hf_⟩ := oj_e hf; clear hf; have hf := hf_; clear hf_
  have hk22 : ∀ (xs1_22 : Int) (bxs1_22 : xs1_22 = 0 ∨ xs1_22 = 1), k22 xs1_22 = some q → ∀ (H : Heap) (locs : List Loc) (ls : Array Slot), gH G M H → va_S (gA G) s.heap H locs → gLv ls 9 [(0, .ref (gAd G 29 0)), (1, .int (iI v1)), (2, .int (iI v2))] → W p l e { frames := 2, cells := 0, slots := 0, locals := 43 } s m args below meth c H locs 0 0 (MQ below (gQi G q.1 q.2) args s 0 0 (gA G)) (F0 m 22 ls [.int (iI xs1_22), .ref (gAd G 29 0)]) := by
    intro xs1_22 bxs1_22 hf H locs ls hH hS hl
    subst ek22
    refine gGoZ (gRunV X hH (As := [.int (iI xs1_22)]) (m_X12_asked l G xs1_22 bxs1_22 M _ rfl) calX12_asked k_1393 k_30 k_1391 (by decide) cX12 rfl ⟨by decide, by decide⟩ rfl hl rfl (Nat.le_of_ble_eq_true rfl) ⟨Nat.le_of_ble_eq_true rfl, Nat.le_of_ble_eq_true rfl⟩ dX12_steps_22) hS (fun H locs br22 hH hS => ?_)
    refine g_if_ne X (nmI_b br22) (tgt := 30) dX12_steps_25 (by decide) (fun hc25 => ?_) (fun hc25 => ?_)
    · replace hf := it_f hf hc25
      refine lv_iconst X.1 X.2.1 dX12_steps_30 (v := iI 1) rfl ?_
      refine lv_iload_n X.1 X.2.1 dX12_steps_31 rfl (lv_at hl.1 1 rfl) ?_
      refine g_ishl X dX12_steps_32 ?_
      refine g_istore_n X (lv' := [(3, .int (iI (gShl 1 v1))), (0, .ref (gAd G 29 0)), (1, .int (iI v1)), (2, .int (iI v2))]) dX12_steps_33 rfl hl (by decide) rfl (fun ls hl => ?_)
      refine lv_iconst X.1 X.2.1 dX12_steps_34 (v := iI 0) rfl ?_
      refine g_istore X (lv' := [(4, .int (iI 0)), (3, .int (iI (gShl 1 v1))), (0, .ref (gAd G 29 0)), (1, .int (iI v1)), (2, .int (iI v2))]) dX12_steps_35 hl (by decide) rfl (fun ls hl => ?_)
      refine w_X12_steps_L37 X _ v2 nv2 ((f_X12_asked xs1_22 M).2) q ?_ 64 (gShl 1 v1) (nmI_shl _ _) 0 (nmI_l (by decide)) hf _ _ _ hH hS (gLv_sub hl [2, 4, 1, 0] rfl)
      · intro  hf H locs ls hH hS hl
        refine lv_iconst X.1 X.2.1 dX12_steps_152 (v := iI (-1)) rfl ?_
        have hq := Option.some.inj hf; subst hq
        exact gRetI X hH hS (res := (-1)) (nmI_l (by decide)) dX12_steps_153
    · replace hf := it_t hf hc25
      refine lv_iconst X.1 X.2.1 dX12_steps_28 (v := iI 0) rfl ?_
      have hq := Option.some.inj hf; subst hq
      exact gRetI X hH hS (res := 0) (nmI_l (by decide)) dX12_steps_29
  clear ek22
  obtain ⟨k21, ek21, hf_⟩ := oj_e hf; clear hf; have hf := hf_; clear hf_
  have hk21 : k21 = some q → ∀ (H : Heap) (locs : List Loc) (ls : Array Slot), gH G M H → va_S (gA G) s.heap H locs → gLv ls 9 [(0, .ref (gAd G 29 0)), (1, .int (iI v1)), (2, .int (iI v2))] → W p l e { frames := 2, cells := 0, slots := 0, locals := 43 } s m args below meth c H locs 0 0 (MQ below (gQi G q.1 q.2) args s 0 0 (gA G)) (F0 m 21 ls [.ref (gAd G 29 0)]) := by
    intro  hf H locs ls hH hS hl
    subst ek21
    refine lv_iconst X.1 X.2.1 dX12_steps_21 (v := iI 0) rfl ?_
    exact hk22 0 (by decide) hf _ _ _ hH hS (gLv_sub hl [0, 1, 2] rfl)
  clear ek21
  refine g_if_eq X (nmI_b br3) (tgt := 21) dX12_steps_6 (by decide) (fun hc6 => ?_) (fun hc6 => ?_)
  · replace hf := it_t hf hc6
    exact hk21  hf _ _ _ hH hS (gLv_sub hl [0, 1, 2] rfl)
  · replace hf := it_f hf hc6
    refine lv_aload_n X.1 X.2.1 dX12_steps_9 rfl (lv_at hl.1 0 rfl) ?_
    refine lv_iload_n X.1 X.2.1 dX12_steps_10 rfl (lv_at hl.1 2 rfl) ?_
    refine gGoZ (gRunV X hH (As := [.int (iI v2)]) (m_X12_isTarget l G v2 nv2 M _ rfl) calX12_isTarget k_1417 k_33 k_1415 (by decide) cX12 rfl ⟨by decide, by decide⟩ rfl hl rfl (Nat.le_of_ble_eq_true rfl) ⟨Nat.le_of_ble_eq_true rfl, Nat.le_of_ble_eq_true rfl⟩ dX12_steps_11) hS (fun H locs br11 hH hS => ?_)
    refine g_if_eq X (nmI_b br11) (tgt := 21) dX12_steps_14 (by decide) (fun hc14 => ?_) (fun hc14 => ?_)
    · replace hf := it_t hf hc14
      exact hk21  hf _ _ _ hH hS (gLv_sub hl [0, 1, 2] rfl)
    · replace hf := it_f hf hc14
      refine lv_iconst X.1 X.2.1 dX12_steps_17 (v := iI 1) rfl ?_
      refine lv_goto (tgt := 22) X.1 X.2.1 dX12_steps_18 (by decide) ?_
      exact hk22 1 (by decide) hf _ _ _ hH hS (gLv_sub hl [0, 1, 2] rfl)
theorem m_X12_changes (l : Launch) (G : gG)  (M : gM) (q : (Int × gM)) (hf : f_X12_changes M = q) : gMet l yX12_changes cX12_changes 1 (some .int) 0 0 G M [.ref (gAd G 29 0)] (gQi G q.1 q.2) := by
  refine gOfW (by decide) (by show _ ≤ 1; exact Nat.le_of_ble_eq_true rfl) rfl ?_
  intro p e s m below meth c X hH ls hl
  replace hl : gLv ls 1 [(0, .ref (gAd G 29 0))] := hl
  have hS : va_S (gA G) s.heap s.heap [] := va_S.rf
  generalize hargs : ([.ref (gAd G 29 0)] : List Value).toArray = args at X ⊢
  clear hargs
  unfold f_X12_changes at hf
  refine lv_aload_n X.1 X.2.1 dX12_changes_0 rfl (lv_at hl.1 0 rfl) ?_
  refine lv_iconst X.1 X.2.1 dX12_changes_1 (v := iI 0) rfl ?_
  refine g_putI X cX12 hH hS (r := 29) (i := 0) (by decide) rfl 0 (by decide) k_1210 rfl rfl rfl (Nat.le_of_ble_eq_true rfl) (x := 0) (nmI_l (by decide)) rfl rfl rfl dX12_changes_2 (fun H locs hH hS => ?_)
  refine lv_aload_n X.1 X.2.1 dX12_changes_5 rfl (lv_at hl.1 0 rfl) ?_
  have nd6 : nmI ((gU M 29 0 0 0) 29 0 4) := hH.1.1 _ _ _
  refine g_get X cX12 hH (r := 29) (i := 0) (by decide) rfl 4 (by decide) k_1214 rfl (v := .int (iI ((gU M 29 0 0 0) 29 0 4))) rfl dX12_changes_6 ?_
  subst hf
  exact gRetI X hH hS (res := (gU M 29 0 0 0) 29 0 4) nd6 dX12_changes_9
theorem w_X12_isGood_L2 {G : gG} {p : Program} {l : Launch} {e : Env} {s : State} {m : MethodId} {args : Array Value} {below : List Frame} {meth : Method} {c : Code} (X : gX G p s m args meth c RX12 cX12_isGood 4 (some .boolean) (gWs yX12_isGood cX12_isGood 4 (some .boolean))) (k26 : gM → Option (Int × gM)) (z1 : Int) (nz1 : nmI z1) (z2 : Int) (nz2 : nmI z2) (q : (Int × gM)) (hk26 : ∀  (M : gM), k26 M = some q → ∀ (H : Heap) (locs : List Loc) (ls : Array Slot), gH G M H → va_S (gA G) s.heap H locs → gLv ls 4 [(0, .ref (gAd G 29 0)), (1, .int (iI z1)), (2, .int (iI z2))] → W p l e { frames := 3, cells := 0, slots := 0, locals := 69 } s m args below meth c H locs 0 0 (MQ below (gQz G q.1 q.2) args s 0 0 (gA G)) (F0 m 26 ls [])) : ∀ (n : Nat) (x3 : Int) (nx3 : nmI x3) (M : gM), f_X12_isGood_L2 k26 z1 z2 n x3 M = some q → ∀ (H : Heap) (locs : List Loc) (ls : Array Slot), gH G M H → va_S (gA G) s.heap H locs → gLv ls 4 [(0, .ref (gAd G 29 0)), (1, .int (iI z1)), (2, .int (iI z2)), (3, .int (iI x3))] → W p l e { frames := 3, cells := 0, slots := 0, locals := 69 } s m args below meth c H locs 0 0 (MQ below (gQz G q.1 q.2) args s 0 0 (gA G)) (F0 m 2 ls []) := by
  intro n
  induction n with
  | zero =>
    intro x3 nx3 M hf
    cases hf
  | succ n ih =>
    intro x3 nx3 M hf H locs ls hH hS hl
    rw [f_X12_isGood_L2] at hf
    refine lv_iload_n X.1 X.2.1 dX12_isGood_2 rfl (lv_at hl.1 3 rfl) ?_
    refine lv_bipush X.1 X.2.1 dX12_isGood_3 (v := iI 16) (by decide) ?_
    refine g_icmp_ge X nx3 (nmI_l (by decide)) (tgt := 26) dX12_isGood_5 (by decide) (fun hc5 => ?_) (fun hc5 => ?_)
    · replace hf := it_f hf hc5
      exact hk26 M hf _ _ _ hH hS (gLv_sub hl [0, 1, 2] rfl)
    · replace hf := it_t hf hc5
      refine lv_aload_n X.1 X.2.1 dX12_isGood_8 rfl (lv_at hl.1 0 rfl) ?_
      refine g_get X cX12 hH (r := 29) (i := 0) (by decide) rfl 50 (by decide) k_1260 rfl (v := .ref (gAd G 69 0)) rfl dX12_isGood_9 ?_
      refine lv_iload_n X.1 X.2.1 dX12_isGood_12 rfl (lv_at hl.1 3 rfl) ?_
      refine lv_aload_n X.1 X.2.1 dX12_isGood_13 rfl (lv_at hl.1 0 rfl) ?_
      refine g_get X cX12 hH (r := 29) (i := 0) (by decide) rfl 1 (by decide) k_1211 rfl (v := .ref (gAd G 30 0)) rfl dX12_isGood_14 ?_
      refine lv_iload_n X.1 X.2.1 dX12_isGood_17 rfl (lv_at hl.1 3 rfl) ?_
      obtain ⟨hg, hf_⟩ := og_e hf; clear hf; have hf := hf_; clear hf_
      have nd18 : nmI (M 30 0 x3.toNat) := hH.1.1 _ _ _
      refine g_iald X hH (r := 30) (i := 0) (by decide) rfl nx3 hg (v := M 30 0 x3.toNat) rfl dX12_isGood_18 ?_
      obtain ⟨hg, hf_⟩ := og_e hf; clear hf; have hf := hf_; clear hf_
      refine g_iast X hH hS (r := 69) (i := 0) (by decide) (fun _ => rfl) nx3 hg nd18 rfl (by decide) dX12_isGood_19 (fun H locs hH hS => ?_)
      refine g_iinc X (a := x3) (lv' := [(3, .int (iI (wI (x3 + 1)))), (0, .ref (gAd G 29 0)), (1, .int (iI z1)), (2, .int (iI z2))]) dX12_isGood_20 hl (k := 3) rfl (by decide) rfl (fun ls hl => ?_)
      refine lv_goto (tgt := 2) X.1 X.2.1 dX12_isGood_23 (by decide) ?_
      exact ih (wI (x3 + 1)) (nmI_w _) (gU M 69 0 x3.toNat (M 30 0 x3.toNat)) hf _ _ _ hH hS (gLv_sub hl [1, 2, 3, 0] rfl)
theorem w_X12_isGood_L33 {G : gG} {p : Program} {l : Launch} {e : Env} {s : State} {m : MethodId} {args : Array Value} {below : List Frame} {meth : Method} {c : Code} (X : gX G p s m args meth c RX12 cX12_isGood 4 (some .boolean) (gWs yX12_isGood cX12_isGood 4 (some .boolean))) (k61 : gM → Option (Int × gM)) (z1 : Int) (nz1 : nmI z1) (z2 : Int) (nz2 : nmI z2) (q : (Int × gM)) (hk61 : ∀  (M : gM), k61 M = some q → ∀ (H : Heap) (locs : List Loc) (ls : Array Slot), gH G M H → va_S (gA G) s.heap H locs → gLv ls 4 [(0, .ref (gAd G 29 0)), (1, .int (iI z1))] → W p l e { frames := 3, cells := 0, slots := 0, locals := 69 } s m args below meth c H locs 0 0 (MQ below (gQz G q.1 q.2) args s 0 0 (gA G)) (F0 m 61 ls [])) : ∀ (n : Nat) (x3 : Int) (nx3 : nmI x3) (M : gM), f_X12_isGood_L33 k61 z1 z2 n x3 M = some q → ∀ (H : Heap) (locs : List Loc) (ls : Array Slot), gH G M H → va_S (gA G) s.heap H locs → gLv ls 4 [(0, .ref (gAd G 29 0)), (1, .int (iI z1)), (2, .int (iI z2)), (3, .int (iI x3))] → W p l e { frames := 3, cells := 0, slots := 0, locals := 69 } s m args below meth c H locs 0 0 (MQ below (gQz G q.1 q.2) args s 0 0 (gA G)) (F0 m 33 ls []) := by
  intro n
  induction n with
  | zero =>
    intro x3 nx3 M hf
    cases hf
  | succ n ih =>
    intro x3 nx3 M hf H locs ls hH hS hl
    rw [f_X12_isGood_L33] at hf
    refine lv_iload_n X.1 X.2.1 dX12_isGood_33 rfl (lv_at hl.1 3 rfl) ?_
    refine lv_iload_n X.1 X.2.1 dX12_isGood_34 rfl (lv_at hl.1 2 rfl) ?_
    refine g_icmp_lt X nx3 nz2 (tgt := 61) dX12_isGood_35 (by decide) (fun hc35 => ?_) (fun hc35 => ?_)
    · replace hf := it_t hf hc35
      exact hk61 M hf _ _ _ hH hS (gLv_sub hl [0, 1] rfl)
    · replace hf := it_f hf hc35
      refine lv_aload_n X.1 X.2.1 dX12_isGood_38 rfl (lv_at hl.1 0 rfl) ?_
      refine g_get X cX12 hH (r := 29) (i := 0) (by decide) rfl 50 (by decide) k_1260 rfl (v := .ref (gAd G 69 0)) rfl dX12_isGood_39 ?_
      refine lv_aload_n X.1 X.2.1 dX12_isGood_42 rfl (lv_at hl.1 0 rfl) ?_
      refine g_get X cX12 hH (r := 29) (i := 0) (by decide) rfl 5 (by decide) k_1215 rfl (v := .ref (gAd G 33 0)) rfl dX12_isGood_43 ?_
      refine lv_iload_n X.1 X.2.1 dX12_isGood_46 rfl (lv_at hl.1 3 rfl) ?_
      obtain ⟨hg, hf_⟩ := og_e hf; clear hf; have hf := hf_; clear hf_
      have nd47 : nmI (M 33 0 x3.toNat) := hH.1.1 _ _ _
      refine g_iald X hH (r := 33) (i := 0) (by decide) rfl nx3 hg (v := M 33 0 x3.toNat) rfl dX12_isGood_47 ?_
      refine lv_aload_n X.1 X.2.1 dX12_isGood_48 rfl (lv_at hl.1 0 rfl) ?_
      refine g_get X cX12 hH (r := 29) (i := 0) (by decide) rfl 6 (by decide) k_1216 rfl (v := .ref (gAd G 34 0)) rfl dX12_isGood_49 ?_
      refine lv_iload_n X.1 X.2.1 dX12_isGood_52 rfl (lv_at hl.1 3 rfl) ?_
      obtain ⟨hg, hf_⟩ := og_e hf; clear hf; have hf := hf_; clear hf_
      have nd53 : nmI (M 34 0 x3.toNat) := hH.1.1 _ _ _
      refine g_iald X hH (r := 34) (i := 0) (by decide) rfl nx3 hg (v := M 34 0 x3.toNat) rfl dX12_isGood_53 ?_
      obtain ⟨hg, hf_⟩ := og_e hf; clear hf; have hf := hf_; clear hf_
      refine g_iast X hH hS (r := 69) (i := 0) (by decide) (fun _ => rfl) nd47 hg nd53 rfl (by decide) dX12_isGood_54 (fun H locs hH hS => ?_)
      refine g_iinc X (a := x3) (lv' := [(3, .int (iI (wI (x3 + (-1))))), (0, .ref (gAd G 29 0)), (1, .int (iI z1)), (2, .int (iI z2))]) dX12_isGood_55 hl (k := 3) rfl (by decide) rfl (fun ls hl => ?_)
      refine lv_goto (tgt := 33) X.1 X.2.1 dX12_isGood_58 (by decide) ?_
      exact ih (wI (x3 + (-1))) (nmI_w _) (gU M 69 0 (M 33 0 x3.toNat).toNat (M 34 0 x3.toNat)) hf _ _ _ hH hS (gLv_sub hl [1, 2, 3, 0] rfl)
theorem m_X12_isGood (l : Launch) (G : gG) (v1 : Int) (nv1 : nmI v1) (v2 : Int) (nv2 : nmI v2) (M : gM) (q : (Int × gM)) (hf : f_X12_isGood v1 v2 M = some q) : gMet l yX12_isGood cX12_isGood 4 (some .boolean) 3 69 G M [.ref (gAd G 29 0), .int (iI v1), .int (iI v2)] (gQz G q.1 q.2) := by
  refine gOfW (by decide) (by show _ ≤ 4; exact Nat.le_of_ble_eq_true rfl) rfl ?_
  intro p e s m below meth c X hH ls hl
  replace hl : gLv ls 4 [(0, .ref (gAd G 29 0)), (1, .int (iI v1)), (2, .int (iI v2))] := hl
  have hS : va_S (gA G) s.heap s.heap [] := va_S.rf
  generalize hargs : ([.ref (gAd G 29 0), .int (iI v1), .int (iI v2)] : List Value).toArray = args at X ⊢
  clear hargs
  unfold f_X12_isGood at hf
  refine lv_iconst X.1 X.2.1 dX12_isGood_0 (v := iI 0) rfl ?_
  refine g_istore_n X (lv' := [(3, .int (iI 0)), (0, .ref (gAd G 29 0)), (1, .int (iI v1)), (2, .int (iI v2))]) dX12_isGood_1 rfl hl (by decide) rfl (fun ls hl => ?_)
  refine w_X12_isGood_L2 X _ v1 nv1 v2 nv2 q ?_ 64 0 (nmI_l (by decide)) M hf _ _ _ hH hS (gLv_sub hl [1, 2, 3, 0] rfl)
  · intro  M_2_26 hf H locs ls hH hS hl
    refine lv_aload_n X.1 X.2.1 dX12_isGood_26 rfl (lv_at hl.1 0 rfl) ?_
    have nd27 : nmI (M_2_26 29 0 4) := hH.1.1 _ _ _
    refine g_get X cX12 hH (r := 29) (i := 0) (by decide) rfl 4 (by decide) k_1214 rfl (v := .int (iI (M_2_26 29 0 4))) rfl dX12_isGood_27 ?_
    refine lv_iconst X.1 X.2.1 dX12_isGood_30 (v := iI 1) rfl ?_
    refine g_isub X dX12_isGood_31 ?_
    refine g_istore_n X (lv' := [(3, .int (iI (wI ((M_2_26 29 0 4) - 1)))), (0, .ref (gAd G 29 0)), (1, .int (iI v1)), (2, .int (iI v2))]) dX12_isGood_32 rfl hl (by decide) rfl (fun ls hl => ?_)
    refine w_X12_isGood_L33 X _ v1 nv1 v2 nv2 q ?_ 64 (wI ((M_2_26 29 0 4) - 1)) (nmI_w _) M_2_26 hf _ _ _ hH hS (gLv_sub hl [1, 2, 3, 0] rfl)
    · intro  M_33_61 hf H locs ls hH hS hl
      refine lv_aload_n X.1 X.2.1 dX12_isGood_61 rfl (lv_at hl.1 0 rfl) ?_
      obtain ⟨r62, hq62, hf_⟩ := ob_e hf; clear hf; have hf := hf_; clear hf_
      refine gGoV (gRunV X hH (As := []) (m_X12_freshen l G  M_33_61 _ hq62) calX12_freshen k_1583 k_59 k_1581 (by decide) cX12 rfl ⟨by decide, by decide⟩ rfl hl rfl (Nat.le_of_ble_eq_true rfl) ⟨Nat.le_of_ble_eq_true rfl, Nat.le_of_ble_eq_true rfl⟩ dX12_isGood_62) hS (fun H locs hH hS => ?_)
      refine lv_aload_n X.1 X.2.1 dX12_isGood_65 rfl (lv_at hl.1 0 rfl) ?_
      refine g_get X cX12 hH (r := 29) (i := 0) (by decide) rfl 53 (by decide) k_1263 rfl (v := .ref (gAd G 72 0)) rfl dX12_isGood_66 ?_
      refine lv_iload_n X.1 X.2.1 dX12_isGood_69 rfl (lv_at hl.1 1 rfl) ?_
      obtain ⟨hg, hf_⟩ := og_e hf; clear hf; have hf := hf_; clear hf_
      have nd70 : nmI (r62 72 0 v1.toNat) := hH.1.1 _ _ _
      have bd70 := hH.1.2.1 72 0 v1.toNat rfl
      refine g_zald X hH (r := 72) (i := 0) (by decide) rfl nv1 hg (v := r62 72 0 v1.toNat) rfl dX12_isGood_70 ?_
      have hq := Option.some.inj hf; subst hq
      exact gRetZ X hH hS (res := r62 72 0 v1.toNat) bd70 dX12_isGood_71
theorem w_X12_bisect_L49 {G : gG} {p : Program} {l : Launch} {e : Env} {s : State} {m : MethodId} {args : Array Value} {below : List Frame} {meth : Method} {c : Code} (X : gX G p s m args meth c RX12 cX12_bisect 5 (some .int) (gWs yX12_bisect cX12_bisect 5 (some .int))) (k95 : Int → gM → Option (Int × gM)) (z1 : Int) (nz1 : nmI z1) (q : (Int × gM)) (hk95 : ∀ (x3 : Int) (nx3 : nmI x3) (M : gM), k95 x3 M = some q → ∀ (H : Heap) (locs : List Loc) (ls : Array Slot), gH G M H → va_S (gA G) s.heap H locs → gLv ls 5 [(3, .int (iI x3))] → W p l e { frames := 4, cells := 0, slots := 0, locals := 92 } s m args below meth c H locs 0 0 (MQ below (gQi G q.1 q.2) args s 0 0 (gA G)) (F0 m 95 ls [])) : ∀ (n : Nat) (x2 : Int) (nx2 : nmI x2) (x3 : Int) (nx3 : nmI x3) (M : gM), f_X12_bisect_L49 k95 z1 n x2 x3 M = some q → ∀ (H : Heap) (locs : List Loc) (ls : Array Slot), gH G M H → va_S (gA G) s.heap H locs → gLv ls 5 [(0, .ref (gAd G 29 0)), (1, .int (iI z1)), (2, .int (iI x2)), (3, .int (iI x3))] → W p l e { frames := 4, cells := 0, slots := 0, locals := 92 } s m args below meth c H locs 0 0 (MQ below (gQi G q.1 q.2) args s 0 0 (gA G)) (F0 m 49 ls []) := by
  intro n
  induction n with
  | zero =>
    intro x2 nx2 x3 nx3 M hf
    cases hf
  | succ n ih =>
    intro x2 nx2 x3 nx3 M hf H locs ls hH hS hl
    rw [f_X12_bisect_L49] at hf
    refine lv_iload_n X.1 X.2.1 dX12_bisect_49 rfl (lv_at hl.1 3 rfl) ?_
    refine lv_iload_n X.1 X.2.1 dX12_bisect_50 rfl (lv_at hl.1 2 rfl) ?_
    refine g_isub X dX12_bisect_51 ?_
    refine lv_iconst X.1 X.2.1 dX12_bisect_52 (v := iI 1) rfl ?_
    refine g_icmp_le X (nmI_w _) (nmI_l (by decide)) (tgt := 95) dX12_bisect_53 (by decide) (fun hc53 => ?_) (fun hc53 => ?_)
    · replace hf := it_f hf hc53
      exact hk95 x3 nx3 M hf _ _ _ hH hS (gLv_sub hl [3] rfl)
    · replace hf := it_t hf hc53
      refine lv_iload_n X.1 X.2.1 dX12_bisect_56 rfl (lv_at hl.1 2 rfl) ?_
      refine lv_iload_n X.1 X.2.1 dX12_bisect_57 rfl (lv_at hl.1 3 rfl) ?_
      refine g_iadd X dX12_bisect_58 ?_
      refine lv_iconst X.1 X.2.1 dX12_bisect_59 (v := iI 2) rfl ?_
      refine g_idiv X (nmI_w _) (nmI_l (by decide)) (by decide) dX12_bisect_60 ?_
      refine g_istore X (lv' := [(4, .int (iI (wI ((wI (x2 + x3)).tdiv 2)))), (0, .ref (gAd G 29 0)), (1, .int (iI z1)), (2, .int (iI x2)), (3, .int (iI x3))]) dX12_bisect_61 hl (by decide) rfl (fun ls hl => ?_)
      refine lv_aload_n X.1 X.2.1 dX12_bisect_63 rfl (lv_at hl.1 1 rfl) ?_
      refine lv_dup X.1 X.2.1 dX12_bisect_64 rfl ?_
      have nd65 : nmI (M 29 0 49) := hH.1.1 _ _ _
      refine g_get X cX12 hH (r := 29) (i := 0) (by decide) rfl 49 (by decide) k_1259 rfl (v := .int (iI (M 29 0 49))) rfl dX12_bisect_65 ?_
      refine lv_iconst X.1 X.2.1 dX12_bisect_68 (v := iI 1) rfl ?_
      refine g_iadd X dX12_bisect_69 ?_
      refine g_putI X cX12 hH hS (r := 29) (i := 0) (by decide) rfl 49 (by decide) k_1259 rfl rfl rfl (Nat.le_of_ble_eq_true rfl) (x := wI ((M 29 0 49) + 1)) (nmI_w _) rfl rfl rfl dX12_bisect_70 (fun H locs hH hS => ?_)
      refine lv_aload_n X.1 X.2.1 dX12_bisect_73 rfl (lv_at hl.1 1 rfl) ?_
      refine lv_iload_n X.1 X.2.1 dX12_bisect_74 rfl (lv_at hl.1 2 rfl) ?_
      refine lv_iload X.1 X.2.1 dX12_bisect_75 (lv_at hl.1 0 rfl) ?_
      obtain ⟨r77, hq77, hf_⟩ := ob_e hf; clear hf; have hf := hf_; clear hf_
      refine gGoZ (gRunV X hH (As := [.int (iI z1), .int (iI (wI ((wI (x2 + x3)).tdiv 2)))]) (m_X12_isGood l G z1 nz1 (wI ((wI (x2 + x3)).tdiv 2)) (nmI_w _) (gU M 29 0 49 (wI ((M 29 0 49) + 1))) _ hq77) calX12_isGood k_1627 k_63 k_1625 (by decide) cX12 rfl ⟨by decide, by decide⟩ rfl hl rfl (Nat.le_of_ble_eq_true rfl) ⟨Nat.le_of_ble_eq_true rfl, Nat.le_of_ble_eq_true rfl⟩ dX12_bisect_77) hS (fun H locs br77 hH hS => ?_)
      obtain ⟨k92, ek92, hf_⟩ := oj_e hf; clear hf; have hf := hf_; clear hf_
      have hk92 : ∀ (x2_92 : Int) (nx2_92 : nmI x2_92) (x3_92 : Int) (nx3_92 : nmI x3_92), k92 x2_92 x3_92 = some q → ∀ (H : Heap) (locs : List Loc) (ls : Array Slot), gH G r77.2 H → va_S (gA G) s.heap H locs → gLv ls 5 [(0, .ref (gAd G 29 0)), (1, .int (iI z1)), (2, .int (iI x2_92)), (3, .int (iI x3_92))] → W p l e { frames := 4, cells := 0, slots := 0, locals := 92 } s m args below meth c H locs 0 0 (MQ below (gQi G q.1 q.2) args s 0 0 (gA G)) (F0 m 92 ls []) := by
        intro x2_92 nx2_92 x3_92 nx3_92 hf H locs ls hH hS hl
        subst ek92
        refine lv_goto (tgt := 49) X.1 X.2.1 dX12_bisect_92 (by decide) ?_
        exact ih x2_92 nx2_92 x3_92 nx3_92 r77.2 hf _ _ _ hH hS (gLv_sub hl [0, 1, 2, 3] rfl)
      clear ek92
      refine g_if_eq X (nmI_b br77) (tgt := 89) dX12_bisect_80 (by decide) (fun hc80 => ?_) (fun hc80 => ?_)
      · replace hf := it_t hf hc80
        refine lv_iload X.1 X.2.1 dX12_bisect_89 (lv_at hl.1 0 rfl) ?_
        refine g_istore_n X (lv' := [(3, .int (iI (wI ((wI (x2 + x3)).tdiv 2)))), (4, .int (iI (wI ((wI (x2 + x3)).tdiv 2)))), (0, .ref (gAd G 29 0)), (1, .int (iI z1)), (2, .int (iI x2))]) dX12_bisect_91 rfl hl (by decide) rfl (fun ls hl => ?_)
        exact hk92 x2 nx2 (wI ((wI (x2 + x3)).tdiv 2)) (nmI_w _) hf _ _ _ hH hS (gLv_sub hl [2, 3, 4, 0] rfl)
      · replace hf := it_f hf hc80
        refine lv_iload X.1 X.2.1 dX12_bisect_83 (lv_at hl.1 0 rfl) ?_
        refine g_istore_n X (lv' := [(2, .int (iI (wI ((wI (x2 + x3)).tdiv 2)))), (4, .int (iI (wI ((wI (x2 + x3)).tdiv 2)))), (0, .ref (gAd G 29 0)), (1, .int (iI z1)), (3, .int (iI x3))]) dX12_bisect_85 rfl hl (by decide) rfl (fun ls hl => ?_)
        refine lv_goto (tgt := 92) X.1 X.2.1 dX12_bisect_86 (by decide) ?_
        exact hk92 (wI ((wI (x2 + x3)).tdiv 2)) (nmI_w _) x3 nx3 hf _ _ _ hH hS (gLv_sub hl [2, 3, 0, 4] rfl)
theorem m_X12_bisect (l : Launch) (G : gG) (v1 : Int) (nv1 : nmI v1) (M : gM) (q : (Int × gM)) (hf : f_X12_bisect v1 M = some q) : gMet l yX12_bisect cX12_bisect 5 (some .int) 4 92 G M [.ref (gAd G 29 0), .int (iI v1)] (gQi G q.1 q.2) := by
  refine gOfW (by decide) (by show _ ≤ 5; exact Nat.le_of_ble_eq_true rfl) rfl ?_
  intro p e s m below meth c X hH ls hl
  replace hl : gLv ls 5 [(0, .ref (gAd G 29 0)), (1, .int (iI v1))] := hl
  have hS : va_S (gA G) s.heap s.heap [] := va_S.rf
  generalize hargs : ([.ref (gAd G 29 0), .int (iI v1)] : List Value).toArray = args at X ⊢
  clear hargs
  unfold f_X12_bisect at hf
  refine lv_aload_n X.1 X.2.1 dX12_bisect_0 rfl (lv_at hl.1 0 rfl) ?_
  refine lv_aload_n X.1 X.2.1 dX12_bisect_1 rfl (lv_at hl.1 0 rfl) ?_
  refine lv_iload_n X.1 X.2.1 dX12_bisect_2 rfl (lv_at hl.1 1 rfl) ?_
  refine gGoZ (gRunV X hH (As := [.int (iI v1)]) (m_X12_isTarget l G v1 nv1 M _ rfl) calX12_isTarget k_1417 k_33 k_1415 (by decide) cX12 rfl ⟨by decide, by decide⟩ rfl hl rfl (Nat.le_of_ble_eq_true rfl) ⟨Nat.le_of_ble_eq_true rfl, Nat.le_of_ble_eq_true rfl⟩ dX12_bisect_3) hS (fun H locs br3 hH hS => ?_)
  refine gGoZ (gRunV X hH (As := [.int (iI ((f_X12_isTarget v1 M)))]) (m_X12_asked l G ((f_X12_isTarget v1 M)) br3 M _ rfl) calX12_asked k_1393 k_30 k_1391 (by decide) cX12 rfl ⟨by decide, by decide⟩ rfl hl rfl (Nat.le_of_ble_eq_true rfl) ⟨Nat.le_of_ble_eq_true rfl, Nat.le_of_ble_eq_true rfl⟩ dX12_bisect_6) hS (fun H locs br6 hH hS => ?_)
  refine g_if_ne X (nmI_b br6) (tgt := 14) dX12_bisect_9 (by decide) (fun hc9 => ?_) (fun hc9 => ?_)
  · replace hf := it_f hf hc9
    refine lv_aload_n X.1 X.2.1 dX12_bisect_14 rfl (lv_at hl.1 0 rfl) ?_
    refine lv_iconst X.1 X.2.1 dX12_bisect_15 (v := iI 0) rfl ?_
    refine g_putI X cX12 hH hS (r := 29) (i := 0) (by decide) rfl 49 (by decide) k_1259 rfl rfl rfl (Nat.le_of_ble_eq_true rfl) (x := 0) (nmI_l (by decide)) rfl rfl rfl dX12_bisect_16 (fun H locs hH hS => ?_)
    refine lv_aload_n X.1 X.2.1 dX12_bisect_19 rfl (lv_at hl.1 0 rfl) ?_
    refine lv_iload_n X.1 X.2.1 dX12_bisect_20 rfl (lv_at hl.1 1 rfl) ?_
    refine lv_iconst X.1 X.2.1 dX12_bisect_21 (v := iI 0) rfl ?_
    obtain ⟨r22, hq22, hf_⟩ := ob_e hf; clear hf; have hf := hf_; clear hf_
    refine gGoZ (gRunV X hH (As := [.int (iI v1), .int (iI 0)]) (m_X12_isGood l G v1 nv1 0 (nmI_l (by decide)) (gU ((f_X12_asked ((f_X12_isTarget v1 M)) M).2) 29 0 49 0) _ hq22) calX12_isGood k_1627 k_63 k_1625 (by decide) cX12 rfl ⟨by decide, by decide⟩ rfl hl rfl (Nat.le_of_ble_eq_true rfl) ⟨Nat.le_of_ble_eq_true rfl, Nat.le_of_ble_eq_true rfl⟩ dX12_bisect_22) hS (fun H locs br22 hH hS => ?_)
    refine g_if_eq X (nmI_b br22) (tgt := 40) dX12_bisect_25 (by decide) (fun hc25 => ?_) (fun hc25 => ?_)
    · replace hf := it_t hf hc25
      refine lv_iconst X.1 X.2.1 dX12_bisect_40 (v := iI (-1)) rfl ?_
      have hq := Option.some.inj hf; subst hq
      exact gRetI X hH hS (res := (-1)) (nmI_l (by decide)) dX12_bisect_41
    · replace hf := it_f hf hc25
      refine lv_aload_n X.1 X.2.1 dX12_bisect_28 rfl (lv_at hl.1 0 rfl) ?_
      refine lv_iload_n X.1 X.2.1 dX12_bisect_29 rfl (lv_at hl.1 1 rfl) ?_
      refine lv_aload_n X.1 X.2.1 dX12_bisect_30 rfl (lv_at hl.1 0 rfl) ?_
      have nd31 : nmI (r22.2 29 0 4) := hH.1.1 _ _ _
      refine g_get X cX12 hH (r := 29) (i := 0) (by decide) rfl 4 (by decide) k_1214 rfl (v := .int (iI (r22.2 29 0 4))) rfl dX12_bisect_31 ?_
      obtain ⟨r34, hq34, hf_⟩ := ob_e hf; clear hf; have hf := hf_; clear hf_
      refine gGoZ (gRunV X hH (As := [.int (iI v1), .int (iI (r22.2 29 0 4))]) (m_X12_isGood l G v1 nv1 (r22.2 29 0 4) nd31 r22.2 _ hq34) calX12_isGood k_1627 k_63 k_1625 (by decide) cX12 rfl ⟨by decide, by decide⟩ rfl hl rfl (Nat.le_of_ble_eq_true rfl) ⟨Nat.le_of_ble_eq_true rfl, Nat.le_of_ble_eq_true rfl⟩ dX12_bisect_34) hS (fun H locs br34 hH hS => ?_)
      refine g_if_eq X (nmI_b br34) (tgt := 42) dX12_bisect_37 (by decide) (fun hc37 => ?_) (fun hc37 => ?_)
      · replace hf := it_t hf hc37
        refine lv_iconst X.1 X.2.1 dX12_bisect_42 (v := iI 0) rfl ?_
        refine g_istore_n X (lv' := [(2, .int (iI 0)), (0, .ref (gAd G 29 0)), (1, .int (iI v1))]) dX12_bisect_43 rfl hl (by decide) rfl (fun ls hl => ?_)
        refine lv_aload_n X.1 X.2.1 dX12_bisect_44 rfl (lv_at hl.1 1 rfl) ?_
        have nd45 : nmI (r34.2 29 0 4) := hH.1.1 _ _ _
        refine g_get X cX12 hH (r := 29) (i := 0) (by decide) rfl 4 (by decide) k_1214 rfl (v := .int (iI (r34.2 29 0 4))) rfl dX12_bisect_45 ?_
        refine g_istore_n X (lv' := [(3, .int (iI (r34.2 29 0 4))), (2, .int (iI 0)), (0, .ref (gAd G 29 0)), (1, .int (iI v1))]) dX12_bisect_48 rfl hl (by decide) rfl (fun ls hl => ?_)
        refine w_X12_bisect_L49 X _ v1 nv1 q ?_ 64 0 (nmI_l (by decide)) (r34.2 29 0 4) nd45 r34.2 hf _ _ _ hH hS (gLv_sub hl [2, 3, 1, 0] rfl)
        · intro y3_49_95 ny3_49_95 M_49_95 hf H locs ls hH hS hl
          refine lv_iload_n X.1 X.2.1 dX12_bisect_95 rfl (lv_at hl.1 0 rfl) ?_
          refine lv_iconst X.1 X.2.1 dX12_bisect_96 (v := iI 1) rfl ?_
          refine g_isub X dX12_bisect_97 ?_
          have hq := Option.some.inj hf; subst hq
          exact gRetI X hH hS (res := wI (y3_49_95 - 1)) (nmI_w _) dX12_bisect_98
      · replace hf := it_f hf hc37
        refine lv_iconst X.1 X.2.1 dX12_bisect_40 (v := iI (-1)) rfl ?_
        have hq := Option.some.inj hf; subst hq
        exact gRetI X hH hS (res := (-1)) (nmI_l (by decide)) dX12_bisect_41
  · replace hf := it_t hf hc9
    refine lv_iconst X.1 X.2.1 dX12_bisect_12 (v := iI 0) rfl ?_
    have hq := Option.some.inj hf; subst hq
    exact gRetI X hH hS (res := 0) (nmI_l (by decide)) dX12_bisect_13
theorem m_X12_looks (l : Launch) (G : gG)  (M : gM) (q : (Int × gM)) (hf : f_X12_looks M = q) : gMet l yX12_looks cX12_looks 1 (some .int) 0 0 G M [.ref (gAd G 29 0)] (gQi G q.1 q.2) := by
  refine gOfW (by decide) (by show _ ≤ 1; exact Nat.le_of_ble_eq_true rfl) rfl ?_
  intro p e s m below meth c X hH ls hl
  replace hl : gLv ls 1 [(0, .ref (gAd G 29 0))] := hl
  have hS : va_S (gA G) s.heap s.heap [] := va_S.rf
  generalize hargs : ([.ref (gAd G 29 0)] : List Value).toArray = args at X ⊢
  clear hargs
  unfold f_X12_looks at hf
  refine lv_aload_n X.1 X.2.1 dX12_looks_0 rfl (lv_at hl.1 0 rfl) ?_
  refine lv_iconst X.1 X.2.1 dX12_looks_1 (v := iI 0) rfl ?_
  refine g_putI X cX12 hH hS (r := 29) (i := 0) (by decide) rfl 0 (by decide) k_1210 rfl rfl rfl (Nat.le_of_ble_eq_true rfl) (x := 0) (nmI_l (by decide)) rfl rfl rfl dX12_looks_2 (fun H locs hH hS => ?_)
  refine lv_aload_n X.1 X.2.1 dX12_looks_5 rfl (lv_at hl.1 0 rfl) ?_
  have nd6 : nmI ((gU M 29 0 0 0) 29 0 49) := hH.1.1 _ _ _
  refine g_get X cX12 hH (r := 29) (i := 0) (by decide) rfl 49 (by decide) k_1259 rfl (v := .int (iI ((gU M 29 0 0 0) 29 0 49))) rfl dX12_looks_6 ?_
  subst hf
  exact gRetI X hH hS (res := (gU M 29 0 0 0) 29 0 49) nd6 dX12_looks_9
theorem m_X11_checkArgument (l : Launch) (hl0 : l.stackTraces = false) (G : gG) (v0 : Int) (bv0 : v0 = 0 ∨ v0 = 1) (M0 : gM) (q : (Nat ⊕ Unit)) (hf : f_X11_checkArgument v0 M0 = some q) : gXMet l yX11_checkArgument cX11_checkArgument 1 none 6 90 1 6 G M0 [.int (iI v0)] (gXv G (∃ z, q = Sum.inr z) M0) (fun e9 => q = Sum.inl e9) := by
  refine gOfX (by decide) (by show _ ≤ 1; exact Nat.le_of_ble_eq_true rfl) rfl ?_
  intro p e s m below meth c X Z hnt hH ls hl
  replace hl : gLv ls 1 [(0, .int (iI v0))] := hl
  have hS : va_S (gA G) s.heap s.heap [] := va_S.rf
  generalize hargs : ([.int (iI v0)] : List Value).toArray = args at X ⊢
  clear hargs
  unfold f_X11_checkArgument at hf
  refine lv_iload_n X.1 X.2.1 dX11_checkArgument_0 rfl (lv_at hl.1 0 rfl) ?_
  refine g_if_ne X (nmI_b bv0) (tgt := 15) dX11_checkArgument_1 (by decide) (fun hc1 => ?_) (fun hc1 => ?_)
  · replace hf := it_f hf hc1
    have hq := Option.some.inj hf; subst hq
    exact gRetXV X hH hS ⟨_, rfl⟩ ⟨Nat.le_of_ble_eq_true rfl, Nat.le_of_ble_eq_true rfl⟩ dX11_checkArgument_15
  · replace hf := it_t hf hc1
    have hq := Option.some.inj hf; subst hq
    exact gThrowW hl0 X Z hnt hH hS hl (e9 := 1) (by decide) k_534 k_81 (List.mem_of_getElem? (i := 0) rfl) gAt_180 dX11_checkArgument_4 dX11_checkArgument_7 dX11_checkArgument_8 dX11_checkArgument_11 dX11_checkArgument_14 (by decide) (by decide) ⟨by decide, by decide⟩ ⟨by decide, by decide⟩ rfl
theorem m_X11_write (l : Launch) (hl0 : l.stackTraces = false) (G : gG) (v1 : Int) (nv1 : nmI v1) (v2 : Int) (nv2 : nmI v2) (M0 : gM) (q : (Nat ⊕ (Int × gM))) (hf : f_X11_write v1 v2 M0 = some q) : gXMet l yX11_write cX11_write 3 (some .int) 7 110 1 6 G M0 [.ref (gAd G 0 0), .int (iI v1), .int (iI v2)] (gXi G (∃ z, q = Sum.inr z) (gvP q).1 (gvP q).2) (fun e9 => q = Sum.inl e9) := by
  refine gOfX (by decide) (by show _ ≤ 3; exact Nat.le_of_ble_eq_true rfl) rfl ?_
  intro p e s m below meth c X Z hnt hH ls hl
  replace hl : gLv ls 3 [(0, .ref (gAd G 0 0)), (1, .int (iI v1)), (2, .int (iI v2))] := hl
  have hS : va_S (gA G) s.heap s.heap [] := va_S.rf
  generalize hargs : ([.ref (gAd G 0 0), .int (iI v1), .int (iI v2)] : List Value).toArray = args at X ⊢
  clear hargs
  unfold f_X11_write at hf
  refine lv_iload_n X.1 X.2.1 dX11_write_0 rfl (lv_at hl.1 1 rfl) ?_
  refine lv_bipush X.1 X.2.1 dX11_write_1 (v := iI 16) (by decide) ?_
  refine gGoZ (gRunS X hH (As := [.int (iI v1), .int (iI 16)]) (m_X11_isBelow l G v1 nv1 16 (nmI_l (by decide)) M0 _ rfl) calX11_isBelow k_529 k_528 ⟨by decide, by decide⟩ rfl hl rfl (Nat.le_of_ble_eq_true rfl) ⟨Nat.le_of_ble_eq_true rfl, Nat.le_of_ble_eq_true rfl⟩ dX11_write_3) hS (fun H locs br3 hH hS => ?_)
  obtain ⟨k24, ek24, hf_⟩ := oj_e hf; clear hf; have hf := hf_; clear hf_
  have hk24 : ∀ (xs0_24 : Int) (bxs0_24 : xs0_24 = 0 ∨ xs0_24 = 1), k24 xs0_24 = some q → ∀ (H : Heap) (locs : List Loc) (ls : Array Slot), gH G M0 H → va_S (gA G) s.heap H locs → gLv ls 3 [(0, .ref (gAd G 0 0)), (1, .int (iI v1)), (2, .int (iI v2))] → W p l e { frames := 7, cells := 1, slots := 6, locals := 110 } s m args below meth c H locs 0 0 (vx_MQ below (gXi G (∃ z, q = Sum.inr z) (gvP q).1 (gvP q).2) (gXC G (fun e9 => q = Sum.inl e9) M0) args s 1 6 (gA G)) (F0 m 24 ls [.int (iI xs0_24)]) := by
    intro xs0_24 bxs0_24 hf H locs ls hH hS hl
    subst ek24
    obtain ⟨r24, hq24, hf_⟩ := ob_e hf; clear hf; have hf := hf_; clear hf_
    rcases r24 with e8 | v24_
    · have hq := Option.some.inj hf; subst hq
      refine gGoXV (gRunSX X Z hH hS (As := [.int (iI xs0_24)]) (m_X11_checkArgument l hl0 G xs0_24 bxs0_24 M0 _ hq24) calX11_checkArgument k_532 k_531 ⟨by decide, by decide⟩ rfl hl rfl (Nat.le_of_ble_eq_true rfl) ⟨Nat.le_of_ble_eq_true rfl, Nat.le_of_ble_eq_true rfl⟩ dX11_write_24) hS (fun E ce q9 H locs hE hH hS h1 h2 h3 => ?_) (fun H locs hok hH hS => ?_)
      · exact gOutX X hnt (by obtain ⟨e7, h7, h8⟩ := hE; exact ⟨e7, congrArg _ (Sum.inl.inj h7), h8⟩) hH hS h1 h2 h3 ⟨Nat.le_of_ble_eq_true rfl, Nat.le_of_ble_eq_true rfl⟩
      · obtain ⟨z, hz⟩ := hok; cases hz
    · replace hf := ox_i hf
      refine gGoXV (gRunSX X Z hH hS (As := [.int (iI xs0_24)]) (m_X11_checkArgument l hl0 G xs0_24 bxs0_24 M0 _ hq24) calX11_checkArgument k_532 k_531 ⟨by decide, by decide⟩ rfl hl rfl (Nat.le_of_ble_eq_true rfl) ⟨Nat.le_of_ble_eq_true rfl, Nat.le_of_ble_eq_true rfl⟩ dX11_write_24) hS (fun E ce q9 H locs hE hH hS h1 h2 h3 => ?_) (fun H locs _ hH hS => ?_)
      · obtain ⟨e7, h7, h8⟩ := hE; cases h7
      · refine lv_aload_n X.1 X.2.1 dX11_write_27 rfl (lv_at hl.1 0 rfl) ?_
        refine g_get X cX11 hH (r := 0) (i := 0) (by decide) rfl 0 (by decide) k_478 rfl (v := .ref (gAd G 1 0)) rfl dX11_write_28 ?_
        refine lv_iload_n X.1 X.2.1 dX11_write_31 rfl (lv_at hl.1 1 rfl) ?_
        refine lv_iload_n X.1 X.2.1 dX11_write_32 rfl (lv_at hl.1 2 rfl) ?_
        obtain ⟨r33, hq33, hf_⟩ := ob_e hf; clear hf; have hf := hf_; clear hf_
        refine gGoI (gRunV X hH (As := [.int (iI v1), .int (iI v2)]) (m_X7_rewrite l G v1 nv1 v2 nv2 M0 _ hq33) calX7_rewrite k_603 k_604 k_602 (by decide) cX7 rfl ⟨by decide, by decide⟩ rfl hl rfl (Nat.le_of_ble_eq_true rfl) ⟨Nat.le_of_ble_eq_true rfl, Nat.le_of_ble_eq_true rfl⟩ dX11_write_33) hS (fun H locs nr33 hH hS => ?_)
        have hq := Option.some.inj hf; subst hq
        exact gRetXI X hH hS ⟨_, rfl⟩ (res := r33.1) nr33 ⟨Nat.le_of_ble_eq_true rfl, Nat.le_of_ble_eq_true rfl⟩ dX11_write_36
  clear ek24
  obtain ⟨k23, ek23, hf_⟩ := oj_e hf; clear hf; have hf := hf_; clear hf_
  have hk23 : k23 = some q → ∀ (H : Heap) (locs : List Loc) (ls : Array Slot), gH G M0 H → va_S (gA G) s.heap H locs → gLv ls 3 [(0, .ref (gAd G 0 0)), (1, .int (iI v1)), (2, .int (iI v2))] → W p l e { frames := 7, cells := 1, slots := 6, locals := 110 } s m args below meth c H locs 0 0 (vx_MQ below (gXi G (∃ z, q = Sum.inr z) (gvP q).1 (gvP q).2) (gXC G (fun e9 => q = Sum.inl e9) M0) args s 1 6 (gA G)) (F0 m 23 ls []) := by
    intro  hf H locs ls hH hS hl
    subst ek23
    refine lv_iconst X.1 X.2.1 dX11_write_23 (v := iI 0) rfl ?_
    exact hk24 0 (by decide) hf _ _ _ hH hS (gLv_sub hl [0, 1, 2] rfl)
  clear ek23
  refine g_if_eq X (nmI_b br3) (tgt := 23) dX11_write_6 (by decide) (fun hc6 => ?_) (fun hc6 => ?_)
  · replace hf := it_t hf hc6
    exact hk23  hf _ _ _ hH hS (gLv_sub hl [0, 1, 2] rfl)
  · replace hf := it_f hf hc6
    refine lv_iload_n X.1 X.2.1 dX11_write_9 rfl (lv_at hl.1 2 rfl) ?_
    refine lv_sipush X.1 X.2.1 dX11_write_10 (v := iI 1000) (by decide) ?_
    refine gGoZ (gRunS X hH (As := [.int (iI v2), .int (iI 1000)]) (m_X11_isBelow l G v2 nv2 1000 (nmI_l (by decide)) M0 _ rfl) calX11_isBelow k_529 k_528 ⟨by decide, by decide⟩ rfl hl rfl (Nat.le_of_ble_eq_true rfl) ⟨Nat.le_of_ble_eq_true rfl, Nat.le_of_ble_eq_true rfl⟩ dX11_write_13) hS (fun H locs br13 hH hS => ?_)
    refine g_if_eq X (nmI_b br13) (tgt := 23) dX11_write_16 (by decide) (fun hc16 => ?_) (fun hc16 => ?_)
    · replace hf := it_t hf hc16
      exact hk23  hf _ _ _ hH hS (gLv_sub hl [0, 1, 2] rfl)
    · replace hf := it_f hf hc16
      refine lv_iconst X.1 X.2.1 dX11_write_19 (v := iI 1) rfl ?_
      refine lv_goto (tgt := 24) X.1 X.2.1 dX11_write_20 (by decide) ?_
      exact hk24 1 (by decide) hf _ _ _ hH hS (gLv_sub hl [0, 1, 2] rfl)
theorem m_X11_checkState (l : Launch) (hl0 : l.stackTraces = false) (G : gG) (v0 : Int) (bv0 : v0 = 0 ∨ v0 = 1) (M0 : gM) (q : (Nat ⊕ Unit)) (hf : f_X11_checkState v0 M0 = some q) : gXMet l yX11_checkState cX11_checkState 1 none 6 90 1 6 G M0 [.int (iI v0)] (gXv G (∃ z, q = Sum.inr z) M0) (fun e9 => q = Sum.inl e9) := by
  refine gOfX (by decide) (by show _ ≤ 1; exact Nat.le_of_ble_eq_true rfl) rfl ?_
  intro p e s m below meth c X Z hnt hH ls hl
  replace hl : gLv ls 1 [(0, .int (iI v0))] := hl
  have hS : va_S (gA G) s.heap s.heap [] := va_S.rf
  generalize hargs : ([.int (iI v0)] : List Value).toArray = args at X ⊢
  clear hargs
  unfold f_X11_checkState at hf
  refine lv_iload_n X.1 X.2.1 dX11_checkState_0 rfl (lv_at hl.1 0 rfl) ?_
  refine g_if_ne X (nmI_b bv0) (tgt := 15) dX11_checkState_1 (by decide) (fun hc1 => ?_) (fun hc1 => ?_)
  · replace hf := it_f hf hc1
    have hq := Option.some.inj hf; subst hq
    exact gRetXV X hH hS ⟨_, rfl⟩ ⟨Nat.le_of_ble_eq_true rfl, Nat.le_of_ble_eq_true rfl⟩ dX11_checkState_15
  · replace hf := it_t hf hc1
    have hq := Option.some.inj hf; subst hq
    exact gThrowW hl0 X Z hnt hH hS hl (e9 := 3) (by decide) k_636 k_82 (List.mem_of_getElem? (i := 1) rfl) gAt_282 dX11_checkState_4 dX11_checkState_7 dX11_checkState_8 dX11_checkState_11 dX11_checkState_14 (by decide) (by decide) ⟨by decide, by decide⟩ ⟨by decide, by decide⟩ rfl
theorem m_X11_set (l : Launch) (hl0 : l.stackTraces = false) (G : gG) (v1 : Int) (nv1 : nmI v1) (v2 : Int) (nv2 : nmI v2) (M0 : gM) (q : (Nat ⊕ (Int × gM))) (hf : f_X11_set v1 v2 M0 = some q) : gXMet l yX11_set cX11_set 3 (some .int) 7 110 2 12 G M0 [.ref (gAd G 0 0), .int (iI v1), .int (iI v2)] (gXi G (∃ z, q = Sum.inr z) (gvP q).1 (gvP q).2) (fun e9 => q = Sum.inl e9) := by
  refine gOfX (by decide) (by show _ ≤ 3; exact Nat.le_of_ble_eq_true rfl) rfl ?_
  intro p e s m below meth c X Z hnt hH ls hl
  replace hl : gLv ls 3 [(0, .ref (gAd G 0 0)), (1, .int (iI v1)), (2, .int (iI v2))] := hl
  have hS : va_S (gA G) s.heap s.heap [] := va_S.rf
  generalize hargs : ([.ref (gAd G 0 0), .int (iI v1), .int (iI v2)] : List Value).toArray = args at X ⊢
  clear hargs
  unfold f_X11_set at hf
  refine lv_iload_n X.1 X.2.1 dX11_set_0 rfl (lv_at hl.1 1 rfl) ?_
  refine lv_iconst X.1 X.2.1 dX11_set_1 (v := iI 4) rfl ?_
  refine gGoZ (gRunS X hH (As := [.int (iI v1), .int (iI 4)]) (m_X11_isBelow l G v1 nv1 4 (nmI_l (by decide)) M0 _ rfl) calX11_isBelow k_529 k_528 ⟨by decide, by decide⟩ rfl hl rfl (Nat.le_of_ble_eq_true rfl) ⟨Nat.le_of_ble_eq_true rfl, Nat.le_of_ble_eq_true rfl⟩ dX11_set_2) hS (fun H locs br2 hH hS => ?_)
  obtain ⟨k22, ek22, hf_⟩ := oj_e hf; clear hf; have hf := hf_; clear hf_
  have hk22 : ∀ (xs0_22 : Int) (bxs0_22 : xs0_22 = 0 ∨ xs0_22 = 1), k22 xs0_22 = some q → ∀ (H : Heap) (locs : List Loc) (ls : Array Slot), gH G M0 H → va_S (gA G) s.heap H locs → gLv ls 3 [(0, .ref (gAd G 0 0)), (1, .int (iI v1)), (2, .int (iI v2))] → W p l e { frames := 7, cells := 2, slots := 12, locals := 110 } s m args below meth c H locs 0 0 (vx_MQ below (gXi G (∃ z, q = Sum.inr z) (gvP q).1 (gvP q).2) (gXC G (fun e9 => q = Sum.inl e9) M0) args s 2 12 (gA G)) (F0 m 22 ls [.int (iI xs0_22)]) := by
    intro xs0_22 bxs0_22 hf H locs ls hH hS hl
    subst ek22
    obtain ⟨r22, hq22, hf_⟩ := ob_e hf; clear hf; have hf := hf_; clear hf_
    rcases r22 with e8 | v22_
    · have hq := Option.some.inj hf; subst hq
      refine gGoXV (gRunSX X Z hH hS (As := [.int (iI xs0_22)]) (m_X11_checkArgument l hl0 G xs0_22 bxs0_22 M0 _ hq22) calX11_checkArgument k_532 k_531 ⟨by decide, by decide⟩ rfl hl rfl (Nat.le_of_ble_eq_true rfl) ⟨Nat.le_of_ble_eq_true rfl, Nat.le_of_ble_eq_true rfl⟩ dX11_set_22) hS (fun E ce q9 H locs hE hH hS h1 h2 h3 => ?_) (fun H locs hok hH hS => ?_)
      · exact gOutX X hnt (by obtain ⟨e7, h7, h8⟩ := hE; exact ⟨e7, congrArg _ (Sum.inl.inj h7), h8⟩) hH hS h1 h2 h3 ⟨Nat.le_of_ble_eq_true rfl, Nat.le_of_ble_eq_true rfl⟩
      · obtain ⟨z, hz⟩ := hok; cases hz
    · replace hf := ox_i hf
      refine gGoXV (gRunSX X Z hH hS (As := [.int (iI xs0_22)]) (m_X11_checkArgument l hl0 G xs0_22 bxs0_22 M0 _ hq22) calX11_checkArgument k_532 k_531 ⟨by decide, by decide⟩ rfl hl rfl (Nat.le_of_ble_eq_true rfl) ⟨Nat.le_of_ble_eq_true rfl, Nat.le_of_ble_eq_true rfl⟩ dX11_set_22) hS (fun E ce q9 H locs hE hH hS h1 h2 h3 => ?_) (fun H locs _ hH hS => ?_)
      · obtain ⟨e7, h7, h8⟩ := hE; cases h7
      · refine lv_aload_n X.1 X.2.1 dX11_set_25 rfl (lv_at hl.1 0 rfl) ?_
        refine g_get X cX11 hH (r := 0) (i := 0) (by decide) rfl 3 (by decide) k_481 rfl (v := .ref (gAd G 4 0)) rfl dX11_set_26 ?_
        have nd29 : nmI (M0 4 0 8) := hH.1.1 _ _ _
        have bd29 := hH.1.2.1 4 0 8 rfl
        refine g_get X cX2 hH (r := 4) (i := 0) (by decide) rfl 8 (by decide) k_428 rfl (v := .int (iI (M0 4 0 8))) rfl dX11_set_29 ?_
        obtain ⟨k40, ek40, hf_⟩ := oj_e hf; clear hf; have hf := hf_; clear hf_
        have hk40 : ∀ (xs0_40 : Int) (bxs0_40 : xs0_40 = 0 ∨ xs0_40 = 1), k40 xs0_40 = some q → ∀ (H : Heap) (locs : List Loc) (ls : Array Slot), gH G M0 H → va_S (gA G) s.heap H locs → gLv ls 3 [(0, .ref (gAd G 0 0)), (1, .int (iI v1)), (2, .int (iI v2))] → W p l e { frames := 7, cells := 2, slots := 12, locals := 110 } s m args below meth c H locs 1 6 (vx_MQ below (gXi G (∃ z, q = Sum.inr z) (gvP q).1 (gvP q).2) (gXC G (fun e9 => q = Sum.inl e9) M0) args s 2 12 (gA G)) (F0 m 40 ls [.int (iI xs0_40)]) := by
          intro xs0_40 bxs0_40 hf H locs ls hH hS hl
          subst ek40
          obtain ⟨r40, hq40, hf_⟩ := ob_e hf; clear hf; have hf := hf_; clear hf_
          rcases r40 with e8 | v40_
          · have hq := Option.some.inj hf; subst hq
            refine gGoXV (gRunSX X Z hH hS (As := [.int (iI xs0_40)]) (m_X11_checkState l hl0 G xs0_40 bxs0_40 M0 _ hq40) calX11_checkState k_634 k_633 ⟨by decide, by decide⟩ rfl hl rfl (Nat.le_of_ble_eq_true rfl) ⟨Nat.le_of_ble_eq_true rfl, Nat.le_of_ble_eq_true rfl⟩ dX11_set_40) hS (fun E ce q9 H locs hE hH hS h1 h2 h3 => ?_) (fun H locs hok hH hS => ?_)
            · exact gOutX X hnt (by obtain ⟨e7, h7, h8⟩ := hE; exact ⟨e7, congrArg _ (Sum.inl.inj h7), h8⟩) hH hS h1 h2 h3 ⟨Nat.le_of_ble_eq_true rfl, Nat.le_of_ble_eq_true rfl⟩
            · obtain ⟨z, hz⟩ := hok; cases hz
          · replace hf := ox_i hf
            refine gGoXV (gRunSX X Z hH hS (As := [.int (iI xs0_40)]) (m_X11_checkState l hl0 G xs0_40 bxs0_40 M0 _ hq40) calX11_checkState k_634 k_633 ⟨by decide, by decide⟩ rfl hl rfl (Nat.le_of_ble_eq_true rfl) ⟨Nat.le_of_ble_eq_true rfl, Nat.le_of_ble_eq_true rfl⟩ dX11_set_40) hS (fun E ce q9 H locs hE hH hS h1 h2 h3 => ?_) (fun H locs _ hH hS => ?_)
            · obtain ⟨e7, h7, h8⟩ := hE; cases h7
            · refine lv_aload_n X.1 X.2.1 dX11_set_43 rfl (lv_at hl.1 0 rfl) ?_
              refine g_get X cX11 hH (r := 0) (i := 0) (by decide) rfl 0 (by decide) k_478 rfl (v := .ref (gAd G 1 0)) rfl dX11_set_44 ?_
              refine g_get X cX7 hH (r := 1) (i := 0) (by decide) rfl 1 (by decide) k_102 rfl (v := .ref (gAd G 13 0)) rfl dX11_set_47 ?_
              refine lv_iload_n X.1 X.2.1 dX11_set_50 rfl (lv_at hl.1 1 rfl) ?_
              refine lv_iload_n X.1 X.2.1 dX11_set_51 rfl (lv_at hl.1 2 rfl) ?_
              refine gGoI (gRunS X hH (As := [.ref (gAd G 13 0), .int (iI v1), .int (iI v2)]) (m_X11_exchange l G 13 0 4 (by decide) gArr_13 v1 nv1 v2 nv2 M0 _ rfl) calX11_exchange k_607 k_652 ⟨by decide, by decide⟩ rfl hl rfl (Nat.le_of_ble_eq_true rfl) ⟨Nat.le_of_ble_eq_true rfl, Nat.le_of_ble_eq_true rfl⟩ dX11_set_52) hS (fun H locs nr52 hH hS => ?_)
              have hq := Option.some.inj hf; subst hq
              exact gRetXI X hH hS ⟨_, rfl⟩ (res := (f_X11_exchange 13 0 4 v1 v2 M0).1) nr52 ⟨Nat.le_of_ble_eq_true rfl, Nat.le_of_ble_eq_true rfl⟩ dX11_set_55
        clear ek40
        refine g_if_ne X nd29 (tgt := 39) dX11_set_32 (by decide) (fun hc32 => ?_) (fun hc32 => ?_)
        · replace hf := it_f hf hc32
          refine lv_iconst X.1 X.2.1 dX11_set_39 (v := iI 0) rfl ?_
          exact hk40 0 (by decide) hf _ _ _ hH hS (gLv_sub hl [0, 1, 2] rfl)
        · replace hf := it_t hf hc32
          refine lv_iconst X.1 X.2.1 dX11_set_35 (v := iI 1) rfl ?_
          refine lv_goto (tgt := 40) X.1 X.2.1 dX11_set_36 (by decide) ?_
          exact hk40 1 (by decide) hf _ _ _ hH hS (gLv_sub hl [0, 1, 2] rfl)
  clear ek22
  obtain ⟨k21, ek21, hf_⟩ := oj_e hf; clear hf; have hf := hf_; clear hf_
  have hk21 : k21 = some q → ∀ (H : Heap) (locs : List Loc) (ls : Array Slot), gH G M0 H → va_S (gA G) s.heap H locs → gLv ls 3 [(0, .ref (gAd G 0 0)), (1, .int (iI v1)), (2, .int (iI v2))] → W p l e { frames := 7, cells := 2, slots := 12, locals := 110 } s m args below meth c H locs 0 0 (vx_MQ below (gXi G (∃ z, q = Sum.inr z) (gvP q).1 (gvP q).2) (gXC G (fun e9 => q = Sum.inl e9) M0) args s 2 12 (gA G)) (F0 m 21 ls []) := by
    intro  hf H locs ls hH hS hl
    subst ek21
    refine lv_iconst X.1 X.2.1 dX11_set_21 (v := iI 0) rfl ?_
    exact hk22 0 (by decide) hf _ _ _ hH hS (gLv_sub hl [0, 1, 2] rfl)
  clear ek21
  refine g_if_eq X (nmI_b br2) (tgt := 21) dX11_set_5 (by decide) (fun hc5 => ?_) (fun hc5 => ?_)
  · replace hf := it_t hf hc5
    exact hk21  hf _ _ _ hH hS (gLv_sub hl [0, 1, 2] rfl)
  · replace hf := it_f hf hc5
    refine lv_iload_n X.1 X.2.1 dX11_set_8 rfl (lv_at hl.1 2 rfl) ?_
    refine lv_bipush X.1 X.2.1 dX11_set_9 (v := iI 10) (by decide) ?_
    refine gGoZ (gRunS X hH (As := [.int (iI v2), .int (iI 10)]) (m_X11_isBelow l G v2 nv2 10 (nmI_l (by decide)) M0 _ rfl) calX11_isBelow k_529 k_528 ⟨by decide, by decide⟩ rfl hl rfl (Nat.le_of_ble_eq_true rfl) ⟨Nat.le_of_ble_eq_true rfl, Nat.le_of_ble_eq_true rfl⟩ dX11_set_11) hS (fun H locs br11 hH hS => ?_)
    refine g_if_eq X (nmI_b br11) (tgt := 21) dX11_set_14 (by decide) (fun hc14 => ?_) (fun hc14 => ?_)
    · replace hf := it_t hf hc14
      exact hk21  hf _ _ _ hH hS (gLv_sub hl [0, 1, 2] rfl)
    · replace hf := it_f hf hc14
      refine lv_iconst X.1 X.2.1 dX11_set_17 (v := iI 1) rfl ?_
      refine lv_goto (tgt := 22) X.1 X.2.1 dX11_set_18 (by decide) ?_
      exact hk22 1 (by decide) hf _ _ _ hH hS (gLv_sub hl [0, 1, 2] rfl)
theorem m_X11_setTool (l : Launch) (hl0 : l.stackTraces = false) (G : gG) (v1 : Int) (nv1 : nmI v1) (v2 : Int) (nv2 : nmI v2) (M0 : gM) (q : (Nat ⊕ (Int × gM))) (hf : f_X11_setTool v1 v2 M0 = some q) : gXMet l yX11_setTool cX11_setTool 3 (some .int) 7 110 2 12 G M0 [.ref (gAd G 0 0), .int (iI v1), .int (iI v2)] (gXi G (∃ z, q = Sum.inr z) (gvP q).1 (gvP q).2) (fun e9 => q = Sum.inl e9) := by
  refine gOfX (by decide) (by show _ ≤ 3; exact Nat.le_of_ble_eq_true rfl) rfl ?_
  intro p e s m below meth c X Z hnt hH ls hl
  replace hl : gLv ls 3 [(0, .ref (gAd G 0 0)), (1, .int (iI v1)), (2, .int (iI v2))] := hl
  have hS : va_S (gA G) s.heap s.heap [] := va_S.rf
  generalize hargs : ([.ref (gAd G 0 0), .int (iI v1), .int (iI v2)] : List Value).toArray = args at X ⊢
  clear hargs
  unfold f_X11_setTool at hf
  refine lv_iload_n X.1 X.2.1 dX11_setTool_0 rfl (lv_at hl.1 1 rfl) ?_
  refine lv_iconst X.1 X.2.1 dX11_setTool_1 (v := iI 4) rfl ?_
  refine gGoZ (gRunS X hH (As := [.int (iI v1), .int (iI 4)]) (m_X11_isBelow l G v1 nv1 4 (nmI_l (by decide)) M0 _ rfl) calX11_isBelow k_529 k_528 ⟨by decide, by decide⟩ rfl hl rfl (Nat.le_of_ble_eq_true rfl) ⟨Nat.le_of_ble_eq_true rfl, Nat.le_of_ble_eq_true rfl⟩ dX11_setTool_2) hS (fun H locs br2 hH hS => ?_)
  obtain ⟨k22, ek22, hf_⟩ := oj_e hf; clear hf; have hf := hf_; clear hf_
  have hk22 : ∀ (xs0_22 : Int) (bxs0_22 : xs0_22 = 0 ∨ xs0_22 = 1), k22 xs0_22 = some q → ∀ (H : Heap) (locs : List Loc) (ls : Array Slot), gH G M0 H → va_S (gA G) s.heap H locs → gLv ls 3 [(0, .ref (gAd G 0 0)), (1, .int (iI v1)), (2, .int (iI v2))] → W p l e { frames := 7, cells := 2, slots := 12, locals := 110 } s m args below meth c H locs 0 0 (vx_MQ below (gXi G (∃ z, q = Sum.inr z) (gvP q).1 (gvP q).2) (gXC G (fun e9 => q = Sum.inl e9) M0) args s 2 12 (gA G)) (F0 m 22 ls [.int (iI xs0_22)]) := by
    intro xs0_22 bxs0_22 hf H locs ls hH hS hl
    subst ek22
    obtain ⟨r22, hq22, hf_⟩ := ob_e hf; clear hf; have hf := hf_; clear hf_
    rcases r22 with e8 | v22_
    · have hq := Option.some.inj hf; subst hq
      refine gGoXV (gRunSX X Z hH hS (As := [.int (iI xs0_22)]) (m_X11_checkArgument l hl0 G xs0_22 bxs0_22 M0 _ hq22) calX11_checkArgument k_532 k_531 ⟨by decide, by decide⟩ rfl hl rfl (Nat.le_of_ble_eq_true rfl) ⟨Nat.le_of_ble_eq_true rfl, Nat.le_of_ble_eq_true rfl⟩ dX11_setTool_22) hS (fun E ce q9 H locs hE hH hS h1 h2 h3 => ?_) (fun H locs hok hH hS => ?_)
      · exact gOutX X hnt (by obtain ⟨e7, h7, h8⟩ := hE; exact ⟨e7, congrArg _ (Sum.inl.inj h7), h8⟩) hH hS h1 h2 h3 ⟨Nat.le_of_ble_eq_true rfl, Nat.le_of_ble_eq_true rfl⟩
      · obtain ⟨z, hz⟩ := hok; cases hz
    · replace hf := ox_i hf
      refine gGoXV (gRunSX X Z hH hS (As := [.int (iI xs0_22)]) (m_X11_checkArgument l hl0 G xs0_22 bxs0_22 M0 _ hq22) calX11_checkArgument k_532 k_531 ⟨by decide, by decide⟩ rfl hl rfl (Nat.le_of_ble_eq_true rfl) ⟨Nat.le_of_ble_eq_true rfl, Nat.le_of_ble_eq_true rfl⟩ dX11_setTool_22) hS (fun E ce q9 H locs hE hH hS h1 h2 h3 => ?_) (fun H locs _ hH hS => ?_)
      · obtain ⟨e7, h7, h8⟩ := hE; cases h7
      · refine lv_aload_n X.1 X.2.1 dX11_setTool_25 rfl (lv_at hl.1 0 rfl) ?_
        refine g_get X cX11 hH (r := 0) (i := 0) (by decide) rfl 3 (by decide) k_481 rfl (v := .ref (gAd G 4 0)) rfl dX11_setTool_26 ?_
        have nd29 : nmI (M0 4 0 8) := hH.1.1 _ _ _
        have bd29 := hH.1.2.1 4 0 8 rfl
        refine g_get X cX2 hH (r := 4) (i := 0) (by decide) rfl 8 (by decide) k_428 rfl (v := .int (iI (M0 4 0 8))) rfl dX11_setTool_29 ?_
        obtain ⟨k40, ek40, hf_⟩ := oj_e hf; clear hf; have hf := hf_; clear hf_
        have hk40 : ∀ (xs0_40 : Int) (bxs0_40 : xs0_40 = 0 ∨ xs0_40 = 1), k40 xs0_40 = some q → ∀ (H : Heap) (locs : List Loc) (ls : Array Slot), gH G M0 H → va_S (gA G) s.heap H locs → gLv ls 3 [(0, .ref (gAd G 0 0)), (1, .int (iI v1)), (2, .int (iI v2))] → W p l e { frames := 7, cells := 2, slots := 12, locals := 110 } s m args below meth c H locs 1 6 (vx_MQ below (gXi G (∃ z, q = Sum.inr z) (gvP q).1 (gvP q).2) (gXC G (fun e9 => q = Sum.inl e9) M0) args s 2 12 (gA G)) (F0 m 40 ls [.int (iI xs0_40)]) := by
          intro xs0_40 bxs0_40 hf H locs ls hH hS hl
          subst ek40
          obtain ⟨r40, hq40, hf_⟩ := ob_e hf; clear hf; have hf := hf_; clear hf_
          rcases r40 with e8 | v40_
          · have hq := Option.some.inj hf; subst hq
            refine gGoXV (gRunSX X Z hH hS (As := [.int (iI xs0_40)]) (m_X11_checkState l hl0 G xs0_40 bxs0_40 M0 _ hq40) calX11_checkState k_634 k_633 ⟨by decide, by decide⟩ rfl hl rfl (Nat.le_of_ble_eq_true rfl) ⟨Nat.le_of_ble_eq_true rfl, Nat.le_of_ble_eq_true rfl⟩ dX11_setTool_40) hS (fun E ce q9 H locs hE hH hS h1 h2 h3 => ?_) (fun H locs hok hH hS => ?_)
            · exact gOutX X hnt (by obtain ⟨e7, h7, h8⟩ := hE; exact ⟨e7, congrArg _ (Sum.inl.inj h7), h8⟩) hH hS h1 h2 h3 ⟨Nat.le_of_ble_eq_true rfl, Nat.le_of_ble_eq_true rfl⟩
            · obtain ⟨z, hz⟩ := hok; cases hz
          · replace hf := ox_i hf
            refine gGoXV (gRunSX X Z hH hS (As := [.int (iI xs0_40)]) (m_X11_checkState l hl0 G xs0_40 bxs0_40 M0 _ hq40) calX11_checkState k_634 k_633 ⟨by decide, by decide⟩ rfl hl rfl (Nat.le_of_ble_eq_true rfl) ⟨Nat.le_of_ble_eq_true rfl, Nat.le_of_ble_eq_true rfl⟩ dX11_setTool_40) hS (fun E ce q9 H locs hE hH hS h1 h2 h3 => ?_) (fun H locs _ hH hS => ?_)
            · obtain ⟨e7, h7, h8⟩ := hE; cases h7
            · refine lv_aload_n X.1 X.2.1 dX11_setTool_43 rfl (lv_at hl.1 0 rfl) ?_
              refine g_get X cX11 hH (r := 0) (i := 0) (by decide) rfl 0 (by decide) k_478 rfl (v := .ref (gAd G 1 0)) rfl dX11_setTool_44 ?_
              refine g_get X cX7 hH (r := 1) (i := 0) (by decide) rfl 2 (by decide) k_105 rfl (v := .ref (gAd G 14 0)) rfl dX11_setTool_47 ?_
              refine lv_iload_n X.1 X.2.1 dX11_setTool_50 rfl (lv_at hl.1 1 rfl) ?_
              refine lv_iload_n X.1 X.2.1 dX11_setTool_51 rfl (lv_at hl.1 2 rfl) ?_
              refine gGoI (gRunS X hH (As := [.ref (gAd G 14 0), .int (iI v1), .int (iI v2)]) (m_X11_exchange l G 14 0 4 (by decide) gArr_14 v1 nv1 v2 nv2 M0 _ rfl) calX11_exchange k_607 k_652 ⟨by decide, by decide⟩ rfl hl rfl (Nat.le_of_ble_eq_true rfl) ⟨Nat.le_of_ble_eq_true rfl, Nat.le_of_ble_eq_true rfl⟩ dX11_setTool_52) hS (fun H locs nr52 hH hS => ?_)
              have hq := Option.some.inj hf; subst hq
              exact gRetXI X hH hS ⟨_, rfl⟩ (res := (f_X11_exchange 14 0 4 v1 v2 M0).1) nr52 ⟨Nat.le_of_ble_eq_true rfl, Nat.le_of_ble_eq_true rfl⟩ dX11_setTool_55
        clear ek40
        refine g_if_ne X nd29 (tgt := 39) dX11_setTool_32 (by decide) (fun hc32 => ?_) (fun hc32 => ?_)
        · replace hf := it_f hf hc32
          refine lv_iconst X.1 X.2.1 dX11_setTool_39 (v := iI 0) rfl ?_
          exact hk40 0 (by decide) hf _ _ _ hH hS (gLv_sub hl [0, 1, 2] rfl)
        · replace hf := it_t hf hc32
          refine lv_iconst X.1 X.2.1 dX11_setTool_35 (v := iI 1) rfl ?_
          refine lv_goto (tgt := 40) X.1 X.2.1 dX11_setTool_36 (by decide) ?_
          exact hk40 1 (by decide) hf _ _ _ hH hS (gLv_sub hl [0, 1, 2] rfl)
  clear ek22
  obtain ⟨k21, ek21, hf_⟩ := oj_e hf; clear hf; have hf := hf_; clear hf_
  have hk21 : k21 = some q → ∀ (H : Heap) (locs : List Loc) (ls : Array Slot), gH G M0 H → va_S (gA G) s.heap H locs → gLv ls 3 [(0, .ref (gAd G 0 0)), (1, .int (iI v1)), (2, .int (iI v2))] → W p l e { frames := 7, cells := 2, slots := 12, locals := 110 } s m args below meth c H locs 0 0 (vx_MQ below (gXi G (∃ z, q = Sum.inr z) (gvP q).1 (gvP q).2) (gXC G (fun e9 => q = Sum.inl e9) M0) args s 2 12 (gA G)) (F0 m 21 ls []) := by
    intro  hf H locs ls hH hS hl
    subst ek21
    refine lv_iconst X.1 X.2.1 dX11_setTool_21 (v := iI 0) rfl ?_
    exact hk22 0 (by decide) hf _ _ _ hH hS (gLv_sub hl [0, 1, 2] rfl)
  clear ek21
  refine g_if_eq X (nmI_b br2) (tgt := 21) dX11_setTool_5 (by decide) (fun hc5 => ?_) (fun hc5 => ?_)
  · replace hf := it_t hf hc5
    exact hk21  hf _ _ _ hH hS (gLv_sub hl [0, 1, 2] rfl)
  · replace hf := it_f hf hc5
    refine lv_iload_n X.1 X.2.1 dX11_setTool_8 rfl (lv_at hl.1 2 rfl) ?_
    refine lv_bipush X.1 X.2.1 dX11_setTool_9 (v := iI 10) (by decide) ?_
    refine gGoZ (gRunS X hH (As := [.int (iI v2), .int (iI 10)]) (m_X11_isBelow l G v2 nv2 10 (nmI_l (by decide)) M0 _ rfl) calX11_isBelow k_529 k_528 ⟨by decide, by decide⟩ rfl hl rfl (Nat.le_of_ble_eq_true rfl) ⟨Nat.le_of_ble_eq_true rfl, Nat.le_of_ble_eq_true rfl⟩ dX11_setTool_11) hS (fun H locs br11 hH hS => ?_)
    refine g_if_eq X (nmI_b br11) (tgt := 21) dX11_setTool_14 (by decide) (fun hc14 => ?_) (fun hc14 => ?_)
    · replace hf := it_t hf hc14
      exact hk21  hf _ _ _ hH hS (gLv_sub hl [0, 1, 2] rfl)
    · replace hf := it_f hf hc14
      refine lv_iconst X.1 X.2.1 dX11_setTool_17 (v := iI 1) rfl ?_
      refine lv_goto (tgt := 22) X.1 X.2.1 dX11_setTool_18 (by decide) ?_
      exact hk22 1 (by decide) hf _ _ _ hH hS (gLv_sub hl [0, 1, 2] rfl)
theorem m_X11_checkTarget (l : Launch) (hl0 : l.stackTraces = false) (G : gG) (v1 : Int) (nv1 : nmI v1) (M0 : gM) (q : (Nat ⊕ Unit)) (hf : f_X11_checkTarget v1 M0 = some q) : gXMet l yX11_checkTarget cX11_checkTarget 2 none 6 90 1 6 G M0 [.ref (gAd G 0 0), .int (iI v1)] (gXv G (∃ z, q = Sum.inr z) M0) (fun e9 => q = Sum.inl e9) := by
  refine gOfX (by decide) (by show _ ≤ 2; exact Nat.le_of_ble_eq_true rfl) rfl ?_
  intro p e s m below meth c X Z hnt hH ls hl
  replace hl : gLv ls 2 [(0, .ref (gAd G 0 0)), (1, .int (iI v1))] := hl
  have hS : va_S (gA G) s.heap s.heap [] := va_S.rf
  generalize hargs : ([.ref (gAd G 0 0), .int (iI v1)] : List Value).toArray = args at X ⊢
  clear hargs
  unfold f_X11_checkTarget at hf
  refine lv_iload_n X.1 X.2.1 dX11_checkTarget_0 rfl (lv_at hl.1 1 rfl) ?_
  refine lv_aload_n X.1 X.2.1 dX11_checkTarget_1 rfl (lv_at hl.1 0 rfl) ?_
  refine g_get X cX11 hH (r := 0) (i := 0) (by decide) rfl 1 (by decide) k_479 rfl (v := .ref (gAd G 2 0)) rfl dX11_checkTarget_2 ?_
  have nd5 : nmI (M0 2 0 5) := hH.1.1 _ _ _
  refine g_get X cX5 hH (r := 2) (i := 0) (by decide) rfl 5 (by decide) k_288 rfl (v := .int (iI (M0 2 0 5))) rfl dX11_checkTarget_5 ?_
  refine gGoZ (gRunS X hH (As := [.int (iI v1), .int (iI (M0 2 0 5))]) (m_X11_isBelow l G v1 nv1 (M0 2 0 5) nd5 M0 _ rfl) calX11_isBelow k_529 k_528 ⟨by decide, by decide⟩ rfl hl rfl (Nat.le_of_ble_eq_true rfl) ⟨Nat.le_of_ble_eq_true rfl, Nat.le_of_ble_eq_true rfl⟩ dX11_checkTarget_8) hS (fun H locs br8 hH hS => ?_)
  refine g_if_ne X (nmI_b br8) (tgt := 25) dX11_checkTarget_11 (by decide) (fun hc11 => ?_) (fun hc11 => ?_)
  · replace hf := it_f hf hc11
    have hq := Option.some.inj hf; subst hq
    exact gRetXV X hH hS ⟨_, rfl⟩ ⟨Nat.le_of_ble_eq_true rfl, Nat.le_of_ble_eq_true rfl⟩ dX11_checkTarget_25
  · replace hf := it_t hf hc11
    have hq := Option.some.inj hf; subst hq
    exact gThrowW hl0 X Z hnt hH hS hl (e9 := 2) (by decide) k_679 k_83 (List.mem_of_getElem? (i := 2) rfl) gAt_287 dX11_checkTarget_14 dX11_checkTarget_17 dX11_checkTarget_18 dX11_checkTarget_21 dX11_checkTarget_24 (by decide) (by decide) ⟨by decide, by decide⟩ ⟨by decide, by decide⟩ rfl
theorem m_X11_checkThing (l : Launch) (hl0 : l.stackTraces = false) (G : gG) (v1 : Int) (nv1 : nmI v1) (M0 : gM) (q : (Nat ⊕ Unit)) (hf : f_X11_checkThing v1 M0 = some q) : gXMet l yX11_checkThing cX11_checkThing 2 none 7 111 1 6 G M0 [.ref (gAd G 0 0), .int (iI v1)] (gXv G (∃ z, q = Sum.inr z) M0) (fun e9 => q = Sum.inl e9) := by
  refine gOfX (by decide) (by show _ ≤ 2; exact Nat.le_of_ble_eq_true rfl) rfl ?_
  intro p e s m below meth c X Z hnt hH ls hl
  replace hl : gLv ls 2 [(0, .ref (gAd G 0 0)), (1, .int (iI v1))] := hl
  have hS : va_S (gA G) s.heap s.heap [] := va_S.rf
  generalize hargs : ([.ref (gAd G 0 0), .int (iI v1)] : List Value).toArray = args at X ⊢
  clear hargs
  unfold f_X11_checkThing at hf
  refine lv_iload_n X.1 X.2.1 dX11_checkThing_0 rfl (lv_at hl.1 1 rfl) ?_
  refine gGoZ (gRunS X hH (As := [.int (iI v1)]) (m_X11_isTarget l G v1 nv1 M0 _ rfl) calX11_isTarget k_673 k_672 ⟨by decide, by decide⟩ rfl hl rfl (Nat.le_of_ble_eq_true rfl) ⟨Nat.le_of_ble_eq_true rfl, Nat.le_of_ble_eq_true rfl⟩ dX11_checkThing_1) hS (fun H locs br1 hH hS => ?_)
  refine g_if_eq X (nmI_b br1) (tgt := 15) dX11_checkThing_4 (by decide) (fun hc4 => ?_) (fun hc4 => ?_)
  · replace hf := it_t hf hc4
    have hq := Option.some.inj hf; subst hq
    exact gRetXV X hH hS ⟨_, rfl⟩ ⟨Nat.le_of_ble_eq_true rfl, Nat.le_of_ble_eq_true rfl⟩ dX11_checkThing_15
  · replace hf := it_f hf hc4
    refine lv_aload_n X.1 X.2.1 dX11_checkThing_7 rfl (lv_at hl.1 0 rfl) ?_
    refine lv_iload_n X.1 X.2.1 dX11_checkThing_8 rfl (lv_at hl.1 1 rfl) ?_
    refine lv_bipush X.1 X.2.1 dX11_checkThing_9 (v := iI 16) (by decide) ?_
    refine g_isub X dX11_checkThing_11 ?_
    obtain ⟨r12, hq12, hf_⟩ := ob_e hf; clear hf; have hf := hf_; clear hf_
    rcases r12 with e8 | v12_
    · have hq := Option.some.inj hf; subst hq
      refine gGoXV (gRunVX X Z hH hS (As := [.int (iI (wI (v1 - 16)))]) (m_X11_checkTarget l hl0 G (wI (v1 - 16)) (nmI_w _) M0 _ hq12) calX11_checkTarget k_677 k_4 k_675 (by decide) cX11 rfl ⟨by decide, by decide⟩ rfl hl rfl (Nat.le_of_ble_eq_true rfl) ⟨Nat.le_of_ble_eq_true rfl, Nat.le_of_ble_eq_true rfl⟩ dX11_checkThing_12) hS (fun E ce q9 H locs hE hH hS h1 h2 h3 => ?_) (fun H locs hok hH hS => ?_)
      · exact gOutX X hnt (by obtain ⟨e7, h7, h8⟩ := hE; exact ⟨e7, congrArg _ (Sum.inl.inj h7), h8⟩) hH hS h1 h2 h3 ⟨Nat.le_of_ble_eq_true rfl, Nat.le_of_ble_eq_true rfl⟩
      · obtain ⟨z, hz⟩ := hok; cases hz
    · replace hf := ox_i hf
      refine gGoXV (gRunVX X Z hH hS (As := [.int (iI (wI (v1 - 16)))]) (m_X11_checkTarget l hl0 G (wI (v1 - 16)) (nmI_w _) M0 _ hq12) calX11_checkTarget k_677 k_4 k_675 (by decide) cX11 rfl ⟨by decide, by decide⟩ rfl hl rfl (Nat.le_of_ble_eq_true rfl) ⟨Nat.le_of_ble_eq_true rfl, Nat.le_of_ble_eq_true rfl⟩ dX11_checkThing_12) hS (fun E ce q9 H locs hE hH hS h1 h2 h3 => ?_) (fun H locs _ hH hS => ?_)
      · obtain ⟨e7, h7, h8⟩ := hE; cases h7
      · have hq := Option.some.inj hf; subst hq
        exact gRetXV X hH hS ⟨_, rfl⟩ ⟨Nat.le_of_ble_eq_true rfl, Nat.le_of_ble_eq_true rfl⟩ dX11_checkThing_15
theorem m_X11_input (l : Launch) (hl0 : l.stackTraces = false) (G : gG) (v1 : Int) (nv1 : nmI v1) (v2 : Int) (nv2 : nmI v2) (v3 : Int) (nv3 : nmI v3) (v4 : Int) (nv4 : nmI v4) (M0 : gM) (q : (Nat ⊕ (Int × gM))) (hf : f_X11_input v1 v2 v3 v4 M0 = some q) : gXMet l yX11_input cX11_input 5 (some .int) 8 132 6 36 G M0 [.ref (gAd G 0 0), .int (iI v1), .int (iI v2), .int (iI v3), .int (iI v4)] (gXi G (∃ z, q = Sum.inr z) (gvP q).1 (gvP q).2) (fun e9 => q = Sum.inl e9) := by
  refine gOfX (by decide) (by show _ ≤ 5; exact Nat.le_of_ble_eq_true rfl) rfl ?_
  intro p e s m below meth c X Z hnt hH ls hl
  replace hl : gLv ls 5 [(0, .ref (gAd G 0 0)), (1, .int (iI v1)), (2, .int (iI v2)), (3, .int (iI v3)), (4, .int (iI v4))] := hl
  have hS : va_S (gA G) s.heap s.heap [] := va_S.rf
  generalize hargs : ([.ref (gAd G 0 0), .int (iI v1), .int (iI v2), .int (iI v3), .int (iI v4)] : List Value).toArray = args at X ⊢
  clear hargs
  unfold f_X11_input at hf
  refine lv_iload_n X.1 X.2.1 dX11_input_0 rfl (lv_at hl.1 1 rfl) ?_
  obtain ⟨k14, ek14, hf_⟩ := oj_e hf; clear hf; have hf := hf_; clear hf_
  have hk14 : ∀ (xs0_14 : Int) (bxs0_14 : xs0_14 = 0 ∨ xs0_14 = 1), k14 xs0_14 = some q → ∀ (H : Heap) (locs : List Loc) (ls : Array Slot), gH G M0 H → va_S (gA G) s.heap H locs → gLv ls 5 [(0, .ref (gAd G 0 0)), (1, .int (iI v1)), (2, .int (iI v2)), (3, .int (iI v3)), (4, .int (iI v4))] → W p l e { frames := 8, cells := 6, slots := 36, locals := 132 } s m args below meth c H locs 0 0 (vx_MQ below (gXi G (∃ z, q = Sum.inr z) (gvP q).1 (gvP q).2) (gXC G (fun e9 => q = Sum.inl e9) M0) args s 6 36 (gA G)) (F0 m 14 ls [.int (iI xs0_14)]) := by
    intro xs0_14 bxs0_14 hf H locs ls hH hS hl
    subst ek14
    obtain ⟨r14, hq14, hf_⟩ := ob_e hf; clear hf; have hf := hf_; clear hf_
    rcases r14 with e8 | v14_
    · have hq := Option.some.inj hf; subst hq
      refine gGoXV (gRunSX X Z hH hS (As := [.int (iI xs0_14)]) (m_X11_checkArgument l hl0 G xs0_14 bxs0_14 M0 _ hq14) calX11_checkArgument k_532 k_531 ⟨by decide, by decide⟩ rfl hl rfl (Nat.le_of_ble_eq_true rfl) ⟨Nat.le_of_ble_eq_true rfl, Nat.le_of_ble_eq_true rfl⟩ dX11_input_14) hS (fun E ce q9 H locs hE hH hS h1 h2 h3 => ?_) (fun H locs hok hH hS => ?_)
      · exact gOutX X hnt (by obtain ⟨e7, h7, h8⟩ := hE; exact ⟨e7, congrArg _ (Sum.inl.inj h7), h8⟩) hH hS h1 h2 h3 ⟨Nat.le_of_ble_eq_true rfl, Nat.le_of_ble_eq_true rfl⟩
      · obtain ⟨z, hz⟩ := hok; cases hz
    · replace hf := ox_i hf
      refine gGoXV (gRunSX X Z hH hS (As := [.int (iI xs0_14)]) (m_X11_checkArgument l hl0 G xs0_14 bxs0_14 M0 _ hq14) calX11_checkArgument k_532 k_531 ⟨by decide, by decide⟩ rfl hl rfl (Nat.le_of_ble_eq_true rfl) ⟨Nat.le_of_ble_eq_true rfl, Nat.le_of_ble_eq_true rfl⟩ dX11_input_14) hS (fun E ce q9 H locs hE hH hS h1 h2 h3 => ?_) (fun H locs _ hH hS => ?_)
      · obtain ⟨e7, h7, h8⟩ := hE; cases h7
      · refine lv_iload_n X.1 X.2.1 dX11_input_17 rfl (lv_at hl.1 2 rfl) ?_
        refine lv_iconst X.1 X.2.1 dX11_input_18 (v := iI (-1)) rfl ?_
        obtain ⟨k68, ek68, hf_⟩ := oj_e hf; clear hf; have hf := hf_; clear hf_
        have hk68 : k68 = some q → ∀ (H : Heap) (locs : List Loc) (ls : Array Slot), gH G M0 H → va_S (gA G) s.heap H locs → gLv ls 5 [(0, .ref (gAd G 0 0)), (1, .int (iI v1)), (2, .int (iI v2)), (3, .int (iI v3)), (4, .int (iI v4))] → W p l e { frames := 8, cells := 6, slots := 36, locals := 132 } s m args below meth c H locs 2 12 (vx_MQ below (gXi G (∃ z, q = Sum.inr z) (gvP q).1 (gvP q).2) (gXC G (fun e9 => q = Sum.inl e9) M0) args s 6 36 (gA G)) (F0 m 68 ls []) := by
          intro  hf H locs ls hH hS hl
          subst ek68
          refine lv_aload_n X.1 X.2.1 dX11_input_68 rfl (lv_at hl.1 0 rfl) ?_
          refine lv_iload_n X.1 X.2.1 dX11_input_69 rfl (lv_at hl.1 1 rfl) ?_
          obtain ⟨r70, hq70, hf_⟩ := ob_e hf; clear hf; have hf := hf_; clear hf_
          rcases r70 with e8 | v70_
          · have hq := Option.some.inj hf; subst hq
            refine gGoXV (gRunVX X Z hH hS (As := [.int (iI v1)]) (m_X11_checkThing l hl0 G v1 nv1 M0 _ hq70) calX11_checkThing k_670 k_3 k_668 (by decide) cX11 rfl ⟨by decide, by decide⟩ rfl hl rfl (Nat.le_of_ble_eq_true rfl) ⟨Nat.le_of_ble_eq_true rfl, Nat.le_of_ble_eq_true rfl⟩ dX11_input_70) hS (fun E ce q9 H locs hE hH hS h1 h2 h3 => ?_) (fun H locs hok hH hS => ?_)
            · exact gOutX X hnt (by obtain ⟨e7, h7, h8⟩ := hE; exact ⟨e7, congrArg _ (Sum.inl.inj h7), h8⟩) hH hS h1 h2 h3 ⟨Nat.le_of_ble_eq_true rfl, Nat.le_of_ble_eq_true rfl⟩
            · obtain ⟨z, hz⟩ := hok; cases hz
          · replace hf := ox_i hf
            refine gGoXV (gRunVX X Z hH hS (As := [.int (iI v1)]) (m_X11_checkThing l hl0 G v1 nv1 M0 _ hq70) calX11_checkThing k_670 k_3 k_668 (by decide) cX11 rfl ⟨by decide, by decide⟩ rfl hl rfl (Nat.le_of_ble_eq_true rfl) ⟨Nat.le_of_ble_eq_true rfl, Nat.le_of_ble_eq_true rfl⟩ dX11_input_70) hS (fun E ce q9 H locs hE hH hS h1 h2 h3 => ?_) (fun H locs _ hH hS => ?_)
            · obtain ⟨e7, h7, h8⟩ := hE; cases h7
            · refine lv_aload_n X.1 X.2.1 dX11_input_73 rfl (lv_at hl.1 0 rfl) ?_
              refine lv_iload_n X.1 X.2.1 dX11_input_74 rfl (lv_at hl.1 2 rfl) ?_
              obtain ⟨r75, hq75, hf_⟩ := ob_e hf; clear hf; have hf := hf_; clear hf_
              rcases r75 with e8 | v75_
              · have hq := Option.some.inj hf; subst hq
                refine gGoXV (gRunVX X Z hH hS (As := [.int (iI v2)]) (m_X11_checkThing l hl0 G v2 nv2 M0 _ hq75) calX11_checkThing k_670 k_3 k_668 (by decide) cX11 rfl ⟨by decide, by decide⟩ rfl hl rfl (Nat.le_of_ble_eq_true rfl) ⟨Nat.le_of_ble_eq_true rfl, Nat.le_of_ble_eq_true rfl⟩ dX11_input_75) hS (fun E ce q9 H locs hE hH hS h1 h2 h3 => ?_) (fun H locs hok hH hS => ?_)
                · exact gOutX X hnt (by obtain ⟨e7, h7, h8⟩ := hE; exact ⟨e7, congrArg _ (Sum.inl.inj h7), h8⟩) hH hS h1 h2 h3 ⟨Nat.le_of_ble_eq_true rfl, Nat.le_of_ble_eq_true rfl⟩
                · obtain ⟨z, hz⟩ := hok; cases hz
              · replace hf := ox_i hf
                refine gGoXV (gRunVX X Z hH hS (As := [.int (iI v2)]) (m_X11_checkThing l hl0 G v2 nv2 M0 _ hq75) calX11_checkThing k_670 k_3 k_668 (by decide) cX11 rfl ⟨by decide, by decide⟩ rfl hl rfl (Nat.le_of_ble_eq_true rfl) ⟨Nat.le_of_ble_eq_true rfl, Nat.le_of_ble_eq_true rfl⟩ dX11_input_75) hS (fun E ce q9 H locs hE hH hS h1 h2 h3 => ?_) (fun H locs _ hH hS => ?_)
                · obtain ⟨e7, h7, h8⟩ := hE; cases h7
                · refine lv_aload_n X.1 X.2.1 dX11_input_78 rfl (lv_at hl.1 0 rfl) ?_
                  refine g_get X cX11 hH (r := 0) (i := 0) (by decide) rfl 1 (by decide) k_479 rfl (v := .ref (gAd G 2 0)) rfl dX11_input_79 ?_
                  refine g_get X cX5 hH (r := 2) (i := 0) (by decide) rfl 4 (by decide) k_284 rfl (v := .ref (gAd G 8 15)) rfl dX11_input_82 ?_
                  have nd85 : nmI (M0 8 15 5) := hH.1.1 _ _ _
                  refine g_get X cX6 hH (r := 8) (i := 15) (by decide) rfl 5 (by decide) k_155 rfl (v := .int (iI (M0 8 15 5))) rfl dX11_input_85 ?_
                  refine lv_iconst X.1 X.2.1 dX11_input_88 (v := iI 4) rfl ?_
                  obtain ⟨k97, ek97, hf_⟩ := oj_e hf; clear hf; have hf := hf_; clear hf_
                  have hk97 : ∀ (xs0_97 : Int) (bxs0_97 : xs0_97 = 0 ∨ xs0_97 = 1), k97 xs0_97 = some q → ∀ (H : Heap) (locs : List Loc) (ls : Array Slot), gH G M0 H → va_S (gA G) s.heap H locs → gLv ls 5 [(0, .ref (gAd G 0 0)), (1, .int (iI v1)), (2, .int (iI v2)), (3, .int (iI v3)), (4, .int (iI v4))] → W p l e { frames := 8, cells := 6, slots := 36, locals := 132 } s m args below meth c H locs 4 24 (vx_MQ below (gXi G (∃ z, q = Sum.inr z) (gvP q).1 (gvP q).2) (gXC G (fun e9 => q = Sum.inl e9) M0) args s 6 36 (gA G)) (F0 m 97 ls [.int (iI xs0_97)]) := by
                    intro xs0_97 bxs0_97 hf H locs ls hH hS hl
                    subst ek97
                    obtain ⟨r97, hq97, hf_⟩ := ob_e hf; clear hf; have hf := hf_; clear hf_
                    rcases r97 with e8 | v97_
                    · have hq := Option.some.inj hf; subst hq
                      refine gGoXV (gRunSX X Z hH hS (As := [.int (iI xs0_97)]) (m_X11_checkState l hl0 G xs0_97 bxs0_97 M0 _ hq97) calX11_checkState k_634 k_633 ⟨by decide, by decide⟩ rfl hl rfl (Nat.le_of_ble_eq_true rfl) ⟨Nat.le_of_ble_eq_true rfl, Nat.le_of_ble_eq_true rfl⟩ dX11_input_97) hS (fun E ce q9 H locs hE hH hS h1 h2 h3 => ?_) (fun H locs hok hH hS => ?_)
                      · exact gOutX X hnt (by obtain ⟨e7, h7, h8⟩ := hE; exact ⟨e7, congrArg _ (Sum.inl.inj h7), h8⟩) hH hS h1 h2 h3 ⟨Nat.le_of_ble_eq_true rfl, Nat.le_of_ble_eq_true rfl⟩
                      · obtain ⟨z, hz⟩ := hok; cases hz
                    · replace hf := ox_i hf
                      refine gGoXV (gRunSX X Z hH hS (As := [.int (iI xs0_97)]) (m_X11_checkState l hl0 G xs0_97 bxs0_97 M0 _ hq97) calX11_checkState k_634 k_633 ⟨by decide, by decide⟩ rfl hl rfl (Nat.le_of_ble_eq_true rfl) ⟨Nat.le_of_ble_eq_true rfl, Nat.le_of_ble_eq_true rfl⟩ dX11_input_97) hS (fun E ce q9 H locs hE hH hS h1 h2 h3 => ?_) (fun H locs _ hH hS => ?_)
                      · obtain ⟨e7, h7, h8⟩ := hE; cases h7
                      · refine lv_aload_n X.1 X.2.1 dX11_input_100 rfl (lv_at hl.1 0 rfl) ?_
                        refine g_get X cX11 hH (r := 0) (i := 0) (by decide) rfl 1 (by decide) k_479 rfl (v := .ref (gAd G 2 0)) rfl dX11_input_101 ?_
                        refine g_get X cX5 hH (r := 2) (i := 0) (by decide) rfl 4 (by decide) k_284 rfl (v := .ref (gAd G 8 15)) rfl dX11_input_104 ?_
                        refine lv_iload_n X.1 X.2.1 dX11_input_107 rfl (lv_at hl.1 1 rfl) ?_
                        refine lv_iload_n X.1 X.2.1 dX11_input_108 rfl (lv_at hl.1 2 rfl) ?_
                        refine lv_iload_n X.1 X.2.1 dX11_input_109 rfl (lv_at hl.1 3 rfl) ?_
                        refine lv_iload X.1 X.2.1 dX11_input_110 (lv_at hl.1 4 rfl) ?_
                        refine gGoI (gRunV X hH (As := [.int (iI v1), .int (iI v2), .int (iI v3), .int (iI v4)]) (m_X6_append l G 15 (by decide) v1 nv1 v2 nv2 v3 nv3 v4 nv4 M0 _ rfl) calX6_append k_696 k_697 k_695 (by decide) cX6 rfl ⟨by decide, by decide⟩ rfl hl rfl (Nat.le_of_ble_eq_true rfl) ⟨Nat.le_of_ble_eq_true rfl, Nat.le_of_ble_eq_true rfl⟩ dX11_input_112) hS (fun H locs nr112 hH hS => ?_)
                        have hq := Option.some.inj hf; subst hq
                        exact gRetXI X hH hS ⟨_, rfl⟩ (res := (f_X6_append 15 v1 v2 v3 v4 M0).1) nr112 ⟨Nat.le_of_ble_eq_true rfl, Nat.le_of_ble_eq_true rfl⟩ dX11_input_115
                  clear ek97
                  refine g_icmp_ge X nd85 (nmI_l (by decide)) (tgt := 96) dX11_input_89 (by decide) (fun hc89 => ?_) (fun hc89 => ?_)
                  · replace hf := it_f hf hc89
                    refine lv_iconst X.1 X.2.1 dX11_input_96 (v := iI 0) rfl ?_
                    exact hk97 0 (by decide) hf _ _ _ hH hS (gLv_sub hl [0, 1, 2, 3, 4] rfl)
                  · replace hf := it_t hf hc89
                    refine lv_iconst X.1 X.2.1 dX11_input_92 (v := iI 1) rfl ?_
                    refine lv_goto (tgt := 97) X.1 X.2.1 dX11_input_93 (by decide) ?_
                    exact hk97 1 (by decide) hf _ _ _ hH hS (gLv_sub hl [0, 1, 2, 3, 4] rfl)
        clear ek68
        refine g_icmp_ne X nv2 (nmI_l (by decide)) (tgt := 42) dX11_input_19 (by decide) (fun hc19 => ?_) (fun hc19 => ?_)
        · replace hf := it_f hf hc19
          refine lv_iload_n X.1 X.2.1 dX11_input_42 rfl (lv_at hl.1 3 rfl) ?_
          refine lv_iconst X.1 X.2.1 dX11_input_43 (v := iI 4) rfl ?_
          refine gGoZ (gRunS X hH (As := [.int (iI v3), .int (iI 4)]) (m_X11_isBelow l G v3 nv3 4 (nmI_l (by decide)) M0 _ rfl) calX11_isBelow k_529 k_528 ⟨by decide, by decide⟩ rfl hl rfl (Nat.le_of_ble_eq_true rfl) ⟨Nat.le_of_ble_eq_true rfl, Nat.le_of_ble_eq_true rfl⟩ dX11_input_44) hS (fun H locs br44 hH hS => ?_)
          obtain ⟨k65, ek65, hf_⟩ := oj_e hf; clear hf; have hf := hf_; clear hf_
          have hk65 : ∀ (xs0_65 : Int) (bxs0_65 : xs0_65 = 0 ∨ xs0_65 = 1), k65 xs0_65 = some q → ∀ (H : Heap) (locs : List Loc) (ls : Array Slot), gH G M0 H → va_S (gA G) s.heap H locs → gLv ls 5 [(0, .ref (gAd G 0 0)), (1, .int (iI v1)), (2, .int (iI v2)), (3, .int (iI v3)), (4, .int (iI v4))] → W p l e { frames := 8, cells := 6, slots := 36, locals := 132 } s m args below meth c H locs 1 6 (vx_MQ below (gXi G (∃ z, q = Sum.inr z) (gvP q).1 (gvP q).2) (gXC G (fun e9 => q = Sum.inl e9) M0) args s 6 36 (gA G)) (F0 m 65 ls [.int (iI xs0_65)]) := by
            intro xs0_65 bxs0_65 hf H locs ls hH hS hl
            subst ek65
            obtain ⟨r65, hq65, hf_⟩ := ob_e hf; clear hf; have hf := hf_; clear hf_
            rcases r65 with e8 | v65_
            · have hq := Option.some.inj hf; subst hq
              refine gGoXV (gRunSX X Z hH hS (As := [.int (iI xs0_65)]) (m_X11_checkArgument l hl0 G xs0_65 bxs0_65 M0 _ hq65) calX11_checkArgument k_532 k_531 ⟨by decide, by decide⟩ rfl hl rfl (Nat.le_of_ble_eq_true rfl) ⟨Nat.le_of_ble_eq_true rfl, Nat.le_of_ble_eq_true rfl⟩ dX11_input_65) hS (fun E ce q9 H locs hE hH hS h1 h2 h3 => ?_) (fun H locs hok hH hS => ?_)
              · exact gOutX X hnt (by obtain ⟨e7, h7, h8⟩ := hE; exact ⟨e7, congrArg _ (Sum.inl.inj h7), h8⟩) hH hS h1 h2 h3 ⟨Nat.le_of_ble_eq_true rfl, Nat.le_of_ble_eq_true rfl⟩
              · obtain ⟨z, hz⟩ := hok; cases hz
            · replace hf := ox_i hf
              refine gGoXV (gRunSX X Z hH hS (As := [.int (iI xs0_65)]) (m_X11_checkArgument l hl0 G xs0_65 bxs0_65 M0 _ hq65) calX11_checkArgument k_532 k_531 ⟨by decide, by decide⟩ rfl hl rfl (Nat.le_of_ble_eq_true rfl) ⟨Nat.le_of_ble_eq_true rfl, Nat.le_of_ble_eq_true rfl⟩ dX11_input_65) hS (fun E ce q9 H locs hE hH hS h1 h2 h3 => ?_) (fun H locs _ hH hS => ?_)
              · obtain ⟨e7, h7, h8⟩ := hE; cases h7
              · exact hk68  hf _ _ _ hH hS (gLv_sub hl [0, 1, 2, 3, 4] rfl)
          clear ek65
          obtain ⟨k64, ek64, hf_⟩ := oj_e hf; clear hf; have hf := hf_; clear hf_
          have hk64 : k64 = some q → ∀ (H : Heap) (locs : List Loc) (ls : Array Slot), gH G M0 H → va_S (gA G) s.heap H locs → gLv ls 5 [(0, .ref (gAd G 0 0)), (1, .int (iI v1)), (2, .int (iI v2)), (3, .int (iI v3)), (4, .int (iI v4))] → W p l e { frames := 8, cells := 6, slots := 36, locals := 132 } s m args below meth c H locs 1 6 (vx_MQ below (gXi G (∃ z, q = Sum.inr z) (gvP q).1 (gvP q).2) (gXC G (fun e9 => q = Sum.inl e9) M0) args s 6 36 (gA G)) (F0 m 64 ls []) := by
            intro  hf H locs ls hH hS hl
            subst ek64
            refine lv_iconst X.1 X.2.1 dX11_input_64 (v := iI 0) rfl ?_
            exact hk65 0 (by decide) hf _ _ _ hH hS (gLv_sub hl [0, 1, 2, 3, 4] rfl)
          clear ek64
          refine g_if_eq X (nmI_b br44) (tgt := 64) dX11_input_47 (by decide) (fun hc47 => ?_) (fun hc47 => ?_)
          · replace hf := it_t hf hc47
            exact hk64  hf _ _ _ hH hS (gLv_sub hl [0, 1, 2, 3, 4] rfl)
          · replace hf := it_f hf hc47
            refine lv_iload X.1 X.2.1 dX11_input_50 (lv_at hl.1 4 rfl) ?_
            refine lv_bipush X.1 X.2.1 dX11_input_52 (v := iI 10) (by decide) ?_
            refine gGoZ (gRunS X hH (As := [.int (iI v4), .int (iI 10)]) (m_X11_isBelow l G v4 nv4 10 (nmI_l (by decide)) M0 _ rfl) calX11_isBelow k_529 k_528 ⟨by decide, by decide⟩ rfl hl rfl (Nat.le_of_ble_eq_true rfl) ⟨Nat.le_of_ble_eq_true rfl, Nat.le_of_ble_eq_true rfl⟩ dX11_input_54) hS (fun H locs br54 hH hS => ?_)
            refine g_if_eq X (nmI_b br54) (tgt := 64) dX11_input_57 (by decide) (fun hc57 => ?_) (fun hc57 => ?_)
            · replace hf := it_t hf hc57
              exact hk64  hf _ _ _ hH hS (gLv_sub hl [0, 1, 2, 3, 4] rfl)
            · replace hf := it_f hf hc57
              refine lv_iconst X.1 X.2.1 dX11_input_60 (v := iI 1) rfl ?_
              refine lv_goto (tgt := 65) X.1 X.2.1 dX11_input_61 (by decide) ?_
              exact hk65 1 (by decide) hf _ _ _ hH hS (gLv_sub hl [0, 1, 2, 3, 4] rfl)
        · replace hf := it_t hf hc19
          refine lv_iload_n X.1 X.2.1 dX11_input_22 rfl (lv_at hl.1 3 rfl) ?_
          obtain ⟨k36, ek36, hf_⟩ := oj_e hf; clear hf; have hf := hf_; clear hf_
          have hk36 : ∀ (xs0_36 : Int) (bxs0_36 : xs0_36 = 0 ∨ xs0_36 = 1), k36 xs0_36 = some q → ∀ (H : Heap) (locs : List Loc) (ls : Array Slot), gH G M0 H → va_S (gA G) s.heap H locs → gLv ls 5 [(0, .ref (gAd G 0 0)), (1, .int (iI v1)), (2, .int (iI v2)), (3, .int (iI v3)), (4, .int (iI v4))] → W p l e { frames := 8, cells := 6, slots := 36, locals := 132 } s m args below meth c H locs 1 6 (vx_MQ below (gXi G (∃ z, q = Sum.inr z) (gvP q).1 (gvP q).2) (gXC G (fun e9 => q = Sum.inl e9) M0) args s 6 36 (gA G)) (F0 m 36 ls [.int (iI xs0_36)]) := by
            intro xs0_36 bxs0_36 hf H locs ls hH hS hl
            subst ek36
            obtain ⟨r36, hq36, hf_⟩ := ob_e hf; clear hf; have hf := hf_; clear hf_
            rcases r36 with e8 | v36_
            · have hq := Option.some.inj hf; subst hq
              refine gGoXV (gRunSX X Z hH hS (As := [.int (iI xs0_36)]) (m_X11_checkArgument l hl0 G xs0_36 bxs0_36 M0 _ hq36) calX11_checkArgument k_532 k_531 ⟨by decide, by decide⟩ rfl hl rfl (Nat.le_of_ble_eq_true rfl) ⟨Nat.le_of_ble_eq_true rfl, Nat.le_of_ble_eq_true rfl⟩ dX11_input_36) hS (fun E ce q9 H locs hE hH hS h1 h2 h3 => ?_) (fun H locs hok hH hS => ?_)
              · exact gOutX X hnt (by obtain ⟨e7, h7, h8⟩ := hE; exact ⟨e7, congrArg _ (Sum.inl.inj h7), h8⟩) hH hS h1 h2 h3 ⟨Nat.le_of_ble_eq_true rfl, Nat.le_of_ble_eq_true rfl⟩
              · obtain ⟨z, hz⟩ := hok; cases hz
            · replace hf := ox_i hf
              refine gGoXV (gRunSX X Z hH hS (As := [.int (iI xs0_36)]) (m_X11_checkArgument l hl0 G xs0_36 bxs0_36 M0 _ hq36) calX11_checkArgument k_532 k_531 ⟨by decide, by decide⟩ rfl hl rfl (Nat.le_of_ble_eq_true rfl) ⟨Nat.le_of_ble_eq_true rfl, Nat.le_of_ble_eq_true rfl⟩ dX11_input_36) hS (fun E ce q9 H locs hE hH hS h1 h2 h3 => ?_) (fun H locs _ hH hS => ?_)
              · obtain ⟨e7, h7, h8⟩ := hE; cases h7
              · refine lv_goto (tgt := 68) X.1 X.2.1 dX11_input_39 (by decide) ?_
                exact hk68  hf _ _ _ hH hS (gLv_sub hl [0, 1, 2, 3, 4] rfl)
          clear ek36
          obtain ⟨k35, ek35, hf_⟩ := oj_e hf; clear hf; have hf := hf_; clear hf_
          have hk35 : k35 = some q → ∀ (H : Heap) (locs : List Loc) (ls : Array Slot), gH G M0 H → va_S (gA G) s.heap H locs → gLv ls 5 [(0, .ref (gAd G 0 0)), (1, .int (iI v1)), (2, .int (iI v2)), (3, .int (iI v3)), (4, .int (iI v4))] → W p l e { frames := 8, cells := 6, slots := 36, locals := 132 } s m args below meth c H locs 1 6 (vx_MQ below (gXi G (∃ z, q = Sum.inr z) (gvP q).1 (gvP q).2) (gXC G (fun e9 => q = Sum.inl e9) M0) args s 6 36 (gA G)) (F0 m 35 ls []) := by
            intro  hf H locs ls hH hS hl
            subst ek35
            refine lv_iconst X.1 X.2.1 dX11_input_35 (v := iI 0) rfl ?_
            exact hk36 0 (by decide) hf _ _ _ hH hS (gLv_sub hl [0, 1, 2, 3, 4] rfl)
          clear ek35
          refine g_if_ne X nv3 (tgt := 35) dX11_input_23 (by decide) (fun hc23 => ?_) (fun hc23 => ?_)
          · replace hf := it_f hf hc23
            exact hk35  hf _ _ _ hH hS (gLv_sub hl [0, 1, 2, 3, 4] rfl)
          · replace hf := it_t hf hc23
            refine lv_iload X.1 X.2.1 dX11_input_26 (lv_at hl.1 4 rfl) ?_
            refine g_if_ne X nv4 (tgt := 35) dX11_input_28 (by decide) (fun hc28 => ?_) (fun hc28 => ?_)
            · replace hf := it_f hf hc28
              exact hk35  hf _ _ _ hH hS (gLv_sub hl [0, 1, 2, 3, 4] rfl)
            · replace hf := it_t hf hc28
              refine lv_iconst X.1 X.2.1 dX11_input_31 (v := iI 1) rfl ?_
              refine lv_goto (tgt := 36) X.1 X.2.1 dX11_input_32 (by decide) ?_
              exact hk36 1 (by decide) hf _ _ _ hH hS (gLv_sub hl [0, 1, 2, 3, 4] rfl)
  clear ek14
  obtain ⟨k13, ek13, hf_⟩ := oj_e hf; clear hf; have hf := hf_; clear hf_
  have hk13 : k13 = some q → ∀ (H : Heap) (locs : List Loc) (ls : Array Slot), gH G M0 H → va_S (gA G) s.heap H locs → gLv ls 5 [(0, .ref (gAd G 0 0)), (1, .int (iI v1)), (2, .int (iI v2)), (3, .int (iI v3)), (4, .int (iI v4))] → W p l e { frames := 8, cells := 6, slots := 36, locals := 132 } s m args below meth c H locs 0 0 (vx_MQ below (gXi G (∃ z, q = Sum.inr z) (gvP q).1 (gvP q).2) (gXC G (fun e9 => q = Sum.inl e9) M0) args s 6 36 (gA G)) (F0 m 13 ls []) := by
    intro  hf H locs ls hH hS hl
    subst ek13
    refine lv_iconst X.1 X.2.1 dX11_input_13 (v := iI 0) rfl ?_
    exact hk14 0 (by decide) hf _ _ _ hH hS (gLv_sub hl [0, 1, 2, 3, 4] rfl)
  clear ek13
  refine g_if_lt X nv1 (tgt := 13) dX11_input_1 (by decide) (fun hc1 => ?_) (fun hc1 => ?_)
  · replace hf := it_t hf hc1
    exact hk13  hf _ _ _ hH hS (gLv_sub hl [0, 1, 2, 3, 4] rfl)
  · replace hf := it_f hf hc1
    refine lv_iload_n X.1 X.2.1 dX11_input_4 rfl (lv_at hl.1 2 rfl) ?_
    refine lv_iconst X.1 X.2.1 dX11_input_5 (v := iI (-1)) rfl ?_
    refine g_icmp_lt X nv2 (nmI_l (by decide)) (tgt := 13) dX11_input_6 (by decide) (fun hc6 => ?_) (fun hc6 => ?_)
    · replace hf := it_t hf hc6
      exact hk13  hf _ _ _ hH hS (gLv_sub hl [0, 1, 2, 3, 4] rfl)
    · replace hf := it_f hf hc6
      refine lv_iconst X.1 X.2.1 dX11_input_9 (v := iI 1) rfl ?_
      refine lv_goto (tgt := 14) X.1 X.2.1 dX11_input_10 (by decide) ?_
      exact hk14 1 (by decide) hf _ _ _ hH hS (gLv_sub hl [0, 1, 2, 3, 4] rfl)
theorem m_X11_target (l : Launch) (hl0 : l.stackTraces = false) (G : gG) (v1 : Int) (nv1 : nmI v1) (v2 : Int) (nv2 : nmI v2) (v3 : Int) (nv3 : nmI v3) (v4 : Int) (nv4 : nmI v4) (v5 : Int) (nv5 : nmI v5) (v6 : Int) (nv6 : nmI v6) (M0 : gM) (q : (Nat ⊕ (Int × gM))) (hf : f_X11_target v1 v2 v3 v4 v5 v6 M0 = some q) : gXMet l yX11_target cX11_target 8 (some .int) 7 110 5 30 G M0 [.ref (gAd G 0 0), .int (iI v1), .int (iI v2), .int (iI v3), .int (iI v4), .int (iI v5), .int (iI v6)] (gXi G (∃ z, q = Sum.inr z) (gvP q).1 (gvP q).2) (fun e9 => q = Sum.inl e9) := by
  refine gOfX (by decide) (by show _ ≤ 8; exact Nat.le_of_ble_eq_true rfl) rfl ?_
  intro p e s m below meth c X Z hnt hH ls hl
  replace hl : gLv ls 8 [(0, .ref (gAd G 0 0)), (1, .int (iI v1)), (2, .int (iI v2)), (3, .int (iI v3)), (4, .int (iI v4)), (5, .int (iI v5)), (6, .int (iI v6))] := hl
  have hS : va_S (gA G) s.heap s.heap [] := va_S.rf
  generalize hargs : ([.ref (gAd G 0 0), .int (iI v1), .int (iI v2), .int (iI v3), .int (iI v4), .int (iI v5), .int (iI v6)] : List Value).toArray = args at X ⊢
  clear hargs
  unfold f_X11_target at hf
  refine lv_iload_n X.1 X.2.1 dX11_target_0 rfl (lv_at hl.1 1 rfl) ?_
  refine lv_iconst X.1 X.2.1 dX11_target_1 (v := iI 3) rfl ?_
  refine gGoZ (gRunS X hH (As := [.int (iI v1), .int (iI 3)]) (m_X11_isBelow l G v1 nv1 3 (nmI_l (by decide)) M0 _ rfl) calX11_isBelow k_529 k_528 ⟨by decide, by decide⟩ rfl hl rfl (Nat.le_of_ble_eq_true rfl) ⟨Nat.le_of_ble_eq_true rfl, Nat.le_of_ble_eq_true rfl⟩ dX11_target_2) hS (fun H locs br2 hH hS => ?_)
  obtain ⟨k30, ek30, hf_⟩ := oj_e hf; clear hf; have hf := hf_; clear hf_
  have hk30 : ∀ (xs0_30 : Int) (bxs0_30 : xs0_30 = 0 ∨ xs0_30 = 1), k30 xs0_30 = some q → ∀ (H : Heap) (locs : List Loc) (ls : Array Slot), gH G M0 H → va_S (gA G) s.heap H locs → gLv ls 8 [(0, .ref (gAd G 0 0)), (1, .int (iI v1)), (2, .int (iI v2)), (3, .int (iI v3)), (4, .int (iI v4)), (5, .int (iI v5)), (6, .int (iI v6))] → W p l e { frames := 7, cells := 5, slots := 30, locals := 110 } s m args below meth c H locs 0 0 (vx_MQ below (gXi G (∃ z, q = Sum.inr z) (gvP q).1 (gvP q).2) (gXC G (fun e9 => q = Sum.inl e9) M0) args s 5 30 (gA G)) (F0 m 30 ls [.int (iI xs0_30)]) := by
    intro xs0_30 bxs0_30 hf H locs ls hH hS hl
    subst ek30
    obtain ⟨r30, hq30, hf_⟩ := ob_e hf; clear hf; have hf := hf_; clear hf_
    rcases r30 with e8 | v30_
    · have hq := Option.some.inj hf; subst hq
      refine gGoXV (gRunSX X Z hH hS (As := [.int (iI xs0_30)]) (m_X11_checkArgument l hl0 G xs0_30 bxs0_30 M0 _ hq30) calX11_checkArgument k_532 k_531 ⟨by decide, by decide⟩ rfl hl rfl (Nat.le_of_ble_eq_true rfl) ⟨Nat.le_of_ble_eq_true rfl, Nat.le_of_ble_eq_true rfl⟩ dX11_target_30) hS (fun E ce q9 H locs hE hH hS h1 h2 h3 => ?_) (fun H locs hok hH hS => ?_)
      · exact gOutX X hnt (by obtain ⟨e7, h7, h8⟩ := hE; exact ⟨e7, congrArg _ (Sum.inl.inj h7), h8⟩) hH hS h1 h2 h3 ⟨Nat.le_of_ble_eq_true rfl, Nat.le_of_ble_eq_true rfl⟩
      · obtain ⟨z, hz⟩ := hok; cases hz
    · replace hf := ox_i hf
      refine gGoXV (gRunSX X Z hH hS (As := [.int (iI xs0_30)]) (m_X11_checkArgument l hl0 G xs0_30 bxs0_30 M0 _ hq30) calX11_checkArgument k_532 k_531 ⟨by decide, by decide⟩ rfl hl rfl (Nat.le_of_ble_eq_true rfl) ⟨Nat.le_of_ble_eq_true rfl, Nat.le_of_ble_eq_true rfl⟩ dX11_target_30) hS (fun E ce q9 H locs hE hH hS h1 h2 h3 => ?_) (fun H locs _ hH hS => ?_)
      · obtain ⟨e7, h7, h8⟩ := hE; cases h7
      · refine lv_iload X.1 X.2.1 dX11_target_33 (lv_at hl.1 4 rfl) ?_
        refine lv_iconst X.1 X.2.1 dX11_target_35 (v := iI 1) rfl ?_
        obtain ⟨k59, ek59, hf_⟩ := oj_e hf; clear hf; have hf := hf_; clear hf_
        have hk59 : ∀ (xs0_59 : Int) (bxs0_59 : xs0_59 = 0 ∨ xs0_59 = 1), k59 xs0_59 = some q → ∀ (H : Heap) (locs : List Loc) (ls : Array Slot), gH G M0 H → va_S (gA G) s.heap H locs → gLv ls 8 [(0, .ref (gAd G 0 0)), (1, .int (iI v1)), (2, .int (iI v2)), (3, .int (iI v3)), (4, .int (iI v4)), (5, .int (iI v5)), (6, .int (iI v6))] → W p l e { frames := 7, cells := 5, slots := 30, locals := 110 } s m args below meth c H locs 1 6 (vx_MQ below (gXi G (∃ z, q = Sum.inr z) (gvP q).1 (gvP q).2) (gXC G (fun e9 => q = Sum.inl e9) M0) args s 5 30 (gA G)) (F0 m 59 ls [.int (iI xs0_59)]) := by
          intro xs0_59 bxs0_59 hf H locs ls hH hS hl
          subst ek59
          obtain ⟨r59, hq59, hf_⟩ := ob_e hf; clear hf; have hf := hf_; clear hf_
          rcases r59 with e8 | v59_
          · have hq := Option.some.inj hf; subst hq
            refine gGoXV (gRunSX X Z hH hS (As := [.int (iI xs0_59)]) (m_X11_checkArgument l hl0 G xs0_59 bxs0_59 M0 _ hq59) calX11_checkArgument k_532 k_531 ⟨by decide, by decide⟩ rfl hl rfl (Nat.le_of_ble_eq_true rfl) ⟨Nat.le_of_ble_eq_true rfl, Nat.le_of_ble_eq_true rfl⟩ dX11_target_59) hS (fun E ce q9 H locs hE hH hS h1 h2 h3 => ?_) (fun H locs hok hH hS => ?_)
            · exact gOutX X hnt (by obtain ⟨e7, h7, h8⟩ := hE; exact ⟨e7, congrArg _ (Sum.inl.inj h7), h8⟩) hH hS h1 h2 h3 ⟨Nat.le_of_ble_eq_true rfl, Nat.le_of_ble_eq_true rfl⟩
            · obtain ⟨z, hz⟩ := hok; cases hz
          · replace hf := ox_i hf
            refine gGoXV (gRunSX X Z hH hS (As := [.int (iI xs0_59)]) (m_X11_checkArgument l hl0 G xs0_59 bxs0_59 M0 _ hq59) calX11_checkArgument k_532 k_531 ⟨by decide, by decide⟩ rfl hl rfl (Nat.le_of_ble_eq_true rfl) ⟨Nat.le_of_ble_eq_true rfl, Nat.le_of_ble_eq_true rfl⟩ dX11_target_59) hS (fun E ce q9 H locs hE hH hS h1 h2 h3 => ?_) (fun H locs _ hH hS => ?_)
            · obtain ⟨e7, h7, h8⟩ := hE; cases h7
            · refine lv_iload X.1 X.2.1 dX11_target_62 (lv_at hl.1 5 rfl) ?_
              refine lv_iconst X.1 X.2.1 dX11_target_64 (v := iI (-1)) rfl ?_
              obtain ⟨k83, ek83, hf_⟩ := oj_e hf; clear hf; have hf := hf_; clear hf_
              have hk83 : ∀ (xs0_83 : Int) (bxs0_83 : xs0_83 = 0 ∨ xs0_83 = 1), k83 xs0_83 = some q → ∀ (H : Heap) (locs : List Loc) (ls : Array Slot), gH G M0 H → va_S (gA G) s.heap H locs → gLv ls 8 [(0, .ref (gAd G 0 0)), (1, .int (iI v1)), (2, .int (iI v2)), (3, .int (iI v3)), (4, .int (iI v4)), (5, .int (iI v5)), (6, .int (iI v6))] → W p l e { frames := 7, cells := 5, slots := 30, locals := 110 } s m args below meth c H locs 2 12 (vx_MQ below (gXi G (∃ z, q = Sum.inr z) (gvP q).1 (gvP q).2) (gXC G (fun e9 => q = Sum.inl e9) M0) args s 5 30 (gA G)) (F0 m 83 ls [.int (iI xs0_83)]) := by
                intro xs0_83 bxs0_83 hf H locs ls hH hS hl
                subst ek83
                obtain ⟨r83, hq83, hf_⟩ := ob_e hf; clear hf; have hf := hf_; clear hf_
                rcases r83 with e8 | v83_
                · have hq := Option.some.inj hf; subst hq
                  refine gGoXV (gRunSX X Z hH hS (As := [.int (iI xs0_83)]) (m_X11_checkArgument l hl0 G xs0_83 bxs0_83 M0 _ hq83) calX11_checkArgument k_532 k_531 ⟨by decide, by decide⟩ rfl hl rfl (Nat.le_of_ble_eq_true rfl) ⟨Nat.le_of_ble_eq_true rfl, Nat.le_of_ble_eq_true rfl⟩ dX11_target_83) hS (fun E ce q9 H locs hE hH hS h1 h2 h3 => ?_) (fun H locs hok hH hS => ?_)
                  · exact gOutX X hnt (by obtain ⟨e7, h7, h8⟩ := hE; exact ⟨e7, congrArg _ (Sum.inl.inj h7), h8⟩) hH hS h1 h2 h3 ⟨Nat.le_of_ble_eq_true rfl, Nat.le_of_ble_eq_true rfl⟩
                  · obtain ⟨z, hz⟩ := hok; cases hz
                · replace hf := ox_i hf
                  refine gGoXV (gRunSX X Z hH hS (As := [.int (iI xs0_83)]) (m_X11_checkArgument l hl0 G xs0_83 bxs0_83 M0 _ hq83) calX11_checkArgument k_532 k_531 ⟨by decide, by decide⟩ rfl hl rfl (Nat.le_of_ble_eq_true rfl) ⟨Nat.le_of_ble_eq_true rfl, Nat.le_of_ble_eq_true rfl⟩ dX11_target_83) hS (fun E ce q9 H locs hE hH hS h1 h2 h3 => ?_) (fun H locs _ hH hS => ?_)
                  · obtain ⟨e7, h7, h8⟩ := hE; cases h7
                  · refine lv_iload X.1 X.2.1 dX11_target_86 (lv_at hl.1 6 rfl) ?_
                    refine lv_iload_n X.1 X.2.1 dX11_target_88 rfl (lv_at hl.1 1 rfl) ?_
                    refine lv_iconst X.1 X.2.1 dX11_target_89 (v := iI 2) rfl ?_
                    obtain ⟨k98, ek98, hf_⟩ := oj_e hf; clear hf; have hf := hf_; clear hf_
                    have hk98 : ∀ (xs1_98 : Int) (nxs1_98 : nmI xs1_98), k98 xs1_98 = some q → ∀ (H : Heap) (locs : List Loc) (ls : Array Slot), gH G M0 H → va_S (gA G) s.heap H locs → gLv ls 8 [(0, .ref (gAd G 0 0)), (1, .int (iI v1)), (2, .int (iI v2)), (3, .int (iI v3)), (4, .int (iI v4)), (5, .int (iI v5)), (6, .int (iI v6))] → W p l e { frames := 7, cells := 5, slots := 30, locals := 110 } s m args below meth c H locs 3 18 (vx_MQ below (gXi G (∃ z, q = Sum.inr z) (gvP q).1 (gvP q).2) (gXC G (fun e9 => q = Sum.inl e9) M0) args s 5 30 (gA G)) (F0 m 98 ls [.int (iI xs1_98), .int (iI v6)]) := by
                      intro xs1_98 nxs1_98 hf H locs ls hH hS hl
                      subst ek98
                      refine gGoZ (gRunS X hH (As := [.int (iI v6), .int (iI xs1_98)]) (m_X11_isBelow l G v6 nv6 xs1_98 nxs1_98 M0 _ rfl) calX11_isBelow k_529 k_528 ⟨by decide, by decide⟩ rfl hl rfl (Nat.le_of_ble_eq_true rfl) ⟨Nat.le_of_ble_eq_true rfl, Nat.le_of_ble_eq_true rfl⟩ dX11_target_98) hS (fun H locs br98 hH hS => ?_)
                      obtain ⟨r101, hq101, hf_⟩ := ob_e hf; clear hf; have hf := hf_; clear hf_
                      rcases r101 with e8 | v101_
                      · have hq := Option.some.inj hf; subst hq
                        refine gGoXV (gRunSX X Z hH hS (As := [.int (iI ((f_X11_isBelow v6 xs1_98 M0)))]) (m_X11_checkArgument l hl0 G ((f_X11_isBelow v6 xs1_98 M0)) br98 M0 _ hq101) calX11_checkArgument k_532 k_531 ⟨by decide, by decide⟩ rfl hl rfl (Nat.le_of_ble_eq_true rfl) ⟨Nat.le_of_ble_eq_true rfl, Nat.le_of_ble_eq_true rfl⟩ dX11_target_101) hS (fun E ce q9 H locs hE hH hS h1 h2 h3 => ?_) (fun H locs hok hH hS => ?_)
                        · exact gOutX X hnt (by obtain ⟨e7, h7, h8⟩ := hE; exact ⟨e7, congrArg _ (Sum.inl.inj h7), h8⟩) hH hS h1 h2 h3 ⟨Nat.le_of_ble_eq_true rfl, Nat.le_of_ble_eq_true rfl⟩
                        · obtain ⟨z, hz⟩ := hok; cases hz
                      · replace hf := ox_i hf
                        refine gGoXV (gRunSX X Z hH hS (As := [.int (iI ((f_X11_isBelow v6 xs1_98 M0)))]) (m_X11_checkArgument l hl0 G ((f_X11_isBelow v6 xs1_98 M0)) br98 M0 _ hq101) calX11_checkArgument k_532 k_531 ⟨by decide, by decide⟩ rfl hl rfl (Nat.le_of_ble_eq_true rfl) ⟨Nat.le_of_ble_eq_true rfl, Nat.le_of_ble_eq_true rfl⟩ dX11_target_101) hS (fun E ce q9 H locs hE hH hS h1 h2 h3 => ?_) (fun H locs _ hH hS => ?_)
                        · obtain ⟨e7, h7, h8⟩ := hE; cases h7
                        · refine lv_aload_n X.1 X.2.1 dX11_target_104 rfl (lv_at hl.1 0 rfl) ?_
                          refine g_get X cX11 hH (r := 0) (i := 0) (by decide) rfl 1 (by decide) k_479 rfl (v := .ref (gAd G 2 0)) rfl dX11_target_105 ?_
                          refine g_get X cX5 hH (r := 2) (i := 0) (by decide) rfl 4 (by decide) k_284 rfl (v := .ref (gAd G 8 15)) rfl dX11_target_108 ?_
                          have nd111 : nmI (M0 8 15 5) := hH.1.1 _ _ _
                          refine g_get X cX6 hH (r := 8) (i := 15) (by decide) rfl 5 (by decide) k_155 rfl (v := .int (iI (M0 8 15 5))) rfl dX11_target_111 ?_
                          obtain ⟨k144, ek144, hf_⟩ := oj_e hf; clear hf; have hf := hf_; clear hf_
                          have hk144 : ∀ (xs0_144 : Int) (bxs0_144 : xs0_144 = 0 ∨ xs0_144 = 1), k144 xs0_144 = some q → ∀ (H : Heap) (locs : List Loc) (ls : Array Slot), gH G M0 H → va_S (gA G) s.heap H locs → gLv ls 8 [(0, .ref (gAd G 0 0)), (1, .int (iI v1)), (2, .int (iI v2)), (3, .int (iI v3)), (4, .int (iI v4)), (5, .int (iI v5)), (6, .int (iI v6))] → W p l e { frames := 7, cells := 5, slots := 30, locals := 110 } s m args below meth c H locs 4 24 (vx_MQ below (gXi G (∃ z, q = Sum.inr z) (gvP q).1 (gvP q).2) (gXC G (fun e9 => q = Sum.inl e9) M0) args s 5 30 (gA G)) (F0 m 144 ls [.int (iI xs0_144)]) := by
                            intro xs0_144 bxs0_144 hf H locs ls hH hS hl
                            subst ek144
                            obtain ⟨r144, hq144, hf_⟩ := ob_e hf; clear hf; have hf := hf_; clear hf_
                            rcases r144 with e8 | v144_
                            · have hq := Option.some.inj hf; subst hq
                              refine gGoXV (gRunSX X Z hH hS (As := [.int (iI xs0_144)]) (m_X11_checkState l hl0 G xs0_144 bxs0_144 M0 _ hq144) calX11_checkState k_634 k_633 ⟨by decide, by decide⟩ rfl hl rfl (Nat.le_of_ble_eq_true rfl) ⟨Nat.le_of_ble_eq_true rfl, Nat.le_of_ble_eq_true rfl⟩ dX11_target_144) hS (fun E ce q9 H locs hE hH hS h1 h2 h3 => ?_) (fun H locs hok hH hS => ?_)
                              · exact gOutX X hnt (by obtain ⟨e7, h7, h8⟩ := hE; exact ⟨e7, congrArg _ (Sum.inl.inj h7), h8⟩) hH hS h1 h2 h3 ⟨Nat.le_of_ble_eq_true rfl, Nat.le_of_ble_eq_true rfl⟩
                              · obtain ⟨z, hz⟩ := hok; cases hz
                            · replace hf := ox_i hf
                              refine gGoXV (gRunSX X Z hH hS (As := [.int (iI xs0_144)]) (m_X11_checkState l hl0 G xs0_144 bxs0_144 M0 _ hq144) calX11_checkState k_634 k_633 ⟨by decide, by decide⟩ rfl hl rfl (Nat.le_of_ble_eq_true rfl) ⟨Nat.le_of_ble_eq_true rfl, Nat.le_of_ble_eq_true rfl⟩ dX11_target_144) hS (fun E ce q9 H locs hE hH hS h1 h2 h3 => ?_) (fun H locs _ hH hS => ?_)
                              · obtain ⟨e7, h7, h8⟩ := hE; cases h7
                              · refine lv_aload_n X.1 X.2.1 dX11_target_147 rfl (lv_at hl.1 0 rfl) ?_
                                refine g_get X cX11 hH (r := 0) (i := 0) (by decide) rfl 1 (by decide) k_479 rfl (v := .ref (gAd G 2 0)) rfl dX11_target_148 ?_
                                refine gGoR (gRunV X hH (As := []) (m_X5_tellNext l G  M0 _ rfl) calX5_tellNext k_709 k_710 k_708 (by decide) cX5 rfl ⟨by decide, by decide⟩ rfl hl rfl (Nat.le_of_ble_eq_true rfl) ⟨Nat.le_of_ble_eq_true rfl, Nat.le_of_ble_eq_true rfl⟩ dX11_target_151) hS (fun H locs hr151 hH hS => ?_)
                                replace hr151 : (f_X5_tellNext M0).1 < 15 := hr151
                                refine g_astore X (lv' := [(7, .ref (gAd G 7 ((f_X5_tellNext M0).1))), (0, .ref (gAd G 0 0)), (1, .int (iI v1)), (2, .int (iI v2)), (3, .int (iI v3)), (4, .int (iI v4)), (5, .int (iI v5)), (6, .int (iI v6))]) dX11_target_154 hl (by decide) rfl (fun ls hl => ?_)
                                refine lv_aload X.1 X.2.1 dX11_target_156 (lv_at hl.1 0 rfl) ?_
                                refine lv_iload_n X.1 X.2.1 dX11_target_158 rfl (lv_at hl.1 2 rfl) ?_
                                refine lv_iload_n X.1 X.2.1 dX11_target_159 rfl (lv_at hl.1 3 rfl) ?_
                                refine lv_iload_n X.1 X.2.1 dX11_target_160 rfl (lv_at hl.1 4 rfl) ?_
                                refine lv_iload X.1 X.2.1 dX11_target_161 (lv_at hl.1 5 rfl) ?_
                                refine lv_iload X.1 X.2.1 dX11_target_163 (lv_at hl.1 6 rfl) ?_
                                refine lv_iload X.1 X.2.1 dX11_target_165 (lv_at hl.1 7 rfl) ?_
                                refine gGoV (gRunV X hH (As := [.int (iI v1), .int (iI v2), .int (iI v3), .int (iI v4), .int (iI v5), .int (iI v6)]) (m_X8_describe l G ((f_X5_tellNext M0).1) hr151 v1 nv1 v2 nv2 v3 nv3 v4 nv4 v5 nv5 v6 nv6 ((f_X5_tellNext M0).2) _ rfl) calX8_describe k_717 k_718 k_716 hr151 cX8 rfl ⟨by decide, by decide⟩ rfl hl rfl (Nat.le_of_ble_eq_true rfl) ⟨Nat.le_of_ble_eq_true rfl, Nat.le_of_ble_eq_true rfl⟩ dX11_target_167) hS (fun H locs hH hS => ?_)
                                refine lv_aload X.1 X.2.1 dX11_target_170 (lv_at hl.1 0 rfl) ?_
                                refine g_get X cX8 hH (r := 7) (i := (f_X5_tellNext M0).1) hr151 rfl 1 (by decide) k_220 rfl (v := .ref (gAd G 8 ((f_X5_tellNext M0).1))) rfl dX11_target_172 ?_
                                refine lv_aload_n X.1 X.2.1 dX11_target_175 rfl (lv_at hl.1 1 rfl) ?_
                                refine g_get X cX11 hH (r := 0) (i := 0) (by decide) rfl 1 (by decide) k_479 rfl (v := .ref (gAd G 2 0)) rfl dX11_target_176 ?_
                                refine g_get X cX5 hH (r := 2) (i := 0) (by decide) rfl 4 (by decide) k_284 rfl (v := .ref (gAd G 8 15)) rfl dX11_target_179 ?_
                                obtain ⟨r182, hq182, hf_⟩ := ob_e hf; clear hf; have hf := hf_; clear hf_
                                refine gGoV (gRunV X hH (As := [.ref (gAd G 8 15)]) (m_X6_become l G ((f_X5_tellNext M0).1) (by show _ < 16; omega) 15 (by decide) ((f_X8_describe ((f_X5_tellNext M0).1) v1 v2 v3 v4 v5 v6 ((f_X5_tellNext M0).2))) _ hq182) calX6_become k_721 k_722 k_720 (by show _ < 16; omega) cX6 rfl ⟨by decide, by decide⟩ rfl hl rfl (Nat.le_of_ble_eq_true rfl) ⟨Nat.le_of_ble_eq_true rfl, Nat.le_of_ble_eq_true rfl⟩ dX11_target_182) hS (fun H locs hH hS => ?_)
                                refine lv_aload_n X.1 X.2.1 dX11_target_185 rfl (lv_at hl.1 1 rfl) ?_
                                refine g_get X cX11 hH (r := 0) (i := 0) (by decide) rfl 1 (by decide) k_479 rfl (v := .ref (gAd G 2 0)) rfl dX11_target_186 ?_
                                refine g_get X cX5 hH (r := 2) (i := 0) (by decide) rfl 4 (by decide) k_284 rfl (v := .ref (gAd G 8 15)) rfl dX11_target_189 ?_
                                refine lv_iconst X.1 X.2.1 dX11_target_192 (v := iI 0) rfl ?_
                                refine g_putI X cX6 hH hS (r := 8) (i := 15) (by decide) rfl 5 (by decide) k_155 rfl rfl rfl (Nat.le_of_ble_eq_true rfl) (x := 0) (nmI_l (by decide)) rfl rfl rfl dX11_target_193 (fun H locs hH hS => ?_)
                                refine lv_aload X.1 X.2.1 dX11_target_196 (lv_at hl.1 0 rfl) ?_
                                have nd198 : nmI ((gU r182 8 15 5 0) 7 ((f_X5_tellNext M0).1) 0) := hH.1.1 _ _ _
                                refine g_get X cX8 hH (r := 7) (i := (f_X5_tellNext M0).1) hr151 rfl 0 (by decide) k_215 rfl (v := .int (iI ((gU r182 8 15 5 0) 7 ((f_X5_tellNext M0).1) 0))) rfl dX11_target_198 ?_
                                have hq := Option.some.inj hf; subst hq
                                exact gRetXI X hH hS ⟨_, rfl⟩ (res := (gU r182 8 15 5 0) 7 ((f_X5_tellNext M0).1) 0) nd198 ⟨Nat.le_of_ble_eq_true rfl, Nat.le_of_ble_eq_true rfl⟩ dX11_target_201
                          clear ek144
                          obtain ⟨k143, ek143, hf_⟩ := oj_e hf; clear hf; have hf := hf_; clear hf_
                          have hk143 : k143 = some q → ∀ (H : Heap) (locs : List Loc) (ls : Array Slot), gH G M0 H → va_S (gA G) s.heap H locs → gLv ls 8 [(0, .ref (gAd G 0 0)), (1, .int (iI v1)), (2, .int (iI v2)), (3, .int (iI v3)), (4, .int (iI v4)), (5, .int (iI v5)), (6, .int (iI v6))] → W p l e { frames := 7, cells := 5, slots := 30, locals := 110 } s m args below meth c H locs 4 24 (vx_MQ below (gXi G (∃ z, q = Sum.inr z) (gvP q).1 (gvP q).2) (gXC G (fun e9 => q = Sum.inl e9) M0) args s 5 30 (gA G)) (F0 m 143 ls []) := by
                            intro  hf H locs ls hH hS hl
                            subst ek143
                            refine lv_iconst X.1 X.2.1 dX11_target_143 (v := iI 0) rfl ?_
                            exact hk144 0 (by decide) hf _ _ _ hH hS (gLv_sub hl [0, 1, 2, 3, 4, 5, 6] rfl)
                          clear ek143
                          refine g_if_le X nd111 (tgt := 143) dX11_target_114 (by decide) (fun hc114 => ?_) (fun hc114 => ?_)
                          · replace hf := it_f hf hc114
                            exact hk143  hf _ _ _ hH hS (gLv_sub hl [0, 1, 2, 3, 4, 5, 6] rfl)
                          · replace hf := it_t hf hc114
                            refine lv_aload_n X.1 X.2.1 dX11_target_117 rfl (lv_at hl.1 0 rfl) ?_
                            refine g_get X cX11 hH (r := 0) (i := 0) (by decide) rfl 3 (by decide) k_481 rfl (v := .ref (gAd G 4 0)) rfl dX11_target_118 ?_
                            have nd121 : nmI (M0 4 0 8) := hH.1.1 _ _ _
                            have bd121 := hH.1.2.1 4 0 8 rfl
                            refine g_get X cX2 hH (r := 4) (i := 0) (by decide) rfl 8 (by decide) k_428 rfl (v := .int (iI (M0 4 0 8))) rfl dX11_target_121 ?_
                            refine g_if_ne X nd121 (tgt := 143) dX11_target_124 (by decide) (fun hc124 => ?_) (fun hc124 => ?_)
                            · replace hf := it_f hf hc124
                              exact hk143  hf _ _ _ hH hS (gLv_sub hl [0, 1, 2, 3, 4, 5, 6] rfl)
                            · replace hf := it_t hf hc124
                              refine lv_aload_n X.1 X.2.1 dX11_target_127 rfl (lv_at hl.1 0 rfl) ?_
                              refine g_get X cX11 hH (r := 0) (i := 0) (by decide) rfl 1 (by decide) k_479 rfl (v := .ref (gAd G 2 0)) rfl dX11_target_128 ?_
                              have nd131 : nmI (M0 2 0 5) := hH.1.1 _ _ _
                              refine g_get X cX5 hH (r := 2) (i := 0) (by decide) rfl 5 (by decide) k_288 rfl (v := .int (iI (M0 2 0 5))) rfl dX11_target_131 ?_
                              refine lv_bipush X.1 X.2.1 dX11_target_134 (v := iI 14) (by decide) ?_
                              refine g_icmp_ge X nd131 (nmI_l (by decide)) (tgt := 143) dX11_target_136 (by decide) (fun hc136 => ?_) (fun hc136 => ?_)
                              · replace hf := it_f hf hc136
                                exact hk143  hf _ _ _ hH hS (gLv_sub hl [0, 1, 2, 3, 4, 5, 6] rfl)
                              · replace hf := it_t hf hc136
                                refine lv_iconst X.1 X.2.1 dX11_target_139 (v := iI 1) rfl ?_
                                refine lv_goto (tgt := 144) X.1 X.2.1 dX11_target_140 (by decide) ?_
                                exact hk144 1 (by decide) hf _ _ _ hH hS (gLv_sub hl [0, 1, 2, 3, 4, 5, 6] rfl)
                    clear ek98
                    refine g_icmp_ne X nv1 (nmI_l (by decide)) (tgt := 97) dX11_target_90 (by decide) (fun hc90 => ?_) (fun hc90 => ?_)
                    · replace hf := it_f hf hc90
                      refine lv_iconst X.1 X.2.1 dX11_target_97 (v := iI 1) rfl ?_
                      exact hk98 1 (nmI_l (by decide)) hf _ _ _ hH hS (gLv_sub hl [0, 1, 2, 3, 4, 5, 6] rfl)
                    · replace hf := it_t hf hc90
                      refine lv_iconst X.1 X.2.1 dX11_target_93 (v := iI 4) rfl ?_
                      refine lv_goto (tgt := 98) X.1 X.2.1 dX11_target_94 (by decide) ?_
                      exact hk98 4 (nmI_l (by decide)) hf _ _ _ hH hS (gLv_sub hl [0, 1, 2, 3, 4, 5, 6] rfl)
              clear ek83
              obtain ⟨k78, ek78, hf_⟩ := oj_e hf; clear hf; have hf := hf_; clear hf_
              have hk78 : k78 = some q → ∀ (H : Heap) (locs : List Loc) (ls : Array Slot), gH G M0 H → va_S (gA G) s.heap H locs → gLv ls 8 [(0, .ref (gAd G 0 0)), (1, .int (iI v1)), (2, .int (iI v2)), (3, .int (iI v3)), (4, .int (iI v4)), (5, .int (iI v5)), (6, .int (iI v6))] → W p l e { frames := 7, cells := 5, slots := 30, locals := 110 } s m args below meth c H locs 2 12 (vx_MQ below (gXi G (∃ z, q = Sum.inr z) (gvP q).1 (gvP q).2) (gXC G (fun e9 => q = Sum.inl e9) M0) args s 5 30 (gA G)) (F0 m 78 ls []) := by
                intro  hf H locs ls hH hS hl
                subst ek78
                refine lv_iconst X.1 X.2.1 dX11_target_78 (v := iI 1) rfl ?_
                refine lv_goto (tgt := 83) X.1 X.2.1 dX11_target_79 (by decide) ?_
                exact hk83 1 (by decide) hf _ _ _ hH hS (gLv_sub hl [0, 1, 2, 3, 4, 5, 6] rfl)
              clear ek78
              refine g_icmp_eq X nv5 (nmI_l (by decide)) (tgt := 78) dX11_target_65 (by decide) (fun hc65 => ?_) (fun hc65 => ?_)
              · replace hf := it_t hf hc65
                exact hk78  hf _ _ _ hH hS (gLv_sub hl [0, 1, 2, 3, 4, 5, 6] rfl)
              · replace hf := it_f hf hc65
                refine lv_iload X.1 X.2.1 dX11_target_68 (lv_at hl.1 5 rfl) ?_
                refine g_ldc X k_707 (a := 65536) (by decide) dX11_target_70 ?_
                refine gGoZ (gRunS X hH (As := [.int (iI v5), .int (iI 65536)]) (m_X11_isBelow l G v5 nv5 65536 (nmI_l (by decide)) M0 _ rfl) calX11_isBelow k_529 k_528 ⟨by decide, by decide⟩ rfl hl rfl (Nat.le_of_ble_eq_true rfl) ⟨Nat.le_of_ble_eq_true rfl, Nat.le_of_ble_eq_true rfl⟩ dX11_target_72) hS (fun H locs br72 hH hS => ?_)
                refine g_if_eq X (nmI_b br72) (tgt := 82) dX11_target_75 (by decide) (fun hc75 => ?_) (fun hc75 => ?_)
                · replace hf := it_t hf hc75
                  refine lv_iconst X.1 X.2.1 dX11_target_82 (v := iI 0) rfl ?_
                  exact hk83 0 (by decide) hf _ _ _ hH hS (gLv_sub hl [0, 1, 2, 3, 4, 5, 6] rfl)
                · replace hf := it_f hf hc75
                  exact hk78  hf _ _ _ hH hS (gLv_sub hl [0, 1, 2, 3, 4, 5, 6] rfl)
        clear ek59
        obtain ⟨k58, ek58, hf_⟩ := oj_e hf; clear hf; have hf := hf_; clear hf_
        have hk58 : k58 = some q → ∀ (H : Heap) (locs : List Loc) (ls : Array Slot), gH G M0 H → va_S (gA G) s.heap H locs → gLv ls 8 [(0, .ref (gAd G 0 0)), (1, .int (iI v1)), (2, .int (iI v2)), (3, .int (iI v3)), (4, .int (iI v4)), (5, .int (iI v5)), (6, .int (iI v6))] → W p l e { frames := 7, cells := 5, slots := 30, locals := 110 } s m args below meth c H locs 1 6 (vx_MQ below (gXi G (∃ z, q = Sum.inr z) (gvP q).1 (gvP q).2) (gXC G (fun e9 => q = Sum.inl e9) M0) args s 5 30 (gA G)) (F0 m 58 ls []) := by
          intro  hf H locs ls hH hS hl
          subst ek58
          refine lv_iconst X.1 X.2.1 dX11_target_58 (v := iI 0) rfl ?_
          exact hk59 0 (by decide) hf _ _ _ hH hS (gLv_sub hl [0, 1, 2, 3, 4, 5, 6] rfl)
        clear ek58
        refine g_icmp_lt X nv4 (nmI_l (by decide)) (tgt := 58) dX11_target_36 (by decide) (fun hc36 => ?_) (fun hc36 => ?_)
        · replace hf := it_t hf hc36
          exact hk58  hf _ _ _ hH hS (gLv_sub hl [0, 1, 2, 3, 4, 5, 6] rfl)
        · replace hf := it_f hf hc36
          refine lv_iload X.1 X.2.1 dX11_target_39 (lv_at hl.1 4 rfl) ?_
          refine lv_iload_n X.1 X.2.1 dX11_target_41 rfl (lv_at hl.1 1 rfl) ?_
          refine lv_iconst X.1 X.2.1 dX11_target_42 (v := iI 2) rfl ?_
          obtain ⟨k51, ek51, hf_⟩ := oj_e hf; clear hf; have hf := hf_; clear hf_
          have hk51 : ∀ (xs1_51 : Int) (nxs1_51 : nmI xs1_51), k51 xs1_51 = some q → ∀ (H : Heap) (locs : List Loc) (ls : Array Slot), gH G M0 H → va_S (gA G) s.heap H locs → gLv ls 8 [(0, .ref (gAd G 0 0)), (1, .int (iI v1)), (2, .int (iI v2)), (3, .int (iI v3)), (4, .int (iI v4)), (5, .int (iI v5)), (6, .int (iI v6))] → W p l e { frames := 7, cells := 5, slots := 30, locals := 110 } s m args below meth c H locs 1 6 (vx_MQ below (gXi G (∃ z, q = Sum.inr z) (gvP q).1 (gvP q).2) (gXC G (fun e9 => q = Sum.inl e9) M0) args s 5 30 (gA G)) (F0 m 51 ls [.int (iI xs1_51), .int (iI v4)]) := by
            intro xs1_51 nxs1_51 hf H locs ls hH hS hl
            subst ek51
            refine g_icmp_gt X nv4 nxs1_51 (tgt := 58) dX11_target_51 (by decide) (fun hc51 => ?_) (fun hc51 => ?_)
            · replace hf := it_t hf hc51
              exact hk58  hf _ _ _ hH hS (gLv_sub hl [0, 1, 2, 3, 4, 5, 6] rfl)
            · replace hf := it_f hf hc51
              refine lv_iconst X.1 X.2.1 dX11_target_54 (v := iI 1) rfl ?_
              refine lv_goto (tgt := 59) X.1 X.2.1 dX11_target_55 (by decide) ?_
              exact hk59 1 (by decide) hf _ _ _ hH hS (gLv_sub hl [0, 1, 2, 3, 4, 5, 6] rfl)
          clear ek51
          refine g_icmp_ne X nv1 (nmI_l (by decide)) (tgt := 50) dX11_target_43 (by decide) (fun hc43 => ?_) (fun hc43 => ?_)
          · replace hf := it_f hf hc43
            refine lv_iconst X.1 X.2.1 dX11_target_50 (v := iI 1) rfl ?_
            exact hk51 1 (nmI_l (by decide)) hf _ _ _ hH hS (gLv_sub hl [0, 1, 2, 3, 4, 5, 6] rfl)
          · replace hf := it_t hf hc43
            refine lv_iconst X.1 X.2.1 dX11_target_46 (v := iI 4) rfl ?_
            refine lv_goto (tgt := 51) X.1 X.2.1 dX11_target_47 (by decide) ?_
            exact hk51 4 (nmI_l (by decide)) hf _ _ _ hH hS (gLv_sub hl [0, 1, 2, 3, 4, 5, 6] rfl)
  clear ek30
  obtain ⟨k29, ek29, hf_⟩ := oj_e hf; clear hf; have hf := hf_; clear hf_
  have hk29 : k29 = some q → ∀ (H : Heap) (locs : List Loc) (ls : Array Slot), gH G M0 H → va_S (gA G) s.heap H locs → gLv ls 8 [(0, .ref (gAd G 0 0)), (1, .int (iI v1)), (2, .int (iI v2)), (3, .int (iI v3)), (4, .int (iI v4)), (5, .int (iI v5)), (6, .int (iI v6))] → W p l e { frames := 7, cells := 5, slots := 30, locals := 110 } s m args below meth c H locs 0 0 (vx_MQ below (gXi G (∃ z, q = Sum.inr z) (gvP q).1 (gvP q).2) (gXC G (fun e9 => q = Sum.inl e9) M0) args s 5 30 (gA G)) (F0 m 29 ls []) := by
    intro  hf H locs ls hH hS hl
    subst ek29
    refine lv_iconst X.1 X.2.1 dX11_target_29 (v := iI 0) rfl ?_
    exact hk30 0 (by decide) hf _ _ _ hH hS (gLv_sub hl [0, 1, 2, 3, 4, 5, 6] rfl)
  clear ek29
  refine g_if_eq X (nmI_b br2) (tgt := 29) dX11_target_5 (by decide) (fun hc5 => ?_) (fun hc5 => ?_)
  · replace hf := it_t hf hc5
    exact hk29  hf _ _ _ hH hS (gLv_sub hl [0, 1, 2, 3, 4, 5, 6] rfl)
  · replace hf := it_f hf hc5
    refine lv_iload_n X.1 X.2.1 dX11_target_8 rfl (lv_at hl.1 2 rfl) ?_
    refine lv_iconst X.1 X.2.1 dX11_target_9 (v := iI 4) rfl ?_
    refine gGoZ (gRunS X hH (As := [.int (iI v2), .int (iI 4)]) (m_X11_isBelow l G v2 nv2 4 (nmI_l (by decide)) M0 _ rfl) calX11_isBelow k_529 k_528 ⟨by decide, by decide⟩ rfl hl rfl (Nat.le_of_ble_eq_true rfl) ⟨Nat.le_of_ble_eq_true rfl, Nat.le_of_ble_eq_true rfl⟩ dX11_target_10) hS (fun H locs br10 hH hS => ?_)
    refine g_if_eq X (nmI_b br10) (tgt := 29) dX11_target_13 (by decide) (fun hc13 => ?_) (fun hc13 => ?_)
    · replace hf := it_t hf hc13
      exact hk29  hf _ _ _ hH hS (gLv_sub hl [0, 1, 2, 3, 4, 5, 6] rfl)
    · replace hf := it_f hf hc13
      refine lv_iload_n X.1 X.2.1 dX11_target_16 rfl (lv_at hl.1 3 rfl) ?_
      refine lv_bipush X.1 X.2.1 dX11_target_17 (v := iI 10) (by decide) ?_
      refine gGoZ (gRunS X hH (As := [.int (iI v3), .int (iI 10)]) (m_X11_isBelow l G v3 nv3 10 (nmI_l (by decide)) M0 _ rfl) calX11_isBelow k_529 k_528 ⟨by decide, by decide⟩ rfl hl rfl (Nat.le_of_ble_eq_true rfl) ⟨Nat.le_of_ble_eq_true rfl, Nat.le_of_ble_eq_true rfl⟩ dX11_target_19) hS (fun H locs br19 hH hS => ?_)
      refine g_if_eq X (nmI_b br19) (tgt := 29) dX11_target_22 (by decide) (fun hc22 => ?_) (fun hc22 => ?_)
      · replace hf := it_t hf hc22
        exact hk29  hf _ _ _ hH hS (gLv_sub hl [0, 1, 2, 3, 4, 5, 6] rfl)
      · replace hf := it_f hf hc22
        refine lv_iconst X.1 X.2.1 dX11_target_25 (v := iI 1) rfl ?_
        refine lv_goto (tgt := 30) X.1 X.2.1 dX11_target_26 (by decide) ?_
        exact hk30 1 (by decide) hf _ _ _ hH hS (gLv_sub hl [0, 1, 2, 3, 4, 5, 6] rfl)
