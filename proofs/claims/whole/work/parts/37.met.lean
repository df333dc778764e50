theorem w_X12_hasInput_L5 {G : gG} {p : Program} {l : Launch} {e : Env} {s : State} {m : MethodId} {args : Array Value} {below : List Frame} {meth : Method} {c : Code} (X : gX G p s m args meth c RX12 cX12_hasInput 5 (some .boolean) (gWs yX12_hasInput cX12_hasInput 5 (some .boolean))) (k44 : Int → Option (Int)) (z1 : Int) (nz1 : nmI z1) (z2 : Int) (nz2 : nmI z2) (M : gM) (q : (Int)) (hk44 : ∀ (x3 : Int) (bx3 : x3 = 0 ∨ x3 = 1), k44 x3 = some q → ∀ (H : Heap) (locs : List Loc) (ls : Array Slot), gH G M H → va_S (gA G) s.heap H locs → gLv ls 5 [(3, .int (iI x3))] → W p l e { frames := 1, cells := 0, slots := 0, locals := 23 } s m args below meth c H locs 0 0 (MQ below (gQz G q M) args s 0 0 (gA G)) (F0 m 44 ls [])) : ∀ (n : Nat) (x3 : Int) (bx3 : x3 = 0 ∨ x3 = 1) (x4 : Int) (nx4 : nmI x4), f_X12_hasInput_L5 k44 z1 z2 M n x3 x4 = some q → ∀ (H : Heap) (locs : List Loc) (ls : Array Slot), gH G M H → va_S (gA G) s.heap H locs → gLv ls 5 [(0, .ref (gAd G 29 0)), (1, .int (iI z1)), (2, .int (iI z2)), (3, .int (iI x3)), (4, .int (iI x4))] → W p l e { frames := 1, cells := 0, slots := 0, locals := 23 } s m args below meth c H locs 0 0 (MQ below (gQz G q M) args s 0 0 (gA G)) (F0 m 5 ls []) := by
  intro n
  induction n with
  | zero =>
    intro x3 bx3 x4 nx4 hf
    cases hf
  | succ n ih =>
    intro x3 bx3 x4 nx4 hf H locs ls hH hS hl
    rw [f_X12_hasInput_L5] at hf
    refine lv_iload X.1 X.2.1 dX12_hasInput_5 (lv_at hl.1 4 rfl) ?_
    refine lv_aload_n X.1 X.2.1 dX12_hasInput_7 rfl (lv_at hl.1 0 rfl) ?_
    refine g_get X cX12 hH (r := 29) (i := 0) (by decide) rfl 14 (by decide) k_1224 rfl (v := .ref (gAd G 41 0)) rfl dX12_hasInput_8 ?_
    refine lv_iload_n X.1 X.2.1 dX12_hasInput_11 rfl (lv_at hl.1 1 rfl) ?_
    obtain ⟨hg, hf_⟩ := og_e hf; clear hf; have hf := hf_; clear hf_
    have nd12 : nmI (M 41 0 z1.toNat) := hH.1.1 _ _ _
    refine g_iald X hH (r := 41) (i := 0) (by decide) rfl nz1 hg (v := M 41 0 z1.toNat) rfl dX12_hasInput_12 ?_
    refine g_icmp_ge X nx4 nd12 (tgt := 44) dX12_hasInput_13 (by decide) (fun hc13 => ?_) (fun hc13 => ?_)
    · replace hf := it_f hf hc13
      exact hk44 x3 bx3 hf _ _ _ hH hS (gLv_sub hl [3] rfl)
    · replace hf := it_t hf hc13
      refine lv_iload_n X.1 X.2.1 dX12_hasInput_16 rfl (lv_at hl.1 3 rfl) ?_
      refine lv_aload_n X.1 X.2.1 dX12_hasInput_17 rfl (lv_at hl.1 0 rfl) ?_
      refine lv_iload_n X.1 X.2.1 dX12_hasInput_18 rfl (lv_at hl.1 1 rfl) ?_
      refine lv_iload X.1 X.2.1 dX12_hasInput_19 (lv_at hl.1 4 rfl) ?_
      obtain ⟨r21, hq21, hf_⟩ := ob_e hf; clear hf; have hf := hf_; clear hf_
      refine gGoI (gRunV X hH (As := [.int (iI z1), .int (iI x4)]) (m_X12_inputOf l G z1 nz1 x4 nx4 M _ hq21) calX12_inputOf k_1483 k_39 k_1481 (by decide) cX12 rfl ⟨by decide, by decide⟩ rfl hl rfl (Nat.le_of_ble_eq_true rfl) ⟨Nat.le_of_ble_eq_true rfl, Nat.le_of_ble_eq_true rfl⟩ dX12_hasInput_21) hS (fun H locs nr21 hH hS => ?_)
      refine lv_bipush X.1 X.2.1 dX12_hasInput_24 (v := iI 16) (by decide) ?_
      refine lv_iload_n X.1 X.2.1 dX12_hasInput_26 rfl (lv_at hl.1 2 rfl) ?_
      refine g_iadd X dX12_hasInput_27 ?_
      obtain ⟨k36, ek36, hf_⟩ := oj_e hf; clear hf; have hf := hf_; clear hf_
      have hk36 : ∀ (xs1_36 : Int) (bxs1_36 : xs1_36 = 0 ∨ xs1_36 = 1), k36 xs1_36 = some q → ∀ (H : Heap) (locs : List Loc) (ls : Array Slot), gH G M H → va_S (gA G) s.heap H locs → gLv ls 5 [(0, .ref (gAd G 29 0)), (1, .int (iI z1)), (2, .int (iI z2)), (4, .int (iI x4))] → W p l e { frames := 1, cells := 0, slots := 0, locals := 23 } s m args below meth c H locs 0 0 (MQ below (gQz G q M) args s 0 0 (gA G)) (F0 m 36 ls [.int (iI xs1_36), .int (iI x3)]) := by
        intro xs1_36 bxs1_36 hf H locs ls hH hS hl
        subst ek36
        refine g_ior X dX12_hasInput_36 ?_
        refine g_istore_n X (lv' := [(3, .int (iI (gOr x3 xs1_36))), (0, .ref (gAd G 29 0)), (1, .int (iI z1)), (2, .int (iI z2)), (4, .int (iI x4))]) dX12_hasInput_37 rfl hl (by decide) rfl (fun ls hl => ?_)
        refine g_iinc X (a := x4) (lv' := [(4, .int (iI (wI (x4 + 1)))), (3, .int (iI (gOr x3 xs1_36))), (0, .ref (gAd G 29 0)), (1, .int (iI z1)), (2, .int (iI z2))]) dX12_hasInput_38 hl (k := 4) rfl (by decide) rfl (fun ls hl => ?_)
        refine lv_goto (tgt := 5) X.1 X.2.1 dX12_hasInput_41 (by decide) ?_
        exact ih (gOr x3 xs1_36) (b01_or bx3 bxs1_36) (wI (x4 + 1)) (nmI_w _) hf _ _ _ hH hS (gLv_sub hl [2, 3, 4, 1, 0] rfl)
      clear ek36
      refine g_icmp_ne X nr21 (nmI_w _) (tgt := 35) dX12_hasInput_28 (by decide) (fun hc28 => ?_) (fun hc28 => ?_)
      · replace hf := it_f hf hc28
        refine lv_iconst X.1 X.2.1 dX12_hasInput_35 (v := iI 0) rfl ?_
        exact hk36 0 (by decide) hf _ _ _ hH hS (gLv_sub hl [0, 1, 2, 4] rfl)
      · replace hf := it_t hf hc28
        refine lv_iconst X.1 X.2.1 dX12_hasInput_31 (v := iI 1) rfl ?_
        refine lv_goto (tgt := 36) X.1 X.2.1 dX12_hasInput_32 (by decide) ?_
        exact hk36 1 (by decide) hf _ _ _ hH hS (gLv_sub hl [0, 1, 2, 4] rfl)
theorem m_X12_hasInput (l : Launch) (G : gG) (v1 : Int) (nv1 : nmI v1) (v2 : Int) (nv2 : nmI v2) (M : gM) (q : (Int)) (hf : f_X12_hasInput v1 v2 M = some q) : gMet l yX12_hasInput cX12_hasInput 5 (some .boolean) 1 23 G M [.ref (gAd G 29 0), .int (iI v1), .int (iI v2)] (gQz G q M) := by
  refine gOfW (by decide) (by show _ ≤ 5; exact Nat.le_of_ble_eq_true rfl) rfl ?_
  intro p e s m below meth c X hH ls hl
  replace hl : gLv ls 5 [(0, .ref (gAd G 29 0)), (1, .int (iI v1)), (2, .int (iI v2))] := hl
  have hS : va_S (gA G) s.heap s.heap [] := va_S.rf
  generalize hargs : ([.ref (gAd G 29 0), .int (iI v1), .int (iI v2)] : List Value).toArray = args at X ⊢
  clear hargs
  unfold f_X12_hasInput at hf
  refine lv_iconst X.1 X.2.1 dX12_hasInput_0 (v := iI 0) rfl ?_
  refine g_istore_n X (lv' := [(3, .int (iI 0)), (0, .ref (gAd G 29 0)), (1, .int (iI v1)), (2, .int (iI v2))]) dX12_hasInput_1 rfl hl (by decide) rfl (fun ls hl => ?_)
  refine lv_iconst X.1 X.2.1 dX12_hasInput_2 (v := iI 0) rfl ?_
  refine g_istore X (lv' := [(4, .int (iI 0)), (3, .int (iI 0)), (0, .ref (gAd G 29 0)), (1, .int (iI v1)), (2, .int (iI v2))]) dX12_hasInput_3 hl (by decide) rfl (fun ls hl => ?_)
  refine w_X12_hasInput_L5 X _ v1 nv1 v2 nv2 M q ?_ 64 0 (by decide) 0 (nmI_l (by decide)) hf _ _ _ hH hS (gLv_sub hl [2, 3, 4, 1, 0] rfl)
  · intro y3_5_44 by3_5_44 hf H locs ls hH hS hl
    refine lv_iload_n X.1 X.2.1 dX12_hasInput_44 rfl (lv_at hl.1 0 rfl) ?_
    have hq := Option.some.inj hf; subst hq
    exact gRetZ X hH hS (res := y3_5_44) by3_5_44 dX12_hasInput_45
theorem w_X12_wayOf_L30 {G : gG} {p : Program} {l : Launch} {e : Env} {s : State} {m : MethodId} {args : Array Value} {below : List Frame} {meth : Method} {c : Code} (X : gX G p s m args meth c RX12 cX12_wayOf 6 (some .int) (gWs yX12_wayOf cX12_wayOf 6 (some .int))) (k90 : Int → Option (Int × gM)) (z1 : Int) (nz1 : nmI z1) (z3 : Int) (nz3 : nmI z3) (M : gM) (q : (Int × gM)) (hk90 : ∀ (x4 : Int) (nx4 : nmI x4), k90 x4 = some q → ∀ (H : Heap) (locs : List Loc) (ls : Array Slot), gH G M H → va_S (gA G) s.heap H locs → gLv ls 6 [(0, .ref (gAd G 29 0)), (1, .int (iI z1)), (3, .int (iI z3)), (4, .int (iI x4))] → W p l e { frames := 2, cells := 0, slots := 0, locals := 47 } s m args below meth c H locs 0 0 (MQ below (gQi G q.1 q.2) args s 0 0 (gA G)) (F0 m 90 ls [])) : ∀ (n : Nat) (x4 : Int) (nx4 : nmI x4) (x5 : Int) (nx5 : nmI x5), f_X12_wayOf_L30 k90 z1 z3 M n x4 x5 = some q → ∀ (H : Heap) (locs : List Loc) (ls : Array Slot), gH G M H → va_S (gA G) s.heap H locs → gLv ls 6 [(0, .ref (gAd G 29 0)), (1, .int (iI z1)), (3, .int (iI z3)), (4, .int (iI x4)), (5, .int (iI x5))] → W p l e { frames := 2, cells := 0, slots := 0, locals := 47 } s m args below meth c H locs 0 0 (MQ below (gQi G q.1 q.2) args s 0 0 (gA G)) (F0 m 30 ls []) := by
  intro n
  induction n with
  | zero =>
    intro x4 nx4 x5 nx5 hf
    cases hf
  | succ n ih =>
    intro x4 nx4 x5 nx5 hf H locs ls hH hS hl
    rw [f_X12_wayOf_L30] at hf
    refine lv_iload X.1 X.2.1 dX12_wayOf_30 (lv_at hl.1 4 rfl) ?_
    refine lv_aload_n X.1 X.2.1 dX12_wayOf_32 rfl (lv_at hl.1 0 rfl) ?_
    have nd33 : nmI (M 29 0 7) := hH.1.1 _ _ _
    refine g_get X cX12 hH (r := 29) (i := 0) (by decide) rfl 7 (by decide) k_1217 rfl (v := .int (iI (M 29 0 7))) rfl dX12_wayOf_33 ?_
    refine g_icmp_ge X nx5 nd33 (tgt := 90) dX12_wayOf_36 (by decide) (fun hc36 => ?_) (fun hc36 => ?_)
    · replace hf := it_f hf hc36
      exact hk90 x4 nx4 hf _ _ _ hH hS (gLv_sub hl [0, 1, 2, 3] rfl)
    · replace hf := it_t hf hc36
      refine lv_aload_n X.1 X.2.1 dX12_wayOf_39 rfl (lv_at hl.1 0 rfl) ?_
      refine lv_iload X.1 X.2.1 dX12_wayOf_40 (lv_at hl.1 4 rfl) ?_
      refine gGoZ (gRunV X hH (As := [.int (iI x5)]) (m_X12_isNeeded l G x5 nx5 M _ rfl) calX12_isNeeded k_1487 k_40 k_1485 (by decide) cX12 rfl ⟨by decide, by decide⟩ rfl hl rfl (Nat.le_of_ble_eq_true rfl) ⟨Nat.le_of_ble_eq_true rfl, Nat.le_of_ble_eq_true rfl⟩ dX12_wayOf_42) hS (fun H locs br42 hH hS => ?_)
      obtain ⟨k82, ek82, hf_⟩ := oj_e hf; clear hf; have hf := hf_; clear hf_
      have hk82 : ∀ (xs0_82 : Int) (nxs0_82 : nmI xs0_82), k82 xs0_82 = some q → ∀ (H : Heap) (locs : List Loc) (ls : Array Slot), gH G M H → va_S (gA G) s.heap H locs → gLv ls 6 [(0, .ref (gAd G 29 0)), (1, .int (iI z1)), (3, .int (iI z3)), (5, .int (iI x5))] → W p l e { frames := 2, cells := 0, slots := 0, locals := 47 } s m args below meth c H locs 0 0 (MQ below (gQi G q.1 q.2) args s 0 0 (gA G)) (F0 m 82 ls [.int (iI xs0_82)]) := by
        intro xs0_82 nxs0_82 hf H locs ls hH hS hl
        subst ek82
        refine g_istore X (lv' := [(4, .int (iI xs0_82)), (0, .ref (gAd G 29 0)), (1, .int (iI z1)), (3, .int (iI z3)), (5, .int (iI x5))]) dX12_wayOf_82 hl (by decide) rfl (fun ls hl => ?_)
        refine g_iinc X (a := x5) (lv' := [(5, .int (iI (wI (x5 + 1)))), (4, .int (iI xs0_82)), (0, .ref (gAd G 29 0)), (1, .int (iI z1)), (3, .int (iI z3))]) dX12_wayOf_84 hl (k := 4) rfl (by decide) rfl (fun ls hl => ?_)
        refine lv_goto (tgt := 30) X.1 X.2.1 dX12_wayOf_87 (by decide) ?_
        exact ih xs0_82 nxs0_82 (wI (x5 + 1)) (nmI_w _) hf _ _ _ hH hS (gLv_sub hl [2, 3, 4, 1, 0] rfl)
      clear ek82
      obtain ⟨k80, ek80, hf_⟩ := oj_e hf; clear hf; have hf := hf_; clear hf_
      have hk80 : k80 = some q → ∀ (H : Heap) (locs : List Loc) (ls : Array Slot), gH G M H → va_S (gA G) s.heap H locs → gLv ls 6 [(0, .ref (gAd G 29 0)), (1, .int (iI z1)), (3, .int (iI z3)), (4, .int (iI x4)), (5, .int (iI x5))] → W p l e { frames := 2, cells := 0, slots := 0, locals := 47 } s m args below meth c H locs 0 0 (MQ below (gQi G q.1 q.2) args s 0 0 (gA G)) (F0 m 80 ls []) := by
        intro  hf H locs ls hH hS hl
        subst ek80
        refine lv_iload X.1 X.2.1 dX12_wayOf_80 (lv_at hl.1 3 rfl) ?_
        exact hk82 x4 nx4 hf _ _ _ hH hS (gLv_sub hl [0, 1, 2, 4] rfl)
      clear ek80
      refine g_if_eq X (nmI_b br42) (tgt := 80) dX12_wayOf_45 (by decide) (fun hc45 => ?_) (fun hc45 => ?_)
      · replace hf := it_t hf hc45
        exact hk80  hf _ _ _ hH hS (gLv_sub hl [0, 1, 2, 3, 4] rfl)
      · replace hf := it_f hf hc45
        refine lv_aload_n X.1 X.2.1 dX12_wayOf_48 rfl (lv_at hl.1 0 rfl) ?_
        refine lv_iload X.1 X.2.1 dX12_wayOf_49 (lv_at hl.1 4 rfl) ?_
        refine lv_iload_n X.1 X.2.1 dX12_wayOf_51 rfl (lv_at hl.1 2 rfl) ?_
        obtain ⟨r52, hq52, hf_⟩ := ob_e hf; clear hf; have hf := hf_; clear hf_
        refine gGoZ (gRunV X hH (As := [.int (iI x5), .int (iI z3)]) (m_X12_hasInput l G x5 nx5 z3 nz3 M _ hq52) calX12_hasInput k_1539 k_52 k_1537 (by decide) cX12 rfl ⟨by decide, by decide⟩ rfl hl rfl (Nat.le_of_ble_eq_true rfl) ⟨Nat.le_of_ble_eq_true rfl, Nat.le_of_ble_eq_true rfl⟩ dX12_wayOf_52) hS (fun H locs br52 hH hS => ?_)
        refine g_if_eq X (nmI_b br52) (tgt := 80) dX12_wayOf_55 (by decide) (fun hc55 => ?_) (fun hc55 => ?_)
        · replace hf := it_t hf hc55
          exact hk80  hf _ _ _ hH hS (gLv_sub hl [0, 1, 2, 3, 4] rfl)
        · replace hf := it_f hf hc55
          refine lv_aload_n X.1 X.2.1 dX12_wayOf_58 rfl (lv_at hl.1 0 rfl) ?_
          refine g_get X cX12 hH (r := 29) (i := 0) (by decide) rfl 54 (by decide) k_1264 rfl (v := .ref (gAd G 73 0)) rfl dX12_wayOf_59 ?_
          refine lv_iload X.1 X.2.1 dX12_wayOf_62 (lv_at hl.1 4 rfl) ?_
          obtain ⟨hg, hf_⟩ := og_e hf; clear hf; have hf := hf_; clear hf_
          have nd64 : nmI (M 73 0 x5.toNat) := hH.1.1 _ _ _
          refine g_iald X hH (r := 73) (i := 0) (by decide) rfl nx5 hg (v := M 73 0 x5.toNat) rfl dX12_wayOf_64 ?_
          refine lv_iload X.1 X.2.1 dX12_wayOf_65 (lv_at hl.1 3 rfl) ?_
          refine g_icmp_le X nd64 nx4 (tgt := 80) dX12_wayOf_67 (by decide) (fun hc67 => ?_) (fun hc67 => ?_)
          · replace hf := it_f hf hc67
            exact hk80  hf _ _ _ hH hS (gLv_sub hl [0, 1, 2, 3, 4] rfl)
          · replace hf := it_t hf hc67
            refine lv_aload_n X.1 X.2.1 dX12_wayOf_70 rfl (lv_at hl.1 0 rfl) ?_
            refine g_get X cX12 hH (r := 29) (i := 0) (by decide) rfl 54 (by decide) k_1264 rfl (v := .ref (gAd G 73 0)) rfl dX12_wayOf_71 ?_
            refine lv_iload X.1 X.2.1 dX12_wayOf_74 (lv_at hl.1 4 rfl) ?_
            obtain ⟨hg, hf_⟩ := og_e hf; clear hf; have hf := hf_; clear hf_
            have nd76 : nmI (M 73 0 x5.toNat) := hH.1.1 _ _ _
            refine g_iald X hH (r := 73) (i := 0) (by decide) rfl nx5 hg (v := M 73 0 x5.toNat) rfl dX12_wayOf_76 ?_
            refine lv_goto (tgt := 82) X.1 X.2.1 dX12_wayOf_77 (by decide) ?_
            exact hk82 (M 73 0 x5.toNat) nd76 hf _ _ _ hH hS (gLv_sub hl [0, 1, 2, 4] rfl)
theorem w_X12_wayOf_L9 {G : gG} {p : Program} {l : Launch} {e : Env} {s : State} {m : MethodId} {args : Array Value} {below : List Frame} {meth : Method} {c : Code} (X : gX G p s m args meth c RX12 cX12_wayOf 6 (some .int) (gWs yX12_wayOf cX12_wayOf 6 (some .int))) (k132 : Int → gM → Option (Int × gM)) (z1 : Int) (nz1 : nmI z1) (q : (Int × gM)) (hk132 : ∀ (x2 : Int) (nx2 : nmI x2) (M : gM), k132 x2 M = some q → ∀ (H : Heap) (locs : List Loc) (ls : Array Slot), gH G M H → va_S (gA G) s.heap H locs → gLv ls 6 [(2, .int (iI x2))] → W p l e { frames := 2, cells := 0, slots := 0, locals := 47 } s m args below meth c H locs 0 0 (MQ below (gQi G q.1 q.2) args s 0 0 (gA G)) (F0 m 132 ls [])) : ∀ (n : Nat) (x2 : Int) (nx2 : nmI x2) (x3 : Int) (nx3 : nmI x3) (M : gM), f_X12_wayOf_L9 k132 z1 n x2 x3 M = some q → ∀ (H : Heap) (locs : List Loc) (ls : Array Slot), gH G M H → va_S (gA G) s.heap H locs → gLv ls 6 [(0, .ref (gAd G 29 0)), (1, .int (iI z1)), (2, .int (iI x2)), (3, .int (iI x3))] → W p l e { frames := 2, cells := 0, slots := 0, locals := 47 } s m args below meth c H locs 0 0 (MQ below (gQi G q.1 q.2) args s 0 0 (gA G)) (F0 m 9 ls []) := by
  intro n
  induction n with
  | zero =>
    intro x2 nx2 x3 nx3 M hf
    cases hf
  | succ n ih =>
    intro x2 nx2 x3 nx3 M hf H locs ls hH hS hl
    rw [f_X12_wayOf_L9] at hf
    refine lv_iload_n X.1 X.2.1 dX12_wayOf_9 rfl (lv_at hl.1 3 rfl) ?_
    refine lv_iload_n X.1 X.2.1 dX12_wayOf_10 rfl (lv_at hl.1 1 rfl) ?_
    refine g_icmp_lt X nx3 nz1 (tgt := 132) dX12_wayOf_11 (by decide) (fun hc11 => ?_) (fun hc11 => ?_)
    · replace hf := it_t hf hc11
      exact hk132 x2 nx2 M hf _ _ _ hH hS (gLv_sub hl [2] rfl)
    · replace hf := it_f hf hc11
      refine lv_aload_n X.1 X.2.1 dX12_wayOf_14 rfl (lv_at hl.1 0 rfl) ?_
      refine lv_iload_n X.1 X.2.1 dX12_wayOf_15 rfl (lv_at hl.1 3 rfl) ?_
      refine gGoZ (gRunV X hH (As := [.int (iI x3)]) (m_X12_isNeeded l G x3 nx3 M _ rfl) calX12_isNeeded k_1487 k_40 k_1485 (by decide) cX12 rfl ⟨by decide, by decide⟩ rfl hl rfl (Nat.le_of_ble_eq_true rfl) ⟨Nat.le_of_ble_eq_true rfl, Nat.le_of_ble_eq_true rfl⟩ dX12_wayOf_16) hS (fun H locs br16 hH hS => ?_)
      obtain ⟨k126, ek126, hf_⟩ := oj_e hf; clear hf; have hf := hf_; clear hf_
      have hk126 : ∀ (x2_126 : Int) (nx2_126 : nmI x2_126) (M_126 : gM), k126 x2_126 M_126 = some q → ∀ (H : Heap) (locs : List Loc) (ls : Array Slot), gH G M_126 H → va_S (gA G) s.heap H locs → gLv ls 6 [(0, .ref (gAd G 29 0)), (1, .int (iI z1)), (2, .int (iI x2_126)), (3, .int (iI x3))] → W p l e { frames := 2, cells := 0, slots := 0, locals := 47 } s m args below meth c H locs 0 0 (MQ below (gQi G q.1 q.2) args s 0 0 (gA G)) (F0 m 126 ls []) := by
        intro x2_126 nx2_126 M_126 hf H locs ls hH hS hl
        subst ek126
        refine g_iinc X (a := x3) (lv' := [(3, .int (iI (wI (x3 + (-1))))), (0, .ref (gAd G 29 0)), (1, .int (iI z1)), (2, .int (iI x2_126))]) dX12_wayOf_126 hl (k := 3) rfl (by decide) rfl (fun ls hl => ?_)
        refine lv_goto (tgt := 9) X.1 X.2.1 dX12_wayOf_129 (by decide) ?_
        exact ih x2_126 nx2_126 (wI (x3 + (-1))) (nmI_w _) M_126 hf _ _ _ hH hS (gLv_sub hl [1, 2, 3, 0] rfl)
      clear ek126
      refine g_if_eq X (nmI_b br16) (tgt := 126) dX12_wayOf_19 (by decide) (fun hc19 => ?_) (fun hc19 => ?_)
      · replace hf := it_t hf hc19
        exact hk126 x2 nx2 M hf _ _ _ hH hS (gLv_sub hl [0, 1, 2, 3] rfl)
      · replace hf := it_f hf hc19
        refine lv_iconst X.1 X.2.1 dX12_wayOf_22 (v := iI 0) rfl ?_
        refine g_istore X (lv' := [(4, .int (iI 0)), (0, .ref (gAd G 29 0)), (1, .int (iI z1)), (2, .int (iI x2)), (3, .int (iI x3))]) dX12_wayOf_23 hl (by decide) rfl (fun ls hl => ?_)
        refine lv_iload_n X.1 X.2.1 dX12_wayOf_25 rfl (lv_at hl.1 4 rfl) ?_
        refine lv_iconst X.1 X.2.1 dX12_wayOf_26 (v := iI 1) rfl ?_
        refine g_iadd X dX12_wayOf_27 ?_
        refine g_istore X (lv' := [(5, .int (iI (wI (x3 + 1)))), (4, .int (iI 0)), (0, .ref (gAd G 29 0)), (1, .int (iI z1)), (2, .int (iI x2)), (3, .int (iI x3))]) dX12_wayOf_28 hl (by decide) rfl (fun ls hl => ?_)
        refine w_X12_wayOf_L30 X _ z1 nz1 x3 nx3 M q ?_ 64 0 (nmI_l (by decide)) (wI (x3 + 1)) (nmI_w _) hf _ _ _ hH hS (gLv_sub hl [2, 3, 5, 1, 0] rfl)
        · intro y4_30_90 ny4_30_90 hf H locs ls hH hS hl
          refine lv_aload_n X.1 X.2.1 dX12_wayOf_90 rfl (lv_at hl.1 0 rfl) ?_
          refine g_get X cX12 hH (r := 29) (i := 0) (by decide) rfl 54 (by decide) k_1264 rfl (v := .ref (gAd G 73 0)) rfl dX12_wayOf_91 ?_
          refine lv_iload_n X.1 X.2.1 dX12_wayOf_94 rfl (lv_at hl.1 2 rfl) ?_
          refine lv_aload_n X.1 X.2.1 dX12_wayOf_95 rfl (lv_at hl.1 0 rfl) ?_
          refine g_get X cX12 hH (r := 29) (i := 0) (by decide) rfl 46 (by decide) k_1256 rfl (v := .ref (gAd G 67 0)) rfl dX12_wayOf_96 ?_
          refine lv_iload_n X.1 X.2.1 dX12_wayOf_99 rfl (lv_at hl.1 2 rfl) ?_
          obtain ⟨hg, hf_⟩ := og_e hf; clear hf; have hf := hf_; clear hf_
          have nd100 : nmI (M 67 0 x3.toNat) := hH.1.1 _ _ _
          refine g_iald X hH (r := 67) (i := 0) (by decide) rfl nx3 hg (v := M 67 0 x3.toNat) rfl dX12_wayOf_100 ?_
          refine lv_iconst X.1 X.2.1 dX12_wayOf_101 (v := iI (-1)) rfl ?_
          obtain ⟨k115, ek115, hf_⟩ := oj_e hf; clear hf; have hf := hf_; clear hf_
          have hk115 : ∀ (xs2_115 : Int) (nxs2_115 : nmI xs2_115), k115 xs2_115 = some q → ∀ (H : Heap) (locs : List Loc) (ls : Array Slot), gH G M H → va_S (gA G) s.heap H locs → gLv ls 6 [(0, .ref (gAd G 29 0)), (1, .int (iI z1)), (3, .int (iI x3)), (4, .int (iI y4_30_90))] → W p l e { frames := 2, cells := 0, slots := 0, locals := 47 } s m args below meth c H locs 0 0 (MQ below (gQi G q.1 q.2) args s 0 0 (gA G)) (F0 m 115 ls [.int (iI xs2_115), .int (iI x3), .ref (gAd G 73 0)]) := by
            intro xs2_115 nxs2_115 hf H locs ls hH hS hl
            subst ek115
            refine lv_iload X.1 X.2.1 dX12_wayOf_115 (lv_at hl.1 3 rfl) ?_
            refine g_iadd X dX12_wayOf_117 ?_
            obtain ⟨hg, hf_⟩ := og_e hf; clear hf; have hf := hf_; clear hf_
            refine g_iast X hH hS (r := 73) (i := 0) (by decide) (fun _ => rfl) nx3 hg (nmI_w _) rfl (by decide) dX12_wayOf_118 (fun H locs hH hS => ?_)
            refine lv_aload_n X.1 X.2.1 dX12_wayOf_119 rfl (lv_at hl.1 0 rfl) ?_
            refine g_get X cX12 hH (r := 29) (i := 0) (by decide) rfl 54 (by decide) k_1264 rfl (v := .ref (gAd G 73 0)) rfl dX12_wayOf_120 ?_
            refine lv_iload_n X.1 X.2.1 dX12_wayOf_123 rfl (lv_at hl.1 2 rfl) ?_
            obtain ⟨hg, hf_⟩ := og_e hf; clear hf; have hf := hf_; clear hf_
            have nd124 : nmI ((gU M 73 0 x3.toNat (wI (xs2_115 + y4_30_90))) 73 0 x3.toNat) := hH.1.1 _ _ _
            refine g_iald X hH (r := 73) (i := 0) (by decide) rfl nx3 hg (v := (gU M 73 0 x3.toNat (wI (xs2_115 + y4_30_90))) 73 0 x3.toNat) rfl dX12_wayOf_124 ?_
            refine g_istore_n X (lv' := [(2, .int (iI ((gU M 73 0 x3.toNat (wI (xs2_115 + y4_30_90))) 73 0 x3.toNat))), (0, .ref (gAd G 29 0)), (1, .int (iI z1)), (3, .int (iI x3)), (4, .int (iI y4_30_90))]) dX12_wayOf_125 rfl hl (by decide) rfl (fun ls hl => ?_)
            exact hk126 ((gU M 73 0 x3.toNat (wI (xs2_115 + y4_30_90))) 73 0 x3.toNat) nd124 (gU M 73 0 x3.toNat (wI (xs2_115 + y4_30_90))) hf _ _ _ hH hS (gLv_sub hl [1, 2, 0, 3] rfl)
          clear ek115
          refine g_icmp_ne X nd100 (nmI_l (by decide)) (tgt := 109) dX12_wayOf_102 (by decide) (fun hc102 => ?_) (fun hc102 => ?_)
          · replace hf := it_f hf hc102
            refine lv_aload_n X.1 X.2.1 dX12_wayOf_109 rfl (lv_at hl.1 0 rfl) ?_
            refine g_get X cX12 hH (r := 29) (i := 0) (by decide) rfl 46 (by decide) k_1256 rfl (v := .ref (gAd G 67 0)) rfl dX12_wayOf_110 ?_
            refine lv_iload_n X.1 X.2.1 dX12_wayOf_113 rfl (lv_at hl.1 2 rfl) ?_
            obtain ⟨hg, hf_⟩ := og_e hf; clear hf; have hf := hf_; clear hf_
            have nd114 : nmI (M 67 0 x3.toNat) := hH.1.1 _ _ _
            refine g_iald X hH (r := 67) (i := 0) (by decide) rfl nx3 hg (v := M 67 0 x3.toNat) rfl dX12_wayOf_114 ?_
            exact hk115 (M 67 0 x3.toNat) nd114 hf _ _ _ hH hS (gLv_sub hl [0, 1, 2, 3] rfl)
          · replace hf := it_t hf hc102
            refine lv_iconst X.1 X.2.1 dX12_wayOf_105 (v := iI 5) rfl ?_
            refine lv_goto (tgt := 115) X.1 X.2.1 dX12_wayOf_106 (by decide) ?_
            exact hk115 5 (nmI_l (by decide)) hf _ _ _ hH hS (gLv_sub hl [0, 1, 2, 3] rfl)
theorem m_X12_wayOf (l : Launch) (G : gG) (v1 : Int) (nv1 : nmI v1) (M : gM) (q : (Int × gM)) (hf : f_X12_wayOf v1 M = some q) : gMet l yX12_wayOf cX12_wayOf 6 (some .int) 2 47 G M [.ref (gAd G 29 0), .int (iI v1)] (gQi G q.1 q.2) := by
  refine gOfW (by decide) (by show _ ≤ 6; exact Nat.le_of_ble_eq_true rfl) rfl ?_
  intro p e s m below meth c X hH ls hl
  replace hl : gLv ls 6 [(0, .ref (gAd G 29 0)), (1, .int (iI v1))] := hl
  have hS : va_S (gA G) s.heap s.heap [] := va_S.rf
  generalize hargs : ([.ref (gAd G 29 0), .int (iI v1)] : List Value).toArray = args at X ⊢
  clear hargs
  unfold f_X12_wayOf at hf
  refine lv_iconst X.1 X.2.1 dX12_wayOf_0 (v := iI 0) rfl ?_
  refine g_istore_n X (lv' := [(2, .int (iI 0)), (0, .ref (gAd G 29 0)), (1, .int (iI v1))]) dX12_wayOf_1 rfl hl (by decide) rfl (fun ls hl => ?_)
  refine lv_aload_n X.1 X.2.1 dX12_wayOf_2 rfl (lv_at hl.1 1 rfl) ?_
  have nd3 : nmI (M 29 0 7) := hH.1.1 _ _ _
  refine g_get X cX12 hH (r := 29) (i := 0) (by decide) rfl 7 (by decide) k_1217 rfl (v := .int (iI (M 29 0 7))) rfl dX12_wayOf_3 ?_
  refine lv_iconst X.1 X.2.1 dX12_wayOf_6 (v := iI 1) rfl ?_
  refine g_isub X dX12_wayOf_7 ?_
  refine g_istore_n X (lv' := [(3, .int (iI (wI ((M 29 0 7) - 1)))), (2, .int (iI 0)), (0, .ref (gAd G 29 0)), (1, .int (iI v1))]) dX12_wayOf_8 rfl hl (by decide) rfl (fun ls hl => ?_)
  refine w_X12_wayOf_L9 X _ v1 nv1 q ?_ 64 0 (nmI_l (by decide)) (wI ((M 29 0 7) - 1)) (nmI_w _) M hf _ _ _ hH hS (gLv_sub hl [2, 3, 1, 0] rfl)
  · intro y2_9_132 ny2_9_132 M_9_132 hf H locs ls hH hS hl
    refine lv_iload_n X.1 X.2.1 dX12_wayOf_132 rfl (lv_at hl.1 0 rfl) ?_
    have hq := Option.some.inj hf; subst hq
    exact gRetI X hH hS (res := y2_9_132) ny2_9_132 dX12_wayOf_133
theorem w_X12_next_L17 {G : gG} {p : Program} {l : Launch} {e : Env} {s : State} {m : MethodId} {args : Array Value} {below : List Frame} {meth : Method} {c : Code} (X : gX G p s m args meth c RX12 cX12_next 5 (some .int) (gWs yX12_next cX12_next 5 (some .int))) (k79 : Int → Int → gM → Option (Int × gM)) (z3 : Int) (nz3 : nmI z3) (q : (Int × gM)) (hk79 : ∀ (x1 : Int) (nx1 : nmI x1) (x2 : Int) (nx2 : nmI x2) (M : gM), k79 x1 x2 M = some q → ∀ (H : Heap) (locs : List Loc) (ls : Array Slot), gH G M H → va_S (gA G) s.heap H locs → gLv ls 5 [(0, .ref (gAd G 29 0)), (1, .int (iI x1)), (2, .int (iI x2)), (3, .int (iI z3))] → W p l e { frames := 3, cells := 0, slots := 0, locals := 72 } s m args below meth c H locs 0 0 (MQ below (gQi G q.1 q.2) args s 0 0 (gA G)) (F0 m 79 ls [])) : ∀ (n : Nat) (x1 : Int) (nx1 : nmI x1) (x2 : Int) (nx2 : nmI x2) (x4 : Int) (nx4 : nmI x4) (M : gM), f_X12_next_L17 k79 z3 n x1 x2 x4 M = some q → ∀ (H : Heap) (locs : List Loc) (ls : Array Slot), gH G M H → va_S (gA G) s.heap H locs → gLv ls 5 [(0, .ref (gAd G 29 0)), (1, .int (iI x1)), (2, .int (iI x2)), (3, .int (iI z3)), (4, .int (iI x4))] → W p l e { frames := 3, cells := 0, slots := 0, locals := 72 } s m args below meth c H locs 0 0 (MQ below (gQi G q.1 q.2) args s 0 0 (gA G)) (F0 m 17 ls []) := by
  intro n
  induction n with
  | zero =>
    intro x1 nx1 x2 nx2 x4 nx4 M hf
    cases hf
  | succ n ih =>
    intro x1 nx1 x2 nx2 x4 nx4 M hf H locs ls hH hS hl
    rw [f_X12_next_L17] at hf
    refine lv_iload X.1 X.2.1 dX12_next_17 (lv_at hl.1 4 rfl) ?_
    refine lv_aload_n X.1 X.2.1 dX12_next_19 rfl (lv_at hl.1 0 rfl) ?_
    refine g_get X cX12 hH (r := 29) (i := 0) (by decide) rfl 11 (by decide) k_1221 rfl (v := .ref (gAd G 38 0)) rfl dX12_next_20 ?_
    refine lv_iload_n X.1 X.2.1 dX12_next_23 rfl (lv_at hl.1 3 rfl) ?_
    obtain ⟨hg, hf_⟩ := og_e hf; clear hf; have hf := hf_; clear hf_
    have nd24 : nmI (M 38 0 z3.toNat) := hH.1.1 _ _ _
    refine g_iald X hH (r := 38) (i := 0) (by decide) rfl nz3 hg (v := M 38 0 z3.toNat) rfl dX12_next_24 ?_
    refine g_icmp_ge X nx4 nd24 (tgt := 79) dX12_next_25 (by decide) (fun hc25 => ?_) (fun hc25 => ?_)
    · replace hf := it_f hf hc25
      exact hk79 x1 nx1 x2 nx2 M hf _ _ _ hH hS (gLv_sub hl [0, 1, 2, 3] rfl)
    · replace hf := it_t hf hc25
      refine lv_aload_n X.1 X.2.1 dX12_next_28 rfl (lv_at hl.1 0 rfl) ?_
      refine lv_iload_n X.1 X.2.1 dX12_next_29 rfl (lv_at hl.1 3 rfl) ?_
      refine gGoZ (gRunV X hH (As := [.int (iI z3)]) (m_X12_isNeeded l G z3 nz3 M _ rfl) calX12_isNeeded k_1487 k_40 k_1485 (by decide) cX12 rfl ⟨by decide, by decide⟩ rfl hl rfl (Nat.le_of_ble_eq_true rfl) ⟨Nat.le_of_ble_eq_true rfl, Nat.le_of_ble_eq_true rfl⟩ dX12_next_30) hS (fun H locs br30 hH hS => ?_)
      refine g_if_eq X (nmI_b br30) (tgt := 79) dX12_next_33 (by decide) (fun hc33 => ?_) (fun hc33 => ?_)
      · replace hf := it_t hf hc33
        exact hk79 x1 nx1 x2 nx2 M hf _ _ _ hH hS (gLv_sub hl [0, 1, 2, 3] rfl)
      · replace hf := it_f hf hc33
        refine lv_aload_n X.1 X.2.1 dX12_next_36 rfl (lv_at hl.1 0 rfl) ?_
        refine g_get X cX12 hH (r := 29) (i := 0) (by decide) rfl 38 (by decide) k_1248 rfl (v := .ref (gAd G 60 0)) rfl dX12_next_37 ?_
        refine lv_iconst X.1 X.2.1 dX12_next_40 (v := iI 4) rfl ?_
        refine lv_iload_n X.1 X.2.1 dX12_next_41 rfl (lv_at hl.1 3 rfl) ?_
        refine g_imul X dX12_next_42 ?_
        refine lv_iload X.1 X.2.1 dX12_next_43 (lv_at hl.1 4 rfl) ?_
        refine g_iadd X dX12_next_45 ?_
        obtain ⟨hg, hf_⟩ := og_e hf; clear hf; have hf := hf_; clear hf_
        have nd46 : nmI (M 60 0 (wI ((wI (4 * z3)) + x4)).toNat) := hH.1.1 _ _ _
        refine g_iald X hH (r := 60) (i := 0) (by decide) rfl (nmI_w _) hg (v := M 60 0 (wI ((wI (4 * z3)) + x4)).toNat) rfl dX12_next_46 ?_
        refine lv_iconst X.1 X.2.1 dX12_next_47 (v := iI 1) rfl ?_
        obtain ⟨k73, ek73, hf_⟩ := oj_e hf; clear hf; have hf := hf_; clear hf_
        have hk73 : ∀ (x1_73 : Int) (nx1_73 : nmI x1_73) (x2_73 : Int) (nx2_73 : nmI x2_73) (M_73 : gM), k73 x1_73 x2_73 M_73 = some q → ∀ (H : Heap) (locs : List Loc) (ls : Array Slot), gH G M_73 H → va_S (gA G) s.heap H locs → gLv ls 5 [(0, .ref (gAd G 29 0)), (1, .int (iI x1_73)), (2, .int (iI x2_73)), (3, .int (iI z3)), (4, .int (iI x4))] → W p l e { frames := 3, cells := 0, slots := 0, locals := 72 } s m args below meth c H locs 0 0 (MQ below (gQi G q.1 q.2) args s 0 0 (gA G)) (F0 m 73 ls []) := by
          intro x1_73 nx1_73 x2_73 nx2_73 M_73 hf H locs ls hH hS hl
          subst ek73
          refine g_iinc X (a := x4) (lv' := [(4, .int (iI (wI (x4 + 1)))), (0, .ref (gAd G 29 0)), (1, .int (iI x1_73)), (2, .int (iI x2_73)), (3, .int (iI z3))]) dX12_next_73 hl (k := 4) rfl (by decide) rfl (fun ls hl => ?_)
          refine lv_goto (tgt := 17) X.1 X.2.1 dX12_next_76 (by decide) ?_
          exact ih x1_73 nx1_73 x2_73 nx2_73 (wI (x4 + 1)) (nmI_w _) M_73 hf _ _ _ hH hS (gLv_sub hl [1, 2, 3, 4, 0] rfl)
        clear ek73
        refine g_icmp_ne X nd46 (nmI_l (by decide)) (tgt := 73) dX12_next_48 (by decide) (fun hc48 => ?_) (fun hc48 => ?_)
        · replace hf := it_f hf hc48
          exact hk73 x1 nx1 x2 nx2 M hf _ _ _ hH hS (gLv_sub hl [0, 1, 2, 3, 4] rfl)
        · replace hf := it_t hf hc48
          refine lv_aload_n X.1 X.2.1 dX12_next_51 rfl (lv_at hl.1 0 rfl) ?_
          refine lv_iload_n X.1 X.2.1 dX12_next_52 rfl (lv_at hl.1 3 rfl) ?_
          obtain ⟨r53, hq53, hf_⟩ := ob_e hf; clear hf; have hf := hf_; clear hf_
          refine gGoI (gRunV X hH (As := [.int (iI z3)]) (m_X12_wayOf l G z3 nz3 M _ hq53) calX12_wayOf k_1535 k_51 k_1533 (by decide) cX12 rfl ⟨by decide, by decide⟩ rfl hl rfl (Nat.le_of_ble_eq_true rfl) ⟨Nat.le_of_ble_eq_true rfl, Nat.le_of_ble_eq_true rfl⟩ dX12_next_53) hS (fun H locs nr53 hH hS => ?_)
          refine lv_iload_n X.1 X.2.1 dX12_next_56 rfl (lv_at hl.1 2 rfl) ?_
          refine g_icmp_le X nr53 nx2 (tgt := 73) dX12_next_57 (by decide) (fun hc57 => ?_) (fun hc57 => ?_)
          · replace hf := it_f hf hc57
            exact hk73 x1 nx1 x2 nx2 r53.2 hf _ _ _ hH hS (gLv_sub hl [0, 1, 2, 3, 4] rfl)
          · replace hf := it_t hf hc57
            refine lv_iconst X.1 X.2.1 dX12_next_60 (v := iI 4) rfl ?_
            refine lv_iload_n X.1 X.2.1 dX12_next_61 rfl (lv_at hl.1 3 rfl) ?_
            refine g_imul X dX12_next_62 ?_
            refine lv_iload X.1 X.2.1 dX12_next_63 (lv_at hl.1 4 rfl) ?_
            refine g_iadd X dX12_next_65 ?_
            refine g_istore_n X (lv' := [(1, .int (iI (wI ((wI (4 * z3)) + x4)))), (0, .ref (gAd G 29 0)), (2, .int (iI x2)), (3, .int (iI z3)), (4, .int (iI x4))]) dX12_next_66 rfl hl (by decide) rfl (fun ls hl => ?_)
            refine lv_aload_n X.1 X.2.1 dX12_next_67 rfl (lv_at hl.1 1 rfl) ?_
            refine lv_iload_n X.1 X.2.1 dX12_next_68 rfl (lv_at hl.1 3 rfl) ?_
            obtain ⟨r69, hq69, hf_⟩ := ob_e hf; clear hf; have hf := hf_; clear hf_
            refine gGoI (gRunV X hH (As := [.int (iI z3)]) (m_X12_wayOf l G z3 nz3 r53.2 _ hq69) calX12_wayOf k_1535 k_51 k_1533 (by decide) cX12 rfl ⟨by decide, by decide⟩ rfl hl rfl (Nat.le_of_ble_eq_true rfl) ⟨Nat.le_of_ble_eq_true rfl, Nat.le_of_ble_eq_true rfl⟩ dX12_next_69) hS (fun H locs nr69 hH hS => ?_)
            refine g_istore_n X (lv' := [(2, .int (iI r69.1)), (1, .int (iI (wI ((wI (4 * z3)) + x4)))), (0, .ref (gAd G 29 0)), (3, .int (iI z3)), (4, .int (iI x4))]) dX12_next_72 rfl hl (by decide) rfl (fun ls hl => ?_)
            exact hk73 (wI ((wI (4 * z3)) + x4)) (nmI_w _) r69.1 nr69 r69.2 hf _ _ _ hH hS (gLv_sub hl [2, 1, 0, 3, 4] rfl)
theorem w_X12_next_L6 {G : gG} {p : Program} {l : Launch} {e : Env} {s : State} {m : MethodId} {args : Array Value} {below : List Frame} {meth : Method} {c : Code} (X : gX G p s m args meth c RX12 cX12_next 5 (some .int) (gWs yX12_next cX12_next 5 (some .int))) (k85 : Int → gM → Option (Int × gM)) (q : (Int × gM)) (hk85 : ∀ (x1 : Int) (nx1 : nmI x1) (M : gM), k85 x1 M = some q → ∀ (H : Heap) (locs : List Loc) (ls : Array Slot), gH G M H → va_S (gA G) s.heap H locs → gLv ls 5 [(1, .int (iI x1))] → W p l e { frames := 3, cells := 0, slots := 0, locals := 72 } s m args below meth c H locs 0 0 (MQ below (gQi G q.1 q.2) args s 0 0 (gA G)) (F0 m 85 ls [])) : ∀ (n : Nat) (x1 : Int) (nx1 : nmI x1) (x2 : Int) (nx2 : nmI x2) (x3 : Int) (nx3 : nmI x3) (M : gM), f_X12_next_L6 k85 n x1 x2 x3 M = some q → ∀ (H : Heap) (locs : List Loc) (ls : Array Slot), gH G M H → va_S (gA G) s.heap H locs → gLv ls 5 [(0, .ref (gAd G 29 0)), (1, .int (iI x1)), (2, .int (iI x2)), (3, .int (iI x3))] → W p l e { frames := 3, cells := 0, slots := 0, locals := 72 } s m args below meth c H locs 0 0 (MQ below (gQi G q.1 q.2) args s 0 0 (gA G)) (F0 m 6 ls []) := by
  intro n
  induction n with
  | zero =>
    intro x1 nx1 x2 nx2 x3 nx3 M hf
    cases hf
  | succ n ih =>
    intro x1 nx1 x2 nx2 x3 nx3 M hf H locs ls hH hS hl
    rw [f_X12_next_L6] at hf
    refine lv_iload_n X.1 X.2.1 dX12_next_6 rfl (lv_at hl.1 3 rfl) ?_
    refine lv_aload_n X.1 X.2.1 dX12_next_7 rfl (lv_at hl.1 0 rfl) ?_
    have nd8 : nmI (M 29 0 7) := hH.1.1 _ _ _
    refine g_get X cX12 hH (r := 29) (i := 0) (by decide) rfl 7 (by decide) k_1217 rfl (v := .int (iI (M 29 0 7))) rfl dX12_next_8 ?_
    refine g_icmp_ge X nx3 nd8 (tgt := 85) dX12_next_11 (by decide) (fun hc11 => ?_) (fun hc11 => ?_)
    · replace hf := it_f hf hc11
      exact hk85 x1 nx1 M hf _ _ _ hH hS (gLv_sub hl [1] rfl)
    · replace hf := it_t hf hc11
      refine lv_iconst X.1 X.2.1 dX12_next_14 (v := iI 0) rfl ?_
      refine g_istore X (lv' := [(4, .int (iI 0)), (0, .ref (gAd G 29 0)), (1, .int (iI x1)), (2, .int (iI x2)), (3, .int (iI x3))]) dX12_next_15 hl (by decide) rfl (fun ls hl => ?_)
      refine w_X12_next_L17 X _ x3 nx3 q ?_ 64 x1 nx1 x2 nx2 0 (nmI_l (by decide)) M hf _ _ _ hH hS (gLv_sub hl [1, 2, 3, 4, 0] rfl)
      · intro y1_17_79 ny1_17_79 y2_17_79 ny2_17_79 M_17_79 hf H locs ls hH hS hl
        refine g_iinc X (a := x3) (lv' := [(3, .int (iI (wI (x3 + 1)))), (0, .ref (gAd G 29 0)), (1, .int (iI y1_17_79)), (2, .int (iI y2_17_79))]) dX12_next_79 hl (k := 3) rfl (by decide) rfl (fun ls hl => ?_)
        refine lv_goto (tgt := 6) X.1 X.2.1 dX12_next_82 (by decide) ?_
        exact ih y1_17_79 ny1_17_79 y2_17_79 ny2_17_79 (wI (x3 + 1)) (nmI_w _) M_17_79 hf _ _ _ hH hS (gLv_sub hl [1, 2, 3, 0] rfl)
theorem m_X12_next (l : Launch) (G : gG)  (M : gM) (q : (Int × gM)) (hf : f_X12_next M = some q) : gMet l yX12_next cX12_next 5 (some .int) 3 72 G M [.ref (gAd G 29 0)] (gQi G q.1 q.2) := by
  refine gOfW (by decide) (by show _ ≤ 5; exact Nat.le_of_ble_eq_true rfl) rfl ?_
  intro p e s m below meth c X hH ls hl
  replace hl : gLv ls 5 [(0, .ref (gAd G 29 0))] := hl
  have hS : va_S (gA G) s.heap s.heap [] := va_S.rf
  generalize hargs : ([.ref (gAd G 29 0)] : List Value).toArray = args at X ⊢
  clear hargs
  unfold f_X12_next at hf
  refine lv_iconst X.1 X.2.1 dX12_next_0 (v := iI (-1)) rfl ?_
  refine g_istore_n X (lv' := [(1, .int (iI ((-1)))), (0, .ref (gAd G 29 0))]) dX12_next_1 rfl hl (by decide) rfl (fun ls hl => ?_)
  refine lv_iconst X.1 X.2.1 dX12_next_2 (v := iI (-1)) rfl ?_
  refine g_istore_n X (lv' := [(2, .int (iI ((-1)))), (1, .int (iI ((-1)))), (0, .ref (gAd G 29 0))]) dX12_next_3 rfl hl (by decide) rfl (fun ls hl => ?_)
  refine lv_iconst X.1 X.2.1 dX12_next_4 (v := iI 0) rfl ?_
  refine g_istore_n X (lv' := [(3, .int (iI 0)), (2, .int (iI ((-1)))), (1, .int (iI ((-1)))), (0, .ref (gAd G 29 0))]) dX12_next_5 rfl hl (by decide) rfl (fun ls hl => ?_)
  refine w_X12_next_L6 X _  q ?_ 64 ((-1)) (nmI_l (by decide)) ((-1)) (nmI_l (by decide)) 0 (nmI_l (by decide)) M hf _ _ _ hH hS (gLv_sub hl [3, 2, 1, 0] rfl)
  · intro y1_6_85 ny1_6_85 M_6_85 hf H locs ls hH hS hl
    refine lv_iload_n X.1 X.2.1 dX12_next_85 rfl (lv_at hl.1 0 rfl) ?_
    have hq := Option.some.inj hf; subst hq
    exact gRetI X hH hS (res := y1_6_85) ny1_6_85 dX12_next_86
theorem w_X12_idle_L4 {G : gG} {p : Program} {l : Launch} {e : Env} {s : State} {m : MethodId} {args : Array Value} {below : List Frame} {meth : Method} {c : Code} (X : gX G p s m args meth c RX12 cX12_idle 3 (some .int) (gWs yX12_idle cX12_idle 3 (some .int))) (k60 : Int → Option (Int)) (M : gM) (q : (Int)) (hk60 : ∀ (x1 : Int) (nx1 : nmI x1), k60 x1 = some q → ∀ (H : Heap) (locs : List Loc) (ls : Array Slot), gH G M H → va_S (gA G) s.heap H locs → gLv ls 3 [(1, .int (iI x1))] → W p l e { frames := 0, cells := 0, slots := 0, locals := 0 } s m args below meth c H locs 0 0 (MQ below (gQi G q M) args s 0 0 (gA G)) (F0 m 60 ls [])) : ∀ (n : Nat) (x1 : Int) (nx1 : nmI x1) (x2 : Int) (nx2 : nmI x2), f_X12_idle_L4 k60 M n x1 x2 = some q → ∀ (H : Heap) (locs : List Loc) (ls : Array Slot), gH G M H → va_S (gA G) s.heap H locs → gLv ls 3 [(0, .ref (gAd G 29 0)), (1, .int (iI x1)), (2, .int (iI x2))] → W p l e { frames := 0, cells := 0, slots := 0, locals := 0 } s m args below meth c H locs 0 0 (MQ below (gQi G q M) args s 0 0 (gA G)) (F0 m 4 ls []) := by
  intro n
  induction n with
  | zero =>
    intro x1 nx1 x2 nx2 hf
    cases hf
  | succ n ih =>
    intro x1 nx1 x2 nx2 hf H locs ls hH hS hl
    rw [f_X12_idle_L4] at hf
    refine lv_iload_n X.1 X.2.1 dX12_idle_4 rfl (lv_at hl.1 2 rfl) ?_
    refine lv_iconst X.1 X.2.1 dX12_idle_5 (v := iI 4) rfl ?_
    refine g_icmp_ge X nx2 (nmI_l (by decide)) (tgt := 60) dX12_idle_6 (by decide) (fun hc6 => ?_) (fun hc6 => ?_)
    · replace hf := it_f hf hc6
      exact hk60 x1 nx1 hf _ _ _ hH hS (gLv_sub hl [1] rfl)
    · replace hf := it_t hf hc6
      refine lv_aload_n X.1 X.2.1 dX12_idle_9 rfl (lv_at hl.1 0 rfl) ?_
      refine g_get X cX12 hH (r := 29) (i := 0) (by decide) rfl 30 (by decide) k_1240 rfl (v := .ref (gAd G 54 0)) rfl dX12_idle_10 ?_
      refine lv_iload_n X.1 X.2.1 dX12_idle_13 rfl (lv_at hl.1 2 rfl) ?_
      obtain ⟨hg, hf_⟩ := og_e hf; clear hf; have hf := hf_; clear hf_
      have nd14 : nmI (M 54 0 x2.toNat) := hH.1.1 _ _ _
      refine g_iald X hH (r := 54) (i := 0) (by decide) rfl nx2 hg (v := M 54 0 x2.toNat) rfl dX12_idle_14 ?_
      refine lv_iconst X.1 X.2.1 dX12_idle_15 (v := iI (-1)) rfl ?_
      obtain ⟨k53, ek53, hf_⟩ := oj_e hf; clear hf; have hf := hf_; clear hf_
      have hk53 : ∀ (xs0_53 : Int) (nxs0_53 : nmI xs0_53), k53 xs0_53 = some q → ∀ (H : Heap) (locs : List Loc) (ls : Array Slot), gH G M H → va_S (gA G) s.heap H locs → gLv ls 3 [(0, .ref (gAd G 29 0)), (2, .int (iI x2))] → W p l e { frames := 0, cells := 0, slots := 0, locals := 0 } s m args below meth c H locs 0 0 (MQ below (gQi G q M) args s 0 0 (gA G)) (F0 m 53 ls [.int (iI xs0_53)]) := by
        intro xs0_53 nxs0_53 hf H locs ls hH hS hl
        subst ek53
        refine g_istore_n X (lv' := [(1, .int (iI xs0_53)), (0, .ref (gAd G 29 0)), (2, .int (iI x2))]) dX12_idle_53 rfl hl (by decide) rfl (fun ls hl => ?_)
        refine g_iinc X (a := x2) (lv' := [(2, .int (iI (wI (x2 + 1)))), (1, .int (iI xs0_53)), (0, .ref (gAd G 29 0))]) dX12_idle_54 hl (k := 2) rfl (by decide) rfl (fun ls hl => ?_)
        refine lv_goto (tgt := 4) X.1 X.2.1 dX12_idle_57 (by decide) ?_
        exact ih xs0_53 nxs0_53 (wI (x2 + 1)) (nmI_w _) hf _ _ _ hH hS (gLv_sub hl [2, 1, 0] rfl)
      clear ek53
      obtain ⟨k52, ek52, hf_⟩ := oj_e hf; clear hf; have hf := hf_; clear hf_
      have hk52 : k52 = some q → ∀ (H : Heap) (locs : List Loc) (ls : Array Slot), gH G M H → va_S (gA G) s.heap H locs → gLv ls 3 [(0, .ref (gAd G 29 0)), (1, .int (iI x1)), (2, .int (iI x2))] → W p l e { frames := 0, cells := 0, slots := 0, locals := 0 } s m args below meth c H locs 0 0 (MQ below (gQi G q M) args s 0 0 (gA G)) (F0 m 52 ls []) := by
        intro  hf H locs ls hH hS hl
        subst ek52
        refine lv_iload_n X.1 X.2.1 dX12_idle_52 rfl (lv_at hl.1 1 rfl) ?_
        exact hk53 x1 nx1 hf _ _ _ hH hS (gLv_sub hl [0, 2] rfl)
      clear ek52
      refine g_icmp_ne X nd14 (nmI_l (by decide)) (tgt := 52) dX12_idle_16 (by decide) (fun hc16 => ?_) (fun hc16 => ?_)
      · replace hf := it_f hf hc16
        exact hk52  hf _ _ _ hH hS (gLv_sub hl [0, 1, 2] rfl)
      · replace hf := it_t hf hc16
        refine lv_aload_n X.1 X.2.1 dX12_idle_19 rfl (lv_at hl.1 0 rfl) ?_
        refine g_get X cX12 hH (r := 29) (i := 0) (by decide) rfl 29 (by decide) k_1239 rfl (v := .ref (gAd G 53 0)) rfl dX12_idle_20 ?_
        refine lv_iload_n X.1 X.2.1 dX12_idle_23 rfl (lv_at hl.1 2 rfl) ?_
        obtain ⟨hg, hf_⟩ := og_e hf; clear hf; have hf := hf_; clear hf_
        have nd24 : nmI (M 53 0 x2.toNat) := hH.1.1 _ _ _
        refine g_iald X hH (r := 53) (i := 0) (by decide) rfl nx2 hg (v := M 53 0 x2.toNat) rfl dX12_idle_24 ?_
        refine g_if_le X nd24 (tgt := 52) dX12_idle_25 (by decide) (fun hc25 => ?_) (fun hc25 => ?_)
        · replace hf := it_f hf hc25
          exact hk52  hf _ _ _ hH hS (gLv_sub hl [0, 1, 2] rfl)
        · replace hf := it_t hf hc25
          refine lv_iload_n X.1 X.2.1 dX12_idle_28 rfl (lv_at hl.1 1 rfl) ?_
          refine lv_iconst X.1 X.2.1 dX12_idle_29 (v := iI (-1)) rfl ?_
          obtain ⟨k48, ek48, hf_⟩ := oj_e hf; clear hf; have hf := hf_; clear hf_
          have hk48 : k48 = some q → ∀ (H : Heap) (locs : List Loc) (ls : Array Slot), gH G M H → va_S (gA G) s.heap H locs → gLv ls 3 [(0, .ref (gAd G 29 0)), (2, .int (iI x2))] → W p l e { frames := 0, cells := 0, slots := 0, locals := 0 } s m args below meth c H locs 0 0 (MQ below (gQi G q M) args s 0 0 (gA G)) (F0 m 48 ls []) := by
            intro  hf H locs ls hH hS hl
            subst ek48
            refine lv_iload_n X.1 X.2.1 dX12_idle_48 rfl (lv_at hl.1 1 rfl) ?_
            refine lv_goto (tgt := 53) X.1 X.2.1 dX12_idle_49 (by decide) ?_
            exact hk53 x2 nx2 hf _ _ _ hH hS (gLv_sub hl [0, 1] rfl)
          clear ek48
          refine g_icmp_eq X nx1 (nmI_l (by decide)) (tgt := 48) dX12_idle_30 (by decide) (fun hc30 => ?_) (fun hc30 => ?_)
          · replace hf := it_t hf hc30
            exact hk48  hf _ _ _ hH hS (gLv_sub hl [0, 2] rfl)
          · replace hf := it_f hf hc30
            refine lv_aload_n X.1 X.2.1 dX12_idle_33 rfl (lv_at hl.1 0 rfl) ?_
            refine g_get X cX12 hH (r := 29) (i := 0) (by decide) rfl 29 (by decide) k_1239 rfl (v := .ref (gAd G 53 0)) rfl dX12_idle_34 ?_
            refine lv_iload_n X.1 X.2.1 dX12_idle_37 rfl (lv_at hl.1 2 rfl) ?_
            obtain ⟨hg, hf_⟩ := og_e hf; clear hf; have hf := hf_; clear hf_
            have nd38 : nmI (M 53 0 x2.toNat) := hH.1.1 _ _ _
            refine g_iald X hH (r := 53) (i := 0) (by decide) rfl nx2 hg (v := M 53 0 x2.toNat) rfl dX12_idle_38 ?_
            refine lv_aload_n X.1 X.2.1 dX12_idle_39 rfl (lv_at hl.1 0 rfl) ?_
            refine g_get X cX12 hH (r := 29) (i := 0) (by decide) rfl 29 (by decide) k_1239 rfl (v := .ref (gAd G 53 0)) rfl dX12_idle_40 ?_
            refine lv_iload_n X.1 X.2.1 dX12_idle_43 rfl (lv_at hl.1 1 rfl) ?_
            obtain ⟨hg, hf_⟩ := og_e hf; clear hf; have hf := hf_; clear hf_
            have nd44 : nmI (M 53 0 x1.toNat) := hH.1.1 _ _ _
            refine g_iald X hH (r := 53) (i := 0) (by decide) rfl nx1 hg (v := M 53 0 x1.toNat) rfl dX12_idle_44 ?_
            refine g_icmp_le X nd38 nd44 (tgt := 52) dX12_idle_45 (by decide) (fun hc45 => ?_) (fun hc45 => ?_)
            · replace hf := it_f hf hc45
              exact hk52  hf _ _ _ hH hS (gLv_sub hl [0, 1, 2] rfl)
            · replace hf := it_t hf hc45
              exact hk48  hf _ _ _ hH hS (gLv_sub hl [0, 2] rfl)
theorem m_X12_idle (l : Launch) (G : gG)  (M : gM) (q : (Int)) (hf : f_X12_idle M = some q) : gMet l yX12_idle cX12_idle 3 (some .int) 0 0 G M [.ref (gAd G 29 0)] (gQi G q M) := by
  refine gOfW (by decide) (by show _ ≤ 3; exact Nat.le_of_ble_eq_true rfl) rfl ?_
  intro p e s m below meth c X hH ls hl
  replace hl : gLv ls 3 [(0, .ref (gAd G 29 0))] := hl
  have hS : va_S (gA G) s.heap s.heap [] := va_S.rf
  generalize hargs : ([.ref (gAd G 29 0)] : List Value).toArray = args at X ⊢
  clear hargs
  unfold f_X12_idle at hf
  refine lv_iconst X.1 X.2.1 dX12_idle_0 (v := iI (-1)) rfl ?_
  refine g_istore_n X (lv' := [(1, .int (iI ((-1)))), (0, .ref (gAd G 29 0))]) dX12_idle_1 rfl hl (by decide) rfl (fun ls hl => ?_)
  refine lv_iconst X.1 X.2.1 dX12_idle_2 (v := iI 0) rfl ?_
  refine g_istore_n X (lv' := [(2, .int (iI 0)), (1, .int (iI ((-1)))), (0, .ref (gAd G 29 0))]) dX12_idle_3 rfl hl (by decide) rfl (fun ls hl => ?_)
  refine w_X12_idle_L4 X _ M q ?_ 64 ((-1)) (nmI_l (by decide)) 0 (nmI_l (by decide)) hf _ _ _ hH hS (gLv_sub hl [2, 1, 0] rfl)
  · intro y1_4_60 ny1_4_60 hf H locs ls hH hS hl
    refine lv_iload_n X.1 X.2.1 dX12_idle_60 rfl (lv_at hl.1 0 rfl) ?_
    have hq := Option.some.inj hf; subst hq
    exact gRetI X hH hS (res := y1_4_60) ny1_4_60 dX12_idle_61
theorem m_X12_ticksOf (l : Launch) (G : gG) (v1 : Int) (nv1 : nmI v1) (v2 : Int) (nv2 : nmI v2) (M : gM) (q : (Int)) (hf : f_X12_ticksOf v1 v2 M = some q) : gMet l yX12_ticksOf cX12_ticksOf 6 (some .int) 0 0 G M [.ref (gAd G 29 0), .int (iI v1), .int (iI v2)] (gQi G q M) := by
  refine gOfW (by decide) (by show _ ≤ 6; exact Nat.le_of_ble_eq_true rfl) rfl ?_
  intro p e s m below meth c X hH ls hl
  replace hl : gLv ls 6 [(0, .ref (gAd G 29 0)), (1, .int (iI v1)), (2, .int (iI v2))] := hl
  have hS : va_S (gA G) s.heap s.heap [] := va_S.rf
  generalize hargs : ([.ref (gAd G 29 0), .int (iI v1), .int (iI v2)] : List Value).toArray = args at X ⊢
  clear hargs
  unfold f_X12_ticksOf at hf
  refine lv_iload_n X.1 X.2.1 dX12_ticksOf_0 rfl (lv_at hl.1 1 rfl) ?_
  refine lv_iconst X.1 X.2.1 dX12_ticksOf_1 (v := iI 4) rfl ?_
  refine g_idiv X nv1 (nmI_l (by decide)) (by decide) dX12_ticksOf_2 ?_
  refine g_istore_n X (lv' := [(3, .int (iI (wI (v1.tdiv 4)))), (0, .ref (gAd G 29 0)), (1, .int (iI v1)), (2, .int (iI v2))]) dX12_ticksOf_3 rfl hl (by decide) rfl (fun ls hl => ?_)
  refine lv_bipush X.1 X.2.1 dX12_ticksOf_4 (v := iI 6) (by decide) ?_
  refine lv_iconst X.1 X.2.1 dX12_ticksOf_6 (v := iI 2) rfl ?_
  refine lv_aload_n X.1 X.2.1 dX12_ticksOf_7 rfl (lv_at hl.1 1 rfl) ?_
  refine g_get X cX12 hH (r := 29) (i := 0) (by decide) rfl 14 (by decide) k_1224 rfl (v := .ref (gAd G 41 0)) rfl dX12_ticksOf_8 ?_
  refine lv_iload_n X.1 X.2.1 dX12_ticksOf_11 rfl (lv_at hl.1 0 rfl) ?_
  obtain ⟨hg, hf_⟩ := og_e hf; clear hf; have hf := hf_; clear hf_
  have nd12 : nmI (M 41 0 (wI (v1.tdiv 4)).toNat) := hH.1.1 _ _ _
  refine g_iald X hH (r := 41) (i := 0) (by decide) rfl (nmI_w _) hg (v := M 41 0 (wI (v1.tdiv 4)).toNat) rfl dX12_ticksOf_12 ?_
  refine g_imul X dX12_ticksOf_13 ?_
  refine g_iadd X dX12_ticksOf_14 ?_
  refine lv_aload_n X.1 X.2.1 dX12_ticksOf_15 rfl (lv_at hl.1 1 rfl) ?_
  refine g_get X cX12 hH (r := 29) (i := 0) (by decide) rfl 8 (by decide) k_1218 rfl (v := .ref (gAd G 35 0)) rfl dX12_ticksOf_16 ?_
  refine lv_iload_n X.1 X.2.1 dX12_ticksOf_19 rfl (lv_at hl.1 0 rfl) ?_
  obtain ⟨hg, hf_⟩ := og_e hf; clear hf; have hf := hf_; clear hf_
  have nd20 : nmI (M 35 0 (wI (v1.tdiv 4)).toNat) := hH.1.1 _ _ _
  refine g_iald X hH (r := 35) (i := 0) (by decide) rfl (nmI_w _) hg (v := M 35 0 (wI (v1.tdiv 4)).toNat) rfl dX12_ticksOf_20 ?_
  refine lv_iconst X.1 X.2.1 dX12_ticksOf_21 (v := iI 1) rfl ?_
  obtain ⟨k30, ek30, hf_⟩ := oj_e hf; clear hf; have hf := hf_; clear hf_
  have hk30 : ∀ (xs1_30 : Int) (nxs1_30 : nmI xs1_30), k30 xs1_30 = some q → ∀ (H : Heap) (locs : List Loc) (ls : Array Slot), gH G M H → va_S (gA G) s.heap H locs → gLv ls 6 [(0, .ref (gAd G 29 0)), (2, .int (iI v2)), (3, .int (iI (wI (v1.tdiv 4))))] → W p l e { frames := 0, cells := 0, slots := 0, locals := 0 } s m args below meth c H locs 0 0 (MQ below (gQi G q M) args s 0 0 (gA G)) (F0 m 30 ls [.int (iI xs1_30), .int (iI (wI (6 + (wI (2 * (M 41 0 (wI (v1.tdiv 4)).toNat))))))]) := by
    intro xs1_30 nxs1_30 hf H locs ls hH hS hl
    subst ek30
    refine g_iadd X dX12_ticksOf_30 ?_
    refine g_istore X (lv' := [(4, .int (iI (wI ((wI (6 + (wI (2 * (M 41 0 (wI (v1.tdiv 4)).toNat))))) + xs1_30)))), (0, .ref (gAd G 29 0)), (2, .int (iI v2)), (3, .int (iI (wI (v1.tdiv 4))))]) dX12_ticksOf_31 hl (by decide) rfl (fun ls hl => ?_)
    refine lv_iload X.1 X.2.1 dX12_ticksOf_33 (lv_at hl.1 0 rfl) ?_
    refine lv_aload_n X.1 X.2.1 dX12_ticksOf_35 rfl (lv_at hl.1 1 rfl) ?_
    refine g_get X cX12 hH (r := 29) (i := 0) (by decide) rfl 29 (by decide) k_1239 rfl (v := .ref (gAd G 53 0)) rfl dX12_ticksOf_36 ?_
    refine lv_iload_n X.1 X.2.1 dX12_ticksOf_39 rfl (lv_at hl.1 2 rfl) ?_
    obtain ⟨hg, hf_⟩ := og_e hf; clear hf; have hf := hf_; clear hf_
    have nd40 : nmI (M 53 0 v2.toNat) := hH.1.1 _ _ _
    refine g_iald X hH (r := 53) (i := 0) (by decide) rfl nv2 hg (v := M 53 0 v2.toNat) rfl dX12_ticksOf_40 ?_
    refine g_iadd X dX12_ticksOf_41 ?_
    refine lv_iconst X.1 X.2.1 dX12_ticksOf_42 (v := iI 1) rfl ?_
    refine g_isub X dX12_ticksOf_43 ?_
    refine lv_aload_n X.1 X.2.1 dX12_ticksOf_44 rfl (lv_at hl.1 1 rfl) ?_
    refine g_get X cX12 hH (r := 29) (i := 0) (by decide) rfl 29 (by decide) k_1239 rfl (v := .ref (gAd G 53 0)) rfl dX12_ticksOf_45 ?_
    refine lv_iload_n X.1 X.2.1 dX12_ticksOf_48 rfl (lv_at hl.1 2 rfl) ?_
    obtain ⟨hg, hf_⟩ := og_e hf; clear hf; have hf := hf_; clear hf_
    have nd49 : nmI (M 53 0 v2.toNat) := hH.1.1 _ _ _
    refine g_iald X hH (r := 53) (i := 0) (by decide) rfl nv2 hg (v := M 53 0 v2.toNat) rfl dX12_ticksOf_49 ?_
    obtain ⟨hz, hf_⟩ := og_e hf; clear hf; have hf := hf_; clear hf_
    refine g_idiv X (nmI_w _) nd49 hz dX12_ticksOf_50 ?_
    refine g_istore X (lv' := [(5, .int (iI (wI ((wI ((wI ((wI ((wI (6 + (wI (2 * (M 41 0 (wI (v1.tdiv 4)).toNat))))) + xs1_30)) + (M 53 0 v2.toNat))) - 1)).tdiv (M 53 0 v2.toNat))))), (4, .int (iI (wI ((wI (6 + (wI (2 * (M 41 0 (wI (v1.tdiv 4)).toNat))))) + xs1_30)))), (0, .ref (gAd G 29 0)), (2, .int (iI v2)), (3, .int (iI (wI (v1.tdiv 4))))]) dX12_ticksOf_51 hl (by decide) rfl (fun ls hl => ?_)
    refine lv_iload X.1 X.2.1 dX12_ticksOf_53 (lv_at hl.1 0 rfl) ?_
    refine lv_aload_n X.1 X.2.1 dX12_ticksOf_55 rfl (lv_at hl.1 2 rfl) ?_
    refine g_get X cX12 hH (r := 29) (i := 0) (by decide) rfl 35 (by decide) k_1245 rfl (v := .ref (gAd G 59 0)) rfl dX12_ticksOf_56 ?_
    refine lv_iload_n X.1 X.2.1 dX12_ticksOf_59 rfl (lv_at hl.1 3 rfl) ?_
    obtain ⟨hg, hf_⟩ := og_e hf; clear hf; have hf := hf_; clear hf_
    have nd60 : nmI (M 59 0 v2.toNat) := hH.1.1 _ _ _
    refine g_iald X hH (r := 59) (i := 0) (by decide) rfl nv2 hg (v := M 59 0 v2.toNat) rfl dX12_ticksOf_60 ?_
    refine lv_aload_n X.1 X.2.1 dX12_ticksOf_61 rfl (lv_at hl.1 2 rfl) ?_
    refine g_get X cX12 hH (r := 29) (i := 0) (by decide) rfl 9 (by decide) k_1219 rfl (v := .ref (gAd G 36 0)) rfl dX12_ticksOf_62 ?_
    refine lv_iload_n X.1 X.2.1 dX12_ticksOf_65 rfl (lv_at hl.1 4 rfl) ?_
    obtain ⟨hg, hf_⟩ := og_e hf; clear hf; have hf := hf_; clear hf_
    have nd66 : nmI (M 36 0 (wI (v1.tdiv 4)).toNat) := hH.1.1 _ _ _
    refine g_iald X hH (r := 36) (i := 0) (by decide) rfl (nmI_w _) hg (v := M 36 0 (wI (v1.tdiv 4)).toNat) rfl dX12_ticksOf_66 ?_
    obtain ⟨k75, ek75, hf_⟩ := oj_e hf; clear hf; have hf := hf_; clear hf_
    have hk75 : ∀ (xs1_75 : Int) (nxs1_75 : nmI xs1_75), k75 xs1_75 = some q → ∀ (H : Heap) (locs : List Loc) (ls : Array Slot), gH G M H → va_S (gA G) s.heap H locs → gLv ls 6 [] → W p l e { frames := 0, cells := 0, slots := 0, locals := 0 } s m args below meth c H locs 0 0 (MQ below (gQi G q M) args s 0 0 (gA G)) (F0 m 75 ls [.int (iI xs1_75), .int (iI (wI ((wI ((wI ((wI ((wI (6 + (wI (2 * (M 41 0 (wI (v1.tdiv 4)).toNat))))) + xs1_30)) + (M 53 0 v2.toNat))) - 1)).tdiv (M 53 0 v2.toNat))))]) := by
      intro xs1_75 nxs1_75 hf H locs ls hH hS hl
      subst ek75
      refine g_isub X dX12_ticksOf_75 ?_
      refine g_istore X (lv' := [(5, .int (iI (wI ((wI ((wI ((wI ((wI ((wI (6 + (wI (2 * (M 41 0 (wI (v1.tdiv 4)).toNat))))) + xs1_30)) + (M 53 0 v2.toNat))) - 1)).tdiv (M 53 0 v2.toNat))) - xs1_75))))]) dX12_ticksOf_76 hl (by decide) rfl (fun ls hl => ?_)
      refine lv_iload X.1 X.2.1 dX12_ticksOf_78 (lv_at hl.1 0 rfl) ?_
      refine lv_iconst X.1 X.2.1 dX12_ticksOf_80 (v := iI 1) rfl ?_
      refine g_icmp_ge X (nmI_w _) (nmI_l (by decide)) (tgt := 88) dX12_ticksOf_81 (by decide) (fun hc81 => ?_) (fun hc81 => ?_)
      · replace hf := it_f hf hc81
        refine lv_iload X.1 X.2.1 dX12_ticksOf_88 (lv_at hl.1 0 rfl) ?_
        have hq := Option.some.inj hf; subst hq
        exact gRetI X hH hS (res := wI ((wI ((wI ((wI ((wI ((wI (6 + (wI (2 * (M 41 0 (wI (v1.tdiv 4)).toNat))))) + xs1_30)) + (M 53 0 v2.toNat))) - 1)).tdiv (M 53 0 v2.toNat))) - xs1_75)) (nmI_w _) dX12_ticksOf_90
      · replace hf := it_t hf hc81
        refine lv_iconst X.1 X.2.1 dX12_ticksOf_84 (v := iI 1) rfl ?_
        refine lv_goto (tgt := 90) X.1 X.2.1 dX12_ticksOf_85 (by decide) ?_
        have hq := Option.some.inj hf; subst hq
        exact gRetI X hH hS (res := 1) (nmI_l (by decide)) dX12_ticksOf_90
    clear ek75
    refine g_icmp_ne X nd60 nd66 (tgt := 74) dX12_ticksOf_67 (by decide) (fun hc67 => ?_) (fun hc67 => ?_)
    · replace hf := it_f hf hc67
      refine lv_iconst X.1 X.2.1 dX12_ticksOf_74 (v := iI 0) rfl ?_
      exact hk75 0 (nmI_l (by decide)) hf _ _ _ hH hS (gLv_sub hl [] rfl)
    · replace hf := it_t hf hc67
      refine lv_iconst X.1 X.2.1 dX12_ticksOf_70 (v := iI 2) rfl ?_
      refine lv_goto (tgt := 75) X.1 X.2.1 dX12_ticksOf_71 (by decide) ?_
      exact hk75 2 (nmI_l (by decide)) hf _ _ _ hH hS (gLv_sub hl [] rfl)
  clear ek30
  refine g_icmp_ne X nd20 (nmI_l (by decide)) (tgt := 29) dX12_ticksOf_22 (by decide) (fun hc22 => ?_) (fun hc22 => ?_)
  · replace hf := it_f hf hc22
    refine lv_iconst X.1 X.2.1 dX12_ticksOf_29 (v := iI 0) rfl ?_
    exact hk30 0 (nmI_l (by decide)) hf _ _ _ hH hS (gLv_sub hl [1, 3, 0] rfl)
  · replace hf := it_t hf hc22
    refine lv_iconst X.1 X.2.1 dX12_ticksOf_25 (v := iI 4) rfl ?_
    refine lv_goto (tgt := 30) X.1 X.2.1 dX12_ticksOf_26 (by decide) ?_
    exact hk30 4 (nmI_l (by decide)) hf _ _ _ hH hS (gLv_sub hl [1, 3, 0] rfl)
theorem m_X12_begins (l : Launch) (G : gG) (v1 : Int) (nv1 : nmI v1) (v2 : Int) (nv2 : nmI v2) (M : gM) (q : gM) (hf : f_X12_begins v1 v2 M = some q) : gMet l yX12_begins cX12_begins 4 none 3 69 G M [.ref (gAd G 29 0), .int (iI v1), .int (iI v2)] (gQv G q) := by
  refine gOfW (by decide) (by show _ ≤ 4; exact Nat.le_of_ble_eq_true rfl) rfl ?_
  intro p e s m below meth c X hH ls hl
  replace hl : gLv ls 4 [(0, .ref (gAd G 29 0)), (1, .int (iI v1)), (2, .int (iI v2))] := hl
  have hS : va_S (gA G) s.heap s.heap [] := va_S.rf
  generalize hargs : ([.ref (gAd G 29 0), .int (iI v1), .int (iI v2)] : List Value).toArray = args at X ⊢
  clear hargs
  unfold f_X12_begins at hf
  refine lv_aload_n X.1 X.2.1 dX12_begins_0 rfl (lv_at hl.1 0 rfl) ?_
  refine g_get X cX12 hH (r := 29) (i := 0) (by decide) rfl 30 (by decide) k_1240 rfl (v := .ref (gAd G 54 0)) rfl dX12_begins_1 ?_
  refine lv_iload_n X.1 X.2.1 dX12_begins_4 rfl (lv_at hl.1 2 rfl) ?_
  refine lv_iload_n X.1 X.2.1 dX12_begins_5 rfl (lv_at hl.1 1 rfl) ?_
  obtain ⟨hg, hf_⟩ := og_e hf; clear hf; have hf := hf_; clear hf_
  refine g_iast X hH hS (r := 54) (i := 0) (by decide) (fun _ => rfl) nv2 hg nv1 rfl (by decide) dX12_begins_6 (fun H locs hH hS => ?_)
  refine lv_aload_n X.1 X.2.1 dX12_begins_7 rfl (lv_at hl.1 0 rfl) ?_
  refine g_get X cX12 hH (r := 29) (i := 0) (by decide) rfl 32 (by decide) k_1242 rfl (v := .ref (gAd G 56 0)) rfl dX12_begins_8 ?_
  refine lv_iload_n X.1 X.2.1 dX12_begins_11 rfl (lv_at hl.1 2 rfl) ?_
  refine lv_aload_n X.1 X.2.1 dX12_begins_12 rfl (lv_at hl.1 0 rfl) ?_
  refine lv_iload_n X.1 X.2.1 dX12_begins_13 rfl (lv_at hl.1 1 rfl) ?_
  refine lv_iload_n X.1 X.2.1 dX12_begins_14 rfl (lv_at hl.1 2 rfl) ?_
  obtain ⟨r15, hq15, hf_⟩ := ob_e hf; clear hf; have hf := hf_; clear hf_
  refine gGoI (gRunV X hH (As := [.int (iI v1), .int (iI v2)]) (m_X12_ticksOf l G v1 nv1 v2 nv2 (gU M 54 0 v2.toNat v1) _ hq15) calX12_ticksOf k_1551 k_55 k_1549 (by decide) cX12 rfl ⟨by decide, by decide⟩ rfl hl rfl (Nat.le_of_ble_eq_true rfl) ⟨Nat.le_of_ble_eq_true rfl, Nat.le_of_ble_eq_true rfl⟩ dX12_begins_15) hS (fun H locs nr15 hH hS => ?_)
  obtain ⟨hg, hf_⟩ := og_e hf; clear hf; have hf := hf_; clear hf_
  refine g_iast X hH hS (r := 56) (i := 0) (by decide) (fun _ => rfl) nv2 hg nr15 rfl (by decide) dX12_begins_18 (fun H locs hH hS => ?_)
  refine lv_aload_n X.1 X.2.1 dX12_begins_19 rfl (lv_at hl.1 0 rfl) ?_
  refine g_get X cX12 hH (r := 29) (i := 0) (by decide) rfl 31 (by decide) k_1241 rfl (v := .ref (gAd G 55 0)) rfl dX12_begins_20 ?_
  refine lv_iload_n X.1 X.2.1 dX12_begins_23 rfl (lv_at hl.1 2 rfl) ?_
  refine lv_aload_n X.1 X.2.1 dX12_begins_24 rfl (lv_at hl.1 0 rfl) ?_
  refine g_get X cX12 hH (r := 29) (i := 0) (by decide) rfl 32 (by decide) k_1242 rfl (v := .ref (gAd G 56 0)) rfl dX12_begins_25 ?_
  refine lv_iload_n X.1 X.2.1 dX12_begins_28 rfl (lv_at hl.1 2 rfl) ?_
  obtain ⟨hg, hf_⟩ := og_e hf; clear hf; have hf := hf_; clear hf_
  have nd29 : nmI ((gU (gU M 54 0 v2.toNat v1) 56 0 v2.toNat r15) 56 0 v2.toNat) := hH.1.1 _ _ _
  refine g_iald X hH (r := 56) (i := 0) (by decide) rfl nv2 hg (v := (gU (gU M 54 0 v2.toNat v1) 56 0 v2.toNat r15) 56 0 v2.toNat) rfl dX12_begins_29 ?_
  obtain ⟨hg, hf_⟩ := og_e hf; clear hf; have hf := hf_; clear hf_
  refine g_iast X hH hS (r := 55) (i := 0) (by decide) (fun _ => rfl) nv2 hg nd29 rfl (by decide) dX12_begins_30 (fun H locs hH hS => ?_)
  refine lv_aload_n X.1 X.2.1 dX12_begins_31 rfl (lv_at hl.1 0 rfl) ?_
  refine g_get X cX12 hH (r := 29) (i := 0) (by decide) rfl 33 (by decide) k_1243 rfl (v := .ref (gAd G 57 0)) rfl dX12_begins_32 ?_
  refine lv_iload_n X.1 X.2.1 dX12_begins_35 rfl (lv_at hl.1 2 rfl) ?_
  refine lv_aload_n X.1 X.2.1 dX12_begins_36 rfl (lv_at hl.1 0 rfl) ?_
  refine lv_iload_n X.1 X.2.1 dX12_begins_37 rfl (lv_at hl.1 1 rfl) ?_
  obtain ⟨r38, hq38, hf_⟩ := ob_e hf; clear hf; have hf := hf_; clear hf_
  refine gGoI (gRunV X hH (As := [.int (iI v1)]) (m_X12_keyOf l G v1 nv1 (gU (gU (gU M 54 0 v2.toNat v1) 56 0 v2.toNat r15) 55 0 v2.toNat ((gU (gU M 54 0 v2.toNat v1) 56 0 v2.toNat r15) 56 0 v2.toNat)) _ hq38) calX12_keyOf k_1503 k_44 k_1501 (by decide) cX12 rfl ⟨by decide, by decide⟩ rfl hl rfl (Nat.le_of_ble_eq_true rfl) ⟨Nat.le_of_ble_eq_true rfl, Nat.le_of_ble_eq_true rfl⟩ dX12_begins_38) hS (fun H locs nr38 hH hS => ?_)
  obtain ⟨hg, hf_⟩ := og_e hf; clear hf; have hf := hf_; clear hf_
  refine g_iast X hH hS (r := 57) (i := 0) (by decide) (fun _ => rfl) nv2 hg nr38 rfl (by decide) dX12_begins_41 (fun H locs hH hS => ?_)
  refine lv_aload_n X.1 X.2.1 dX12_begins_42 rfl (lv_at hl.1 0 rfl) ?_
  refine lv_iload_n X.1 X.2.1 dX12_begins_43 rfl (lv_at hl.1 1 rfl) ?_
  refine lv_iconst X.1 X.2.1 dX12_begins_44 (v := iI 4) rfl ?_
  refine g_idiv X nv1 (nmI_l (by decide)) (by decide) dX12_begins_45 ?_
  refine lv_aload_n X.1 X.2.1 dX12_begins_46 rfl (lv_at hl.1 0 rfl) ?_
  refine g_get X cX12 hH (r := 29) (i := 0) (by decide) rfl 33 (by decide) k_1243 rfl (v := .ref (gAd G 57 0)) rfl dX12_begins_47 ?_
  refine lv_iload_n X.1 X.2.1 dX12_begins_50 rfl (lv_at hl.1 2 rfl) ?_
  obtain ⟨hg, hf_⟩ := og_e hf; clear hf; have hf := hf_; clear hf_
  have nd51 : nmI ((gU (gU (gU (gU M 54 0 v2.toNat v1) 56 0 v2.toNat r15) 55 0 v2.toNat ((gU (gU M 54 0 v2.toNat v1) 56 0 v2.toNat r15) 56 0 v2.toNat)) 57 0 v2.toNat r38) 57 0 v2.toNat) := hH.1.1 _ _ _
  refine g_iald X hH (r := 57) (i := 0) (by decide) rfl nv2 hg (v := (gU (gU (gU (gU M 54 0 v2.toNat v1) 56 0 v2.toNat r15) 55 0 v2.toNat ((gU (gU M 54 0 v2.toNat v1) 56 0 v2.toNat r15) 56 0 v2.toNat)) 57 0 v2.toNat r38) 57 0 v2.toNat) rfl dX12_begins_51 ?_
  obtain ⟨r52, hq52, hf_⟩ := ob_e hf; clear hf; have hf := hf_; clear hf_
  refine gGoI (gRunV X hH (As := [.int (iI (wI (v1.tdiv 4))), .int (iI ((gU (gU (gU (gU M 54 0 v2.toNat v1) 56 0 v2.toNat r15) 55 0 v2.toNat ((gU (gU M 54 0 v2.toNat v1) 56 0 v2.toNat r15) 56 0 v2.toNat)) 57 0 v2.toNat r38) 57 0 v2.toNat))]) (m_X12_foundBy l G (wI (v1.tdiv 4)) (nmI_w _) ((gU (gU (gU (gU M 54 0 v2.toNat v1) 56 0 v2.toNat r15) 55 0 v2.toNat ((gU (gU M 54 0 v2.toNat v1) 56 0 v2.toNat r15) 56 0 v2.toNat)) 57 0 v2.toNat r38) 57 0 v2.toNat) nd51 (gU (gU (gU (gU M 54 0 v2.toNat v1) 56 0 v2.toNat r15) 55 0 v2.toNat ((gU (gU M 54 0 v2.toNat v1) 56 0 v2.toNat r15) 56 0 v2.toNat)) 57 0 v2.toNat r38) _ hq52) calX12_foundBy k_1515 k_47 k_1513 (by decide) cX12 rfl ⟨by decide, by decide⟩ rfl hl rfl (Nat.le_of_ble_eq_true rfl) ⟨Nat.le_of_ble_eq_true rfl, Nat.le_of_ble_eq_true rfl⟩ dX12_begins_52) hS (fun H locs nr52 hH hS => ?_)
  refine g_istore_n X (lv' := [(3, .int (iI r52)), (0, .ref (gAd G 29 0)), (1, .int (iI v1)), (2, .int (iI v2))]) dX12_begins_55 rfl hl (by decide) rfl (fun ls hl => ?_)
  refine lv_aload_n X.1 X.2.1 dX12_begins_56 rfl (lv_at hl.1 1 rfl) ?_
  refine g_get X cX12 hH (r := 29) (i := 0) (by decide) rfl 34 (by decide) k_1244 rfl (v := .ref (gAd G 58 0)) rfl dX12_begins_57 ?_
  refine lv_iload_n X.1 X.2.1 dX12_begins_60 rfl (lv_at hl.1 3 rfl) ?_
  refine lv_iload_n X.1 X.2.1 dX12_begins_61 rfl (lv_at hl.1 0 rfl) ?_
  refine lv_iconst X.1 X.2.1 dX12_begins_62 (v := iI (-1)) rfl ?_
  obtain ⟨k76, ek76, hf_⟩ := oj_e hf; clear hf; have hf := hf_; clear hf_
  have hk76 : ∀ (xs2_76 : Int) (nxs2_76 : nmI xs2_76), k76 xs2_76 = some q → ∀ (H : Heap) (locs : List Loc) (ls : Array Slot), gH G (gU (gU (gU (gU M 54 0 v2.toNat v1) 56 0 v2.toNat r15) 55 0 v2.toNat ((gU (gU M 54 0 v2.toNat v1) 56 0 v2.toNat r15) 56 0 v2.toNat)) 57 0 v2.toNat r38) H → va_S (gA G) s.heap H locs → gLv ls 4 [(0, .ref (gAd G 29 0)), (1, .int (iI v1))] → W p l e { frames := 3, cells := 0, slots := 0, locals := 69 } s m args below meth c H locs 0 0 (MQ below (gQv G q) args s 0 0 (gA G)) (F0 m 76 ls [.int (iI xs2_76), .int (iI v2), .ref (gAd G 58 0)]) := by
    intro xs2_76 nxs2_76 hf H locs ls hH hS hl
    subst ek76
    obtain ⟨hg, hf_⟩ := og_e hf; clear hf; have hf := hf_; clear hf_
    refine g_iast X hH hS (r := 58) (i := 0) (by decide) (fun _ => rfl) nv2 hg nxs2_76 rfl (by decide) dX12_begins_76 (fun H locs hH hS => ?_)
    refine lv_aload_n X.1 X.2.1 dX12_begins_77 rfl (lv_at hl.1 0 rfl) ?_
    refine g_get X cX12 hH (r := 29) (i := 0) (by decide) rfl 38 (by decide) k_1248 rfl (v := .ref (gAd G 60 0)) rfl dX12_begins_78 ?_
    refine lv_iload_n X.1 X.2.1 dX12_begins_81 rfl (lv_at hl.1 1 rfl) ?_
    refine lv_iconst X.1 X.2.1 dX12_begins_82 (v := iI 2) rfl ?_
    obtain ⟨hg, hf_⟩ := og_e hf; clear hf; have hf := hf_; clear hf_
    refine g_iast X hH hS (r := 60) (i := 0) (by decide) (fun _ => rfl) nv1 hg (nmI_l (by decide)) rfl (by decide) dX12_begins_83 (fun H locs hH hS => ?_)
    refine lv_aload_n X.1 X.2.1 dX12_begins_84 rfl (lv_at hl.1 0 rfl) ?_
    refine g_get X cX12 hH (r := 29) (i := 0) (by decide) rfl 47 (by decide) k_1257 rfl (v := .ref (gAd G 68 0)) rfl dX12_begins_85 ?_
    refine lv_iconst X.1 X.2.1 dX12_begins_88 (v := iI 0) rfl ?_
    refine lv_dup2_11 X.1 X.2.1 dX12_begins_89 rfl rfl ?_
    obtain ⟨hg, hf_⟩ := og_e hf; clear hf; have hf := hf_; clear hf_
    have nd90 : nmI ((gU (gU (gU (gU (gU (gU M 54 0 v2.toNat v1) 56 0 v2.toNat r15) 55 0 v2.toNat ((gU (gU M 54 0 v2.toNat v1) 56 0 v2.toNat r15) 56 0 v2.toNat)) 57 0 v2.toNat r38) 58 0 v2.toNat xs2_76) 60 0 v1.toNat 2) 68 0 0) := hH.1.1 _ _ _
    refine g_iald X hH (r := 68) (i := 0) (by decide) rfl (nmI_l (by decide)) hg (v := (gU (gU (gU (gU (gU (gU M 54 0 v2.toNat v1) 56 0 v2.toNat r15) 55 0 v2.toNat ((gU (gU M 54 0 v2.toNat v1) 56 0 v2.toNat r15) 56 0 v2.toNat)) 57 0 v2.toNat r38) 58 0 v2.toNat xs2_76) 60 0 v1.toNat 2) 68 0 0) rfl dX12_begins_90 ?_
    refine lv_iconst X.1 X.2.1 dX12_begins_91 (v := iI 1) rfl ?_
    refine g_iadd X dX12_begins_92 ?_
    obtain ⟨hg, hf_⟩ := og_e hf; clear hf; have hf := hf_; clear hf_
    refine g_iast X hH hS (r := 68) (i := 0) (by decide) (fun _ => rfl) (nmI_l (by decide)) hg (nmI_w _) rfl (by decide) dX12_begins_93 (fun H locs hH hS => ?_)
    have hq := Option.some.inj hf; subst hq
    exact gRetV X hH hS dX12_begins_94
  clear ek76
  refine g_icmp_ne X nr52 (nmI_l (by decide)) (tgt := 70) dX12_begins_63 (by decide) (fun hc63 => ?_) (fun hc63 => ?_)
  · replace hf := it_f hf hc63
    refine lv_aload_n X.1 X.2.1 dX12_begins_70 rfl (lv_at hl.1 1 rfl) ?_
    refine g_get X cX12 hH (r := 29) (i := 0) (by decide) rfl 1 (by decide) k_1211 rfl (v := .ref (gAd G 30 0)) rfl dX12_begins_71 ?_
    refine lv_iload_n X.1 X.2.1 dX12_begins_74 rfl (lv_at hl.1 0 rfl) ?_
    obtain ⟨hg, hf_⟩ := og_e hf; clear hf; have hf := hf_; clear hf_
    have nd75 : nmI ((gU (gU (gU (gU M 54 0 v2.toNat v1) 56 0 v2.toNat r15) 55 0 v2.toNat ((gU (gU M 54 0 v2.toNat v1) 56 0 v2.toNat r15) 56 0 v2.toNat)) 57 0 v2.toNat r38) 30 0 r52.toNat) := hH.1.1 _ _ _
    refine g_iald X hH (r := 30) (i := 0) (by decide) rfl nr52 hg (v := (gU (gU (gU (gU M 54 0 v2.toNat v1) 56 0 v2.toNat r15) 55 0 v2.toNat ((gU (gU M 54 0 v2.toNat v1) 56 0 v2.toNat r15) 56 0 v2.toNat)) 57 0 v2.toNat r38) 30 0 r52.toNat) rfl dX12_begins_75 ?_
    exact hk76 ((gU (gU (gU (gU M 54 0 v2.toNat v1) 56 0 v2.toNat r15) 55 0 v2.toNat ((gU (gU M 54 0 v2.toNat v1) 56 0 v2.toNat r15) 56 0 v2.toNat)) 57 0 v2.toNat r38) 30 0 r52.toNat) nd75 hf _ _ _ hH hS (gLv_sub hl [1, 2] rfl)
  · replace hf := it_t hf hc63
    refine lv_iconst X.1 X.2.1 dX12_begins_66 (v := iI (-1)) rfl ?_
    refine lv_goto (tgt := 76) X.1 X.2.1 dX12_begins_67 (by decide) ?_
    exact hk76 ((-1)) (nmI_l (by decide)) hf _ _ _ hH hS (gLv_sub hl [1, 2] rfl)
theorem w_X12_keep_L3 {G : gG} {p : Program} {l : Launch} {e : Env} {s : State} {m : MethodId} {args : Array Value} {below : List Frame} {meth : Method} {c : Code} (X : gX G p s m args meth c RX12 cX12_keep 7 none (gWs yX12_keep cX12_keep 7 none)) (k86 : Option gM) (z1 : Int) (nz1 : nmI z1) (z2 : Int) (nz2 : nmI z2) (z3 : Int) (nz3 : nmI z3) (z4 : Int) (nz4 : nmI z4) (z5 : Int) (nz5 : nmI z5) (M : gM) (q : gM) (hk86 : k86 = some q → ∀ (H : Heap) (locs : List Loc) (ls : Array Slot), gH G M H → va_S (gA G) s.heap H locs → gLv ls 7 [(0, .ref (gAd G 29 0)), (1, .int (iI z1)), (2, .int (iI z2)), (3, .int (iI z3)), (4, .int (iI z4)), (5, .int (iI z5))] → W p l e { frames := 2, cells := 0, slots := 0, locals := 44 } s m args below meth c H locs 0 0 (MQ below (gQv G q) args s 0 0 (gA G)) (F0 m 86 ls [])) : ∀ (n : Nat) (x6 : Int) (nx6 : nmI x6), f_X12_keep_L3 k86 z1 z2 z3 z4 z5 M n x6 = some q → ∀ (H : Heap) (locs : List Loc) (ls : Array Slot), gH G M H → va_S (gA G) s.heap H locs → gLv ls 7 [(0, .ref (gAd G 29 0)), (1, .int (iI z1)), (2, .int (iI z2)), (3, .int (iI z3)), (4, .int (iI z4)), (5, .int (iI z5)), (6, .int (iI x6))] → W p l e { frames := 2, cells := 0, slots := 0, locals := 44 } s m args below meth c H locs 0 0 (MQ below (gQv G q) args s 0 0 (gA G)) (F0 m 3 ls []) := by
  intro n
  induction n with
  | zero =>
    intro x6 nx6 hf
    cases hf
  | succ n ih =>
    intro x6 nx6 hf H locs ls hH hS hl
    rw [f_X12_keep_L3] at hf
    refine lv_iload X.1 X.2.1 dX12_keep_3 (lv_at hl.1 6 rfl) ?_
    refine lv_aload_n X.1 X.2.1 dX12_keep_5 rfl (lv_at hl.1 0 rfl) ?_
    have nd6 : nmI (M 29 0 21) := hH.1.1 _ _ _
    refine g_get X cX12 hH (r := 29) (i := 0) (by decide) rfl 21 (by decide) k_1231 rfl (v := .int (iI (M 29 0 21))) rfl dX12_keep_6 ?_
    refine g_icmp_ge X nx6 nd6 (tgt := 86) dX12_keep_9 (by decide) (fun hc9 => ?_) (fun hc9 => ?_)
    · replace hf := it_f hf hc9
      exact hk86  hf _ _ _ hH hS (gLv_sub hl [0, 1, 2, 3, 4, 5] rfl)
    · replace hf := it_t hf hc9
      refine lv_aload_n X.1 X.2.1 dX12_keep_12 rfl (lv_at hl.1 0 rfl) ?_
      refine g_get X cX12 hH (r := 29) (i := 0) (by decide) rfl 22 (by decide) k_1232 rfl (v := .ref (gAd G 46 0)) rfl dX12_keep_13 ?_
      refine lv_iload X.1 X.2.1 dX12_keep_16 (lv_at hl.1 6 rfl) ?_
      obtain ⟨hg, hf_⟩ := og_e hf; clear hf; have hf := hf_; clear hf_
      have nd18 : nmI (M 46 0 x6.toNat) := hH.1.1 _ _ _
      refine g_iald X hH (r := 46) (i := 0) (by decide) rfl nx6 hg (v := M 46 0 x6.toNat) rfl dX12_keep_18 ?_
      refine lv_iload_n X.1 X.2.1 dX12_keep_19 rfl (lv_at hl.1 1 rfl) ?_
      obtain ⟨k80, ek80, hf_⟩ := oj_e hf; clear hf; have hf := hf_; clear hf_
      have hk80 : k80 = some q → ∀ (H : Heap) (locs : List Loc) (ls : Array Slot), gH G M H → va_S (gA G) s.heap H locs → gLv ls 7 [(0, .ref (gAd G 29 0)), (1, .int (iI z1)), (2, .int (iI z2)), (3, .int (iI z3)), (4, .int (iI z4)), (5, .int (iI z5)), (6, .int (iI x6))] → W p l e { frames := 2, cells := 0, slots := 0, locals := 44 } s m args below meth c H locs 0 0 (MQ below (gQv G q) args s 0 0 (gA G)) (F0 m 80 ls []) := by
        intro  hf H locs ls hH hS hl
        subst ek80
        refine g_iinc X (a := x6) (lv' := [(6, .int (iI (wI (x6 + 1)))), (0, .ref (gAd G 29 0)), (1, .int (iI z1)), (2, .int (iI z2)), (3, .int (iI z3)), (4, .int (iI z4)), (5, .int (iI z5))]) dX12_keep_80 hl (k := 6) rfl (by decide) rfl (fun ls hl => ?_)
        refine lv_goto (tgt := 3) X.1 X.2.1 dX12_keep_83 (by decide) ?_
        exact ih (wI (x6 + 1)) (nmI_w _) hf _ _ _ hH hS (gLv_sub hl [1, 2, 3, 4, 5, 6, 0] rfl)
      clear ek80
      refine g_icmp_ne X nd18 nz1 (tgt := 80) dX12_keep_20 (by decide) (fun hc20 => ?_) (fun hc20 => ?_)
      · replace hf := it_f hf hc20
        exact hk80  hf _ _ _ hH hS (gLv_sub hl [0, 1, 2, 3, 4, 5, 6] rfl)
      · replace hf := it_t hf hc20
        refine lv_aload_n X.1 X.2.1 dX12_keep_23 rfl (lv_at hl.1 0 rfl) ?_
        refine g_get X cX12 hH (r := 29) (i := 0) (by decide) rfl 23 (by decide) k_1233 rfl (v := .ref (gAd G 47 0)) rfl dX12_keep_24 ?_
        refine lv_iload X.1 X.2.1 dX12_keep_27 (lv_at hl.1 6 rfl) ?_
        obtain ⟨hg, hf_⟩ := og_e hf; clear hf; have hf := hf_; clear hf_
        have nd29 : nmI (M 47 0 x6.toNat) := hH.1.1 _ _ _
        refine g_iald X hH (r := 47) (i := 0) (by decide) rfl nx6 hg (v := M 47 0 x6.toNat) rfl dX12_keep_29 ?_
        refine lv_iload_n X.1 X.2.1 dX12_keep_30 rfl (lv_at hl.1 2 rfl) ?_
        refine g_icmp_ne X nd29 nz2 (tgt := 80) dX12_keep_31 (by decide) (fun hc31 => ?_) (fun hc31 => ?_)
        · replace hf := it_f hf hc31
          exact hk80  hf _ _ _ hH hS (gLv_sub hl [0, 1, 2, 3, 4, 5, 6] rfl)
        · replace hf := it_t hf hc31
          refine lv_aload_n X.1 X.2.1 dX12_keep_34 rfl (lv_at hl.1 0 rfl) ?_
          refine g_get X cX12 hH (r := 29) (i := 0) (by decide) rfl 24 (by decide) k_1234 rfl (v := .ref (gAd G 48 0)) rfl dX12_keep_35 ?_
          refine lv_iload X.1 X.2.1 dX12_keep_38 (lv_at hl.1 6 rfl) ?_
          obtain ⟨hg, hf_⟩ := og_e hf; clear hf; have hf := hf_; clear hf_
          have nd40 : nmI (M 48 0 x6.toNat) := hH.1.1 _ _ _
          refine g_iald X hH (r := 48) (i := 0) (by decide) rfl nx6 hg (v := M 48 0 x6.toNat) rfl dX12_keep_40 ?_
          refine lv_iload_n X.1 X.2.1 dX12_keep_41 rfl (lv_at hl.1 3 rfl) ?_
          refine g_icmp_ne X nd40 nz3 (tgt := 80) dX12_keep_42 (by decide) (fun hc42 => ?_) (fun hc42 => ?_)
          · replace hf := it_f hf hc42
            exact hk80  hf _ _ _ hH hS (gLv_sub hl [0, 1, 2, 3, 4, 5, 6] rfl)
          · replace hf := it_t hf hc42
            refine lv_aload_n X.1 X.2.1 dX12_keep_45 rfl (lv_at hl.1 0 rfl) ?_
            refine g_get X cX12 hH (r := 29) (i := 0) (by decide) rfl 25 (by decide) k_1235 rfl (v := .ref (gAd G 49 0)) rfl dX12_keep_46 ?_
            refine lv_iload X.1 X.2.1 dX12_keep_49 (lv_at hl.1 6 rfl) ?_
            obtain ⟨hg, hf_⟩ := og_e hf; clear hf; have hf := hf_; clear hf_
            have nd51 : nmI (M 49 0 x6.toNat) := hH.1.1 _ _ _
            refine g_iald X hH (r := 49) (i := 0) (by decide) rfl nx6 hg (v := M 49 0 x6.toNat) rfl dX12_keep_51 ?_
            refine lv_iload X.1 X.2.1 dX12_keep_52 (lv_at hl.1 4 rfl) ?_
            refine g_icmp_ne X nd51 nz4 (tgt := 80) dX12_keep_54 (by decide) (fun hc54 => ?_) (fun hc54 => ?_)
            · replace hf := it_f hf hc54
              exact hk80  hf _ _ _ hH hS (gLv_sub hl [0, 1, 2, 3, 4, 5, 6] rfl)
            · replace hf := it_t hf hc54
              refine lv_aload_n X.1 X.2.1 dX12_keep_57 rfl (lv_at hl.1 0 rfl) ?_
              refine g_get X cX12 hH (r := 29) (i := 0) (by decide) rfl 26 (by decide) k_1236 rfl (v := .ref (gAd G 50 0)) rfl dX12_keep_58 ?_
              refine lv_iload X.1 X.2.1 dX12_keep_61 (lv_at hl.1 6 rfl) ?_
              obtain ⟨hg, hf_⟩ := og_e hf; clear hf; have hf := hf_; clear hf_
              have nd63 : nmI (M 50 0 x6.toNat) := hH.1.1 _ _ _
              refine g_iald X hH (r := 50) (i := 0) (by decide) rfl nx6 hg (v := M 50 0 x6.toNat) rfl dX12_keep_63 ?_
              refine lv_iload X.1 X.2.1 dX12_keep_64 (lv_at hl.1 5 rfl) ?_
              refine g_icmp_ne X nd63 nz5 (tgt := 80) dX12_keep_66 (by decide) (fun hc66 => ?_) (fun hc66 => ?_)
              · replace hf := it_f hf hc66
                exact hk80  hf _ _ _ hH hS (gLv_sub hl [0, 1, 2, 3, 4, 5, 6] rfl)
              · replace hf := it_t hf hc66
                refine lv_aload_n X.1 X.2.1 dX12_keep_69 rfl (lv_at hl.1 0 rfl) ?_
                refine g_get X cX12 hH (r := 29) (i := 0) (by decide) rfl 28 (by decide) k_1238 rfl (v := .ref (gAd G 52 0)) rfl dX12_keep_70 ?_
                refine lv_iload X.1 X.2.1 dX12_keep_73 (lv_at hl.1 6 rfl) ?_
                obtain ⟨hg, hf_⟩ := og_e hf; clear hf; have hf := hf_; clear hf_
                have nd75 : nmI (M 52 0 x6.toNat) := hH.1.1 _ _ _
                have bd75 := hH.1.2.1 52 0 x6.toNat rfl
                refine g_zald X hH (r := 52) (i := 0) (by decide) rfl nx6 hg (v := M 52 0 x6.toNat) rfl dX12_keep_75 ?_
                refine g_if_ne X nd75 (tgt := 80) dX12_keep_76 (by decide) (fun hc76 => ?_) (fun hc76 => ?_)
                · replace hf := it_f hf hc76
                  exact hk80  hf _ _ _ hH hS (gLv_sub hl [0, 1, 2, 3, 4, 5, 6] rfl)
                · replace hf := it_t hf hc76
                  have hq := Option.some.inj hf; subst hq
                  exact gRetV X hH hS dX12_keep_79
theorem w_X12_keep_L108 {G : gG} {p : Program} {l : Launch} {e : Env} {s : State} {m : MethodId} {args : Array Value} {below : List Frame} {meth : Method} {c : Code} (X : gX G p s m args meth c RX12 cX12_keep 7 none (gWs yX12_keep cX12_keep 7 none)) (k235 : gM → Option gM) (z1 : Int) (nz1 : nmI z1) (z2 : Int) (nz2 : nmI z2) (z3 : Int) (nz3 : nmI z3) (z4 : Int) (nz4 : nmI z4) (z5 : Int) (nz5 : nmI z5) (q : gM) (hk235 : ∀  (M : gM), k235 M = some q → ∀ (H : Heap) (locs : List Loc) (ls : Array Slot), gH G M H → va_S (gA G) s.heap H locs → gLv ls 7 [(0, .ref (gAd G 29 0)), (1, .int (iI z1)), (2, .int (iI z2)), (3, .int (iI z3)), (4, .int (iI z4)), (5, .int (iI z5))] → W p l e { frames := 2, cells := 0, slots := 0, locals := 44 } s m args below meth c H locs 0 0 (MQ below (gQv G q) args s 0 0 (gA G)) (F0 m 235 ls [])) : ∀ (n : Nat) (x6 : Int) (nx6 : nmI x6) (M : gM), f_X12_keep_L108 k235 z1 z2 z3 z4 z5 n x6 M = some q → ∀ (H : Heap) (locs : List Loc) (ls : Array Slot), gH G M H → va_S (gA G) s.heap H locs → gLv ls 7 [(0, .ref (gAd G 29 0)), (1, .int (iI z1)), (2, .int (iI z2)), (3, .int (iI z3)), (4, .int (iI z4)), (5, .int (iI z5)), (6, .int (iI x6))] → W p l e { frames := 2, cells := 0, slots := 0, locals := 44 } s m args below meth c H locs 0 0 (MQ below (gQv G q) args s 0 0 (gA G)) (F0 m 108 ls []) := by
  intro n
  induction n with
  | zero =>
    intro x6 nx6 M hf
    cases hf
  | succ n ih =>
    intro x6 nx6 M hf H locs ls hH hS hl
    rw [f_X12_keep_L108] at hf
    refine lv_iload X.1 X.2.1 dX12_keep_108 (lv_at hl.1 6 rfl) ?_
    refine lv_aload_n X.1 X.2.1 dX12_keep_110 rfl (lv_at hl.1 0 rfl) ?_
    have nd111 : nmI (M 29 0 21) := hH.1.1 _ _ _
    refine g_get X cX12 hH (r := 29) (i := 0) (by decide) rfl 21 (by decide) k_1231 rfl (v := .int (iI (M 29 0 21))) rfl dX12_keep_111 ?_
    refine g_icmp_ge X nx6 nd111 (tgt := 235) dX12_keep_114 (by decide) (fun hc114 => ?_) (fun hc114 => ?_)
    · replace hf := it_f hf hc114
      exact hk235 M hf _ _ _ hH hS (gLv_sub hl [0, 1, 2, 3, 4, 5] rfl)
    · replace hf := it_t hf hc114
      refine lv_aload_n X.1 X.2.1 dX12_keep_117 rfl (lv_at hl.1 0 rfl) ?_
      refine g_get X cX12 hH (r := 29) (i := 0) (by decide) rfl 22 (by decide) k_1232 rfl (v := .ref (gAd G 46 0)) rfl dX12_keep_118 ?_
      refine lv_iload X.1 X.2.1 dX12_keep_121 (lv_at hl.1 6 rfl) ?_
      refine lv_aload_n X.1 X.2.1 dX12_keep_123 rfl (lv_at hl.1 0 rfl) ?_
      refine g_get X cX12 hH (r := 29) (i := 0) (by decide) rfl 22 (by decide) k_1232 rfl (v := .ref (gAd G 46 0)) rfl dX12_keep_124 ?_
      refine lv_iload X.1 X.2.1 dX12_keep_127 (lv_at hl.1 6 rfl) ?_
      refine lv_iconst X.1 X.2.1 dX12_keep_129 (v := iI 1) rfl ?_
      refine g_iadd X dX12_keep_130 ?_
      obtain ⟨hg, hf_⟩ := og_e hf; clear hf; have hf := hf_; clear hf_
      have nd131 : nmI (M 46 0 (wI (x6 + 1)).toNat) := hH.1.1 _ _ _
      refine g_iald X hH (r := 46) (i := 0) (by decide) rfl (nmI_w _) hg (v := M 46 0 (wI (x6 + 1)).toNat) rfl dX12_keep_131 ?_
      obtain ⟨hg, hf_⟩ := og_e hf; clear hf; have hf := hf_; clear hf_
      refine g_iast X hH hS (r := 46) (i := 0) (by decide) (fun _ => rfl) nx6 hg nd131 rfl (by decide) dX12_keep_132 (fun H locs hH hS => ?_)
      refine lv_aload_n X.1 X.2.1 dX12_keep_133 rfl (lv_at hl.1 0 rfl) ?_
      refine g_get X cX12 hH (r := 29) (i := 0) (by decide) rfl 23 (by decide) k_1233 rfl (v := .ref (gAd G 47 0)) rfl dX12_keep_134 ?_
      refine lv_iload X.1 X.2.1 dX12_keep_137 (lv_at hl.1 6 rfl) ?_
      refine lv_aload_n X.1 X.2.1 dX12_keep_139 rfl (lv_at hl.1 0 rfl) ?_
      refine g_get X cX12 hH (r := 29) (i := 0) (by decide) rfl 23 (by decide) k_1233 rfl (v := .ref (gAd G 47 0)) rfl dX12_keep_140 ?_
      refine lv_iload X.1 X.2.1 dX12_keep_143 (lv_at hl.1 6 rfl) ?_
      refine lv_iconst X.1 X.2.1 dX12_keep_145 (v := iI 1) rfl ?_
      refine g_iadd X dX12_keep_146 ?_
      obtain ⟨hg, hf_⟩ := og_e hf; clear hf; have hf := hf_; clear hf_
      have nd147 : nmI ((gU M 46 0 x6.toNat (M 46 0 (wI (x6 + 1)).toNat)) 47 0 (wI (x6 + 1)).toNat) := hH.1.1 _ _ _
      refine g_iald X hH (r := 47) (i := 0) (by decide) rfl (nmI_w _) hg (v := (gU M 46 0 x6.toNat (M 46 0 (wI (x6 + 1)).toNat)) 47 0 (wI (x6 + 1)).toNat) rfl dX12_keep_147 ?_
      obtain ⟨hg, hf_⟩ := og_e hf; clear hf; have hf := hf_; clear hf_
      refine g_iast X hH hS (r := 47) (i := 0) (by decide) (fun _ => rfl) nx6 hg nd147 rfl (by decide) dX12_keep_148 (fun H locs hH hS => ?_)
      refine lv_aload_n X.1 X.2.1 dX12_keep_149 rfl (lv_at hl.1 0 rfl) ?_
      refine g_get X cX12 hH (r := 29) (i := 0) (by decide) rfl 24 (by decide) k_1234 rfl (v := .ref (gAd G 48 0)) rfl dX12_keep_150 ?_
      refine lv_iload X.1 X.2.1 dX12_keep_153 (lv_at hl.1 6 rfl) ?_
      refine lv_aload_n X.1 X.2.1 dX12_keep_155 rfl (lv_at hl.1 0 rfl) ?_
      refine g_get X cX12 hH (r := 29) (i := 0) (by decide) rfl 24 (by decide) k_1234 rfl (v := .ref (gAd G 48 0)) rfl dX12_keep_156 ?_
      refine lv_iload X.1 X.2.1 dX12_keep_159 (lv_at hl.1 6 rfl) ?_
      refine lv_iconst X.1 X.2.1 dX12_keep_161 (v := iI 1) rfl ?_
      refine g_iadd X dX12_keep_162 ?_
      obtain ⟨hg, hf_⟩ := og_e hf; clear hf; have hf := hf_; clear hf_
      have nd163 : nmI ((gU (gU M 46 0 x6.toNat (M 46 0 (wI (x6 + 1)).toNat)) 47 0 x6.toNat ((gU M 46 0 x6.toNat (M 46 0 (wI (x6 + 1)).toNat)) 47 0 (wI (x6 + 1)).toNat)) 48 0 (wI (x6 + 1)).toNat) := hH.1.1 _ _ _
      refine g_iald X hH (r := 48) (i := 0) (by decide) rfl (nmI_w _) hg (v := (gU (gU M 46 0 x6.toNat (M 46 0 (wI (x6 + 1)).toNat)) 47 0 x6.toNat ((gU M 46 0 x6.toNat (M 46 0 (wI (x6 + 1)).toNat)) 47 0 (wI (x6 + 1)).toNat)) 48 0 (wI (x6 + 1)).toNat) rfl dX12_keep_163 ?_
      obtain ⟨hg, hf_⟩ := og_e hf; clear hf; have hf := hf_; clear hf_
      refine g_iast X hH hS (r := 48) (i := 0) (by decide) (fun _ => rfl) nx6 hg nd163 rfl (by decide) dX12_keep_164 (fun H locs hH hS => ?_)
      refine lv_aload_n X.1 X.2.1 dX12_keep_165 rfl (lv_at hl.1 0 rfl) ?_
      refine g_get X cX12 hH (r := 29) (i := 0) (by decide) rfl 25 (by decide) k_1235 rfl (v := .ref (gAd G 49 0)) rfl dX12_keep_166 ?_
      refine lv_iload X.1 X.2.1 dX12_keep_169 (lv_at hl.1 6 rfl) ?_
      refine lv_aload_n X.1 X.2.1 dX12_keep_171 rfl (lv_at hl.1 0 rfl) ?_
      refine g_get X cX12 hH (r := 29) (i := 0) (by decide) rfl 25 (by decide) k_1235 rfl (v := .ref (gAd G 49 0)) rfl dX12_keep_172 ?_
      refine lv_iload X.1 X.2.1 dX12_keep_175 (lv_at hl.1 6 rfl) ?_
      refine lv_iconst X.1 X.2.1 dX12_keep_177 (v := iI 1) rfl ?_
      refine g_iadd X dX12_keep_178 ?_
      obtain ⟨hg, hf_⟩ := og_e hf; clear hf; have hf := hf_; clear hf_
      have nd179 : nmI ((gU (gU (gU M 46 0 x6.toNat (M 46 0 (wI (x6 + 1)).toNat)) 47 0 x6.toNat ((gU M 46 0 x6.toNat (M 46 0 (wI (x6 + 1)).toNat)) 47 0 (wI (x6 + 1)).toNat)) 48 0 x6.toNat ((gU (gU M 46 0 x6.toNat (M 46 0 (wI (x6 + 1)).toNat)) 47 0 x6.toNat ((gU M 46 0 x6.toNat (M 46 0 (wI (x6 + 1)).toNat)) 47 0 (wI (x6 + 1)).toNat)) 48 0 (wI (x6 + 1)).toNat)) 49 0 (wI (x6 + 1)).toNat) := hH.1.1 _ _ _
      refine g_iald X hH (r := 49) (i := 0) (by decide) rfl (nmI_w _) hg (v := (gU (gU (gU M 46 0 x6.toNat (M 46 0 (wI (x6 + 1)).toNat)) 47 0 x6.toNat ((gU M 46 0 x6.toNat (M 46 0 (wI (x6 + 1)).toNat)) 47 0 (wI (x6 + 1)).toNat)) 48 0 x6.toNat ((gU (gU M 46 0 x6.toNat (M 46 0 (wI (x6 + 1)).toNat)) 47 0 x6.toNat ((gU M 46 0 x6.toNat (M 46 0 (wI (x6 + 1)).toNat)) 47 0 (wI (x6 + 1)).toNat)) 48 0 (wI (x6 + 1)).toNat)) 49 0 (wI (x6 + 1)).toNat) rfl dX12_keep_179 ?_
      obtain ⟨hg, hf_⟩ := og_e hf; clear hf; have hf := hf_; clear hf_
      refine g_iast X hH hS (r := 49) (i := 0) (by decide) (fun _ => rfl) nx6 hg nd179 rfl (by decide) dX12_keep_180 (fun H locs hH hS => ?_)
      refine lv_aload_n X.1 X.2.1 dX12_keep_181 rfl (lv_at hl.1 0 rfl) ?_
      refine g_get X cX12 hH (r := 29) (i := 0) (by decide) rfl 26 (by decide) k_1236 rfl (v := .ref (gAd G 50 0)) rfl dX12_keep_182 ?_
      refine lv_iload X.1 X.2.1 dX12_keep_185 (lv_at hl.1 6 rfl) ?_
      refine lv_aload_n X.1 X.2.1 dX12_keep_187 rfl (lv_at hl.1 0 rfl) ?_
      refine g_get X cX12 hH (r := 29) (i := 0) (by decide) rfl 26 (by decide) k_1236 rfl (v := .ref (gAd G 50 0)) rfl dX12_keep_188 ?_
      refine lv_iload X.1 X.2.1 dX12_keep_191 (lv_at hl.1 6 rfl) ?_
      refine lv_iconst X.1 X.2.1 dX12_keep_193 (v := iI 1) rfl ?_
      refine g_iadd X dX12_keep_194 ?_
      obtain ⟨hg, hf_⟩ := og_e hf; clear hf; have hf := hf_; clear hf_
      have nd195 : nmI ((gU (gU (gU (gU M 46 0 x6.toNat (M 46 0 (wI (x6 + 1)).toNat)) 47 0 x6.toNat ((gU M 46 0 x6.toNat (M 46 0 (wI (x6 + 1)).toNat)) 47 0 (wI (x6 + 1)).toNat)) 48 0 x6.toNat ((gU (gU M 46 0 x6.toNat (M 46 0 (wI (x6 + 1)).toNat)) 47 0 x6.toNat ((gU M 46 0 x6.toNat (M 46 0 (wI (x6 + 1)).toNat)) 47 0 (wI (x6 + 1)).toNat)) 48 0 (wI (x6 + 1)).toNat)) 49 0 x6.toNat ((gU (gU (gU M 46 0 x6.toNat (M 46 0 (wI (x6 + 1)).toNat)) 47 0 x6.toNat ((gU M 46 0 x6.toNat (M 46 0 (wI (x6 + 1)).toNat)) 47 0 (wI (x6 + 1)).toNat)) 48 0 x6.toNat ((gU (gU M 46 0 x6.toNat (M 46 0 (wI (x6 + 1)).toNat)) 47 0 x6.toNat ((gU M 46 0 x6.toNat (M 46 0 (wI (x6 + 1)).toNat)) 47 0 (wI (x6 + 1)).toNat)) 48 0 (wI (x6 + 1)).toNat)) 49 0 (wI (x6 + 1)).toNat)) 50 0 (wI (x6 + 1)).toNat) := hH.1.1 _ _ _
      refine g_iald X hH (r := 50) (i := 0) (by decide) rfl (nmI_w _) hg (v := (gU (gU (gU (gU M 46 0 x6.toNat (M 46 0 (wI (x6 + 1)).toNat)) 47 0 x6.toNat ((gU M 46 0 x6.toNat (M 46 0 (wI (x6 + 1)).toNat)) 47 0 (wI (x6 + 1)).toNat)) 48 0 x6.toNat ((gU (gU M 46 0 x6.toNat (M 46 0 (wI (x6 + 1)).toNat)) 47 0 x6.toNat ((gU M 46 0 x6.toNat (M 46 0 (wI (x6 + 1)).toNat)) 47 0 (wI (x6 + 1)).toNat)) 48 0 (wI (x6 + 1)).toNat)) 49 0 x6.toNat ((gU (gU (gU M 46 0 x6.toNat (M 46 0 (wI (x6 + 1)).toNat)) 47 0 x6.toNat ((gU M 46 0 x6.toNat (M 46 0 (wI (x6 + 1)).toNat)) 47 0 (wI (x6 + 1)).toNat)) 48 0 x6.toNat ((gU (gU M 46 0 x6.toNat (M 46 0 (wI (x6 + 1)).toNat)) 47 0 x6.toNat ((gU M 46 0 x6.toNat (M 46 0 (wI (x6 + 1)).toNat)) 47 0 (wI (x6 + 1)).toNat)) 48 0 (wI (x6 + 1)).toNat)) 49 0 (wI (x6 + 1)).toNat)) 50 0 (wI (x6 + 1)).toNat) rfl dX12_keep_195 ?_
      obtain ⟨hg, hf_⟩ := og_e hf; clear hf; have hf := hf_; clear hf_
      refine g_iast X hH hS (r := 50) (i := 0) (by decide) (fun _ => rfl) nx6 hg nd195 rfl (by decide) dX12_keep_196 (fun H locs hH hS => ?_)
      refine lv_aload_n X.1 X.2.1 dX12_keep_197 rfl (lv_at hl.1 0 rfl) ?_
      refine g_get X cX12 hH (r := 29) (i := 0) (by decide) rfl 27 (by decide) k_1237 rfl (v := .ref (gAd G 51 0)) rfl dX12_keep_198 ?_
      refine lv_iload X.1 X.2.1 dX12_keep_201 (lv_at hl.1 6 rfl) ?_
      refine lv_aload_n X.1 X.2.1 dX12_keep_203 rfl (lv_at hl.1 0 rfl) ?_
      refine g_get X cX12 hH (r := 29) (i := 0) (by decide) rfl 27 (by decide) k_1237 rfl (v := .ref (gAd G 51 0)) rfl dX12_keep_204 ?_
      refine lv_iload X.1 X.2.1 dX12_keep_207 (lv_at hl.1 6 rfl) ?_
      refine lv_iconst X.1 X.2.1 dX12_keep_209 (v := iI 1) rfl ?_
      refine g_iadd X dX12_keep_210 ?_
      obtain ⟨hg, hf_⟩ := og_e hf; clear hf; have hf := hf_; clear hf_
      have nd211 : nmI ((gU (gU (gU (gU (gU M 46 0 x6.toNat (M 46 0 (wI (x6 + 1)).toNat)) 47 0 x6.toNat ((gU M 46 0 x6.toNat (M 46 0 (wI (x6 + 1)).toNat)) 47 0 (wI (x6 + 1)).toNat)) 48 0 x6.toNat ((gU (gU M 46 0 x6.toNat (M 46 0 (wI (x6 + 1)).toNat)) 47 0 x6.toNat ((gU M 46 0 x6.toNat (M 46 0 (wI (x6 + 1)).toNat)) 47 0 (wI (x6 + 1)).toNat)) 48 0 (wI (x6 + 1)).toNat)) 49 0 x6.toNat ((gU (gU (gU M 46 0 x6.toNat (M 46 0 (wI (x6 + 1)).toNat)) 47 0 x6.toNat ((gU M 46 0 x6.toNat (M 46 0 (wI (x6 + 1)).toNat)) 47 0 (wI (x6 + 1)).toNat)) 48 0 x6.toNat ((gU (gU M 46 0 x6.toNat (M 46 0 (wI (x6 + 1)).toNat)) 47 0 x6.toNat ((gU M 46 0 x6.toNat (M 46 0 (wI (x6 + 1)).toNat)) 47 0 (wI (x6 + 1)).toNat)) 48 0 (wI (x6 + 1)).toNat)) 49 0 (wI (x6 + 1)).toNat)) 50 0 x6.toNat ((gU (gU (gU (gU M 46 0 x6.toNat (M 46 0 (wI (x6 + 1)).toNat)) 47 0 x6.toNat ((gU M 46 0 x6.toNat (M 46 0 (wI (x6 + 1)).toNat)) 47 0 (wI (x6 + 1)).toNat)) 48 0 x6.toNat ((gU (gU M 46 0 x6.toNat (M 46 0 (wI (x6 + 1)).toNat)) 47 0 x6.toNat ((gU M 46 0 x6.toNat (M 46 0 (wI (x6 + 1)).toNat)) 47 0 (wI (x6 + 1)).toNat)) 48 0 (wI (x6 + 1)).toNat)) 49 0 x6.toNat ((gU (gU (gU M 46 0 x6.toNat (M 46 0 (wI (x6 + 1)).toNat)) 47 0 x6.toNat ((gU M 46 0 x6.toNat (M 46 0 (wI (x6 + 1)).toNat)) 47 0 (wI (x6 + 1)).toNat)) 48 0 x6.toNat ((gU (gU M 46 0 x6.toNat (M 46 0 (wI (x6 + 1)).toNat)) 47 0 x6.toNat ((gU M 46 0 x6.toNat (M 46 0 (wI (x6 + 1)).toNat)) 47 0 (wI (x6 + 1)).toNat)) 48 0 (wI (x6 + 1)).toNat)) 49 0 (wI (x6 + 1)).toNat)) 50 0 (wI (x6 + 1)).toNat)) 51 0 (wI (x6 + 1)).toNat) := hH.1.1 _ _ _
      refine g_iald X hH (r := 51) (i := 0) (by decide) rfl (nmI_w _) hg (v := (gU (gU (gU (gU (gU M 46 0 x6.toNat (M 46 0 (wI (x6 + 1)).toNat)) 47 0 x6.toNat ((gU M 46 0 x6.toNat (M 46 0 (wI (x6 + 1)).toNat)) 47 0 (wI (x6 + 1)).toNat)) 48 0 x6.toNat ((gU (gU M 46 0 x6.toNat (M 46 0 (wI (x6 + 1)).toNat)) 47 0 x6.toNat ((gU M 46 0 x6.toNat (M 46 0 (wI (x6 + 1)).toNat)) 47 0 (wI (x6 + 1)).toNat)) 48 0 (wI (x6 + 1)).toNat)) 49 0 x6.toNat ((gU (gU (gU M 46 0 x6.toNat (M 46 0 (wI (x6 + 1)).toNat)) 47 0 x6.toNat ((gU M 46 0 x6.toNat (M 46 0 (wI (x6 + 1)).toNat)) 47 0 (wI (x6 + 1)).toNat)) 48 0 x6.toNat ((gU (gU M 46 0 x6.toNat (M 46 0 (wI (x6 + 1)).toNat)) 47 0 x6.toNat ((gU M 46 0 x6.toNat (M 46 0 (wI (x6 + 1)).toNat)) 47 0 (wI (x6 + 1)).toNat)) 48 0 (wI (x6 + 1)).toNat)) 49 0 (wI (x6 + 1)).toNat)) 50 0 x6.toNat ((gU (gU (gU (gU M 46 0 x6.toNat (M 46 0 (wI (x6 + 1)).toNat)) 47 0 x6.toNat ((gU M 46 0 x6.toNat (M 46 0 (wI (x6 + 1)).toNat)) 47 0 (wI (x6 + 1)).toNat)) 48 0 x6.toNat ((gU (gU M 46 0 x6.toNat (M 46 0 (wI (x6 + 1)).toNat)) 47 0 x6.toNat ((gU M 46 0 x6.toNat (M 46 0 (wI (x6 + 1)).toNat)) 47 0 (wI (x6 + 1)).toNat)) 48 0 (wI (x6 + 1)).toNat)) 49 0 x6.toNat ((gU (gU (gU M 46 0 x6.toNat (M 46 0 (wI (x6 + 1)).toNat)) 47 0 x6.toNat ((gU M 46 0 x6.toNat (M 46 0 (wI (x6 + 1)).toNat)) 47 0 (wI (x6 + 1)).toNat)) 48 0 x6.toNat ((gU (gU M 46 0 x6.toNat (M 46 0 (wI (x6 + 1)).toNat)) 47 0 x6.toNat ((gU M 46 0 x6.toNat (M 46 0 (wI (x6 + 1)).toNat)) 47 0 (wI (x6 + 1)).toNat)) 48 0 (wI (x6 + 1)).toNat)) 49 0 (wI (x6 + 1)).toNat)) 50 0 (wI (x6 + 1)).toNat)) 51 0 (wI (x6 + 1)).toNat) rfl dX12_keep_211 ?_
      obtain ⟨hg, hf_⟩ := og_e hf; clear hf; have hf := hf_; clear hf_
      refine g_iast X hH hS (r := 51) (i := 0) (by decide) (fun _ => rfl) nx6 hg nd211 rfl (by decide) dX12_keep_212 (fun H locs hH hS => ?_)
      refine lv_aload_n X.1 X.2.1 dX12_keep_213 rfl (lv_at hl.1 0 rfl) ?_
      refine g_get X cX12 hH (r := 29) (i := 0) (by decide) rfl 28 (by decide) k_1238 rfl (v := .ref (gAd G 52 0)) rfl dX12_keep_214 ?_
      refine lv_iload X.1 X.2.1 dX12_keep_217 (lv_at hl.1 6 rfl) ?_
      refine lv_aload_n X.1 X.2.1 dX12_keep_219 rfl (lv_at hl.1 0 rfl) ?_
      refine g_get X cX12 hH (r := 29) (i := 0) (by decide) rfl 28 (by decide) k_1238 rfl (v := .ref (gAd G 52 0)) rfl dX12_keep_220 ?_
      refine lv_iload X.1 X.2.1 dX12_keep_223 (lv_at hl.1 6 rfl) ?_
      refine lv_iconst X.1 X.2.1 dX12_keep_225 (v := iI 1) rfl ?_
      refine g_iadd X dX12_keep_226 ?_
      obtain ⟨hg, hf_⟩ := og_e hf; clear hf; have hf := hf_; clear hf_
      have nd227 : nmI ((gU (gU (gU (gU (gU (gU M 46 0 x6.toNat (M 46 0 (wI (x6 + 1)).toNat)) 47 0 x6.toNat ((gU M 46 0 x6.toNat (M 46 0 (wI (x6 + 1)).toNat)) 47 0 (wI (x6 + 1)).toNat)) 48 0 x6.toNat ((gU (gU M 46 0 x6.toNat (M 46 0 (wI (x6 + 1)).toNat)) 47 0 x6.toNat ((gU M 46 0 x6.toNat (M 46 0 (wI (x6 + 1)).toNat)) 47 0 (wI (x6 + 1)).toNat)) 48 0 (wI (x6 + 1)).toNat)) 49 0 x6.toNat ((gU (gU (gU M 46 0 x6.toNat (M 46 0 (wI (x6 + 1)).toNat)) 47 0 x6.toNat ((gU M 46 0 x6.toNat (M 46 0 (wI (x6 + 1)).toNat)) 47 0 (wI (x6 + 1)).toNat)) 48 0 x6.toNat ((gU (gU M 46 0 x6.toNat (M 46 0 (wI (x6 + 1)).toNat)) 47 0 x6.toNat ((gU M 46 0 x6.toNat (M 46 0 (wI (x6 + 1)).toNat)) 47 0 (wI (x6 + 1)).toNat)) 48 0 (wI (x6 + 1)).toNat)) 49 0 (wI (x6 + 1)).toNat)) 50 0 x6.toNat ((gU (gU (gU (gU M 46 0 x6.toNat (M 46 0 (wI (x6 + 1)).toNat)) 47 0 x6.toNat ((gU M 46 0 x6.toNat (M 46 0 (wI (x6 + 1)).toNat)) 47 0 (wI (x6 + 1)).toNat)) 48 0 x6.toNat ((gU (gU M 46 0 x6.toNat (M 46 0 (wI (x6 + 1)).toNat)) 47 0 x6.toNat ((gU M 46 0 x6.toNat (M 46 0 (wI (x6 + 1)).toNat)) 47 0 (wI (x6 + 1)).toNat)) 48 0 (wI (x6 + 1)).toNat)) 49 0 x6.toNat ((gU (gU (gU M 46 0 x6.toNat (M 46 0 (wI (x6 + 1)).toNat)) 47 0 x6.toNat ((gU M 46 0 x6.toNat (M 46 0 (wI (x6 + 1)).toNat)) 47 0 (wI (x6 + 1)).toNat)) 48 0 x6.toNat ((gU (gU M 46 0 x6.toNat (M 46 0 (wI (x6 + 1)).toNat)) 47 0 x6.toNat ((gU M 46 0 x6.toNat (M 46 0 (wI (x6 + 1)).toNat)) 47 0 (wI (x6 + 1)).toNat)) 48 0 (wI (x6 + 1)).toNat)) 49 0 (wI (x6 + 1)).toNat)) 50 0 (wI (x6 + 1)).toNat)) 51 0 x6.toNat ((gU (gU (gU (gU (gU M 46 0 x6.toNat (M 46 0 (wI (x6 + 1)).toNat)) 47 0 x6.toNat ((gU M 46 0 x6.toNat (M 46 0 (wI (x6 + 1)).toNat)) 47 0 (wI (x6 + 1)).toNat)) 48 0 x6.toNat ((gU (gU M 46 0 x6.toNat (M 46 0 (wI (x6 + 1)).toNat)) 47 0 x6.toNat ((gU M 46 0 x6.toNat (M 46 0 (wI (x6 + 1)).toNat)) 47 0 (wI (x6 + 1)).toNat)) 48 0 (wI (x6 + 1)).toNat)) 49 0 x6.toNat ((gU (gU (gU M 46 0 x6.toNat (M 46 0 (wI (x6 + 1)).toNat)) 47 0 x6.toNat ((gU M 46 0 x6.toNat (M 46 0 (wI (x6 + 1)).toNat)) 47 0 (wI (x6 + 1)).toNat)) 48 0 x6.toNat ((gU (gU M 46 0 x6.toNat (M 46 0 (wI (x6 + 1)).toNat)) 47 0 x6.toNat ((gU M 46 0 x6.toNat (M 46 0 (wI (x6 + 1)).toNat)) 47 0 (wI (x6 + 1)).toNat)) 48 0 (wI (x6 + 1)).toNat)) 49 0 (wI (x6 + 1)).toNat)) 50 0 x6.toNat ((gU (gU (gU (gU M 46 0 x6.toNat (M 46 0 (wI (x6 + 1)).toNat)) 47 0 x6.toNat ((gU M 46 0 x6.toNat (M 46 0 (wI (x6 + 1)).toNat)) 47 0 (wI (x6 + 1)).toNat)) 48 0 x6.toNat ((gU (gU M 46 0 x6.toNat (M 46 0 (wI (x6 + 1)).toNat)) 47 0 x6.toNat ((gU M 46 0 x6.toNat (M 46 0 (wI (x6 + 1)).toNat)) 47 0 (wI (x6 + 1)).toNat)) 48 0 (wI (x6 + 1)).toNat)) 49 0 x6.toNat ((gU (gU (gU M 46 0 x6.toNat (M 46 0 (wI (x6 + 1)).toNat)) 47 0 x6.toNat ((gU M 46 0 x6.toNat (M 46 0 (wI (x6 + 1)).toNat)) 47 0 (wI (x6 + 1)).toNat)) 48 0 x6.toNat ((gU (gU M 46 0 x6.toNat (M 46 0 (wI (x6 + 1)).toNat)) 47 0 x6.toNat ((gU M 46 0 x6.toNat (M 46 0 (wI (x6 + 1)).toNat)) 47 0 (wI (x6 + 1)).toNat)) 48 0 (wI (x6 + 1)).toNat)) 49 0 (wI (x6 + 1)).toNat)) 50 0 (wI (x6 + 1)).toNat)) 51 0 (wI (x6 + 1)).toNat)) 52 0 (wI (x6 + 1)).toNat) := hH.1.1 _ _ _
      have bd227 := hH.1.2.1 52 0 ((wI (x6 + 1)).toNat) rfl
      refine g_zald X hH (r := 52) (i := 0) (by decide) rfl (nmI_w _) hg (v := (gU (gU (gU (gU (gU (gU M 46 0 x6.toNat (M 46 0 (wI (x6 + 1)).toNat)) 47 0 x6.toNat ((gU M 46 0 x6.toNat (M 46 0 (wI (x6 + 1)).toNat)) 47 0 (wI (x6 + 1)).toNat)) 48 0 x6.toNat ((gU (gU M 46 0 x6.toNat (M 46 0 (wI (x6 + 1)).toNat)) 47 0 x6.toNat ((gU M 46 0 x6.toNat (M 46 0 (wI (x6 + 1)).toNat)) 47 0 (wI (x6 + 1)).toNat)) 48 0 (wI (x6 + 1)).toNat)) 49 0 x6.toNat ((gU (gU (gU M 46 0 x6.toNat (M 46 0 (wI (x6 + 1)).toNat)) 47 0 x6.toNat ((gU M 46 0 x6.toNat (M 46 0 (wI (x6 + 1)).toNat)) 47 0 (wI (x6 + 1)).toNat)) 48 0 x6.toNat ((gU (gU M 46 0 x6.toNat (M 46 0 (wI (x6 + 1)).toNat)) 47 0 x6.toNat ((gU M 46 0 x6.toNat (M 46 0 (wI (x6 + 1)).toNat)) 47 0 (wI (x6 + 1)).toNat)) 48 0 (wI (x6 + 1)).toNat)) 49 0 (wI (x6 + 1)).toNat)) 50 0 x6.toNat ((gU (gU (gU (gU M 46 0 x6.toNat (M 46 0 (wI (x6 + 1)).toNat)) 47 0 x6.toNat ((gU M 46 0 x6.toNat (M 46 0 (wI (x6 + 1)).toNat)) 47 0 (wI (x6 + 1)).toNat)) 48 0 x6.toNat ((gU (gU M 46 0 x6.toNat (M 46 0 (wI (x6 + 1)).toNat)) 47 0 x6.toNat ((gU M 46 0 x6.toNat (M 46 0 (wI (x6 + 1)).toNat)) 47 0 (wI (x6 + 1)).toNat)) 48 0 (wI (x6 + 1)).toNat)) 49 0 x6.toNat ((gU (gU (gU M 46 0 x6.toNat (M 46 0 (wI (x6 + 1)).toNat)) 47 0 x6.toNat ((gU M 46 0 x6.toNat (M 46 0 (wI (x6 + 1)).toNat)) 47 0 (wI (x6 + 1)).toNat)) 48 0 x6.toNat ((gU (gU M 46 0 x6.toNat (M 46 0 (wI (x6 + 1)).toNat)) 47 0 x6.toNat ((gU M 46 0 x6.toNat (M 46 0 (wI (x6 + 1)).toNat)) 47 0 (wI (x6 + 1)).toNat)) 48 0 (wI (x6 + 1)).toNat)) 49 0 (wI (x6 + 1)).toNat)) 50 0 (wI (x6 + 1)).toNat)) 51 0 x6.toNat ((gU (gU (gU (gU (gU M 46 0 x6.toNat (M 46 0 (wI (x6 + 1)).toNat)) 47 0 x6.toNat ((gU M 46 0 x6.toNat (M 46 0 (wI (x6 + 1)).toNat)) 47 0 (wI (x6 + 1)).toNat)) 48 0 x6.toNat ((gU (gU M 46 0 x6.toNat (M 46 0 (wI (x6 + 1)).toNat)) 47 0 x6.toNat ((gU M 46 0 x6.toNat (M 46 0 (wI (x6 + 1)).toNat)) 47 0 (wI (x6 + 1)).toNat)) 48 0 (wI (x6 + 1)).toNat)) 49 0 x6.toNat ((gU (gU (gU M 46 0 x6.toNat (M 46 0 (wI (x6 + 1)).toNat)) 47 0 x6.toNat ((gU M 46 0 x6.toNat (M 46 0 (wI (x6 + 1)).toNat)) 47 0 (wI (x6 + 1)).toNat)) 48 0 x6.toNat ((gU (gU M 46 0 x6.toNat (M 46 0 (wI (x6 + 1)).toNat)) 47 0 x6.toNat ((gU M 46 0 x6.toNat (M 46 0 (wI (x6 + 1)).toNat)) 47 0 (wI (x6 + 1)).toNat)) 48 0 (wI (x6 + 1)).toNat)) 49 0 (wI (x6 + 1)).toNat)) 50 0 x6.toNat ((gU (gU (gU (gU M 46 0 x6.toNat (M 46 0 (wI (x6 + 1)).toNat)) 47 0 x6.toNat ((gU M 46 0 x6.toNat (M 46 0 (wI (x6 + 1)).toNat)) 47 0 (wI (x6 + 1)).toNat)) 48 0 x6.toNat ((gU (gU M 46 0 x6.toNat (M 46 0 (wI (x6 + 1)).toNat)) 47 0 x6.toNat ((gU M 46 0 x6.toNat (M 46 0 (wI (x6 + 1)).toNat)) 47 0 (wI (x6 + 1)).toNat)) 48 0 (wI (x6 + 1)).toNat)) 49 0 x6.toNat ((gU (gU (gU M 46 0 x6.toNat (M 46 0 (wI (x6 + 1)).toNat)) 47 0 x6.toNat ((gU M 46 0 x6.toNat (M 46 0 (wI (x6 + 1)).toNat)) 47 0 (wI (x6 + 1)).toNat)) 48 0 x6.toNat ((gU (gU M 46 0 x6.toNat (M 46 0 (wI (x6 + 1)).toNat)) 47 0 x6.toNat ((gU M 46 0 x6.toNat (M 46 0 (wI (x6 + 1)).toNat)) 47 0 (wI (x6 + 1)).toNat)) 48 0 (wI (x6 + 1)).toNat)) 49 0 (wI (x6 + 1)).toNat)) 50 0 (wI (x6 + 1)).toNat)) 51 0 (wI (x6 + 1)).toNat)) 52 0 (wI (x6 + 1)).toNat) rfl dX12_keep_227 ?_
      obtain ⟨hg, hf_⟩ := og_e hf; clear hf; have hf := hf_; clear hf_
      refine g_zast X hH hS (r := 52) (i := 0) (by decide) (fun _ => rfl) nx6 hg bd227 dX12_keep_228 (fun H locs hH hS => ?_)
      refine g_iinc X (a := x6) (lv' := [(6, .int (iI (wI (x6 + 1)))), (0, .ref (gAd G 29 0)), (1, .int (iI z1)), (2, .int (iI z2)), (3, .int (iI z3)), (4, .int (iI z4)), (5, .int (iI z5))]) dX12_keep_229 hl (k := 6) rfl (by decide) rfl (fun ls hl => ?_)
      refine lv_goto (tgt := 108) X.1 X.2.1 dX12_keep_232 (by decide) ?_
      exact ih (wI (x6 + 1)) (nmI_w _) (gU (gU (gU (gU (gU (gU (gU M 46 0 x6.toNat (M 46 0 (wI (x6 + 1)).toNat)) 47 0 x6.toNat ((gU M 46 0 x6.toNat (M 46 0 (wI (x6 + 1)).toNat)) 47 0 (wI (x6 + 1)).toNat)) 48 0 x6.toNat ((gU (gU M 46 0 x6.toNat (M 46 0 (wI (x6 + 1)).toNat)) 47 0 x6.toNat ((gU M 46 0 x6.toNat (M 46 0 (wI (x6 + 1)).toNat)) 47 0 (wI (x6 + 1)).toNat)) 48 0 (wI (x6 + 1)).toNat)) 49 0 x6.toNat ((gU (gU (gU M 46 0 x6.toNat (M 46 0 (wI (x6 + 1)).toNat)) 47 0 x6.toNat ((gU M 46 0 x6.toNat (M 46 0 (wI (x6 + 1)).toNat)) 47 0 (wI (x6 + 1)).toNat)) 48 0 x6.toNat ((gU (gU M 46 0 x6.toNat (M 46 0 (wI (x6 + 1)).toNat)) 47 0 x6.toNat ((gU M 46 0 x6.toNat (M 46 0 (wI (x6 + 1)).toNat)) 47 0 (wI (x6 + 1)).toNat)) 48 0 (wI (x6 + 1)).toNat)) 49 0 (wI (x6 + 1)).toNat)) 50 0 x6.toNat ((gU (gU (gU (gU M 46 0 x6.toNat (M 46 0 (wI (x6 + 1)).toNat)) 47 0 x6.toNat ((gU M 46 0 x6.toNat (M 46 0 (wI (x6 + 1)).toNat)) 47 0 (wI (x6 + 1)).toNat)) 48 0 x6.toNat ((gU (gU M 46 0 x6.toNat (M 46 0 (wI (x6 + 1)).toNat)) 47 0 x6.toNat ((gU M 46 0 x6.toNat (M 46 0 (wI (x6 + 1)).toNat)) 47 0 (wI (x6 + 1)).toNat)) 48 0 (wI (x6 + 1)).toNat)) 49 0 x6.toNat ((gU (gU (gU M 46 0 x6.toNat (M 46 0 (wI (x6 + 1)).toNat)) 47 0 x6.toNat ((gU M 46 0 x6.toNat (M 46 0 (wI (x6 + 1)).toNat)) 47 0 (wI (x6 + 1)).toNat)) 48 0 x6.toNat ((gU (gU M 46 0 x6.toNat (M 46 0 (wI (x6 + 1)).toNat)) 47 0 x6.toNat ((gU M 46 0 x6.toNat (M 46 0 (wI (x6 + 1)).toNat)) 47 0 (wI (x6 + 1)).toNat)) 48 0 (wI (x6 + 1)).toNat)) 49 0 (wI (x6 + 1)).toNat)) 50 0 (wI (x6 + 1)).toNat)) 51 0 x6.toNat ((gU (gU (gU (gU (gU M 46 0 x6.toNat (M 46 0 (wI (x6 + 1)).toNat)) 47 0 x6.toNat ((gU M 46 0 x6.toNat (M 46 0 (wI (x6 + 1)).toNat)) 47 0 (wI (x6 + 1)).toNat)) 48 0 x6.toNat ((gU (gU M 46 0 x6.toNat (M 46 0 (wI (x6 + 1)).toNat)) 47 0 x6.toNat ((gU M 46 0 x6.toNat (M 46 0 (wI (x6 + 1)).toNat)) 47 0 (wI (x6 + 1)).toNat)) 48 0 (wI (x6 + 1)).toNat)) 49 0 x6.toNat ((gU (gU (gU M 46 0 x6.toNat (M 46 0 (wI (x6 + 1)).toNat)) 47 0 x6.toNat ((gU M 46 0 x6.toNat (M 46 0 (wI (x6 + 1)).toNat)) 47 0 (wI (x6 + 1)).toNat)) 48 0 x6.toNat ((gU (gU M 46 0 x6.toNat (M 46 0 (wI (x6 + 1)).toNat)) 47 0 x6.toNat ((gU M 46 0 x6.toNat (M 46 0 (wI (x6 + 1)).toNat)) 47 0 (wI (x6 + 1)).toNat)) 48 0 (wI (x6 + 1)).toNat)) 49 0 (wI (x6 + 1)).toNat)) 50 0 x6.toNat ((gU (gU (gU (gU M 46 0 x6.toNat (M 46 0 (wI (x6 + 1)).toNat)) 47 0 x6.toNat ((gU M 46 0 x6.toNat (M 46 0 (wI (x6 + 1)).toNat)) 47 0 (wI (x6 + 1)).toNat)) 48 0 x6.toNat ((gU (gU M 46 0 x6.toNat (M 46 0 (wI (x6 + 1)).toNat)) 47 0 x6.toNat ((gU M 46 0 x6.toNat (M 46 0 (wI (x6 + 1)).toNat)) 47 0 (wI (x6 + 1)).toNat)) 48 0 (wI (x6 + 1)).toNat)) 49 0 x6.toNat ((gU (gU (gU M 46 0 x6.toNat (M 46 0 (wI (x6 + 1)).toNat)) 47 0 x6.toNat ((gU M 46 0 x6.toNat (M 46 0 (wI (x6 + 1)).toNat)) 47 0 (wI (x6 + 1)).toNat)) 48 0 x6.toNat ((gU (gU M 46 0 x6.toNat (M 46 0 (wI (x6 + 1)).toNat)) 47 0 x6.toNat ((gU M 46 0 x6.toNat (M 46 0 (wI (x6 + 1)).toNat)) 47 0 (wI (x6 + 1)).toNat)) 48 0 (wI (x6 + 1)).toNat)) 49 0 (wI (x6 + 1)).toNat)) 50 0 (wI (x6 + 1)).toNat)) 51 0 (wI (x6 + 1)).toNat)) 52 0 x6.toNat ((gU (gU (gU (gU (gU (gU M 46 0 x6.toNat (M 46 0 (wI (x6 + 1)).toNat)) 47 0 x6.toNat ((gU M 46 0 x6.toNat (M 46 0 (wI (x6 + 1)).toNat)) 47 0 (wI (x6 + 1)).toNat)) 48 0 x6.toNat ((gU (gU M 46 0 x6.toNat (M 46 0 (wI (x6 + 1)).toNat)) 47 0 x6.toNat ((gU M 46 0 x6.toNat (M 46 0 (wI (x6 + 1)).toNat)) 47 0 (wI (x6 + 1)).toNat)) 48 0 (wI (x6 + 1)).toNat)) 49 0 x6.toNat ((gU (gU (gU M 46 0 x6.toNat (M 46 0 (wI (x6 + 1)).toNat)) 47 0 x6.toNat ((gU M 46 0 x6.toNat (M 46 0 (wI (x6 + 1)).toNat)) 47 0 (wI (x6 + 1)).toNat)) 48 0 x6.toNat ((gU (gU M 46 0 x6.toNat (M 46 0 (wI (x6 + 1)).toNat)) 47 0 x6.toNat ((gU M 46 0 x6.toNat (M 46 0 (wI (x6 + 1)).toNat)) 47 0 (wI (x6 + 1)).toNat)) 48 0 (wI (x6 + 1)).toNat)) 49 0 (wI (x6 + 1)).toNat)) 50 0 x6.toNat ((gU (gU (gU (gU M 46 0 x6.toNat (M 46 0 (wI (x6 + 1)).toNat)) 47 0 x6.toNat ((gU M 46 0 x6.toNat (M 46 0 (wI (x6 + 1)).toNat)) 47 0 (wI (x6 + 1)).toNat)) 48 0 x6.toNat ((gU (gU M 46 0 x6.toNat (M 46 0 (wI (x6 + 1)).toNat)) 47 0 x6.toNat ((gU M 46 0 x6.toNat (M 46 0 (wI (x6 + 1)).toNat)) 47 0 (wI (x6 + 1)).toNat)) 48 0 (wI (x6 + 1)).toNat)) 49 0 x6.toNat ((gU (gU (gU M 46 0 x6.toNat (M 46 0 (wI (x6 + 1)).toNat)) 47 0 x6.toNat ((gU M 46 0 x6.toNat (M 46 0 (wI (x6 + 1)).toNat)) 47 0 (wI (x6 + 1)).toNat)) 48 0 x6.toNat ((gU (gU M 46 0 x6.toNat (M 46 0 (wI (x6 + 1)).toNat)) 47 0 x6.toNat ((gU M 46 0 x6.toNat (M 46 0 (wI (x6 + 1)).toNat)) 47 0 (wI (x6 + 1)).toNat)) 48 0 (wI (x6 + 1)).toNat)) 49 0 (wI (x6 + 1)).toNat)) 50 0 (wI (x6 + 1)).toNat)) 51 0 x6.toNat ((gU (gU (gU (gU (gU M 46 0 x6.toNat (M 46 0 (wI (x6 + 1)).toNat)) 47 0 x6.toNat ((gU M 46 0 x6.toNat (M 46 0 (wI (x6 + 1)).toNat)) 47 0 (wI (x6 + 1)).toNat)) 48 0 x6.toNat ((gU (gU M 46 0 x6.toNat (M 46 0 (wI (x6 + 1)).toNat)) 47 0 x6.toNat ((gU M 46 0 x6.toNat (M 46 0 (wI (x6 + 1)).toNat)) 47 0 (wI (x6 + 1)).toNat)) 48 0 (wI (x6 + 1)).toNat)) 49 0 x6.toNat ((gU (gU (gU M 46 0 x6.toNat (M 46 0 (wI (x6 + 1)).toNat)) 47 0 x6.toNat ((gU M 46 0 x6.toNat (M 46 0 (wI (x6 + 1)).toNat)) 47 0 (wI (x6 + 1)).toNat)) 48 0 x6.toNat ((gU (gU M 46 0 x6.toNat (M 46 0 (wI (x6 + 1)).toNat)) 47 0 x6.toNat ((gU M 46 0 x6.toNat (M 46 0 (wI (x6 + 1)).toNat)) 47 0 (wI (x6 + 1)).toNat)) 48 0 (wI (x6 + 1)).toNat)) 49 0 (wI (x6 + 1)).toNat)) 50 0 x6.toNat ((gU (gU (gU (gU M 46 0 x6.toNat (M 46 0 (wI (x6 + 1)).toNat)) 47 0 x6.toNat ((gU M 46 0 x6.toNat (M 46 0 (wI (x6 + 1)).toNat)) 47 0 (wI (x6 + 1)).toNat)) 48 0 x6.toNat ((gU (gU M 46 0 x6.toNat (M 46 0 (wI (x6 + 1)).toNat)) 47 0 x6.toNat ((gU M 46 0 x6.toNat (M 46 0 (wI (x6 + 1)).toNat)) 47 0 (wI (x6 + 1)).toNat)) 48 0 (wI (x6 + 1)).toNat)) 49 0 x6.toNat ((gU (gU (gU M 46 0 x6.toNat (M 46 0 (wI (x6 + 1)).toNat)) 47 0 x6.toNat ((gU M 46 0 x6.toNat (M 46 0 (wI (x6 + 1)).toNat)) 47 0 (wI (x6 + 1)).toNat)) 48 0 x6.toNat ((gU (gU M 46 0 x6.toNat (M 46 0 (wI (x6 + 1)).toNat)) 47 0 x6.toNat ((gU M 46 0 x6.toNat (M 46 0 (wI (x6 + 1)).toNat)) 47 0 (wI (x6 + 1)).toNat)) 48 0 (wI (x6 + 1)).toNat)) 49 0 (wI (x6 + 1)).toNat)) 50 0 (wI (x6 + 1)).toNat)) 51 0 (wI (x6 + 1)).toNat)) 52 0 (wI (x6 + 1)).toNat)) hf _ _ _ hH hS (gLv_sub hl [1, 2, 3, 4, 5, 6, 0] rfl)
theorem m_X12_keep (l : Launch) (G : gG) (v1 : Int) (nv1 : nmI v1) (v2 : Int) (nv2 : nmI v2) (v3 : Int) (nv3 : nmI v3) (v4 : Int) (nv4 : nmI v4) (v5 : Int) (nv5 : nmI v5) (M : gM) (q : gM) (hf : f_X12_keep v1 v2 v3 v4 v5 M = some q) : gMet l yX12_keep cX12_keep 7 none 2 44 G M [.ref (gAd G 29 0), .int (iI v1), .int (iI v2), .int (iI v3), .int (iI v4), .int (iI v5)] (gQv G q) := by
  refine gOfW (by decide) (by show _ ≤ 7; exact Nat.le_of_ble_eq_true rfl) rfl ?_
  intro p e s m below meth c X hH ls hl
  replace hl : gLv ls 7 [(0, .ref (gAd G 29 0)), (1, .int (iI v1)), (2, .int (iI v2)), (3, .int (iI v3)), (4, .int (iI v4)), (5, .int (iI v5))] := hl
  have hS : va_S (gA G) s.heap s.heap [] := va_S.rf
  generalize hargs : ([.ref (gAd G 29 0), .int (iI v1), .int (iI v2), .int (iI v3), .int (iI v4), .int (iI v5)] : List Value).toArray = args at X ⊢
  clear hargs
  unfold f_X12_keep at hf
  refine lv_iconst X.1 X.2.1 dX12_keep_0 (v := iI 0) rfl ?_
  refine g_istore X (lv' := [(6, .int (iI 0)), (0, .ref (gAd G 29 0)), (1, .int (iI v1)), (2, .int (iI v2)), (3, .int (iI v3)), (4, .int (iI v4)), (5, .int (iI v5))]) dX12_keep_1 hl (by decide) rfl (fun ls hl => ?_)
  refine w_X12_keep_L3 X _ v1 nv1 v2 nv2 v3 nv3 v4 nv4 v5 nv5 M q ?_ 64 0 (nmI_l (by decide)) hf _ _ _ hH hS (gLv_sub hl [1, 2, 3, 4, 5, 6, 0] rfl)
  · intro  hf H locs ls hH hS hl
    refine lv_aload_n X.1 X.2.1 dX12_keep_86 rfl (lv_at hl.1 0 rfl) ?_
    have nd87 : nmI (M 29 0 21) := hH.1.1 _ _ _
    refine g_get X cX12 hH (r := 29) (i := 0) (by decide) rfl 21 (by decide) k_1231 rfl (v := .int (iI (M 29 0 21))) rfl dX12_keep_87 ?_
    refine lv_bipush X.1 X.2.1 dX12_keep_90 (v := iI 40) (by decide) ?_
    obtain ⟨k235, ek235, hf_⟩ := oj_e hf; clear hf; have hf := hf_; clear hf_
    have hk235 : ∀  (M_235 : gM), k235 M_235 = some q → ∀ (H : Heap) (locs : List Loc) (ls : Array Slot), gH G M_235 H → va_S (gA G) s.heap H locs → gLv ls 7 [(0, .ref (gAd G 29 0)), (1, .int (iI v1)), (2, .int (iI v2)), (3, .int (iI v3)), (4, .int (iI v4)), (5, .int (iI v5))] → W p l e { frames := 2, cells := 0, slots := 0, locals := 44 } s m args below meth c H locs 0 0 (MQ below (gQv G q) args s 0 0 (gA G)) (F0 m 235 ls []) := by
      intro  M_235 hf H locs ls hH hS hl
      subst ek235
      refine lv_aload_n X.1 X.2.1 dX12_keep_235 rfl (lv_at hl.1 0 rfl) ?_
      refine g_get X cX12 hH (r := 29) (i := 0) (by decide) rfl 22 (by decide) k_1232 rfl (v := .ref (gAd G 46 0)) rfl dX12_keep_236 ?_
      refine lv_aload_n X.1 X.2.1 dX12_keep_239 rfl (lv_at hl.1 0 rfl) ?_
      have nd240 : nmI (M_235 29 0 21) := hH.1.1 _ _ _
      refine g_get X cX12 hH (r := 29) (i := 0) (by decide) rfl 21 (by decide) k_1231 rfl (v := .int (iI (M_235 29 0 21))) rfl dX12_keep_240 ?_
      refine lv_iload_n X.1 X.2.1 dX12_keep_243 rfl (lv_at hl.1 1 rfl) ?_
      obtain ⟨hg, hf_⟩ := og_e hf; clear hf; have hf := hf_; clear hf_
      refine g_iast X hH hS (r := 46) (i := 0) (by decide) (fun _ => rfl) nd240 hg nv1 rfl (by decide) dX12_keep_244 (fun H locs hH hS => ?_)
      refine lv_aload_n X.1 X.2.1 dX12_keep_245 rfl (lv_at hl.1 0 rfl) ?_
      refine g_get X cX12 hH (r := 29) (i := 0) (by decide) rfl 23 (by decide) k_1233 rfl (v := .ref (gAd G 47 0)) rfl dX12_keep_246 ?_
      refine lv_aload_n X.1 X.2.1 dX12_keep_249 rfl (lv_at hl.1 0 rfl) ?_
      have nd250 : nmI ((gU M_235 46 0 (M_235 29 0 21).toNat v1) 29 0 21) := hH.1.1 _ _ _
      refine g_get X cX12 hH (r := 29) (i := 0) (by decide) rfl 21 (by decide) k_1231 rfl (v := .int (iI ((gU M_235 46 0 (M_235 29 0 21).toNat v1) 29 0 21))) rfl dX12_keep_250 ?_
      refine lv_iload_n X.1 X.2.1 dX12_keep_253 rfl (lv_at hl.1 2 rfl) ?_
      obtain ⟨hg, hf_⟩ := og_e hf; clear hf; have hf := hf_; clear hf_
      refine g_iast X hH hS (r := 47) (i := 0) (by decide) (fun _ => rfl) nd250 hg nv2 rfl (by decide) dX12_keep_254 (fun H locs hH hS => ?_)
      refine lv_aload_n X.1 X.2.1 dX12_keep_255 rfl (lv_at hl.1 0 rfl) ?_
      refine g_get X cX12 hH (r := 29) (i := 0) (by decide) rfl 24 (by decide) k_1234 rfl (v := .ref (gAd G 48 0)) rfl dX12_keep_256 ?_
      refine lv_aload_n X.1 X.2.1 dX12_keep_259 rfl (lv_at hl.1 0 rfl) ?_
      have nd260 : nmI ((gU (gU M_235 46 0 (M_235 29 0 21).toNat v1) 47 0 ((gU M_235 46 0 (M_235 29 0 21).toNat v1) 29 0 21).toNat v2) 29 0 21) := hH.1.1 _ _ _
      refine g_get X cX12 hH (r := 29) (i := 0) (by decide) rfl 21 (by decide) k_1231 rfl (v := .int (iI ((gU (gU M_235 46 0 (M_235 29 0 21).toNat v1) 47 0 ((gU M_235 46 0 (M_235 29 0 21).toNat v1) 29 0 21).toNat v2) 29 0 21))) rfl dX12_keep_260 ?_
      refine lv_iload_n X.1 X.2.1 dX12_keep_263 rfl (lv_at hl.1 3 rfl) ?_
      obtain ⟨hg, hf_⟩ := og_e hf; clear hf; have hf := hf_; clear hf_
      refine g_iast X hH hS (r := 48) (i := 0) (by decide) (fun _ => rfl) nd260 hg nv3 rfl (by decide) dX12_keep_264 (fun H locs hH hS => ?_)
      refine lv_aload_n X.1 X.2.1 dX12_keep_265 rfl (lv_at hl.1 0 rfl) ?_
      refine g_get X cX12 hH (r := 29) (i := 0) (by decide) rfl 25 (by decide) k_1235 rfl (v := .ref (gAd G 49 0)) rfl dX12_keep_266 ?_
      refine lv_aload_n X.1 X.2.1 dX12_keep_269 rfl (lv_at hl.1 0 rfl) ?_
      have nd270 : nmI ((gU (gU (gU M_235 46 0 (M_235 29 0 21).toNat v1) 47 0 ((gU M_235 46 0 (M_235 29 0 21).toNat v1) 29 0 21).toNat v2) 48 0 ((gU (gU M_235 46 0 (M_235 29 0 21).toNat v1) 47 0 ((gU M_235 46 0 (M_235 29 0 21).toNat v1) 29 0 21).toNat v2) 29 0 21).toNat v3) 29 0 21) := hH.1.1 _ _ _
      refine g_get X cX12 hH (r := 29) (i := 0) (by decide) rfl 21 (by decide) k_1231 rfl (v := .int (iI ((gU (gU (gU M_235 46 0 (M_235 29 0 21).toNat v1) 47 0 ((gU M_235 46 0 (M_235 29 0 21).toNat v1) 29 0 21).toNat v2) 48 0 ((gU (gU M_235 46 0 (M_235 29 0 21).toNat v1) 47 0 ((gU M_235 46 0 (M_235 29 0 21).toNat v1) 29 0 21).toNat v2) 29 0 21).toNat v3) 29 0 21))) rfl dX12_keep_270 ?_
      refine lv_iload X.1 X.2.1 dX12_keep_273 (lv_at hl.1 4 rfl) ?_
      obtain ⟨hg, hf_⟩ := og_e hf; clear hf; have hf := hf_; clear hf_
      refine g_iast X hH hS (r := 49) (i := 0) (by decide) (fun _ => rfl) nd270 hg nv4 rfl (by decide) dX12_keep_275 (fun H locs hH hS => ?_)
      refine lv_aload_n X.1 X.2.1 dX12_keep_276 rfl (lv_at hl.1 0 rfl) ?_
      refine g_get X cX12 hH (r := 29) (i := 0) (by decide) rfl 26 (by decide) k_1236 rfl (v := .ref (gAd G 50 0)) rfl dX12_keep_277 ?_
      refine lv_aload_n X.1 X.2.1 dX12_keep_280 rfl (lv_at hl.1 0 rfl) ?_
      have nd281 : nmI ((gU (gU (gU (gU M_235 46 0 (M_235 29 0 21).toNat v1) 47 0 ((gU M_235 46 0 (M_235 29 0 21).toNat v1) 29 0 21).toNat v2) 48 0 ((gU (gU M_235 46 0 (M_235 29 0 21).toNat v1) 47 0 ((gU M_235 46 0 (M_235 29 0 21).toNat v1) 29 0 21).toNat v2) 29 0 21).toNat v3) 49 0 ((gU (gU (gU M_235 46 0 (M_235 29 0 21).toNat v1) 47 0 ((gU M_235 46 0 (M_235 29 0 21).toNat v1) 29 0 21).toNat v2) 48 0 ((gU (gU M_235 46 0 (M_235 29 0 21).toNat v1) 47 0 ((gU M_235 46 0 (M_235 29 0 21).toNat v1) 29 0 21).toNat v2) 29 0 21).toNat v3) 29 0 21).toNat v4) 29 0 21) := hH.1.1 _ _ _
      refine g_get X cX12 hH (r := 29) (i := 0) (by decide) rfl 21 (by decide) k_1231 rfl (v := .int (iI ((gU (gU (gU (gU M_235 46 0 (M_235 29 0 21).toNat v1) 47 0 ((gU M_235 46 0 (M_235 29 0 21).toNat v1) 29 0 21).toNat v2) 48 0 ((gU (gU M_235 46 0 (M_235 29 0 21).toNat v1) 47 0 ((gU M_235 46 0 (M_235 29 0 21).toNat v1) 29 0 21).toNat v2) 29 0 21).toNat v3) 49 0 ((gU (gU (gU M_235 46 0 (M_235 29 0 21).toNat v1) 47 0 ((gU M_235 46 0 (M_235 29 0 21).toNat v1) 29 0 21).toNat v2) 48 0 ((gU (gU M_235 46 0 (M_235 29 0 21).toNat v1) 47 0 ((gU M_235 46 0 (M_235 29 0 21).toNat v1) 29 0 21).toNat v2) 29 0 21).toNat v3) 29 0 21).toNat v4) 29 0 21))) rfl dX12_keep_281 ?_
      refine lv_iload X.1 X.2.1 dX12_keep_284 (lv_at hl.1 5 rfl) ?_
      obtain ⟨hg, hf_⟩ := og_e hf; clear hf; have hf := hf_; clear hf_
      refine g_iast X hH hS (r := 50) (i := 0) (by decide) (fun _ => rfl) nd281 hg nv5 rfl (by decide) dX12_keep_286 (fun H locs hH hS => ?_)
      refine lv_aload_n X.1 X.2.1 dX12_keep_287 rfl (lv_at hl.1 0 rfl) ?_
      refine g_get X cX12 hH (r := 29) (i := 0) (by decide) rfl 27 (by decide) k_1237 rfl (v := .ref (gAd G 51 0)) rfl dX12_keep_288 ?_
      refine lv_aload_n X.1 X.2.1 dX12_keep_291 rfl (lv_at hl.1 0 rfl) ?_
      have nd292 : nmI ((gU (gU (gU (gU (gU M_235 46 0 (M_235 29 0 21).toNat v1) 47 0 ((gU M_235 46 0 (M_235 29 0 21).toNat v1) 29 0 21).toNat v2) 48 0 ((gU (gU M_235 46 0 (M_235 29 0 21).toNat v1) 47 0 ((gU M_235 46 0 (M_235 29 0 21).toNat v1) 29 0 21).toNat v2) 29 0 21).toNat v3) 49 0 ((gU (gU (gU M_235 46 0 (M_235 29 0 21).toNat v1) 47 0 ((gU M_235 46 0 (M_235 29 0 21).toNat v1) 29 0 21).toNat v2) 48 0 ((gU (gU M_235 46 0 (M_235 29 0 21).toNat v1) 47 0 ((gU M_235 46 0 (M_235 29 0 21).toNat v1) 29 0 21).toNat v2) 29 0 21).toNat v3) 29 0 21).toNat v4) 50 0 ((gU (gU (gU (gU M_235 46 0 (M_235 29 0 21).toNat v1) 47 0 ((gU M_235 46 0 (M_235 29 0 21).toNat v1) 29 0 21).toNat v2) 48 0 ((gU (gU M_235 46 0 (M_235 29 0 21).toNat v1) 47 0 ((gU M_235 46 0 (M_235 29 0 21).toNat v1) 29 0 21).toNat v2) 29 0 21).toNat v3) 49 0 ((gU (gU (gU M_235 46 0 (M_235 29 0 21).toNat v1) 47 0 ((gU M_235 46 0 (M_235 29 0 21).toNat v1) 29 0 21).toNat v2) 48 0 ((gU (gU M_235 46 0 (M_235 29 0 21).toNat v1) 47 0 ((gU M_235 46 0 (M_235 29 0 21).toNat v1) 29 0 21).toNat v2) 29 0 21).toNat v3) 29 0 21).toNat v4) 29 0 21).toNat v5) 29 0 21) := hH.1.1 _ _ _
      refine g_get X cX12 hH (r := 29) (i := 0) (by decide) rfl 21 (by decide) k_1231 rfl (v := .int (iI ((gU (gU (gU (gU (gU M_235 46 0 (M_235 29 0 21).toNat v1) 47 0 ((gU M_235 46 0 (M_235 29 0 21).toNat v1) 29 0 21).toNat v2) 48 0 ((gU (gU M_235 46 0 (M_235 29 0 21).toNat v1) 47 0 ((gU M_235 46 0 (M_235 29 0 21).toNat v1) 29 0 21).toNat v2) 29 0 21).toNat v3) 49 0 ((gU (gU (gU M_235 46 0 (M_235 29 0 21).toNat v1) 47 0 ((gU M_235 46 0 (M_235 29 0 21).toNat v1) 29 0 21).toNat v2) 48 0 ((gU (gU M_235 46 0 (M_235 29 0 21).toNat v1) 47 0 ((gU M_235 46 0 (M_235 29 0 21).toNat v1) 29 0 21).toNat v2) 29 0 21).toNat v3) 29 0 21).toNat v4) 50 0 ((gU (gU (gU (gU M_235 46 0 (M_235 29 0 21).toNat v1) 47 0 ((gU M_235 46 0 (M_235 29 0 21).toNat v1) 29 0 21).toNat v2) 48 0 ((gU (gU M_235 46 0 (M_235 29 0 21).toNat v1) 47 0 ((gU M_235 46 0 (M_235 29 0 21).toNat v1) 29 0 21).toNat v2) 29 0 21).toNat v3) 49 0 ((gU (gU (gU M_235 46 0 (M_235 29 0 21).toNat v1) 47 0 ((gU M_235 46 0 (M_235 29 0 21).toNat v1) 29 0 21).toNat v2) 48 0 ((gU (gU M_235 46 0 (M_235 29 0 21).toNat v1) 47 0 ((gU M_235 46 0 (M_235 29 0 21).toNat v1) 29 0 21).toNat v2) 29 0 21).toNat v3) 29 0 21).toNat v4) 29 0 21).toNat v5) 29 0 21))) rfl dX12_keep_292 ?_
      refine lv_aload_n X.1 X.2.1 dX12_keep_295 rfl (lv_at hl.1 0 rfl) ?_
      refine lv_iload_n X.1 X.2.1 dX12_keep_296 rfl (lv_at hl.1 1 rfl) ?_
      refine lv_iload X.1 X.2.1 dX12_keep_297 (lv_at hl.1 4 rfl) ?_
      refine lv_iload X.1 X.2.1 dX12_keep_299 (lv_at hl.1 5 rfl) ?_
      refine gGoI (gRunV X hH (As := [.int (iI v1), .int (iI v4), .int (iI v5)]) (m_X12_signature l G v1 nv1 v4 nv4 v5 nv5 (gU (gU (gU (gU (gU M_235 46 0 (M_235 29 0 21).toNat v1) 47 0 ((gU M_235 46 0 (M_235 29 0 21).toNat v1) 29 0 21).toNat v2) 48 0 ((gU (gU M_235 46 0 (M_235 29 0 21).toNat v1) 47 0 ((gU M_235 46 0 (M_235 29 0 21).toNat v1) 29 0 21).toNat v2) 29 0 21).toNat v3) 49 0 ((gU (gU (gU M_235 46 0 (M_235 29 0 21).toNat v1) 47 0 ((gU M_235 46 0 (M_235 29 0 21).toNat v1) 29 0 21).toNat v2) 48 0 ((gU (gU M_235 46 0 (M_235 29 0 21).toNat v1) 47 0 ((gU M_235 46 0 (M_235 29 0 21).toNat v1) 29 0 21).toNat v2) 29 0 21).toNat v3) 29 0 21).toNat v4) 50 0 ((gU (gU (gU (gU M_235 46 0 (M_235 29 0 21).toNat v1) 47 0 ((gU M_235 46 0 (M_235 29 0 21).toNat v1) 29 0 21).toNat v2) 48 0 ((gU (gU M_235 46 0 (M_235 29 0 21).toNat v1) 47 0 ((gU M_235 46 0 (M_235 29 0 21).toNat v1) 29 0 21).toNat v2) 29 0 21).toNat v3) 49 0 ((gU (gU (gU M_235 46 0 (M_235 29 0 21).toNat v1) 47 0 ((gU M_235 46 0 (M_235 29 0 21).toNat v1) 29 0 21).toNat v2) 48 0 ((gU (gU M_235 46 0 (M_235 29 0 21).toNat v1) 47 0 ((gU M_235 46 0 (M_235 29 0 21).toNat v1) 29 0 21).toNat v2) 29 0 21).toNat v3) 29 0 21).toNat v4) 29 0 21).toNat v5) _ rfl) calX12_signature k_1446 k_36 k_1444 (by decide) cX12 rfl ⟨by decide, by decide⟩ rfl hl rfl (Nat.le_of_ble_eq_true rfl) ⟨Nat.le_of_ble_eq_true rfl, Nat.le_of_ble_eq_true rfl⟩ dX12_keep_301) hS (fun H locs nr301 hH hS => ?_)
      obtain ⟨hg, hf_⟩ := og_e hf; clear hf; have hf := hf_; clear hf_
      refine g_iast X hH hS (r := 51) (i := 0) (by decide) (fun _ => rfl) nd292 hg nr301 rfl (by decide) dX12_keep_304 (fun H locs hH hS => ?_)
      refine lv_aload_n X.1 X.2.1 dX12_keep_305 rfl (lv_at hl.1 0 rfl) ?_
      refine g_get X cX12 hH (r := 29) (i := 0) (by decide) rfl 28 (by decide) k_1238 rfl (v := .ref (gAd G 52 0)) rfl dX12_keep_306 ?_
      refine lv_aload_n X.1 X.2.1 dX12_keep_309 rfl (lv_at hl.1 0 rfl) ?_
      have nd310 : nmI ((gU (gU (gU (gU (gU (gU M_235 46 0 (M_235 29 0 21).toNat v1) 47 0 ((gU M_235 46 0 (M_235 29 0 21).toNat v1) 29 0 21).toNat v2) 48 0 ((gU (gU M_235 46 0 (M_235 29 0 21).toNat v1) 47 0 ((gU M_235 46 0 (M_235 29 0 21).toNat v1) 29 0 21).toNat v2) 29 0 21).toNat v3) 49 0 ((gU (gU (gU M_235 46 0 (M_235 29 0 21).toNat v1) 47 0 ((gU M_235 46 0 (M_235 29 0 21).toNat v1) 29 0 21).toNat v2) 48 0 ((gU (gU M_235 46 0 (M_235 29 0 21).toNat v1) 47 0 ((gU M_235 46 0 (M_235 29 0 21).toNat v1) 29 0 21).toNat v2) 29 0 21).toNat v3) 29 0 21).toNat v4) 50 0 ((gU (gU (gU (gU M_235 46 0 (M_235 29 0 21).toNat v1) 47 0 ((gU M_235 46 0 (M_235 29 0 21).toNat v1) 29 0 21).toNat v2) 48 0 ((gU (gU M_235 46 0 (M_235 29 0 21).toNat v1) 47 0 ((gU M_235 46 0 (M_235 29 0 21).toNat v1) 29 0 21).toNat v2) 29 0 21).toNat v3) 49 0 ((gU (gU (gU M_235 46 0 (M_235 29 0 21).toNat v1) 47 0 ((gU M_235 46 0 (M_235 29 0 21).toNat v1) 29 0 21).toNat v2) 48 0 ((gU (gU M_235 46 0 (M_235 29 0 21).toNat v1) 47 0 ((gU M_235 46 0 (M_235 29 0 21).toNat v1) 29 0 21).toNat v2) 29 0 21).toNat v3) 29 0 21).toNat v4) 29 0 21).toNat v5) 51 0 ((gU (gU (gU (gU (gU M_235 46 0 (M_235 29 0 21).toNat v1) 47 0 ((gU M_235 46 0 (M_235 29 0 21).toNat v1) 29 0 21).toNat v2) 48 0 ((gU (gU M_235 46 0 (M_235 29 0 21).toNat v1) 47 0 ((gU M_235 46 0 (M_235 29 0 21).toNat v1) 29 0 21).toNat v2) 29 0 21).toNat v3) 49 0 ((gU (gU (gU M_235 46 0 (M_235 29 0 21).toNat v1) 47 0 ((gU M_235 46 0 (M_235 29 0 21).toNat v1) 29 0 21).toNat v2) 48 0 ((gU (gU M_235 46 0 (M_235 29 0 21).toNat v1) 47 0 ((gU M_235 46 0 (M_235 29 0 21).toNat v1) 29 0 21).toNat v2) 29 0 21).toNat v3) 29 0 21).toNat v4) 50 0 ((gU (gU (gU (gU M_235 46 0 (M_235 29 0 21).toNat v1) 47 0 ((gU M_235 46 0 (M_235 29 0 21).toNat v1) 29 0 21).toNat v2) 48 0 ((gU (gU M_235 46 0 (M_235 29 0 21).toNat v1) 47 0 ((gU M_235 46 0 (M_235 29 0 21).toNat v1) 29 0 21).toNat v2) 29 0 21).toNat v3) 49 0 ((gU (gU (gU M_235 46 0 (M_235 29 0 21).toNat v1) 47 0 ((gU M_235 46 0 (M_235 29 0 21).toNat v1) 29 0 21).toNat v2) 48 0 ((gU (gU M_235 46 0 (M_235 29 0 21).toNat v1) 47 0 ((gU M_235 46 0 (M_235 29 0 21).toNat v1) 29 0 21).toNat v2) 29 0 21).toNat v3) 29 0 21).toNat v4) 29 0 21).toNat v5) 29 0 21).toNat ((f_X12_signature v1 v4 v5 (gU (gU (gU (gU (gU M_235 46 0 (M_235 29 0 21).toNat v1) 47 0 ((gU M_235 46 0 (M_235 29 0 21).toNat v1) 29 0 21).toNat v2) 48 0 ((gU (gU M_235 46 0 (M_235 29 0 21).toNat v1) 47 0 ((gU M_235 46 0 (M_235 29 0 21).toNat v1) 29 0 21).toNat v2) 29 0 21).toNat v3) 49 0 ((gU (gU (gU M_235 46 0 (M_235 29 0 21).toNat v1) 47 0 ((gU M_235 46 0 (M_235 29 0 21).toNat v1) 29 0 21).toNat v2) 48 0 ((gU (gU M_235 46 0 (M_235 29 0 21).toNat v1) 47 0 ((gU M_235 46 0 (M_235 29 0 21).toNat v1) 29 0 21).toNat v2) 29 0 21).toNat v3) 29 0 21).toNat v4) 50 0 ((gU (gU (gU (gU M_235 46 0 (M_235 29 0 21).toNat v1) 47 0 ((gU M_235 46 0 (M_235 29 0 21).toNat v1) 29 0 21).toNat v2) 48 0 ((gU (gU M_235 46 0 (M_235 29 0 21).toNat v1) 47 0 ((gU M_235 46 0 (M_235 29 0 21).toNat v1) 29 0 21).toNat v2) 29 0 21).toNat v3) 49 0 ((gU (gU (gU M_235 46 0 (M_235 29 0 21).toNat v1) 47 0 ((gU M_235 46 0 (M_235 29 0 21).toNat v1) 29 0 21).toNat v2) 48 0 ((gU (gU M_235 46 0 (M_235 29 0 21).toNat v1) 47 0 ((gU M_235 46 0 (M_235 29 0 21).toNat v1) 29 0 21).toNat v2) 29 0 21).toNat v3) 29 0 21).toNat v4) 29 0 21).toNat v5)))) 29 0 21) := hH.1.1 _ _ _
      refine g_get X cX12 hH (r := 29) (i := 0) (by decide) rfl 21 (by decide) k_1231 rfl (v := .int (iI ((gU (gU (gU (gU (gU (gU M_235 46 0 (M_235 29 0 21).toNat v1) 47 0 ((gU M_235 46 0 (M_235 29 0 21).toNat v1) 29 0 21).toNat v2) 48 0 ((gU (gU M_235 46 0 (M_235 29 0 21).toNat v1) 47 0 ((gU M_235 46 0 (M_235 29 0 21).toNat v1) 29 0 21).toNat v2) 29 0 21).toNat v3) 49 0 ((gU (gU (gU M_235 46 0 (M_235 29 0 21).toNat v1) 47 0 ((gU M_235 46 0 (M_235 29 0 21).toNat v1) 29 0 21).toNat v2) 48 0 ((gU (gU M_235 46 0 (M_235 29 0 21).toNat v1) 47 0 ((gU M_235 46 0 (M_235 29 0 21).toNat v1) 29 0 21).toNat v2) 29 0 21).toNat v3) 29 0 21).toNat v4) 50 0 ((gU (gU (gU (gU M_235 46 0 (M_235 29 0 21).toNat v1) 47 0 ((gU M_235 46 0 (M_235 29 0 21).toNat v1) 29 0 21).toNat v2) 48 0 ((gU (gU M_235 46 0 (M_235 29 0 21).toNat v1) 47 0 ((gU M_235 46 0 (M_235 29 0 21).toNat v1) 29 0 21).toNat v2) 29 0 21).toNat v3) 49 0 ((gU (gU (gU M_235 46 0 (M_235 29 0 21).toNat v1) 47 0 ((gU M_235 46 0 (M_235 29 0 21).toNat v1) 29 0 21).toNat v2) 48 0 ((gU (gU M_235 46 0 (M_235 29 0 21).toNat v1) 47 0 ((gU M_235 46 0 (M_235 29 0 21).toNat v1) 29 0 21).toNat v2) 29 0 21).toNat v3) 29 0 21).toNat v4) 29 0 21).toNat v5) 51 0 ((gU (gU (gU (gU (gU M_235 46 0 (M_235 29 0 21).toNat v1) 47 0 ((gU M_235 46 0 (M_235 29 0 21).toNat v1) 29 0 21).toNat v2) 48 0 ((gU (gU M_235 46 0 (M_235 29 0 21).toNat v1) 47 0 ((gU M_235 46 0 (M_235 29 0 21).toNat v1) 29 0 21).toNat v2) 29 0 21).toNat v3) 49 0 ((gU (gU (gU M_235 46 0 (M_235 29 0 21).toNat v1) 47 0 ((gU M_235 46 0 (M_235 29 0 21).toNat v1) 29 0 21).toNat v2) 48 0 ((gU (gU M_235 46 0 (M_235 29 0 21).toNat v1) 47 0 ((gU M_235 46 0 (M_235 29 0 21).toNat v1) 29 0 21).toNat v2) 29 0 21).toNat v3) 29 0 21).toNat v4) 50 0 ((gU (gU (gU (gU M_235 46 0 (M_235 29 0 21).toNat v1) 47 0 ((gU M_235 46 0 (M_235 29 0 21).toNat v1) 29 0 21).toNat v2) 48 0 ((gU (gU M_235 46 0 (M_235 29 0 21).toNat v1) 47 0 ((gU M_235 46 0 (M_235 29 0 21).toNat v1) 29 0 21).toNat v2) 29 0 21).toNat v3) 49 0 ((gU (gU (gU M_235 46 0 (M_235 29 0 21).toNat v1) 47 0 ((gU M_235 46 0 (M_235 29 0 21).toNat v1) 29 0 21).toNat v2) 48 0 ((gU (gU M_235 46 0 (M_235 29 0 21).toNat v1) 47 0 ((gU M_235 46 0 (M_235 29 0 21).toNat v1) 29 0 21).toNat v2) 29 0 21).toNat v3) 29 0 21).toNat v4) 29 0 21).toNat v5) 29 0 21).toNat ((f_X12_signature v1 v4 v5 (gU (gU (gU (gU (gU M_235 46 0 (M_235 29 0 21).toNat v1) 47 0 ((gU M_235 46 0 (M_235 29 0 21).toNat v1) 29 0 21).toNat v2) 48 0 ((gU (gU M_235 46 0 (M_235 29 0 21).toNat v1) 47 0 ((gU M_235 46 0 (M_235 29 0 21).toNat v1) 29 0 21).toNat v2) 29 0 21).toNat v3) 49 0 ((gU (gU (gU M_235 46 0 (M_235 29 0 21).toNat v1) 47 0 ((gU M_235 46 0 (M_235 29 0 21).toNat v1) 29 0 21).toNat v2) 48 0 ((gU (gU M_235 46 0 (M_235 29 0 21).toNat v1) 47 0 ((gU M_235 46 0 (M_235 29 0 21).toNat v1) 29 0 21).toNat v2) 29 0 21).toNat v3) 29 0 21).toNat v4) 50 0 ((gU (gU (gU (gU M_235 46 0 (M_235 29 0 21).toNat v1) 47 0 ((gU M_235 46 0 (M_235 29 0 21).toNat v1) 29 0 21).toNat v2) 48 0 ((gU (gU M_235 46 0 (M_235 29 0 21).toNat v1) 47 0 ((gU M_235 46 0 (M_235 29 0 21).toNat v1) 29 0 21).toNat v2) 29 0 21).toNat v3) 49 0 ((gU (gU (gU M_235 46 0 (M_235 29 0 21).toNat v1) 47 0 ((gU M_235 46 0 (M_235 29 0 21).toNat v1) 29 0 21).toNat v2) 48 0 ((gU (gU M_235 46 0 (M_235 29 0 21).toNat v1) 47 0 ((gU M_235 46 0 (M_235 29 0 21).toNat v1) 29 0 21).toNat v2) 29 0 21).toNat v3) 29 0 21).toNat v4) 29 0 21).toNat v5)))) 29 0 21))) rfl dX12_keep_310 ?_
      refine lv_iconst X.1 X.2.1 dX12_keep_313 (v := iI 0) rfl ?_
      obtain ⟨hg, hf_⟩ := og_e hf; clear hf; have hf := hf_; clear hf_
      refine g_zast X hH hS (r := 52) (i := 0) (by decide) (fun _ => rfl) nd310 hg (by decide) dX12_keep_314 (fun H locs hH hS => ?_)
      refine lv_aload_n X.1 X.2.1 dX12_keep_315 rfl (lv_at hl.1 0 rfl) ?_
      refine lv_dup X.1 X.2.1 dX12_keep_316 rfl ?_
      have nd317 : nmI ((gU (gU (gU (gU (gU (gU (gU M_235 46 0 (M_235 29 0 21).toNat v1) 47 0 ((gU M_235 46 0 (M_235 29 0 21).toNat v1) 29 0 21).toNat v2) 48 0 ((gU (gU M_235 46 0 (M_235 29 0 21).toNat v1) 47 0 ((gU M_235 46 0 (M_235 29 0 21).toNat v1) 29 0 21).toNat v2) 29 0 21).toNat v3) 49 0 ((gU (gU (gU M_235 46 0 (M_235 29 0 21).toNat v1) 47 0 ((gU M_235 46 0 (M_235 29 0 21).toNat v1) 29 0 21).toNat v2) 48 0 ((gU (gU M_235 46 0 (M_235 29 0 21).toNat v1) 47 0 ((gU M_235 46 0 (M_235 29 0 21).toNat v1) 29 0 21).toNat v2) 29 0 21).toNat v3) 29 0 21).toNat v4) 50 0 ((gU (gU (gU (gU M_235 46 0 (M_235 29 0 21).toNat v1) 47 0 ((gU M_235 46 0 (M_235 29 0 21).toNat v1) 29 0 21).toNat v2) 48 0 ((gU (gU M_235 46 0 (M_235 29 0 21).toNat v1) 47 0 ((gU M_235 46 0 (M_235 29 0 21).toNat v1) 29 0 21).toNat v2) 29 0 21).toNat v3) 49 0 ((gU (gU (gU M_235 46 0 (M_235 29 0 21).toNat v1) 47 0 ((gU M_235 46 0 (M_235 29 0 21).toNat v1) 29 0 21).toNat v2) 48 0 ((gU (gU M_235 46 0 (M_235 29 0 21).toNat v1) 47 0 ((gU M_235 46 0 (M_235 29 0 21).toNat v1) 29 0 21).toNat v2) 29 0 21).toNat v3) 29 0 21).toNat v4) 29 0 21).toNat v5) 51 0 ((gU (gU (gU (gU (gU M_235 46 0 (M_235 29 0 21).toNat v1) 47 0 ((gU M_235 46 0 (M_235 29 0 21).toNat v1) 29 0 21).toNat v2) 48 0 ((gU (gU M_235 46 0 (M_235 29 0 21).toNat v1) 47 0 ((gU M_235 46 0 (M_235 29 0 21).toNat v1) 29 0 21).toNat v2) 29 0 21).toNat v3) 49 0 ((gU (gU (gU M_235 46 0 (M_235 29 0 21).toNat v1) 47 0 ((gU M_235 46 0 (M_235 29 0 21).toNat v1) 29 0 21).toNat v2) 48 0 ((gU (gU M_235 46 0 (M_235 29 0 21).toNat v1) 47 0 ((gU M_235 46 0 (M_235 29 0 21).toNat v1) 29 0 21).toNat v2) 29 0 21).toNat v3) 29 0 21).toNat v4) 50 0 ((gU (gU (gU (gU M_235 46 0 (M_235 29 0 21).toNat v1) 47 0 ((gU M_235 46 0 (M_235 29 0 21).toNat v1) 29 0 21).toNat v2) 48 0 ((gU (gU M_235 46 0 (M_235 29 0 21).toNat v1) 47 0 ((gU M_235 46 0 (M_235 29 0 21).toNat v1) 29 0 21).toNat v2) 29 0 21).toNat v3) 49 0 ((gU (gU (gU M_235 46 0 (M_235 29 0 21).toNat v1) 47 0 ((gU M_235 46 0 (M_235 29 0 21).toNat v1) 29 0 21).toNat v2) 48 0 ((gU (gU M_235 46 0 (M_235 29 0 21).toNat v1) 47 0 ((gU M_235 46 0 (M_235 29 0 21).toNat v1) 29 0 21).toNat v2) 29 0 21).toNat v3) 29 0 21).toNat v4) 29 0 21).toNat v5) 29 0 21).toNat ((f_X12_signature v1 v4 v5 (gU (gU (gU (gU (gU M_235 46 0 (M_235 29 0 21).toNat v1) 47 0 ((gU M_235 46 0 (M_235 29 0 21).toNat v1) 29 0 21).toNat v2) 48 0 ((gU (gU M_235 46 0 (M_235 29 0 21).toNat v1) 47 0 ((gU M_235 46 0 (M_235 29 0 21).toNat v1) 29 0 21).toNat v2) 29 0 21).toNat v3) 49 0 ((gU (gU (gU M_235 46 0 (M_235 29 0 21).toNat v1) 47 0 ((gU M_235 46 0 (M_235 29 0 21).toNat v1) 29 0 21).toNat v2) 48 0 ((gU (gU M_235 46 0 (M_235 29 0 21).toNat v1) 47 0 ((gU M_235 46 0 (M_235 29 0 21).toNat v1) 29 0 21).toNat v2) 29 0 21).toNat v3) 29 0 21).toNat v4) 50 0 ((gU (gU (gU (gU M_235 46 0 (M_235 29 0 21).toNat v1) 47 0 ((gU M_235 46 0 (M_235 29 0 21).toNat v1) 29 0 21).toNat v2) 48 0 ((gU (gU M_235 46 0 (M_235 29 0 21).toNat v1) 47 0 ((gU M_235 46 0 (M_235 29 0 21).toNat v1) 29 0 21).toNat v2) 29 0 21).toNat v3) 49 0 ((gU (gU (gU M_235 46 0 (M_235 29 0 21).toNat v1) 47 0 ((gU M_235 46 0 (M_235 29 0 21).toNat v1) 29 0 21).toNat v2) 48 0 ((gU (gU M_235 46 0 (M_235 29 0 21).toNat v1) 47 0 ((gU M_235 46 0 (M_235 29 0 21).toNat v1) 29 0 21).toNat v2) 29 0 21).toNat v3) 29 0 21).toNat v4) 29 0 21).toNat v5)))) 52 0 ((gU (gU (gU (gU (gU (gU M_235 46 0 (M_235 29 0 21).toNat v1) 47 0 ((gU M_235 46 0 (M_235 29 0 21).toNat v1) 29 0 21).toNat v2) 48 0 ((gU (gU M_235 46 0 (M_235 29 0 21).toNat v1) 47 0 ((gU M_235 46 0 (M_235 29 0 21).toNat v1) 29 0 21).toNat v2) 29 0 21).toNat v3) 49 0 ((gU (gU (gU M_235 46 0 (M_235 29 0 21).toNat v1) 47 0 ((gU M_235 46 0 (M_235 29 0 21).toNat v1) 29 0 21).toNat v2) 48 0 ((gU (gU M_235 46 0 (M_235 29 0 21).toNat v1) 47 0 ((gU M_235 46 0 (M_235 29 0 21).toNat v1) 29 0 21).toNat v2) 29 0 21).toNat v3) 29 0 21).toNat v4) 50 0 ((gU (gU (gU (gU M_235 46 0 (M_235 29 0 21).toNat v1) 47 0 ((gU M_235 46 0 (M_235 29 0 21).toNat v1) 29 0 21).toNat v2) 48 0 ((gU (gU M_235 46 0 (M_235 29 0 21).toNat v1) 47 0 ((gU M_235 46 0 (M_235 29 0 21).toNat v1) 29 0 21).toNat v2) 29 0 21).toNat v3) 49 0 ((gU (gU (gU M_235 46 0 (M_235 29 0 21).toNat v1) 47 0 ((gU M_235 46 0 (M_235 29 0 21).toNat v1) 29 0 21).toNat v2) 48 0 ((gU (gU M_235 46 0 (M_235 29 0 21).toNat v1) 47 0 ((gU M_235 46 0 (M_235 29 0 21).toNat v1) 29 0 21).toNat v2) 29 0 21).toNat v3) 29 0 21).toNat v4) 29 0 21).toNat v5) 51 0 ((gU (gU (gU (gU (gU M_235 46 0 (M_235 29 0 21).toNat v1) 47 0 ((gU M_235 46 0 (M_235 29 0 21).toNat v1) 29 0 21).toNat v2) 48 0 ((gU (gU M_235 46 0 (M_235 29 0 21).toNat v1) 47 0 ((gU M_235 46 0 (M_235 29 0 21).toNat v1) 29 0 21).toNat v2) 29 0 21).toNat v3) 49 0 ((gU (gU (gU M_235 46 0 (M_235 29 0 21).toNat v1) 47 0 ((gU M_235 46 0 (M_235 29 0 21).toNat v1) 29 0 21).toNat v2) 48 0 ((gU (gU M_235 46 0 (M_235 29 0 21).toNat v1) 47 0 ((gU M_235 46 0 (M_235 29 0 21).toNat v1) 29 0 21).toNat v2) 29 0 21).toNat v3) 29 0 21).toNat v4) 50 0 ((gU (gU (gU (gU M_235 46 0 (M_235 29 0 21).toNat v1) 47 0 ((gU M_235 46 0 (M_235 29 0 21).toNat v1) 29 0 21).toNat v2) 48 0 ((gU (gU M_235 46 0 (M_235 29 0 21).toNat v1) 47 0 ((gU M_235 46 0 (M_235 29 0 21).toNat v1) 29 0 21).toNat v2) 29 0 21).toNat v3) 49 0 ((gU (gU (gU M_235 46 0 (M_235 29 0 21).toNat v1) 47 0 ((gU M_235 46 0 (M_235 29 0 21).toNat v1) 29 0 21).toNat v2) 48 0 ((gU (gU M_235 46 0 (M_235 29 0 21).toNat v1) 47 0 ((gU M_235 46 0 (M_235 29 0 21).toNat v1) 29 0 21).toNat v2) 29 0 21).toNat v3) 29 0 21).toNat v4) 29 0 21).toNat v5) 29 0 21).toNat ((f_X12_signature v1 v4 v5 (gU (gU (gU (gU (gU M_235 46 0 (M_235 29 0 21).toNat v1) 47 0 ((gU M_235 46 0 (M_235 29 0 21).toNat v1) 29 0 21).toNat v2) 48 0 ((gU (gU M_235 46 0 (M_235 29 0 21).toNat v1) 47 0 ((gU M_235 46 0 (M_235 29 0 21).toNat v1) 29 0 21).toNat v2) 29 0 21).toNat v3) 49 0 ((gU (gU (gU M_235 46 0 (M_235 29 0 21).toNat v1) 47 0 ((gU M_235 46 0 (M_235 29 0 21).toNat v1) 29 0 21).toNat v2) 48 0 ((gU (gU M_235 46 0 (M_235 29 0 21).toNat v1) 47 0 ((gU M_235 46 0 (M_235 29 0 21).toNat v1) 29 0 21).toNat v2) 29 0 21).toNat v3) 29 0 21).toNat v4) 50 0 ((gU (gU (gU (gU M_235 46 0 (M_235 29 0 21).toNat v1) 47 0 ((gU M_235 46 0 (M_235 29 0 21).toNat v1) 29 0 21).toNat v2) 48 0 ((gU (gU M_235 46 0 (M_235 29 0 21).toNat v1) 47 0 ((gU M_235 46 0 (M_235 29 0 21).toNat v1) 29 0 21).toNat v2) 29 0 21).toNat v3) 49 0 ((gU (gU (gU M_235 46 0 (M_235 29 0 21).toNat v1) 47 0 ((gU M_235 46 0 (M_235 29 0 21).toNat v1) 29 0 21).toNat v2) 48 0 ((gU (gU M_235 46 0 (M_235 29 0 21).toNat v1) 47 0 ((gU M_235 46 0 (M_235 29 0 21).toNat v1) 29 0 21).toNat v2) 29 0 21).toNat v3) 29 0 21).toNat v4) 29 0 21).toNat v5)))) 29 0 21).toNat 0) 29 0 21) := hH.1.1 _ _ _
      refine g_get X cX12 hH (r := 29) (i := 0) (by decide) rfl 21 (by decide) k_1231 rfl (v := .int (iI ((gU (gU (gU (gU (gU (gU (gU M_235 46 0 (M_235 29 0 21).toNat v1) 47 0 ((gU M_235 46 0 (M_235 29 0 21).toNat v1) 29 0 21).toNat v2) 48 0 ((gU (gU M_235 46 0 (M_235 29 0 21).toNat v1) 47 0 ((gU M_235 46 0 (M_235 29 0 21).toNat v1) 29 0 21).toNat v2) 29 0 21).toNat v3) 49 0 ((gU (gU (gU M_235 46 0 (M_235 29 0 21).toNat v1) 47 0 ((gU M_235 46 0 (M_235 29 0 21).toNat v1) 29 0 21).toNat v2) 48 0 ((gU (gU M_235 46 0 (M_235 29 0 21).toNat v1) 47 0 ((gU M_235 46 0 (M_235 29 0 21).toNat v1) 29 0 21).toNat v2) 29 0 21).toNat v3) 29 0 21).toNat v4) 50 0 ((gU (gU (gU (gU M_235 46 0 (M_235 29 0 21).toNat v1) 47 0 ((gU M_235 46 0 (M_235 29 0 21).toNat v1) 29 0 21).toNat v2) 48 0 ((gU (gU M_235 46 0 (M_235 29 0 21).toNat v1) 47 0 ((gU M_235 46 0 (M_235 29 0 21).toNat v1) 29 0 21).toNat v2) 29 0 21).toNat v3) 49 0 ((gU (gU (gU M_235 46 0 (M_235 29 0 21).toNat v1) 47 0 ((gU M_235 46 0 (M_235 29 0 21).toNat v1) 29 0 21).toNat v2) 48 0 ((gU (gU M_235 46 0 (M_235 29 0 21).toNat v1) 47 0 ((gU M_235 46 0 (M_235 29 0 21).toNat v1) 29 0 21).toNat v2) 29 0 21).toNat v3) 29 0 21).toNat v4) 29 0 21).toNat v5) 51 0 ((gU (gU (gU (gU (gU M_235 46 0 (M_235 29 0 21).toNat v1) 47 0 ((gU M_235 46 0 (M_235 29 0 21).toNat v1) 29 0 21).toNat v2) 48 0 ((gU (gU M_235 46 0 (M_235 29 0 21).toNat v1) 47 0 ((gU M_235 46 0 (M_235 29 0 21).toNat v1) 29 0 21).toNat v2) 29 0 21).toNat v3) 49 0 ((gU (gU (gU M_235 46 0 (M_235 29 0 21).toNat v1) 47 0 ((gU M_235 46 0 (M_235 29 0 21).toNat v1) 29 0 21).toNat v2) 48 0 ((gU (gU M_235 46 0 (M_235 29 0 21).toNat v1) 47 0 ((gU M_235 46 0 (M_235 29 0 21).toNat v1) 29 0 21).toNat v2) 29 0 21).toNat v3) 29 0 21).toNat v4) 50 0 ((gU (gU (gU (gU M_235 46 0 (M_235 29 0 21).toNat v1) 47 0 ((gU M_235 46 0 (M_235 29 0 21).toNat v1) 29 0 21).toNat v2) 48 0 ((gU (gU M_235 46 0 (M_235 29 0 21).toNat v1) 47 0 ((gU M_235 46 0 (M_235 29 0 21).toNat v1) 29 0 21).toNat v2) 29 0 21).toNat v3) 49 0 ((gU (gU (gU M_235 46 0 (M_235 29 0 21).toNat v1) 47 0 ((gU M_235 46 0 (M_235 29 0 21).toNat v1) 29 0 21).toNat v2) 48 0 ((gU (gU M_235 46 0 (M_235 29 0 21).toNat v1) 47 0 ((gU M_235 46 0 (M_235 29 0 21).toNat v1) 29 0 21).toNat v2) 29 0 21).toNat v3) 29 0 21).toNat v4) 29 0 21).toNat v5) 29 0 21).toNat ((f_X12_signature v1 v4 v5 (gU (gU (gU (gU (gU M_235 46 0 (M_235 29 0 21).toNat v1) 47 0 ((gU M_235 46 0 (M_235 29 0 21).toNat v1) 29 0 21).toNat v2) 48 0 ((gU (gU M_235 46 0 (M_235 29 0 21).toNat v1) 47 0 ((gU M_235 46 0 (M_235 29 0 21).toNat v1) 29 0 21).toNat v2) 29 0 21).toNat v3) 49 0 ((gU (gU (gU M_235 46 0 (M_235 29 0 21).toNat v1) 47 0 ((gU M_235 46 0 (M_235 29 0 21).toNat v1) 29 0 21).toNat v2) 48 0 ((gU (gU M_235 46 0 (M_235 29 0 21).toNat v1) 47 0 ((gU M_235 46 0 (M_235 29 0 21).toNat v1) 29 0 21).toNat v2) 29 0 21).toNat v3) 29 0 21).toNat v4) 50 0 ((gU (gU (gU (gU M_235 46 0 (M_235 29 0 21).toNat v1) 47 0 ((gU M_235 46 0 (M_235 29 0 21).toNat v1) 29 0 21).toNat v2) 48 0 ((gU (gU M_235 46 0 (M_235 29 0 21).toNat v1) 47 0 ((gU M_235 46 0 (M_235 29 0 21).toNat v1) 29 0 21).toNat v2) 29 0 21).toNat v3) 49 0 ((gU (gU (gU M_235 46 0 (M_235 29 0 21).toNat v1) 47 0 ((gU M_235 46 0 (M_235 29 0 21).toNat v1) 29 0 21).toNat v2) 48 0 ((gU (gU M_235 46 0 (M_235 29 0 21).toNat v1) 47 0 ((gU M_235 46 0 (M_235 29 0 21).toNat v1) 29 0 21).toNat v2) 29 0 21).toNat v3) 29 0 21).toNat v4) 29 0 21).toNat v5)))) 52 0 ((gU (gU (gU (gU (gU (gU M_235 46 0 (M_235 29 0 21).toNat v1) 47 0 ((gU M_235 46 0 (M_235 29 0 21).toNat v1) 29 0 21).toNat v2) 48 0 ((gU (gU M_235 46 0 (M_235 29 0 21).toNat v1) 47 0 ((gU M_235 46 0 (M_235 29 0 21).toNat v1) 29 0 21).toNat v2) 29 0 21).toNat v3) 49 0 ((gU (gU (gU M_235 46 0 (M_235 29 0 21).toNat v1) 47 0 ((gU M_235 46 0 (M_235 29 0 21).toNat v1) 29 0 21).toNat v2) 48 0 ((gU (gU M_235 46 0 (M_235 29 0 21).toNat v1) 47 0 ((gU M_235 46 0 (M_235 29 0 21).toNat v1) 29 0 21).toNat v2) 29 0 21).toNat v3) 29 0 21).toNat v4) 50 0 ((gU (gU (gU (gU M_235 46 0 (M_235 29 0 21).toNat v1) 47 0 ((gU M_235 46 0 (M_235 29 0 21).toNat v1) 29 0 21).toNat v2) 48 0 ((gU (gU M_235 46 0 (M_235 29 0 21).toNat v1) 47 0 ((gU M_235 46 0 (M_235 29 0 21).toNat v1) 29 0 21).toNat v2) 29 0 21).toNat v3) 49 0 ((gU (gU (gU M_235 46 0 (M_235 29 0 21).toNat v1) 47 0 ((gU M_235 46 0 (M_235 29 0 21).toNat v1) 29 0 21).toNat v2) 48 0 ((gU (gU M_235 46 0 (M_235 29 0 21).toNat v1) 47 0 ((gU M_235 46 0 (M_235 29 0 21).toNat v1) 29 0 21).toNat v2) 29 0 21).toNat v3) 29 0 21).toNat v4) 29 0 21).toNat v5) 51 0 ((gU (gU (gU (gU (gU M_235 46 0 (M_235 29 0 21).toNat v1) 47 0 ((gU M_235 46 0 (M_235 29 0 21).toNat v1) 29 0 21).toNat v2) 48 0 ((gU (gU M_235 46 0 (M_235 29 0 21).toNat v1) 47 0 ((gU M_235 46 0 (M_235 29 0 21).toNat v1) 29 0 21).toNat v2) 29 0 21).toNat v3) 49 0 ((gU (gU (gU M_235 46 0 (M_235 29 0 21).toNat v1) 47 0 ((gU M_235 46 0 (M_235 29 0 21).toNat v1) 29 0 21).toNat v2) 48 0 ((gU (gU M_235 46 0 (M_235 29 0 21).toNat v1) 47 0 ((gU M_235 46 0 (M_235 29 0 21).toNat v1) 29 0 21).toNat v2) 29 0 21).toNat v3) 29 0 21).toNat v4) 50 0 ((gU (gU (gU (gU M_235 46 0 (M_235 29 0 21).toNat v1) 47 0 ((gU M_235 46 0 (M_235 29 0 21).toNat v1) 29 0 21).toNat v2) 48 0 ((gU (gU M_235 46 0 (M_235 29 0 21).toNat v1) 47 0 ((gU M_235 46 0 (M_235 29 0 21).toNat v1) 29 0 21).toNat v2) 29 0 21).toNat v3) 49 0 ((gU (gU (gU M_235 46 0 (M_235 29 0 21).toNat v1) 47 0 ((gU M_235 46 0 (M_235 29 0 21).toNat v1) 29 0 21).toNat v2) 48 0 ((gU (gU M_235 46 0 (M_235 29 0 21).toNat v1) 47 0 ((gU M_235 46 0 (M_235 29 0 21).toNat v1) 29 0 21).toNat v2) 29 0 21).toNat v3) 29 0 21).toNat v4) 29 0 21).toNat v5) 29 0 21).toNat ((f_X12_signature v1 v4 v5 (gU (gU (gU (gU (gU M_235 46 0 (M_235 29 0 21).toNat v1) 47 0 ((gU M_235 46 0 (M_235 29 0 21).toNat v1) 29 0 21).toNat v2) 48 0 ((gU (gU M_235 46 0 (M_235 29 0 21).toNat v1) 47 0 ((gU M_235 46 0 (M_235 29 0 21).toNat v1) 29 0 21).toNat v2) 29 0 21).toNat v3) 49 0 ((gU (gU (gU M_235 46 0 (M_235 29 0 21).toNat v1) 47 0 ((gU M_235 46 0 (M_235 29 0 21).toNat v1) 29 0 21).toNat v2) 48 0 ((gU (gU M_235 46 0 (M_235 29 0 21).toNat v1) 47 0 ((gU M_235 46 0 (M_235 29 0 21).toNat v1) 29 0 21).toNat v2) 29 0 21).toNat v3) 29 0 21).toNat v4) 50 0 ((gU (gU (gU (gU M_235 46 0 (M_235 29 0 21).toNat v1) 47 0 ((gU M_235 46 0 (M_235 29 0 21).toNat v1) 29 0 21).toNat v2) 48 0 ((gU (gU M_235 46 0 (M_235 29 0 21).toNat v1) 47 0 ((gU M_235 46 0 (M_235 29 0 21).toNat v1) 29 0 21).toNat v2) 29 0 21).toNat v3) 49 0 ((gU (gU (gU M_235 46 0 (M_235 29 0 21).toNat v1) 47 0 ((gU M_235 46 0 (M_235 29 0 21).toNat v1) 29 0 21).toNat v2) 48 0 ((gU (gU M_235 46 0 (M_235 29 0 21).toNat v1) 47 0 ((gU M_235 46 0 (M_235 29 0 21).toNat v1) 29 0 21).toNat v2) 29 0 21).toNat v3) 29 0 21).toNat v4) 29 0 21).toNat v5)))) 29 0 21).toNat 0) 29 0 21))) rfl dX12_keep_317 ?_
      refine lv_iconst X.1 X.2.1 dX12_keep_320 (v := iI 1) rfl ?_
      refine g_iadd X dX12_keep_321 ?_
      refine g_putI X cX12 hH hS (r := 29) (i := 0) (by decide) rfl 21 (by decide) k_1231 rfl rfl rfl (Nat.le_of_ble_eq_true rfl) (x := wI (((gU (gU (gU (gU (gU (gU (gU M_235 46 0 (M_235 29 0 21).toNat v1) 47 0 ((gU M_235 46 0 (M_235 29 0 21).toNat v1) 29 0 21).toNat v2) 48 0 ((gU (gU M_235 46 0 (M_235 29 0 21).toNat v1) 47 0 ((gU M_235 46 0 (M_235 29 0 21).toNat v1) 29 0 21).toNat v2) 29 0 21).toNat v3) 49 0 ((gU (gU (gU M_235 46 0 (M_235 29 0 21).toNat v1) 47 0 ((gU M_235 46 0 (M_235 29 0 21).toNat v1) 29 0 21).toNat v2) 48 0 ((gU (gU M_235 46 0 (M_235 29 0 21).toNat v1) 47 0 ((gU M_235 46 0 (M_235 29 0 21).toNat v1) 29 0 21).toNat v2) 29 0 21).toNat v3) 29 0 21).toNat v4) 50 0 ((gU (gU (gU (gU M_235 46 0 (M_235 29 0 21).toNat v1) 47 0 ((gU M_235 46 0 (M_235 29 0 21).toNat v1) 29 0 21).toNat v2) 48 0 ((gU (gU M_235 46 0 (M_235 29 0 21).toNat v1) 47 0 ((gU M_235 46 0 (M_235 29 0 21).toNat v1) 29 0 21).toNat v2) 29 0 21).toNat v3) 49 0 ((gU (gU (gU M_235 46 0 (M_235 29 0 21).toNat v1) 47 0 ((gU M_235 46 0 (M_235 29 0 21).toNat v1) 29 0 21).toNat v2) 48 0 ((gU (gU M_235 46 0 (M_235 29 0 21).toNat v1) 47 0 ((gU M_235 46 0 (M_235 29 0 21).toNat v1) 29 0 21).toNat v2) 29 0 21).toNat v3) 29 0 21).toNat v4) 29 0 21).toNat v5) 51 0 ((gU (gU (gU (gU (gU M_235 46 0 (M_235 29 0 21).toNat v1) 47 0 ((gU M_235 46 0 (M_235 29 0 21).toNat v1) 29 0 21).toNat v2) 48 0 ((gU (gU M_235 46 0 (M_235 29 0 21).toNat v1) 47 0 ((gU M_235 46 0 (M_235 29 0 21).toNat v1) 29 0 21).toNat v2) 29 0 21).toNat v3) 49 0 ((gU (gU (gU M_235 46 0 (M_235 29 0 21).toNat v1) 47 0 ((gU M_235 46 0 (M_235 29 0 21).toNat v1) 29 0 21).toNat v2) 48 0 ((gU (gU M_235 46 0 (M_235 29 0 21).toNat v1) 47 0 ((gU M_235 46 0 (M_235 29 0 21).toNat v1) 29 0 21).toNat v2) 29 0 21).toNat v3) 29 0 21).toNat v4) 50 0 ((gU (gU (gU (gU M_235 46 0 (M_235 29 0 21).toNat v1) 47 0 ((gU M_235 46 0 (M_235 29 0 21).toNat v1) 29 0 21).toNat v2) 48 0 ((gU (gU M_235 46 0 (M_235 29 0 21).toNat v1) 47 0 ((gU M_235 46 0 (M_235 29 0 21).toNat v1) 29 0 21).toNat v2) 29 0 21).toNat v3) 49 0 ((gU (gU (gU M_235 46 0 (M_235 29 0 21).toNat v1) 47 0 ((gU M_235 46 0 (M_235 29 0 21).toNat v1) 29 0 21).toNat v2) 48 0 ((gU (gU M_235 46 0 (M_235 29 0 21).toNat v1) 47 0 ((gU M_235 46 0 (M_235 29 0 21).toNat v1) 29 0 21).toNat v2) 29 0 21).toNat v3) 29 0 21).toNat v4) 29 0 21).toNat v5) 29 0 21).toNat ((f_X12_signature v1 v4 v5 (gU (gU (gU (gU (gU M_235 46 0 (M_235 29 0 21).toNat v1) 47 0 ((gU M_235 46 0 (M_235 29 0 21).toNat v1) 29 0 21).toNat v2) 48 0 ((gU (gU M_235 46 0 (M_235 29 0 21).toNat v1) 47 0 ((gU M_235 46 0 (M_235 29 0 21).toNat v1) 29 0 21).toNat v2) 29 0 21).toNat v3) 49 0 ((gU (gU (gU M_235 46 0 (M_235 29 0 21).toNat v1) 47 0 ((gU M_235 46 0 (M_235 29 0 21).toNat v1) 29 0 21).toNat v2) 48 0 ((gU (gU M_235 46 0 (M_235 29 0 21).toNat v1) 47 0 ((gU M_235 46 0 (M_235 29 0 21).toNat v1) 29 0 21).toNat v2) 29 0 21).toNat v3) 29 0 21).toNat v4) 50 0 ((gU (gU (gU (gU M_235 46 0 (M_235 29 0 21).toNat v1) 47 0 ((gU M_235 46 0 (M_235 29 0 21).toNat v1) 29 0 21).toNat v2) 48 0 ((gU (gU M_235 46 0 (M_235 29 0 21).toNat v1) 47 0 ((gU M_235 46 0 (M_235 29 0 21).toNat v1) 29 0 21).toNat v2) 29 0 21).toNat v3) 49 0 ((gU (gU (gU M_235 46 0 (M_235 29 0 21).toNat v1) 47 0 ((gU M_235 46 0 (M_235 29 0 21).toNat v1) 29 0 21).toNat v2) 48 0 ((gU (gU M_235 46 0 (M_235 29 0 21).toNat v1) 47 0 ((gU M_235 46 0 (M_235 29 0 21).toNat v1) 29 0 21).toNat v2) 29 0 21).toNat v3) 29 0 21).toNat v4) 29 0 21).toNat v5)))) 52 0 ((gU (gU (gU (gU (gU (gU M_235 46 0 (M_235 29 0 21).toNat v1) 47 0 ((gU M_235 46 0 (M_235 29 0 21).toNat v1) 29 0 21).toNat v2) 48 0 ((gU (gU M_235 46 0 (M_235 29 0 21).toNat v1) 47 0 ((gU M_235 46 0 (M_235 29 0 21).toNat v1) 29 0 21).toNat v2) 29 0 21).toNat v3) 49 0 ((gU (gU (gU M_235 46 0 (M_235 29 0 21).toNat v1) 47 0 ((gU M_235 46 0 (M_235 29 0 21).toNat v1) 29 0 21).toNat v2) 48 0 ((gU (gU M_235 46 0 (M_235 29 0 21).toNat v1) 47 0 ((gU M_235 46 0 (M_235 29 0 21).toNat v1) 29 0 21).toNat v2) 29 0 21).toNat v3) 29 0 21).toNat v4) 50 0 ((gU (gU (gU (gU M_235 46 0 (M_235 29 0 21).toNat v1) 47 0 ((gU M_235 46 0 (M_235 29 0 21).toNat v1) 29 0 21).toNat v2) 48 0 ((gU (gU M_235 46 0 (M_235 29 0 21).toNat v1) 47 0 ((gU M_235 46 0 (M_235 29 0 21).toNat v1) 29 0 21).toNat v2) 29 0 21).toNat v3) 49 0 ((gU (gU (gU M_235 46 0 (M_235 29 0 21).toNat v1) 47 0 ((gU M_235 46 0 (M_235 29 0 21).toNat v1) 29 0 21).toNat v2) 48 0 ((gU (gU M_235 46 0 (M_235 29 0 21).toNat v1) 47 0 ((gU M_235 46 0 (M_235 29 0 21).toNat v1) 29 0 21).toNat v2) 29 0 21).toNat v3) 29 0 21).toNat v4) 29 0 21).toNat v5) 51 0 ((gU (gU (gU (gU (gU M_235 46 0 (M_235 29 0 21).toNat v1) 47 0 ((gU M_235 46 0 (M_235 29 0 21).toNat v1) 29 0 21).toNat v2) 48 0 ((gU (gU M_235 46 0 (M_235 29 0 21).toNat v1) 47 0 ((gU M_235 46 0 (M_235 29 0 21).toNat v1) 29 0 21).toNat v2) 29 0 21).toNat v3) 49 0 ((gU (gU (gU M_235 46 0 (M_235 29 0 21).toNat v1) 47 0 ((gU M_235 46 0 (M_235 29 0 21).toNat v1) 29 0 21).toNat v2) 48 0 ((gU (gU M_235 46 0 (M_235 29 0 21).toNat v1) 47 0 ((gU M_235 46 0 (M_235 29 0 21).toNat v1) 29 0 21).toNat v2) 29 0 21).toNat v3) 29 0 21).toNat v4) 50 0 ((gU (gU (gU (gU M_235 46 0 (M_235 29 0 21).toNat v1) 47 0 ((gU M_235 46 0 (M_235 29 0 21).toNat v1) 29 0 21).toNat v2) 48 0 ((gU (gU M_235 46 0 (M_235 29 0 21).toNat v1) 47 0 ((gU M_235 46 0 (M_235 29 0 21).toNat v1) 29 0 21).toNat v2) 29 0 21).toNat v3) 49 0 ((gU (gU (gU M_235 46 0 (M_235 29 0 21).toNat v1) 47 0 ((gU M_235 46 0 (M_235 29 0 21).toNat v1) 29 0 21).toNat v2) 48 0 ((gU (gU M_235 46 0 (M_235 29 0 21).toNat v1) 47 0 ((gU M_235 46 0 (M_235 29 0 21).toNat v1) 29 0 21).toNat v2) 29 0 21).toNat v3) 29 0 21).toNat v4) 29 0 21).toNat v5) 29 0 21).toNat ((f_X12_signature v1 v4 v5 (gU (gU (gU (gU (gU M_235 46 0 (M_235 29 0 21).toNat v1) 47 0 ((gU M_235 46 0 (M_235 29 0 21).toNat v1) 29 0 21).toNat v2) 48 0 ((gU (gU M_235 46 0 (M_235 29 0 21).toNat v1) 47 0 ((gU M_235 46 0 (M_235 29 0 21).toNat v1) 29 0 21).toNat v2) 29 0 21).toNat v3) 49 0 ((gU (gU (gU M_235 46 0 (M_235 29 0 21).toNat v1) 47 0 ((gU M_235 46 0 (M_235 29 0 21).toNat v1) 29 0 21).toNat v2) 48 0 ((gU (gU M_235 46 0 (M_235 29 0 21).toNat v1) 47 0 ((gU M_235 46 0 (M_235 29 0 21).toNat v1) 29 0 21).toNat v2) 29 0 21).toNat v3) 29 0 21).toNat v4) 50 0 ((gU (gU (gU (gU M_235 46 0 (M_235 29 0 21).toNat v1) 47 0 ((gU M_235 46 0 (M_235 29 0 21).toNat v1) 29 0 21).toNat v2) 48 0 ((gU (gU M_235 46 0 (M_235 29 0 21).toNat v1) 47 0 ((gU M_235 46 0 (M_235 29 0 21).toNat v1) 29 0 21).toNat v2) 29 0 21).toNat v3) 49 0 ((gU (gU (gU M_235 46 0 (M_235 29 0 21).toNat v1) 47 0 ((gU M_235 46 0 (M_235 29 0 21).toNat v1) 29 0 21).toNat v2) 48 0 ((gU (gU M_235 46 0 (M_235 29 0 21).toNat v1) 47 0 ((gU M_235 46 0 (M_235 29 0 21).toNat v1) 29 0 21).toNat v2) 29 0 21).toNat v3) 29 0 21).toNat v4) 29 0 21).toNat v5)))) 29 0 21).toNat 0) 29 0 21) + 1)) (nmI_w _) rfl rfl rfl dX12_keep_322 (fun H locs hH hS => ?_)
      have hq := Option.some.inj hf; subst hq
      exact gRetV X hH hS dX12_keep_325
    clear ek235
    refine g_icmp_ne X nd87 (nmI_l (by decide)) (tgt := 235) dX12_keep_92 (by decide) (fun hc92 => ?_) (fun hc92 => ?_)
    · replace hf := it_f hf hc92
      exact hk235 M hf _ _ _ hH hS (gLv_sub hl [0, 1, 2, 3, 4, 5] rfl)
    · replace hf := it_t hf hc92
      refine lv_aload_n X.1 X.2.1 dX12_keep_95 rfl (lv_at hl.1 0 rfl) ?_
      refine lv_dup X.1 X.2.1 dX12_keep_96 rfl ?_
      have nd97 : nmI (M 29 0 21) := hH.1.1 _ _ _
      refine g_get X cX12 hH (r := 29) (i := 0) (by decide) rfl 21 (by decide) k_1231 rfl (v := .int (iI (M 29 0 21))) rfl dX12_keep_97 ?_
      refine lv_iconst X.1 X.2.1 dX12_keep_100 (v := iI 1) rfl ?_
      refine g_isub X dX12_keep_101 ?_
      refine g_putI X cX12 hH hS (r := 29) (i := 0) (by decide) rfl 21 (by decide) k_1231 rfl rfl rfl (Nat.le_of_ble_eq_true rfl) (x := wI ((M 29 0 21) - 1)) (nmI_w _) rfl rfl rfl dX12_keep_102 (fun H locs hH hS => ?_)
      refine lv_iconst X.1 X.2.1 dX12_keep_105 (v := iI 0) rfl ?_
      refine g_istore X (lv' := [(6, .int (iI 0)), (0, .ref (gAd G 29 0)), (1, .int (iI v1)), (2, .int (iI v2)), (3, .int (iI v3)), (4, .int (iI v4)), (5, .int (iI v5))]) dX12_keep_106 hl (by decide) rfl (fun ls hl => ?_)
      refine w_X12_keep_L108 X _ v1 nv1 v2 nv2 v3 nv3 v4 nv4 v5 nv5 q ?_ 64 0 (nmI_l (by decide)) (gU M 29 0 21 (wI ((M 29 0 21) - 1))) hf _ _ _ hH hS (gLv_sub hl [1, 2, 3, 4, 5, 6, 0] rfl)
      · intro  M_108_235 hf H locs ls hH hS hl
        exact hk235 M_108_235 hf _ _ _ hH hS (gLv_sub hl [0, 1, 2, 3, 4, 5] rfl)
theorem m_X12_ends (l : Launch) (G : gG) (v1 : Int) (nv1 : nmI v1) (M : gM) (q : gM) (hf : f_X12_ends v1 M = some q) : gMet l yX12_ends cX12_ends 8 none 3 70 G M [.ref (gAd G 29 0), .int (iI v1)] (gQv G q) := by
  refine gOfW (by decide) (by show _ ≤ 8; exact Nat.le_of_ble_eq_true rfl) rfl ?_
  intro p e s m below meth c X hH ls hl
  replace hl : gLv ls 8 [(0, .ref (gAd G 29 0)), (1, .int (iI v1))] := hl
  have hS : va_S (gA G) s.heap s.heap [] := va_S.rf
  generalize hargs : ([.ref (gAd G 29 0), .int (iI v1)] : List Value).toArray = args at X ⊢
  clear hargs
  unfold f_X12_ends at hf
  refine lv_aload_n X.1 X.2.1 dX12_ends_0 rfl (lv_at hl.1 0 rfl) ?_
  refine g_get X cX12 hH (r := 29) (i := 0) (by decide) rfl 30 (by decide) k_1240 rfl (v := .ref (gAd G 54 0)) rfl dX12_ends_1 ?_
  refine lv_iload_n X.1 X.2.1 dX12_ends_4 rfl (lv_at hl.1 1 rfl) ?_
  obtain ⟨hg, hf_⟩ := og_e hf; clear hf; have hf := hf_; clear hf_
  have nd5 : nmI (M 54 0 v1.toNat) := hH.1.1 _ _ _
  refine g_iald X hH (r := 54) (i := 0) (by decide) rfl nv1 hg (v := M 54 0 v1.toNat) rfl dX12_ends_5 ?_
  refine g_istore_n X (lv' := [(2, .int (iI (M 54 0 v1.toNat))), (0, .ref (gAd G 29 0)), (1, .int (iI v1))]) dX12_ends_6 rfl hl (by decide) rfl (fun ls hl => ?_)
  refine lv_iload_n X.1 X.2.1 dX12_ends_7 rfl (lv_at hl.1 0 rfl) ?_
  refine lv_iconst X.1 X.2.1 dX12_ends_8 (v := iI 4) rfl ?_
  refine g_idiv X nd5 (nmI_l (by decide)) (by decide) dX12_ends_9 ?_
  refine g_istore_n X (lv' := [(3, .int (iI (wI ((M 54 0 v1.toNat).tdiv 4)))), (2, .int (iI (M 54 0 v1.toNat))), (0, .ref (gAd G 29 0)), (1, .int (iI v1))]) dX12_ends_10 rfl hl (by decide) rfl (fun ls hl => ?_)
  refine lv_aload_n X.1 X.2.1 dX12_ends_11 rfl (lv_at hl.1 2 rfl) ?_
  refine g_get X cX12 hH (r := 29) (i := 0) (by decide) rfl 30 (by decide) k_1240 rfl (v := .ref (gAd G 54 0)) rfl dX12_ends_12 ?_
  refine lv_iload_n X.1 X.2.1 dX12_ends_15 rfl (lv_at hl.1 3 rfl) ?_
  refine lv_iconst X.1 X.2.1 dX12_ends_16 (v := iI (-1)) rfl ?_
  obtain ⟨hg, hf_⟩ := og_e hf; clear hf; have hf := hf_; clear hf_
  refine g_iast X hH hS (r := 54) (i := 0) (by decide) (fun _ => rfl) nv1 hg (nmI_l (by decide)) rfl (by decide) dX12_ends_17 (fun H locs hH hS => ?_)
  refine lv_aload_n X.1 X.2.1 dX12_ends_18 rfl (lv_at hl.1 2 rfl) ?_
  refine g_get X cX12 hH (r := 29) (i := 0) (by decide) rfl 35 (by decide) k_1245 rfl (v := .ref (gAd G 59 0)) rfl dX12_ends_19 ?_
  refine lv_iload_n X.1 X.2.1 dX12_ends_22 rfl (lv_at hl.1 3 rfl) ?_
  refine lv_aload_n X.1 X.2.1 dX12_ends_23 rfl (lv_at hl.1 2 rfl) ?_
  refine g_get X cX12 hH (r := 29) (i := 0) (by decide) rfl 9 (by decide) k_1219 rfl (v := .ref (gAd G 36 0)) rfl dX12_ends_24 ?_
  refine lv_iload_n X.1 X.2.1 dX12_ends_27 rfl (lv_at hl.1 0 rfl) ?_
  obtain ⟨hg, hf_⟩ := og_e hf; clear hf; have hf := hf_; clear hf_
  have nd28 : nmI ((gU M 54 0 v1.toNat ((-1))) 36 0 (wI ((M 54 0 v1.toNat).tdiv 4)).toNat) := hH.1.1 _ _ _
  refine g_iald X hH (r := 36) (i := 0) (by decide) rfl (nmI_w _) hg (v := (gU M 54 0 v1.toNat ((-1))) 36 0 (wI ((M 54 0 v1.toNat).tdiv 4)).toNat) rfl dX12_ends_28 ?_
  obtain ⟨hg, hf_⟩ := og_e hf; clear hf; have hf := hf_; clear hf_
  refine g_iast X hH hS (r := 59) (i := 0) (by decide) (fun _ => rfl) nv1 hg nd28 rfl (by decide) dX12_ends_29 (fun H locs hH hS => ?_)
  refine lv_aload_n X.1 X.2.1 dX12_ends_30 rfl (lv_at hl.1 2 rfl) ?_
  refine lv_iload_n X.1 X.2.1 dX12_ends_31 rfl (lv_at hl.1 1 rfl) ?_
  obtain ⟨r32, hq32, hf_⟩ := ob_e hf; clear hf; have hf := hf_; clear hf_
  refine gGoI (gRunV X hH (As := [.int (iI (M 54 0 v1.toNat))]) (m_X12_workerAt l G (M 54 0 v1.toNat) nd5 (gU (gU M 54 0 v1.toNat ((-1))) 59 0 v1.toNat ((gU M 54 0 v1.toNat ((-1))) 36 0 (wI ((M 54 0 v1.toNat).tdiv 4)).toNat)) _ hq32) calX12_workerAt k_1467 k_37 k_1465 (by decide) cX12 rfl ⟨by decide, by decide⟩ rfl hl rfl (Nat.le_of_ble_eq_true rfl) ⟨Nat.le_of_ble_eq_true rfl, Nat.le_of_ble_eq_true rfl⟩ dX12_ends_32) hS (fun H locs nr32 hH hS => ?_)
  refine g_istore X (lv' := [(4, .int (iI r32)), (3, .int (iI (wI ((M 54 0 v1.toNat).tdiv 4)))), (2, .int (iI (M 54 0 v1.toNat))), (0, .ref (gAd G 29 0)), (1, .int (iI v1))]) dX12_ends_35 hl (by decide) rfl (fun ls hl => ?_)
  refine lv_iload X.1 X.2.1 dX12_ends_37 (lv_at hl.1 0 rfl) ?_
  refine lv_iconst X.1 X.2.1 dX12_ends_39 (v := iI (-1)) rfl ?_
  obtain ⟨k59, ek59, hf_⟩ := oj_e hf; clear hf; have hf := hf_; clear hf_
  have hk59 : ∀  (M_59 : gM), k59 M_59 = some q → ∀ (H : Heap) (locs : List Loc) (ls : Array Slot), gH G M_59 H → va_S (gA G) s.heap H locs → gLv ls 8 [(0, .ref (gAd G 29 0)), (1, .int (iI v1)), (2, .int (iI (M 54 0 v1.toNat))), (3, .int (iI (wI ((M 54 0 v1.toNat).tdiv 4))))] → W p l e { frames := 3, cells := 0, slots := 0, locals := 70 } s m args below meth c H locs 0 0 (MQ below (gQv G q) args s 0 0 (gA G)) (F0 m 59 ls []) := by
    intro  M_59 hf H locs ls hH hS hl
    subst ek59
    refine lv_aload_n X.1 X.2.1 dX12_ends_59 rfl (lv_at hl.1 0 rfl) ?_
    refine lv_iload_n X.1 X.2.1 dX12_ends_60 rfl (lv_at hl.1 3 rfl) ?_
    refine lv_aload_n X.1 X.2.1 dX12_ends_61 rfl (lv_at hl.1 0 rfl) ?_
    refine g_get X cX12 hH (r := 29) (i := 0) (by decide) rfl 33 (by decide) k_1243 rfl (v := .ref (gAd G 57 0)) rfl dX12_ends_62 ?_
    refine lv_iload_n X.1 X.2.1 dX12_ends_65 rfl (lv_at hl.1 1 rfl) ?_
    obtain ⟨hg, hf_⟩ := og_e hf; clear hf; have hf := hf_; clear hf_
    have nd66 : nmI (M_59 57 0 v1.toNat) := hH.1.1 _ _ _
    refine g_iald X hH (r := 57) (i := 0) (by decide) rfl nv1 hg (v := M_59 57 0 v1.toNat) rfl dX12_ends_66 ?_
    obtain ⟨r67, hq67, hf_⟩ := ob_e hf; clear hf; have hf := hf_; clear hf_
    refine gGoI (gRunV X hH (As := [.int (iI (wI ((M 54 0 v1.toNat).tdiv 4))), .int (iI (M_59 57 0 v1.toNat))]) (m_X12_foundBy l G (wI ((M 54 0 v1.toNat).tdiv 4)) (nmI_w _) (M_59 57 0 v1.toNat) nd66 M_59 _ hq67) calX12_foundBy k_1515 k_47 k_1513 (by decide) cX12 rfl ⟨by decide, by decide⟩ rfl hl rfl (Nat.le_of_ble_eq_true rfl) ⟨Nat.le_of_ble_eq_true rfl, Nat.le_of_ble_eq_true rfl⟩ dX12_ends_67) hS (fun H locs nr67 hH hS => ?_)
    refine g_istore X (lv' := [(5, .int (iI r67)), (0, .ref (gAd G 29 0)), (1, .int (iI v1)), (2, .int (iI (M 54 0 v1.toNat))), (3, .int (iI (wI ((M 54 0 v1.toNat).tdiv 4))))]) dX12_ends_70 hl (by decide) rfl (fun ls hl => ?_)
    refine lv_aload_n X.1 X.2.1 dX12_ends_72 rfl (lv_at hl.1 1 rfl) ?_
    refine lv_iload_n X.1 X.2.1 dX12_ends_73 rfl (lv_at hl.1 3 rfl) ?_
    obtain ⟨r74, hq74, hf_⟩ := ob_e hf; clear hf; have hf := hf_; clear hf_
    refine gGoI (gRunV X hH (As := [.int (iI (M 54 0 v1.toNat))]) (m_X12_keyOf l G (M 54 0 v1.toNat) nd5 M_59 _ hq74) calX12_keyOf k_1503 k_44 k_1501 (by decide) cX12 rfl ⟨by decide, by decide⟩ rfl hl rfl (Nat.le_of_ble_eq_true rfl) ⟨Nat.le_of_ble_eq_true rfl, Nat.le_of_ble_eq_true rfl⟩ dX12_ends_74) hS (fun H locs nr74 hH hS => ?_)
    refine lv_aload_n X.1 X.2.1 dX12_ends_77 rfl (lv_at hl.1 1 rfl) ?_
    refine g_get X cX12 hH (r := 29) (i := 0) (by decide) rfl 33 (by decide) k_1243 rfl (v := .ref (gAd G 57 0)) rfl dX12_ends_78 ?_
    refine lv_iload_n X.1 X.2.1 dX12_ends_81 rfl (lv_at hl.1 2 rfl) ?_
    obtain ⟨hg, hf_⟩ := og_e hf; clear hf; have hf := hf_; clear hf_
    have nd82 : nmI (M_59 57 0 v1.toNat) := hH.1.1 _ _ _
    refine g_iald X hH (r := 57) (i := 0) (by decide) rfl nv1 hg (v := M_59 57 0 v1.toNat) rfl dX12_ends_82 ?_
    obtain ⟨k108, ek108, hf_⟩ := oj_e hf; clear hf; have hf := hf_; clear hf_
    have hk108 : k108 = some q → ∀ (H : Heap) (locs : List Loc) (ls : Array Slot), gH G M_59 H → va_S (gA G) s.heap H locs → gLv ls 8 [(0, .ref (gAd G 29 0)), (2, .int (iI (M 54 0 v1.toNat)))] → W p l e { frames := 3, cells := 0, slots := 0, locals := 70 } s m args below meth c H locs 0 0 (MQ below (gQv G q) args s 0 0 (gA G)) (F0 m 108 ls []) := by
      intro  hf H locs ls hH hS hl
      subst ek108
      refine lv_aload_n X.1 X.2.1 dX12_ends_108 rfl (lv_at hl.1 0 rfl) ?_
      refine g_get X cX12 hH (r := 29) (i := 0) (by decide) rfl 47 (by decide) k_1257 rfl (v := .ref (gAd G 68 0)) rfl dX12_ends_109 ?_
      refine lv_iconst X.1 X.2.1 dX12_ends_112 (v := iI 2) rfl ?_
      refine lv_dup2_11 X.1 X.2.1 dX12_ends_113 rfl rfl ?_
      obtain ⟨hg, hf_⟩ := og_e hf; clear hf; have hf := hf_; clear hf_
      have nd114 : nmI (M_59 68 0 2) := hH.1.1 _ _ _
      refine g_iald X hH (r := 68) (i := 0) (by decide) rfl (nmI_l (by decide)) hg (v := M_59 68 0 2) rfl dX12_ends_114 ?_
      refine lv_iconst X.1 X.2.1 dX12_ends_115 (v := iI 1) rfl ?_
      refine g_iadd X dX12_ends_116 ?_
      obtain ⟨hg, hf_⟩ := og_e hf; clear hf; have hf := hf_; clear hf_
      refine g_iast X hH hS (r := 68) (i := 0) (by decide) (fun _ => rfl) (nmI_l (by decide)) hg (nmI_w _) rfl (by decide) dX12_ends_117 (fun H locs hH hS => ?_)
      refine lv_aload_n X.1 X.2.1 dX12_ends_118 rfl (lv_at hl.1 0 rfl) ?_
      refine g_get X cX12 hH (r := 29) (i := 0) (by decide) rfl 38 (by decide) k_1248 rfl (v := .ref (gAd G 60 0)) rfl dX12_ends_119 ?_
      refine lv_iload_n X.1 X.2.1 dX12_ends_122 rfl (lv_at hl.1 1 rfl) ?_
      refine lv_iconst X.1 X.2.1 dX12_ends_123 (v := iI 0) rfl ?_
      obtain ⟨hg, hf_⟩ := og_e hf; clear hf; have hf := hf_; clear hf_
      refine g_iast X hH hS (r := 60) (i := 0) (by decide) (fun _ => rfl) nd5 hg (nmI_l (by decide)) rfl (by decide) dX12_ends_124 (fun H locs hH hS => ?_)
      refine lv_aload_n X.1 X.2.1 dX12_ends_125 rfl (lv_at hl.1 0 rfl) ?_
      refine g_get X cX12 hH (r := 29) (i := 0) (by decide) rfl 41 (by decide) k_1251 rfl (v := .ref (gAd G 63 0)) rfl dX12_ends_126 ?_
      refine lv_iload_n X.1 X.2.1 dX12_ends_129 rfl (lv_at hl.1 1 rfl) ?_
      refine lv_iconst X.1 X.2.1 dX12_ends_130 (v := iI 0) rfl ?_
      obtain ⟨hg, hf_⟩ := og_e hf; clear hf; have hf := hf_; clear hf_
      refine g_iast X hH hS (r := 63) (i := 0) (by decide) (fun _ => rfl) nd5 hg (nmI_l (by decide)) rfl (by decide) dX12_ends_131 (fun H locs hH hS => ?_)
      have hq := Option.some.inj hf; subst hq
      exact gRetV X hH hS dX12_ends_132
    clear ek108
    refine g_icmp_ne X nr74 nd82 (tgt := 108) dX12_ends_83 (by decide) (fun hc83 => ?_) (fun hc83 => ?_)
    · replace hf := it_f hf hc83
      exact hk108  hf _ _ _ hH hS (gLv_sub hl [1, 3] rfl)
    · replace hf := it_t hf hc83
      refine lv_iload X.1 X.2.1 dX12_ends_86 (lv_at hl.1 0 rfl) ?_
      refine lv_iconst X.1 X.2.1 dX12_ends_88 (v := iI (-1)) rfl ?_
      obtain ⟨k133, ek133, hf_⟩ := oj_e hf; clear hf; have hf := hf_; clear hf_
      have hk133 : k133 = some q → ∀ (H : Heap) (locs : List Loc) (ls : Array Slot), gH G M_59 H → va_S (gA G) s.heap H locs → gLv ls 8 [(0, .ref (gAd G 29 0)), (1, .int (iI v1)), (2, .int (iI (M 54 0 v1.toNat))), (3, .int (iI (wI ((M 54 0 v1.toNat).tdiv 4)))), (5, .int (iI r67))] → W p l e { frames := 3, cells := 0, slots := 0, locals := 70 } s m args below meth c H locs 0 0 (MQ below (gQv G q) args s 0 0 (gA G)) (F0 m 133 ls []) := by
        intro  hf H locs ls hH hS hl
        subst ek133
        refine lv_aload_n X.1 X.2.1 dX12_ends_133 rfl (lv_at hl.1 0 rfl) ?_
        refine lv_iload_n X.1 X.2.1 dX12_ends_134 rfl (lv_at hl.1 3 rfl) ?_
        refine lv_aload_n X.1 X.2.1 dX12_ends_135 rfl (lv_at hl.1 0 rfl) ?_
        refine g_get X cX12 hH (r := 29) (i := 0) (by decide) rfl 33 (by decide) k_1243 rfl (v := .ref (gAd G 57 0)) rfl dX12_ends_136 ?_
        refine lv_iload_n X.1 X.2.1 dX12_ends_139 rfl (lv_at hl.1 1 rfl) ?_
        obtain ⟨hg, hf_⟩ := og_e hf; clear hf; have hf := hf_; clear hf_
        have nd140 : nmI (M_59 57 0 v1.toNat) := hH.1.1 _ _ _
        refine g_iald X hH (r := 57) (i := 0) (by decide) rfl nv1 hg (v := M_59 57 0 v1.toNat) rfl dX12_ends_140 ?_
        obtain ⟨r141, hq141, hf_⟩ := ob_e hf; clear hf; have hf := hf_; clear hf_
        refine gGoZ (gRunV X hH (As := [.int (iI (wI ((M 54 0 v1.toNat).tdiv 4))), .int (iI (M_59 57 0 v1.toNat))]) (m_X12_breaks l G (wI ((M 54 0 v1.toNat).tdiv 4)) (nmI_w _) (M_59 57 0 v1.toNat) nd140 M_59 _ hq141) calX12_breaks k_1519 k_48 k_1517 (by decide) cX12 rfl ⟨by decide, by decide⟩ rfl hl rfl (Nat.le_of_ble_eq_true rfl) ⟨Nat.le_of_ble_eq_true rfl, Nat.le_of_ble_eq_true rfl⟩ dX12_ends_141) hS (fun H locs br141 hH hS => ?_)
        refine g_if_eq X (nmI_b br141) (tgt := 155) dX12_ends_144 (by decide) (fun hc144 => ?_) (fun hc144 => ?_)
        · replace hf := it_t hf hc144
          refine lv_iload X.1 X.2.1 dX12_ends_155 (lv_at hl.1 4 rfl) ?_
          refine lv_iconst X.1 X.2.1 dX12_ends_157 (v := iI (-1)) rfl ?_
          obtain ⟨k185, ek185, hf_⟩ := oj_e hf; clear hf; have hf := hf_; clear hf_
          have hk185 : ∀ (xs0_185 : Int) (nxs0_185 : nmI xs0_185), k185 xs0_185 = some q → ∀ (H : Heap) (locs : List Loc) (ls : Array Slot), gH G M_59 H → va_S (gA G) s.heap H locs → gLv ls 8 [(0, .ref (gAd G 29 0)), (1, .int (iI v1)), (2, .int (iI (M 54 0 v1.toNat))), (3, .int (iI (wI ((M 54 0 v1.toNat).tdiv 4)))), (5, .int (iI r67))] → W p l e { frames := 3, cells := 0, slots := 0, locals := 70 } s m args below meth c H locs 0 0 (MQ below (gQv G q) args s 0 0 (gA G)) (F0 m 185 ls [.int (iI xs0_185)]) := by
            intro xs0_185 nxs0_185 hf H locs ls hH hS hl
            subst ek185
            refine g_istore X (lv' := [(6, .int (iI xs0_185)), (0, .ref (gAd G 29 0)), (1, .int (iI v1)), (2, .int (iI (M 54 0 v1.toNat))), (3, .int (iI (wI ((M 54 0 v1.toNat).tdiv 4)))), (5, .int (iI r67))]) dX12_ends_185 hl (by decide) rfl (fun ls hl => ?_)
            refine lv_aload_n X.1 X.2.1 dX12_ends_187 rfl (lv_at hl.1 1 rfl) ?_
            refine g_get X cX12 hH (r := 29) (i := 0) (by decide) rfl 8 (by decide) k_1218 rfl (v := .ref (gAd G 35 0)) rfl dX12_ends_188 ?_
            refine lv_iload_n X.1 X.2.1 dX12_ends_191 rfl (lv_at hl.1 4 rfl) ?_
            obtain ⟨hg, hf_⟩ := og_e hf; clear hf; have hf := hf_; clear hf_
            have nd192 : nmI (M_59 35 0 (wI ((M 54 0 v1.toNat).tdiv 4)).toNat) := hH.1.1 _ _ _
            refine g_iald X hH (r := 35) (i := 0) (by decide) rfl (nmI_w _) hg (v := M_59 35 0 (wI ((M 54 0 v1.toNat).tdiv 4)).toNat) rfl dX12_ends_192 ?_
            refine lv_iconst X.1 X.2.1 dX12_ends_193 (v := iI 2) rfl ?_
            obtain ⟨k231, ek231, hf_⟩ := oj_e hf; clear hf; have hf := hf_; clear hf_
            have hk231 : ∀ (xs0_231 : Int) (bxs0_231 : xs0_231 = 0 ∨ xs0_231 = 1), k231 xs0_231 = some q → ∀ (H : Heap) (locs : List Loc) (ls : Array Slot), gH G M_59 H → va_S (gA G) s.heap H locs → gLv ls 8 [(0, .ref (gAd G 29 0)), (1, .int (iI v1)), (2, .int (iI (M 54 0 v1.toNat))), (3, .int (iI (wI ((M 54 0 v1.toNat).tdiv 4)))), (5, .int (iI r67)), (6, .int (iI xs0_185))] → W p l e { frames := 3, cells := 0, slots := 0, locals := 70 } s m args below meth c H locs 0 0 (MQ below (gQv G q) args s 0 0 (gA G)) (F0 m 231 ls [.int (iI xs0_231)]) := by
              intro xs0_231 bxs0_231 hf H locs ls hH hS hl
              subst ek231
              refine g_istore X (lv' := [(7, .int (iI xs0_231)), (0, .ref (gAd G 29 0)), (1, .int (iI v1)), (2, .int (iI (M 54 0 v1.toNat))), (3, .int (iI (wI ((M 54 0 v1.toNat).tdiv 4)))), (5, .int (iI r67)), (6, .int (iI xs0_185))]) dX12_ends_231 hl (by decide) rfl (fun ls hl => ?_)
              refine lv_iload X.1 X.2.1 dX12_ends_233 (lv_at hl.1 0 rfl) ?_
              obtain ⟨k294, ek294, hf_⟩ := oj_e hf; clear hf; have hf := hf_; clear hf_
              have hk294 : ∀  (M_294 : gM), k294 M_294 = some q → ∀ (H : Heap) (locs : List Loc) (ls : Array Slot), gH G M_294 H → va_S (gA G) s.heap H locs → gLv ls 8 [(0, .ref (gAd G 29 0)), (1, .int (iI v1)), (2, .int (iI (M 54 0 v1.toNat))), (3, .int (iI (wI ((M 54 0 v1.toNat).tdiv 4)))), (5, .int (iI r67)), (6, .int (iI xs0_185))] → W p l e { frames := 3, cells := 0, slots := 0, locals := 70 } s m args below meth c H locs 0 0 (MQ below (gQv G q) args s 0 0 (gA G)) (F0 m 294 ls []) := by
                intro  M_294 hf H locs ls hH hS hl
                subst ek294
                refine lv_aload_n X.1 X.2.1 dX12_ends_294 rfl (lv_at hl.1 0 rfl) ?_
                refine g_get X cX12 hH (r := 29) (i := 0) (by decide) rfl 38 (by decide) k_1248 rfl (v := .ref (gAd G 60 0)) rfl dX12_ends_295 ?_
                refine lv_iload_n X.1 X.2.1 dX12_ends_298 rfl (lv_at hl.1 2 rfl) ?_
                refine lv_iconst X.1 X.2.1 dX12_ends_299 (v := iI 3) rfl ?_
                obtain ⟨hg, hf_⟩ := og_e hf; clear hf; have hf := hf_; clear hf_
                refine g_iast X hH hS (r := 60) (i := 0) (by decide) (fun _ => rfl) nd5 hg (nmI_l (by decide)) rfl (by decide) dX12_ends_300 (fun H locs hH hS => ?_)
                refine lv_aload_n X.1 X.2.1 dX12_ends_301 rfl (lv_at hl.1 0 rfl) ?_
                refine g_get X cX12 hH (r := 29) (i := 0) (by decide) rfl 39 (by decide) k_1249 rfl (v := .ref (gAd G 61 0)) rfl dX12_ends_302 ?_
                refine lv_iload_n X.1 X.2.1 dX12_ends_305 rfl (lv_at hl.1 2 rfl) ?_
                refine lv_iload X.1 X.2.1 dX12_ends_306 (lv_at hl.1 5 rfl) ?_
                obtain ⟨hg, hf_⟩ := og_e hf; clear hf; have hf := hf_; clear hf_
                refine g_iast X hH hS (r := 61) (i := 0) (by decide) (fun _ => rfl) nd5 hg nxs0_185 rfl (by decide) dX12_ends_308 (fun H locs hH hS => ?_)
                refine lv_aload_n X.1 X.2.1 dX12_ends_309 rfl (lv_at hl.1 0 rfl) ?_
                refine g_get X cX12 hH (r := 29) (i := 0) (by decide) rfl 40 (by decide) k_1250 rfl (v := .ref (gAd G 62 0)) rfl dX12_ends_310 ?_
                refine lv_iload_n X.1 X.2.1 dX12_ends_313 rfl (lv_at hl.1 2 rfl) ?_
                refine lv_iload_n X.1 X.2.1 dX12_ends_314 rfl (lv_at hl.1 1 rfl) ?_
                obtain ⟨hg, hf_⟩ := og_e hf; clear hf; have hf := hf_; clear hf_
                refine g_iast X hH hS (r := 62) (i := 0) (by decide) (fun _ => rfl) nd5 hg nv1 rfl (by decide) dX12_ends_315 (fun H locs hH hS => ?_)
                refine lv_aload_n X.1 X.2.1 dX12_ends_316 rfl (lv_at hl.1 0 rfl) ?_
                refine g_get X cX12 hH (r := 29) (i := 0) (by decide) rfl 46 (by decide) k_1256 rfl (v := .ref (gAd G 67 0)) rfl dX12_ends_317 ?_
                refine lv_iload_n X.1 X.2.1 dX12_ends_320 rfl (lv_at hl.1 3 rfl) ?_
                refine lv_aload_n X.1 X.2.1 dX12_ends_321 rfl (lv_at hl.1 0 rfl) ?_
                refine g_get X cX12 hH (r := 29) (i := 0) (by decide) rfl 32 (by decide) k_1242 rfl (v := .ref (gAd G 56 0)) rfl dX12_ends_322 ?_
                refine lv_iload_n X.1 X.2.1 dX12_ends_325 rfl (lv_at hl.1 1 rfl) ?_
                obtain ⟨hg, hf_⟩ := og_e hf; clear hf; have hf := hf_; clear hf_
                have nd326 : nmI ((gU (gU (gU M_294 60 0 (M 54 0 v1.toNat).toNat 3) 61 0 (M 54 0 v1.toNat).toNat xs0_185) 62 0 (M 54 0 v1.toNat).toNat v1) 56 0 v1.toNat) := hH.1.1 _ _ _
                refine g_iald X hH (r := 56) (i := 0) (by decide) rfl nv1 hg (v := (gU (gU (gU M_294 60 0 (M 54 0 v1.toNat).toNat 3) 61 0 (M 54 0 v1.toNat).toNat xs0_185) 62 0 (M 54 0 v1.toNat).toNat v1) 56 0 v1.toNat) rfl dX12_ends_326 ?_
                obtain ⟨hg, hf_⟩ := og_e hf; clear hf; have hf := hf_; clear hf_
                refine g_iast X hH hS (r := 67) (i := 0) (by decide) (fun _ => rfl) (nmI_w _) hg nd326 rfl (by decide) dX12_ends_327 (fun H locs hH hS => ?_)
                refine lv_aload_n X.1 X.2.1 dX12_ends_328 rfl (lv_at hl.1 0 rfl) ?_
                refine g_get X cX12 hH (r := 29) (i := 0) (by decide) rfl 42 (by decide) k_1252 rfl (v := .ref (gAd G 64 0)) rfl dX12_ends_329 ?_
                refine lv_iload_n X.1 X.2.1 dX12_ends_332 rfl (lv_at hl.1 2 rfl) ?_
                refine lv_aload_n X.1 X.2.1 dX12_ends_333 rfl (lv_at hl.1 0 rfl) ?_
                refine g_get X cX12 hH (r := 29) (i := 0) (by decide) rfl 41 (by decide) k_1251 rfl (v := .ref (gAd G 63 0)) rfl dX12_ends_334 ?_
                refine lv_iload_n X.1 X.2.1 dX12_ends_337 rfl (lv_at hl.1 2 rfl) ?_
                obtain ⟨hg, hf_⟩ := og_e hf; clear hf; have hf := hf_; clear hf_
                have nd338 : nmI ((gU (gU (gU (gU M_294 60 0 (M 54 0 v1.toNat).toNat 3) 61 0 (M 54 0 v1.toNat).toNat xs0_185) 62 0 (M 54 0 v1.toNat).toNat v1) 67 0 (wI ((M 54 0 v1.toNat).tdiv 4)).toNat ((gU (gU (gU M_294 60 0 (M 54 0 v1.toNat).toNat 3) 61 0 (M 54 0 v1.toNat).toNat xs0_185) 62 0 (M 54 0 v1.toNat).toNat v1) 56 0 v1.toNat)) 63 0 (M 54 0 v1.toNat).toNat) := hH.1.1 _ _ _
                refine g_iald X hH (r := 63) (i := 0) (by decide) rfl nd5 hg (v := (gU (gU (gU (gU M_294 60 0 (M 54 0 v1.toNat).toNat 3) 61 0 (M 54 0 v1.toNat).toNat xs0_185) 62 0 (M 54 0 v1.toNat).toNat v1) 67 0 (wI ((M 54 0 v1.toNat).tdiv 4)).toNat ((gU (gU (gU M_294 60 0 (M 54 0 v1.toNat).toNat 3) 61 0 (M 54 0 v1.toNat).toNat xs0_185) 62 0 (M 54 0 v1.toNat).toNat v1) 56 0 v1.toNat)) 63 0 (M 54 0 v1.toNat).toNat) rfl dX12_ends_338 ?_
                obtain ⟨k347, ek347, hf_⟩ := oj_e hf; clear hf; have hf := hf_; clear hf_
                have hk347 : ∀ (xs2_347 : Int) (bxs2_347 : xs2_347 = 0 ∨ xs2_347 = 1), k347 xs2_347 = some q → ∀ (H : Heap) (locs : List Loc) (ls : Array Slot), gH G (gU (gU (gU (gU M_294 60 0 (M 54 0 v1.toNat).toNat 3) 61 0 (M 54 0 v1.toNat).toNat xs0_185) 62 0 (M 54 0 v1.toNat).toNat v1) 67 0 (wI ((M 54 0 v1.toNat).tdiv 4)).toNat ((gU (gU (gU M_294 60 0 (M 54 0 v1.toNat).toNat 3) 61 0 (M 54 0 v1.toNat).toNat xs0_185) 62 0 (M 54 0 v1.toNat).toNat v1) 56 0 v1.toNat)) H → va_S (gA G) s.heap H locs → gLv ls 8 [(0, .ref (gAd G 29 0)), (1, .int (iI v1)), (2, .int (iI (M 54 0 v1.toNat))), (3, .int (iI (wI ((M 54 0 v1.toNat).tdiv 4)))), (5, .int (iI r67)), (6, .int (iI xs0_185))] → W p l e { frames := 3, cells := 0, slots := 0, locals := 70 } s m args below meth c H locs 0 0 (MQ below (gQv G q) args s 0 0 (gA G)) (F0 m 347 ls [.int (iI xs2_347), .int (iI (M 54 0 v1.toNat)), .ref (gAd G 64 0)]) := by
                  intro xs2_347 bxs2_347 hf H locs ls hH hS hl
                  subst ek347
                  obtain ⟨hg, hf_⟩ := og_e hf; clear hf; have hf := hf_; clear hf_
                  refine g_zast X hH hS (r := 64) (i := 0) (by decide) (fun _ => rfl) nd5 hg bxs2_347 dX12_ends_347 (fun H locs hH hS => ?_)
                  refine lv_aload_n X.1 X.2.1 dX12_ends_348 rfl (lv_at hl.1 0 rfl) ?_
                  refine g_get X cX12 hH (r := 29) (i := 0) (by decide) rfl 42 (by decide) k_1252 rfl (v := .ref (gAd G 64 0)) rfl dX12_ends_349 ?_
                  refine lv_iload_n X.1 X.2.1 dX12_ends_352 rfl (lv_at hl.1 2 rfl) ?_
                  obtain ⟨hg, hf_⟩ := og_e hf; clear hf; have hf := hf_; clear hf_
                  have nd353 : nmI ((gU (gU (gU (gU (gU M_294 60 0 (M 54 0 v1.toNat).toNat 3) 61 0 (M 54 0 v1.toNat).toNat xs0_185) 62 0 (M 54 0 v1.toNat).toNat v1) 67 0 (wI ((M 54 0 v1.toNat).tdiv 4)).toNat ((gU (gU (gU M_294 60 0 (M 54 0 v1.toNat).toNat 3) 61 0 (M 54 0 v1.toNat).toNat xs0_185) 62 0 (M 54 0 v1.toNat).toNat v1) 56 0 v1.toNat)) 64 0 (M 54 0 v1.toNat).toNat xs2_347) 64 0 (M 54 0 v1.toNat).toNat) := hH.1.1 _ _ _
                  have bd353 := hH.1.2.1 64 0 ((M 54 0 v1.toNat).toNat) rfl
                  refine g_zald X hH (r := 64) (i := 0) (by decide) rfl nd5 hg (v := (gU (gU (gU (gU (gU M_294 60 0 (M 54 0 v1.toNat).toNat 3) 61 0 (M 54 0 v1.toNat).toNat xs0_185) 62 0 (M 54 0 v1.toNat).toNat v1) 67 0 (wI ((M 54 0 v1.toNat).tdiv 4)).toNat ((gU (gU (gU M_294 60 0 (M 54 0 v1.toNat).toNat 3) 61 0 (M 54 0 v1.toNat).toNat xs0_185) 62 0 (M 54 0 v1.toNat).toNat v1) 56 0 v1.toNat)) 64 0 (M 54 0 v1.toNat).toNat xs2_347) 64 0 (M 54 0 v1.toNat).toNat) rfl dX12_ends_353 ?_
                  refine g_if_eq X nd353 (tgt := 407) dX12_ends_354 (by decide) (fun hc354 => ?_) (fun hc354 => ?_)
                  · replace hf := it_t hf hc354
                    refine lv_aload_n X.1 X.2.1 dX12_ends_407 rfl (lv_at hl.1 0 rfl) ?_
                    refine lv_aload_n X.1 X.2.1 dX12_ends_408 rfl (lv_at hl.1 0 rfl) ?_
                    refine g_get X cX12 hH (r := 29) (i := 0) (by decide) rfl 33 (by decide) k_1243 rfl (v := .ref (gAd G 57 0)) rfl dX12_ends_409 ?_
                    refine lv_iload_n X.1 X.2.1 dX12_ends_412 rfl (lv_at hl.1 1 rfl) ?_
                    obtain ⟨hg, hf_⟩ := og_e hf; clear hf; have hf := hf_; clear hf_
                    have nd413 : nmI ((gU (gU (gU (gU (gU M_294 60 0 (M 54 0 v1.toNat).toNat 3) 61 0 (M 54 0 v1.toNat).toNat xs0_185) 62 0 (M 54 0 v1.toNat).toNat v1) 67 0 (wI ((M 54 0 v1.toNat).tdiv 4)).toNat ((gU (gU (gU M_294 60 0 (M 54 0 v1.toNat).toNat 3) 61 0 (M 54 0 v1.toNat).toNat xs0_185) 62 0 (M 54 0 v1.toNat).toNat v1) 56 0 v1.toNat)) 64 0 (M 54 0 v1.toNat).toNat xs2_347) 57 0 v1.toNat) := hH.1.1 _ _ _
                    refine g_iald X hH (r := 57) (i := 0) (by decide) rfl nv1 hg (v := (gU (gU (gU (gU (gU M_294 60 0 (M 54 0 v1.toNat).toNat 3) 61 0 (M 54 0 v1.toNat).toNat xs0_185) 62 0 (M 54 0 v1.toNat).toNat v1) 67 0 (wI ((M 54 0 v1.toNat).tdiv 4)).toNat ((gU (gU (gU M_294 60 0 (M 54 0 v1.toNat).toNat 3) 61 0 (M 54 0 v1.toNat).toNat xs0_185) 62 0 (M 54 0 v1.toNat).toNat v1) 56 0 v1.toNat)) 64 0 (M 54 0 v1.toNat).toNat xs2_347) 57 0 v1.toNat) rfl dX12_ends_413 ?_
                    refine lv_iload X.1 X.2.1 dX12_ends_414 (lv_at hl.1 4 rfl) ?_
                    refine lv_aload_n X.1 X.2.1 dX12_ends_416 rfl (lv_at hl.1 0 rfl) ?_
                    refine g_get X cX12 hH (r := 29) (i := 0) (by decide) rfl 34 (by decide) k_1244 rfl (v := .ref (gAd G 58 0)) rfl dX12_ends_417 ?_
                    refine lv_iload_n X.1 X.2.1 dX12_ends_420 rfl (lv_at hl.1 1 rfl) ?_
                    obtain ⟨hg, hf_⟩ := og_e hf; clear hf; have hf := hf_; clear hf_
                    have nd421 : nmI ((gU (gU (gU (gU (gU M_294 60 0 (M 54 0 v1.toNat).toNat 3) 61 0 (M 54 0 v1.toNat).toNat xs0_185) 62 0 (M 54 0 v1.toNat).toNat v1) 67 0 (wI ((M 54 0 v1.toNat).tdiv 4)).toNat ((gU (gU (gU M_294 60 0 (M 54 0 v1.toNat).toNat 3) 61 0 (M 54 0 v1.toNat).toNat xs0_185) 62 0 (M 54 0 v1.toNat).toNat v1) 56 0 v1.toNat)) 64 0 (M 54 0 v1.toNat).toNat xs2_347) 58 0 v1.toNat) := hH.1.1 _ _ _
                    refine g_iald X hH (r := 58) (i := 0) (by decide) rfl nv1 hg (v := (gU (gU (gU (gU (gU M_294 60 0 (M 54 0 v1.toNat).toNat 3) 61 0 (M 54 0 v1.toNat).toNat xs0_185) 62 0 (M 54 0 v1.toNat).toNat v1) 67 0 (wI ((M 54 0 v1.toNat).tdiv 4)).toNat ((gU (gU (gU M_294 60 0 (M 54 0 v1.toNat).toNat 3) 61 0 (M 54 0 v1.toNat).toNat xs0_185) 62 0 (M 54 0 v1.toNat).toNat v1) 56 0 v1.toNat)) 64 0 (M 54 0 v1.toNat).toNat xs2_347) 58 0 v1.toNat) rfl dX12_ends_421 ?_
                    refine lv_iload X.1 X.2.1 dX12_ends_422 (lv_at hl.1 5 rfl) ?_
                    refine lv_iload_n X.1 X.2.1 dX12_ends_424 rfl (lv_at hl.1 1 rfl) ?_
                    obtain ⟨r425, hq425, hf_⟩ := ob_e hf; clear hf; have hf := hf_; clear hf_
                    refine gGoV (gRunV X hH (As := [.int (iI ((gU (gU (gU (gU (gU M_294 60 0 (M 54 0 v1.toNat).toNat 3) 61 0 (M 54 0 v1.toNat).toNat xs0_185) 62 0 (M 54 0 v1.toNat).toNat v1) 67 0 (wI ((M 54 0 v1.toNat).tdiv 4)).toNat ((gU (gU (gU M_294 60 0 (M 54 0 v1.toNat).toNat 3) 61 0 (M 54 0 v1.toNat).toNat xs0_185) 62 0 (M 54 0 v1.toNat).toNat v1) 56 0 v1.toNat)) 64 0 (M 54 0 v1.toNat).toNat xs2_347) 57 0 v1.toNat)), .int (iI r67), .int (iI ((gU (gU (gU (gU (gU M_294 60 0 (M 54 0 v1.toNat).toNat 3) 61 0 (M 54 0 v1.toNat).toNat xs0_185) 62 0 (M 54 0 v1.toNat).toNat v1) 67 0 (wI ((M 54 0 v1.toNat).tdiv 4)).toNat ((gU (gU (gU M_294 60 0 (M 54 0 v1.toNat).toNat 3) 61 0 (M 54 0 v1.toNat).toNat xs0_185) 62 0 (M 54 0 v1.toNat).toNat v1) 56 0 v1.toNat)) 64 0 (M 54 0 v1.toNat).toNat xs2_347) 58 0 v1.toNat)), .int (iI xs0_185), .int (iI v1)]) (m_X12_keep l G ((gU (gU (gU (gU (gU M_294 60 0 (M 54 0 v1.toNat).toNat 3) 61 0 (M 54 0 v1.toNat).toNat xs0_185) 62 0 (M 54 0 v1.toNat).toNat v1) 67 0 (wI ((M 54 0 v1.toNat).tdiv 4)).toNat ((gU (gU (gU M_294 60 0 (M 54 0 v1.toNat).toNat 3) 61 0 (M 54 0 v1.toNat).toNat xs0_185) 62 0 (M 54 0 v1.toNat).toNat v1) 56 0 v1.toNat)) 64 0 (M 54 0 v1.toNat).toNat xs2_347) 57 0 v1.toNat) nd413 r67 nr67 ((gU (gU (gU (gU (gU M_294 60 0 (M 54 0 v1.toNat).toNat 3) 61 0 (M 54 0 v1.toNat).toNat xs0_185) 62 0 (M 54 0 v1.toNat).toNat v1) 67 0 (wI ((M 54 0 v1.toNat).tdiv 4)).toNat ((gU (gU (gU M_294 60 0 (M 54 0 v1.toNat).toNat 3) 61 0 (M 54 0 v1.toNat).toNat xs0_185) 62 0 (M 54 0 v1.toNat).toNat v1) 56 0 v1.toNat)) 64 0 (M 54 0 v1.toNat).toNat xs2_347) 58 0 v1.toNat) nd421 xs0_185 nxs0_185 v1 nv1 (gU (gU (gU (gU (gU M_294 60 0 (M 54 0 v1.toNat).toNat 3) 61 0 (M 54 0 v1.toNat).toNat xs0_185) 62 0 (M 54 0 v1.toNat).toNat v1) 67 0 (wI ((M 54 0 v1.toNat).tdiv 4)).toNat ((gU (gU (gU M_294 60 0 (M 54 0 v1.toNat).toNat 3) 61 0 (M 54 0 v1.toNat).toNat xs0_185) 62 0 (M 54 0 v1.toNat).toNat v1) 56 0 v1.toNat)) 64 0 (M 54 0 v1.toNat).toNat xs2_347) _ hq425) calX12_keep k_1559 k_57 k_1557 (by decide) cX12 rfl ⟨by decide, by decide⟩ rfl hl rfl (Nat.le_of_ble_eq_true rfl) ⟨Nat.le_of_ble_eq_true rfl, Nat.le_of_ble_eq_true rfl⟩ dX12_ends_425) hS (fun H locs hH hS => ?_)
                    have hq := Option.some.inj hf; subst hq
                    exact gRetV X hH hS dX12_ends_428
                  · replace hf := it_f hf hc354
                    refine lv_aload_n X.1 X.2.1 dX12_ends_357 rfl (lv_at hl.1 0 rfl) ?_
                    refine g_get X cX12 hH (r := 29) (i := 0) (by decide) rfl 47 (by decide) k_1257 rfl (v := .ref (gAd G 68 0)) rfl dX12_ends_358 ?_
                    refine lv_iconst X.1 X.2.1 dX12_ends_361 (v := iI 4) rfl ?_
                    refine lv_dup2_11 X.1 X.2.1 dX12_ends_362 rfl rfl ?_
                    obtain ⟨hg, hf_⟩ := og_e hf; clear hf; have hf := hf_; clear hf_
                    have nd363 : nmI ((gU (gU (gU (gU (gU M_294 60 0 (M 54 0 v1.toNat).toNat 3) 61 0 (M 54 0 v1.toNat).toNat xs0_185) 62 0 (M 54 0 v1.toNat).toNat v1) 67 0 (wI ((M 54 0 v1.toNat).tdiv 4)).toNat ((gU (gU (gU M_294 60 0 (M 54 0 v1.toNat).toNat 3) 61 0 (M 54 0 v1.toNat).toNat xs0_185) 62 0 (M 54 0 v1.toNat).toNat v1) 56 0 v1.toNat)) 64 0 (M 54 0 v1.toNat).toNat xs2_347) 68 0 4) := hH.1.1 _ _ _
                    refine g_iald X hH (r := 68) (i := 0) (by decide) rfl (nmI_l (by decide)) hg (v := (gU (gU (gU (gU (gU M_294 60 0 (M 54 0 v1.toNat).toNat 3) 61 0 (M 54 0 v1.toNat).toNat xs0_185) 62 0 (M 54 0 v1.toNat).toNat v1) 67 0 (wI ((M 54 0 v1.toNat).tdiv 4)).toNat ((gU (gU (gU M_294 60 0 (M 54 0 v1.toNat).toNat 3) 61 0 (M 54 0 v1.toNat).toNat xs0_185) 62 0 (M 54 0 v1.toNat).toNat v1) 56 0 v1.toNat)) 64 0 (M 54 0 v1.toNat).toNat xs2_347) 68 0 4) rfl dX12_ends_363 ?_
                    refine lv_iconst X.1 X.2.1 dX12_ends_364 (v := iI 1) rfl ?_
                    refine g_iadd X dX12_ends_365 ?_
                    obtain ⟨hg, hf_⟩ := og_e hf; clear hf; have hf := hf_; clear hf_
                    refine g_iast X hH hS (r := 68) (i := 0) (by decide) (fun _ => rfl) (nmI_l (by decide)) hg (nmI_w _) rfl (by decide) dX12_ends_366 (fun H locs hH hS => ?_)
                    refine lv_aload_n X.1 X.2.1 dX12_ends_367 rfl (lv_at hl.1 0 rfl) ?_
                    refine g_get X cX12 hH (r := 29) (i := 0) (by decide) rfl 45 (by decide) k_1255 rfl (v := .ref (gAd G 66 0)) rfl dX12_ends_368 ?_
                    refine lv_iload_n X.1 X.2.1 dX12_ends_371 rfl (lv_at hl.1 3 rfl) ?_
                    refine lv_dup2_11 X.1 X.2.1 dX12_ends_372 rfl rfl ?_
                    obtain ⟨hg, hf_⟩ := og_e hf; clear hf; have hf := hf_; clear hf_
                    have nd373 : nmI ((gU (gU (gU (gU (gU (gU M_294 60 0 (M 54 0 v1.toNat).toNat 3) 61 0 (M 54 0 v1.toNat).toNat xs0_185) 62 0 (M 54 0 v1.toNat).toNat v1) 67 0 (wI ((M 54 0 v1.toNat).tdiv 4)).toNat ((gU (gU (gU M_294 60 0 (M 54 0 v1.toNat).toNat 3) 61 0 (M 54 0 v1.toNat).toNat xs0_185) 62 0 (M 54 0 v1.toNat).toNat v1) 56 0 v1.toNat)) 64 0 (M 54 0 v1.toNat).toNat xs2_347) 68 0 4 (wI (((gU (gU (gU (gU (gU M_294 60 0 (M 54 0 v1.toNat).toNat 3) 61 0 (M 54 0 v1.toNat).toNat xs0_185) 62 0 (M 54 0 v1.toNat).toNat v1) 67 0 (wI ((M 54 0 v1.toNat).tdiv 4)).toNat ((gU (gU (gU M_294 60 0 (M 54 0 v1.toNat).toNat 3) 61 0 (M 54 0 v1.toNat).toNat xs0_185) 62 0 (M 54 0 v1.toNat).toNat v1) 56 0 v1.toNat)) 64 0 (M 54 0 v1.toNat).toNat xs2_347) 68 0 4) + 1))) 66 0 (wI ((M 54 0 v1.toNat).tdiv 4)).toNat) := hH.1.1 _ _ _
                    refine g_iald X hH (r := 66) (i := 0) (by decide) rfl (nmI_w _) hg (v := (gU (gU (gU (gU (gU (gU M_294 60 0 (M 54 0 v1.toNat).toNat 3) 61 0 (M 54 0 v1.toNat).toNat xs0_185) 62 0 (M 54 0 v1.toNat).toNat v1) 67 0 (wI ((M 54 0 v1.toNat).tdiv 4)).toNat ((gU (gU (gU M_294 60 0 (M 54 0 v1.toNat).toNat 3) 61 0 (M 54 0 v1.toNat).toNat xs0_185) 62 0 (M 54 0 v1.toNat).toNat v1) 56 0 v1.toNat)) 64 0 (M 54 0 v1.toNat).toNat xs2_347) 68 0 4 (wI (((gU (gU (gU (gU (gU M_294 60 0 (M 54 0 v1.toNat).toNat 3) 61 0 (M 54 0 v1.toNat).toNat xs0_185) 62 0 (M 54 0 v1.toNat).toNat v1) 67 0 (wI ((M 54 0 v1.toNat).tdiv 4)).toNat ((gU (gU (gU M_294 60 0 (M 54 0 v1.toNat).toNat 3) 61 0 (M 54 0 v1.toNat).toNat xs0_185) 62 0 (M 54 0 v1.toNat).toNat v1) 56 0 v1.toNat)) 64 0 (M 54 0 v1.toNat).toNat xs2_347) 68 0 4) + 1))) 66 0 (wI ((M 54 0 v1.toNat).tdiv 4)).toNat) rfl dX12_ends_373 ?_
                    refine lv_aload_n X.1 X.2.1 dX12_ends_374 rfl (lv_at hl.1 0 rfl) ?_
                    have nd375 : nmI ((gU (gU (gU (gU (gU (gU M_294 60 0 (M 54 0 v1.toNat).toNat 3) 61 0 (M 54 0 v1.toNat).toNat xs0_185) 62 0 (M 54 0 v1.toNat).toNat v1) 67 0 (wI ((M 54 0 v1.toNat).tdiv 4)).toNat ((gU (gU (gU M_294 60 0 (M 54 0 v1.toNat).toNat 3) 61 0 (M 54 0 v1.toNat).toNat xs0_185) 62 0 (M 54 0 v1.toNat).toNat v1) 56 0 v1.toNat)) 64 0 (M 54 0 v1.toNat).toNat xs2_347) 68 0 4 (wI (((gU (gU (gU (gU (gU M_294 60 0 (M 54 0 v1.toNat).toNat 3) 61 0 (M 54 0 v1.toNat).toNat xs0_185) 62 0 (M 54 0 v1.toNat).toNat v1) 67 0 (wI ((M 54 0 v1.toNat).tdiv 4)).toNat ((gU (gU (gU M_294 60 0 (M 54 0 v1.toNat).toNat 3) 61 0 (M 54 0 v1.toNat).toNat xs0_185) 62 0 (M 54 0 v1.toNat).toNat v1) 56 0 v1.toNat)) 64 0 (M 54 0 v1.toNat).toNat xs2_347) 68 0 4) + 1))) 29 0 43) := hH.1.1 _ _ _
                    refine g_get X cX12 hH (r := 29) (i := 0) (by decide) rfl 43 (by decide) k_1253 rfl (v := .int (iI ((gU (gU (gU (gU (gU (gU M_294 60 0 (M 54 0 v1.toNat).toNat 3) 61 0 (M 54 0 v1.toNat).toNat xs0_185) 62 0 (M 54 0 v1.toNat).toNat v1) 67 0 (wI ((M 54 0 v1.toNat).tdiv 4)).toNat ((gU (gU (gU M_294 60 0 (M 54 0 v1.toNat).toNat 3) 61 0 (M 54 0 v1.toNat).toNat xs0_185) 62 0 (M 54 0 v1.toNat).toNat v1) 56 0 v1.toNat)) 64 0 (M 54 0 v1.toNat).toNat xs2_347) 68 0 4 (wI (((gU (gU (gU (gU (gU M_294 60 0 (M 54 0 v1.toNat).toNat 3) 61 0 (M 54 0 v1.toNat).toNat xs0_185) 62 0 (M 54 0 v1.toNat).toNat v1) 67 0 (wI ((M 54 0 v1.toNat).tdiv 4)).toNat ((gU (gU (gU M_294 60 0 (M 54 0 v1.toNat).toNat 3) 61 0 (M 54 0 v1.toNat).toNat xs0_185) 62 0 (M 54 0 v1.toNat).toNat v1) 56 0 v1.toNat)) 64 0 (M 54 0 v1.toNat).toNat xs2_347) 68 0 4) + 1))) 29 0 43))) rfl dX12_ends_375 ?_
                    refine lv_iload_n X.1 X.2.1 dX12_ends_378 rfl (lv_at hl.1 3 rfl) ?_
                    refine g_ishr X dX12_ends_379 ?_
                    refine lv_iconst X.1 X.2.1 dX12_ends_380 (v := iI 1) rfl ?_
                    refine g_iand X dX12_ends_381 ?_
                    obtain ⟨k390, ek390, hf_⟩ := oj_e hf; clear hf; have hf := hf_; clear hf_
                    have hk390 : ∀ (xs3_390 : Int) (bxs3_390 : xs3_390 = 0 ∨ xs3_390 = 1), k390 xs3_390 = some q → ∀ (H : Heap) (locs : List Loc) (ls : Array Slot), gH G (gU (gU (gU (gU (gU (gU M_294 60 0 (M 54 0 v1.toNat).toNat 3) 61 0 (M 54 0 v1.toNat).toNat xs0_185) 62 0 (M 54 0 v1.toNat).toNat v1) 67 0 (wI ((M 54 0 v1.toNat).tdiv 4)).toNat ((gU (gU (gU M_294 60 0 (M 54 0 v1.toNat).toNat 3) 61 0 (M 54 0 v1.toNat).toNat xs0_185) 62 0 (M 54 0 v1.toNat).toNat v1) 56 0 v1.toNat)) 64 0 (M 54 0 v1.toNat).toNat xs2_347) 68 0 4 (wI (((gU (gU (gU (gU (gU M_294 60 0 (M 54 0 v1.toNat).toNat 3) 61 0 (M 54 0 v1.toNat).toNat xs0_185) 62 0 (M 54 0 v1.toNat).toNat v1) 67 0 (wI ((M 54 0 v1.toNat).tdiv 4)).toNat ((gU (gU (gU M_294 60 0 (M 54 0 v1.toNat).toNat 3) 61 0 (M 54 0 v1.toNat).toNat xs0_185) 62 0 (M 54 0 v1.toNat).toNat v1) 56 0 v1.toNat)) 64 0 (M 54 0 v1.toNat).toNat xs2_347) 68 0 4) + 1))) H → va_S (gA G) s.heap H locs → gLv ls 8 [(0, .ref (gAd G 29 0)), (3, .int (iI (wI ((M 54 0 v1.toNat).tdiv 4))))] → W p l e { frames := 3, cells := 0, slots := 0, locals := 70 } s m args below meth c H locs 0 0 (MQ below (gQv G q) args s 0 0 (gA G)) (F0 m 390 ls [.int (iI xs3_390), .int (iI ((gU (gU (gU (gU (gU (gU M_294 60 0 (M 54 0 v1.toNat).toNat 3) 61 0 (M 54 0 v1.toNat).toNat xs0_185) 62 0 (M 54 0 v1.toNat).toNat v1) 67 0 (wI ((M 54 0 v1.toNat).tdiv 4)).toNat ((gU (gU (gU M_294 60 0 (M 54 0 v1.toNat).toNat 3) 61 0 (M 54 0 v1.toNat).toNat xs0_185) 62 0 (M 54 0 v1.toNat).toNat v1) 56 0 v1.toNat)) 64 0 (M 54 0 v1.toNat).toNat xs2_347) 68 0 4 (wI (((gU (gU (gU (gU (gU M_294 60 0 (M 54 0 v1.toNat).toNat 3) 61 0 (M 54 0 v1.toNat).toNat xs0_185) 62 0 (M 54 0 v1.toNat).toNat v1) 67 0 (wI ((M 54 0 v1.toNat).tdiv 4)).toNat ((gU (gU (gU M_294 60 0 (M 54 0 v1.toNat).toNat 3) 61 0 (M 54 0 v1.toNat).toNat xs0_185) 62 0 (M 54 0 v1.toNat).toNat v1) 56 0 v1.toNat)) 64 0 (M 54 0 v1.toNat).toNat xs2_347) 68 0 4) + 1))) 66 0 (wI ((M 54 0 v1.toNat).tdiv 4)).toNat)), .int (iI (wI ((M 54 0 v1.toNat).tdiv 4))), .ref (gAd G 66 0)]) := by
                      intro xs3_390 bxs3_390 hf H locs ls hH hS hl
                      subst ek390
                      refine g_iadd X dX12_ends_390 ?_
                      obtain ⟨hg, hf_⟩ := og_e hf; clear hf; have hf := hf_; clear hf_
                      refine g_iast X hH hS (r := 66) (i := 0) (by decide) (fun _ => rfl) (nmI_w _) hg (nmI_w _) rfl (by decide) dX12_ends_391 (fun H locs hH hS => ?_)
                      refine lv_aload_n X.1 X.2.1 dX12_ends_392 rfl (lv_at hl.1 0 rfl) ?_
                      refine lv_dup X.1 X.2.1 dX12_ends_393 rfl ?_
                      have nd394 : nmI ((gU (gU (gU (gU (gU (gU (gU M_294 60 0 (M 54 0 v1.toNat).toNat 3) 61 0 (M 54 0 v1.toNat).toNat xs0_185) 62 0 (M 54 0 v1.toNat).toNat v1) 67 0 (wI ((M 54 0 v1.toNat).tdiv 4)).toNat ((gU (gU (gU M_294 60 0 (M 54 0 v1.toNat).toNat 3) 61 0 (M 54 0 v1.toNat).toNat xs0_185) 62 0 (M 54 0 v1.toNat).toNat v1) 56 0 v1.toNat)) 64 0 (M 54 0 v1.toNat).toNat xs2_347) 68 0 4 (wI (((gU (gU (gU (gU (gU M_294 60 0 (M 54 0 v1.toNat).toNat 3) 61 0 (M 54 0 v1.toNat).toNat xs0_185) 62 0 (M 54 0 v1.toNat).toNat v1) 67 0 (wI ((M 54 0 v1.toNat).tdiv 4)).toNat ((gU (gU (gU M_294 60 0 (M 54 0 v1.toNat).toNat 3) 61 0 (M 54 0 v1.toNat).toNat xs0_185) 62 0 (M 54 0 v1.toNat).toNat v1) 56 0 v1.toNat)) 64 0 (M 54 0 v1.toNat).toNat xs2_347) 68 0 4) + 1))) 66 0 (wI ((M 54 0 v1.toNat).tdiv 4)).toNat (wI (((gU (gU (gU (gU (gU (gU M_294 60 0 (M 54 0 v1.toNat).toNat 3) 61 0 (M 54 0 v1.toNat).toNat xs0_185) 62 0 (M 54 0 v1.toNat).toNat v1) 67 0 (wI ((M 54 0 v1.toNat).tdiv 4)).toNat ((gU (gU (gU M_294 60 0 (M 54 0 v1.toNat).toNat 3) 61 0 (M 54 0 v1.toNat).toNat xs0_185) 62 0 (M 54 0 v1.toNat).toNat v1) 56 0 v1.toNat)) 64 0 (M 54 0 v1.toNat).toNat xs2_347) 68 0 4 (wI (((gU (gU (gU (gU (gU M_294 60 0 (M 54 0 v1.toNat).toNat 3) 61 0 (M 54 0 v1.toNat).toNat xs0_185) 62 0 (M 54 0 v1.toNat).toNat v1) 67 0 (wI ((M 54 0 v1.toNat).tdiv 4)).toNat ((gU (gU (gU M_294 60 0 (M 54 0 v1.toNat).toNat 3) 61 0 (M 54 0 v1.toNat).toNat xs0_185) 62 0 (M 54 0 v1.toNat).toNat v1) 56 0 v1.toNat)) 64 0 (M 54 0 v1.toNat).toNat xs2_347) 68 0 4) + 1))) 66 0 (wI ((M 54 0 v1.toNat).tdiv 4)).toNat) + xs3_390))) 29 0 43) := hH.1.1 _ _ _
                      refine g_get X cX12 hH (r := 29) (i := 0) (by decide) rfl 43 (by decide) k_1253 rfl (v := .int (iI ((gU (gU (gU (gU (gU (gU (gU M_294 60 0 (M 54 0 v1.toNat).toNat 3) 61 0 (M 54 0 v1.toNat).toNat xs0_185) 62 0 (M 54 0 v1.toNat).toNat v1) 67 0 (wI ((M 54 0 v1.toNat).tdiv 4)).toNat ((gU (gU (gU M_294 60 0 (M 54 0 v1.toNat).toNat 3) 61 0 (M 54 0 v1.toNat).toNat xs0_185) 62 0 (M 54 0 v1.toNat).toNat v1) 56 0 v1.toNat)) 64 0 (M 54 0 v1.toNat).toNat xs2_347) 68 0 4 (wI (((gU (gU (gU (gU (gU M_294 60 0 (M 54 0 v1.toNat).toNat 3) 61 0 (M 54 0 v1.toNat).toNat xs0_185) 62 0 (M 54 0 v1.toNat).toNat v1) 67 0 (wI ((M 54 0 v1.toNat).tdiv 4)).toNat ((gU (gU (gU M_294 60 0 (M 54 0 v1.toNat).toNat 3) 61 0 (M 54 0 v1.toNat).toNat xs0_185) 62 0 (M 54 0 v1.toNat).toNat v1) 56 0 v1.toNat)) 64 0 (M 54 0 v1.toNat).toNat xs2_347) 68 0 4) + 1))) 66 0 (wI ((M 54 0 v1.toNat).tdiv 4)).toNat (wI (((gU (gU (gU (gU (gU (gU M_294 60 0 (M 54 0 v1.toNat).toNat 3) 61 0 (M 54 0 v1.toNat).toNat xs0_185) 62 0 (M 54 0 v1.toNat).toNat v1) 67 0 (wI ((M 54 0 v1.toNat).tdiv 4)).toNat ((gU (gU (gU M_294 60 0 (M 54 0 v1.toNat).toNat 3) 61 0 (M 54 0 v1.toNat).toNat xs0_185) 62 0 (M 54 0 v1.toNat).toNat v1) 56 0 v1.toNat)) 64 0 (M 54 0 v1.toNat).toNat xs2_347) 68 0 4 (wI (((gU (gU (gU (gU (gU M_294 60 0 (M 54 0 v1.toNat).toNat 3) 61 0 (M 54 0 v1.toNat).toNat xs0_185) 62 0 (M 54 0 v1.toNat).toNat v1) 67 0 (wI ((M 54 0 v1.toNat).tdiv 4)).toNat ((gU (gU (gU M_294 60 0 (M 54 0 v1.toNat).toNat 3) 61 0 (M 54 0 v1.toNat).toNat xs0_185) 62 0 (M 54 0 v1.toNat).toNat v1) 56 0 v1.toNat)) 64 0 (M 54 0 v1.toNat).toNat xs2_347) 68 0 4) + 1))) 66 0 (wI ((M 54 0 v1.toNat).tdiv 4)).toNat) + xs3_390))) 29 0 43))) rfl dX12_ends_394 ?_
                      refine lv_iconst X.1 X.2.1 dX12_ends_397 (v := iI 1) rfl ?_
                      refine lv_iload_n X.1 X.2.1 dX12_ends_398 rfl (lv_at hl.1 1 rfl) ?_
                      refine g_ishl X dX12_ends_399 ?_
                      refine g_ior X dX12_ends_400 ?_
                      refine g_putI X cX12 hH hS (r := 29) (i := 0) (by decide) rfl 43 (by decide) k_1253 rfl rfl rfl (Nat.le_of_ble_eq_true rfl) (x := gOr ((gU (gU (gU (gU (gU (gU (gU M_294 60 0 (M 54 0 v1.toNat).toNat 3) 61 0 (M 54 0 v1.toNat).toNat xs0_185) 62 0 (M 54 0 v1.toNat).toNat v1) 67 0 (wI ((M 54 0 v1.toNat).tdiv 4)).toNat ((gU (gU (gU M_294 60 0 (M 54 0 v1.toNat).toNat 3) 61 0 (M 54 0 v1.toNat).toNat xs0_185) 62 0 (M 54 0 v1.toNat).toNat v1) 56 0 v1.toNat)) 64 0 (M 54 0 v1.toNat).toNat xs2_347) 68 0 4 (wI (((gU (gU (gU (gU (gU M_294 60 0 (M 54 0 v1.toNat).toNat 3) 61 0 (M 54 0 v1.toNat).toNat xs0_185) 62 0 (M 54 0 v1.toNat).toNat v1) 67 0 (wI ((M 54 0 v1.toNat).tdiv 4)).toNat ((gU (gU (gU M_294 60 0 (M 54 0 v1.toNat).toNat 3) 61 0 (M 54 0 v1.toNat).toNat xs0_185) 62 0 (M 54 0 v1.toNat).toNat v1) 56 0 v1.toNat)) 64 0 (M 54 0 v1.toNat).toNat xs2_347) 68 0 4) + 1))) 66 0 (wI ((M 54 0 v1.toNat).tdiv 4)).toNat (wI (((gU (gU (gU (gU (gU (gU M_294 60 0 (M 54 0 v1.toNat).toNat 3) 61 0 (M 54 0 v1.toNat).toNat xs0_185) 62 0 (M 54 0 v1.toNat).toNat v1) 67 0 (wI ((M 54 0 v1.toNat).tdiv 4)).toNat ((gU (gU (gU M_294 60 0 (M 54 0 v1.toNat).toNat 3) 61 0 (M 54 0 v1.toNat).toNat xs0_185) 62 0 (M 54 0 v1.toNat).toNat v1) 56 0 v1.toNat)) 64 0 (M 54 0 v1.toNat).toNat xs2_347) 68 0 4 (wI (((gU (gU (gU (gU (gU M_294 60 0 (M 54 0 v1.toNat).toNat 3) 61 0 (M 54 0 v1.toNat).toNat xs0_185) 62 0 (M 54 0 v1.toNat).toNat v1) 67 0 (wI ((M 54 0 v1.toNat).tdiv 4)).toNat ((gU (gU (gU M_294 60 0 (M 54 0 v1.toNat).toNat 3) 61 0 (M 54 0 v1.toNat).toNat xs0_185) 62 0 (M 54 0 v1.toNat).toNat v1) 56 0 v1.toNat)) 64 0 (M 54 0 v1.toNat).toNat xs2_347) 68 0 4) + 1))) 66 0 (wI ((M 54 0 v1.toNat).tdiv 4)).toNat) + xs3_390))) 29 0 43) (gShl 1 (wI ((M 54 0 v1.toNat).tdiv 4)))) (nmI_or _ _) rfl rfl rfl dX12_ends_401 (fun H locs hH hS => ?_)
                      refine lv_goto (tgt := 428) X.1 X.2.1 dX12_ends_404 (by decide) ?_
                      have hq := Option.some.inj hf; subst hq
                      exact gRetV X hH hS dX12_ends_428
                    clear ek390
                    refine g_if_ne X (nmI_and _ _) (tgt := 389) dX12_ends_382 (by decide) (fun hc382 => ?_) (fun hc382 => ?_)
                    · replace hf := it_f hf hc382
                      refine lv_iconst X.1 X.2.1 dX12_ends_389 (v := iI 0) rfl ?_
                      exact hk390 0 (by decide) hf _ _ _ hH hS (gLv_sub hl [0, 3] rfl)
                    · replace hf := it_t hf hc382
                      refine lv_iconst X.1 X.2.1 dX12_ends_385 (v := iI 1) rfl ?_
                      refine lv_goto (tgt := 390) X.1 X.2.1 dX12_ends_386 (by decide) ?_
                      exact hk390 1 (by decide) hf _ _ _ hH hS (gLv_sub hl [0, 3] rfl)
                clear ek347
                refine g_if_le X nd338 (tgt := 346) dX12_ends_339 (by decide) (fun hc339 => ?_) (fun hc339 => ?_)
                · replace hf := it_f hf hc339
                  refine lv_iconst X.1 X.2.1 dX12_ends_346 (v := iI 0) rfl ?_
                  exact hk347 0 (by decide) hf _ _ _ hH hS (gLv_sub hl [0, 1, 2, 3, 4, 5] rfl)
                · replace hf := it_t hf hc339
                  refine lv_iconst X.1 X.2.1 dX12_ends_342 (v := iI 1) rfl ?_
                  refine lv_goto (tgt := 347) X.1 X.2.1 dX12_ends_343 (by decide) ?_
                  exact hk347 1 (by decide) hf _ _ _ hH hS (gLv_sub hl [0, 1, 2, 3, 4, 5] rfl)
              clear ek294
              refine g_if_eq X (nmI_b bxs0_231) (tgt := 294) dX12_ends_235 (by decide) (fun hc235 => ?_) (fun hc235 => ?_)
              · replace hf := it_t hf hc235
                exact hk294 M_59 hf _ _ _ hH hS (gLv_sub hl [1, 2, 3, 4, 5, 6] rfl)
              · replace hf := it_f hf hc235
                refine lv_aload_n X.1 X.2.1 dX12_ends_238 rfl (lv_at hl.1 1 rfl) ?_
                refine g_get X cX12 hH (r := 29) (i := 0) (by decide) rfl 47 (by decide) k_1257 rfl (v := .ref (gAd G 68 0)) rfl dX12_ends_239 ?_
                refine lv_iconst X.1 X.2.1 dX12_ends_242 (v := iI 3) rfl ?_
                refine lv_dup2_11 X.1 X.2.1 dX12_ends_243 rfl rfl ?_
                obtain ⟨hg, hf_⟩ := og_e hf; clear hf; have hf := hf_; clear hf_
                have nd244 : nmI (M_59 68 0 3) := hH.1.1 _ _ _
                refine g_iald X hH (r := 68) (i := 0) (by decide) rfl (nmI_l (by decide)) hg (v := M_59 68 0 3) rfl dX12_ends_244 ?_
                refine lv_iconst X.1 X.2.1 dX12_ends_245 (v := iI 1) rfl ?_
                refine g_iadd X dX12_ends_246 ?_
                obtain ⟨hg, hf_⟩ := og_e hf; clear hf; have hf := hf_; clear hf_
                refine g_iast X hH hS (r := 68) (i := 0) (by decide) (fun _ => rfl) (nmI_l (by decide)) hg (nmI_w _) rfl (by decide) dX12_ends_247 (fun H locs hH hS => ?_)
                refine lv_aload_n X.1 X.2.1 dX12_ends_248 rfl (lv_at hl.1 1 rfl) ?_
                refine g_get X cX12 hH (r := 29) (i := 0) (by decide) rfl 41 (by decide) k_1251 rfl (v := .ref (gAd G 63 0)) rfl dX12_ends_249 ?_
                refine lv_iload_n X.1 X.2.1 dX12_ends_252 rfl (lv_at hl.1 3 rfl) ?_
                refine lv_dup2_11 X.1 X.2.1 dX12_ends_253 rfl rfl ?_
                obtain ⟨hg, hf_⟩ := og_e hf; clear hf; have hf := hf_; clear hf_
                have nd254 : nmI ((gU M_59 68 0 3 (wI ((M_59 68 0 3) + 1))) 63 0 (M 54 0 v1.toNat).toNat) := hH.1.1 _ _ _
                refine g_iald X hH (r := 63) (i := 0) (by decide) rfl nd5 hg (v := (gU M_59 68 0 3 (wI ((M_59 68 0 3) + 1))) 63 0 (M 54 0 v1.toNat).toNat) rfl dX12_ends_254 ?_
                refine lv_iconst X.1 X.2.1 dX12_ends_255 (v := iI 1) rfl ?_
                refine g_iadd X dX12_ends_256 ?_
                obtain ⟨hg, hf_⟩ := og_e hf; clear hf; have hf := hf_; clear hf_
                refine g_iast X hH hS (r := 63) (i := 0) (by decide) (fun _ => rfl) nd5 hg (nmI_w _) rfl (by decide) dX12_ends_257 (fun H locs hH hS => ?_)
                refine lv_aload_n X.1 X.2.1 dX12_ends_258 rfl (lv_at hl.1 1 rfl) ?_
                refine g_get X cX12 hH (r := 29) (i := 0) (by decide) rfl 41 (by decide) k_1251 rfl (v := .ref (gAd G 63 0)) rfl dX12_ends_259 ?_
                refine lv_iload_n X.1 X.2.1 dX12_ends_262 rfl (lv_at hl.1 3 rfl) ?_
                obtain ⟨hg, hf_⟩ := og_e hf; clear hf; have hf := hf_; clear hf_
                have nd263 : nmI ((gU (gU M_59 68 0 3 (wI ((M_59 68 0 3) + 1))) 63 0 (M 54 0 v1.toNat).toNat (wI (((gU M_59 68 0 3 (wI ((M_59 68 0 3) + 1))) 63 0 (M 54 0 v1.toNat).toNat) + 1))) 63 0 (M 54 0 v1.toNat).toNat) := hH.1.1 _ _ _
                refine g_iald X hH (r := 63) (i := 0) (by decide) rfl nd5 hg (v := (gU (gU M_59 68 0 3 (wI ((M_59 68 0 3) + 1))) 63 0 (M 54 0 v1.toNat).toNat (wI (((gU M_59 68 0 3 (wI ((M_59 68 0 3) + 1))) 63 0 (M 54 0 v1.toNat).toNat) + 1))) 63 0 (M 54 0 v1.toNat).toNat) rfl dX12_ends_263 ?_
                refine lv_iconst X.1 X.2.1 dX12_ends_264 (v := iI 3) rfl ?_
                refine g_icmp_ge X nd263 (nmI_l (by decide)) (tgt := 276) dX12_ends_265 (by decide) (fun hc265 => ?_) (fun hc265 => ?_)
                · replace hf := it_f hf hc265
                  refine lv_aload_n X.1 X.2.1 dX12_ends_276 rfl (lv_at hl.1 1 rfl) ?_
                  refine g_get X cX12 hH (r := 29) (i := 0) (by decide) rfl 45 (by decide) k_1255 rfl (v := .ref (gAd G 66 0)) rfl dX12_ends_277 ?_
                  refine lv_iload_n X.1 X.2.1 dX12_ends_280 rfl (lv_at hl.1 4 rfl) ?_
                  obtain ⟨hg, hf_⟩ := og_e hf; clear hf; have hf := hf_; clear hf_
                  have nd281 : nmI ((gU (gU M_59 68 0 3 (wI ((M_59 68 0 3) + 1))) 63 0 (M 54 0 v1.toNat).toNat (wI (((gU M_59 68 0 3 (wI ((M_59 68 0 3) + 1))) 63 0 (M 54 0 v1.toNat).toNat) + 1))) 66 0 (wI ((M 54 0 v1.toNat).tdiv 4)).toNat) := hH.1.1 _ _ _
                  refine g_iald X hH (r := 66) (i := 0) (by decide) rfl (nmI_w _) hg (v := (gU (gU M_59 68 0 3 (wI ((M_59 68 0 3) + 1))) 63 0 (M 54 0 v1.toNat).toNat (wI (((gU M_59 68 0 3 (wI ((M_59 68 0 3) + 1))) 63 0 (M 54 0 v1.toNat).toNat) + 1))) 66 0 (wI ((M 54 0 v1.toNat).tdiv 4)).toNat) rfl dX12_ends_281 ?_
                  refine lv_iconst X.1 X.2.1 dX12_ends_282 (v := iI 2) rfl ?_
                  refine g_icmp_ge X nd281 (nmI_l (by decide)) (tgt := 294) dX12_ends_283 (by decide) (fun hc283 => ?_) (fun hc283 => ?_)
                  · replace hf := it_f hf hc283
                    exact hk294 (gU (gU M_59 68 0 3 (wI ((M_59 68 0 3) + 1))) 63 0 (M 54 0 v1.toNat).toNat (wI (((gU M_59 68 0 3 (wI ((M_59 68 0 3) + 1))) 63 0 (M 54 0 v1.toNat).toNat) + 1))) hf _ _ _ hH hS (gLv_sub hl [1, 2, 3, 4, 5, 6] rfl)
                  · replace hf := it_t hf hc283
                    refine lv_aload_n X.1 X.2.1 dX12_ends_286 rfl (lv_at hl.1 1 rfl) ?_
                    refine g_get X cX12 hH (r := 29) (i := 0) (by decide) rfl 38 (by decide) k_1248 rfl (v := .ref (gAd G 60 0)) rfl dX12_ends_287 ?_
                    refine lv_iload_n X.1 X.2.1 dX12_ends_290 rfl (lv_at hl.1 3 rfl) ?_
                    refine lv_iconst X.1 X.2.1 dX12_ends_291 (v := iI 4) rfl ?_
                    obtain ⟨hg, hf_⟩ := og_e hf; clear hf; have hf := hf_; clear hf_
                    refine g_iast X hH hS (r := 60) (i := 0) (by decide) (fun _ => rfl) nd5 hg (nmI_l (by decide)) rfl (by decide) dX12_ends_292 (fun H locs hH hS => ?_)
                    have hq := Option.some.inj hf; subst hq
                    exact gRetV X hH hS dX12_ends_293
                · replace hf := it_t hf hc265
                  refine lv_aload_n X.1 X.2.1 dX12_ends_268 rfl (lv_at hl.1 1 rfl) ?_
                  refine g_get X cX12 hH (r := 29) (i := 0) (by decide) rfl 38 (by decide) k_1248 rfl (v := .ref (gAd G 60 0)) rfl dX12_ends_269 ?_
                  refine lv_iload_n X.1 X.2.1 dX12_ends_272 rfl (lv_at hl.1 3 rfl) ?_
                  refine lv_iconst X.1 X.2.1 dX12_ends_273 (v := iI 1) rfl ?_
                  obtain ⟨hg, hf_⟩ := og_e hf; clear hf; have hf := hf_; clear hf_
                  refine g_iast X hH hS (r := 60) (i := 0) (by decide) (fun _ => rfl) nd5 hg (nmI_l (by decide)) rfl (by decide) dX12_ends_274 (fun H locs hH hS => ?_)
                  have hq := Option.some.inj hf; subst hq
                  exact gRetV X hH hS dX12_ends_275
            clear ek231
            obtain ⟨k230, ek230, hf_⟩ := oj_e hf; clear hf; have hf := hf_; clear hf_
            have hk230 : k230 = some q → ∀ (H : Heap) (locs : List Loc) (ls : Array Slot), gH G M_59 H → va_S (gA G) s.heap H locs → gLv ls 8 [(0, .ref (gAd G 29 0)), (1, .int (iI v1)), (2, .int (iI (M 54 0 v1.toNat))), (3, .int (iI (wI ((M 54 0 v1.toNat).tdiv 4)))), (5, .int (iI r67)), (6, .int (iI xs0_185))] → W p l e { frames := 3, cells := 0, slots := 0, locals := 70 } s m args below meth c H locs 0 0 (MQ below (gQv G q) args s 0 0 (gA G)) (F0 m 230 ls []) := by
              intro  hf H locs ls hH hS hl
              subst ek230
              refine lv_iconst X.1 X.2.1 dX12_ends_230 (v := iI 0) rfl ?_
              exact hk231 0 (by decide) hf _ _ _ hH hS (gLv_sub hl [0, 1, 2, 3, 4, 5] rfl)
            clear ek230
            refine g_icmp_ne X nd192 (nmI_l (by decide)) (tgt := 230) dX12_ends_194 (by decide) (fun hc194 => ?_) (fun hc194 => ?_)
            · replace hf := it_f hf hc194
              exact hk230  hf _ _ _ hH hS (gLv_sub hl [1, 2, 3, 4, 5, 0] rfl)
            · replace hf := it_t hf hc194
              refine lv_iload X.1 X.2.1 dX12_ends_197 (lv_at hl.1 0 rfl) ?_
              refine lv_iconst X.1 X.2.1 dX12_ends_199 (v := iI 4) rfl ?_
              refine g_irem X nxs0_185 (nmI_l (by decide)) (by decide) dX12_ends_200 ?_
              obtain ⟨k226, ek226, hf_⟩ := oj_e hf; clear hf; have hf := hf_; clear hf_
              have hk226 : k226 = some q → ∀ (H : Heap) (locs : List Loc) (ls : Array Slot), gH G M_59 H → va_S (gA G) s.heap H locs → gLv ls 8 [(0, .ref (gAd G 29 0)), (1, .int (iI v1)), (2, .int (iI (M 54 0 v1.toNat))), (3, .int (iI (wI ((M 54 0 v1.toNat).tdiv 4)))), (5, .int (iI r67)), (6, .int (iI xs0_185))] → W p l e { frames := 3, cells := 0, slots := 0, locals := 70 } s m args below meth c H locs 0 0 (MQ below (gQv G q) args s 0 0 (gA G)) (F0 m 226 ls []) := by
                intro  hf H locs ls hH hS hl
                subst ek226
                refine lv_iconst X.1 X.2.1 dX12_ends_226 (v := iI 1) rfl ?_
                refine lv_goto (tgt := 231) X.1 X.2.1 dX12_ends_227 (by decide) ?_
                exact hk231 1 (by decide) hf _ _ _ hH hS (gLv_sub hl [0, 1, 2, 3, 4, 5] rfl)
              clear ek226
              refine g_if_eq X (nmI_rem _ _) (tgt := 226) dX12_ends_201 (by decide) (fun hc201 => ?_) (fun hc201 => ?_)
              · replace hf := it_t hf hc201
                exact hk226  hf _ _ _ hH hS (gLv_sub hl [1, 2, 3, 4, 5, 0] rfl)
              · replace hf := it_f hf hc201
                refine lv_iconst X.1 X.2.1 dX12_ends_204 (v := iI 3) rfl ?_
                refine lv_aload_n X.1 X.2.1 dX12_ends_205 rfl (lv_at hl.1 1 rfl) ?_
                refine g_get X cX12 hH (r := 29) (i := 0) (by decide) rfl 44 (by decide) k_1254 rfl (v := .ref (gAd G 65 0)) rfl dX12_ends_206 ?_
                refine lv_iload_n X.1 X.2.1 dX12_ends_209 rfl (lv_at hl.1 3 rfl) ?_
                obtain ⟨hg, hf_⟩ := og_e hf; clear hf; have hf := hf_; clear hf_
                have nd210 : nmI (M_59 65 0 (M 54 0 v1.toNat).toNat) := hH.1.1 _ _ _
                refine g_iald X hH (r := 65) (i := 0) (by decide) rfl nd5 hg (v := M_59 65 0 (M 54 0 v1.toNat).toNat) rfl dX12_ends_210 ?_
                refine g_imul X dX12_ends_211 ?_
                refine lv_iload X.1 X.2.1 dX12_ends_212 (lv_at hl.1 0 rfl) ?_
                refine g_iadd X dX12_ends_214 ?_
                refine lv_iconst X.1 X.2.1 dX12_ends_215 (v := iI 5) rfl ?_
                refine g_irem X (nmI_w _) (nmI_l (by decide)) (by decide) dX12_ends_216 ?_
                refine lv_aload_n X.1 X.2.1 dX12_ends_217 rfl (lv_at hl.1 1 rfl) ?_
                refine g_get X cX12 hH (r := 29) (i := 0) (by decide) rfl 13 (by decide) k_1223 rfl (v := .ref (gAd G 40 0)) rfl dX12_ends_218 ?_
                refine lv_iload_n X.1 X.2.1 dX12_ends_221 rfl (lv_at hl.1 4 rfl) ?_
                obtain ⟨hg, hf_⟩ := og_e hf; clear hf; have hf := hf_; clear hf_
                have nd222 : nmI (M_59 40 0 (wI ((M 54 0 v1.toNat).tdiv 4)).toNat) := hH.1.1 _ _ _
                refine g_iald X hH (r := 40) (i := 0) (by decide) rfl (nmI_w _) hg (v := M_59 40 0 (wI ((M 54 0 v1.toNat).tdiv 4)).toNat) rfl dX12_ends_222 ?_
                refine g_icmp_ge X (nmI_rem _ _) nd222 (tgt := 230) dX12_ends_223 (by decide) (fun hc223 => ?_) (fun hc223 => ?_)
                · replace hf := it_f hf hc223
                  exact hk230  hf _ _ _ hH hS (gLv_sub hl [1, 2, 3, 4, 5, 0] rfl)
                · replace hf := it_t hf hc223
                  exact hk226  hf _ _ _ hH hS (gLv_sub hl [1, 2, 3, 4, 5, 0] rfl)
          clear ek185
          refine g_icmp_ne X nr67 (nmI_l (by decide)) (tgt := 170) dX12_ends_158 (by decide) (fun hc158 => ?_) (fun hc158 => ?_)
          · replace hf := it_f hf hc158
            refine lv_aload_n X.1 X.2.1 dX12_ends_170 rfl (lv_at hl.1 0 rfl) ?_
            refine g_get X cX12 hH (r := 29) (i := 0) (by decide) rfl 33 (by decide) k_1243 rfl (v := .ref (gAd G 57 0)) rfl dX12_ends_171 ?_
            refine lv_iload_n X.1 X.2.1 dX12_ends_174 rfl (lv_at hl.1 1 rfl) ?_
            obtain ⟨hg, hf_⟩ := og_e hf; clear hf; have hf := hf_; clear hf_
            have nd175 : nmI (M_59 57 0 v1.toNat) := hH.1.1 _ _ _
            refine g_iald X hH (r := 57) (i := 0) (by decide) rfl nv1 hg (v := M_59 57 0 v1.toNat) rfl dX12_ends_175 ?_
            refine lv_aload_n X.1 X.2.1 dX12_ends_176 rfl (lv_at hl.1 0 rfl) ?_
            refine g_get X cX12 hH (r := 29) (i := 0) (by decide) rfl 34 (by decide) k_1244 rfl (v := .ref (gAd G 58 0)) rfl dX12_ends_177 ?_
            refine lv_iload_n X.1 X.2.1 dX12_ends_180 rfl (lv_at hl.1 1 rfl) ?_
            obtain ⟨hg, hf_⟩ := og_e hf; clear hf; have hf := hf_; clear hf_
            have nd181 : nmI (M_59 58 0 v1.toNat) := hH.1.1 _ _ _
            refine g_iald X hH (r := 58) (i := 0) (by decide) rfl nv1 hg (v := M_59 58 0 v1.toNat) rfl dX12_ends_181 ?_
            refine gGoI (gRunS X hH (As := [.int (iI (M_59 57 0 v1.toNat)), .int (iI (M_59 58 0 v1.toNat))]) (m_X12_put l G (M_59 57 0 v1.toNat) nd175 (M_59 58 0 v1.toNat) nd181 M_59 _ rfl) calX12_put k_1449 k_1448 ⟨by decide, by decide⟩ rfl hl rfl (Nat.le_of_ble_eq_true rfl) ⟨Nat.le_of_ble_eq_true rfl, Nat.le_of_ble_eq_true rfl⟩ dX12_ends_182) hS (fun H locs nr182 hH hS => ?_)
            exact hk185 ((f_X12_put (M_59 57 0 v1.toNat) (M_59 58 0 v1.toNat) M_59)) nr182 hf _ _ _ hH hS (gLv_sub hl [0, 1, 2, 3, 4] rfl)
          · replace hf := it_t hf hc158
            refine lv_aload_n X.1 X.2.1 dX12_ends_161 rfl (lv_at hl.1 0 rfl) ?_
            refine g_get X cX12 hH (r := 29) (i := 0) (by decide) rfl 33 (by decide) k_1243 rfl (v := .ref (gAd G 57 0)) rfl dX12_ends_162 ?_
            refine lv_iload_n X.1 X.2.1 dX12_ends_165 rfl (lv_at hl.1 1 rfl) ?_
            obtain ⟨hg, hf_⟩ := og_e hf; clear hf; have hf := hf_; clear hf_
            have nd166 : nmI (M_59 57 0 v1.toNat) := hH.1.1 _ _ _
            refine g_iald X hH (r := 57) (i := 0) (by decide) rfl nv1 hg (v := M_59 57 0 v1.toNat) rfl dX12_ends_166 ?_
            refine lv_goto (tgt := 185) X.1 X.2.1 dX12_ends_167 (by decide) ?_
            exact hk185 (M_59 57 0 v1.toNat) nd166 hf _ _ _ hH hS (gLv_sub hl [0, 1, 2, 3, 4] rfl)
        · replace hf := it_f hf hc144
          refine lv_aload_n X.1 X.2.1 dX12_ends_147 rfl (lv_at hl.1 0 rfl) ?_
          refine g_get X cX12 hH (r := 29) (i := 0) (by decide) rfl 38 (by decide) k_1248 rfl (v := .ref (gAd G 60 0)) rfl dX12_ends_148 ?_
          refine lv_iload_n X.1 X.2.1 dX12_ends_151 rfl (lv_at hl.1 2 rfl) ?_
          refine lv_iconst X.1 X.2.1 dX12_ends_152 (v := iI 4) rfl ?_
          obtain ⟨hg, hf_⟩ := og_e hf; clear hf; have hf := hf_; clear hf_
          refine g_iast X hH hS (r := 60) (i := 0) (by decide) (fun _ => rfl) nd5 hg (nmI_l (by decide)) rfl (by decide) dX12_ends_153 (fun H locs hH hS => ?_)
          have hq := Option.some.inj hf; subst hq
          exact gRetV X hH hS dX12_ends_154
      clear ek133
      refine g_icmp_eq X nr67 (nmI_l (by decide)) (tgt := 133) dX12_ends_89 (by decide) (fun hc89 => ?_) (fun hc89 => ?_)
      · replace hf := it_t hf hc89
        exact hk133  hf _ _ _ hH hS (gLv_sub hl [1, 2, 3, 4, 0] rfl)
      · replace hf := it_f hf hc89
        refine lv_aload_n X.1 X.2.1 dX12_ends_92 rfl (lv_at hl.1 1 rfl) ?_
        refine g_get X cX12 hH (r := 29) (i := 0) (by decide) rfl 1 (by decide) k_1211 rfl (v := .ref (gAd G 30 0)) rfl dX12_ends_93 ?_
        refine lv_iload X.1 X.2.1 dX12_ends_96 (lv_at hl.1 0 rfl) ?_
        obtain ⟨hg, hf_⟩ := og_e hf; clear hf; have hf := hf_; clear hf_
        have nd98 : nmI (M_59 30 0 r67.toNat) := hH.1.1 _ _ _
        refine g_iald X hH (r := 30) (i := 0) (by decide) rfl nr67 hg (v := M_59 30 0 r67.toNat) rfl dX12_ends_98 ?_
        refine lv_aload_n X.1 X.2.1 dX12_ends_99 rfl (lv_at hl.1 1 rfl) ?_
        refine g_get X cX12 hH (r := 29) (i := 0) (by decide) rfl 34 (by decide) k_1244 rfl (v := .ref (gAd G 58 0)) rfl dX12_ends_100 ?_
        refine lv_iload_n X.1 X.2.1 dX12_ends_103 rfl (lv_at hl.1 2 rfl) ?_
        obtain ⟨hg, hf_⟩ := og_e hf; clear hf; have hf := hf_; clear hf_
        have nd104 : nmI (M_59 58 0 v1.toNat) := hH.1.1 _ _ _
        refine g_iald X hH (r := 58) (i := 0) (by decide) rfl nv1 hg (v := M_59 58 0 v1.toNat) rfl dX12_ends_104 ?_
        refine g_icmp_eq X nd98 nd104 (tgt := 133) dX12_ends_105 (by decide) (fun hc105 => ?_) (fun hc105 => ?_)
        · replace hf := it_t hf hc105
          exact hk133  hf _ _ _ hH hS (gLv_sub hl [1, 2, 3, 4, 0] rfl)
        · replace hf := it_f hf hc105
          exact hk108  hf _ _ _ hH hS (gLv_sub hl [1, 3] rfl)
  clear ek59
  refine g_icmp_eq X nr32 (nmI_l (by decide)) (tgt := 59) dX12_ends_40 (by decide) (fun hc40 => ?_) (fun hc40 => ?_)
  · replace hf := it_t hf hc40
    exact hk59 (gU (gU M 54 0 v1.toNat ((-1))) 59 0 v1.toNat ((gU M 54 0 v1.toNat ((-1))) 36 0 (wI ((M 54 0 v1.toNat).tdiv 4)).toNat)) hf _ _ _ hH hS (gLv_sub hl [3, 4, 2, 1] rfl)
  · replace hf := it_f hf hc40
    refine lv_aload_n X.1 X.2.1 dX12_ends_43 rfl (lv_at hl.1 3 rfl) ?_
    refine g_get X cX12 hH (r := 29) (i := 0) (by decide) rfl 30 (by decide) k_1240 rfl (v := .ref (gAd G 54 0)) rfl dX12_ends_44 ?_
    refine lv_iload X.1 X.2.1 dX12_ends_47 (lv_at hl.1 0 rfl) ?_
    refine lv_iconst X.1 X.2.1 dX12_ends_49 (v := iI (-1)) rfl ?_
    obtain ⟨hg, hf_⟩ := og_e hf; clear hf; have hf := hf_; clear hf_
    refine g_iast X hH hS (r := 54) (i := 0) (by decide) (fun _ => rfl) nr32 hg (nmI_l (by decide)) rfl (by decide) dX12_ends_50 (fun H locs hH hS => ?_)
    refine lv_aload_n X.1 X.2.1 dX12_ends_51 rfl (lv_at hl.1 3 rfl) ?_
    refine g_get X cX12 hH (r := 29) (i := 0) (by decide) rfl 35 (by decide) k_1245 rfl (v := .ref (gAd G 59 0)) rfl dX12_ends_52 ?_
    refine lv_iload X.1 X.2.1 dX12_ends_55 (lv_at hl.1 0 rfl) ?_
    refine lv_iconst X.1 X.2.1 dX12_ends_57 (v := iI (-1)) rfl ?_
    obtain ⟨hg, hf_⟩ := og_e hf; clear hf; have hf := hf_; clear hf_
    refine g_iast X hH hS (r := 59) (i := 0) (by decide) (fun _ => rfl) nr32 hg (nmI_l (by decide)) rfl (by decide) dX12_ends_58 (fun H locs hH hS => ?_)
    exact hk59 (gU (gU (gU (gU M 54 0 v1.toNat ((-1))) 59 0 v1.toNat ((gU M 54 0 v1.toNat ((-1))) 36 0 (wI ((M 54 0 v1.toNat).tdiv 4)).toNat)) 54 0 r32.toNat ((-1))) 59 0 r32.toNat ((-1))) hf _ _ _ hH hS (gLv_sub hl [3, 4, 2, 1] rfl)
