theorem w_X12_opensOne_L34 {G : gG} {p : Program} {l : Launch} {e : Env} {s : State} {m : MethodId} {args : Array Value} {below : List Frame} {meth : Method} {c : Code} (X : gX G p s m args meth c RX12 cX12_opensOne 8 none (gWs yX12_opensOne cX12_opensOne 8 none)) (k107 : Int → Int → Option gM) (z1 : Int) (nz1 : nmI z1) (z2 : Int) (nz2 : nmI z2) (z5 : Int) (nz5 : nmI z5) (z6 : Int) (nz6 : nmI z6) (M : gM) (q : gM) (hk107 : ∀ (x3 : Int) (bx3 : x3 = 0 ∨ x3 = 1) (x4 : Int) (bx4 : x4 = 0 ∨ x4 = 1), k107 x3 x4 = some q → ∀ (H : Heap) (locs : List Loc) (ls : Array Slot), gH G M H → va_S (gA G) s.heap H locs → gLv ls 8 [(0, .ref (gAd G 29 0)), (1, .int (iI z1)), (2, .int (iI z2)), (3, .int (iI x3)), (4, .int (iI x4)), (5, .int (iI z5))] → W p l e { frames := 4, cells := 0, slots := 0, locals := 96 } s m args below meth c H locs 0 0 (MQ below (gQv G q) args s 0 0 (gA G)) (F0 m 107 ls [])) : ∀ (n : Nat) (x3 : Int) (bx3 : x3 = 0 ∨ x3 = 1) (x4 : Int) (bx4 : x4 = 0 ∨ x4 = 1) (x7 : Int) (nx7 : nmI x7), f_X12_opensOne_L34 k107 z1 z2 z5 z6 M n x3 x4 x7 = some q → ∀ (H : Heap) (locs : List Loc) (ls : Array Slot), gH G M H → va_S (gA G) s.heap H locs → gLv ls 8 [(0, .ref (gAd G 29 0)), (1, .int (iI z1)), (2, .int (iI z2)), (3, .int (iI x3)), (4, .int (iI x4)), (5, .int (iI z5)), (6, .int (iI z6)), (7, .int (iI x7))] → W p l e { frames := 4, cells := 0, slots := 0, locals := 96 } s m args below meth c H locs 0 0 (MQ below (gQv G q) args s 0 0 (gA G)) (F0 m 34 ls []) := by
  intro n
  induction n with
  | zero =>
    intro x3 bx3 x4 bx4 x7 nx7 hf
    cases hf
  | succ n ih =>
    intro x3 bx3 x4 bx4 x7 nx7 hf H locs ls hH hS hl
    rw [f_X12_opensOne_L34] at hf
    refine lv_iload X.1 X.2.1 dX12_opensOne_34 (lv_at hl.1 6 rfl) ?_
    refine g_if_lt X nz6 (tgt := 107) dX12_opensOne_36 (by decide) (fun hc36 => ?_) (fun hc36 => ?_)
    · replace hf := it_t hf hc36
      exact hk107 x3 bx3 x4 bx4 hf _ _ _ hH hS (gLv_sub hl [0, 1, 2, 3, 4, 5] rfl)
    · replace hf := it_f hf hc36
      refine lv_iload X.1 X.2.1 dX12_opensOne_39 (lv_at hl.1 7 rfl) ?_
      refine lv_aload_n X.1 X.2.1 dX12_opensOne_41 rfl (lv_at hl.1 0 rfl) ?_
      refine g_get X cX12 hH (r := 29) (i := 0) (by decide) rfl 11 (by decide) k_412 rfl (v := .ref (gAd G 38 0)) rfl dX12_opensOne_42 ?_
      refine lv_iload X.1 X.2.1 dX12_opensOne_45 (lv_at hl.1 6 rfl) ?_
      obtain ⟨hg, hf_⟩ := og_e hf; clear hf; have hf := hf_; clear hf_
      have nd47 : nmI (M 38 0 z6.toNat) := hH.1.1 _ _ _
      refine g_iald X hH (r := 38) (i := 0) (by decide) rfl nz6 hg (v := M 38 0 z6.toNat) rfl dX12_opensOne_47 ?_
      refine g_icmp_ge X nx7 nd47 (tgt := 107) dX12_opensOne_48 (by decide) (fun hc48 => ?_) (fun hc48 => ?_)
      · replace hf := it_f hf hc48
        exact hk107 x3 bx3 x4 bx4 hf _ _ _ hH hS (gLv_sub hl [0, 1, 2, 3, 4, 5] rfl)
      · replace hf := it_t hf hc48
        refine lv_iload_n X.1 X.2.1 dX12_opensOne_51 rfl (lv_at hl.1 3 rfl) ?_
        refine lv_aload_n X.1 X.2.1 dX12_opensOne_52 rfl (lv_at hl.1 0 rfl) ?_
        refine g_get X cX12 hH (r := 29) (i := 0) (by decide) rfl 38 (by decide) k_439 rfl (v := .ref (gAd G 60 0)) rfl dX12_opensOne_53 ?_
        refine lv_iconst X.1 X.2.1 dX12_opensOne_56 (v := iI 4) rfl ?_
        refine lv_iload X.1 X.2.1 dX12_opensOne_57 (lv_at hl.1 6 rfl) ?_
        refine g_imul X dX12_opensOne_59 ?_
        refine lv_iload X.1 X.2.1 dX12_opensOne_60 (lv_at hl.1 7 rfl) ?_
        refine g_iadd X dX12_opensOne_62 ?_
        obtain ⟨hg, hf_⟩ := og_e hf; clear hf; have hf := hf_; clear hf_
        have nd63 : nmI (M 60 0 (wI ((wI (4 * z6)) + x7)).toNat) := hH.1.1 _ _ _
        refine g_iald X hH (r := 60) (i := 0) (by decide) rfl (nmI_w _) hg (v := M 60 0 (wI ((wI (4 * z6)) + x7)).toNat) rfl dX12_opensOne_63 ?_
        refine lv_iconst X.1 X.2.1 dX12_opensOne_64 (v := iI 3) rfl ?_
        obtain ⟨k73, ek73, hf_⟩ := oj_e hf; clear hf; have hf := hf_; clear hf_
        have hk73 : ∀ (xs1_73 : Int) (bxs1_73 : xs1_73 = 0 ∨ xs1_73 = 1), k73 xs1_73 = some q → ∀ (H : Heap) (locs : List Loc) (ls : Array Slot), gH G M H → va_S (gA G) s.heap H locs → gLv ls 8 [(0, .ref (gAd G 29 0)), (1, .int (iI z1)), (2, .int (iI z2)), (4, .int (iI x4)), (5, .int (iI z5)), (6, .int (iI z6)), (7, .int (iI x7))] → W p l e { frames := 4, cells := 0, slots := 0, locals := 96 } s m args below meth c H locs 0 0 (MQ below (gQv G q) args s 0 0 (gA G)) (F0 m 73 ls [.int (iI xs1_73), .int (iI x3)]) := by
          intro xs1_73 bxs1_73 hf H locs ls hH hS hl
          subst ek73
          refine g_ior X dX12_opensOne_73 ?_
          refine g_istore_n X (lv' := [(3, .int (iI (gOr x3 xs1_73))), (0, .ref (gAd G 29 0)), (1, .int (iI z1)), (2, .int (iI z2)), (4, .int (iI x4)), (5, .int (iI z5)), (6, .int (iI z6)), (7, .int (iI x7))]) dX12_opensOne_74 rfl hl (by decide) rfl (fun ls hl => ?_)
          refine lv_iload X.1 X.2.1 dX12_opensOne_75 (lv_at hl.1 4 rfl) ?_
          refine lv_aload_n X.1 X.2.1 dX12_opensOne_77 rfl (lv_at hl.1 1 rfl) ?_
          refine g_get X cX12 hH (r := 29) (i := 0) (by decide) rfl 38 (by decide) k_439 rfl (v := .ref (gAd G 60 0)) rfl dX12_opensOne_78 ?_
          refine lv_iconst X.1 X.2.1 dX12_opensOne_81 (v := iI 4) rfl ?_
          refine lv_iload X.1 X.2.1 dX12_opensOne_82 (lv_at hl.1 6 rfl) ?_
          refine g_imul X dX12_opensOne_84 ?_
          refine lv_iload X.1 X.2.1 dX12_opensOne_85 (lv_at hl.1 7 rfl) ?_
          refine g_iadd X dX12_opensOne_87 ?_
          obtain ⟨hg, hf_⟩ := og_e hf; clear hf; have hf := hf_; clear hf_
          have nd88 : nmI (M 60 0 (wI ((wI (4 * z6)) + x7)).toNat) := hH.1.1 _ _ _
          refine g_iald X hH (r := 60) (i := 0) (by decide) rfl (nmI_w _) hg (v := M 60 0 (wI ((wI (4 * z6)) + x7)).toNat) rfl dX12_opensOne_88 ?_
          refine lv_iconst X.1 X.2.1 dX12_opensOne_89 (v := iI 3) rfl ?_
          obtain ⟨k98, ek98, hf_⟩ := oj_e hf; clear hf; have hf := hf_; clear hf_
          have hk98 : ∀ (xs1_98 : Int) (bxs1_98 : xs1_98 = 0 ∨ xs1_98 = 1), k98 xs1_98 = some q → ∀ (H : Heap) (locs : List Loc) (ls : Array Slot), gH G M H → va_S (gA G) s.heap H locs → gLv ls 8 [(0, .ref (gAd G 29 0)), (1, .int (iI z1)), (2, .int (iI z2)), (3, .int (iI (gOr x3 xs1_73))), (5, .int (iI z5)), (6, .int (iI z6)), (7, .int (iI x7))] → W p l e { frames := 4, cells := 0, slots := 0, locals := 96 } s m args below meth c H locs 0 0 (MQ below (gQv G q) args s 0 0 (gA G)) (F0 m 98 ls [.int (iI xs1_98), .int (iI x4)]) := by
            intro xs1_98 bxs1_98 hf H locs ls hH hS hl
            subst ek98
            refine g_ior X dX12_opensOne_98 ?_
            refine g_istore X (lv' := [(4, .int (iI (gOr x4 xs1_98))), (0, .ref (gAd G 29 0)), (1, .int (iI z1)), (2, .int (iI z2)), (3, .int (iI (gOr x3 xs1_73))), (5, .int (iI z5)), (6, .int (iI z6)), (7, .int (iI x7))]) dX12_opensOne_99 hl (by decide) rfl (fun ls hl => ?_)
            refine g_iinc X (a := x7) (lv' := [(7, .int (iI (wI (x7 + 1)))), (4, .int (iI (gOr x4 xs1_98))), (0, .ref (gAd G 29 0)), (1, .int (iI z1)), (2, .int (iI z2)), (3, .int (iI (gOr x3 xs1_73))), (5, .int (iI z5)), (6, .int (iI z6))]) dX12_opensOne_101 hl (k := 7) rfl (by decide) rfl (fun ls hl => ?_)
            refine lv_goto (tgt := 34) X.1 X.2.1 dX12_opensOne_104 (by decide) ?_
            exact ih (gOr x3 xs1_73) (b01_or bx3 bxs1_73) (gOr x4 xs1_98) (b01_or bx4 bxs1_98) (wI (x7 + 1)) (nmI_w _) hf _ _ _ hH hS (gLv_sub hl [2, 3, 4, 5, 1, 6, 7, 0] rfl)
          clear ek98
          refine g_icmp_le X nd88 (nmI_l (by decide)) (tgt := 97) dX12_opensOne_90 (by decide) (fun hc90 => ?_) (fun hc90 => ?_)
          · replace hf := it_f hf hc90
            refine lv_iconst X.1 X.2.1 dX12_opensOne_97 (v := iI 0) rfl ?_
            exact hk98 0 (by decide) hf _ _ _ hH hS (gLv_sub hl [1, 2, 3, 0, 5, 6, 7] rfl)
          · replace hf := it_t hf hc90
            refine lv_iconst X.1 X.2.1 dX12_opensOne_93 (v := iI 1) rfl ?_
            refine lv_goto (tgt := 98) X.1 X.2.1 dX12_opensOne_94 (by decide) ?_
            exact hk98 1 (by decide) hf _ _ _ hH hS (gLv_sub hl [1, 2, 3, 0, 5, 6, 7] rfl)
        clear ek73
        refine g_icmp_ge X nd63 (nmI_l (by decide)) (tgt := 72) dX12_opensOne_65 (by decide) (fun hc65 => ?_) (fun hc65 => ?_)
        · replace hf := it_f hf hc65
          refine lv_iconst X.1 X.2.1 dX12_opensOne_72 (v := iI 0) rfl ?_
          exact hk73 0 (by decide) hf _ _ _ hH hS (gLv_sub hl [0, 1, 2, 4, 5, 6, 7] rfl)
        · replace hf := it_t hf hc65
          refine lv_iconst X.1 X.2.1 dX12_opensOne_68 (v := iI 1) rfl ?_
          refine lv_goto (tgt := 73) X.1 X.2.1 dX12_opensOne_69 (by decide) ?_
          exact hk73 1 (by decide) hf _ _ _ hH hS (gLv_sub hl [0, 1, 2, 4, 5, 6, 7] rfl)
theorem w_X12_opensOne_L8 {G : gG} {p : Program} {l : Launch} {e : Env} {s : State} {m : MethodId} {args : Array Value} {below : List Frame} {meth : Method} {c : Code} (X : gX G p s m args meth c RX12 cX12_opensOne 8 none (gWs yX12_opensOne cX12_opensOne 8 none)) (k113 : Int → Int → Option gM) (z1 : Int) (nz1 : nmI z1) (z2 : Int) (nz2 : nmI z2) (M : gM) (q : gM) (hk113 : ∀ (x3 : Int) (bx3 : x3 = 0 ∨ x3 = 1) (x4 : Int) (bx4 : x4 = 0 ∨ x4 = 1), k113 x3 x4 = some q → ∀ (H : Heap) (locs : List Loc) (ls : Array Slot), gH G M H → va_S (gA G) s.heap H locs → gLv ls 8 [(0, .ref (gAd G 29 0)), (2, .int (iI z2)), (3, .int (iI x3)), (4, .int (iI x4))] → W p l e { frames := 4, cells := 0, slots := 0, locals := 96 } s m args below meth c H locs 0 0 (MQ below (gQv G q) args s 0 0 (gA G)) (F0 m 113 ls [])) : ∀ (n : Nat) (x3 : Int) (bx3 : x3 = 0 ∨ x3 = 1) (x4 : Int) (bx4 : x4 = 0 ∨ x4 = 1) (x5 : Int) (nx5 : nmI x5), f_X12_opensOne_L8 k113 z1 z2 M n x3 x4 x5 = some q → ∀ (H : Heap) (locs : List Loc) (ls : Array Slot), gH G M H → va_S (gA G) s.heap H locs → gLv ls 8 [(0, .ref (gAd G 29 0)), (1, .int (iI z1)), (2, .int (iI z2)), (3, .int (iI x3)), (4, .int (iI x4)), (5, .int (iI x5))] → W p l e { frames := 4, cells := 0, slots := 0, locals := 96 } s m args below meth c H locs 0 0 (MQ below (gQv G q) args s 0 0 (gA G)) (F0 m 8 ls []) := by
  intro n
  induction n with
  | zero =>
    intro x3 bx3 x4 bx4 x5 nx5 hf
    cases hf
  | succ n ih =>
    intro x3 bx3 x4 bx4 x5 nx5 hf H locs ls hH hS hl
    rw [f_X12_opensOne_L8] at hf
    refine lv_iload X.1 X.2.1 dX12_opensOne_8 (lv_at hl.1 5 rfl) ?_
    refine lv_aload_n X.1 X.2.1 dX12_opensOne_10 rfl (lv_at hl.1 0 rfl) ?_
    refine g_get X cX12 hH (r := 29) (i := 0) (by decide) rfl 14 (by decide) k_415 rfl (v := .ref (gAd G 41 0)) rfl dX12_opensOne_11 ?_
    refine lv_iload_n X.1 X.2.1 dX12_opensOne_14 rfl (lv_at hl.1 1 rfl) ?_
    obtain ⟨hg, hf_⟩ := og_e hf; clear hf; have hf := hf_; clear hf_
    have nd15 : nmI (M 41 0 z1.toNat) := hH.1.1 _ _ _
    refine g_iald X hH (r := 41) (i := 0) (by decide) rfl nz1 hg (v := M 41 0 z1.toNat) rfl dX12_opensOne_15 ?_
    refine g_icmp_ge X nx5 nd15 (tgt := 113) dX12_opensOne_16 (by decide) (fun hc16 => ?_) (fun hc16 => ?_)
    · replace hf := it_f hf hc16
      exact hk113 x3 bx3 x4 bx4 hf _ _ _ hH hS (gLv_sub hl [0, 2, 3, 4] rfl)
    · replace hf := it_t hf hc16
      refine lv_aload_n X.1 X.2.1 dX12_opensOne_19 rfl (lv_at hl.1 0 rfl) ?_
      refine lv_iload_n X.1 X.2.1 dX12_opensOne_20 rfl (lv_at hl.1 1 rfl) ?_
      refine lv_iload X.1 X.2.1 dX12_opensOne_21 (lv_at hl.1 5 rfl) ?_
      obtain ⟨r23, hq23, hf_⟩ := ob_e hf; clear hf; have hf := hf_; clear hf_
      refine gGoI (gRunV X hH (As := [.int (iI z1), .int (iI x5)]) (m_X12_inputOf l G z1 nz1 x5 nx5 M _ hq23) calX12_inputOf k_983 k_1111 k_485 (by decide) cX12 rfl ⟨by decide, by decide⟩ rfl hl rfl (Nat.le_of_ble_eq_true rfl) ⟨Nat.le_refl 0, Nat.le_refl 0⟩ dX12_opensOne_23) hS (fun H locs nr23 hH hS => ?_)
      refine lv_bipush X.1 X.2.1 dX12_opensOne_26 (v := iI 16) (by decide) ?_
      refine g_isub X dX12_opensOne_28 ?_
      refine g_istore X (lv' := [(6, .int (iI (wI (r23 - 16)))), (0, .ref (gAd G 29 0)), (1, .int (iI z1)), (2, .int (iI z2)), (3, .int (iI x3)), (4, .int (iI x4)), (5, .int (iI x5))]) dX12_opensOne_29 hl (by decide) rfl (fun ls hl => ?_)
      refine lv_iconst X.1 X.2.1 dX12_opensOne_31 (v := iI 0) rfl ?_
      refine g_istore X (lv' := [(7, .int (iI 0)), (6, .int (iI (wI (r23 - 16)))), (0, .ref (gAd G 29 0)), (1, .int (iI z1)), (2, .int (iI z2)), (3, .int (iI x3)), (4, .int (iI x4)), (5, .int (iI x5))]) dX12_opensOne_32 hl (by decide) rfl (fun ls hl => ?_)
      refine w_X12_opensOne_L34 X _ z1 nz1 z2 nz2 x5 nx5 (wI (r23 - 16)) (nmI_w _) M q ?_ 64 x3 bx3 x4 bx4 0 (nmI_l (by decide)) hf _ _ _ hH hS (gLv_sub hl [2, 3, 4, 5, 6, 7, 1, 0] rfl)
      · intro y3_34_107 by3_34_107 y4_34_107 by4_34_107 hf H locs ls hH hS hl
        refine g_iinc X (a := x5) (lv' := [(5, .int (iI (wI (x5 + 1)))), (0, .ref (gAd G 29 0)), (1, .int (iI z1)), (2, .int (iI z2)), (3, .int (iI y3_34_107)), (4, .int (iI y4_34_107))]) dX12_opensOne_107 hl (k := 5) rfl (by decide) rfl (fun ls hl => ?_)
        refine lv_goto (tgt := 8) X.1 X.2.1 dX12_opensOne_110 (by decide) ?_
        exact ih y3_34_107 by3_34_107 y4_34_107 by4_34_107 (wI (x5 + 1)) (nmI_w _) hf _ _ _ hH hS (gLv_sub hl [1, 2, 3, 4, 5, 0] rfl)
theorem m_X12_opensOne (l : Launch) (G : gG) (v1 : Int) (nv1 : nmI v1) (v2 : Int) (nv2 : nmI v2) (M : gM) (q : gM) (hf : f_X12_opensOne v1 v2 M = some q) : gMet l yX12_opensOne cX12_opensOne 8 none 4 96 G M [.ref (gAd G 29 0), .int (iI v1), .int (iI v2)] (gQv G q) := by
  refine gOfW (by decide) (by show _ ≤ 8; exact Nat.le_of_ble_eq_true rfl) rfl ?_
  intro p e s m below meth c X hH ls hl
  replace hl : gLv ls 8 [(0, .ref (gAd G 29 0)), (1, .int (iI v1)), (2, .int (iI v2))] := hl
  have hS : va_S (gA G) s.heap s.heap [] := va_S.rf
  generalize hargs : ([.ref (gAd G 29 0), .int (iI v1), .int (iI v2)] : List Value).toArray = args at X ⊢
  clear hargs
  unfold f_X12_opensOne at hf
  refine lv_iconst X.1 X.2.1 dX12_opensOne_0 (v := iI 0) rfl ?_
  refine g_istore_n X (lv' := [(3, .int (iI 0)), (0, .ref (gAd G 29 0)), (1, .int (iI v1)), (2, .int (iI v2))]) dX12_opensOne_1 rfl hl (by decide) rfl (fun ls hl => ?_)
  refine lv_iconst X.1 X.2.1 dX12_opensOne_2 (v := iI 0) rfl ?_
  refine g_istore X (lv' := [(4, .int (iI 0)), (3, .int (iI 0)), (0, .ref (gAd G 29 0)), (1, .int (iI v1)), (2, .int (iI v2))]) dX12_opensOne_3 hl (by decide) rfl (fun ls hl => ?_)
  refine lv_iconst X.1 X.2.1 dX12_opensOne_5 (v := iI 0) rfl ?_
  refine g_istore X (lv' := [(5, .int (iI 0)), (4, .int (iI 0)), (3, .int (iI 0)), (0, .ref (gAd G 29 0)), (1, .int (iI v1)), (2, .int (iI v2))]) dX12_opensOne_6 hl (by decide) rfl (fun ls hl => ?_)
  refine w_X12_opensOne_L8 X _ v1 nv1 v2 nv2 M q ?_ 64 0 (by decide) 0 (by decide) 0 (nmI_l (by decide)) hf _ _ _ hH hS (gLv_sub hl [3, 4, 5, 2, 1, 0] rfl)
  · intro y3_8_113 by3_8_113 y4_8_113 by4_8_113 hf H locs ls hH hS hl
    refine lv_iload_n X.1 X.2.1 dX12_opensOne_113 rfl (lv_at hl.1 2 rfl) ?_
    refine g_if_eq X (nmI_b by3_8_113) (tgt := 118) dX12_opensOne_114 (by decide) (fun hc114 => ?_) (fun hc114 => ?_)
    · replace hf := it_t hf hc114
      refine lv_iload X.1 X.2.1 dX12_opensOne_118 (lv_at hl.1 3 rfl) ?_
      obtain ⟨k132, ek132, hf_⟩ := oj_e hf; clear hf; have hf := hf_; clear hf_
      have hk132 : ∀ (xs0_132 : Int) (nxs0_132 : nmI xs0_132), k132 xs0_132 = some q → ∀ (H : Heap) (locs : List Loc) (ls : Array Slot), gH G M H → va_S (gA G) s.heap H locs → gLv ls 8 [(0, .ref (gAd G 29 0)), (2, .int (iI v2)), (4, .int (iI y4_8_113))] → W p l e { frames := 4, cells := 0, slots := 0, locals := 96 } s m args below meth c H locs 0 0 (MQ below (gQv G q) args s 0 0 (gA G)) (F0 m 132 ls [.int (iI xs0_132)]) := by
        intro xs0_132 nxs0_132 hf H locs ls hH hS hl
        subst ek132
        refine g_istore X (lv' := [(5, .int (iI xs0_132)), (0, .ref (gAd G 29 0)), (2, .int (iI v2)), (4, .int (iI y4_8_113))]) dX12_opensOne_132 hl (by decide) rfl (fun ls hl => ?_)
        refine lv_iload X.1 X.2.1 dX12_opensOne_134 (lv_at hl.1 0 rfl) ?_
        refine lv_iconst X.1 X.2.1 dX12_opensOne_136 (v := iI (-1)) rfl ?_
        refine g_icmp_eq X nxs0_132 (nmI_l (by decide)) (tgt := 186) dX12_opensOne_137 (by decide) (fun hc137 => ?_) (fun hc137 => ?_)
        · replace hf := it_t hf hc137
          refine lv_aload_n X.1 X.2.1 dX12_opensOne_186 rfl (lv_at hl.1 1 rfl) ?_
          refine g_get X cX12 hH (r := 29) (i := 0) (by decide) rfl 38 (by decide) k_439 rfl (v := .ref (gAd G 60 0)) rfl dX12_opensOne_187 ?_
          refine lv_iload_n X.1 X.2.1 dX12_opensOne_190 rfl (lv_at hl.1 2 rfl) ?_
          refine lv_iload X.1 X.2.1 dX12_opensOne_191 (lv_at hl.1 3 rfl) ?_
          obtain ⟨k201, ek201, hf_⟩ := oj_e hf; clear hf; have hf := hf_; clear hf_
          have hk201 : ∀ (xs2_201 : Int) (nxs2_201 : nmI xs2_201), k201 xs2_201 = some q → ∀ (H : Heap) (locs : List Loc) (ls : Array Slot), gH G M H → va_S (gA G) s.heap H locs → gLv ls 8 [(0, .ref (gAd G 29 0)), (2, .int (iI v2))] → W p l e { frames := 4, cells := 0, slots := 0, locals := 96 } s m args below meth c H locs 0 0 (MQ below (gQv G q) args s 0 0 (gA G)) (F0 m 201 ls [.int (iI xs2_201), .int (iI v2), .ref (gAd G 60 0)]) := by
            intro xs2_201 nxs2_201 hf H locs ls hH hS hl
            subst ek201
            obtain ⟨hg, hf_⟩ := og_e hf; clear hf; have hf := hf_; clear hf_
            refine g_iast X hH hS (r := 60) (i := 0) (by decide) (fun _ => rfl) nv2 hg nxs2_201 rfl (by decide) dX12_opensOne_201 (fun H locs hH hS => ?_)
            refine lv_aload_n X.1 X.2.1 dX12_opensOne_202 rfl (lv_at hl.1 0 rfl) ?_
            refine g_get X cX12 hH (r := 29) (i := 0) (by decide) rfl 41 (by decide) k_442 rfl (v := .ref (gAd G 63 0)) rfl dX12_opensOne_203 ?_
            refine lv_iload_n X.1 X.2.1 dX12_opensOne_206 rfl (lv_at hl.1 1 rfl) ?_
            refine lv_iconst X.1 X.2.1 dX12_opensOne_207 (v := iI 0) rfl ?_
            obtain ⟨hg, hf_⟩ := og_e hf; clear hf; have hf := hf_; clear hf_
            refine g_iast X hH hS (r := 63) (i := 0) (by decide) (fun _ => rfl) nv2 hg (nmI_l (by decide)) rfl (by decide) dX12_opensOne_208 (fun H locs hH hS => ?_)
            have hq := Option.some.inj hf; subst hq
            exact gRetV X hH hS dX12_opensOne_209
          clear ek201
          refine g_if_eq X (nmI_b by4_8_113) (tgt := 200) dX12_opensOne_193 (by decide) (fun hc193 => ?_) (fun hc193 => ?_)
          · replace hf := it_t hf hc193
            refine lv_iconst X.1 X.2.1 dX12_opensOne_200 (v := iI 1) rfl ?_
            exact hk201 1 (nmI_l (by decide)) hf _ _ _ hH hS (gLv_sub hl [1, 2] rfl)
          · replace hf := it_f hf hc193
            refine lv_iconst X.1 X.2.1 dX12_opensOne_196 (v := iI 5) rfl ?_
            refine lv_goto (tgt := 201) X.1 X.2.1 dX12_opensOne_197 (by decide) ?_
            exact hk201 5 (nmI_l (by decide)) hf _ _ _ hH hS (gLv_sub hl [1, 2] rfl)
        · replace hf := it_f hf hc137
          refine lv_aload_n X.1 X.2.1 dX12_opensOne_140 rfl (lv_at hl.1 1 rfl) ?_
          refine g_get X cX12 hH (r := 29) (i := 0) (by decide) rfl 38 (by decide) k_439 rfl (v := .ref (gAd G 60 0)) rfl dX12_opensOne_141 ?_
          refine lv_iload_n X.1 X.2.1 dX12_opensOne_144 rfl (lv_at hl.1 2 rfl) ?_
          refine lv_iconst X.1 X.2.1 dX12_opensOne_145 (v := iI 3) rfl ?_
          obtain ⟨hg, hf_⟩ := og_e hf; clear hf; have hf := hf_; clear hf_
          refine g_iast X hH hS (r := 60) (i := 0) (by decide) (fun _ => rfl) nv2 hg (nmI_l (by decide)) rfl (by decide) dX12_opensOne_146 (fun H locs hH hS => ?_)
          refine lv_aload_n X.1 X.2.1 dX12_opensOne_147 rfl (lv_at hl.1 1 rfl) ?_
          refine g_get X cX12 hH (r := 29) (i := 0) (by decide) rfl 39 (by decide) k_440 rfl (v := .ref (gAd G 61 0)) rfl dX12_opensOne_148 ?_
          refine lv_iload_n X.1 X.2.1 dX12_opensOne_151 rfl (lv_at hl.1 2 rfl) ?_
          refine lv_aload_n X.1 X.2.1 dX12_opensOne_152 rfl (lv_at hl.1 1 rfl) ?_
          refine g_get X cX12 hH (r := 29) (i := 0) (by decide) rfl 25 (by decide) k_426 rfl (v := .ref (gAd G 49 0)) rfl dX12_opensOne_153 ?_
          refine lv_iload X.1 X.2.1 dX12_opensOne_156 (lv_at hl.1 0 rfl) ?_
          obtain ⟨hg, hf_⟩ := og_e hf; clear hf; have hf := hf_; clear hf_
          have nd158 : nmI ((gU M 60 0 v2.toNat 3) 49 0 xs0_132.toNat) := hH.1.1 _ _ _
          refine g_iald X hH (r := 49) (i := 0) (by decide) rfl nxs0_132 hg (v := (gU M 60 0 v2.toNat 3) 49 0 xs0_132.toNat) rfl dX12_opensOne_158 ?_
          obtain ⟨hg, hf_⟩ := og_e hf; clear hf; have hf := hf_; clear hf_
          refine g_iast X hH hS (r := 61) (i := 0) (by decide) (fun _ => rfl) nv2 hg nd158 rfl (by decide) dX12_opensOne_159 (fun H locs hH hS => ?_)
          refine lv_aload_n X.1 X.2.1 dX12_opensOne_160 rfl (lv_at hl.1 1 rfl) ?_
          refine g_get X cX12 hH (r := 29) (i := 0) (by decide) rfl 40 (by decide) k_441 rfl (v := .ref (gAd G 62 0)) rfl dX12_opensOne_161 ?_
          refine lv_iload_n X.1 X.2.1 dX12_opensOne_164 rfl (lv_at hl.1 2 rfl) ?_
          refine lv_aload_n X.1 X.2.1 dX12_opensOne_165 rfl (lv_at hl.1 1 rfl) ?_
          refine g_get X cX12 hH (r := 29) (i := 0) (by decide) rfl 26 (by decide) k_427 rfl (v := .ref (gAd G 50 0)) rfl dX12_opensOne_166 ?_
          refine lv_iload X.1 X.2.1 dX12_opensOne_169 (lv_at hl.1 0 rfl) ?_
          obtain ⟨hg, hf_⟩ := og_e hf; clear hf; have hf := hf_; clear hf_
          have nd171 : nmI ((gU (gU M 60 0 v2.toNat 3) 61 0 v2.toNat ((gU M 60 0 v2.toNat 3) 49 0 xs0_132.toNat)) 50 0 xs0_132.toNat) := hH.1.1 _ _ _
          refine g_iald X hH (r := 50) (i := 0) (by decide) rfl nxs0_132 hg (v := (gU (gU M 60 0 v2.toNat 3) 61 0 v2.toNat ((gU M 60 0 v2.toNat 3) 49 0 xs0_132.toNat)) 50 0 xs0_132.toNat) rfl dX12_opensOne_171 ?_
          obtain ⟨hg, hf_⟩ := og_e hf; clear hf; have hf := hf_; clear hf_
          refine g_iast X hH hS (r := 62) (i := 0) (by decide) (fun _ => rfl) nv2 hg nd171 rfl (by decide) dX12_opensOne_172 (fun H locs hH hS => ?_)
          refine lv_aload_n X.1 X.2.1 dX12_opensOne_173 rfl (lv_at hl.1 1 rfl) ?_
          refine g_get X cX12 hH (r := 29) (i := 0) (by decide) rfl 47 (by decide) k_448 rfl (v := .ref (gAd G 68 0)) rfl dX12_opensOne_174 ?_
          refine lv_iconst X.1 X.2.1 dX12_opensOne_177 (v := iI 1) rfl ?_
          refine lv_dup2_11 X.1 X.2.1 dX12_opensOne_178 rfl rfl ?_
          obtain ⟨hg, hf_⟩ := og_e hf; clear hf; have hf := hf_; clear hf_
          have nd179 : nmI ((gU (gU (gU M 60 0 v2.toNat 3) 61 0 v2.toNat ((gU M 60 0 v2.toNat 3) 49 0 xs0_132.toNat)) 62 0 v2.toNat ((gU (gU M 60 0 v2.toNat 3) 61 0 v2.toNat ((gU M 60 0 v2.toNat 3) 49 0 xs0_132.toNat)) 50 0 xs0_132.toNat)) 68 0 1) := hH.1.1 _ _ _
          refine g_iald X hH (r := 68) (i := 0) (by decide) rfl (nmI_l (by decide)) hg (v := (gU (gU (gU M 60 0 v2.toNat 3) 61 0 v2.toNat ((gU M 60 0 v2.toNat 3) 49 0 xs0_132.toNat)) 62 0 v2.toNat ((gU (gU M 60 0 v2.toNat 3) 61 0 v2.toNat ((gU M 60 0 v2.toNat 3) 49 0 xs0_132.toNat)) 50 0 xs0_132.toNat)) 68 0 1) rfl dX12_opensOne_179 ?_
          refine lv_iconst X.1 X.2.1 dX12_opensOne_180 (v := iI 1) rfl ?_
          refine g_iadd X dX12_opensOne_181 ?_
          obtain ⟨hg, hf_⟩ := og_e hf; clear hf; have hf := hf_; clear hf_
          refine g_iast X hH hS (r := 68) (i := 0) (by decide) (fun _ => rfl) (nmI_l (by decide)) hg (nmI_w _) rfl (by decide) dX12_opensOne_182 (fun H locs hH hS => ?_)
          refine lv_goto (tgt := 209) X.1 X.2.1 dX12_opensOne_183 (by decide) ?_
          have hq := Option.some.inj hf; subst hq
          exact gRetV X hH hS dX12_opensOne_209
      clear ek132
      refine g_if_eq X (nmI_b by4_8_113) (tgt := 127) dX12_opensOne_120 (by decide) (fun hc120 => ?_) (fun hc120 => ?_)
      · replace hf := it_t hf hc120
        refine lv_aload_n X.1 X.2.1 dX12_opensOne_127 rfl (lv_at hl.1 0 rfl) ?_
        refine lv_iload_n X.1 X.2.1 dX12_opensOne_128 rfl (lv_at hl.1 1 rfl) ?_
        obtain ⟨r129, hq129, hf_⟩ := ob_e hf; clear hf; have hf := hf_; clear hf_
        refine gGoI (gRunV X hH (As := [.int (iI v2)]) (m_X12_hit l G v2 nv2 M _ hq129) calX12_hit k_991 k_1115 k_489 (by decide) cX12 rfl ⟨by decide, by decide⟩ rfl hl rfl (Nat.le_of_ble_eq_true rfl) ⟨Nat.le_refl 0, Nat.le_refl 0⟩ dX12_opensOne_129) hS (fun H locs nr129 hH hS => ?_)
        exact hk132 r129 nr129 hf _ _ _ hH hS (gLv_sub hl [0, 1, 3] rfl)
      · replace hf := it_f hf hc120
        refine lv_iconst X.1 X.2.1 dX12_opensOne_123 (v := iI (-1)) rfl ?_
        refine lv_goto (tgt := 132) X.1 X.2.1 dX12_opensOne_124 (by decide) ?_
        exact hk132 ((-1)) (nmI_l (by decide)) hf _ _ _ hH hS (gLv_sub hl [0, 1, 3] rfl)
    · replace hf := it_f hf hc114
      have hq := Option.some.inj hf; subst hq
      exact gRetV X hH hS dX12_opensOne_117
theorem w_X12_opens_L17 {G : gG} {p : Program} {l : Launch} {e : Env} {s : State} {m : MethodId} {args : Array Value} {below : List Frame} {meth : Method} {c : Code} (X : gX G p s m args meth c RX12 cX12_opens 4 none (gWs yX12_opens cX12_opens 4 none)) (k86 : gM → Option gM) (z1 : Int) (nz1 : nmI z1) (q : gM) (hk86 : ∀  (M : gM), k86 M = some q → ∀ (H : Heap) (locs : List Loc) (ls : Array Slot), gH G M H → va_S (gA G) s.heap H locs → gLv ls 4 [(0, .ref (gAd G 29 0)), (1, .int (iI z1))] → W p l e { frames := 5, cells := 0, slots := 0, locals := 123 } s m args below meth c H locs 0 0 (MQ below (gQv G q) args s 0 0 (gA G)) (F0 m 86 ls [])) : ∀ (n : Nat) (x2 : Int) (nx2 : nmI x2) (M : gM), f_X12_opens_L17 k86 z1 n x2 M = some q → ∀ (H : Heap) (locs : List Loc) (ls : Array Slot), gH G M H → va_S (gA G) s.heap H locs → gLv ls 4 [(0, .ref (gAd G 29 0)), (1, .int (iI z1)), (2, .int (iI x2))] → W p l e { frames := 5, cells := 0, slots := 0, locals := 123 } s m args below meth c H locs 0 0 (MQ below (gQv G q) args s 0 0 (gA G)) (F0 m 17 ls []) := by
  intro n
  induction n with
  | zero =>
    intro x2 nx2 M hf
    cases hf
  | succ n ih =>
    intro x2 nx2 M hf H locs ls hH hS hl
    rw [f_X12_opens_L17] at hf
    refine lv_iload_n X.1 X.2.1 dX12_opens_17 rfl (lv_at hl.1 2 rfl) ?_
    refine lv_aload_n X.1 X.2.1 dX12_opens_18 rfl (lv_at hl.1 0 rfl) ?_
    refine g_get X cX12 hH (r := 29) (i := 0) (by decide) rfl 11 (by decide) k_412 rfl (v := .ref (gAd G 38 0)) rfl dX12_opens_19 ?_
    refine lv_iload_n X.1 X.2.1 dX12_opens_22 rfl (lv_at hl.1 1 rfl) ?_
    obtain ⟨hg, hf_⟩ := og_e hf; clear hf; have hf := hf_; clear hf_
    have nd23 : nmI (M 38 0 z1.toNat) := hH.1.1 _ _ _
    refine g_iald X hH (r := 38) (i := 0) (by decide) rfl nz1 hg (v := M 38 0 z1.toNat) rfl dX12_opens_23 ?_
    refine g_icmp_ge X nx2 nd23 (tgt := 86) dX12_opens_24 (by decide) (fun hc24 => ?_) (fun hc24 => ?_)
    · replace hf := it_f hf hc24
      exact hk86 M hf _ _ _ hH hS (gLv_sub hl [0, 1] rfl)
    · replace hf := it_t hf hc24
      refine lv_aload_n X.1 X.2.1 dX12_opens_27 rfl (lv_at hl.1 0 rfl) ?_
      refine lv_iload_n X.1 X.2.1 dX12_opens_28 rfl (lv_at hl.1 1 rfl) ?_
      refine gGoZ (gRunV X hH (As := [.int (iI z1)]) (m_X12_isNeeded l G z1 nz1 M _ rfl) calX12_isNeeded k_985 k_1112 k_486 (by decide) cX12 rfl ⟨by decide, by decide⟩ rfl hl rfl (Nat.le_of_ble_eq_true rfl) ⟨Nat.le_refl 0, Nat.le_refl 0⟩ dX12_opens_29) hS (fun H locs br29 hH hS => ?_)
      refine g_if_eq X (nmI_b br29) (tgt := 86) dX12_opens_32 (by decide) (fun hc32 => ?_) (fun hc32 => ?_)
      · replace hf := it_t hf hc32
        exact hk86 M hf _ _ _ hH hS (gLv_sub hl [0, 1] rfl)
      · replace hf := it_f hf hc32
        refine lv_iconst X.1 X.2.1 dX12_opens_35 (v := iI 4) rfl ?_
        refine lv_iload_n X.1 X.2.1 dX12_opens_36 rfl (lv_at hl.1 1 rfl) ?_
        refine g_imul X dX12_opens_37 ?_
        refine lv_iload_n X.1 X.2.1 dX12_opens_38 rfl (lv_at hl.1 2 rfl) ?_
        refine g_iadd X dX12_opens_39 ?_
        refine g_istore_n X (lv' := [(3, .int (iI (wI ((wI (4 * z1)) + x2)))), (0, .ref (gAd G 29 0)), (1, .int (iI z1)), (2, .int (iI x2))]) dX12_opens_40 rfl hl (by decide) rfl (fun ls hl => ?_)
        refine lv_aload_n X.1 X.2.1 dX12_opens_41 rfl (lv_at hl.1 1 rfl) ?_
        refine g_get X cX12 hH (r := 29) (i := 0) (by decide) rfl 38 (by decide) k_439 rfl (v := .ref (gAd G 60 0)) rfl dX12_opens_42 ?_
        refine lv_iload_n X.1 X.2.1 dX12_opens_45 rfl (lv_at hl.1 0 rfl) ?_
        obtain ⟨hg, hf_⟩ := og_e hf; clear hf; have hf := hf_; clear hf_
        have nd46 : nmI (M 60 0 (wI ((wI (4 * z1)) + x2)).toNat) := hH.1.1 _ _ _
        refine g_iald X hH (r := 60) (i := 0) (by decide) rfl (nmI_w _) hg (v := M 60 0 (wI ((wI (4 * z1)) + x2)).toNat) rfl dX12_opens_46 ?_
        obtain ⟨k56, ek56, hf_⟩ := oj_e hf; clear hf; have hf := hf_; clear hf_
        have hk56 : ∀  (M_56 : gM), k56 M_56 = some q → ∀ (H : Heap) (locs : List Loc) (ls : Array Slot), gH G M_56 H → va_S (gA G) s.heap H locs → gLv ls 4 [(0, .ref (gAd G 29 0)), (1, .int (iI z1)), (2, .int (iI x2)), (3, .int (iI (wI ((wI (4 * z1)) + x2))))] → W p l e { frames := 5, cells := 0, slots := 0, locals := 123 } s m args below meth c H locs 0 0 (MQ below (gQv G q) args s 0 0 (gA G)) (F0 m 56 ls []) := by
          intro  M_56 hf H locs ls hH hS hl
          subst ek56
          refine lv_aload_n X.1 X.2.1 dX12_opens_56 rfl (lv_at hl.1 0 rfl) ?_
          refine lv_dup X.1 X.2.1 dX12_opens_57 rfl ?_
          have nd58 : nmI (M_56 29 0 36) := hH.1.1 _ _ _
          have bd58 := hH.1.2.1 29 0 36 rfl
          refine g_get X cX12 hH (r := 29) (i := 0) (by decide) rfl 36 (by decide) k_437 rfl (v := .int (iI (M_56 29 0 36))) rfl dX12_opens_58 ?_
          refine lv_aload_n X.1 X.2.1 dX12_opens_61 rfl (lv_at hl.1 0 rfl) ?_
          refine g_get X cX12 hH (r := 29) (i := 0) (by decide) rfl 38 (by decide) k_439 rfl (v := .ref (gAd G 60 0)) rfl dX12_opens_62 ?_
          refine lv_iload_n X.1 X.2.1 dX12_opens_65 rfl (lv_at hl.1 3 rfl) ?_
          obtain ⟨hg, hf_⟩ := og_e hf; clear hf; have hf := hf_; clear hf_
          have nd66 : nmI (M_56 60 0 (wI ((wI (4 * z1)) + x2)).toNat) := hH.1.1 _ _ _
          refine g_iald X hH (r := 60) (i := 0) (by decide) rfl (nmI_w _) hg (v := M_56 60 0 (wI ((wI (4 * z1)) + x2)).toNat) rfl dX12_opens_66 ?_
          refine lv_iconst X.1 X.2.1 dX12_opens_67 (v := iI 3) rfl ?_
          obtain ⟨k76, ek76, hf_⟩ := oj_e hf; clear hf; have hf := hf_; clear hf_
          have hk76 : ∀ (xs2_76 : Int) (bxs2_76 : xs2_76 = 0 ∨ xs2_76 = 1), k76 xs2_76 = some q → ∀ (H : Heap) (locs : List Loc) (ls : Array Slot), gH G M_56 H → va_S (gA G) s.heap H locs → gLv ls 4 [(0, .ref (gAd G 29 0)), (1, .int (iI z1)), (2, .int (iI x2))] → W p l e { frames := 5, cells := 0, slots := 0, locals := 123 } s m args below meth c H locs 0 0 (MQ below (gQv G q) args s 0 0 (gA G)) (F0 m 76 ls [.int (iI xs2_76), .int (iI (M_56 29 0 36)), .ref (gAd G 29 0)]) := by
            intro xs2_76 bxs2_76 hf H locs ls hH hS hl
            subst ek76
            refine g_ior X dX12_opens_76 ?_
            refine g_putZ X cX12 hH hS (r := 29) (i := 0) (by decide) rfl 36 (by decide) k_437 rfl rfl rfl (Nat.le_of_ble_eq_true rfl) (x := gOr (M_56 29 0 36) xs2_76) (b01_or bd58 bxs2_76) rfl dX12_opens_77 (fun H locs hH hS => ?_)
            refine g_iinc X (a := x2) (lv' := [(2, .int (iI (wI (x2 + 1)))), (0, .ref (gAd G 29 0)), (1, .int (iI z1))]) dX12_opens_80 hl (k := 2) rfl (by decide) rfl (fun ls hl => ?_)
            refine lv_goto (tgt := 17) X.1 X.2.1 dX12_opens_83 (by decide) ?_
            exact ih (wI (x2 + 1)) (nmI_w _) (gU M_56 29 0 36 (gOr (M_56 29 0 36) xs2_76)) hf _ _ _ hH hS (gLv_sub hl [1, 2, 0] rfl)
          clear ek76
          refine g_icmp_ge X nd66 (nmI_l (by decide)) (tgt := 75) dX12_opens_68 (by decide) (fun hc68 => ?_) (fun hc68 => ?_)
          · replace hf := it_f hf hc68
            refine lv_iconst X.1 X.2.1 dX12_opens_75 (v := iI 0) rfl ?_
            exact hk76 0 (by decide) hf _ _ _ hH hS (gLv_sub hl [0, 1, 2] rfl)
          · replace hf := it_t hf hc68
            refine lv_iconst X.1 X.2.1 dX12_opens_71 (v := iI 1) rfl ?_
            refine lv_goto (tgt := 76) X.1 X.2.1 dX12_opens_72 (by decide) ?_
            exact hk76 1 (by decide) hf _ _ _ hH hS (gLv_sub hl [0, 1, 2] rfl)
        clear ek56
        refine g_if_ne X nd46 (tgt := 56) dX12_opens_47 (by decide) (fun hc47 => ?_) (fun hc47 => ?_)
        · replace hf := it_f hf hc47
          exact hk56 M hf _ _ _ hH hS (gLv_sub hl [1, 2, 3, 0] rfl)
        · replace hf := it_t hf hc47
          refine lv_aload_n X.1 X.2.1 dX12_opens_50 rfl (lv_at hl.1 1 rfl) ?_
          refine lv_iload_n X.1 X.2.1 dX12_opens_51 rfl (lv_at hl.1 2 rfl) ?_
          refine lv_iload_n X.1 X.2.1 dX12_opens_52 rfl (lv_at hl.1 0 rfl) ?_
          obtain ⟨r53, hq53, hf_⟩ := ob_e hf; clear hf; have hf := hf_; clear hf_
          refine gGoV (gRunV X hH (As := [.int (iI z1), .int (iI (wI ((wI (4 * z1)) + x2)))]) (m_X12_opensOne l G z1 nz1 (wI ((wI (4 * z1)) + x2)) (nmI_w _) M _ hq53) calX12_opensOne k_989 k_1114 k_488 (by decide) cX12 rfl ⟨by decide, by decide⟩ rfl hl rfl (Nat.le_of_ble_eq_true rfl) ⟨Nat.le_refl 0, Nat.le_refl 0⟩ dX12_opens_53) hS (fun H locs hH hS => ?_)
          exact hk56 r53 hf _ _ _ hH hS (gLv_sub hl [1, 2, 3, 0] rfl)
theorem w_X12_opens_L7 {G : gG} {p : Program} {l : Launch} {e : Env} {s : State} {m : MethodId} {args : Array Value} {below : List Frame} {meth : Method} {c : Code} (X : gX G p s m args meth c RX12 cX12_opens 4 none (gWs yX12_opens cX12_opens 4 none)) (k92 : gM → Option gM) (q : gM) (hk92 : ∀  (M : gM), k92 M = some q → ∀ (H : Heap) (locs : List Loc) (ls : Array Slot), gH G M H → va_S (gA G) s.heap H locs → gLv ls 4 [] → W p l e { frames := 5, cells := 0, slots := 0, locals := 123 } s m args below meth c H locs 0 0 (MQ below (gQv G q) args s 0 0 (gA G)) (F0 m 92 ls [])) : ∀ (n : Nat) (x1 : Int) (nx1 : nmI x1) (M : gM), f_X12_opens_L7 k92 n x1 M = some q → ∀ (H : Heap) (locs : List Loc) (ls : Array Slot), gH G M H → va_S (gA G) s.heap H locs → gLv ls 4 [(0, .ref (gAd G 29 0)), (1, .int (iI x1))] → W p l e { frames := 5, cells := 0, slots := 0, locals := 123 } s m args below meth c H locs 0 0 (MQ below (gQv G q) args s 0 0 (gA G)) (F0 m 7 ls []) := by
  intro n
  induction n with
  | zero =>
    intro x1 nx1 M hf
    cases hf
  | succ n ih =>
    intro x1 nx1 M hf H locs ls hH hS hl
    rw [f_X12_opens_L7] at hf
    refine lv_iload_n X.1 X.2.1 dX12_opens_7 rfl (lv_at hl.1 1 rfl) ?_
    refine lv_aload_n X.1 X.2.1 dX12_opens_8 rfl (lv_at hl.1 0 rfl) ?_
    have nd9 : nmI (M 29 0 7) := hH.1.1 _ _ _
    refine g_get X cX12 hH (r := 29) (i := 0) (by decide) rfl 7 (by decide) k_408 rfl (v := .int (iI (M 29 0 7))) rfl dX12_opens_9 ?_
    refine g_icmp_ge X nx1 nd9 (tgt := 92) dX12_opens_12 (by decide) (fun hc12 => ?_) (fun hc12 => ?_)
    · replace hf := it_f hf hc12
      exact hk92 M hf _ _ _ hH hS (gLv_sub hl [] rfl)
    · replace hf := it_t hf hc12
      refine lv_iconst X.1 X.2.1 dX12_opens_15 (v := iI 0) rfl ?_
      refine g_istore_n X (lv' := [(2, .int (iI 0)), (0, .ref (gAd G 29 0)), (1, .int (iI x1))]) dX12_opens_16 rfl hl (by decide) rfl (fun ls hl => ?_)
      refine w_X12_opens_L17 X _ x1 nx1 q ?_ 64 0 (nmI_l (by decide)) M hf _ _ _ hH hS (gLv_sub hl [1, 2, 0] rfl)
      · intro  M_17_86 hf H locs ls hH hS hl
        refine g_iinc X (a := x1) (lv' := [(1, .int (iI (wI (x1 + 1)))), (0, .ref (gAd G 29 0))]) dX12_opens_86 hl (k := 1) rfl (by decide) rfl (fun ls hl => ?_)
        refine lv_goto (tgt := 7) X.1 X.2.1 dX12_opens_89 (by decide) ?_
        exact ih (wI (x1 + 1)) (nmI_w _) M_17_86 hf _ _ _ hH hS (gLv_sub hl [1, 0] rfl)
theorem m_X12_opens (l : Launch) (G : gG)  (M : gM) (q : gM) (hf : f_X12_opens M = some q) : gMet l yX12_opens cX12_opens 4 none 5 123 G M [.ref (gAd G 29 0)] (gQv G q) := by
  refine gOfW (by decide) (by show _ ≤ 4; exact Nat.le_of_ble_eq_true rfl) rfl ?_
  intro p e s m below meth c X hH ls hl
  replace hl : gLv ls 4 [(0, .ref (gAd G 29 0))] := hl
  have hS : va_S (gA G) s.heap s.heap [] := va_S.rf
  generalize hargs : ([.ref (gAd G 29 0)] : List Value).toArray = args at X ⊢
  clear hargs
  unfold f_X12_opens at hf
  refine lv_aload_n X.1 X.2.1 dX12_opens_0 rfl (lv_at hl.1 0 rfl) ?_
  refine lv_iconst X.1 X.2.1 dX12_opens_1 (v := iI 0) rfl ?_
  refine g_putZ X cX12 hH hS (r := 29) (i := 0) (by decide) rfl 36 (by decide) k_437 rfl rfl rfl (Nat.le_of_ble_eq_true rfl) (x := 0) (by decide) rfl dX12_opens_2 (fun H locs hH hS => ?_)
  refine lv_iconst X.1 X.2.1 dX12_opens_5 (v := iI 0) rfl ?_
  refine g_istore_n X (lv' := [(1, .int (iI 0)), (0, .ref (gAd G 29 0))]) dX12_opens_6 rfl hl (by decide) rfl (fun ls hl => ?_)
  refine w_X12_opens_L7 X _  q ?_ 64 0 (nmI_l (by decide)) (gU M 29 0 36 0) hf _ _ _ hH hS (gLv_sub hl [1, 0] rfl)
  · intro  M_7_92 hf H locs ls hH hS hl
    have hq := Option.some.inj hf; subst hq
    exact gRetV X hH hS dX12_opens_92
theorem w_X12_build_L69 {G : gG} {p : Program} {l : Launch} {e : Env} {s : State} {m : MethodId} {args : Array Value} {below : List Frame} {meth : Method} {c : Code} (X : gX G p s m args meth c RX12 cX12_build 6 (some .int) (gWs yX12_build cX12_build 6 (some .int))) (k140 : Int → gM → Option (Int × gM)) (z3 : Int) (nz3 : nmI z3) (q : (Int × gM)) (hk140 : ∀ (x2 : Int) (nx2 : nmI x2) (M : gM), k140 x2 M = some q → ∀ (H : Heap) (locs : List Loc) (ls : Array Slot), gH G M H → va_S (gA G) s.heap H locs → gLv ls 6 [(0, .ref (gAd G 29 0)), (2, .int (iI x2)), (3, .int (iI z3))] → W p l e { frames := 6, cells := 0, slots := 0, locals := 146 } s m args below meth c H locs 0 0 (MQ below (gQi G q.1 q.2) args s 0 0 (gA G)) (F0 m 140 ls [])) : ∀ (n : Nat) (x2 : Int) (nx2 : nmI x2) (x4 : Int) (nx4 : nmI x4) (M : gM), f_X12_build_L69 k140 z3 n x2 x4 M = some q → ∀ (H : Heap) (locs : List Loc) (ls : Array Slot), gH G M H → va_S (gA G) s.heap H locs → gLv ls 6 [(0, .ref (gAd G 29 0)), (2, .int (iI x2)), (3, .int (iI z3)), (4, .int (iI x4))] → W p l e { frames := 6, cells := 0, slots := 0, locals := 146 } s m args below meth c H locs 0 0 (MQ below (gQi G q.1 q.2) args s 0 0 (gA G)) (F0 m 69 ls []) := by
  intro n
  induction n with
  | zero =>
    intro x2 nx2 x4 nx4 M hf
    cases hf
  | succ n ih =>
    intro x2 nx2 x4 nx4 M hf H locs ls hH hS hl
    rw [f_X12_build_L69] at hf
    refine lv_iload X.1 X.2.1 dX12_build_69 (lv_at hl.1 3 rfl) ?_
    refine lv_iconst X.1 X.2.1 dX12_build_71 (v := iI 4) rfl ?_
    refine g_icmp_ge X nx4 (nmI_l (by decide)) (tgt := 140) dX12_build_72 (by decide) (fun hc72 => ?_) (fun hc72 => ?_)
    · replace hf := it_f hf hc72
      exact hk140 x2 nx2 M hf _ _ _ hH hS (gLv_sub hl [0, 1, 2] rfl)
    · replace hf := it_t hf hc72
      refine lv_iconst X.1 X.2.1 dX12_build_75 (v := iI 4) rfl ?_
      refine lv_iload_n X.1 X.2.1 dX12_build_76 rfl (lv_at hl.1 2 rfl) ?_
      refine g_imul X dX12_build_77 ?_
      refine lv_iload X.1 X.2.1 dX12_build_78 (lv_at hl.1 3 rfl) ?_
      refine g_iadd X dX12_build_80 ?_
      refine g_istore X (lv' := [(5, .int (iI (wI ((wI (4 * z3)) + x4)))), (0, .ref (gAd G 29 0)), (2, .int (iI x2)), (3, .int (iI z3)), (4, .int (iI x4))]) dX12_build_81 hl (by decide) rfl (fun ls hl => ?_)
      refine lv_aload_n X.1 X.2.1 dX12_build_83 rfl (lv_at hl.1 1 rfl) ?_
      refine g_get X cX12 hH (r := 29) (i := 0) (by decide) rfl 38 (by decide) k_439 rfl (v := .ref (gAd G 60 0)) rfl dX12_build_84 ?_
      refine lv_iload X.1 X.2.1 dX12_build_87 (lv_at hl.1 0 rfl) ?_
      refine lv_iconst X.1 X.2.1 dX12_build_89 (v := iI 0) rfl ?_
      obtain ⟨hg, hf_⟩ := og_e hf; clear hf; have hf := hf_; clear hf_
      refine g_iast X hH hS (r := 60) (i := 0) (by decide) (fun _ => rfl) (nmI_w _) hg (nmI_l (by decide)) rfl (by decide) dX12_build_90 (fun H locs hH hS => ?_)
      refine lv_aload_n X.1 X.2.1 dX12_build_91 rfl (lv_at hl.1 1 rfl) ?_
      refine g_get X cX12 hH (r := 29) (i := 0) (by decide) rfl 41 (by decide) k_442 rfl (v := .ref (gAd G 63 0)) rfl dX12_build_92 ?_
      refine lv_iload X.1 X.2.1 dX12_build_95 (lv_at hl.1 0 rfl) ?_
      refine lv_iconst X.1 X.2.1 dX12_build_97 (v := iI 0) rfl ?_
      obtain ⟨hg, hf_⟩ := og_e hf; clear hf; have hf := hf_; clear hf_
      refine g_iast X hH hS (r := 63) (i := 0) (by decide) (fun _ => rfl) (nmI_w _) hg (nmI_l (by decide)) rfl (by decide) dX12_build_98 (fun H locs hH hS => ?_)
      refine lv_aload_n X.1 X.2.1 dX12_build_99 rfl (lv_at hl.1 1 rfl) ?_
      refine g_get X cX12 hH (r := 29) (i := 0) (by decide) rfl 42 (by decide) k_443 rfl (v := .ref (gAd G 64 0)) rfl dX12_build_100 ?_
      refine lv_iload X.1 X.2.1 dX12_build_103 (lv_at hl.1 0 rfl) ?_
      refine lv_iconst X.1 X.2.1 dX12_build_105 (v := iI 0) rfl ?_
      obtain ⟨hg, hf_⟩ := og_e hf; clear hf; have hf := hf_; clear hf_
      refine g_zast X hH hS (r := 64) (i := 0) (by decide) (fun _ => rfl) (nmI_w _) hg (by decide) dX12_build_106 (fun H locs hH hS => ?_)
      refine lv_iload_n X.1 X.2.1 dX12_build_107 rfl (lv_at hl.1 2 rfl) ?_
      refine lv_aload_n X.1 X.2.1 dX12_build_108 rfl (lv_at hl.1 1 rfl) ?_
      refine lv_iload_n X.1 X.2.1 dX12_build_109 rfl (lv_at hl.1 3 rfl) ?_
      refine gGoZ (gRunV X hH (As := [.int (iI z3)]) (m_X12_isNeeded l G z3 nz3 (gU (gU (gU M 60 0 (wI ((wI (4 * z3)) + x4)).toNat 0) 63 0 (wI ((wI (4 * z3)) + x4)).toNat 0) 64 0 (wI ((wI (4 * z3)) + x4)).toNat 0) _ rfl) calX12_isNeeded k_985 k_1112 k_486 (by decide) cX12 rfl ⟨by decide, by decide⟩ rfl hl rfl (Nat.le_of_ble_eq_true rfl) ⟨Nat.le_refl 0, Nat.le_refl 0⟩ dX12_build_110) hS (fun H locs br110 hH hS => ?_)
      obtain ⟨k132, ek132, hf_⟩ := oj_e hf; clear hf; have hf := hf_; clear hf_
      have hk132 : ∀ (xs1_132 : Int) (bxs1_132 : xs1_132 = 0 ∨ xs1_132 = 1), k132 xs1_132 = some q → ∀ (H : Heap) (locs : List Loc) (ls : Array Slot), gH G (gU (gU (gU M 60 0 (wI ((wI (4 * z3)) + x4)).toNat 0) 63 0 (wI ((wI (4 * z3)) + x4)).toNat 0) 64 0 (wI ((wI (4 * z3)) + x4)).toNat 0) H → va_S (gA G) s.heap H locs → gLv ls 6 [(0, .ref (gAd G 29 0)), (3, .int (iI z3)), (4, .int (iI x4))] → W p l e { frames := 6, cells := 0, slots := 0, locals := 146 } s m args below meth c H locs 0 0 (MQ below (gQi G q.1 q.2) args s 0 0 (gA G)) (F0 m 132 ls [.int (iI xs1_132), .int (iI x2)]) := by
        intro xs1_132 bxs1_132 hf H locs ls hH hS hl
        subst ek132
        refine g_iadd X dX12_build_132 ?_
        refine g_istore_n X (lv' := [(2, .int (iI (wI (x2 + xs1_132)))), (0, .ref (gAd G 29 0)), (3, .int (iI z3)), (4, .int (iI x4))]) dX12_build_133 rfl hl (by decide) rfl (fun ls hl => ?_)
        refine g_iinc X (a := x4) (lv' := [(4, .int (iI (wI (x4 + 1)))), (2, .int (iI (wI (x2 + xs1_132)))), (0, .ref (gAd G 29 0)), (3, .int (iI z3))]) dX12_build_134 hl (k := 3) rfl (by decide) rfl (fun ls hl => ?_)
        refine lv_goto (tgt := 69) X.1 X.2.1 dX12_build_137 (by decide) ?_
        exact ih (wI (x2 + xs1_132)) (nmI_w _) (wI (x4 + 1)) (nmI_w _) (gU (gU (gU M 60 0 (wI ((wI (4 * z3)) + x4)).toNat 0) 63 0 (wI ((wI (4 * z3)) + x4)).toNat 0) 64 0 (wI ((wI (4 * z3)) + x4)).toNat 0) hf _ _ _ hH hS (gLv_sub hl [2, 1, 3, 0] rfl)
      clear ek132
      obtain ⟨k131, ek131, hf_⟩ := oj_e hf; clear hf; have hf := hf_; clear hf_
      have hk131 : k131 = some q → ∀ (H : Heap) (locs : List Loc) (ls : Array Slot), gH G (gU (gU (gU M 60 0 (wI ((wI (4 * z3)) + x4)).toNat 0) 63 0 (wI ((wI (4 * z3)) + x4)).toNat 0) 64 0 (wI ((wI (4 * z3)) + x4)).toNat 0) H → va_S (gA G) s.heap H locs → gLv ls 6 [(0, .ref (gAd G 29 0)), (3, .int (iI z3)), (4, .int (iI x4))] → W p l e { frames := 6, cells := 0, slots := 0, locals := 146 } s m args below meth c H locs 0 0 (MQ below (gQi G q.1 q.2) args s 0 0 (gA G)) (F0 m 131 ls [.int (iI x2)]) := by
        intro  hf H locs ls hH hS hl
        subst ek131
        refine lv_iconst X.1 X.2.1 dX12_build_131 (v := iI 0) rfl ?_
        exact hk132 0 (by decide) hf _ _ _ hH hS (gLv_sub hl [0, 1, 2] rfl)
      clear ek131
      refine g_if_eq X (nmI_b br110) (tgt := 131) dX12_build_113 (by decide) (fun hc113 => ?_) (fun hc113 => ?_)
      · replace hf := it_t hf hc113
        exact hk131  hf _ _ _ hH hS (gLv_sub hl [1, 3, 4] rfl)
      · replace hf := it_f hf hc113
        refine lv_iload X.1 X.2.1 dX12_build_116 (lv_at hl.1 4 rfl) ?_
        refine lv_aload_n X.1 X.2.1 dX12_build_118 rfl (lv_at hl.1 1 rfl) ?_
        refine g_get X cX12 hH (r := 29) (i := 0) (by decide) rfl 11 (by decide) k_412 rfl (v := .ref (gAd G 38 0)) rfl dX12_build_119 ?_
        refine lv_iload_n X.1 X.2.1 dX12_build_122 rfl (lv_at hl.1 3 rfl) ?_
        obtain ⟨hg, hf_⟩ := og_e hf; clear hf; have hf := hf_; clear hf_
        have nd123 : nmI ((gU (gU (gU M 60 0 (wI ((wI (4 * z3)) + x4)).toNat 0) 63 0 (wI ((wI (4 * z3)) + x4)).toNat 0) 64 0 (wI ((wI (4 * z3)) + x4)).toNat 0) 38 0 z3.toNat) := hH.1.1 _ _ _
        refine g_iald X hH (r := 38) (i := 0) (by decide) rfl nz3 hg (v := (gU (gU (gU M 60 0 (wI ((wI (4 * z3)) + x4)).toNat 0) 63 0 (wI ((wI (4 * z3)) + x4)).toNat 0) 64 0 (wI ((wI (4 * z3)) + x4)).toNat 0) 38 0 z3.toNat) rfl dX12_build_123 ?_
        refine g_icmp_ge X nx4 nd123 (tgt := 131) dX12_build_124 (by decide) (fun hc124 => ?_) (fun hc124 => ?_)
        · replace hf := it_f hf hc124
          exact hk131  hf _ _ _ hH hS (gLv_sub hl [1, 3, 4] rfl)
        · replace hf := it_t hf hc124
          refine lv_iconst X.1 X.2.1 dX12_build_127 (v := iI 1) rfl ?_
          refine lv_goto (tgt := 132) X.1 X.2.1 dX12_build_128 (by decide) ?_
          exact hk132 1 (by decide) hf _ _ _ hH hS (gLv_sub hl [1, 3, 4] rfl)
theorem w_X12_build_L58 {G : gG} {p : Program} {l : Launch} {e : Env} {s : State} {m : MethodId} {args : Array Value} {below : List Frame} {meth : Method} {c : Code} (X : gX G p s m args meth c RX12 cX12_build 6 (some .int) (gWs yX12_build cX12_build 6 (some .int))) (k146 : Int → gM → Option (Int × gM)) (q : (Int × gM)) (hk146 : ∀ (x2 : Int) (nx2 : nmI x2) (M : gM), k146 x2 M = some q → ∀ (H : Heap) (locs : List Loc) (ls : Array Slot), gH G M H → va_S (gA G) s.heap H locs → gLv ls 6 [(0, .ref (gAd G 29 0)), (2, .int (iI x2))] → W p l e { frames := 6, cells := 0, slots := 0, locals := 146 } s m args below meth c H locs 0 0 (MQ below (gQi G q.1 q.2) args s 0 0 (gA G)) (F0 m 146 ls [])) : ∀ (n : Nat) (x2 : Int) (nx2 : nmI x2) (x3 : Int) (nx3 : nmI x3) (M : gM), f_X12_build_L58 k146 n x2 x3 M = some q → ∀ (H : Heap) (locs : List Loc) (ls : Array Slot), gH G M H → va_S (gA G) s.heap H locs → gLv ls 6 [(0, .ref (gAd G 29 0)), (2, .int (iI x2)), (3, .int (iI x3))] → W p l e { frames := 6, cells := 0, slots := 0, locals := 146 } s m args below meth c H locs 0 0 (MQ below (gQi G q.1 q.2) args s 0 0 (gA G)) (F0 m 58 ls []) := by
  intro n
  induction n with
  | zero =>
    intro x2 nx2 x3 nx3 M hf
    cases hf
  | succ n ih =>
    intro x2 nx2 x3 nx3 M hf H locs ls hH hS hl
    rw [f_X12_build_L58] at hf
    refine lv_iload_n X.1 X.2.1 dX12_build_58 rfl (lv_at hl.1 2 rfl) ?_
    refine lv_aload_n X.1 X.2.1 dX12_build_59 rfl (lv_at hl.1 0 rfl) ?_
    have nd60 : nmI (M 29 0 7) := hH.1.1 _ _ _
    refine g_get X cX12 hH (r := 29) (i := 0) (by decide) rfl 7 (by decide) k_408 rfl (v := .int (iI (M 29 0 7))) rfl dX12_build_60 ?_
    refine g_icmp_ge X nx3 nd60 (tgt := 146) dX12_build_63 (by decide) (fun hc63 => ?_) (fun hc63 => ?_)
    · replace hf := it_f hf hc63
      exact hk146 x2 nx2 M hf _ _ _ hH hS (gLv_sub hl [0, 1] rfl)
    · replace hf := it_t hf hc63
      refine lv_iconst X.1 X.2.1 dX12_build_66 (v := iI 0) rfl ?_
      refine g_istore X (lv' := [(4, .int (iI 0)), (0, .ref (gAd G 29 0)), (2, .int (iI x2)), (3, .int (iI x3))]) dX12_build_67 hl (by decide) rfl (fun ls hl => ?_)
      refine w_X12_build_L69 X _ x3 nx3 q ?_ 64 x2 nx2 0 (nmI_l (by decide)) M hf _ _ _ hH hS (gLv_sub hl [1, 2, 3, 0] rfl)
      · intro y2_69_140 ny2_69_140 M_69_140 hf H locs ls hH hS hl
        refine g_iinc X (a := x3) (lv' := [(3, .int (iI (wI (x3 + 1)))), (0, .ref (gAd G 29 0)), (2, .int (iI y2_69_140))]) dX12_build_140 hl (k := 2) rfl (by decide) rfl (fun ls hl => ?_)
        refine lv_goto (tgt := 58) X.1 X.2.1 dX12_build_143 (by decide) ?_
        exact ih y2_69_140 ny2_69_140 (wI (x3 + 1)) (nmI_w _) M_69_140 hf _ _ _ hH hS (gLv_sub hl [1, 2, 0] rfl)
theorem m_X12_build (l : Launch) (G : gG) (v1 : Int) (nv1 : nmI v1) (M : gM) (q : (Int × gM)) (hf : f_X12_build v1 M = some q) : gMet l yX12_build cX12_build 6 (some .int) 6 146 G M [.ref (gAd G 29 0), .int (iI v1)] (gQi G q.1 q.2) := by
  refine gOfW (by decide) (by show _ ≤ 6; exact Nat.le_of_ble_eq_true rfl) rfl ?_
  intro p e s m below meth c X hH ls hl
  replace hl : gLv ls 6 [(0, .ref (gAd G 29 0)), (1, .int (iI v1))] := hl
  have hS : va_S (gA G) s.heap s.heap [] := va_S.rf
  generalize hargs : ([.ref (gAd G 29 0), .int (iI v1)] : List Value).toArray = args at X ⊢
  clear hargs
  unfold f_X12_build at hf
  refine lv_aload_n X.1 X.2.1 dX12_build_0 rfl (lv_at hl.1 0 rfl) ?_
  refine lv_iload_n X.1 X.2.1 dX12_build_1 rfl (lv_at hl.1 1 rfl) ?_
  obtain ⟨k20, ek20, hf_⟩ := oj_e hf; clear hf; have hf := hf_; clear hf_
  have hk20 : ∀ (xs1_20 : Int) (bxs1_20 : xs1_20 = 0 ∨ xs1_20 = 1), k20 xs1_20 = some q → ∀ (H : Heap) (locs : List Loc) (ls : Array Slot), gH G M H → va_S (gA G) s.heap H locs → gLv ls 6 [(0, .ref (gAd G 29 0)), (1, .int (iI v1))] → W p l e { frames := 6, cells := 0, slots := 0, locals := 146 } s m args below meth c H locs 0 0 (MQ below (gQi G q.1 q.2) args s 0 0 (gA G)) (F0 m 20 ls [.int (iI xs1_20), .ref (gAd G 29 0)]) := by
    intro xs1_20 bxs1_20 hf H locs ls hH hS hl
    subst ek20
    refine lv_aload_n X.1 X.2.1 dX12_build_20 rfl (lv_at hl.1 0 rfl) ?_
    have nd21 : nmI (M 29 0 36) := hH.1.1 _ _ _
    have bd21 := hH.1.2.1 29 0 36 rfl
    refine g_get X cX12 hH (r := 29) (i := 0) (by decide) rfl 36 (by decide) k_437 rfl (v := .int (iI (M 29 0 36))) rfl dX12_build_21 ?_
    obtain ⟨k32, ek32, hf_⟩ := oj_e hf; clear hf; have hf := hf_; clear hf_
    have hk32 : ∀ (xs2_32 : Int) (bxs2_32 : xs2_32 = 0 ∨ xs2_32 = 1), k32 xs2_32 = some q → ∀ (H : Heap) (locs : List Loc) (ls : Array Slot), gH G M H → va_S (gA G) s.heap H locs → gLv ls 6 [(0, .ref (gAd G 29 0)), (1, .int (iI v1))] → W p l e { frames := 6, cells := 0, slots := 0, locals := 146 } s m args below meth c H locs 0 0 (MQ below (gQi G q.1 q.2) args s 0 0 (gA G)) (F0 m 32 ls [.int (iI xs2_32), .int (iI xs1_20), .ref (gAd G 29 0)]) := by
      intro xs2_32 bxs2_32 hf H locs ls hH hS hl
      subst ek32
      refine gGoZ (gRunV X hH (As := [.int (iI xs1_20), .int (iI xs2_32)]) (m_X12_asked_ l G xs1_20 bxs1_20 xs2_32 bxs2_32 M _ rfl) calX12_asked_ k_932 k_1103 k_462 (by decide) cX12 rfl ⟨by decide, by decide⟩ rfl hl rfl (Nat.le_of_ble_eq_true rfl) ⟨Nat.le_refl 0, Nat.le_refl 0⟩ dX12_build_32) hS (fun H locs br32 hH hS => ?_)
      refine g_if_ne X (nmI_b br32) (tgt := 40) dX12_build_35 (by decide) (fun hc35 => ?_) (fun hc35 => ?_)
      · replace hf := it_f hf hc35
        refine lv_aload_n X.1 X.2.1 dX12_build_40 rfl (lv_at hl.1 0 rfl) ?_
        refine lv_aload_n X.1 X.2.1 dX12_build_41 rfl (lv_at hl.1 0 rfl) ?_
        refine lv_iload_n X.1 X.2.1 dX12_build_42 rfl (lv_at hl.1 1 rfl) ?_
        obtain ⟨r43, hq43, hf_⟩ := ob_e hf; clear hf; have hf := hf_; clear hf_
        refine gGoI (gRunV X hH (As := [.int (iI v1)]) (m_X12_neededBy l G v1 nv1 ((f_X12_asked_ xs1_20 xs2_32 M).2) _ hq43) calX12_neededBy k_981 k_1110 k_484 (by decide) cX12 rfl ⟨by decide, by decide⟩ rfl hl rfl (Nat.le_of_ble_eq_true rfl) ⟨Nat.le_refl 0, Nat.le_refl 0⟩ dX12_build_43) hS (fun H locs nr43 hH hS => ?_)
        refine g_putI X cX12 hH hS (r := 29) (i := 0) (by decide) rfl 37 (by decide) k_438 rfl rfl rfl (Nat.le_of_ble_eq_true rfl) (x := r43) nr43 rfl rfl rfl dX12_build_46 (fun H locs hH hS => ?_)
        refine lv_aload_n X.1 X.2.1 dX12_build_49 rfl (lv_at hl.1 0 rfl) ?_
        refine lv_iconst X.1 X.2.1 dX12_build_50 (v := iI 0) rfl ?_
        refine g_putI X cX12 hH hS (r := 29) (i := 0) (by decide) rfl 43 (by decide) k_444 rfl rfl rfl (Nat.le_of_ble_eq_true rfl) (x := 0) (nmI_l (by decide)) rfl rfl rfl dX12_build_51 (fun H locs hH hS => ?_)
        refine lv_iconst X.1 X.2.1 dX12_build_54 (v := iI 0) rfl ?_
        refine g_istore_n X (lv' := [(2, .int (iI 0)), (0, .ref (gAd G 29 0)), (1, .int (iI v1))]) dX12_build_55 rfl hl (by decide) rfl (fun ls hl => ?_)
        refine lv_iconst X.1 X.2.1 dX12_build_56 (v := iI 0) rfl ?_
        refine g_istore_n X (lv' := [(3, .int (iI 0)), (2, .int (iI 0)), (0, .ref (gAd G 29 0)), (1, .int (iI v1))]) dX12_build_57 rfl hl (by decide) rfl (fun ls hl => ?_)
        refine w_X12_build_L58 X _  q ?_ 64 0 (nmI_l (by decide)) 0 (nmI_l (by decide)) (gU (gU ((f_X12_asked_ xs1_20 xs2_32 M).2) 29 0 37 r43) 29 0 43 0) hf _ _ _ hH hS (gLv_sub hl [2, 1, 0] rfl)
        · intro y2_58_146 ny2_58_146 M_58_146 hf H locs ls hH hS hl
          refine lv_aload_n X.1 X.2.1 dX12_build_146 rfl (lv_at hl.1 0 rfl) ?_
          refine lv_iconst X.1 X.2.1 dX12_build_147 (v := iI 1) rfl ?_
          refine g_putZ X cX12 hH hS (r := 29) (i := 0) (by decide) rfl 36 (by decide) k_437 rfl rfl rfl (Nat.le_of_ble_eq_true rfl) (x := 1) (by decide) rfl dX12_build_148 (fun H locs hH hS => ?_)
          refine lv_aload_n X.1 X.2.1 dX12_build_151 rfl (lv_at hl.1 0 rfl) ?_
          obtain ⟨r152, hq152, hf_⟩ := ob_e hf; clear hf; have hf := hf_; clear hf_
          refine gGoV (gRunV X hH (As := []) (m_X12_opens l G  (gU M_58_146 29 0 36 1) _ hq152) calX12_opens k_987 k_1113 k_487 (by decide) cX12 rfl ⟨by decide, by decide⟩ rfl hl rfl (Nat.le_of_ble_eq_true rfl) ⟨Nat.le_refl 0, Nat.le_refl 0⟩ dX12_build_152) hS (fun H locs hH hS => ?_)
          refine lv_iload_n X.1 X.2.1 dX12_build_155 rfl (lv_at hl.1 1 rfl) ?_
          have hq := Option.some.inj hf; subst hq
          exact gRetI X hH hS (res := y2_58_146) ny2_58_146 dX12_build_156
      · replace hf := it_t hf hc35
        refine lv_iconst X.1 X.2.1 dX12_build_38 (v := iI 0) rfl ?_
        have hq := Option.some.inj hf; subst hq
        exact gRetI X hH hS (res := 0) (nmI_l (by decide)) dX12_build_39
    clear ek32
    refine g_if_ne X nd21 (tgt := 31) dX12_build_24 (by decide) (fun hc24 => ?_) (fun hc24 => ?_)
    · replace hf := it_f hf hc24
      refine lv_iconst X.1 X.2.1 dX12_build_31 (v := iI 0) rfl ?_
      exact hk32 0 (by decide) hf _ _ _ hH hS (gLv_sub hl [0, 1] rfl)
    · replace hf := it_t hf hc24
      refine lv_iconst X.1 X.2.1 dX12_build_27 (v := iI 1) rfl ?_
      refine lv_goto (tgt := 32) X.1 X.2.1 dX12_build_28 (by decide) ?_
      exact hk32 1 (by decide) hf _ _ _ hH hS (gLv_sub hl [0, 1] rfl)
  clear ek20
  obtain ⟨k19, ek19, hf_⟩ := oj_e hf; clear hf; have hf := hf_; clear hf_
  have hk19 : k19 = some q → ∀ (H : Heap) (locs : List Loc) (ls : Array Slot), gH G M H → va_S (gA G) s.heap H locs → gLv ls 6 [(0, .ref (gAd G 29 0)), (1, .int (iI v1))] → W p l e { frames := 6, cells := 0, slots := 0, locals := 146 } s m args below meth c H locs 0 0 (MQ below (gQi G q.1 q.2) args s 0 0 (gA G)) (F0 m 19 ls [.ref (gAd G 29 0)]) := by
    intro  hf H locs ls hH hS hl
    subst ek19
    refine lv_iconst X.1 X.2.1 dX12_build_19 (v := iI 0) rfl ?_
    exact hk20 0 (by decide) hf _ _ _ hH hS (gLv_sub hl [0, 1] rfl)
  clear ek19
  refine g_if_le X nv1 (tgt := 19) dX12_build_2 (by decide) (fun hc2 => ?_) (fun hc2 => ?_)
  · replace hf := it_f hf hc2
    exact hk19  hf _ _ _ hH hS (gLv_sub hl [0, 1] rfl)
  · replace hf := it_t hf hc2
    refine lv_iload_n X.1 X.2.1 dX12_build_5 rfl (lv_at hl.1 1 rfl) ?_
    refine lv_iconst X.1 X.2.1 dX12_build_6 (v := iI 1) rfl ?_
    refine lv_aload_n X.1 X.2.1 dX12_build_7 rfl (lv_at hl.1 0 rfl) ?_
    have nd8 : nmI (M 29 0 7) := hH.1.1 _ _ _
    refine g_get X cX12 hH (r := 29) (i := 0) (by decide) rfl 7 (by decide) k_408 rfl (v := .int (iI (M 29 0 7))) rfl dX12_build_8 ?_
    refine g_ishl X dX12_build_11 ?_
    refine g_icmp_ge X nv1 (nmI_shl _ _) (tgt := 19) dX12_build_12 (by decide) (fun hc12 => ?_) (fun hc12 => ?_)
    · replace hf := it_f hf hc12
      exact hk19  hf _ _ _ hH hS (gLv_sub hl [0, 1] rfl)
    · replace hf := it_t hf hc12
      refine lv_iconst X.1 X.2.1 dX12_build_15 (v := iI 1) rfl ?_
      refine lv_goto (tgt := 20) X.1 X.2.1 dX12_build_16 (by decide) ?_
      exact hk20 1 (by decide) hf _ _ _ hH hS (gLv_sub hl [0, 1] rfl)
theorem w_X12_hasInput_L5 {G : gG} {p : Program} {l : Launch} {e : Env} {s : State} {m : MethodId} {args : Array Value} {below : List Frame} {meth : Method} {c : Code} (X : gX G p s m args meth c RX12 cX12_hasInput 5 (some .boolean) (gWs yX12_hasInput cX12_hasInput 5 (some .boolean))) (k44 : Int → Option (Int)) (z1 : Int) (nz1 : nmI z1) (z2 : Int) (nz2 : nmI z2) (M : gM) (q : (Int)) (hk44 : ∀ (x3 : Int) (bx3 : x3 = 0 ∨ x3 = 1), k44 x3 = some q → ∀ (H : Heap) (locs : List Loc) (ls : Array Slot), gH G M H → va_S (gA G) s.heap H locs → gLv ls 5 [(3, .int (iI x3))] → W p l e { frames := 1, cells := 0, slots := 0, locals := 23 } s m args below meth c H locs 0 0 (MQ below (gQz G q M) args s 0 0 (gA G)) (F0 m 44 ls [])) : ∀ (n : Nat) (x3 : Int) (bx3 : x3 = 0 ∨ x3 = 1) (x4 : Int) (nx4 : nmI x4), f_X12_hasInput_L5 k44 z1 z2 M n x3 x4 = some q → ∀ (H : Heap) (locs : List Loc) (ls : Array Slot), gH G M H → va_S (gA G) s.heap H locs → gLv ls 5 [(0, .ref (gAd G 29 0)), (1, .int (iI z1)), (2, .int (iI z2)), (3, .int (iI x3)), (4, .int (iI x4))] → W p l e { frames := 1, cells := 0, slots := 0, locals := 23 } s m args below meth c H locs 0 0 (MQ below (gQz G q M) args s 0 0 (gA G)) (F0 m 5 ls []) := by
  intro n
  induction n with
  | zero =>
    intro x3 bx3 x4 nx4 hf
    cases hf
  | succ n ih =>
    intro x3 bx3 x4 nx4 hf H locs ls hH hS hl
    rw [f_X12_hasInput_L5] at hf
    refine lv_iload X.1 X.2.1 dX12_hasInput_5 (lv_at hl.1 4 rfl) ?_
    refine lv_aload_n X.1 X.2.1 dX12_hasInput_7 rfl (lv_at hl.1 0 rfl) ?_
    refine g_get X cX12 hH (r := 29) (i := 0) (by decide) rfl 14 (by decide) k_415 rfl (v := .ref (gAd G 41 0)) rfl dX12_hasInput_8 ?_
    refine lv_iload_n X.1 X.2.1 dX12_hasInput_11 rfl (lv_at hl.1 1 rfl) ?_
    obtain ⟨hg, hf_⟩ := og_e hf; clear hf; have hf := hf_; clear hf_
    have nd12 : nmI (M 41 0 z1.toNat) := hH.1.1 _ _ _
    refine g_iald X hH (r := 41) (i := 0) (by decide) rfl nz1 hg (v := M 41 0 z1.toNat) rfl dX12_hasInput_12 ?_
    refine g_icmp_ge X nx4 nd12 (tgt := 44) dX12_hasInput_13 (by decide) (fun hc13 => ?_) (fun hc13 => ?_)
    · replace hf := it_f hf hc13
      exact hk44 x3 bx3 hf _ _ _ hH hS (gLv_sub hl [3] rfl)
    · replace hf := it_t hf hc13
      refine lv_iload_n X.1 X.2.1 dX12_hasInput_16 rfl (lv_at hl.1 3 rfl) ?_
      refine lv_aload_n X.1 X.2.1 dX12_hasInput_17 rfl (lv_at hl.1 0 rfl) ?_
      refine lv_iload_n X.1 X.2.1 dX12_hasInput_18 rfl (lv_at hl.1 1 rfl) ?_
      refine lv_iload X.1 X.2.1 dX12_hasInput_19 (lv_at hl.1 4 rfl) ?_
      obtain ⟨r21, hq21, hf_⟩ := ob_e hf; clear hf; have hf := hf_; clear hf_
      refine gGoI (gRunV X hH (As := [.int (iI z1), .int (iI x4)]) (m_X12_inputOf l G z1 nz1 x4 nx4 M _ hq21) calX12_inputOf k_983 k_1111 k_485 (by decide) cX12 rfl ⟨by decide, by decide⟩ rfl hl rfl (Nat.le_of_ble_eq_true rfl) ⟨Nat.le_refl 0, Nat.le_refl 0⟩ dX12_hasInput_21) hS (fun H locs nr21 hH hS => ?_)
      refine lv_bipush X.1 X.2.1 dX12_hasInput_24 (v := iI 16) (by decide) ?_
      refine lv_iload_n X.1 X.2.1 dX12_hasInput_26 rfl (lv_at hl.1 2 rfl) ?_
      refine g_iadd X dX12_hasInput_27 ?_
      obtain ⟨k36, ek36, hf_⟩ := oj_e hf; clear hf; have hf := hf_; clear hf_
      have hk36 : ∀ (xs1_36 : Int) (bxs1_36 : xs1_36 = 0 ∨ xs1_36 = 1), k36 xs1_36 = some q → ∀ (H : Heap) (locs : List Loc) (ls : Array Slot), gH G M H → va_S (gA G) s.heap H locs → gLv ls 5 [(0, .ref (gAd G 29 0)), (1, .int (iI z1)), (2, .int (iI z2)), (4, .int (iI x4))] → W p l e { frames := 1, cells := 0, slots := 0, locals := 23 } s m args below meth c H locs 0 0 (MQ below (gQz G q M) args s 0 0 (gA G)) (F0 m 36 ls [.int (iI xs1_36), .int (iI x3)]) := by
        intro xs1_36 bxs1_36 hf H locs ls hH hS hl
        subst ek36
        refine g_ior X dX12_hasInput_36 ?_
        refine g_istore_n X (lv' := [(3, .int (iI (gOr x3 xs1_36))), (0, .ref (gAd G 29 0)), (1, .int (iI z1)), (2, .int (iI z2)), (4, .int (iI x4))]) dX12_hasInput_37 rfl hl (by decide) rfl (fun ls hl => ?_)
        refine g_iinc X (a := x4) (lv' := [(4, .int (iI (wI (x4 + 1)))), (3, .int (iI (gOr x3 xs1_36))), (0, .ref (gAd G 29 0)), (1, .int (iI z1)), (2, .int (iI z2))]) dX12_hasInput_38 hl (k := 4) rfl (by decide) rfl (fun ls hl => ?_)
        refine lv_goto (tgt := 5) X.1 X.2.1 dX12_hasInput_41 (by decide) ?_
        exact ih (gOr x3 xs1_36) (b01_or bx3 bxs1_36) (wI (x4 + 1)) (nmI_w _) hf _ _ _ hH hS (gLv_sub hl [2, 3, 4, 1, 0] rfl)
      clear ek36
      refine g_icmp_ne X nr21 (nmI_w _) (tgt := 35) dX12_hasInput_28 (by decide) (fun hc28 => ?_) (fun hc28 => ?_)
      · replace hf := it_f hf hc28
        refine lv_iconst X.1 X.2.1 dX12_hasInput_35 (v := iI 0) rfl ?_
        exact hk36 0 (by decide) hf _ _ _ hH hS (gLv_sub hl [0, 1, 2, 4] rfl)
      · replace hf := it_t hf hc28
        refine lv_iconst X.1 X.2.1 dX12_hasInput_31 (v := iI 1) rfl ?_
        refine lv_goto (tgt := 36) X.1 X.2.1 dX12_hasInput_32 (by decide) ?_
        exact hk36 1 (by decide) hf _ _ _ hH hS (gLv_sub hl [0, 1, 2, 4] rfl)
theorem m_X12_hasInput (l : Launch) (G : gG) (v1 : Int) (nv1 : nmI v1) (v2 : Int) (nv2 : nmI v2) (M : gM) (q : (Int)) (hf : f_X12_hasInput v1 v2 M = some q) : gMet l yX12_hasInput cX12_hasInput 5 (some .boolean) 1 23 G M [.ref (gAd G 29 0), .int (iI v1), .int (iI v2)] (gQz G q M) := by
  refine gOfW (by decide) (by show _ ≤ 5; exact Nat.le_of_ble_eq_true rfl) rfl ?_
  intro p e s m below meth c X hH ls hl
  replace hl : gLv ls 5 [(0, .ref (gAd G 29 0)), (1, .int (iI v1)), (2, .int (iI v2))] := hl
  have hS : va_S (gA G) s.heap s.heap [] := va_S.rf
  generalize hargs : ([.ref (gAd G 29 0), .int (iI v1), .int (iI v2)] : List Value).toArray = args at X ⊢
  clear hargs
  unfold f_X12_hasInput at hf
  refine lv_iconst X.1 X.2.1 dX12_hasInput_0 (v := iI 0) rfl ?_
  refine g_istore_n X (lv' := [(3, .int (iI 0)), (0, .ref (gAd G 29 0)), (1, .int (iI v1)), (2, .int (iI v2))]) dX12_hasInput_1 rfl hl (by decide) rfl (fun ls hl => ?_)
  refine lv_iconst X.1 X.2.1 dX12_hasInput_2 (v := iI 0) rfl ?_
  refine g_istore X (lv' := [(4, .int (iI 0)), (3, .int (iI 0)), (0, .ref (gAd G 29 0)), (1, .int (iI v1)), (2, .int (iI v2))]) dX12_hasInput_3 hl (by decide) rfl (fun ls hl => ?_)
  refine w_X12_hasInput_L5 X _ v1 nv1 v2 nv2 M q ?_ 64 0 (by decide) 0 (nmI_l (by decide)) hf _ _ _ hH hS (gLv_sub hl [2, 3, 4, 1, 0] rfl)
  · intro y3_5_44 by3_5_44 hf H locs ls hH hS hl
    refine lv_iload_n X.1 X.2.1 dX12_hasInput_44 rfl (lv_at hl.1 0 rfl) ?_
    have hq := Option.some.inj hf; subst hq
    exact gRetZ X hH hS (res := y3_5_44) by3_5_44 dX12_hasInput_45
theorem w_X12_wayOf_L30 {G : gG} {p : Program} {l : Launch} {e : Env} {s : State} {m : MethodId} {args : Array Value} {below : List Frame} {meth : Method} {c : Code} (X : gX G p s m args meth c RX12 cX12_wayOf 6 (some .int) (gWs yX12_wayOf cX12_wayOf 6 (some .int))) (k90 : Int → Option (Int × gM)) (z1 : Int) (nz1 : nmI z1) (z3 : Int) (nz3 : nmI z3) (M : gM) (q : (Int × gM)) (hk90 : ∀ (x4 : Int) (nx4 : nmI x4), k90 x4 = some q → ∀ (H : Heap) (locs : List Loc) (ls : Array Slot), gH G M H → va_S (gA G) s.heap H locs → gLv ls 6 [(0, .ref (gAd G 29 0)), (1, .int (iI z1)), (3, .int (iI z3)), (4, .int (iI x4))] → W p l e { frames := 2, cells := 0, slots := 0, locals := 47 } s m args below meth c H locs 0 0 (MQ below (gQi G q.1 q.2) args s 0 0 (gA G)) (F0 m 90 ls [])) : ∀ (n : Nat) (x4 : Int) (nx4 : nmI x4) (x5 : Int) (nx5 : nmI x5), f_X12_wayOf_L30 k90 z1 z3 M n x4 x5 = some q → ∀ (H : Heap) (locs : List Loc) (ls : Array Slot), gH G M H → va_S (gA G) s.heap H locs → gLv ls 6 [(0, .ref (gAd G 29 0)), (1, .int (iI z1)), (3, .int (iI z3)), (4, .int (iI x4)), (5, .int (iI x5))] → W p l e { frames := 2, cells := 0, slots := 0, locals := 47 } s m args below meth c H locs 0 0 (MQ below (gQi G q.1 q.2) args s 0 0 (gA G)) (F0 m 30 ls []) := by
  intro n
  induction n with
  | zero =>
    intro x4 nx4 x5 nx5 hf
    cases hf
  | succ n ih =>
    intro x4 nx4 x5 nx5 hf H locs ls hH hS hl
    rw [f_X12_wayOf_L30] at hf
    refine lv_iload X.1 X.2.1 dX12_wayOf_30 (lv_at hl.1 4 rfl) ?_
    refine lv_aload_n X.1 X.2.1 dX12_wayOf_32 rfl (lv_at hl.1 0 rfl) ?_
    have nd33 : nmI (M 29 0 7) := hH.1.1 _ _ _
    refine g_get X cX12 hH (r := 29) (i := 0) (by decide) rfl 7 (by decide) k_408 rfl (v := .int (iI (M 29 0 7))) rfl dX12_wayOf_33 ?_
    refine g_icmp_ge X nx5 nd33 (tgt := 90) dX12_wayOf_36 (by decide) (fun hc36 => ?_) (fun hc36 => ?_)
    · replace hf := it_f hf hc36
      exact hk90 x4 nx4 hf _ _ _ hH hS (gLv_sub hl [0, 1, 2, 3] rfl)
    · replace hf := it_t hf hc36
      refine lv_aload_n X.1 X.2.1 dX12_wayOf_39 rfl (lv_at hl.1 0 rfl) ?_
      refine lv_iload X.1 X.2.1 dX12_wayOf_40 (lv_at hl.1 4 rfl) ?_
      refine gGoZ (gRunV X hH (As := [.int (iI x5)]) (m_X12_isNeeded l G x5 nx5 M _ rfl) calX12_isNeeded k_985 k_1112 k_486 (by decide) cX12 rfl ⟨by decide, by decide⟩ rfl hl rfl (Nat.le_of_ble_eq_true rfl) ⟨Nat.le_refl 0, Nat.le_refl 0⟩ dX12_wayOf_42) hS (fun H locs br42 hH hS => ?_)
      obtain ⟨k82, ek82, hf_⟩ := oj_e hf; clear hf; have hf := hf_; clear hf_
      have hk82 : ∀ (xs0_82 : Int) (nxs0_82 : nmI xs0_82), k82 xs0_82 = some q → ∀ (H : Heap) (locs : List Loc) (ls : Array Slot), gH G M H → va_S (gA G) s.heap H locs → gLv ls 6 [(0, .ref (gAd G 29 0)), (1, .int (iI z1)), (3, .int (iI z3)), (5, .int (iI x5))] → W p l e { frames := 2, cells := 0, slots := 0, locals := 47 } s m args below meth c H locs 0 0 (MQ below (gQi G q.1 q.2) args s 0 0 (gA G)) (F0 m 82 ls [.int (iI xs0_82)]) := by
        intro xs0_82 nxs0_82 hf H locs ls hH hS hl
        subst ek82
        refine g_istore X (lv' := [(4, .int (iI xs0_82)), (0, .ref (gAd G 29 0)), (1, .int (iI z1)), (3, .int (iI z3)), (5, .int (iI x5))]) dX12_wayOf_82 hl (by decide) rfl (fun ls hl => ?_)
        refine g_iinc X (a := x5) (lv' := [(5, .int (iI (wI (x5 + 1)))), (4, .int (iI xs0_82)), (0, .ref (gAd G 29 0)), (1, .int (iI z1)), (3, .int (iI z3))]) dX12_wayOf_84 hl (k := 4) rfl (by decide) rfl (fun ls hl => ?_)
        refine lv_goto (tgt := 30) X.1 X.2.1 dX12_wayOf_87 (by decide) ?_
        exact ih xs0_82 nxs0_82 (wI (x5 + 1)) (nmI_w _) hf _ _ _ hH hS (gLv_sub hl [2, 3, 4, 1, 0] rfl)
      clear ek82
      obtain ⟨k80, ek80, hf_⟩ := oj_e hf; clear hf; have hf := hf_; clear hf_
      have hk80 : k80 = some q → ∀ (H : Heap) (locs : List Loc) (ls : Array Slot), gH G M H → va_S (gA G) s.heap H locs → gLv ls 6 [(0, .ref (gAd G 29 0)), (1, .int (iI z1)), (3, .int (iI z3)), (4, .int (iI x4)), (5, .int (iI x5))] → W p l e { frames := 2, cells := 0, slots := 0, locals := 47 } s m args below meth c H locs 0 0 (MQ below (gQi G q.1 q.2) args s 0 0 (gA G)) (F0 m 80 ls []) := by
        intro  hf H locs ls hH hS hl
        subst ek80
        refine lv_iload X.1 X.2.1 dX12_wayOf_80 (lv_at hl.1 3 rfl) ?_
        exact hk82 x4 nx4 hf _ _ _ hH hS (gLv_sub hl [0, 1, 2, 4] rfl)
      clear ek80
      refine g_if_eq X (nmI_b br42) (tgt := 80) dX12_wayOf_45 (by decide) (fun hc45 => ?_) (fun hc45 => ?_)
      · replace hf := it_t hf hc45
        exact hk80  hf _ _ _ hH hS (gLv_sub hl [0, 1, 2, 3, 4] rfl)
      · replace hf := it_f hf hc45
        refine lv_aload_n X.1 X.2.1 dX12_wayOf_48 rfl (lv_at hl.1 0 rfl) ?_
        refine lv_iload X.1 X.2.1 dX12_wayOf_49 (lv_at hl.1 4 rfl) ?_
        refine lv_iload_n X.1 X.2.1 dX12_wayOf_51 rfl (lv_at hl.1 2 rfl) ?_
        obtain ⟨r52, hq52, hf_⟩ := ob_e hf; clear hf; have hf := hf_; clear hf_
        refine gGoZ (gRunV X hH (As := [.int (iI x5), .int (iI z3)]) (m_X12_hasInput l G x5 nx5 z3 nz3 M _ hq52) calX12_hasInput k_1012 k_1124 k_499 (by decide) cX12 rfl ⟨by decide, by decide⟩ rfl hl rfl (Nat.le_of_ble_eq_true rfl) ⟨Nat.le_refl 0, Nat.le_refl 0⟩ dX12_wayOf_52) hS (fun H locs br52 hH hS => ?_)
        refine g_if_eq X (nmI_b br52) (tgt := 80) dX12_wayOf_55 (by decide) (fun hc55 => ?_) (fun hc55 => ?_)
        · replace hf := it_t hf hc55
          exact hk80  hf _ _ _ hH hS (gLv_sub hl [0, 1, 2, 3, 4] rfl)
        · replace hf := it_f hf hc55
          refine lv_aload_n X.1 X.2.1 dX12_wayOf_58 rfl (lv_at hl.1 0 rfl) ?_
          refine g_get X cX12 hH (r := 29) (i := 0) (by decide) rfl 54 (by decide) k_455 rfl (v := .ref (gAd G 73 0)) rfl dX12_wayOf_59 ?_
          refine lv_iload X.1 X.2.1 dX12_wayOf_62 (lv_at hl.1 4 rfl) ?_
          obtain ⟨hg, hf_⟩ := og_e hf; clear hf; have hf := hf_; clear hf_
          have nd64 : nmI (M 73 0 x5.toNat) := hH.1.1 _ _ _
          refine g_iald X hH (r := 73) (i := 0) (by decide) rfl nx5 hg (v := M 73 0 x5.toNat) rfl dX12_wayOf_64 ?_
          refine lv_iload X.1 X.2.1 dX12_wayOf_65 (lv_at hl.1 3 rfl) ?_
          refine g_icmp_le X nd64 nx4 (tgt := 80) dX12_wayOf_67 (by decide) (fun hc67 => ?_) (fun hc67 => ?_)
          · replace hf := it_f hf hc67
            exact hk80  hf _ _ _ hH hS (gLv_sub hl [0, 1, 2, 3, 4] rfl)
          · replace hf := it_t hf hc67
            refine lv_aload_n X.1 X.2.1 dX12_wayOf_70 rfl (lv_at hl.1 0 rfl) ?_
            refine g_get X cX12 hH (r := 29) (i := 0) (by decide) rfl 54 (by decide) k_455 rfl (v := .ref (gAd G 73 0)) rfl dX12_wayOf_71 ?_
            refine lv_iload X.1 X.2.1 dX12_wayOf_74 (lv_at hl.1 4 rfl) ?_
            obtain ⟨hg, hf_⟩ := og_e hf; clear hf; have hf := hf_; clear hf_
            have nd76 : nmI (M 73 0 x5.toNat) := hH.1.1 _ _ _
            refine g_iald X hH (r := 73) (i := 0) (by decide) rfl nx5 hg (v := M 73 0 x5.toNat) rfl dX12_wayOf_76 ?_
            refine lv_goto (tgt := 82) X.1 X.2.1 dX12_wayOf_77 (by decide) ?_
            exact hk82 (M 73 0 x5.toNat) nd76 hf _ _ _ hH hS (gLv_sub hl [0, 1, 2, 4] rfl)
theorem w_X12_wayOf_L9 {G : gG} {p : Program} {l : Launch} {e : Env} {s : State} {m : MethodId} {args : Array Value} {below : List Frame} {meth : Method} {c : Code} (X : gX G p s m args meth c RX12 cX12_wayOf 6 (some .int) (gWs yX12_wayOf cX12_wayOf 6 (some .int))) (k132 : Int → gM → Option (Int × gM)) (z1 : Int) (nz1 : nmI z1) (q : (Int × gM)) (hk132 : ∀ (x2 : Int) (nx2 : nmI x2) (M : gM), k132 x2 M = some q → ∀ (H : Heap) (locs : List Loc) (ls : Array Slot), gH G M H → va_S (gA G) s.heap H locs → gLv ls 6 [(2, .int (iI x2))] → W p l e { frames := 2, cells := 0, slots := 0, locals := 47 } s m args below meth c H locs 0 0 (MQ below (gQi G q.1 q.2) args s 0 0 (gA G)) (F0 m 132 ls [])) : ∀ (n : Nat) (x2 : Int) (nx2 : nmI x2) (x3 : Int) (nx3 : nmI x3) (M : gM), f_X12_wayOf_L9 k132 z1 n x2 x3 M = some q → ∀ (H : Heap) (locs : List Loc) (ls : Array Slot), gH G M H → va_S (gA G) s.heap H locs → gLv ls 6 [(0, .ref (gAd G 29 0)), (1, .int (iI z1)), (2, .int (iI x2)), (3, .int (iI x3))] → W p l e { frames := 2, cells := 0, slots := 0, locals := 47 } s m args below meth c H locs 0 0 (MQ below (gQi G q.1 q.2) args s 0 0 (gA G)) (F0 m 9 ls []) := by
  intro n
  induction n with
  | zero =>
    intro x2 nx2 x3 nx3 M hf
    cases hf
  | succ n ih =>
    intro x2 nx2 x3 nx3 M hf H locs ls hH hS hl
    rw [f_X12_wayOf_L9] at hf
    refine lv_iload_n X.1 X.2.1 dX12_wayOf_9 rfl (lv_at hl.1 3 rfl) ?_
    refine lv_iload_n X.1 X.2.1 dX12_wayOf_10 rfl (lv_at hl.1 1 rfl) ?_
    refine g_icmp_lt X nx3 nz1 (tgt := 132) dX12_wayOf_11 (by decide) (fun hc11 => ?_) (fun hc11 => ?_)
    · replace hf := it_t hf hc11
      exact hk132 x2 nx2 M hf _ _ _ hH hS (gLv_sub hl [2] rfl)
    · replace hf := it_f hf hc11
      refine lv_aload_n X.1 X.2.1 dX12_wayOf_14 rfl (lv_at hl.1 0 rfl) ?_
      refine lv_iload_n X.1 X.2.1 dX12_wayOf_15 rfl (lv_at hl.1 3 rfl) ?_
      refine gGoZ (gRunV X hH (As := [.int (iI x3)]) (m_X12_isNeeded l G x3 nx3 M _ rfl) calX12_isNeeded k_985 k_1112 k_486 (by decide) cX12 rfl ⟨by decide, by decide⟩ rfl hl rfl (Nat.le_of_ble_eq_true rfl) ⟨Nat.le_refl 0, Nat.le_refl 0⟩ dX12_wayOf_16) hS (fun H locs br16 hH hS => ?_)
      obtain ⟨k126, ek126, hf_⟩ := oj_e hf; clear hf; have hf := hf_; clear hf_
      have hk126 : ∀ (x2_126 : Int) (nx2_126 : nmI x2_126) (M_126 : gM), k126 x2_126 M_126 = some q → ∀ (H : Heap) (locs : List Loc) (ls : Array Slot), gH G M_126 H → va_S (gA G) s.heap H locs → gLv ls 6 [(0, .ref (gAd G 29 0)), (1, .int (iI z1)), (2, .int (iI x2_126)), (3, .int (iI x3))] → W p l e { frames := 2, cells := 0, slots := 0, locals := 47 } s m args below meth c H locs 0 0 (MQ below (gQi G q.1 q.2) args s 0 0 (gA G)) (F0 m 126 ls []) := by
        intro x2_126 nx2_126 M_126 hf H locs ls hH hS hl
        subst ek126
        refine g_iinc X (a := x3) (lv' := [(3, .int (iI (wI (x3 + (-1))))), (0, .ref (gAd G 29 0)), (1, .int (iI z1)), (2, .int (iI x2_126))]) dX12_wayOf_126 hl (k := 3) rfl (by decide) rfl (fun ls hl => ?_)
        refine lv_goto (tgt := 9) X.1 X.2.1 dX12_wayOf_129 (by decide) ?_
        exact ih x2_126 nx2_126 (wI (x3 + (-1))) (nmI_w _) M_126 hf _ _ _ hH hS (gLv_sub hl [1, 2, 3, 0] rfl)
      clear ek126
      refine g_if_eq X (nmI_b br16) (tgt := 126) dX12_wayOf_19 (by decide) (fun hc19 => ?_) (fun hc19 => ?_)
      · replace hf := it_t hf hc19
        exact hk126 x2 nx2 M hf _ _ _ hH hS (gLv_sub hl [0, 1, 2, 3] rfl)
      · replace hf := it_f hf hc19
        refine lv_iconst X.1 X.2.1 dX12_wayOf_22 (v := iI 0) rfl ?_
        refine g_istore X (lv' := [(4, .int (iI 0)), (0, .ref (gAd G 29 0)), (1, .int (iI z1)), (2, .int (iI x2)), (3, .int (iI x3))]) dX12_wayOf_23 hl (by decide) rfl (fun ls hl => ?_)
        refine lv_iload_n X.1 X.2.1 dX12_wayOf_25 rfl (lv_at hl.1 4 rfl) ?_
        refine lv_iconst X.1 X.2.1 dX12_wayOf_26 (v := iI 1) rfl ?_
        refine g_iadd X dX12_wayOf_27 ?_
        refine g_istore X (lv' := [(5, .int (iI (wI (x3 + 1)))), (4, .int (iI 0)), (0, .ref (gAd G 29 0)), (1, .int (iI z1)), (2, .int (iI x2)), (3, .int (iI x3))]) dX12_wayOf_28 hl (by decide) rfl (fun ls hl => ?_)
        refine w_X12_wayOf_L30 X _ z1 nz1 x3 nx3 M q ?_ 64 0 (nmI_l (by decide)) (wI (x3 + 1)) (nmI_w _) hf _ _ _ hH hS (gLv_sub hl [2, 3, 5, 1, 0] rfl)
        · intro y4_30_90 ny4_30_90 hf H locs ls hH hS hl
          refine lv_aload_n X.1 X.2.1 dX12_wayOf_90 rfl (lv_at hl.1 0 rfl) ?_
          refine g_get X cX12 hH (r := 29) (i := 0) (by decide) rfl 54 (by decide) k_455 rfl (v := .ref (gAd G 73 0)) rfl dX12_wayOf_91 ?_
          refine lv_iload_n X.1 X.2.1 dX12_wayOf_94 rfl (lv_at hl.1 2 rfl) ?_
          refine lv_aload_n X.1 X.2.1 dX12_wayOf_95 rfl (lv_at hl.1 0 rfl) ?_
          refine g_get X cX12 hH (r := 29) (i := 0) (by decide) rfl 46 (by decide) k_447 rfl (v := .ref (gAd G 67 0)) rfl dX12_wayOf_96 ?_
          refine lv_iload_n X.1 X.2.1 dX12_wayOf_99 rfl (lv_at hl.1 2 rfl) ?_
          obtain ⟨hg, hf_⟩ := og_e hf; clear hf; have hf := hf_; clear hf_
          have nd100 : nmI (M 67 0 x3.toNat) := hH.1.1 _ _ _
          refine g_iald X hH (r := 67) (i := 0) (by decide) rfl nx3 hg (v := M 67 0 x3.toNat) rfl dX12_wayOf_100 ?_
          refine lv_iconst X.1 X.2.1 dX12_wayOf_101 (v := iI (-1)) rfl ?_
          obtain ⟨k115, ek115, hf_⟩ := oj_e hf; clear hf; have hf := hf_; clear hf_
          have hk115 : ∀ (xs2_115 : Int) (nxs2_115 : nmI xs2_115), k115 xs2_115 = some q → ∀ (H : Heap) (locs : List Loc) (ls : Array Slot), gH G M H → va_S (gA G) s.heap H locs → gLv ls 6 [(0, .ref (gAd G 29 0)), (1, .int (iI z1)), (3, .int (iI x3)), (4, .int (iI y4_30_90))] → W p l e { frames := 2, cells := 0, slots := 0, locals := 47 } s m args below meth c H locs 0 0 (MQ below (gQi G q.1 q.2) args s 0 0 (gA G)) (F0 m 115 ls [.int (iI xs2_115), .int (iI x3), .ref (gAd G 73 0)]) := by
            intro xs2_115 nxs2_115 hf H locs ls hH hS hl
            subst ek115
            refine lv_iload X.1 X.2.1 dX12_wayOf_115 (lv_at hl.1 3 rfl) ?_
            refine g_iadd X dX12_wayOf_117 ?_
            obtain ⟨hg, hf_⟩ := og_e hf; clear hf; have hf := hf_; clear hf_
            refine g_iast X hH hS (r := 73) (i := 0) (by decide) (fun _ => rfl) nx3 hg (nmI_w _) rfl (by decide) dX12_wayOf_118 (fun H locs hH hS => ?_)
            refine lv_aload_n X.1 X.2.1 dX12_wayOf_119 rfl (lv_at hl.1 0 rfl) ?_
            refine g_get X cX12 hH (r := 29) (i := 0) (by decide) rfl 54 (by decide) k_455 rfl (v := .ref (gAd G 73 0)) rfl dX12_wayOf_120 ?_
            refine lv_iload_n X.1 X.2.1 dX12_wayOf_123 rfl (lv_at hl.1 2 rfl) ?_
            obtain ⟨hg, hf_⟩ := og_e hf; clear hf; have hf := hf_; clear hf_
            have nd124 : nmI ((gU M 73 0 x3.toNat (wI (xs2_115 + y4_30_90))) 73 0 x3.toNat) := hH.1.1 _ _ _
            refine g_iald X hH (r := 73) (i := 0) (by decide) rfl nx3 hg (v := (gU M 73 0 x3.toNat (wI (xs2_115 + y4_30_90))) 73 0 x3.toNat) rfl dX12_wayOf_124 ?_
            refine g_istore_n X (lv' := [(2, .int (iI ((gU M 73 0 x3.toNat (wI (xs2_115 + y4_30_90))) 73 0 x3.toNat))), (0, .ref (gAd G 29 0)), (1, .int (iI z1)), (3, .int (iI x3)), (4, .int (iI y4_30_90))]) dX12_wayOf_125 rfl hl (by decide) rfl (fun ls hl => ?_)
            exact hk126 ((gU M 73 0 x3.toNat (wI (xs2_115 + y4_30_90))) 73 0 x3.toNat) nd124 (gU M 73 0 x3.toNat (wI (xs2_115 + y4_30_90))) hf _ _ _ hH hS (gLv_sub hl [1, 2, 0, 3] rfl)
          clear ek115
          refine g_icmp_ne X nd100 (nmI_l (by decide)) (tgt := 109) dX12_wayOf_102 (by decide) (fun hc102 => ?_) (fun hc102 => ?_)
          · replace hf := it_f hf hc102
            refine lv_aload_n X.1 X.2.1 dX12_wayOf_109 rfl (lv_at hl.1 0 rfl) ?_
            refine g_get X cX12 hH (r := 29) (i := 0) (by decide) rfl 46 (by decide) k_447 rfl (v := .ref (gAd G 67 0)) rfl dX12_wayOf_110 ?_
            refine lv_iload_n X.1 X.2.1 dX12_wayOf_113 rfl (lv_at hl.1 2 rfl) ?_
            obtain ⟨hg, hf_⟩ := og_e hf; clear hf; have hf := hf_; clear hf_
            have nd114 : nmI (M 67 0 x3.toNat) := hH.1.1 _ _ _
            refine g_iald X hH (r := 67) (i := 0) (by decide) rfl nx3 hg (v := M 67 0 x3.toNat) rfl dX12_wayOf_114 ?_
            exact hk115 (M 67 0 x3.toNat) nd114 hf _ _ _ hH hS (gLv_sub hl [0, 1, 2, 3] rfl)
          · replace hf := it_t hf hc102
            refine lv_iconst X.1 X.2.1 dX12_wayOf_105 (v := iI 5) rfl ?_
            refine lv_goto (tgt := 115) X.1 X.2.1 dX12_wayOf_106 (by decide) ?_
            exact hk115 5 (nmI_l (by decide)) hf _ _ _ hH hS (gLv_sub hl [0, 1, 2, 3] rfl)
theorem m_X12_wayOf (l : Launch) (G : gG) (v1 : Int) (nv1 : nmI v1) (M : gM) (q : (Int × gM)) (hf : f_X12_wayOf v1 M = some q) : gMet l yX12_wayOf cX12_wayOf 6 (some .int) 2 47 G M [.ref (gAd G 29 0), .int (iI v1)] (gQi G q.1 q.2) := by
  refine gOfW (by decide) (by show _ ≤ 6; exact Nat.le_of_ble_eq_true rfl) rfl ?_
  intro p e s m below meth c X hH ls hl
  replace hl : gLv ls 6 [(0, .ref (gAd G 29 0)), (1, .int (iI v1))] := hl
  have hS : va_S (gA G) s.heap s.heap [] := va_S.rf
  generalize hargs : ([.ref (gAd G 29 0), .int (iI v1)] : List Value).toArray = args at X ⊢
  clear hargs
  unfold f_X12_wayOf at hf
  refine lv_iconst X.1 X.2.1 dX12_wayOf_0 (v := iI 0) rfl ?_
  refine g_istore_n X (lv' := [(2, .int (iI 0)), (0, .ref (gAd G 29 0)), (1, .int (iI v1))]) dX12_wayOf_1 rfl hl (by decide) rfl (fun ls hl => ?_)
  refine lv_aload_n X.1 X.2.1 dX12_wayOf_2 rfl (lv_at hl.1 1 rfl) ?_
  have nd3 : nmI (M 29 0 7) := hH.1.1 _ _ _
  refine g_get X cX12 hH (r := 29) (i := 0) (by decide) rfl 7 (by decide) k_408 rfl (v := .int (iI (M 29 0 7))) rfl dX12_wayOf_3 ?_
  refine lv_iconst X.1 X.2.1 dX12_wayOf_6 (v := iI 1) rfl ?_
  refine g_isub X dX12_wayOf_7 ?_
  refine g_istore_n X (lv' := [(3, .int (iI (wI ((M 29 0 7) - 1)))), (2, .int (iI 0)), (0, .ref (gAd G 29 0)), (1, .int (iI v1))]) dX12_wayOf_8 rfl hl (by decide) rfl (fun ls hl => ?_)
  refine w_X12_wayOf_L9 X _ v1 nv1 q ?_ 64 0 (nmI_l (by decide)) (wI ((M 29 0 7) - 1)) (nmI_w _) M hf _ _ _ hH hS (gLv_sub hl [2, 3, 1, 0] rfl)
  · intro y2_9_132 ny2_9_132 M_9_132 hf H locs ls hH hS hl
    refine lv_iload_n X.1 X.2.1 dX12_wayOf_132 rfl (lv_at hl.1 0 rfl) ?_
    have hq := Option.some.inj hf; subst hq
    exact gRetI X hH hS (res := y2_9_132) ny2_9_132 dX12_wayOf_133
theorem w_X12_next_L17 {G : gG} {p : Program} {l : Launch} {e : Env} {s : State} {m : MethodId} {args : Array Value} {below : List Frame} {meth : Method} {c : Code} (X : gX G p s m args meth c RX12 cX12_next 5 (some .int) (gWs yX12_next cX12_next 5 (some .int))) (k79 : Int → Int → gM → Option (Int × gM)) (z3 : Int) (nz3 : nmI z3) (q : (Int × gM)) (hk79 : ∀ (x1 : Int) (nx1 : nmI x1) (x2 : Int) (nx2 : nmI x2) (M : gM), k79 x1 x2 M = some q → ∀ (H : Heap) (locs : List Loc) (ls : Array Slot), gH G M H → va_S (gA G) s.heap H locs → gLv ls 5 [(0, .ref (gAd G 29 0)), (1, .int (iI x1)), (2, .int (iI x2)), (3, .int (iI z3))] → W p l e { frames := 3, cells := 0, slots := 0, locals := 72 } s m args below meth c H locs 0 0 (MQ below (gQi G q.1 q.2) args s 0 0 (gA G)) (F0 m 79 ls [])) : ∀ (n : Nat) (x1 : Int) (nx1 : nmI x1) (x2 : Int) (nx2 : nmI x2) (x4 : Int) (nx4 : nmI x4) (M : gM), f_X12_next_L17 k79 z3 n x1 x2 x4 M = some q → ∀ (H : Heap) (locs : List Loc) (ls : Array Slot), gH G M H → va_S (gA G) s.heap H locs → gLv ls 5 [(0, .ref (gAd G 29 0)), (1, .int (iI x1)), (2, .int (iI x2)), (3, .int (iI z3)), (4, .int (iI x4))] → W p l e { frames := 3, cells := 0, slots := 0, locals := 72 } s m args below meth c H locs 0 0 (MQ below (gQi G q.1 q.2) args s 0 0 (gA G)) (F0 m 17 ls []) := by
  intro n
  induction n with
  | zero =>
    intro x1 nx1 x2 nx2 x4 nx4 M hf
    cases hf
  | succ n ih =>
    intro x1 nx1 x2 nx2 x4 nx4 M hf H locs ls hH hS hl
    rw [f_X12_next_L17] at hf
    refine lv_iload X.1 X.2.1 dX12_next_17 (lv_at hl.1 4 rfl) ?_
    refine lv_aload_n X.1 X.2.1 dX12_next_19 rfl (lv_at hl.1 0 rfl) ?_
    refine g_get X cX12 hH (r := 29) (i := 0) (by decide) rfl 11 (by decide) k_412 rfl (v := .ref (gAd G 38 0)) rfl dX12_next_20 ?_
    refine lv_iload_n X.1 X.2.1 dX12_next_23 rfl (lv_at hl.1 3 rfl) ?_
    obtain ⟨hg, hf_⟩ := og_e hf; clear hf; have hf := hf_; clear hf_
    have nd24 : nmI (M 38 0 z3.toNat) := hH.1.1 _ _ _
    refine g_iald X hH (r := 38) (i := 0) (by decide) rfl nz3 hg (v := M 38 0 z3.toNat) rfl dX12_next_24 ?_
    refine g_icmp_ge X nx4 nd24 (tgt := 79) dX12_next_25 (by decide) (fun hc25 => ?_) (fun hc25 => ?_)
    · replace hf := it_f hf hc25
      exact hk79 x1 nx1 x2 nx2 M hf _ _ _ hH hS (gLv_sub hl [0, 1, 2, 3] rfl)
    · replace hf := it_t hf hc25
      refine lv_aload_n X.1 X.2.1 dX12_next_28 rfl (lv_at hl.1 0 rfl) ?_
      refine lv_iload_n X.1 X.2.1 dX12_next_29 rfl (lv_at hl.1 3 rfl) ?_
      refine gGoZ (gRunV X hH (As := [.int (iI z3)]) (m_X12_isNeeded l G z3 nz3 M _ rfl) calX12_isNeeded k_985 k_1112 k_486 (by decide) cX12 rfl ⟨by decide, by decide⟩ rfl hl rfl (Nat.le_of_ble_eq_true rfl) ⟨Nat.le_refl 0, Nat.le_refl 0⟩ dX12_next_30) hS (fun H locs br30 hH hS => ?_)
      refine g_if_eq X (nmI_b br30) (tgt := 79) dX12_next_33 (by decide) (fun hc33 => ?_) (fun hc33 => ?_)
      · replace hf := it_t hf hc33
        exact hk79 x1 nx1 x2 nx2 M hf _ _ _ hH hS (gLv_sub hl [0, 1, 2, 3] rfl)
      · replace hf := it_f hf hc33
        refine lv_aload_n X.1 X.2.1 dX12_next_36 rfl (lv_at hl.1 0 rfl) ?_
        refine g_get X cX12 hH (r := 29) (i := 0) (by decide) rfl 38 (by decide) k_439 rfl (v := .ref (gAd G 60 0)) rfl dX12_next_37 ?_
        refine lv_iconst X.1 X.2.1 dX12_next_40 (v := iI 4) rfl ?_
        refine lv_iload_n X.1 X.2.1 dX12_next_41 rfl (lv_at hl.1 3 rfl) ?_
        refine g_imul X dX12_next_42 ?_
        refine lv_iload X.1 X.2.1 dX12_next_43 (lv_at hl.1 4 rfl) ?_
        refine g_iadd X dX12_next_45 ?_
        obtain ⟨hg, hf_⟩ := og_e hf; clear hf; have hf := hf_; clear hf_
        have nd46 : nmI (M 60 0 (wI ((wI (4 * z3)) + x4)).toNat) := hH.1.1 _ _ _
        refine g_iald X hH (r := 60) (i := 0) (by decide) rfl (nmI_w _) hg (v := M 60 0 (wI ((wI (4 * z3)) + x4)).toNat) rfl dX12_next_46 ?_
        refine lv_iconst X.1 X.2.1 dX12_next_47 (v := iI 1) rfl ?_
        obtain ⟨k73, ek73, hf_⟩ := oj_e hf; clear hf; have hf := hf_; clear hf_
        have hk73 : ∀ (x1_73 : Int) (nx1_73 : nmI x1_73) (x2_73 : Int) (nx2_73 : nmI x2_73) (M_73 : gM), k73 x1_73 x2_73 M_73 = some q → ∀ (H : Heap) (locs : List Loc) (ls : Array Slot), gH G M_73 H → va_S (gA G) s.heap H locs → gLv ls 5 [(0, .ref (gAd G 29 0)), (1, .int (iI x1_73)), (2, .int (iI x2_73)), (3, .int (iI z3)), (4, .int (iI x4))] → W p l e { frames := 3, cells := 0, slots := 0, locals := 72 } s m args below meth c H locs 0 0 (MQ below (gQi G q.1 q.2) args s 0 0 (gA G)) (F0 m 73 ls []) := by
          intro x1_73 nx1_73 x2_73 nx2_73 M_73 hf H locs ls hH hS hl
          subst ek73
          refine g_iinc X (a := x4) (lv' := [(4, .int (iI (wI (x4 + 1)))), (0, .ref (gAd G 29 0)), (1, .int (iI x1_73)), (2, .int (iI x2_73)), (3, .int (iI z3))]) dX12_next_73 hl (k := 4) rfl (by decide) rfl (fun ls hl => ?_)
          refine lv_goto (tgt := 17) X.1 X.2.1 dX12_next_76 (by decide) ?_
          exact ih x1_73 nx1_73 x2_73 nx2_73 (wI (x4 + 1)) (nmI_w _) M_73 hf _ _ _ hH hS (gLv_sub hl [1, 2, 3, 4, 0] rfl)
        clear ek73
        refine g_icmp_ne X nd46 (nmI_l (by decide)) (tgt := 73) dX12_next_48 (by decide) (fun hc48 => ?_) (fun hc48 => ?_)
        · replace hf := it_f hf hc48
          exact hk73 x1 nx1 x2 nx2 M hf _ _ _ hH hS (gLv_sub hl [0, 1, 2, 3, 4] rfl)
        · replace hf := it_t hf hc48
          refine lv_aload_n X.1 X.2.1 dX12_next_51 rfl (lv_at hl.1 0 rfl) ?_
          refine lv_iload_n X.1 X.2.1 dX12_next_52 rfl (lv_at hl.1 3 rfl) ?_
          obtain ⟨r53, hq53, hf_⟩ := ob_e hf; clear hf; have hf := hf_; clear hf_
          refine gGoI (gRunV X hH (As := [.int (iI z3)]) (m_X12_wayOf l G z3 nz3 M _ hq53) calX12_wayOf k_1010 k_1123 k_498 (by decide) cX12 rfl ⟨by decide, by decide⟩ rfl hl rfl (Nat.le_of_ble_eq_true rfl) ⟨Nat.le_refl 0, Nat.le_refl 0⟩ dX12_next_53) hS (fun H locs nr53 hH hS => ?_)
          refine lv_iload_n X.1 X.2.1 dX12_next_56 rfl (lv_at hl.1 2 rfl) ?_
          refine g_icmp_le X nr53 nx2 (tgt := 73) dX12_next_57 (by decide) (fun hc57 => ?_) (fun hc57 => ?_)
          · replace hf := it_f hf hc57
            exact hk73 x1 nx1 x2 nx2 r53.2 hf _ _ _ hH hS (gLv_sub hl [0, 1, 2, 3, 4] rfl)
          · replace hf := it_t hf hc57
            refine lv_iconst X.1 X.2.1 dX12_next_60 (v := iI 4) rfl ?_
            refine lv_iload_n X.1 X.2.1 dX12_next_61 rfl (lv_at hl.1 3 rfl) ?_
            refine g_imul X dX12_next_62 ?_
            refine lv_iload X.1 X.2.1 dX12_next_63 (lv_at hl.1 4 rfl) ?_
            refine g_iadd X dX12_next_65 ?_
            refine g_istore_n X (lv' := [(1, .int (iI (wI ((wI (4 * z3)) + x4)))), (0, .ref (gAd G 29 0)), (2, .int (iI x2)), (3, .int (iI z3)), (4, .int (iI x4))]) dX12_next_66 rfl hl (by decide) rfl (fun ls hl => ?_)
            refine lv_aload_n X.1 X.2.1 dX12_next_67 rfl (lv_at hl.1 1 rfl) ?_
            refine lv_iload_n X.1 X.2.1 dX12_next_68 rfl (lv_at hl.1 3 rfl) ?_
            obtain ⟨r69, hq69, hf_⟩ := ob_e hf; clear hf; have hf := hf_; clear hf_
            refine gGoI (gRunV X hH (As := [.int (iI z3)]) (m_X12_wayOf l G z3 nz3 r53.2 _ hq69) calX12_wayOf k_1010 k_1123 k_498 (by decide) cX12 rfl ⟨by decide, by decide⟩ rfl hl rfl (Nat.le_of_ble_eq_true rfl) ⟨Nat.le_refl 0, Nat.le_refl 0⟩ dX12_next_69) hS (fun H locs nr69 hH hS => ?_)
            refine g_istore_n X (lv' := [(2, .int (iI r69.1)), (1, .int (iI (wI ((wI (4 * z3)) + x4)))), (0, .ref (gAd G 29 0)), (3, .int (iI z3)), (4, .int (iI x4))]) dX12_next_72 rfl hl (by decide) rfl (fun ls hl => ?_)
            exact hk73 (wI ((wI (4 * z3)) + x4)) (nmI_w _) r69.1 nr69 r69.2 hf _ _ _ hH hS (gLv_sub hl [2, 1, 0, 3, 4] rfl)
theorem w_X12_next_L6 {G : gG} {p : Program} {l : Launch} {e : Env} {s : State} {m : MethodId} {args : Array Value} {below : List Frame} {meth : Method} {c : Code} (X : gX G p s m args meth c RX12 cX12_next 5 (some .int) (gWs yX12_next cX12_next 5 (some .int))) (k85 : Int → gM → Option (Int × gM)) (q : (Int × gM)) (hk85 : ∀ (x1 : Int) (nx1 : nmI x1) (M : gM), k85 x1 M = some q → ∀ (H : Heap) (locs : List Loc) (ls : Array Slot), gH G M H → va_S (gA G) s.heap H locs → gLv ls 5 [(1, .int (iI x1))] → W p l e { frames := 3, cells := 0, slots := 0, locals := 72 } s m args below meth c H locs 0 0 (MQ below (gQi G q.1 q.2) args s 0 0 (gA G)) (F0 m 85 ls [])) : ∀ (n : Nat) (x1 : Int) (nx1 : nmI x1) (x2 : Int) (nx2 : nmI x2) (x3 : Int) (nx3 : nmI x3) (M : gM), f_X12_next_L6 k85 n x1 x2 x3 M = some q → ∀ (H : Heap) (locs : List Loc) (ls : Array Slot), gH G M H → va_S (gA G) s.heap H locs → gLv ls 5 [(0, .ref (gAd G 29 0)), (1, .int (iI x1)), (2, .int (iI x2)), (3, .int (iI x3))] → W p l e { frames := 3, cells := 0, slots := 0, locals := 72 } s m args below meth c H locs 0 0 (MQ below (gQi G q.1 q.2) args s 0 0 (gA G)) (F0 m 6 ls []) := by
  intro n
  induction n with
  | zero =>
    intro x1 nx1 x2 nx2 x3 nx3 M hf
    cases hf
  | succ n ih =>
    intro x1 nx1 x2 nx2 x3 nx3 M hf H locs ls hH hS hl
    rw [f_X12_next_L6] at hf
    refine lv_iload_n X.1 X.2.1 dX12_next_6 rfl (lv_at hl.1 3 rfl) ?_
    refine lv_aload_n X.1 X.2.1 dX12_next_7 rfl (lv_at hl.1 0 rfl) ?_
    have nd8 : nmI (M 29 0 7) := hH.1.1 _ _ _
    refine g_get X cX12 hH (r := 29) (i := 0) (by decide) rfl 7 (by decide) k_408 rfl (v := .int (iI (M 29 0 7))) rfl dX12_next_8 ?_
    refine g_icmp_ge X nx3 nd8 (tgt := 85) dX12_next_11 (by decide) (fun hc11 => ?_) (fun hc11 => ?_)
    · replace hf := it_f hf hc11
      exact hk85 x1 nx1 M hf _ _ _ hH hS (gLv_sub hl [1] rfl)
    · replace hf := it_t hf hc11
      refine lv_iconst X.1 X.2.1 dX12_next_14 (v := iI 0) rfl ?_
      refine g_istore X (lv' := [(4, .int (iI 0)), (0, .ref (gAd G 29 0)), (1, .int (iI x1)), (2, .int (iI x2)), (3, .int (iI x3))]) dX12_next_15 hl (by decide) rfl (fun ls hl => ?_)
      refine w_X12_next_L17 X _ x3 nx3 q ?_ 64 x1 nx1 x2 nx2 0 (nmI_l (by decide)) M hf _ _ _ hH hS (gLv_sub hl [1, 2, 3, 4, 0] rfl)
      · intro y1_17_79 ny1_17_79 y2_17_79 ny2_17_79 M_17_79 hf H locs ls hH hS hl
        refine g_iinc X (a := x3) (lv' := [(3, .int (iI (wI (x3 + 1)))), (0, .ref (gAd G 29 0)), (1, .int (iI y1_17_79)), (2, .int (iI y2_17_79))]) dX12_next_79 hl (k := 3) rfl (by decide) rfl (fun ls hl => ?_)
        refine lv_goto (tgt := 6) X.1 X.2.1 dX12_next_82 (by decide) ?_
        exact ih y1_17_79 ny1_17_79 y2_17_79 ny2_17_79 (wI (x3 + 1)) (nmI_w _) M_17_79 hf _ _ _ hH hS (gLv_sub hl [1, 2, 3, 0] rfl)
theorem m_X12_next (l : Launch) (G : gG)  (M : gM) (q : (Int × gM)) (hf : f_X12_next M = some q) : gMet l yX12_next cX12_next 5 (some .int) 3 72 G M [.ref (gAd G 29 0)] (gQi G q.1 q.2) := by
  refine gOfW (by decide) (by show _ ≤ 5; exact Nat.le_of_ble_eq_true rfl) rfl ?_
  intro p e s m below meth c X hH ls hl
  replace hl : gLv ls 5 [(0, .ref (gAd G 29 0))] := hl
  have hS : va_S (gA G) s.heap s.heap [] := va_S.rf
  generalize hargs : ([.ref (gAd G 29 0)] : List Value).toArray = args at X ⊢
  clear hargs
  unfold f_X12_next at hf
  refine lv_iconst X.1 X.2.1 dX12_next_0 (v := iI (-1)) rfl ?_
  refine g_istore_n X (lv' := [(1, .int (iI ((-1)))), (0, .ref (gAd G 29 0))]) dX12_next_1 rfl hl (by decide) rfl (fun ls hl => ?_)
  refine lv_iconst X.1 X.2.1 dX12_next_2 (v := iI (-1)) rfl ?_
  refine g_istore_n X (lv' := [(2, .int (iI ((-1)))), (1, .int (iI ((-1)))), (0, .ref (gAd G 29 0))]) dX12_next_3 rfl hl (by decide) rfl (fun ls hl => ?_)
  refine lv_iconst X.1 X.2.1 dX12_next_4 (v := iI 0) rfl ?_
  refine g_istore_n X (lv' := [(3, .int (iI 0)), (2, .int (iI ((-1)))), (1, .int (iI ((-1)))), (0, .ref (gAd G 29 0))]) dX12_next_5 rfl hl (by decide) rfl (fun ls hl => ?_)
  refine w_X12_next_L6 X _  q ?_ 64 ((-1)) (nmI_l (by decide)) ((-1)) (nmI_l (by decide)) 0 (nmI_l (by decide)) M hf _ _ _ hH hS (gLv_sub hl [3, 2, 1, 0] rfl)
  · intro y1_6_85 ny1_6_85 M_6_85 hf H locs ls hH hS hl
    refine lv_iload_n X.1 X.2.1 dX12_next_85 rfl (lv_at hl.1 0 rfl) ?_
    have hq := Option.some.inj hf; subst hq
    exact gRetI X hH hS (res := y1_6_85) ny1_6_85 dX12_next_86
theorem w_X12_idle_L4 {G : gG} {p : Program} {l : Launch} {e : Env} {s : State} {m : MethodId} {args : Array Value} {below : List Frame} {meth : Method} {c : Code} (X : gX G p s m args meth c RX12 cX12_idle 3 (some .int) (gWs yX12_idle cX12_idle 3 (some .int))) (k60 : Int → Option (Int)) (M : gM) (q : (Int)) (hk60 : ∀ (x1 : Int) (nx1 : nmI x1), k60 x1 = some q → ∀ (H : Heap) (locs : List Loc) (ls : Array Slot), gH G M H → va_S (gA G) s.heap H locs → gLv ls 3 [(1, .int (iI x1))] → W p l e { frames := 0, cells := 0, slots := 0, locals := 0 } s m args below meth c H locs 0 0 (MQ below (gQi G q M) args s 0 0 (gA G)) (F0 m 60 ls [])) : ∀ (n : Nat) (x1 : Int) (nx1 : nmI x1) (x2 : Int) (nx2 : nmI x2), f_X12_idle_L4 k60 M n x1 x2 = some q → ∀ (H : Heap) (locs : List Loc) (ls : Array Slot), gH G M H → va_S (gA G) s.heap H locs → gLv ls 3 [(0, .ref (gAd G 29 0)), (1, .int (iI x1)), (2, .int (iI x2))] → W p l e { frames := 0, cells := 0, slots := 0, locals := 0 } s m args below meth c H locs 0 0 (MQ below (gQi G q M) args s 0 0 (gA G)) (F0 m 4 ls []) := by
  intro n
  induction n with
  | zero =>
    intro x1 nx1 x2 nx2 hf
    cases hf
  | succ n ih =>
    intro x1 nx1 x2 nx2 hf H locs ls hH hS hl
    rw [f_X12_idle_L4] at hf
    refine lv_iload_n X.1 X.2.1 dX12_idle_4 rfl (lv_at hl.1 2 rfl) ?_
    refine lv_iconst X.1 X.2.1 dX12_idle_5 (v := iI 4) rfl ?_
    refine g_icmp_ge X nx2 (nmI_l (by decide)) (tgt := 60) dX12_idle_6 (by decide) (fun hc6 => ?_) (fun hc6 => ?_)
    · replace hf := it_f hf hc6
      exact hk60 x1 nx1 hf _ _ _ hH hS (gLv_sub hl [1] rfl)
    · replace hf := it_t hf hc6
      refine lv_aload_n X.1 X.2.1 dX12_idle_9 rfl (lv_at hl.1 0 rfl) ?_
      refine g_get X cX12 hH (r := 29) (i := 0) (by decide) rfl 30 (by decide) k_431 rfl (v := .ref (gAd G 54 0)) rfl dX12_idle_10 ?_
      refine lv_iload_n X.1 X.2.1 dX12_idle_13 rfl (lv_at hl.1 2 rfl) ?_
      obtain ⟨hg, hf_⟩ := og_e hf; clear hf; have hf := hf_; clear hf_
      have nd14 : nmI (M 54 0 x2.toNat) := hH.1.1 _ _ _
      refine g_iald X hH (r := 54) (i := 0) (by decide) rfl nx2 hg (v := M 54 0 x2.toNat) rfl dX12_idle_14 ?_
      refine lv_iconst X.1 X.2.1 dX12_idle_15 (v := iI (-1)) rfl ?_
      obtain ⟨k53, ek53, hf_⟩ := oj_e hf; clear hf; have hf := hf_; clear hf_
      have hk53 : ∀ (xs0_53 : Int) (nxs0_53 : nmI xs0_53), k53 xs0_53 = some q → ∀ (H : Heap) (locs : List Loc) (ls : Array Slot), gH G M H → va_S (gA G) s.heap H locs → gLv ls 3 [(0, .ref (gAd G 29 0)), (2, .int (iI x2))] → W p l e { frames := 0, cells := 0, slots := 0, locals := 0 } s m args below meth c H locs 0 0 (MQ below (gQi G q M) args s 0 0 (gA G)) (F0 m 53 ls [.int (iI xs0_53)]) := by
        intro xs0_53 nxs0_53 hf H locs ls hH hS hl
        subst ek53
        refine g_istore_n X (lv' := [(1, .int (iI xs0_53)), (0, .ref (gAd G 29 0)), (2, .int (iI x2))]) dX12_idle_53 rfl hl (by decide) rfl (fun ls hl => ?_)
        refine g_iinc X (a := x2) (lv' := [(2, .int (iI (wI (x2 + 1)))), (1, .int (iI xs0_53)), (0, .ref (gAd G 29 0))]) dX12_idle_54 hl (k := 2) rfl (by decide) rfl (fun ls hl => ?_)
        refine lv_goto (tgt := 4) X.1 X.2.1 dX12_idle_57 (by decide) ?_
        exact ih xs0_53 nxs0_53 (wI (x2 + 1)) (nmI_w _) hf _ _ _ hH hS (gLv_sub hl [2, 1, 0] rfl)
      clear ek53
      obtain ⟨k52, ek52, hf_⟩ := oj_e hf; clear hf; have hf := hf_; clear hf_
      have hk52 : k52 = some q → ∀ (H : Heap) (locs : List Loc) (ls : Array Slot), gH G M H → va_S (gA G) s.heap H locs → gLv ls 3 [(0, .ref (gAd G 29 0)), (1, .int (iI x1)), (2, .int (iI x2))] → W p l e { frames := 0, cells := 0, slots := 0, locals := 0 } s m args below meth c H locs 0 0 (MQ below (gQi G q M) args s 0 0 (gA G)) (F0 m 52 ls []) := by
        intro  hf H locs ls hH hS hl
        subst ek52
        refine lv_iload_n X.1 X.2.1 dX12_idle_52 rfl (lv_at hl.1 1 rfl) ?_
        exact hk53 x1 nx1 hf _ _ _ hH hS (gLv_sub hl [0, 2] rfl)
      clear ek52
      refine g_icmp_ne X nd14 (nmI_l (by decide)) (tgt := 52) dX12_idle_16 (by decide) (fun hc16 => ?_) (fun hc16 => ?_)
      · replace hf := it_f hf hc16
        exact hk52  hf _ _ _ hH hS (gLv_sub hl [0, 1, 2] rfl)
      · replace hf := it_t hf hc16
        refine lv_aload_n X.1 X.2.1 dX12_idle_19 rfl (lv_at hl.1 0 rfl) ?_
        refine g_get X cX12 hH (r := 29) (i := 0) (by decide) rfl 29 (by decide) k_430 rfl (v := .ref (gAd G 53 0)) rfl dX12_idle_20 ?_
        refine lv_iload_n X.1 X.2.1 dX12_idle_23 rfl (lv_at hl.1 2 rfl) ?_
        obtain ⟨hg, hf_⟩ := og_e hf; clear hf; have hf := hf_; clear hf_
        have nd24 : nmI (M 53 0 x2.toNat) := hH.1.1 _ _ _
        refine g_iald X hH (r := 53) (i := 0) (by decide) rfl nx2 hg (v := M 53 0 x2.toNat) rfl dX12_idle_24 ?_
        refine g_if_le X nd24 (tgt := 52) dX12_idle_25 (by decide) (fun hc25 => ?_) (fun hc25 => ?_)
        · replace hf := it_f hf hc25
          exact hk52  hf _ _ _ hH hS (gLv_sub hl [0, 1, 2] rfl)
        · replace hf := it_t hf hc25
          refine lv_iload_n X.1 X.2.1 dX12_idle_28 rfl (lv_at hl.1 1 rfl) ?_
          refine lv_iconst X.1 X.2.1 dX12_idle_29 (v := iI (-1)) rfl ?_
          obtain ⟨k48, ek48, hf_⟩ := oj_e hf; clear hf; have hf := hf_; clear hf_
          have hk48 : k48 = some q → ∀ (H : Heap) (locs : List Loc) (ls : Array Slot), gH G M H → va_S (gA G) s.heap H locs → gLv ls 3 [(0, .ref (gAd G 29 0)), (2, .int (iI x2))] → W p l e { frames := 0, cells := 0, slots := 0, locals := 0 } s m args below meth c H locs 0 0 (MQ below (gQi G q M) args s 0 0 (gA G)) (F0 m 48 ls []) := by
            intro  hf H locs ls hH hS hl
            subst ek48
            refine lv_iload_n X.1 X.2.1 dX12_idle_48 rfl (lv_at hl.1 1 rfl) ?_
            refine lv_goto (tgt := 53) X.1 X.2.1 dX12_idle_49 (by decide) ?_
            exact hk53 x2 nx2 hf _ _ _ hH hS (gLv_sub hl [0, 1] rfl)
          clear ek48
          refine g_icmp_eq X nx1 (nmI_l (by decide)) (tgt := 48) dX12_idle_30 (by decide) (fun hc30 => ?_) (fun hc30 => ?_)
          · replace hf := it_t hf hc30
            exact hk48  hf _ _ _ hH hS (gLv_sub hl [0, 2] rfl)
          · replace hf := it_f hf hc30
            refine lv_aload_n X.1 X.2.1 dX12_idle_33 rfl (lv_at hl.1 0 rfl) ?_
            refine g_get X cX12 hH (r := 29) (i := 0) (by decide) rfl 29 (by decide) k_430 rfl (v := .ref (gAd G 53 0)) rfl dX12_idle_34 ?_
            refine lv_iload_n X.1 X.2.1 dX12_idle_37 rfl (lv_at hl.1 2 rfl) ?_
            obtain ⟨hg, hf_⟩ := og_e hf; clear hf; have hf := hf_; clear hf_
            have nd38 : nmI (M 53 0 x2.toNat) := hH.1.1 _ _ _
            refine g_iald X hH (r := 53) (i := 0) (by decide) rfl nx2 hg (v := M 53 0 x2.toNat) rfl dX12_idle_38 ?_
            refine lv_aload_n X.1 X.2.1 dX12_idle_39 rfl (lv_at hl.1 0 rfl) ?_
            refine g_get X cX12 hH (r := 29) (i := 0) (by decide) rfl 29 (by decide) k_430 rfl (v := .ref (gAd G 53 0)) rfl dX12_idle_40 ?_
            refine lv_iload_n X.1 X.2.1 dX12_idle_43 rfl (lv_at hl.1 1 rfl) ?_
            obtain ⟨hg, hf_⟩ := og_e hf; clear hf; have hf := hf_; clear hf_
            have nd44 : nmI (M 53 0 x1.toNat) := hH.1.1 _ _ _
            refine g_iald X hH (r := 53) (i := 0) (by decide) rfl nx1 hg (v := M 53 0 x1.toNat) rfl dX12_idle_44 ?_
            refine g_icmp_le X nd38 nd44 (tgt := 52) dX12_idle_45 (by decide) (fun hc45 => ?_) (fun hc45 => ?_)
            · replace hf := it_f hf hc45
              exact hk52  hf _ _ _ hH hS (gLv_sub hl [0, 1, 2] rfl)
            · replace hf := it_t hf hc45
              exact hk48  hf _ _ _ hH hS (gLv_sub hl [0, 2] rfl)
theorem m_X12_idle (l : Launch) (G : gG)  (M : gM) (q : (Int)) (hf : f_X12_idle M = some q) : gMet l yX12_idle cX12_idle 3 (some .int) 0 0 G M [.ref (gAd G 29 0)] (gQi G q M) := by
  refine gOfW (by decide) (by show _ ≤ 3; exact Nat.le_of_ble_eq_true rfl) rfl ?_
  intro p e s m below meth c X hH ls hl
  replace hl : gLv ls 3 [(0, .ref (gAd G 29 0))] := hl
  have hS : va_S (gA G) s.heap s.heap [] := va_S.rf
  generalize hargs : ([.ref (gAd G 29 0)] : List Value).toArray = args at X ⊢
  clear hargs
  unfold f_X12_idle at hf
  refine lv_iconst X.1 X.2.1 dX12_idle_0 (v := iI (-1)) rfl ?_
  refine g_istore_n X (lv' := [(1, .int (iI ((-1)))), (0, .ref (gAd G 29 0))]) dX12_idle_1 rfl hl (by decide) rfl (fun ls hl => ?_)
  refine lv_iconst X.1 X.2.1 dX12_idle_2 (v := iI 0) rfl ?_
  refine g_istore_n X (lv' := [(2, .int (iI 0)), (1, .int (iI ((-1)))), (0, .ref (gAd G 29 0))]) dX12_idle_3 rfl hl (by decide) rfl (fun ls hl => ?_)
  refine w_X12_idle_L4 X _ M q ?_ 64 ((-1)) (nmI_l (by decide)) 0 (nmI_l (by decide)) hf _ _ _ hH hS (gLv_sub hl [2, 1, 0] rfl)
  · intro y1_4_60 ny1_4_60 hf H locs ls hH hS hl
    refine lv_iload_n X.1 X.2.1 dX12_idle_60 rfl (lv_at hl.1 0 rfl) ?_
    have hq := Option.some.inj hf; subst hq
    exact gRetI X hH hS (res := y1_4_60) ny1_4_60 dX12_idle_61
theorem m_X12_ticksOf (l : Launch) (G : gG) (v1 : Int) (nv1 : nmI v1) (v2 : Int) (nv2 : nmI v2) (M : gM) (q : (Int)) (hf : f_X12_ticksOf v1 v2 M = some q) : gMet l yX12_ticksOf cX12_ticksOf 6 (some .int) 0 0 G M [.ref (gAd G 29 0), .int (iI v1), .int (iI v2)] (gQi G q M) := by
  refine gOfW (by decide) (by show _ ≤ 6; exact Nat.le_of_ble_eq_true rfl) rfl ?_
  intro p e s m below meth c X hH ls hl
  replace hl : gLv ls 6 [(0, .ref (gAd G 29 0)), (1, .int (iI v1)), (2, .int (iI v2))] := hl
  have hS : va_S (gA G) s.heap s.heap [] := va_S.rf
  generalize hargs : ([.ref (gAd G 29 0), .int (iI v1), .int (iI v2)] : List Value).toArray = args at X ⊢
  clear hargs
  unfold f_X12_ticksOf at hf
  refine lv_iload_n X.1 X.2.1 dX12_ticksOf_0 rfl (lv_at hl.1 1 rfl) ?_
  refine lv_iconst X.1 X.2.1 dX12_ticksOf_1 (v := iI 4) rfl ?_
  refine g_idiv X nv1 (nmI_l (by decide)) (by decide) dX12_ticksOf_2 ?_
  refine g_istore_n X (lv' := [(3, .int (iI (wI (v1.tdiv 4)))), (0, .ref (gAd G 29 0)), (1, .int (iI v1)), (2, .int (iI v2))]) dX12_ticksOf_3 rfl hl (by decide) rfl (fun ls hl => ?_)
  refine lv_bipush X.1 X.2.1 dX12_ticksOf_4 (v := iI 6) (by decide) ?_
  refine lv_iconst X.1 X.2.1 dX12_ticksOf_6 (v := iI 2) rfl ?_
  refine lv_aload_n X.1 X.2.1 dX12_ticksOf_7 rfl (lv_at hl.1 1 rfl) ?_
  refine g_get X cX12 hH (r := 29) (i := 0) (by decide) rfl 14 (by decide) k_415 rfl (v := .ref (gAd G 41 0)) rfl dX12_ticksOf_8 ?_
  refine lv_iload_n X.1 X.2.1 dX12_ticksOf_11 rfl (lv_at hl.1 0 rfl) ?_
  obtain ⟨hg, hf_⟩ := og_e hf; clear hf; have hf := hf_; clear hf_
  have nd12 : nmI (M 41 0 (wI (v1.tdiv 4)).toNat) := hH.1.1 _ _ _
  refine g_iald X hH (r := 41) (i := 0) (by decide) rfl (nmI_w _) hg (v := M 41 0 (wI (v1.tdiv 4)).toNat) rfl dX12_ticksOf_12 ?_
  refine g_imul X dX12_ticksOf_13 ?_
  refine g_iadd X dX12_ticksOf_14 ?_
  refine lv_aload_n X.1 X.2.1 dX12_ticksOf_15 rfl (lv_at hl.1 1 rfl) ?_
  refine g_get X cX12 hH (r := 29) (i := 0) (by decide) rfl 8 (by decide) k_409 rfl (v := .ref (gAd G 35 0)) rfl dX12_ticksOf_16 ?_
  refine lv_iload_n X.1 X.2.1 dX12_ticksOf_19 rfl (lv_at hl.1 0 rfl) ?_
  obtain ⟨hg, hf_⟩ := og_e hf; clear hf; have hf := hf_; clear hf_
  have nd20 : nmI (M 35 0 (wI (v1.tdiv 4)).toNat) := hH.1.1 _ _ _
  refine g_iald X hH (r := 35) (i := 0) (by decide) rfl (nmI_w _) hg (v := M 35 0 (wI (v1.tdiv 4)).toNat) rfl dX12_ticksOf_20 ?_
  refine lv_iconst X.1 X.2.1 dX12_ticksOf_21 (v := iI 1) rfl ?_
  obtain ⟨k30, ek30, hf_⟩ := oj_e hf; clear hf; have hf := hf_; clear hf_
  have hk30 : ∀ (xs1_30 : Int) (nxs1_30 : nmI xs1_30), k30 xs1_30 = some q → ∀ (H : Heap) (locs : List Loc) (ls : Array Slot), gH G M H → va_S (gA G) s.heap H locs → gLv ls 6 [(0, .ref (gAd G 29 0)), (2, .int (iI v2)), (3, .int (iI (wI (v1.tdiv 4))))] → W p l e { frames := 0, cells := 0, slots := 0, locals := 0 } s m args below meth c H locs 0 0 (MQ below (gQi G q M) args s 0 0 (gA G)) (F0 m 30 ls [.int (iI xs1_30), .int (iI (wI (6 + (wI (2 * (M 41 0 (wI (v1.tdiv 4)).toNat))))))]) := by
    intro xs1_30 nxs1_30 hf H locs ls hH hS hl
    subst ek30
    refine g_iadd X dX12_ticksOf_30 ?_
    refine g_istore X (lv' := [(4, .int (iI (wI ((wI (6 + (wI (2 * (M 41 0 (wI (v1.tdiv 4)).toNat))))) + xs1_30)))), (0, .ref (gAd G 29 0)), (2, .int (iI v2)), (3, .int (iI (wI (v1.tdiv 4))))]) dX12_ticksOf_31 hl (by decide) rfl (fun ls hl => ?_)
    refine lv_iload X.1 X.2.1 dX12_ticksOf_33 (lv_at hl.1 0 rfl) ?_
    refine lv_aload_n X.1 X.2.1 dX12_ticksOf_35 rfl (lv_at hl.1 1 rfl) ?_
    refine g_get X cX12 hH (r := 29) (i := 0) (by decide) rfl 29 (by decide) k_430 rfl (v := .ref (gAd G 53 0)) rfl dX12_ticksOf_36 ?_
    refine lv_iload_n X.1 X.2.1 dX12_ticksOf_39 rfl (lv_at hl.1 2 rfl) ?_
    obtain ⟨hg, hf_⟩ := og_e hf; clear hf; have hf := hf_; clear hf_
    have nd40 : nmI (M 53 0 v2.toNat) := hH.1.1 _ _ _
    refine g_iald X hH (r := 53) (i := 0) (by decide) rfl nv2 hg (v := M 53 0 v2.toNat) rfl dX12_ticksOf_40 ?_
    refine g_iadd X dX12_ticksOf_41 ?_
    refine lv_iconst X.1 X.2.1 dX12_ticksOf_42 (v := iI 1) rfl ?_
    refine g_isub X dX12_ticksOf_43 ?_
    refine lv_aload_n X.1 X.2.1 dX12_ticksOf_44 rfl (lv_at hl.1 1 rfl) ?_
    refine g_get X cX12 hH (r := 29) (i := 0) (by decide) rfl 29 (by decide) k_430 rfl (v := .ref (gAd G 53 0)) rfl dX12_ticksOf_45 ?_
    refine lv_iload_n X.1 X.2.1 dX12_ticksOf_48 rfl (lv_at hl.1 2 rfl) ?_
    obtain ⟨hg, hf_⟩ := og_e hf; clear hf; have hf := hf_; clear hf_
    have nd49 : nmI (M 53 0 v2.toNat) := hH.1.1 _ _ _
    refine g_iald X hH (r := 53) (i := 0) (by decide) rfl nv2 hg (v := M 53 0 v2.toNat) rfl dX12_ticksOf_49 ?_
    obtain ⟨hz, hf_⟩ := og_e hf; clear hf; have hf := hf_; clear hf_
    refine g_idiv X (nmI_w _) nd49 hz dX12_ticksOf_50 ?_
    refine g_istore X (lv' := [(5, .int (iI (wI ((wI ((wI ((wI ((wI (6 + (wI (2 * (M 41 0 (wI (v1.tdiv 4)).toNat))))) + xs1_30)) + (M 53 0 v2.toNat))) - 1)).tdiv (M 53 0 v2.toNat))))), (4, .int (iI (wI ((wI (6 + (wI (2 * (M 41 0 (wI (v1.tdiv 4)).toNat))))) + xs1_30)))), (0, .ref (gAd G 29 0)), (2, .int (iI v2)), (3, .int (iI (wI (v1.tdiv 4))))]) dX12_ticksOf_51 hl (by decide) rfl (fun ls hl => ?_)
    refine lv_iload X.1 X.2.1 dX12_ticksOf_53 (lv_at hl.1 0 rfl) ?_
    refine lv_aload_n X.1 X.2.1 dX12_ticksOf_55 rfl (lv_at hl.1 2 rfl) ?_
    refine g_get X cX12 hH (r := 29) (i := 0) (by decide) rfl 35 (by decide) k_436 rfl (v := .ref (gAd G 59 0)) rfl dX12_ticksOf_56 ?_
    refine lv_iload_n X.1 X.2.1 dX12_ticksOf_59 rfl (lv_at hl.1 3 rfl) ?_
    obtain ⟨hg, hf_⟩ := og_e hf; clear hf; have hf := hf_; clear hf_
    have nd60 : nmI (M 59 0 v2.toNat) := hH.1.1 _ _ _
    refine g_iald X hH (r := 59) (i := 0) (by decide) rfl nv2 hg (v := M 59 0 v2.toNat) rfl dX12_ticksOf_60 ?_
    refine lv_aload_n X.1 X.2.1 dX12_ticksOf_61 rfl (lv_at hl.1 2 rfl) ?_
    refine g_get X cX12 hH (r := 29) (i := 0) (by decide) rfl 9 (by decide) k_410 rfl (v := .ref (gAd G 36 0)) rfl dX12_ticksOf_62 ?_
    refine lv_iload_n X.1 X.2.1 dX12_ticksOf_65 rfl (lv_at hl.1 4 rfl) ?_
    obtain ⟨hg, hf_⟩ := og_e hf; clear hf; have hf := hf_; clear hf_
    have nd66 : nmI (M 36 0 (wI (v1.tdiv 4)).toNat) := hH.1.1 _ _ _
    refine g_iald X hH (r := 36) (i := 0) (by decide) rfl (nmI_w _) hg (v := M 36 0 (wI (v1.tdiv 4)).toNat) rfl dX12_ticksOf_66 ?_
    obtain ⟨k75, ek75, hf_⟩ := oj_e hf; clear hf; have hf := hf_; clear hf_
    have hk75 : ∀ (xs1_75 : Int) (nxs1_75 : nmI xs1_75), k75 xs1_75 = some q → ∀ (H : Heap) (locs : List Loc) (ls : Array Slot), gH G M H → va_S (gA G) s.heap H locs → gLv ls 6 [] → W p l e { frames := 0, cells := 0, slots := 0, locals := 0 } s m args below meth c H locs 0 0 (MQ below (gQi G q M) args s 0 0 (gA G)) (F0 m 75 ls [.int (iI xs1_75), .int (iI (wI ((wI ((wI ((wI ((wI (6 + (wI (2 * (M 41 0 (wI (v1.tdiv 4)).toNat))))) + xs1_30)) + (M 53 0 v2.toNat))) - 1)).tdiv (M 53 0 v2.toNat))))]) := by
      intro xs1_75 nxs1_75 hf H locs ls hH hS hl
      subst ek75
      refine g_isub X dX12_ticksOf_75 ?_
      refine g_istore X (lv' := [(5, .int (iI (wI ((wI ((wI ((wI ((wI ((wI (6 + (wI (2 * (M 41 0 (wI (v1.tdiv 4)).toNat))))) + xs1_30)) + (M 53 0 v2.toNat))) - 1)).tdiv (M 53 0 v2.toNat))) - xs1_75))))]) dX12_ticksOf_76 hl (by decide) rfl (fun ls hl => ?_)
      refine lv_iload X.1 X.2.1 dX12_ticksOf_78 (lv_at hl.1 0 rfl) ?_
      refine lv_iconst X.1 X.2.1 dX12_ticksOf_80 (v := iI 1) rfl ?_
      refine g_icmp_ge X (nmI_w _) (nmI_l (by decide)) (tgt := 88) dX12_ticksOf_81 (by decide) (fun hc81 => ?_) (fun hc81 => ?_)
      · replace hf := it_f hf hc81
        refine lv_iload X.1 X.2.1 dX12_ticksOf_88 (lv_at hl.1 0 rfl) ?_
        have hq := Option.some.inj hf; subst hq
        exact gRetI X hH hS (res := wI ((wI ((wI ((wI ((wI ((wI (6 + (wI (2 * (M 41 0 (wI (v1.tdiv 4)).toNat))))) + xs1_30)) + (M 53 0 v2.toNat))) - 1)).tdiv (M 53 0 v2.toNat))) - xs1_75)) (nmI_w _) dX12_ticksOf_90
      · replace hf := it_t hf hc81
        refine lv_iconst X.1 X.2.1 dX12_ticksOf_84 (v := iI 1) rfl ?_
        refine lv_goto (tgt := 90) X.1 X.2.1 dX12_ticksOf_85 (by decide) ?_
        have hq := Option.some.inj hf; subst hq
        exact gRetI X hH hS (res := 1) (nmI_l (by decide)) dX12_ticksOf_90
    clear ek75
    refine g_icmp_ne X nd60 nd66 (tgt := 74) dX12_ticksOf_67 (by decide) (fun hc67 => ?_) (fun hc67 => ?_)
    · replace hf := it_f hf hc67
      refine lv_iconst X.1 X.2.1 dX12_ticksOf_74 (v := iI 0) rfl ?_
      exact hk75 0 (nmI_l (by decide)) hf _ _ _ hH hS (gLv_sub hl [] rfl)
    · replace hf := it_t hf hc67
      refine lv_iconst X.1 X.2.1 dX12_ticksOf_70 (v := iI 2) rfl ?_
      refine lv_goto (tgt := 75) X.1 X.2.1 dX12_ticksOf_71 (by decide) ?_
      exact hk75 2 (nmI_l (by decide)) hf _ _ _ hH hS (gLv_sub hl [] rfl)
  clear ek30
  refine g_icmp_ne X nd20 (nmI_l (by decide)) (tgt := 29) dX12_ticksOf_22 (by decide) (fun hc22 => ?_) (fun hc22 => ?_)
  · replace hf := it_f hf hc22
    refine lv_iconst X.1 X.2.1 dX12_ticksOf_29 (v := iI 0) rfl ?_
    exact hk30 0 (nmI_l (by decide)) hf _ _ _ hH hS (gLv_sub hl [1, 3, 0] rfl)
  · replace hf := it_t hf hc22
    refine lv_iconst X.1 X.2.1 dX12_ticksOf_25 (v := iI 4) rfl ?_
    refine lv_goto (tgt := 30) X.1 X.2.1 dX12_ticksOf_26 (by decide) ?_
    exact hk30 4 (nmI_l (by decide)) hf _ _ _ hH hS (gLv_sub hl [1, 3, 0] rfl)
theorem m_X12_begins (l : Launch) (G : gG) (v1 : Int) (nv1 : nmI v1) (v2 : Int) (nv2 : nmI v2) (M : gM) (q : gM) (hf : f_X12_begins v1 v2 M = some q) : gMet l yX12_begins cX12_begins 4 none 3 69 G M [.ref (gAd G 29 0), .int (iI v1), .int (iI v2)] (gQv G q) := by
  refine gOfW (by decide) (by show _ ≤ 4; exact Nat.le_of_ble_eq_true rfl) rfl ?_
  intro p e s m below meth c X hH ls hl
  replace hl : gLv ls 4 [(0, .ref (gAd G 29 0)), (1, .int (iI v1)), (2, .int (iI v2))] := hl
  have hS : va_S (gA G) s.heap s.heap [] := va_S.rf
  generalize hargs : ([.ref (gAd G 29 0), .int (iI v1), .int (iI v2)] : List Value).toArray = args at X ⊢
  clear hargs
  unfold f_X12_begins at hf
  refine lv_aload_n X.1 X.2.1 dX12_begins_0 rfl (lv_at hl.1 0 rfl) ?_
  refine g_get X cX12 hH (r := 29) (i := 0) (by decide) rfl 30 (by decide) k_431 rfl (v := .ref (gAd G 54 0)) rfl dX12_begins_1 ?_
  refine lv_iload_n X.1 X.2.1 dX12_begins_4 rfl (lv_at hl.1 2 rfl) ?_
  refine lv_iload_n X.1 X.2.1 dX12_begins_5 rfl (lv_at hl.1 1 rfl) ?_
  obtain ⟨hg, hf_⟩ := og_e hf; clear hf; have hf := hf_; clear hf_
  refine g_iast X hH hS (r := 54) (i := 0) (by decide) (fun _ => rfl) nv2 hg nv1 rfl (by decide) dX12_begins_6 (fun H locs hH hS => ?_)
  refine lv_aload_n X.1 X.2.1 dX12_begins_7 rfl (lv_at hl.1 0 rfl) ?_
  refine g_get X cX12 hH (r := 29) (i := 0) (by decide) rfl 32 (by decide) k_433 rfl (v := .ref (gAd G 56 0)) rfl dX12_begins_8 ?_
  refine lv_iload_n X.1 X.2.1 dX12_begins_11 rfl (lv_at hl.1 2 rfl) ?_
  refine lv_aload_n X.1 X.2.1 dX12_begins_12 rfl (lv_at hl.1 0 rfl) ?_
  refine lv_iload_n X.1 X.2.1 dX12_begins_13 rfl (lv_at hl.1 1 rfl) ?_
  refine lv_iload_n X.1 X.2.1 dX12_begins_14 rfl (lv_at hl.1 2 rfl) ?_
  obtain ⟨r15, hq15, hf_⟩ := ob_e hf; clear hf; have hf := hf_; clear hf_
  refine gGoI (gRunV X hH (As := [.int (iI v1), .int (iI v2)]) (m_X12_ticksOf l G v1 nv1 v2 nv2 (gU M 54 0 v2.toNat v1) _ hq15) calX12_ticksOf k_1018 k_1127 k_502 (by decide) cX12 rfl ⟨by decide, by decide⟩ rfl hl rfl (Nat.le_of_ble_eq_true rfl) ⟨Nat.le_refl 0, Nat.le_refl 0⟩ dX12_begins_15) hS (fun H locs nr15 hH hS => ?_)
  obtain ⟨hg, hf_⟩ := og_e hf; clear hf; have hf := hf_; clear hf_
  refine g_iast X hH hS (r := 56) (i := 0) (by decide) (fun _ => rfl) nv2 hg nr15 rfl (by decide) dX12_begins_18 (fun H locs hH hS => ?_)
  refine lv_aload_n X.1 X.2.1 dX12_begins_19 rfl (lv_at hl.1 0 rfl) ?_
  refine g_get X cX12 hH (r := 29) (i := 0) (by decide) rfl 31 (by decide) k_432 rfl (v := .ref (gAd G 55 0)) rfl dX12_begins_20 ?_
  refine lv_iload_n X.1 X.2.1 dX12_begins_23 rfl (lv_at hl.1 2 rfl) ?_
  refine lv_aload_n X.1 X.2.1 dX12_begins_24 rfl (lv_at hl.1 0 rfl) ?_
  refine g_get X cX12 hH (r := 29) (i := 0) (by decide) rfl 32 (by decide) k_433 rfl (v := .ref (gAd G 56 0)) rfl dX12_begins_25 ?_
  refine lv_iload_n X.1 X.2.1 dX12_begins_28 rfl (lv_at hl.1 2 rfl) ?_
  obtain ⟨hg, hf_⟩ := og_e hf; clear hf; have hf := hf_; clear hf_
  have nd29 : nmI ((gU (gU M 54 0 v2.toNat v1) 56 0 v2.toNat r15) 56 0 v2.toNat) := hH.1.1 _ _ _
  refine g_iald X hH (r := 56) (i := 0) (by decide) rfl nv2 hg (v := (gU (gU M 54 0 v2.toNat v1) 56 0 v2.toNat r15) 56 0 v2.toNat) rfl dX12_begins_29 ?_
  obtain ⟨hg, hf_⟩ := og_e hf; clear hf; have hf := hf_; clear hf_
  refine g_iast X hH hS (r := 55) (i := 0) (by decide) (fun _ => rfl) nv2 hg nd29 rfl (by decide) dX12_begins_30 (fun H locs hH hS => ?_)
  refine lv_aload_n X.1 X.2.1 dX12_begins_31 rfl (lv_at hl.1 0 rfl) ?_
  refine g_get X cX12 hH (r := 29) (i := 0) (by decide) rfl 33 (by decide) k_434 rfl (v := .ref (gAd G 57 0)) rfl dX12_begins_32 ?_
  refine lv_iload_n X.1 X.2.1 dX12_begins_35 rfl (lv_at hl.1 2 rfl) ?_
  refine lv_aload_n X.1 X.2.1 dX12_begins_36 rfl (lv_at hl.1 0 rfl) ?_
  refine lv_iload_n X.1 X.2.1 dX12_begins_37 rfl (lv_at hl.1 1 rfl) ?_
  obtain ⟨r38, hq38, hf_⟩ := ob_e hf; clear hf; have hf := hf_; clear hf_
  refine gGoI (gRunV X hH (As := [.int (iI v1)]) (m_X12_keyOf l G v1 nv1 (gU (gU (gU M 54 0 v2.toNat v1) 56 0 v2.toNat r15) 55 0 v2.toNat ((gU (gU M 54 0 v2.toNat v1) 56 0 v2.toNat r15) 56 0 v2.toNat)) _ hq38) calX12_keyOf k_993 k_1116 k_490 (by decide) cX12 rfl ⟨by decide, by decide⟩ rfl hl rfl (Nat.le_of_ble_eq_true rfl) ⟨Nat.le_refl 0, Nat.le_refl 0⟩ dX12_begins_38) hS (fun H locs nr38 hH hS => ?_)
  obtain ⟨hg, hf_⟩ := og_e hf; clear hf; have hf := hf_; clear hf_
  refine g_iast X hH hS (r := 57) (i := 0) (by decide) (fun _ => rfl) nv2 hg nr38 rfl (by decide) dX12_begins_41 (fun H locs hH hS => ?_)
  refine lv_aload_n X.1 X.2.1 dX12_begins_42 rfl (lv_at hl.1 0 rfl) ?_
  refine lv_iload_n X.1 X.2.1 dX12_begins_43 rfl (lv_at hl.1 1 rfl) ?_
  refine lv_iconst X.1 X.2.1 dX12_begins_44 (v := iI 4) rfl ?_
  refine g_idiv X nv1 (nmI_l (by decide)) (by decide) dX12_begins_45 ?_
  refine lv_aload_n X.1 X.2.1 dX12_begins_46 rfl (lv_at hl.1 0 rfl) ?_
  refine g_get X cX12 hH (r := 29) (i := 0) (by decide) rfl 33 (by decide) k_434 rfl (v := .ref (gAd G 57 0)) rfl dX12_begins_47 ?_
  refine lv_iload_n X.1 X.2.1 dX12_begins_50 rfl (lv_at hl.1 2 rfl) ?_
  obtain ⟨hg, hf_⟩ := og_e hf; clear hf; have hf := hf_; clear hf_
  have nd51 : nmI ((gU (gU (gU (gU M 54 0 v2.toNat v1) 56 0 v2.toNat r15) 55 0 v2.toNat ((gU (gU M 54 0 v2.toNat v1) 56 0 v2.toNat r15) 56 0 v2.toNat)) 57 0 v2.toNat r38) 57 0 v2.toNat) := hH.1.1 _ _ _
  refine g_iald X hH (r := 57) (i := 0) (by decide) rfl nv2 hg (v := (gU (gU (gU (gU M 54 0 v2.toNat v1) 56 0 v2.toNat r15) 55 0 v2.toNat ((gU (gU M 54 0 v2.toNat v1) 56 0 v2.toNat r15) 56 0 v2.toNat)) 57 0 v2.toNat r38) 57 0 v2.toNat) rfl dX12_begins_51 ?_
  obtain ⟨r52, hq52, hf_⟩ := ob_e hf; clear hf; have hf := hf_; clear hf_
  refine gGoI (gRunV X hH (As := [.int (iI (wI (v1.tdiv 4))), .int (iI ((gU (gU (gU (gU M 54 0 v2.toNat v1) 56 0 v2.toNat r15) 55 0 v2.toNat ((gU (gU M 54 0 v2.toNat v1) 56 0 v2.toNat r15) 56 0 v2.toNat)) 57 0 v2.toNat r38) 57 0 v2.toNat))]) (m_X12_foundBy l G (wI (v1.tdiv 4)) (nmI_w _) ((gU (gU (gU (gU M 54 0 v2.toNat v1) 56 0 v2.toNat r15) 55 0 v2.toNat ((gU (gU M 54 0 v2.toNat v1) 56 0 v2.toNat r15) 56 0 v2.toNat)) 57 0 v2.toNat r38) 57 0 v2.toNat) nd51 (gU (gU (gU (gU M 54 0 v2.toNat v1) 56 0 v2.toNat r15) 55 0 v2.toNat ((gU (gU M 54 0 v2.toNat v1) 56 0 v2.toNat r15) 56 0 v2.toNat)) 57 0 v2.toNat r38) _ hq52) calX12_foundBy k_999 k_1119 k_493 (by decide) cX12 rfl ⟨by decide, by decide⟩ rfl hl rfl (Nat.le_of_ble_eq_true rfl) ⟨Nat.le_refl 0, Nat.le_refl 0⟩ dX12_begins_52) hS (fun H locs nr52 hH hS => ?_)
  refine g_istore_n X (lv' := [(3, .int (iI r52)), (0, .ref (gAd G 29 0)), (1, .int (iI v1)), (2, .int (iI v2))]) dX12_begins_55 rfl hl (by decide) rfl (fun ls hl => ?_)
  refine lv_aload_n X.1 X.2.1 dX12_begins_56 rfl (lv_at hl.1 1 rfl) ?_
  refine g_get X cX12 hH (r := 29) (i := 0) (by decide) rfl 34 (by decide) k_435 rfl (v := .ref (gAd G 58 0)) rfl dX12_begins_57 ?_
  refine lv_iload_n X.1 X.2.1 dX12_begins_60 rfl (lv_at hl.1 3 rfl) ?_
  refine lv_iload_n X.1 X.2.1 dX12_begins_61 rfl (lv_at hl.1 0 rfl) ?_
  refine lv_iconst X.1 X.2.1 dX12_begins_62 (v := iI (-1)) rfl ?_
  obtain ⟨k76, ek76, hf_⟩ := oj_e hf; clear hf; have hf := hf_; clear hf_
  have hk76 : ∀ (xs2_76 : Int) (nxs2_76 : nmI xs2_76), k76 xs2_76 = some q → ∀ (H : Heap) (locs : List Loc) (ls : Array Slot), gH G (gU (gU (gU (gU M 54 0 v2.toNat v1) 56 0 v2.toNat r15) 55 0 v2.toNat ((gU (gU M 54 0 v2.toNat v1) 56 0 v2.toNat r15) 56 0 v2.toNat)) 57 0 v2.toNat r38) H → va_S (gA G) s.heap H locs → gLv ls 4 [(0, .ref (gAd G 29 0)), (1, .int (iI v1))] → W p l e { frames := 3, cells := 0, slots := 0, locals := 69 } s m args below meth c H locs 0 0 (MQ below (gQv G q) args s 0 0 (gA G)) (F0 m 76 ls [.int (iI xs2_76), .int (iI v2), .ref (gAd G 58 0)]) := by
    intro xs2_76 nxs2_76 hf H locs ls hH hS hl
    subst ek76
    obtain ⟨hg, hf_⟩ := og_e hf; clear hf; have hf := hf_; clear hf_
    refine g_iast X hH hS (r := 58) (i := 0) (by decide) (fun _ => rfl) nv2 hg nxs2_76 rfl (by decide) dX12_begins_76 (fun H locs hH hS => ?_)
    refine lv_aload_n X.1 X.2.1 dX12_begins_77 rfl (lv_at hl.1 0 rfl) ?_
    refine g_get X cX12 hH (r := 29) (i := 0) (by decide) rfl 38 (by decide) k_439 rfl (v := .ref (gAd G 60 0)) rfl dX12_begins_78 ?_
    refine lv_iload_n X.1 X.2.1 dX12_begins_81 rfl (lv_at hl.1 1 rfl) ?_
    refine lv_iconst X.1 X.2.1 dX12_begins_82 (v := iI 2) rfl ?_
    obtain ⟨hg, hf_⟩ := og_e hf; clear hf; have hf := hf_; clear hf_
    refine g_iast X hH hS (r := 60) (i := 0) (by decide) (fun _ => rfl) nv1 hg (nmI_l (by decide)) rfl (by decide) dX12_begins_83 (fun H locs hH hS => ?_)
    refine lv_aload_n X.1 X.2.1 dX12_begins_84 rfl (lv_at hl.1 0 rfl) ?_
    refine g_get X cX12 hH (r := 29) (i := 0) (by decide) rfl 47 (by decide) k_448 rfl (v := .ref (gAd G 68 0)) rfl dX12_begins_85 ?_
    refine lv_iconst X.1 X.2.1 dX12_begins_88 (v := iI 0) rfl ?_
    refine lv_dup2_11 X.1 X.2.1 dX12_begins_89 rfl rfl ?_
    obtain ⟨hg, hf_⟩ := og_e hf; clear hf; have hf := hf_; clear hf_
    have nd90 : nmI ((gU (gU (gU (gU (gU (gU M 54 0 v2.toNat v1) 56 0 v2.toNat r15) 55 0 v2.toNat ((gU (gU M 54 0 v2.toNat v1) 56 0 v2.toNat r15) 56 0 v2.toNat)) 57 0 v2.toNat r38) 58 0 v2.toNat xs2_76) 60 0 v1.toNat 2) 68 0 0) := hH.1.1 _ _ _
    refine g_iald X hH (r := 68) (i := 0) (by decide) rfl (nmI_l (by decide)) hg (v := (gU (gU (gU (gU (gU (gU M 54 0 v2.toNat v1) 56 0 v2.toNat r15) 55 0 v2.toNat ((gU (gU M 54 0 v2.toNat v1) 56 0 v2.toNat r15) 56 0 v2.toNat)) 57 0 v2.toNat r38) 58 0 v2.toNat xs2_76) 60 0 v1.toNat 2) 68 0 0) rfl dX12_begins_90 ?_
    refine lv_iconst X.1 X.2.1 dX12_begins_91 (v := iI 1) rfl ?_
    refine g_iadd X dX12_begins_92 ?_
    obtain ⟨hg, hf_⟩ := og_e hf; clear hf; have hf := hf_; clear hf_
    refine g_iast X hH hS (r := 68) (i := 0) (by decide) (fun _ => rfl) (nmI_l (by decide)) hg (nmI_w _) rfl (by decide) dX12_begins_93 (fun H locs hH hS => ?_)
    have hq := Option.some.inj hf; subst hq
    exact gRetV X hH hS dX12_begins_94
  clear ek76
  refine g_icmp_ne X nr52 (nmI_l (by decide)) (tgt := 70) dX12_begins_63 (by decide) (fun hc63 => ?_) (fun hc63 => ?_)
  · replace hf := it_f hf hc63
    refine lv_aload_n X.1 X.2.1 dX12_begins_70 rfl (lv_at hl.1 1 rfl) ?_
    refine g_get X cX12 hH (r := 29) (i := 0) (by decide) rfl 1 (by decide) k_402 rfl (v := .ref (gAd G 30 0)) rfl dX12_begins_71 ?_
    refine lv_iload_n X.1 X.2.1 dX12_begins_74 rfl (lv_at hl.1 0 rfl) ?_
    obtain ⟨hg, hf_⟩ := og_e hf; clear hf; have hf := hf_; clear hf_
    have nd75 : nmI ((gU (gU (gU (gU M 54 0 v2.toNat v1) 56 0 v2.toNat r15) 55 0 v2.toNat ((gU (gU M 54 0 v2.toNat v1) 56 0 v2.toNat r15) 56 0 v2.toNat)) 57 0 v2.toNat r38) 30 0 r52.toNat) := hH.1.1 _ _ _
    refine g_iald X hH (r := 30) (i := 0) (by decide) rfl nr52 hg (v := (gU (gU (gU (gU M 54 0 v2.toNat v1) 56 0 v2.toNat r15) 55 0 v2.toNat ((gU (gU M 54 0 v2.toNat v1) 56 0 v2.toNat r15) 56 0 v2.toNat)) 57 0 v2.toNat r38) 30 0 r52.toNat) rfl dX12_begins_75 ?_
    exact hk76 ((gU (gU (gU (gU M 54 0 v2.toNat v1) 56 0 v2.toNat r15) 55 0 v2.toNat ((gU (gU M 54 0 v2.toNat v1) 56 0 v2.toNat r15) 56 0 v2.toNat)) 57 0 v2.toNat r38) 30 0 r52.toNat) nd75 hf _ _ _ hH hS (gLv_sub hl [1, 2] rfl)
  · replace hf := it_t hf hc63
    refine lv_iconst X.1 X.2.1 dX12_begins_66 (v := iI (-1)) rfl ?_
    refine lv_goto (tgt := 76) X.1 X.2.1 dX12_begins_67 (by decide) ?_
    exact hk76 ((-1)) (nmI_l (by decide)) hf _ _ _ hH hS (gLv_sub hl [1, 2] rfl)
theorem w_X12_keep_L3 {G : gG} {p : Program} {l : Launch} {e : Env} {s : State} {m : MethodId} {args : Array Value} {below : List Frame} {meth : Method} {c : Code} (X : gX G p s m args meth c RX12 cX12_keep 7 none (gWs yX12_keep cX12_keep 7 none)) (k86 : Option gM) (z1 : Int) (nz1 : nmI z1) (z2 : Int) (nz2 : nmI z2) (z3 : Int) (nz3 : nmI z3) (z4 : Int) (nz4 : nmI z4) (z5 : Int) (nz5 : nmI z5) (M : gM) (q : gM) (hk86 : k86 = some q → ∀ (H : Heap) (locs : List Loc) (ls : Array Slot), gH G M H → va_S (gA G) s.heap H locs → gLv ls 7 [(0, .ref (gAd G 29 0)), (1, .int (iI z1)), (2, .int (iI z2)), (3, .int (iI z3)), (4, .int (iI z4)), (5, .int (iI z5))] → W p l e { frames := 2, cells := 0, slots := 0, locals := 44 } s m args below meth c H locs 0 0 (MQ below (gQv G q) args s 0 0 (gA G)) (F0 m 86 ls [])) : ∀ (n : Nat) (x6 : Int) (nx6 : nmI x6), f_X12_keep_L3 k86 z1 z2 z3 z4 z5 M n x6 = some q → ∀ (H : Heap) (locs : List Loc) (ls : Array Slot), gH G M H → va_S (gA G) s.heap H locs → gLv ls 7 [(0, .ref (gAd G 29 0)), (1, .int (iI z1)), (2, .int (iI z2)), (3, .int (iI z3)), (4, .int (iI z4)), (5, .int (iI z5)), (6, .int (iI x6))] → W p l e { frames := 2, cells := 0, slots := 0, locals := 44 } s m args below meth c H locs 0 0 (MQ below (gQv G q) args s 0 0 (gA G)) (F0 m 3 ls []) := by
  intro n
  induction n with
  | zero =>
    intro x6 nx6 hf
    cases hf
  | succ n ih =>
    intro x6 nx6 hf H locs ls hH hS hl
    rw [f_X12_keep_L3] at hf
    refine lv_iload X.1 X.2.1 dX12_keep_3 (lv_at hl.1 6 rfl) ?_
    refine lv_aload_n X.1 X.2.1 dX12_keep_5 rfl (lv_at hl.1 0 rfl) ?_
    have nd6 : nmI (M 29 0 21) := hH.1.1 _ _ _
    refine g_get X cX12 hH (r := 29) (i := 0) (by decide) rfl 21 (by decide) k_422 rfl (v := .int (iI (M 29 0 21))) rfl dX12_keep_6 ?_
    refine g_icmp_ge X nx6 nd6 (tgt := 86) dX12_keep_9 (by decide) (fun hc9 => ?_) (fun hc9 => ?_)
    · replace hf := it_f hf hc9
      exact hk86  hf _ _ _ hH hS (gLv_sub hl [0, 1, 2, 3, 4, 5] rfl)
    · replace hf := it_t hf hc9
      refine lv_aload_n X.1 X.2.1 dX12_keep_12 rfl (lv_at hl.1 0 rfl) ?_
      refine g_get X cX12 hH (r := 29) (i := 0) (by decide) rfl 22 (by decide) k_423 rfl (v := .ref (gAd G 46 0)) rfl dX12_keep_13 ?_
      refine lv_iload X.1 X.2.1 dX12_keep_16 (lv_at hl.1 6 rfl) ?_
      obtain ⟨hg, hf_⟩ := og_e hf; clear hf; have hf := hf_; clear hf_
      have nd18 : nmI (M 46 0 x6.toNat) := hH.1.1 _ _ _
      refine g_iald X hH (r := 46) (i := 0) (by decide) rfl nx6 hg (v := M 46 0 x6.toNat) rfl dX12_keep_18 ?_
      refine lv_iload_n X.1 X.2.1 dX12_keep_19 rfl (lv_at hl.1 1 rfl) ?_
      obtain ⟨k80, ek80, hf_⟩ := oj_e hf; clear hf; have hf := hf_; clear hf_
      have hk80 : k80 = some q → ∀ (H : Heap) (locs : List Loc) (ls : Array Slot), gH G M H → va_S (gA G) s.heap H locs → gLv ls 7 [(0, .ref (gAd G 29 0)), (1, .int (iI z1)), (2, .int (iI z2)), (3, .int (iI z3)), (4, .int (iI z4)), (5, .int (iI z5)), (6, .int (iI x6))] → W p l e { frames := 2, cells := 0, slots := 0, locals := 44 } s m args below meth c H locs 0 0 (MQ below (gQv G q) args s 0 0 (gA G)) (F0 m 80 ls []) := by
        intro  hf H locs ls hH hS hl
        subst ek80
        refine g_iinc X (a := x6) (lv' := [(6, .int (iI (wI (x6 + 1)))), (0, .ref (gAd G 29 0)), (1, .int (iI z1)), (2, .int (iI z2)), (3, .int (iI z3)), (4, .int (iI z4)), (5, .int (iI z5))]) dX12_keep_80 hl (k := 6) rfl (by decide) rfl (fun ls hl => ?_)
        refine lv_goto (tgt := 3) X.1 X.2.1 dX12_keep_83 (by decide) ?_
        exact ih (wI (x6 + 1)) (nmI_w _) hf _ _ _ hH hS (gLv_sub hl [1, 2, 3, 4, 5, 6, 0] rfl)
      clear ek80
      refine g_icmp_ne X nd18 nz1 (tgt := 80) dX12_keep_20 (by decide) (fun hc20 => ?_) (fun hc20 => ?_)
      · replace hf := it_f hf hc20
        exact hk80  hf _ _ _ hH hS (gLv_sub hl [0, 1, 2, 3, 4, 5, 6] rfl)
      · replace hf := it_t hf hc20
        refine lv_aload_n X.1 X.2.1 dX12_keep_23 rfl (lv_at hl.1 0 rfl) ?_
        refine g_get X cX12 hH (r := 29) (i := 0) (by decide) rfl 23 (by decide) k_424 rfl (v := .ref (gAd G 47 0)) rfl dX12_keep_24 ?_
        refine lv_iload X.1 X.2.1 dX12_keep_27 (lv_at hl.1 6 rfl) ?_
        obtain ⟨hg, hf_⟩ := og_e hf; clear hf; have hf := hf_; clear hf_
        have nd29 : nmI (M 47 0 x6.toNat) := hH.1.1 _ _ _
        refine g_iald X hH (r := 47) (i := 0) (by decide) rfl nx6 hg (v := M 47 0 x6.toNat) rfl dX12_keep_29 ?_
        refine lv_iload_n X.1 X.2.1 dX12_keep_30 rfl (lv_at hl.1 2 rfl) ?_
        refine g_icmp_ne X nd29 nz2 (tgt := 80) dX12_keep_31 (by decide) (fun hc31 => ?_) (fun hc31 => ?_)
        · replace hf := it_f hf hc31
          exact hk80  hf _ _ _ hH hS (gLv_sub hl [0, 1, 2, 3, 4, 5, 6] rfl)
        · replace hf := it_t hf hc31
          refine lv_aload_n X.1 X.2.1 dX12_keep_34 rfl (lv_at hl.1 0 rfl) ?_
          refine g_get X cX12 hH (r := 29) (i := 0) (by decide) rfl 24 (by decide) k_425 rfl (v := .ref (gAd G 48 0)) rfl dX12_keep_35 ?_
          refine lv_iload X.1 X.2.1 dX12_keep_38 (lv_at hl.1 6 rfl) ?_
          obtain ⟨hg, hf_⟩ := og_e hf; clear hf; have hf := hf_; clear hf_
          have nd40 : nmI (M 48 0 x6.toNat) := hH.1.1 _ _ _
          refine g_iald X hH (r := 48) (i := 0) (by decide) rfl nx6 hg (v := M 48 0 x6.toNat) rfl dX12_keep_40 ?_
          refine lv_iload_n X.1 X.2.1 dX12_keep_41 rfl (lv_at hl.1 3 rfl) ?_
          refine g_icmp_ne X nd40 nz3 (tgt := 80) dX12_keep_42 (by decide) (fun hc42 => ?_) (fun hc42 => ?_)
          · replace hf := it_f hf hc42
            exact hk80  hf _ _ _ hH hS (gLv_sub hl [0, 1, 2, 3, 4, 5, 6] rfl)
          · replace hf := it_t hf hc42
            refine lv_aload_n X.1 X.2.1 dX12_keep_45 rfl (lv_at hl.1 0 rfl) ?_
            refine g_get X cX12 hH (r := 29) (i := 0) (by decide) rfl 25 (by decide) k_426 rfl (v := .ref (gAd G 49 0)) rfl dX12_keep_46 ?_
            refine lv_iload X.1 X.2.1 dX12_keep_49 (lv_at hl.1 6 rfl) ?_
            obtain ⟨hg, hf_⟩ := og_e hf; clear hf; have hf := hf_; clear hf_
            have nd51 : nmI (M 49 0 x6.toNat) := hH.1.1 _ _ _
            refine g_iald X hH (r := 49) (i := 0) (by decide) rfl nx6 hg (v := M 49 0 x6.toNat) rfl dX12_keep_51 ?_
            refine lv_iload X.1 X.2.1 dX12_keep_52 (lv_at hl.1 4 rfl) ?_
            refine g_icmp_ne X nd51 nz4 (tgt := 80) dX12_keep_54 (by decide) (fun hc54 => ?_) (fun hc54 => ?_)
            · replace hf := it_f hf hc54
              exact hk80  hf _ _ _ hH hS (gLv_sub hl [0, 1, 2, 3, 4, 5, 6] rfl)
            · replace hf := it_t hf hc54
              refine lv_aload_n X.1 X.2.1 dX12_keep_57 rfl (lv_at hl.1 0 rfl) ?_
              refine g_get X cX12 hH (r := 29) (i := 0) (by decide) rfl 26 (by decide) k_427 rfl (v := .ref (gAd G 50 0)) rfl dX12_keep_58 ?_
              refine lv_iload X.1 X.2.1 dX12_keep_61 (lv_at hl.1 6 rfl) ?_
              obtain ⟨hg, hf_⟩ := og_e hf; clear hf; have hf := hf_; clear hf_
              have nd63 : nmI (M 50 0 x6.toNat) := hH.1.1 _ _ _
              refine g_iald X hH (r := 50) (i := 0) (by decide) rfl nx6 hg (v := M 50 0 x6.toNat) rfl dX12_keep_63 ?_
              refine lv_iload X.1 X.2.1 dX12_keep_64 (lv_at hl.1 5 rfl) ?_
              refine g_icmp_ne X nd63 nz5 (tgt := 80) dX12_keep_66 (by decide) (fun hc66 => ?_) (fun hc66 => ?_)
              · replace hf := it_f hf hc66
                exact hk80  hf _ _ _ hH hS (gLv_sub hl [0, 1, 2, 3, 4, 5, 6] rfl)
              · replace hf := it_t hf hc66
                refine lv_aload_n X.1 X.2.1 dX12_keep_69 rfl (lv_at hl.1 0 rfl) ?_
                refine g_get X cX12 hH (r := 29) (i := 0) (by decide) rfl 28 (by decide) k_429 rfl (v := .ref (gAd G 52 0)) rfl dX12_keep_70 ?_
                refine lv_iload X.1 X.2.1 dX12_keep_73 (lv_at hl.1 6 rfl) ?_
                obtain ⟨hg, hf_⟩ := og_e hf; clear hf; have hf := hf_; clear hf_
                have nd75 : nmI (M 52 0 x6.toNat) := hH.1.1 _ _ _
                have bd75 := hH.1.2.1 52 0 x6.toNat rfl
                refine g_zald X hH (r := 52) (i := 0) (by decide) rfl nx6 hg (v := M 52 0 x6.toNat) rfl dX12_keep_75 ?_
                refine g_if_ne X nd75 (tgt := 80) dX12_keep_76 (by decide) (fun hc76 => ?_) (fun hc76 => ?_)
                · replace hf := it_f hf hc76
                  exact hk80  hf _ _ _ hH hS (gLv_sub hl [0, 1, 2, 3, 4, 5, 6] rfl)
                · replace hf := it_t hf hc76
                  have hq := Option.some.inj hf; subst hq
                  exact gRetV X hH hS dX12_keep_79
theorem w_X12_keep_L108 {G : gG} {p : Program} {l : Launch} {e : Env} {s : State} {m : MethodId} {args : Array Value} {below : List Frame} {meth : Method} {c : Code} (X : gX G p s m args meth c RX12 cX12_keep 7 none (gWs yX12_keep cX12_keep 7 none)) (k235 : gM → Option gM) (z1 : Int) (nz1 : nmI z1) (z2 : Int) (nz2 : nmI z2) (z3 : Int) (nz3 : nmI z3) (z4 : Int) (nz4 : nmI z4) (z5 : Int) (nz5 : nmI z5) (q : gM) (hk235 : ∀  (M : gM), k235 M = some q → ∀ (H : Heap) (locs : List Loc) (ls : Array Slot), gH G M H → va_S (gA G) s.heap H locs → gLv ls 7 [(0, .ref (gAd G 29 0)), (1, .int (iI z1)), (2, .int (iI z2)), (3, .int (iI z3)), (4, .int (iI z4)), (5, .int (iI z5))] → W p l e { frames := 2, cells := 0, slots := 0, locals := 44 } s m args below meth c H locs 0 0 (MQ below (gQv G q) args s 0 0 (gA G)) (F0 m 235 ls [])) : ∀ (n : Nat) (x6 : Int) (nx6 : nmI x6) (M : gM), f_X12_keep_L108 k235 z1 z2 z3 z4 z5 n x6 M = some q → ∀ (H : Heap) (locs : List Loc) (ls : Array Slot), gH G M H → va_S (gA G) s.heap H locs → gLv ls 7 [(0, .ref (gAd G 29 0)), (1, .int (iI z1)), (2, .int (iI z2)), (3, .int (iI z3)), (4, .int (iI z4)), (5, .int (iI z5)), (6, .int (iI x6))] → W p l e { frames := 2, cells := 0, slots := 0, locals := 44 } s m args below meth c H locs 0 0 (MQ below (gQv G q) args s 0 0 (gA G)) (F0 m 108 ls []) := by
  intro n
  induction n with
  | zero =>
    intro x6 nx6 M hf
    cases hf
  | succ n ih =>
    intro x6 nx6 M hf H locs ls hH hS hl
    rw [f_X12_keep_L108] at hf
    refine lv_iload X.1 X.2.1 dX12_keep_108 (lv_at hl.1 6 rfl) ?_
    refine lv_aload_n X.1 X.2.1 dX12_keep_110 rfl (lv_at hl.1 0 rfl) ?_
    have nd111 : nmI (M 29 0 21) := hH.1.1 _ _ _
    refine g_get X cX12 hH (r := 29) (i := 0) (by decide) rfl 21 (by decide) k_422 rfl (v := .int (iI (M 29 0 21))) rfl dX12_keep_111 ?_
    refine g_icmp_ge X nx6 nd111 (tgt := 235) dX12_keep_114 (by decide) (fun hc114 => ?_) (fun hc114 => ?_)
    · replace hf := it_f hf hc114
      exact hk235 M hf _ _ _ hH hS (gLv_sub hl [0, 1, 2, 3, 4, 5] rfl)
    · replace hf := it_t hf hc114
      refine lv_aload_n X.1 X.2.1 dX12_keep_117 rfl (lv_at hl.1 0 rfl) ?_
      refine g_get X cX12 hH (r := 29) (i := 0) (by decide) rfl 22 (by decide) k_423 rfl (v := .ref (gAd G 46 0)) rfl dX12_keep_118 ?_
      refine lv_iload X.1 X.2.1 dX12_keep_121 (lv_at hl.1 6 rfl) ?_
      refine lv_aload_n X.1 X.2.1 dX12_keep_123 rfl (lv_at hl.1 0 rfl) ?_
      refine g_get X cX12 hH (r := 29) (i := 0) (by decide) rfl 22 (by decide) k_423 rfl (v := .ref (gAd G 46 0)) rfl dX12_keep_124 ?_
      refine lv_iload X.1 X.2.1 dX12_keep_127 (lv_at hl.1 6 rfl) ?_
      refine lv_iconst X.1 X.2.1 dX12_keep_129 (v := iI 1) rfl ?_
      refine g_iadd X dX12_keep_130 ?_
      obtain ⟨hg, hf_⟩ := og_e hf; clear hf; have hf := hf_; clear hf_
      have nd131 : nmI (M 46 0 (wI (x6 + 1)).toNat) := hH.1.1 _ _ _
      refine g_iald X hH (r := 46) (i := 0) (by decide) rfl (nmI_w _) hg (v := M 46 0 (wI (x6 + 1)).toNat) rfl dX12_keep_131 ?_
      obtain ⟨hg, hf_⟩ := og_e hf; clear hf; have hf := hf_; clear hf_
      refine g_iast X hH hS (r := 46) (i := 0) (by decide) (fun _ => rfl) nx6 hg nd131 rfl (by decide) dX12_keep_132 (fun H locs hH hS => ?_)
      refine lv_aload_n X.1 X.2.1 dX12_keep_133 rfl (lv_at hl.1 0 rfl) ?_
      refine g_get X cX12 hH (r := 29) (i := 0) (by decide) rfl 23 (by decide) k_424 rfl (v := .ref (gAd G 47 0)) rfl dX12_keep_134 ?_
      refine lv_iload X.1 X.2.1 dX12_keep_137 (lv_at hl.1 6 rfl) ?_
      refine lv_aload_n X.1 X.2.1 dX12_keep_139 rfl (lv_at hl.1 0 rfl) ?_
      refine g_get X cX12 hH (r := 29) (i := 0) (by decide) rfl 23 (by decide) k_424 rfl (v := .ref (gAd G 47 0)) rfl dX12_keep_140 ?_
      refine lv_iload X.1 X.2.1 dX12_keep_143 (lv_at hl.1 6 rfl) ?_
      refine lv_iconst X.1 X.2.1 dX12_keep_145 (v := iI 1) rfl ?_
      refine g_iadd X dX12_keep_146 ?_
      obtain ⟨hg, hf_⟩ := og_e hf; clear hf; have hf := hf_; clear hf_
      have nd147 : nmI ((gU M 46 0 x6.toNat (M 46 0 (wI (x6 + 1)).toNat)) 47 0 (wI (x6 + 1)).toNat) := hH.1.1 _ _ _
      refine g_iald X hH (r := 47) (i := 0) (by decide) rfl (nmI_w _) hg (v := (gU M 46 0 x6.toNat (M 46 0 (wI (x6 + 1)).toNat)) 47 0 (wI (x6 + 1)).toNat) rfl dX12_keep_147 ?_
      obtain ⟨hg, hf_⟩ := og_e hf; clear hf; have hf := hf_; clear hf_
      refine g_iast X hH hS (r := 47) (i := 0) (by decide) (fun _ => rfl) nx6 hg nd147 rfl (by decide) dX12_keep_148 (fun H locs hH hS => ?_)
      refine lv_aload_n X.1 X.2.1 dX12_keep_149 rfl (lv_at hl.1 0 rfl) ?_
      refine g_get X cX12 hH (r := 29) (i := 0) (by decide) rfl 24 (by decide) k_425 rfl (v := .ref (gAd G 48 0)) rfl dX12_keep_150 ?_
      refine lv_iload X.1 X.2.1 dX12_keep_153 (lv_at hl.1 6 rfl) ?_
      refine lv_aload_n X.1 X.2.1 dX12_keep_155 rfl (lv_at hl.1 0 rfl) ?_
      refine g_get X cX12 hH (r := 29) (i := 0) (by decide) rfl 24 (by decide) k_425 rfl (v := .ref (gAd G 48 0)) rfl dX12_keep_156 ?_
      refine lv_iload X.1 X.2.1 dX12_keep_159 (lv_at hl.1 6 rfl) ?_
      refine lv_iconst X.1 X.2.1 dX12_keep_161 (v := iI 1) rfl ?_
      refine g_iadd X dX12_keep_162 ?_
      obtain ⟨hg, hf_⟩ := og_e hf; clear hf; have hf := hf_; clear hf_
      have nd163 : nmI ((gU (gU M 46 0 x6.toNat (M 46 0 (wI (x6 + 1)).toNat)) 47 0 x6.toNat ((gU M 46 0 x6.toNat (M 46 0 (wI (x6 + 1)).toNat)) 47 0 (wI (x6 + 1)).toNat)) 48 0 (wI (x6 + 1)).toNat) := hH.1.1 _ _ _
      refine g_iald X hH (r := 48) (i := 0) (by decide) rfl (nmI_w _) hg (v := (gU (gU M 46 0 x6.toNat (M 46 0 (wI (x6 + 1)).toNat)) 47 0 x6.toNat ((gU M 46 0 x6.toNat (M 46 0 (wI (x6 + 1)).toNat)) 47 0 (wI (x6 + 1)).toNat)) 48 0 (wI (x6 + 1)).toNat) rfl dX12_keep_163 ?_
      obtain ⟨hg, hf_⟩ := og_e hf; clear hf; have hf := hf_; clear hf_
      refine g_iast X hH hS (r := 48) (i := 0) (by decide) (fun _ => rfl) nx6 hg nd163 rfl (by decide) dX12_keep_164 (fun H locs hH hS => ?_)
      refine lv_aload_n X.1 X.2.1 dX12_keep_165 rfl (lv_at hl.1 0 rfl) ?_
      refine g_get X cX12 hH (r := 29) (i := 0) (by decide) rfl 25 (by decide) k_426 rfl (v := .ref (gAd G 49 0)) rfl dX12_keep_166 ?_
      refine lv_iload X.1 X.2.1 dX12_keep_169 (lv_at hl.1 6 rfl) ?_
      refine lv_aload_n X.1 X.2.1 dX12_keep_171 rfl (lv_at hl.1 0 rfl) ?_
      refine g_get X cX12 hH (r := 29) (i := 0) (by decide) rfl 25 (by decide) k_426 rfl (v := .ref (gAd G 49 0)) rfl dX12_keep_172 ?_
      refine lv_iload X.1 X.2.1 dX12_keep_175 (lv_at hl.1 6 rfl) ?_
      refine lv_iconst X.1 X.2.1 dX12_keep_177 (v := iI 1) rfl ?_
      refine g_iadd X dX12_keep_178 ?_
      obtain ⟨hg, hf_⟩ := og_e hf; clear hf; have hf := hf_; clear hf_
      have nd179 : nmI ((gU (gU (gU M 46 0 x6.toNat (M 46 0 (wI (x6 + 1)).toNat)) 47 0 x6.toNat ((gU M 46 0 x6.toNat (M 46 0 (wI (x6 + 1)).toNat)) 47 0 (wI (x6 + 1)).toNat)) 48 0 x6.toNat ((gU (gU M 46 0 x6.toNat (M 46 0 (wI (x6 + 1)).toNat)) 47 0 x6.toNat ((gU M 46 0 x6.toNat (M 46 0 (wI (x6 + 1)).toNat)) 47 0 (wI (x6 + 1)).toNat)) 48 0 (wI (x6 + 1)).toNat)) 49 0 (wI (x6 + 1)).toNat) := hH.1.1 _ _ _
      refine g_iald X hH (r := 49) (i := 0) (by decide) rfl (nmI_w _) hg (v := (gU (gU (gU M 46 0 x6.toNat (M 46 0 (wI (x6 + 1)).toNat)) 47 0 x6.toNat ((gU M 46 0 x6.toNat (M 46 0 (wI (x6 + 1)).toNat)) 47 0 (wI (x6 + 1)).toNat)) 48 0 x6.toNat ((gU (gU M 46 0 x6.toNat (M 46 0 (wI (x6 + 1)).toNat)) 47 0 x6.toNat ((gU M 46 0 x6.toNat (M 46 0 (wI (x6 + 1)).toNat)) 47 0 (wI (x6 + 1)).toNat)) 48 0 (wI (x6 + 1)).toNat)) 49 0 (wI (x6 + 1)).toNat) rfl dX12_keep_179 ?_
      obtain ⟨hg, hf_⟩ := og_e hf; clear hf; have hf := hf_; clear hf_
      refine g_iast X hH hS (r := 49) (i := 0) (by decide) (fun _ => rfl) nx6 hg nd179 rfl (by decide) dX12_keep_180 (fun H locs hH hS => ?_)
      refine lv_aload_n X.1 X.2.1 dX12_keep_181 rfl (lv_at hl.1 0 rfl) ?_
      refine g_get X cX12 hH (r := 29) (i := 0) (by decide) rfl 26 (by decide) k_427 rfl (v := .ref (gAd G 50 0)) rfl dX12_keep_182 ?_
      refine lv_iload X.1 X.2.1 dX12_keep_185 (lv_at hl.1 6 rfl) ?_
      refine lv_aload_n X.1 X.2.1 dX12_keep_187 rfl (lv_at hl.1 0 rfl) ?_
      refine g_get X cX12 hH (r := 29) (i := 0) (by decide) rfl 26 (by decide) k_427 rfl (v := .ref (gAd G 50 0)) rfl dX12_keep_188 ?_
      refine lv_iload X.1 X.2.1 dX12_keep_191 (lv_at hl.1 6 rfl) ?_
      refine lv_iconst X.1 X.2.1 dX12_keep_193 (v := iI 1) rfl ?_
      refine g_iadd X dX12_keep_194 ?_
      obtain ⟨hg, hf_⟩ := og_e hf; clear hf; have hf := hf_; clear hf_
      have nd195 : nmI ((gU (gU (gU (gU M 46 0 x6.toNat (M 46 0 (wI (x6 + 1)).toNat)) 47 0 x6.toNat ((gU M 46 0 x6.toNat (M 46 0 (wI (x6 + 1)).toNat)) 47 0 (wI (x6 + 1)).toNat)) 48 0 x6.toNat ((gU (gU M 46 0 x6.toNat (M 46 0 (wI (x6 + 1)).toNat)) 47 0 x6.toNat ((gU M 46 0 x6.toNat (M 46 0 (wI (x6 + 1)).toNat)) 47 0 (wI (x6 + 1)).toNat)) 48 0 (wI (x6 + 1)).toNat)) 49 0 x6.toNat ((gU (gU (gU M 46 0 x6.toNat (M 46 0 (wI (x6 + 1)).toNat)) 47 0 x6.toNat ((gU M 46 0 x6.toNat (M 46 0 (wI (x6 + 1)).toNat)) 47 0 (wI (x6 + 1)).toNat)) 48 0 x6.toNat ((gU (gU M 46 0 x6.toNat (M 46 0 (wI (x6 + 1)).toNat)) 47 0 x6.toNat ((gU M 46 0 x6.toNat (M 46 0 (wI (x6 + 1)).toNat)) 47 0 (wI (x6 + 1)).toNat)) 48 0 (wI (x6 + 1)).toNat)) 49 0 (wI (x6 + 1)).toNat)) 50 0 (wI (x6 + 1)).toNat) := hH.1.1 _ _ _
      refine g_iald X hH (r := 50) (i := 0) (by decide) rfl (nmI_w _) hg (v := (gU (gU (gU (gU M 46 0 x6.toNat (M 46 0 (wI (x6 + 1)).toNat)) 47 0 x6.toNat ((gU M 46 0 x6.toNat (M 46 0 (wI (x6 + 1)).toNat)) 47 0 (wI (x6 + 1)).toNat)) 48 0 x6.toNat ((gU (gU M 46 0 x6.toNat (M 46 0 (wI (x6 + 1)).toNat)) 47 0 x6.toNat ((gU M 46 0 x6.toNat (M 46 0 (wI (x6 + 1)).toNat)) 47 0 (wI (x6 + 1)).toNat)) 48 0 (wI (x6 + 1)).toNat)) 49 0 x6.toNat ((gU (gU (gU M 46 0 x6.toNat (M 46 0 (wI (x6 + 1)).toNat)) 47 0 x6.toNat ((gU M 46 0 x6.toNat (M 46 0 (wI (x6 + 1)).toNat)) 47 0 (wI (x6 + 1)).toNat)) 48 0 x6.toNat ((gU (gU M 46 0 x6.toNat (M 46 0 (wI (x6 + 1)).toNat)) 47 0 x6.toNat ((gU M 46 0 x6.toNat (M 46 0 (wI (x6 + 1)).toNat)) 47 0 (wI (x6 + 1)).toNat)) 48 0 (wI (x6 + 1)).toNat)) 49 0 (wI (x6 + 1)).toNat)) 50 0 (wI (x6 + 1)).toNat) rfl dX12_keep_195 ?_
      obtain ⟨hg, hf_⟩ := og_e hf; clear hf; have hf := hf_; clear hf_
      refine g_iast X hH hS (r := 50) (i := 0) (by decide) (fun _ => rfl) nx6 hg nd195 rfl (by decide) dX12_keep_196 (fun H locs hH hS => ?_)
      refine lv_aload_n X.1 X.2.1 dX12_keep_197 rfl (lv_at hl.1 0 rfl) ?_
      refine g_get X cX12 hH (r := 29) (i := 0) (by decide) rfl 27 (by decide) k_428 rfl (v := .ref (gAd G 51 0)) rfl dX12_keep_198 ?_
      refine lv_iload X.1 X.2.1 dX12_keep_201 (lv_at hl.1 6 rfl) ?_
      refine lv_aload_n X.1 X.2.1 dX12_keep_203 rfl (lv_at hl.1 0 rfl) ?_
      refine g_get X cX12 hH (r := 29) (i := 0) (by decide) rfl 27 (by decide) k_428 rfl (v := .ref (gAd G 51 0)) rfl dX12_keep_204 ?_
      refine lv_iload X.1 X.2.1 dX12_keep_207 (lv_at hl.1 6 rfl) ?_
      refine lv_iconst X.1 X.2.1 dX12_keep_209 (v := iI 1) rfl ?_
      refine g_iadd X dX12_keep_210 ?_
      obtain ⟨hg, hf_⟩ := og_e hf; clear hf; have hf := hf_; clear hf_
      have nd211 : nmI ((gU (gU (gU (gU (gU M 46 0 x6.toNat (M 46 0 (wI (x6 + 1)).toNat)) 47 0 x6.toNat ((gU M 46 0 x6.toNat (M 46 0 (wI (x6 + 1)).toNat)) 47 0 (wI (x6 + 1)).toNat)) 48 0 x6.toNat ((gU (gU M 46 0 x6.toNat (M 46 0 (wI (x6 + 1)).toNat)) 47 0 x6.toNat ((gU M 46 0 x6.toNat (M 46 0 (wI (x6 + 1)).toNat)) 47 0 (wI (x6 + 1)).toNat)) 48 0 (wI (x6 + 1)).toNat)) 49 0 x6.toNat ((gU (gU (gU M 46 0 x6.toNat (M 46 0 (wI (x6 + 1)).toNat)) 47 0 x6.toNat ((gU M 46 0 x6.toNat (M 46 0 (wI (x6 + 1)).toNat)) 47 0 (wI (x6 + 1)).toNat)) 48 0 x6.toNat ((gU (gU M 46 0 x6.toNat (M 46 0 (wI (x6 + 1)).toNat)) 47 0 x6.toNat ((gU M 46 0 x6.toNat (M 46 0 (wI (x6 + 1)).toNat)) 47 0 (wI (x6 + 1)).toNat)) 48 0 (wI (x6 + 1)).toNat)) 49 0 (wI (x6 + 1)).toNat)) 50 0 x6.toNat ((gU (gU (gU (gU M 46 0 x6.toNat (M 46 0 (wI (x6 + 1)).toNat)) 47 0 x6.toNat ((gU M 46 0 x6.toNat (M 46 0 (wI (x6 + 1)).toNat)) 47 0 (wI (x6 + 1)).toNat)) 48 0 x6.toNat ((gU (gU M 46 0 x6.toNat (M 46 0 (wI (x6 + 1)).toNat)) 47 0 x6.toNat ((gU M 46 0 x6.toNat (M 46 0 (wI (x6 + 1)).toNat)) 47 0 (wI (x6 + 1)).toNat)) 48 0 (wI (x6 + 1)).toNat)) 49 0 x6.toNat ((gU (gU (gU M 46 0 x6.toNat (M 46 0 (wI (x6 + 1)).toNat)) 47 0 x6.toNat ((gU M 46 0 x6.toNat (M 46 0 (wI (x6 + 1)).toNat)) 47 0 (wI (x6 + 1)).toNat)) 48 0 x6.toNat ((gU (gU M 46 0 x6.toNat (M 46 0 (wI (x6 + 1)).toNat)) 47 0 x6.toNat ((gU M 46 0 x6.toNat (M 46 0 (wI (x6 + 1)).toNat)) 47 0 (wI (x6 + 1)).toNat)) 48 0 (wI (x6 + 1)).toNat)) 49 0 (wI (x6 + 1)).toNat)) 50 0 (wI (x6 + 1)).toNat)) 51 0 (wI (x6 + 1)).toNat) := hH.1.1 _ _ _
      refine g_iald X hH (r := 51) (i := 0) (by decide) rfl (nmI_w _) hg (v := (gU (gU (gU (gU (gU M 46 0 x6.toNat (M 46 0 (wI (x6 + 1)).toNat)) 47 0 x6.toNat ((gU M 46 0 x6.toNat (M 46 0 (wI (x6 + 1)).toNat)) 47 0 (wI (x6 + 1)).toNat)) 48 0 x6.toNat ((gU (gU M 46 0 x6.toNat (M 46 0 (wI (x6 + 1)).toNat)) 47 0 x6.toNat ((gU M 46 0 x6.toNat (M 46 0 (wI (x6 + 1)).toNat)) 47 0 (wI (x6 + 1)).toNat)) 48 0 (wI (x6 + 1)).toNat)) 49 0 x6.toNat ((gU (gU (gU M 46 0 x6.toNat (M 46 0 (wI (x6 + 1)).toNat)) 47 0 x6.toNat ((gU M 46 0 x6.toNat (M 46 0 (wI (x6 + 1)).toNat)) 47 0 (wI (x6 + 1)).toNat)) 48 0 x6.toNat ((gU (gU M 46 0 x6.toNat (M 46 0 (wI (x6 + 1)).toNat)) 47 0 x6.toNat ((gU M 46 0 x6.toNat (M 46 0 (wI (x6 + 1)).toNat)) 47 0 (wI (x6 + 1)).toNat)) 48 0 (wI (x6 + 1)).toNat)) 49 0 (wI (x6 + 1)).toNat)) 50 0 x6.toNat ((gU (gU (gU (gU M 46 0 x6.toNat (M 46 0 (wI (x6 + 1)).toNat)) 47 0 x6.toNat ((gU M 46 0 x6.toNat (M 46 0 (wI (x6 + 1)).toNat)) 47 0 (wI (x6 + 1)).toNat)) 48 0 x6.toNat ((gU (gU M 46 0 x6.toNat (M 46 0 (wI (x6 + 1)).toNat)) 47 0 x6.toNat ((gU M 46 0 x6.toNat (M 46 0 (wI (x6 + 1)).toNat)) 47 0 (wI (x6 + 1)).toNat)) 48 0 (wI (x6 + 1)).toNat)) 49 0 x6.toNat ((gU (gU (gU M 46 0 x6.toNat (M 46 0 (wI (x6 + 1)).toNat)) 47 0 x6.toNat ((gU M 46 0 x6.toNat (M 46 0 (wI (x6 + 1)).toNat)) 47 0 (wI (x6 + 1)).toNat)) 48 0 x6.toNat ((gU (gU M 46 0 x6.toNat (M 46 0 (wI (x6 + 1)).toNat)) 47 0 x6.toNat ((gU M 46 0 x6.toNat (M 46 0 (wI (x6 + 1)).toNat)) 47 0 (wI (x6 + 1)).toNat)) 48 0 (wI (x6 + 1)).toNat)) 49 0 (wI (x6 + 1)).toNat)) 50 0 (wI (x6 + 1)).toNat)) 51 0 (wI (x6 + 1)).toNat) rfl dX12_keep_211 ?_
      obtain ⟨hg, hf_⟩ := og_e hf; clear hf; have hf := hf_; clear hf_
      refine g_iast X hH hS (r := 51) (i := 0) (by decide) (fun _ => rfl) nx6 hg nd211 rfl (by decide) dX12_keep_212 (fun H locs hH hS => ?_)
      refine lv_aload_n X.1 X.2.1 dX12_keep_213 rfl (lv_at hl.1 0 rfl) ?_
      refine g_get X cX12 hH (r := 29) (i := 0) (by decide) rfl 28 (by decide) k_429 rfl (v := .ref (gAd G 52 0)) rfl dX12_keep_214 ?_
      refine lv_iload X.1 X.2.1 dX12_keep_217 (lv_at hl.1 6 rfl) ?_
      refine lv_aload_n X.1 X.2.1 dX12_keep_219 rfl (lv_at hl.1 0 rfl) ?_
      refine g_get X cX12 hH (r := 29) (i := 0) (by decide) rfl 28 (by decide) k_429 rfl (v := .ref (gAd G 52 0)) rfl dX12_keep_220 ?_
      refine lv_iload X.1 X.2.1 dX12_keep_223 (lv_at hl.1 6 rfl) ?_
      refine lv_iconst X.1 X.2.1 dX12_keep_225 (v := iI 1) rfl ?_
      refine g_iadd X dX12_keep_226 ?_
      obtain ⟨hg, hf_⟩ := og_e hf; clear hf; have hf := hf_; clear hf_
      have nd227 : nmI ((gU (gU (gU (gU (gU (gU M 46 0 x6.toNat (M 46 0 (wI (x6 + 1)).toNat)) 47 0 x6.toNat ((gU M 46 0 x6.toNat (M 46 0 (wI (x6 + 1)).toNat)) 47 0 (wI (x6 + 1)).toNat)) 48 0 x6.toNat ((gU (gU M 46 0 x6.toNat (M 46 0 (wI (x6 + 1)).toNat)) 47 0 x6.toNat ((gU M 46 0 x6.toNat (M 46 0 (wI (x6 + 1)).toNat)) 47 0 (wI (x6 + 1)).toNat)) 48 0 (wI (x6 + 1)).toNat)) 49 0 x6.toNat ((gU (gU (gU M 46 0 x6.toNat (M 46 0 (wI (x6 + 1)).toNat)) 47 0 x6.toNat ((gU M 46 0 x6.toNat (M 46 0 (wI (x6 + 1)).toNat)) 47 0 (wI (x6 + 1)).toNat)) 48 0 x6.toNat ((gU (gU M 46 0 x6.toNat (M 46 0 (wI (x6 + 1)).toNat)) 47 0 x6.toNat ((gU M 46 0 x6.toNat (M 46 0 (wI (x6 + 1)).toNat)) 47 0 (wI (x6 + 1)).toNat)) 48 0 (wI (x6 + 1)).toNat)) 49 0 (wI (x6 + 1)).toNat)) 50 0 x6.toNat ((gU (gU (gU (gU M 46 0 x6.toNat (M 46 0 (wI (x6 + 1)).toNat)) 47 0 x6.toNat ((gU M 46 0 x6.toNat (M 46 0 (wI (x6 + 1)).toNat)) 47 0 (wI (x6 + 1)).toNat)) 48 0 x6.toNat ((gU (gU M 46 0 x6.toNat (M 46 0 (wI (x6 + 1)).toNat)) 47 0 x6.toNat ((gU M 46 0 x6.toNat (M 46 0 (wI (x6 + 1)).toNat)) 47 0 (wI (x6 + 1)).toNat)) 48 0 (wI (x6 + 1)).toNat)) 49 0 x6.toNat ((gU (gU (gU M 46 0 x6.toNat (M 46 0 (wI (x6 + 1)).toNat)) 47 0 x6.toNat ((gU M 46 0 x6.toNat (M 46 0 (wI (x6 + 1)).toNat)) 47 0 (wI (x6 + 1)).toNat)) 48 0 x6.toNat ((gU (gU M 46 0 x6.toNat (M 46 0 (wI (x6 + 1)).toNat)) 47 0 x6.toNat ((gU M 46 0 x6.toNat (M 46 0 (wI (x6 + 1)).toNat)) 47 0 (wI (x6 + 1)).toNat)) 48 0 (wI (x6 + 1)).toNat)) 49 0 (wI (x6 + 1)).toNat)) 50 0 (wI (x6 + 1)).toNat)) 51 0 x6.toNat ((gU (gU (gU (gU (gU M 46 0 x6.toNat (M 46 0 (wI (x6 + 1)).toNat)) 47 0 x6.toNat ((gU M 46 0 x6.toNat (M 46 0 (wI (x6 + 1)).toNat)) 47 0 (wI (x6 + 1)).toNat)) 48 0 x6.toNat ((gU (gU M 46 0 x6.toNat (M 46 0 (wI (x6 + 1)).toNat)) 47 0 x6.toNat ((gU M 46 0 x6.toNat (M 46 0 (wI (x6 + 1)).toNat)) 47 0 (wI (x6 + 1)).toNat)) 48 0 (wI (x6 + 1)).toNat)) 49 0 x6.toNat ((gU (gU (gU M 46 0 x6.toNat (M 46 0 (wI (x6 + 1)).toNat)) 47 0 x6.toNat ((gU M 46 0 x6.toNat (M 46 0 (wI (x6 + 1)).toNat)) 47 0 (wI (x6 + 1)).toNat)) 48 0 x6.toNat ((gU (gU M 46 0 x6.toNat (M 46 0 (wI (x6 + 1)).toNat)) 47 0 x6.toNat ((gU M 46 0 x6.toNat (M 46 0 (wI (x6 + 1)).toNat)) 47 0 (wI (x6 + 1)).toNat)) 48 0 (wI (x6 + 1)).toNat)) 49 0 (wI (x6 + 1)).toNat)) 50 0 x6.toNat ((gU (gU (gU (gU M 46 0 x6.toNat (M 46 0 (wI (x6 + 1)).toNat)) 47 0 x6.toNat ((gU M 46 0 x6.toNat (M 46 0 (wI (x6 + 1)).toNat)) 47 0 (wI (x6 + 1)).toNat)) 48 0 x6.toNat ((gU (gU M 46 0 x6.toNat (M 46 0 (wI (x6 + 1)).toNat)) 47 0 x6.toNat ((gU M 46 0 x6.toNat (M 46 0 (wI (x6 + 1)).toNat)) 47 0 (wI (x6 + 1)).toNat)) 48 0 (wI (x6 + 1)).toNat)) 49 0 x6.toNat ((gU (gU (gU M 46 0 x6.toNat (M 46 0 (wI (x6 + 1)).toNat)) 47 0 x6.toNat ((gU M 46 0 x6.toNat (M 46 0 (wI (x6 + 1)).toNat)) 47 0 (wI (x6 + 1)).toNat)) 48 0 x6.toNat ((gU (gU M 46 0 x6.toNat (M 46 0 (wI (x6 + 1)).toNat)) 47 0 x6.toNat ((gU M 46 0 x6.toNat (M 46 0 (wI (x6 + 1)).toNat)) 47 0 (wI (x6 + 1)).toNat)) 48 0 (wI (x6 + 1)).toNat)) 49 0 (wI (x6 + 1)).toNat)) 50 0 (wI (x6 + 1)).toNat)) 51 0 (wI (x6 + 1)).toNat)) 52 0 (wI (x6 + 1)).toNat) := hH.1.1 _ _ _
      have bd227 := hH.1.2.1 52 0 ((wI (x6 + 1)).toNat) rfl
      refine g_zald X hH (r := 52) (i := 0) (by decide) rfl (nmI_w _) hg (v := (gU (gU (gU (gU (gU (gU M 46 0 x6.toNat (M 46 0 (wI (x6 + 1)).toNat)) 47 0 x6.toNat ((gU M 46 0 x6.toNat (M 46 0 (wI (x6 + 1)).toNat)) 47 0 (wI (x6 + 1)).toNat)) 48 0 x6.toNat ((gU (gU M 46 0 x6.toNat (M 46 0 (wI (x6 + 1)).toNat)) 47 0 x6.toNat ((gU M 46 0 x6.toNat (M 46 0 (wI (x6 + 1)).toNat)) 47 0 (wI (x6 + 1)).toNat)) 48 0 (wI (x6 + 1)).toNat)) 49 0 x6.toNat ((gU (gU (gU M 46 0 x6.toNat (M 46 0 (wI (x6 + 1)).toNat)) 47 0 x6.toNat ((gU M 46 0 x6.toNat (M 46 0 (wI (x6 + 1)).toNat)) 47 0 (wI (x6 + 1)).toNat)) 48 0 x6.toNat ((gU (gU M 46 0 x6.toNat (M 46 0 (wI (x6 + 1)).toNat)) 47 0 x6.toNat ((gU M 46 0 x6.toNat (M 46 0 (wI (x6 + 1)).toNat)) 47 0 (wI (x6 + 1)).toNat)) 48 0 (wI (x6 + 1)).toNat)) 49 0 (wI (x6 + 1)).toNat)) 50 0 x6.toNat ((gU (gU (gU (gU M 46 0 x6.toNat (M 46 0 (wI (x6 + 1)).toNat)) 47 0 x6.toNat ((gU M 46 0 x6.toNat (M 46 0 (wI (x6 + 1)).toNat)) 47 0 (wI (x6 + 1)).toNat)) 48 0 x6.toNat ((gU (gU M 46 0 x6.toNat (M 46 0 (wI (x6 + 1)).toNat)) 47 0 x6.toNat ((gU M 46 0 x6.toNat (M 46 0 (wI (x6 + 1)).toNat)) 47 0 (wI (x6 + 1)).toNat)) 48 0 (wI (x6 + 1)).toNat)) 49 0 x6.toNat ((gU (gU (gU M 46 0 x6.toNat (M 46 0 (wI (x6 + 1)).toNat)) 47 0 x6.toNat ((gU M 46 0 x6.toNat (M 46 0 (wI (x6 + 1)).toNat)) 47 0 (wI (x6 + 1)).toNat)) 48 0 x6.toNat ((gU (gU M 46 0 x6.toNat (M 46 0 (wI (x6 + 1)).toNat)) 47 0 x6.toNat ((gU M 46 0 x6.toNat (M 46 0 (wI (x6 + 1)).toNat)) 47 0 (wI (x6 + 1)).toNat)) 48 0 (wI (x6 + 1)).toNat)) 49 0 (wI (x6 + 1)).toNat)) 50 0 (wI (x6 + 1)).toNat)) 51 0 x6.toNat ((gU (gU (gU (gU (gU M 46 0 x6.toNat (M 46 0 (wI (x6 + 1)).toNat)) 47 0 x6.toNat ((gU M 46 0 x6.toNat (M 46 0 (wI (x6 + 1)).toNat)) 47 0 (wI (x6 + 1)).toNat)) 48 0 x6.toNat ((gU (gU M 46 0 x6.toNat (M 46 0 (wI (x6 + 1)).toNat)) 47 0 x6.toNat ((gU M 46 0 x6.toNat (M 46 0 (wI (x6 + 1)).toNat)) 47 0 (wI (x6 + 1)).toNat)) 48 0 (wI (x6 + 1)).toNat)) 49 0 x6.toNat ((gU (gU (gU M 46 0 x6.toNat (M 46 0 (wI (x6 + 1)).toNat)) 47 0 x6.toNat ((gU M 46 0 x6.toNat (M 46 0 (wI (x6 + 1)).toNat)) 47 0 (wI (x6 + 1)).toNat)) 48 0 x6.toNat ((gU (gU M 46 0 x6.toNat (M 46 0 (wI (x6 + 1)).toNat)) 47 0 x6.toNat ((gU M 46 0 x6.toNat (M 46 0 (wI (x6 + 1)).toNat)) 47 0 (wI (x6 + 1)).toNat)) 48 0 (wI (x6 + 1)).toNat)) 49 0 (wI (x6 + 1)).toNat)) 50 0 x6.toNat ((gU (gU (gU (gU M 46 0 x6.toNat (M 46 0 (wI (x6 + 1)).toNat)) 47 0 x6.toNat ((gU M 46 0 x6.toNat (M 46 0 (wI (x6 + 1)).toNat)) 47 0 (wI (x6 + 1)).toNat)) 48 0 x6.toNat ((gU (gU M 46 0 x6.toNat (M 46 0 (wI (x6 + 1)).toNat)) 47 0 x6.toNat ((gU M 46 0 x6.toNat (M 46 0 (wI (x6 + 1)).toNat)) 47 0 (wI (x6 + 1)).toNat)) 48 0 (wI (x6 + 1)).toNat)) 49 0 x6.toNat ((gU (gU (gU M 46 0 x6.toNat (M 46 0 (wI (x6 + 1)).toNat)) 47 0 x6.toNat ((gU M 46 0 x6.toNat (M 46 0 (wI (x6 + 1)).toNat)) 47 0 (wI (x6 + 1)).toNat)) 48 0 x6.toNat ((gU (gU M 46 0 x6.toNat (M 46 0 (wI (x6 + 1)).toNat)) 47 0 x6.toNat ((gU M 46 0 x6.toNat (M 46 0 (wI (x6 + 1)).toNat)) 47 0 (wI (x6 + 1)).toNat)) 48 0 (wI (x6 + 1)).toNat)) 49 0 (wI (x6 + 1)).toNat)) 50 0 (wI (x6 + 1)).toNat)) 51 0 (wI (x6 + 1)).toNat)) 52 0 (wI (x6 + 1)).toNat) rfl dX12_keep_227 ?_
      obtain ⟨hg, hf_⟩ := og_e hf; clear hf; have hf := hf_; clear hf_
      refine g_zast X hH hS (r := 52) (i := 0) (by decide) (fun _ => rfl) nx6 hg bd227 dX12_keep_228 (fun H locs hH hS => ?_)
      refine g_iinc X (a := x6) (lv' := [(6, .int (iI (wI (x6 + 1)))), (0, .ref (gAd G 29 0)), (1, .int (iI z1)), (2, .int (iI z2)), (3, .int (iI z3)), (4, .int (iI z4)), (5, .int (iI z5))]) dX12_keep_229 hl (k := 6) rfl (by decide) rfl (fun ls hl => ?_)
      refine lv_goto (tgt := 108) X.1 X.2.1 dX12_keep_232 (by decide) ?_
      exact ih (wI (x6 + 1)) (nmI_w _) (gU (gU (gU (gU (gU (gU (gU M 46 0 x6.toNat (M 46 0 (wI (x6 + 1)).toNat)) 47 0 x6.toNat ((gU M 46 0 x6.toNat (M 46 0 (wI (x6 + 1)).toNat)) 47 0 (wI (x6 + 1)).toNat)) 48 0 x6.toNat ((gU (gU M 46 0 x6.toNat (M 46 0 (wI (x6 + 1)).toNat)) 47 0 x6.toNat ((gU M 46 0 x6.toNat (M 46 0 (wI (x6 + 1)).toNat)) 47 0 (wI (x6 + 1)).toNat)) 48 0 (wI (x6 + 1)).toNat)) 49 0 x6.toNat ((gU (gU (gU M 46 0 x6.toNat (M 46 0 (wI (x6 + 1)).toNat)) 47 0 x6.toNat ((gU M 46 0 x6.toNat (M 46 0 (wI (x6 + 1)).toNat)) 47 0 (wI (x6 + 1)).toNat)) 48 0 x6.toNat ((gU (gU M 46 0 x6.toNat (M 46 0 (wI (x6 + 1)).toNat)) 47 0 x6.toNat ((gU M 46 0 x6.toNat (M 46 0 (wI (x6 + 1)).toNat)) 47 0 (wI (x6 + 1)).toNat)) 48 0 (wI (x6 + 1)).toNat)) 49 0 (wI (x6 + 1)).toNat)) 50 0 x6.toNat ((gU (gU (gU (gU M 46 0 x6.toNat (M 46 0 (wI (x6 + 1)).toNat)) 47 0 x6.toNat ((gU M 46 0 x6.toNat (M 46 0 (wI (x6 + 1)).toNat)) 47 0 (wI (x6 + 1)).toNat)) 48 0 x6.toNat ((gU (gU M 46 0 x6.toNat (M 46 0 (wI (x6 + 1)).toNat)) 47 0 x6.toNat ((gU M 46 0 x6.toNat (M 46 0 (wI (x6 + 1)).toNat)) 47 0 (wI (x6 + 1)).toNat)) 48 0 (wI (x6 + 1)).toNat)) 49 0 x6.toNat ((gU (gU (gU M 46 0 x6.toNat (M 46 0 (wI (x6 + 1)).toNat)) 47 0 x6.toNat ((gU M 46 0 x6.toNat (M 46 0 (wI (x6 + 1)).toNat)) 47 0 (wI (x6 + 1)).toNat)) 48 0 x6.toNat ((gU (gU M 46 0 x6.toNat (M 46 0 (wI (x6 + 1)).toNat)) 47 0 x6.toNat ((gU M 46 0 x6.toNat (M 46 0 (wI (x6 + 1)).toNat)) 47 0 (wI (x6 + 1)).toNat)) 48 0 (wI (x6 + 1)).toNat)) 49 0 (wI (x6 + 1)).toNat)) 50 0 (wI (x6 + 1)).toNat)) 51 0 x6.toNat ((gU (gU (gU (gU (gU M 46 0 x6.toNat (M 46 0 (wI (x6 + 1)).toNat)) 47 0 x6.toNat ((gU M 46 0 x6.toNat (M 46 0 (wI (x6 + 1)).toNat)) 47 0 (wI (x6 + 1)).toNat)) 48 0 x6.toNat ((gU (gU M 46 0 x6.toNat (M 46 0 (wI (x6 + 1)).toNat)) 47 0 x6.toNat ((gU M 46 0 x6.toNat (M 46 0 (wI (x6 + 1)).toNat)) 47 0 (wI (x6 + 1)).toNat)) 48 0 (wI (x6 + 1)).toNat)) 49 0 x6.toNat ((gU (gU (gU M 46 0 x6.toNat (M 46 0 (wI (x6 + 1)).toNat)) 47 0 x6.toNat ((gU M 46 0 x6.toNat (M 46 0 (wI (x6 + 1)).toNat)) 47 0 (wI (x6 + 1)).toNat)) 48 0 x6.toNat ((gU (gU M 46 0 x6.toNat (M 46 0 (wI (x6 + 1)).toNat)) 47 0 x6.toNat ((gU M 46 0 x6.toNat (M 46 0 (wI (x6 + 1)).toNat)) 47 0 (wI (x6 + 1)).toNat)) 48 0 (wI (x6 + 1)).toNat)) 49 0 (wI (x6 + 1)).toNat)) 50 0 x6.toNat ((gU (gU (gU (gU M 46 0 x6.toNat (M 46 0 (wI (x6 + 1)).toNat)) 47 0 x6.toNat ((gU M 46 0 x6.toNat (M 46 0 (wI (x6 + 1)).toNat)) 47 0 (wI (x6 + 1)).toNat)) 48 0 x6.toNat ((gU (gU M 46 0 x6.toNat (M 46 0 (wI (x6 + 1)).toNat)) 47 0 x6.toNat ((gU M 46 0 x6.toNat (M 46 0 (wI (x6 + 1)).toNat)) 47 0 (wI (x6 + 1)).toNat)) 48 0 (wI (x6 + 1)).toNat)) 49 0 x6.toNat ((gU (gU (gU M 46 0 x6.toNat (M 46 0 (wI (x6 + 1)).toNat)) 47 0 x6.toNat ((gU M 46 0 x6.toNat (M 46 0 (wI (x6 + 1)).toNat)) 47 0 (wI (x6 + 1)).toNat)) 48 0 x6.toNat ((gU (gU M 46 0 x6.toNat (M 46 0 (wI (x6 + 1)).toNat)) 47 0 x6.toNat ((gU M 46 0 x6.toNat (M 46 0 (wI (x6 + 1)).toNat)) 47 0 (wI (x6 + 1)).toNat)) 48 0 (wI (x6 + 1)).toNat)) 49 0 (wI (x6 + 1)).toNat)) 50 0 (wI (x6 + 1)).toNat)) 51 0 (wI (x6 + 1)).toNat)) 52 0 x6.toNat ((gU (gU (gU (gU (gU (gU M 46 0 x6.toNat (M 46 0 (wI (x6 + 1)).toNat)) 47 0 x6.toNat ((gU M 46 0 x6.toNat (M 46 0 (wI (x6 + 1)).toNat)) 47 0 (wI (x6 + 1)).toNat)) 48 0 x6.toNat ((gU (gU M 46 0 x6.toNat (M 46 0 (wI (x6 + 1)).toNat)) 47 0 x6.toNat ((gU M 46 0 x6.toNat (M 46 0 (wI (x6 + 1)).toNat)) 47 0 (wI (x6 + 1)).toNat)) 48 0 (wI (x6 + 1)).toNat)) 49 0 x6.toNat ((gU (gU (gU M 46 0 x6.toNat (M 46 0 (wI (x6 + 1)).toNat)) 47 0 x6.toNat ((gU M 46 0 x6.toNat (M 46 0 (wI (x6 + 1)).toNat)) 47 0 (wI (x6 + 1)).toNat)) 48 0 x6.toNat ((gU (gU M 46 0 x6.toNat (M 46 0 (wI (x6 + 1)).toNat)) 47 0 x6.toNat ((gU M 46 0 x6.toNat (M 46 0 (wI (x6 + 1)).toNat)) 47 0 (wI (x6 + 1)).toNat)) 48 0 (wI (x6 + 1)).toNat)) 49 0 (wI (x6 + 1)).toNat)) 50 0 x6.toNat ((gU (gU (gU (gU M 46 0 x6.toNat (M 46 0 (wI (x6 + 1)).toNat)) 47 0 x6.toNat ((gU M 46 0 x6.toNat (M 46 0 (wI (x6 + 1)).toNat)) 47 0 (wI (x6 + 1)).toNat)) 48 0 x6.toNat ((gU (gU M 46 0 x6.toNat (M 46 0 (wI (x6 + 1)).toNat)) 47 0 x6.toNat ((gU M 46 0 x6.toNat (M 46 0 (wI (x6 + 1)).toNat)) 47 0 (wI (x6 + 1)).toNat)) 48 0 (wI (x6 + 1)).toNat)) 49 0 x6.toNat ((gU (gU (gU M 46 0 x6.toNat (M 46 0 (wI (x6 + 1)).toNat)) 47 0 x6.toNat ((gU M 46 0 x6.toNat (M 46 0 (wI (x6 + 1)).toNat)) 47 0 (wI (x6 + 1)).toNat)) 48 0 x6.toNat ((gU (gU M 46 0 x6.toNat (M 46 0 (wI (x6 + 1)).toNat)) 47 0 x6.toNat ((gU M 46 0 x6.toNat (M 46 0 (wI (x6 + 1)).toNat)) 47 0 (wI (x6 + 1)).toNat)) 48 0 (wI (x6 + 1)).toNat)) 49 0 (wI (x6 + 1)).toNat)) 50 0 (wI (x6 + 1)).toNat)) 51 0 x6.toNat ((gU (gU (gU (gU (gU M 46 0 x6.toNat (M 46 0 (wI (x6 + 1)).toNat)) 47 0 x6.toNat ((gU M 46 0 x6.toNat (M 46 0 (wI (x6 + 1)).toNat)) 47 0 (wI (x6 + 1)).toNat)) 48 0 x6.toNat ((gU (gU M 46 0 x6.toNat (M 46 0 (wI (x6 + 1)).toNat)) 47 0 x6.toNat ((gU M 46 0 x6.toNat (M 46 0 (wI (x6 + 1)).toNat)) 47 0 (wI (x6 + 1)).toNat)) 48 0 (wI (x6 + 1)).toNat)) 49 0 x6.toNat ((gU (gU (gU M 46 0 x6.toNat (M 46 0 (wI (x6 + 1)).toNat)) 47 0 x6.toNat ((gU M 46 0 x6.toNat (M 46 0 (wI (x6 + 1)).toNat)) 47 0 (wI (x6 + 1)).toNat)) 48 0 x6.toNat ((gU (gU M 46 0 x6.toNat (M 46 0 (wI (x6 + 1)).toNat)) 47 0 x6.toNat ((gU M 46 0 x6.toNat (M 46 0 (wI (x6 + 1)).toNat)) 47 0 (wI (x6 + 1)).toNat)) 48 0 (wI (x6 + 1)).toNat)) 49 0 (wI (x6 + 1)).toNat)) 50 0 x6.toNat ((gU (gU (gU (gU M 46 0 x6.toNat (M 46 0 (wI (x6 + 1)).toNat)) 47 0 x6.toNat ((gU M 46 0 x6.toNat (M 46 0 (wI (x6 + 1)).toNat)) 47 0 (wI (x6 + 1)).toNat)) 48 0 x6.toNat ((gU (gU M 46 0 x6.toNat (M 46 0 (wI (x6 + 1)).toNat)) 47 0 x6.toNat ((gU M 46 0 x6.toNat (M 46 0 (wI (x6 + 1)).toNat)) 47 0 (wI (x6 + 1)).toNat)) 48 0 (wI (x6 + 1)).toNat)) 49 0 x6.toNat ((gU (gU (gU M 46 0 x6.toNat (M 46 0 (wI (x6 + 1)).toNat)) 47 0 x6.toNat ((gU M 46 0 x6.toNat (M 46 0 (wI (x6 + 1)).toNat)) 47 0 (wI (x6 + 1)).toNat)) 48 0 x6.toNat ((gU (gU M 46 0 x6.toNat (M 46 0 (wI (x6 + 1)).toNat)) 47 0 x6.toNat ((gU M 46 0 x6.toNat (M 46 0 (wI (x6 + 1)).toNat)) 47 0 (wI (x6 + 1)).toNat)) 48 0 (wI (x6 + 1)).toNat)) 49 0 (wI (x6 + 1)).toNat)) 50 0 (wI (x6 + 1)).toNat)) 51 0 (wI (x6 + 1)).toNat)) 52 0 (wI (x6 + 1)).toNat)) hf _ _ _ hH hS (gLv_sub hl [1, 2, 3, 4, 5, 6, 0] rfl)
theorem m_X12_keep (l : Launch) (G : gG) (v1 : Int) (nv1 : nmI v1) (v2 : Int) (nv2 : nmI v2) (v3 : Int) (nv3 : nmI v3) (v4 : Int) (nv4 : nmI v4) (v5 : Int) (nv5 : nmI v5) (M : gM) (q : gM) (hf : f_X12_keep v1 v2 v3 v4 v5 M = some q) : gMet l yX12_keep cX12_keep 7 none 2 44 G M [.ref (gAd G 29 0), .int (iI v1), .int (iI v2), .int (iI v3), .int (iI v4), .int (iI v5)] (gQv G q) := by
  refine gOfW (by decide) (by show _ ≤ 7; exact Nat.le_of_ble_eq_true rfl) rfl ?_
  intro p e s m below meth c X hH ls hl
  replace hl : gLv ls 7 [(0, .ref (gAd G 29 0)), (1, .int (iI v1)), (2, .int (iI v2)), (3, .int (iI v3)), (4, .int (iI v4)), (5, .int (iI v5))] := hl
  have hS : va_S (gA G) s.heap s.heap [] := va_S.rf
  generalize hargs : ([.ref (gAd G 29 0), .int (iI v1), .int (iI v2), .int (iI v3), .int (iI v4), .int (iI v5)] : List Value).toArray = args at X ⊢
  clear hargs
  unfold f_X12_keep at hf
  refine lv_iconst X.1 X.2.1 dX12_keep_0 (v := iI 0) rfl ?_
  refine g_istore X (lv' := [(6, .int (iI 0)), (0, .ref (gAd G 29 0)), (1, .int (iI v1)), (2, .int (iI v2)), (3, .int (iI v3)), (4, .int (iI v4)), (5, .int (iI v5))]) dX12_keep_1 hl (by decide) rfl (fun ls hl => ?_)
  refine w_X12_keep_L3 X _ v1 nv1 v2 nv2 v3 nv3 v4 nv4 v5 nv5 M q ?_ 64 0 (nmI_l (by decide)) hf _ _ _ hH hS (gLv_sub hl [1, 2, 3, 4, 5, 6, 0] rfl)
  · intro  hf H locs ls hH hS hl
    refine lv_aload_n X.1 X.2.1 dX12_keep_86 rfl (lv_at hl.1 0 rfl) ?_
    have nd87 : nmI (M 29 0 21) := hH.1.1 _ _ _
    refine g_get X cX12 hH (r := 29) (i := 0) (by decide) rfl 21 (by decide) k_422 rfl (v := .int (iI (M 29 0 21))) rfl dX12_keep_87 ?_
    refine lv_bipush X.1 X.2.1 dX12_keep_90 (v := iI 40) (by decide) ?_
    obtain ⟨k235, ek235, hf_⟩ := oj_e hf; clear hf; have hf := hf_; clear hf_
    have hk235 : ∀  (M_235 : gM), k235 M_235 = some q → ∀ (H : Heap) (locs : List Loc) (ls : Array Slot), gH G M_235 H → va_S (gA G) s.heap H locs → gLv ls 7 [(0, .ref (gAd G 29 0)), (1, .int (iI v1)), (2, .int (iI v2)), (3, .int (iI v3)), (4, .int (iI v4)), (5, .int (iI v5))] → W p l e { frames := 2, cells := 0, slots := 0, locals := 44 } s m args below meth c H locs 0 0 (MQ below (gQv G q) args s 0 0 (gA G)) (F0 m 235 ls []) := by
      intro  M_235 hf H locs ls hH hS hl
      subst ek235
      refine lv_aload_n X.1 X.2.1 dX12_keep_235 rfl (lv_at hl.1 0 rfl) ?_
      refine g_get X cX12 hH (r := 29) (i := 0) (by decide) rfl 22 (by decide) k_423 rfl (v := .ref (gAd G 46 0)) rfl dX12_keep_236 ?_
      refine lv_aload_n X.1 X.2.1 dX12_keep_239 rfl (lv_at hl.1 0 rfl) ?_
      have nd240 : nmI (M_235 29 0 21) := hH.1.1 _ _ _
      refine g_get X cX12 hH (r := 29) (i := 0) (by decide) rfl 21 (by decide) k_422 rfl (v := .int (iI (M_235 29 0 21))) rfl dX12_keep_240 ?_
      refine lv_iload_n X.1 X.2.1 dX12_keep_243 rfl (lv_at hl.1 1 rfl) ?_
      obtain ⟨hg, hf_⟩ := og_e hf; clear hf; have hf := hf_; clear hf_
      refine g_iast X hH hS (r := 46) (i := 0) (by decide) (fun _ => rfl) nd240 hg nv1 rfl (by decide) dX12_keep_244 (fun H locs hH hS => ?_)
      refine lv_aload_n X.1 X.2.1 dX12_keep_245 rfl (lv_at hl.1 0 rfl) ?_
      refine g_get X cX12 hH (r := 29) (i := 0) (by decide) rfl 23 (by decide) k_424 rfl (v := .ref (gAd G 47 0)) rfl dX12_keep_246 ?_
      refine lv_aload_n X.1 X.2.1 dX12_keep_249 rfl (lv_at hl.1 0 rfl) ?_
      have nd250 : nmI ((gU M_235 46 0 (M_235 29 0 21).toNat v1) 29 0 21) := hH.1.1 _ _ _
      refine g_get X cX12 hH (r := 29) (i := 0) (by decide) rfl 21 (by decide) k_422 rfl (v := .int (iI ((gU M_235 46 0 (M_235 29 0 21).toNat v1) 29 0 21))) rfl dX12_keep_250 ?_
      refine lv_iload_n X.1 X.2.1 dX12_keep_253 rfl (lv_at hl.1 2 rfl) ?_
      obtain ⟨hg, hf_⟩ := og_e hf; clear hf; have hf := hf_; clear hf_
      refine g_iast X hH hS (r := 47) (i := 0) (by decide) (fun _ => rfl) nd250 hg nv2 rfl (by decide) dX12_keep_254 (fun H locs hH hS => ?_)
      refine lv_aload_n X.1 X.2.1 dX12_keep_255 rfl (lv_at hl.1 0 rfl) ?_
      refine g_get X cX12 hH (r := 29) (i := 0) (by decide) rfl 24 (by decide) k_425 rfl (v := .ref (gAd G 48 0)) rfl dX12_keep_256 ?_
      refine lv_aload_n X.1 X.2.1 dX12_keep_259 rfl (lv_at hl.1 0 rfl) ?_
      have nd260 : nmI ((gU (gU M_235 46 0 (M_235 29 0 21).toNat v1) 47 0 ((gU M_235 46 0 (M_235 29 0 21).toNat v1) 29 0 21).toNat v2) 29 0 21) := hH.1.1 _ _ _
      refine g_get X cX12 hH (r := 29) (i := 0) (by decide) rfl 21 (by decide) k_422 rfl (v := .int (iI ((gU (gU M_235 46 0 (M_235 29 0 21).toNat v1) 47 0 ((gU M_235 46 0 (M_235 29 0 21).toNat v1) 29 0 21).toNat v2) 29 0 21))) rfl dX12_keep_260 ?_
      refine lv_iload_n X.1 X.2.1 dX12_keep_263 rfl (lv_at hl.1 3 rfl) ?_
      obtain ⟨hg, hf_⟩ := og_e hf; clear hf; have hf := hf_; clear hf_
      refine g_iast X hH hS (r := 48) (i := 0) (by decide) (fun _ => rfl) nd260 hg nv3 rfl (by decide) dX12_keep_264 (fun H locs hH hS => ?_)
      refine lv_aload_n X.1 X.2.1 dX12_keep_265 rfl (lv_at hl.1 0 rfl) ?_
      refine g_get X cX12 hH (r := 29) (i := 0) (by decide) rfl 25 (by decide) k_426 rfl (v := .ref (gAd G 49 0)) rfl dX12_keep_266 ?_
      refine lv_aload_n X.1 X.2.1 dX12_keep_269 rfl (lv_at hl.1 0 rfl) ?_
      have nd270 : nmI ((gU (gU (gU M_235 46 0 (M_235 29 0 21).toNat v1) 47 0 ((gU M_235 46 0 (M_235 29 0 21).toNat v1) 29 0 21).toNat v2) 48 0 ((gU (gU M_235 46 0 (M_235 29 0 21).toNat v1) 47 0 ((gU M_235 46 0 (M_235 29 0 21).toNat v1) 29 0 21).toNat v2) 29 0 21).toNat v3) 29 0 21) := hH.1.1 _ _ _
      refine g_get X cX12 hH (r := 29) (i := 0) (by decide) rfl 21 (by decide) k_422 rfl (v := .int (iI ((gU (gU (gU M_235 46 0 (M_235 29 0 21).toNat v1) 47 0 ((gU M_235 46 0 (M_235 29 0 21).toNat v1) 29 0 21).toNat v2) 48 0 ((gU (gU M_235 46 0 (M_235 29 0 21).toNat v1) 47 0 ((gU M_235 46 0 (M_235 29 0 21).toNat v1) 29 0 21).toNat v2) 29 0 21).toNat v3) 29 0 21))) rfl dX12_keep_270 ?_
      refine lv_iload X.1 X.2.1 dX12_keep_273 (lv_at hl.1 4 rfl) ?_
      obtain ⟨hg, hf_⟩ := og_e hf; clear hf; have hf := hf_; clear hf_
      refine g_iast X hH hS (r := 49) (i := 0) (by decide) (fun _ => rfl) nd270 hg nv4 rfl (by decide) dX12_keep_275 (fun H locs hH hS => ?_)
      refine lv_aload_n X.1 X.2.1 dX12_keep_276 rfl (lv_at hl.1 0 rfl) ?_
      refine g_get X cX12 hH (r := 29) (i := 0) (by decide) rfl 26 (by decide) k_427 rfl (v := .ref (gAd G 50 0)) rfl dX12_keep_277 ?_
      refine lv_aload_n X.1 X.2.1 dX12_keep_280 rfl (lv_at hl.1 0 rfl) ?_
      have nd281 : nmI ((gU (gU (gU (gU M_235 46 0 (M_235 29 0 21).toNat v1) 47 0 ((gU M_235 46 0 (M_235 29 0 21).toNat v1) 29 0 21).toNat v2) 48 0 ((gU (gU M_235 46 0 (M_235 29 0 21).toNat v1) 47 0 ((gU M_235 46 0 (M_235 29 0 21).toNat v1) 29 0 21).toNat v2) 29 0 21).toNat v3) 49 0 ((gU (gU (gU M_235 46 0 (M_235 29 0 21).toNat v1) 47 0 ((gU M_235 46 0 (M_235 29 0 21).toNat v1) 29 0 21).toNat v2) 48 0 ((gU (gU M_235 46 0 (M_235 29 0 21).toNat v1) 47 0 ((gU M_235 46 0 (M_235 29 0 21).toNat v1) 29 0 21).toNat v2) 29 0 21).toNat v3) 29 0 21).toNat v4) 29 0 21) := hH.1.1 _ _ _
      refine g_get X cX12 hH (r := 29) (i := 0) (by decide) rfl 21 (by decide) k_422 rfl (v := .int (iI ((gU (gU (gU (gU M_235 46 0 (M_235 29 0 21).toNat v1) 47 0 ((gU M_235 46 0 (M_235 29 0 21).toNat v1) 29 0 21).toNat v2) 48 0 ((gU (gU M_235 46 0 (M_235 29 0 21).toNat v1) 47 0 ((gU M_235 46 0 (M_235 29 0 21).toNat v1) 29 0 21).toNat v2) 29 0 21).toNat v3) 49 0 ((gU (gU (gU M_235 46 0 (M_235 29 0 21).toNat v1) 47 0 ((gU M_235 46 0 (M_235 29 0 21).toNat v1) 29 0 21).toNat v2) 48 0 ((gU (gU M_235 46 0 (M_235 29 0 21).toNat v1) 47 0 ((gU M_235 46 0 (M_235 29 0 21).toNat v1) 29 0 21).toNat v2) 29 0 21).toNat v3) 29 0 21).toNat v4) 29 0 21))) rfl dX12_keep_281 ?_
      refine lv_iload X.1 X.2.1 dX12_keep_284 (lv_at hl.1 5 rfl) ?_
      obtain ⟨hg, hf_⟩ := og_e hf; clear hf; have hf := hf_; clear hf_
      refine g_iast X hH hS (r := 50) (i := 0) (by decide) (fun _ => rfl) nd281 hg nv5 rfl (by decide) dX12_keep_286 (fun H locs hH hS => ?_)
      refine lv_aload_n X.1 X.2.1 dX12_keep_287 rfl (lv_at hl.1 0 rfl) ?_
      refine g_get X cX12 hH (r := 29) (i := 0) (by decide) rfl 27 (by decide) k_428 rfl (v := .ref (gAd G 51 0)) rfl dX12_keep_288 ?_
      refine lv_aload_n X.1 X.2.1 dX12_keep_291 rfl (lv_at hl.1 0 rfl) ?_
      have nd292 : nmI ((gU (gU (gU (gU (gU M_235 46 0 (M_235 29 0 21).toNat v1) 47 0 ((gU M_235 46 0 (M_235 29 0 21).toNat v1) 29 0 21).toNat v2) 48 0 ((gU (gU M_235 46 0 (M_235 29 0 21).toNat v1) 47 0 ((gU M_235 46 0 (M_235 29 0 21).toNat v1) 29 0 21).toNat v2) 29 0 21).toNat v3) 49 0 ((gU (gU (gU M_235 46 0 (M_235 29 0 21).toNat v1) 47 0 ((gU M_235 46 0 (M_235 29 0 21).toNat v1) 29 0 21).toNat v2) 48 0 ((gU (gU M_235 46 0 (M_235 29 0 21).toNat v1) 47 0 ((gU M_235 46 0 (M_235 29 0 21).toNat v1) 29 0 21).toNat v2) 29 0 21).toNat v3) 29 0 21).toNat v4) 50 0 ((gU (gU (gU (gU M_235 46 0 (M_235 29 0 21).toNat v1) 47 0 ((gU M_235 46 0 (M_235 29 0 21).toNat v1) 29 0 21).toNat v2) 48 0 ((gU (gU M_235 46 0 (M_235 29 0 21).toNat v1) 47 0 ((gU M_235 46 0 (M_235 29 0 21).toNat v1) 29 0 21).toNat v2) 29 0 21).toNat v3) 49 0 ((gU (gU (gU M_235 46 0 (M_235 29 0 21).toNat v1) 47 0 ((gU M_235 46 0 (M_235 29 0 21).toNat v1) 29 0 21).toNat v2) 48 0 ((gU (gU M_235 46 0 (M_235 29 0 21).toNat v1) 47 0 ((gU M_235 46 0 (M_235 29 0 21).toNat v1) 29 0 21).toNat v2) 29 0 21).toNat v3) 29 0 21).toNat v4) 29 0 21).toNat v5) 29 0 21) := hH.1.1 _ _ _
      refine g_get X cX12 hH (r := 29) (i := 0) (by decide) rfl 21 (by decide) k_422 rfl (v := .int (iI ((gU (gU (gU (gU (gU M_235 46 0 (M_235 29 0 21).toNat v1) 47 0 ((gU M_235 46 0 (M_235 29 0 21).toNat v1) 29 0 21).toNat v2) 48 0 ((gU (gU M_235 46 0 (M_235 29 0 21).toNat v1) 47 0 ((gU M_235 46 0 (M_235 29 0 21).toNat v1) 29 0 21).toNat v2) 29 0 21).toNat v3) 49 0 ((gU (gU (gU M_235 46 0 (M_235 29 0 21).toNat v1) 47 0 ((gU M_235 46 0 (M_235 29 0 21).toNat v1) 29 0 21).toNat v2) 48 0 ((gU (gU M_235 46 0 (M_235 29 0 21).toNat v1) 47 0 ((gU M_235 46 0 (M_235 29 0 21).toNat v1) 29 0 21).toNat v2) 29 0 21).toNat v3) 29 0 21).toNat v4) 50 0 ((gU (gU (gU (gU M_235 46 0 (M_235 29 0 21).toNat v1) 47 0 ((gU M_235 46 0 (M_235 29 0 21).toNat v1) 29 0 21).toNat v2) 48 0 ((gU (gU M_235 46 0 (M_235 29 0 21).toNat v1) 47 0 ((gU M_235 46 0 (M_235 29 0 21).toNat v1) 29 0 21).toNat v2) 29 0 21).toNat v3) 49 0 ((gU (gU (gU M_235 46 0 (M_235 29 0 21).toNat v1) 47 0 ((gU M_235 46 0 (M_235 29 0 21).toNat v1) 29 0 21).toNat v2) 48 0 ((gU (gU M_235 46 0 (M_235 29 0 21).toNat v1) 47 0 ((gU M_235 46 0 (M_235 29 0 21).toNat v1) 29 0 21).toNat v2) 29 0 21).toNat v3) 29 0 21).toNat v4) 29 0 21).toNat v5) 29 0 21))) rfl dX12_keep_292 ?_
      refine lv_aload_n X.1 X.2.1 dX12_keep_295 rfl (lv_at hl.1 0 rfl) ?_
      refine lv_iload_n X.1 X.2.1 dX12_keep_296 rfl (lv_at hl.1 1 rfl) ?_
      refine lv_iload X.1 X.2.1 dX12_keep_297 (lv_at hl.1 4 rfl) ?_
      refine lv_iload X.1 X.2.1 dX12_keep_299 (lv_at hl.1 5 rfl) ?_
      refine gGoI (gRunV X hH (As := [.int (iI v1), .int (iI v4), .int (iI v5)]) (m_X12_signature l G v1 nv1 v4 nv4 v5 nv5 (gU (gU (gU (gU (gU M_235 46 0 (M_235 29 0 21).toNat v1) 47 0 ((gU M_235 46 0 (M_235 29 0 21).toNat v1) 29 0 21).toNat v2) 48 0 ((gU (gU M_235 46 0 (M_235 29 0 21).toNat v1) 47 0 ((gU M_235 46 0 (M_235 29 0 21).toNat v1) 29 0 21).toNat v2) 29 0 21).toNat v3) 49 0 ((gU (gU (gU M_235 46 0 (M_235 29 0 21).toNat v1) 47 0 ((gU M_235 46 0 (M_235 29 0 21).toNat v1) 29 0 21).toNat v2) 48 0 ((gU (gU M_235 46 0 (M_235 29 0 21).toNat v1) 47 0 ((gU M_235 46 0 (M_235 29 0 21).toNat v1) 29 0 21).toNat v2) 29 0 21).toNat v3) 29 0 21).toNat v4) 50 0 ((gU (gU (gU (gU M_235 46 0 (M_235 29 0 21).toNat v1) 47 0 ((gU M_235 46 0 (M_235 29 0 21).toNat v1) 29 0 21).toNat v2) 48 0 ((gU (gU M_235 46 0 (M_235 29 0 21).toNat v1) 47 0 ((gU M_235 46 0 (M_235 29 0 21).toNat v1) 29 0 21).toNat v2) 29 0 21).toNat v3) 49 0 ((gU (gU (gU M_235 46 0 (M_235 29 0 21).toNat v1) 47 0 ((gU M_235 46 0 (M_235 29 0 21).toNat v1) 29 0 21).toNat v2) 48 0 ((gU (gU M_235 46 0 (M_235 29 0 21).toNat v1) 47 0 ((gU M_235 46 0 (M_235 29 0 21).toNat v1) 29 0 21).toNat v2) 29 0 21).toNat v3) 29 0 21).toNat v4) 29 0 21).toNat v5) _ rfl) calX12_signature k_960 k_1108 k_474 (by decide) cX12 rfl ⟨by decide, by decide⟩ rfl hl rfl (Nat.le_of_ble_eq_true rfl) ⟨Nat.le_refl 0, Nat.le_refl 0⟩ dX12_keep_301) hS (fun H locs nr301 hH hS => ?_)
      obtain ⟨hg, hf_⟩ := og_e hf; clear hf; have hf := hf_; clear hf_
      refine g_iast X hH hS (r := 51) (i := 0) (by decide) (fun _ => rfl) nd292 hg nr301 rfl (by decide) dX12_keep_304 (fun H locs hH hS => ?_)
      refine lv_aload_n X.1 X.2.1 dX12_keep_305 rfl (lv_at hl.1 0 rfl) ?_
      refine g_get X cX12 hH (r := 29) (i := 0) (by decide) rfl 28 (by decide) k_429 rfl (v := .ref (gAd G 52 0)) rfl dX12_keep_306 ?_
      refine lv_aload_n X.1 X.2.1 dX12_keep_309 rfl (lv_at hl.1 0 rfl) ?_
      have nd310 : nmI ((gU (gU (gU (gU (gU (gU M_235 46 0 (M_235 29 0 21).toNat v1) 47 0 ((gU M_235 46 0 (M_235 29 0 21).toNat v1) 29 0 21).toNat v2) 48 0 ((gU (gU M_235 46 0 (M_235 29 0 21).toNat v1) 47 0 ((gU M_235 46 0 (M_235 29 0 21).toNat v1) 29 0 21).toNat v2) 29 0 21).toNat v3) 49 0 ((gU (gU (gU M_235 46 0 (M_235 29 0 21).toNat v1) 47 0 ((gU M_235 46 0 (M_235 29 0 21).toNat v1) 29 0 21).toNat v2) 48 0 ((gU (gU M_235 46 0 (M_235 29 0 21).toNat v1) 47 0 ((gU M_235 46 0 (M_235 29 0 21).toNat v1) 29 0 21).toNat v2) 29 0 21).toNat v3) 29 0 21).toNat v4) 50 0 ((gU (gU (gU (gU M_235 46 0 (M_235 29 0 21).toNat v1) 47 0 ((gU M_235 46 0 (M_235 29 0 21).toNat v1) 29 0 21).toNat v2) 48 0 ((gU (gU M_235 46 0 (M_235 29 0 21).toNat v1) 47 0 ((gU M_235 46 0 (M_235 29 0 21).toNat v1) 29 0 21).toNat v2) 29 0 21).toNat v3) 49 0 ((gU (gU (gU M_235 46 0 (M_235 29 0 21).toNat v1) 47 0 ((gU M_235 46 0 (M_235 29 0 21).toNat v1) 29 0 21).toNat v2) 48 0 ((gU (gU M_235 46 0 (M_235 29 0 21).toNat v1) 47 0 ((gU M_235 46 0 (M_235 29 0 21).toNat v1) 29 0 21).toNat v2) 29 0 21).toNat v3) 29 0 21).toNat v4) 29 0 21).toNat v5) 51 0 ((gU (gU (gU (gU (gU M_235 46 0 (M_235 29 0 21).toNat v1) 47 0 ((gU M_235 46 0 (M_235 29 0 21).toNat v1) 29 0 21).toNat v2) 48 0 ((gU (gU M_235 46 0 (M_235 29 0 21).toNat v1) 47 0 ((gU M_235 46 0 (M_235 29 0 21).toNat v1) 29 0 21).toNat v2) 29 0 21).toNat v3) 49 0 ((gU (gU (gU M_235 46 0 (M_235 29 0 21).toNat v1) 47 0 ((gU M_235 46 0 (M_235 29 0 21).toNat v1) 29 0 21).toNat v2) 48 0 ((gU (gU M_235 46 0 (M_235 29 0 21).toNat v1) 47 0 ((gU M_235 46 0 (M_235 29 0 21).toNat v1) 29 0 21).toNat v2) 29 0 21).toNat v3) 29 0 21).toNat v4) 50 0 ((gU (gU (gU (gU M_235 46 0 (M_235 29 0 21).toNat v1) 47 0 ((gU M_235 46 0 (M_235 29 0 21).toNat v1) 29 0 21).toNat v2) 48 0 ((gU (gU M_235 46 0 (M_235 29 0 21).toNat v1) 47 0 ((gU M_235 46 0 (M_235 29 0 21).toNat v1) 29 0 21).toNat v2) 29 0 21).toNat v3) 49 0 ((gU (gU (gU M_235 46 0 (M_235 29 0 21).toNat v1) 47 0 ((gU M_235 46 0 (M_235 29 0 21).toNat v1) 29 0 21).toNat v2) 48 0 ((gU (gU M_235 46 0 (M_235 29 0 21).toNat v1) 47 0 ((gU M_235 46 0 (M_235 29 0 21).toNat v1) 29 0 21).toNat v2) 29 0 21).toNat v3) 29 0 21).toNat v4) 29 0 21).toNat v5) 29 0 21).toNat ((f_X12_signature v1 v4 v5 (gU (gU (gU (gU (gU M_235 46 0 (M_235 29 0 21).toNat v1) 47 0 ((gU M_235 46 0 (M_235 29 0 21).toNat v1) 29 0 21).toNat v2) 48 0 ((gU (gU M_235 46 0 (M_235 29 0 21).toNat v1) 47 0 ((gU M_235 46 0 (M_235 29 0 21).toNat v1) 29 0 21).toNat v2) 29 0 21).toNat v3) 49 0 ((gU (gU (gU M_235 46 0 (M_235 29 0 21).toNat v1) 47 0 ((gU M_235 46 0 (M_235 29 0 21).toNat v1) 29 0 21).toNat v2) 48 0 ((gU (gU M_235 46 0 (M_235 29 0 21).toNat v1) 47 0 ((gU M_235 46 0 (M_235 29 0 21).toNat v1) 29 0 21).toNat v2) 29 0 21).toNat v3) 29 0 21).toNat v4) 50 0 ((gU (gU (gU (gU M_235 46 0 (M_235 29 0 21).toNat v1) 47 0 ((gU M_235 46 0 (M_235 29 0 21).toNat v1) 29 0 21).toNat v2) 48 0 ((gU (gU M_235 46 0 (M_235 29 0 21).toNat v1) 47 0 ((gU M_235 46 0 (M_235 29 0 21).toNat v1) 29 0 21).toNat v2) 29 0 21).toNat v3) 49 0 ((gU (gU (gU M_235 46 0 (M_235 29 0 21).toNat v1) 47 0 ((gU M_235 46 0 (M_235 29 0 21).toNat v1) 29 0 21).toNat v2) 48 0 ((gU (gU M_235 46 0 (M_235 29 0 21).toNat v1) 47 0 ((gU M_235 46 0 (M_235 29 0 21).toNat v1) 29 0 21).toNat v2) 29 0 21).toNat v3) 29 0 21).toNat v4) 29 0 21).toNat v5)))) 29 0 21) := hH.1.1 _ _ _
      refine g_get X cX12 hH (r := 29) (i := 0) (by decide) rfl 21 (by decide) k_422 rfl (v := .int (iI ((gU (gU (gU (gU (gU (gU M_235 46 0 (M_235 29 0 21).toNat v1) 47 0 ((gU M_235 46 0 (M_235 29 0 21).toNat v1) 29 0 21).toNat v2) 48 0 ((gU (gU M_235 46 0 (M_235 29 0 21).toNat v1) 47 0 ((gU M_235 46 0 (M_235 29 0 21).toNat v1) 29 0 21).toNat v2) 29 0 21).toNat v3) 49 0 ((gU (gU (gU M_235 46 0 (M_235 29 0 21).toNat v1) 47 0 ((gU M_235 46 0 (M_235 29 0 21).toNat v1) 29 0 21).toNat v2) 48 0 ((gU (gU M_235 46 0 (M_235 29 0 21).toNat v1) 47 0 ((gU M_235 46 0 (M_235 29 0 21).toNat v1) 29 0 21).toNat v2) 29 0 21).toNat v3) 29 0 21).toNat v4) 50 0 ((gU (gU (gU (gU M_235 46 0 (M_235 29 0 21).toNat v1) 47 0 ((gU M_235 46 0 (M_235 29 0 21).toNat v1) 29 0 21).toNat v2) 48 0 ((gU (gU M_235 46 0 (M_235 29 0 21).toNat v1) 47 0 ((gU M_235 46 0 (M_235 29 0 21).toNat v1) 29 0 21).toNat v2) 29 0 21).toNat v3) 49 0 ((gU (gU (gU M_235 46 0 (M_235 29 0 21).toNat v1) 47 0 ((gU M_235 46 0 (M_235 29 0 21).toNat v1) 29 0 21).toNat v2) 48 0 ((gU (gU M_235 46 0 (M_235 29 0 21).toNat v1) 47 0 ((gU M_235 46 0 (M_235 29 0 21).toNat v1) 29 0 21).toNat v2) 29 0 21).toNat v3) 29 0 21).toNat v4) 29 0 21).toNat v5) 51 0 ((gU (gU (gU (gU (gU M_235 46 0 (M_235 29 0 21).toNat v1) 47 0 ((gU M_235 46 0 (M_235 29 0 21).toNat v1) 29 0 21).toNat v2) 48 0 ((gU (gU M_235 46 0 (M_235 29 0 21).toNat v1) 47 0 ((gU M_235 46 0 (M_235 29 0 21).toNat v1) 29 0 21).toNat v2) 29 0 21).toNat v3) 49 0 ((gU (gU (gU M_235 46 0 (M_235 29 0 21).toNat v1) 47 0 ((gU M_235 46 0 (M_235 29 0 21).toNat v1) 29 0 21).toNat v2) 48 0 ((gU (gU M_235 46 0 (M_235 29 0 21).toNat v1) 47 0 ((gU M_235 46 0 (M_235 29 0 21).toNat v1) 29 0 21).toNat v2) 29 0 21).toNat v3) 29 0 21).toNat v4) 50 0 ((gU (gU (gU (gU M_235 46 0 (M_235 29 0 21).toNat v1) 47 0 ((gU M_235 46 0 (M_235 29 0 21).toNat v1) 29 0 21).toNat v2) 48 0 ((gU (gU M_235 46 0 (M_235 29 0 21).toNat v1) 47 0 ((gU M_235 46 0 (M_235 29 0 21).toNat v1) 29 0 21).toNat v2) 29 0 21).toNat v3) 49 0 ((gU (gU (gU M_235 46 0 (M_235 29 0 21).toNat v1) 47 0 ((gU M_235 46 0 (M_235 29 0 21).toNat v1) 29 0 21).toNat v2) 48 0 ((gU (gU M_235 46 0 (M_235 29 0 21).toNat v1) 47 0 ((gU M_235 46 0 (M_235 29 0 21).toNat v1) 29 0 21).toNat v2) 29 0 21).toNat v3) 29 0 21).toNat v4) 29 0 21).toNat v5) 29 0 21).toNat ((f_X12_signature v1 v4 v5 (gU (gU (gU (gU (gU M_235 46 0 (M_235 29 0 21).toNat v1) 47 0 ((gU M_235 46 0 (M_235 29 0 21).toNat v1) 29 0 21).toNat v2) 48 0 ((gU (gU M_235 46 0 (M_235 29 0 21).toNat v1) 47 0 ((gU M_235 46 0 (M_235 29 0 21).toNat v1) 29 0 21).toNat v2) 29 0 21).toNat v3) 49 0 ((gU (gU (gU M_235 46 0 (M_235 29 0 21).toNat v1) 47 0 ((gU M_235 46 0 (M_235 29 0 21).toNat v1) 29 0 21).toNat v2) 48 0 ((gU (gU M_235 46 0 (M_235 29 0 21).toNat v1) 47 0 ((gU M_235 46 0 (M_235 29 0 21).toNat v1) 29 0 21).toNat v2) 29 0 21).toNat v3) 29 0 21).toNat v4) 50 0 ((gU (gU (gU (gU M_235 46 0 (M_235 29 0 21).toNat v1) 47 0 ((gU M_235 46 0 (M_235 29 0 21).toNat v1) 29 0 21).toNat v2) 48 0 ((gU (gU M_235 46 0 (M_235 29 0 21).toNat v1) 47 0 ((gU M_235 46 0 (M_235 29 0 21).toNat v1) 29 0 21).toNat v2) 29 0 21).toNat v3) 49 0 ((gU (gU (gU M_235 46 0 (M_235 29 0 21).toNat v1) 47 0 ((gU M_235 46 0 (M_235 29 0 21).toNat v1) 29 0 21).toNat v2) 48 0 ((gU (gU M_235 46 0 (M_235 29 0 21).toNat v1) 47 0 ((gU M_235 46 0 (M_235 29 0 21).toNat v1) 29 0 21).toNat v2) 29 0 21).toNat v3) 29 0 21).toNat v4) 29 0 21).toNat v5)))) 29 0 21))) rfl dX12_keep_310 ?_
      refine lv_iconst X.1 X.2.1 dX12_keep_313 (v := iI 0) rfl ?_
      obtain ⟨hg, hf_⟩ := og_e hf; clear hf; have hf := hf_; clear hf_
      refine g_zast X hH hS (r := 52) (i := 0) (by decide) (fun _ => rfl) nd310 hg (by decide) dX12_keep_314 (fun H locs hH hS => ?_)
      refine lv_aload_n X.1 X.2.1 dX12_keep_315 rfl (lv_at hl.1 0 rfl) ?_
      refine lv_dup X.1 X.2.1 dX12_keep_316 rfl ?_
      have nd317 : nmI ((gU (gU (gU (gU (gU (gU (gU M_235 46 0 (M_235 29 0 21).toNat v1) 47 0 ((gU M_235 46 0 (M_235 29 0 21).toNat v1) 29 0 21).toNat v2) 48 0 ((gU (gU M_235 46 0 (M_235 29 0 21).toNat v1) 47 0 ((gU M_235 46 0 (M_235 29 0 21).toNat v1) 29 0 21).toNat v2) 29 0 21).toNat v3) 49 0 ((gU (gU (gU M_235 46 0 (M_235 29 0 21).toNat v1) 47 0 ((gU M_235 46 0 (M_235 29 0 21).toNat v1) 29 0 21).toNat v2) 48 0 ((gU (gU M_235 46 0 (M_235 29 0 21).toNat v1) 47 0 ((gU M_235 46 0 (M_235 29 0 21).toNat v1) 29 0 21).toNat v2) 29 0 21).toNat v3) 29 0 21).toNat v4) 50 0 ((gU (gU (gU (gU M_235 46 0 (M_235 29 0 21).toNat v1) 47 0 ((gU M_235 46 0 (M_235 29 0 21).toNat v1) 29 0 21).toNat v2) 48 0 ((gU (gU M_235 46 0 (M_235 29 0 21).toNat v1) 47 0 ((gU M_235 46 0 (M_235 29 0 21).toNat v1) 29 0 21).toNat v2) 29 0 21).toNat v3) 49 0 ((gU (gU (gU M_235 46 0 (M_235 29 0 21).toNat v1) 47 0 ((gU M_235 46 0 (M_235 29 0 21).toNat v1) 29 0 21).toNat v2) 48 0 ((gU (gU M_235 46 0 (M_235 29 0 21).toNat v1) 47 0 ((gU M_235 46 0 (M_235 29 0 21).toNat v1) 29 0 21).toNat v2) 29 0 21).toNat v3) 29 0 21).toNat v4) 29 0 21).toNat v5) 51 0 ((gU (gU (gU (gU (gU M_235 46 0 (M_235 29 0 21).toNat v1) 47 0 ((gU M_235 46 0 (M_235 29 0 21).toNat v1) 29 0 21).toNat v2) 48 0 ((gU (gU M_235 46 0 (M_235 29 0 21).toNat v1) 47 0 ((gU M_235 46 0 (M_235 29 0 21).toNat v1) 29 0 21).toNat v2) 29 0 21).toNat v3) 49 0 ((gU (gU (gU M_235 46 0 (M_235 29 0 21).toNat v1) 47 0 ((gU M_235 46 0 (M_235 29 0 21).toNat v1) 29 0 21).toNat v2) 48 0 ((gU (gU M_235 46 0 (M_235 29 0 21).toNat v1) 47 0 ((gU M_235 46 0 (M_235 29 0 21).toNat v1) 29 0 21).toNat v2) 29 0 21).toNat v3) 29 0 21).toNat v4) 50 0 ((gU (gU (gU (gU M_235 46 0 (M_235 29 0 21).toNat v1) 47 0 ((gU M_235 46 0 (M_235 29 0 21).toNat v1) 29 0 21).toNat v2) 48 0 ((gU (gU M_235 46 0 (M_235 29 0 21).toNat v1) 47 0 ((gU M_235 46 0 (M_235 29 0 21).toNat v1) 29 0 21).toNat v2) 29 0 21).toNat v3) 49 0 ((gU (gU (gU M_235 46 0 (M_235 29 0 21).toNat v1) 47 0 ((gU M_235 46 0 (M_235 29 0 21).toNat v1) 29 0 21).toNat v2) 48 0 ((gU (gU M_235 46 0 (M_235 29 0 21).toNat v1) 47 0 ((gU M_235 46 0 (M_235 29 0 21).toNat v1) 29 0 21).toNat v2) 29 0 21).toNat v3) 29 0 21).toNat v4) 29 0 21).toNat v5) 29 0 21).toNat ((f_X12_signature v1 v4 v5 (gU (gU (gU (gU (gU M_235 46 0 (M_235 29 0 21).toNat v1) 47 0 ((gU M_235 46 0 (M_235 29 0 21).toNat v1) 29 0 21).toNat v2) 48 0 ((gU (gU M_235 46 0 (M_235 29 0 21).toNat v1) 47 0 ((gU M_235 46 0 (M_235 29 0 21).toNat v1) 29 0 21).toNat v2) 29 0 21).toNat v3) 49 0 ((gU (gU (gU M_235 46 0 (M_235 29 0 21).toNat v1) 47 0 ((gU M_235 46 0 (M_235 29 0 21).toNat v1) 29 0 21).toNat v2) 48 0 ((gU (gU M_235 46 0 (M_235 29 0 21).toNat v1) 47 0 ((gU M_235 46 0 (M_235 29 0 21).toNat v1) 29 0 21).toNat v2) 29 0 21).toNat v3) 29 0 21).toNat v4) 50 0 ((gU (gU (gU (gU M_235 46 0 (M_235 29 0 21).toNat v1) 47 0 ((gU M_235 46 0 (M_235 29 0 21).toNat v1) 29 0 21).toNat v2) 48 0 ((gU (gU M_235 46 0 (M_235 29 0 21).toNat v1) 47 0 ((gU M_235 46 0 (M_235 29 0 21).toNat v1) 29 0 21).toNat v2) 29 0 21).toNat v3) 49 0 ((gU (gU (gU M_235 46 0 (M_235 29 0 21).toNat v1) 47 0 ((gU M_235 46 0 (M_235 29 0 21).toNat v1) 29 0 21).toNat v2) 48 0 ((gU (gU M_235 46 0 (M_235 29 0 21).toNat v1) 47 0 ((gU M_235 46 0 (M_235 29 0 21).toNat v1) 29 0 21).toNat v2) 29 0 21).toNat v3) 29 0 21).toNat v4) 29 0 21).toNat v5)))) 52 0 ((gU (gU (gU (gU (gU (gU M_235 46 0 (M_235 29 0 21).toNat v1) 47 0 ((gU M_235 46 0 (M_235 29 0 21).toNat v1) 29 0 21).toNat v2) 48 0 ((gU (gU M_235 46 0 (M_235 29 0 21).toNat v1) 47 0 ((gU M_235 46 0 (M_235 29 0 21).toNat v1) 29 0 21).toNat v2) 29 0 21).toNat v3) 49 0 ((gU (gU (gU M_235 46 0 (M_235 29 0 21).toNat v1) 47 0 ((gU M_235 46 0 (M_235 29 0 21).toNat v1) 29 0 21).toNat v2) 48 0 ((gU (gU M_235 46 0 (M_235 29 0 21).toNat v1) 47 0 ((gU M_235 46 0 (M_235 29 0 21).toNat v1) 29 0 21).toNat v2) 29 0 21).toNat v3) 29 0 21).toNat v4) 50 0 ((gU (gU (gU (gU M_235 46 0 (M_235 29 0 21).toNat v1) 47 0 ((gU M_235 46 0 (M_235 29 0 21).toNat v1) 29 0 21).toNat v2) 48 0 ((gU (gU M_235 46 0 (M_235 29 0 21).toNat v1) 47 0 ((gU M_235 46 0 (M_235 29 0 21).toNat v1) 29 0 21).toNat v2) 29 0 21).toNat v3) 49 0 ((gU (gU (gU M_235 46 0 (M_235 29 0 21).toNat v1) 47 0 ((gU M_235 46 0 (M_235 29 0 21).toNat v1) 29 0 21).toNat v2) 48 0 ((gU (gU M_235 46 0 (M_235 29 0 21).toNat v1) 47 0 ((gU M_235 46 0 (M_235 29 0 21).toNat v1) 29 0 21).toNat v2) 29 0 21).toNat v3) 29 0 21).toNat v4) 29 0 21).toNat v5) 51 0 ((gU (gU (gU (gU (gU M_235 46 0 (M_235 29 0 21).toNat v1) 47 0 ((gU M_235 46 0 (M_235 29 0 21).toNat v1) 29 0 21).toNat v2) 48 0 ((gU (gU M_235 46 0 (M_235 29 0 21).toNat v1) 47 0 ((gU M_235 46 0 (M_235 29 0 21).toNat v1) 29 0 21).toNat v2) 29 0 21).toNat v3) 49 0 ((gU (gU (gU M_235 46 0 (M_235 29 0 21).toNat v1) 47 0 ((gU M_235 46 0 (M_235 29 0 21).toNat v1) 29 0 21).toNat v2) 48 0 ((gU (gU M_235 46 0 (M_235 29 0 21).toNat v1) 47 0 ((gU M_235 46 0 (M_235 29 0 21).toNat v1) 29 0 21).toNat v2) 29 0 21).toNat v3) 29 0 21).toNat v4) 50 0 ((gU (gU (gU (gU M_235 46 0 (M_235 29 0 21).toNat v1) 47 0 ((gU M_235 46 0 (M_235 29 0 21).toNat v1) 29 0 21).toNat v2) 48 0 ((gU (gU M_235 46 0 (M_235 29 0 21).toNat v1) 47 0 ((gU M_235 46 0 (M_235 29 0 21).toNat v1) 29 0 21).toNat v2) 29 0 21).toNat v3) 49 0 ((gU (gU (gU M_235 46 0 (M_235 29 0 21).toNat v1) 47 0 ((gU M_235 46 0 (M_235 29 0 21).toNat v1) 29 0 21).toNat v2) 48 0 ((gU (gU M_235 46 0 (M_235 29 0 21).toNat v1) 47 0 ((gU M_235 46 0 (M_235 29 0 21).toNat v1) 29 0 21).toNat v2) 29 0 21).toNat v3) 29 0 21).toNat v4) 29 0 21).toNat v5) 29 0 21).toNat ((f_X12_signature v1 v4 v5 (gU (gU (gU (gU (gU M_235 46 0 (M_235 29 0 21).toNat v1) 47 0 ((gU M_235 46 0 (M_235 29 0 21).toNat v1) 29 0 21).toNat v2) 48 0 ((gU (gU M_235 46 0 (M_235 29 0 21).toNat v1) 47 0 ((gU M_235 46 0 (M_235 29 0 21).toNat v1) 29 0 21).toNat v2) 29 0 21).toNat v3) 49 0 ((gU (gU (gU M_235 46 0 (M_235 29 0 21).toNat v1) 47 0 ((gU M_235 46 0 (M_235 29 0 21).toNat v1) 29 0 21).toNat v2) 48 0 ((gU (gU M_235 46 0 (M_235 29 0 21).toNat v1) 47 0 ((gU M_235 46 0 (M_235 29 0 21).toNat v1) 29 0 21).toNat v2) 29 0 21).toNat v3) 29 0 21).toNat v4) 50 0 ((gU (gU (gU (gU M_235 46 0 (M_235 29 0 21).toNat v1) 47 0 ((gU M_235 46 0 (M_235 29 0 21).toNat v1) 29 0 21).toNat v2) 48 0 ((gU (gU M_235 46 0 (M_235 29 0 21).toNat v1) 47 0 ((gU M_235 46 0 (M_235 29 0 21).toNat v1) 29 0 21).toNat v2) 29 0 21).toNat v3) 49 0 ((gU (gU (gU M_235 46 0 (M_235 29 0 21).toNat v1) 47 0 ((gU M_235 46 0 (M_235 29 0 21).toNat v1) 29 0 21).toNat v2) 48 0 ((gU (gU M_235 46 0 (M_235 29 0 21).toNat v1) 47 0 ((gU M_235 46 0 (M_235 29 0 21).toNat v1) 29 0 21).toNat v2) 29 0 21).toNat v3) 29 0 21).toNat v4) 29 0 21).toNat v5)))) 29 0 21).toNat 0) 29 0 21) := hH.1.1 _ _ _
      refine g_get X cX12 hH (r := 29) (i := 0) (by decide) rfl 21 (by decide) k_422 rfl (v := .int (iI ((gU (gU (gU (gU (gU (gU (gU M_235 46 0 (M_235 29 0 21).toNat v1) 47 0 ((gU M_235 46 0 (M_235 29 0 21).toNat v1) 29 0 21).toNat v2) 48 0 ((gU (gU M_235 46 0 (M_235 29 0 21).toNat v1) 47 0 ((gU M_235 46 0 (M_235 29 0 21).toNat v1) 29 0 21).toNat v2) 29 0 21).toNat v3) 49 0 ((gU (gU (gU M_235 46 0 (M_235 29 0 21).toNat v1) 47 0 ((gU M_235 46 0 (M_235 29 0 21).toNat v1) 29 0 21).toNat v2) 48 0 ((gU (gU M_235 46 0 (M_235 29 0 21).toNat v1) 47 0 ((gU M_235 46 0 (M_235 29 0 21).toNat v1) 29 0 21).toNat v2) 29 0 21).toNat v3) 29 0 21).toNat v4) 50 0 ((gU (gU (gU (gU M_235 46 0 (M_235 29 0 21).toNat v1) 47 0 ((gU M_235 46 0 (M_235 29 0 21).toNat v1) 29 0 21).toNat v2) 48 0 ((gU (gU M_235 46 0 (M_235 29 0 21).toNat v1) 47 0 ((gU M_235 46 0 (M_235 29 0 21).toNat v1) 29 0 21).toNat v2) 29 0 21).toNat v3) 49 0 ((gU (gU (gU M_235 46 0 (M_235 29 0 21).toNat v1) 47 0 ((gU M_235 46 0 (M_235 29 0 21).toNat v1) 29 0 21).toNat v2) 48 0 ((gU (gU M_235 46 0 (M_235 29 0 21).toNat v1) 47 0 ((gU M_235 46 0 (M_235 29 0 21).toNat v1) 29 0 21).toNat v2) 29 0 21).toNat v3) 29 0 21).toNat v4) 29 0 21).toNat v5) 51 0 ((gU (gU (gU (gU (gU M_235 46 0 (M_235 29 0 21).toNat v1) 47 0 ((gU M_235 46 0 (M_235 29 0 21).toNat v1) 29 0 21).toNat v2) 48 0 ((gU (gU M_235 46 0 (M_235 29 0 21).toNat v1) 47 0 ((gU M_235 46 0 (M_235 29 0 21).toNat v1) 29 0 21).toNat v2) 29 0 21).toNat v3) 49 0 ((gU (gU (gU M_235 46 0 (M_235 29 0 21).toNat v1) 47 0 ((gU M_235 46 0 (M_235 29 0 21).toNat v1) 29 0 21).toNat v2) 48 0 ((gU (gU M_235 46 0 (M_235 29 0 21).toNat v1) 47 0 ((gU M_235 46 0 (M_235 29 0 21).toNat v1) 29 0 21).toNat v2) 29 0 21).toNat v3) 29 0 21).toNat v4) 50 0 ((gU (gU (gU (gU M_235 46 0 (M_235 29 0 21).toNat v1) 47 0 ((gU M_235 46 0 (M_235 29 0 21).toNat v1) 29 0 21).toNat v2) 48 0 ((gU (gU M_235 46 0 (M_235 29 0 21).toNat v1) 47 0 ((gU M_235 46 0 (M_235 29 0 21).toNat v1) 29 0 21).toNat v2) 29 0 21).toNat v3) 49 0 ((gU (gU (gU M_235 46 0 (M_235 29 0 21).toNat v1) 47 0 ((gU M_235 46 0 (M_235 29 0 21).toNat v1) 29 0 21).toNat v2) 48 0 ((gU (gU M_235 46 0 (M_235 29 0 21).toNat v1) 47 0 ((gU M_235 46 0 (M_235 29 0 21).toNat v1) 29 0 21).toNat v2) 29 0 21).toNat v3) 29 0 21).toNat v4) 29 0 21).toNat v5) 29 0 21).toNat ((f_X12_signature v1 v4 v5 (gU (gU (gU (gU (gU M_235 46 0 (M_235 29 0 21).toNat v1) 47 0 ((gU M_235 46 0 (M_235 29 0 21).toNat v1) 29 0 21).toNat v2) 48 0 ((gU (gU M_235 46 0 (M_235 29 0 21).toNat v1) 47 0 ((gU M_235 46 0 (M_235 29 0 21).toNat v1) 29 0 21).toNat v2) 29 0 21).toNat v3) 49 0 ((gU (gU (gU M_235 46 0 (M_235 29 0 21).toNat v1) 47 0 ((gU M_235 46 0 (M_235 29 0 21).toNat v1) 29 0 21).toNat v2) 48 0 ((gU (gU M_235 46 0 (M_235 29 0 21).toNat v1) 47 0 ((gU M_235 46 0 (M_235 29 0 21).toNat v1) 29 0 21).toNat v2) 29 0 21).toNat v3) 29 0 21).toNat v4) 50 0 ((gU (gU (gU (gU M_235 46 0 (M_235 29 0 21).toNat v1) 47 0 ((gU M_235 46 0 (M_235 29 0 21).toNat v1) 29 0 21).toNat v2) 48 0 ((gU (gU M_235 46 0 (M_235 29 0 21).toNat v1) 47 0 ((gU M_235 46 0 (M_235 29 0 21).toNat v1) 29 0 21).toNat v2) 29 0 21).toNat v3) 49 0 ((gU (gU (gU M_235 46 0 (M_235 29 0 21).toNat v1) 47 0 ((gU M_235 46 0 (M_235 29 0 21).toNat v1) 29 0 21).toNat v2) 48 0 ((gU (gU M_235 46 0 (M_235 29 0 21).toNat v1) 47 0 ((gU M_235 46 0 (M_235 29 0 21).toNat v1) 29 0 21).toNat v2) 29 0 21).toNat v3) 29 0 21).toNat v4) 29 0 21).toNat v5)))) 52 0 ((gU (gU (gU (gU (gU (gU M_235 46 0 (M_235 29 0 21).toNat v1) 47 0 ((gU M_235 46 0 (M_235 29 0 21).toNat v1) 29 0 21).toNat v2) 48 0 ((gU (gU M_235 46 0 (M_235 29 0 21).toNat v1) 47 0 ((gU M_235 46 0 (M_235 29 0 21).toNat v1) 29 0 21).toNat v2) 29 0 21).toNat v3) 49 0 ((gU (gU (gU M_235 46 0 (M_235 29 0 21).toNat v1) 47 0 ((gU M_235 46 0 (M_235 29 0 21).toNat v1) 29 0 21).toNat v2) 48 0 ((gU (gU M_235 46 0 (M_235 29 0 21).toNat v1) 47 0 ((gU M_235 46 0 (M_235 29 0 21).toNat v1) 29 0 21).toNat v2) 29 0 21).toNat v3) 29 0 21).toNat v4) 50 0 ((gU (gU (gU (gU M_235 46 0 (M_235 29 0 21).toNat v1) 47 0 ((gU M_235 46 0 (M_235 29 0 21).toNat v1) 29 0 21).toNat v2) 48 0 ((gU (gU M_235 46 0 (M_235 29 0 21).toNat v1) 47 0 ((gU M_235 46 0 (M_235 29 0 21).toNat v1) 29 0 21).toNat v2) 29 0 21).toNat v3) 49 0 ((gU (gU (gU M_235 46 0 (M_235 29 0 21).toNat v1) 47 0 ((gU M_235 46 0 (M_235 29 0 21).toNat v1) 29 0 21).toNat v2) 48 0 ((gU (gU M_235 46 0 (M_235 29 0 21).toNat v1) 47 0 ((gU M_235 46 0 (M_235 29 0 21).toNat v1) 29 0 21).toNat v2) 29 0 21).toNat v3) 29 0 21).toNat v4) 29 0 21).toNat v5) 51 0 ((gU (gU (gU (gU (gU M_235 46 0 (M_235 29 0 21).toNat v1) 47 0 ((gU M_235 46 0 (M_235 29 0 21).toNat v1) 29 0 21).toNat v2) 48 0 ((gU (gU M_235 46 0 (M_235 29 0 21).toNat v1) 47 0 ((gU M_235 46 0 (M_235 29 0 21).toNat v1) 29 0 21).toNat v2) 29 0 21).toNat v3) 49 0 ((gU (gU (gU M_235 46 0 (M_235 29 0 21).toNat v1) 47 0 ((gU M_235 46 0 (M_235 29 0 21).toNat v1) 29 0 21).toNat v2) 48 0 ((gU (gU M_235 46 0 (M_235 29 0 21).toNat v1) 47 0 ((gU M_235 46 0 (M_235 29 0 21).toNat v1) 29 0 21).toNat v2) 29 0 21).toNat v3) 29 0 21).toNat v4) 50 0 ((gU (gU (gU (gU M_235 46 0 (M_235 29 0 21).toNat v1) 47 0 ((gU M_235 46 0 (M_235 29 0 21).toNat v1) 29 0 21).toNat v2) 48 0 ((gU (gU M_235 46 0 (M_235 29 0 21).toNat v1) 47 0 ((gU M_235 46 0 (M_235 29 0 21).toNat v1) 29 0 21).toNat v2) 29 0 21).toNat v3) 49 0 ((gU (gU (gU M_235 46 0 (M_235 29 0 21).toNat v1) 47 0 ((gU M_235 46 0 (M_235 29 0 21).toNat v1) 29 0 21).toNat v2) 48 0 ((gU (gU M_235 46 0 (M_235 29 0 21).toNat v1) 47 0 ((gU M_235 46 0 (M_235 29 0 21).toNat v1) 29 0 21).toNat v2) 29 0 21).toNat v3) 29 0 21).toNat v4) 29 0 21).toNat v5) 29 0 21).toNat ((f_X12_signature v1 v4 v5 (gU (gU (gU (gU (gU M_235 46 0 (M_235 29 0 21).toNat v1) 47 0 ((gU M_235 46 0 (M_235 29 0 21).toNat v1) 29 0 21).toNat v2) 48 0 ((gU (gU M_235 46 0 (M_235 29 0 21).toNat v1) 47 0 ((gU M_235 46 0 (M_235 29 0 21).toNat v1) 29 0 21).toNat v2) 29 0 21).toNat v3) 49 0 ((gU (gU (gU M_235 46 0 (M_235 29 0 21).toNat v1) 47 0 ((gU M_235 46 0 (M_235 29 0 21).toNat v1) 29 0 21).toNat v2) 48 0 ((gU (gU M_235 46 0 (M_235 29 0 21).toNat v1) 47 0 ((gU M_235 46 0 (M_235 29 0 21).toNat v1) 29 0 21).toNat v2) 29 0 21).toNat v3) 29 0 21).toNat v4) 50 0 ((gU (gU (gU (gU M_235 46 0 (M_235 29 0 21).toNat v1) 47 0 ((gU M_235 46 0 (M_235 29 0 21).toNat v1) 29 0 21).toNat v2) 48 0 ((gU (gU M_235 46 0 (M_235 29 0 21).toNat v1) 47 0 ((gU M_235 46 0 (M_235 29 0 21).toNat v1) 29 0 21).toNat v2) 29 0 21).toNat v3) 49 0 ((gU (gU (gU M_235 46 0 (M_235 29 0 21).toNat v1) 47 0 ((gU M_235 46 0 (M_235 29 0 21).toNat v1) 29 0 21).toNat v2) 48 0 ((gU (gU M_235 46 0 (M_235 29 0 21).toNat v1) 47 0 ((gU M_235 46 0 (M_235 29 0 21).toNat v1) 29 0 21).toNat v2) 29 0 21).toNat v3) 29 0 21).toNat v4) 29 0 21).toNat v5)))) 29 0 21).toNat 0) 29 0 21))) rfl dX12_keep_317 ?_
      refine lv_iconst X.1 X.2.1 dX12_keep_320 (v := iI 1) rfl ?_
      refine g_iadd X dX12_keep_321 ?_
      refine g_putI X cX12 hH hS (r := 29) (i := 0) (by decide) rfl 21 (by decide) k_422 rfl rfl rfl (Nat.le_of_ble_eq_true rfl) (x := wI (((gU (gU (gU (gU (gU (gU (gU M_235 46 0 (M_235 29 0 21).toNat v1) 47 0 ((gU M_235 46 0 (M_235 29 0 21).toNat v1) 29 0 21).toNat v2) 48 0 ((gU (gU M_235 46 0 (M_235 29 0 21).toNat v1) 47 0 ((gU M_235 46 0 (M_235 29 0 21).toNat v1) 29 0 21).toNat v2) 29 0 21).toNat v3) 49 0 ((gU (gU (gU M_235 46 0 (M_235 29 0 21).toNat v1) 47 0 ((gU M_235 46 0 (M_235 29 0 21).toNat v1) 29 0 21).toNat v2) 48 0 ((gU (gU M_235 46 0 (M_235 29 0 21).toNat v1) 47 0 ((gU M_235 46 0 (M_235 29 0 21).toNat v1) 29 0 21).toNat v2) 29 0 21).toNat v3) 29 0 21).toNat v4) 50 0 ((gU (gU (gU (gU M_235 46 0 (M_235 29 0 21).toNat v1) 47 0 ((gU M_235 46 0 (M_235 29 0 21).toNat v1) 29 0 21).toNat v2) 48 0 ((gU (gU M_235 46 0 (M_235 29 0 21).toNat v1) 47 0 ((gU M_235 46 0 (M_235 29 0 21).toNat v1) 29 0 21).toNat v2) 29 0 21).toNat v3) 49 0 ((gU (gU (gU M_235 46 0 (M_235 29 0 21).toNat v1) 47 0 ((gU M_235 46 0 (M_235 29 0 21).toNat v1) 29 0 21).toNat v2) 48 0 ((gU (gU M_235 46 0 (M_235 29 0 21).toNat v1) 47 0 ((gU M_235 46 0 (M_235 29 0 21).toNat v1) 29 0 21).toNat v2) 29 0 21).toNat v3) 29 0 21).toNat v4) 29 0 21).toNat v5) 51 0 ((gU (gU (gU (gU (gU M_235 46 0 (M_235 29 0 21).toNat v1) 47 0 ((gU M_235 46 0 (M_235 29 0 21).toNat v1) 29 0 21).toNat v2) 48 0 ((gU (gU M_235 46 0 (M_235 29 0 21).toNat v1) 47 0 ((gU M_235 46 0 (M_235 29 0 21).toNat v1) 29 0 21).toNat v2) 29 0 21).toNat v3) 49 0 ((gU (gU (gU M_235 46 0 (M_235 29 0 21).toNat v1) 47 0 ((gU M_235 46 0 (M_235 29 0 21).toNat v1) 29 0 21).toNat v2) 48 0 ((gU (gU M_235 46 0 (M_235 29 0 21).toNat v1) 47 0 ((gU M_235 46 0 (M_235 29 0 21).toNat v1) 29 0 21).toNat v2) 29 0 21).toNat v3) 29 0 21).toNat v4) 50 0 ((gU (gU (gU (gU M_235 46 0 (M_235 29 0 21).toNat v1) 47 0 ((gU M_235 46 0 (M_235 29 0 21).toNat v1) 29 0 21).toNat v2) 48 0 ((gU (gU M_235 46 0 (M_235 29 0 21).toNat v1) 47 0 ((gU M_235 46 0 (M_235 29 0 21).toNat v1) 29 0 21).toNat v2) 29 0 21).toNat v3) 49 0 ((gU (gU (gU M_235 46 0 (M_235 29 0 21).toNat v1) 47 0 ((gU M_235 46 0 (M_235 29 0 21).toNat v1) 29 0 21).toNat v2) 48 0 ((gU (gU M_235 46 0 (M_235 29 0 21).toNat v1) 47 0 ((gU M_235 46 0 (M_235 29 0 21).toNat v1) 29 0 21).toNat v2) 29 0 21).toNat v3) 29 0 21).toNat v4) 29 0 21).toNat v5) 29 0 21).toNat ((f_X12_signature v1 v4 v5 (gU (gU (gU (gU (gU M_235 46 0 (M_235 29 0 21).toNat v1) 47 0 ((gU M_235 46 0 (M_235 29 0 21).toNat v1) 29 0 21).toNat v2) 48 0 ((gU (gU M_235 46 0 (M_235 29 0 21).toNat v1) 47 0 ((gU M_235 46 0 (M_235 29 0 21).toNat v1) 29 0 21).toNat v2) 29 0 21).toNat v3) 49 0 ((gU (gU (gU M_235 46 0 (M_235 29 0 21).toNat v1) 47 0 ((gU M_235 46 0 (M_235 29 0 21).toNat v1) 29 0 21).toNat v2) 48 0 ((gU (gU M_235 46 0 (M_235 29 0 21).toNat v1) 47 0 ((gU M_235 46 0 (M_235 29 0 21).toNat v1) 29 0 21).toNat v2) 29 0 21).toNat v3) 29 0 21).toNat v4) 50 0 ((gU (gU (gU (gU M_235 46 0 (M_235 29 0 21).toNat v1) 47 0 ((gU M_235 46 0 (M_235 29 0 21).toNat v1) 29 0 21).toNat v2) 48 0 ((gU (gU M_235 46 0 (M_235 29 0 21).toNat v1) 47 0 ((gU M_235 46 0 (M_235 29 0 21).toNat v1) 29 0 21).toNat v2) 29 0 21).toNat v3) 49 0 ((gU (gU (gU M_235 46 0 (M_235 29 0 21).toNat v1) 47 0 ((gU M_235 46 0 (M_235 29 0 21).toNat v1) 29 0 21).toNat v2) 48 0 ((gU (gU M_235 46 0 (M_235 29 0 21).toNat v1) 47 0 ((gU M_235 46 0 (M_235 29 0 21).toNat v1) 29 0 21).toNat v2) 29 0 21).toNat v3) 29 0 21).toNat v4) 29 0 21).toNat v5)))) 52 0 ((gU (gU (gU (gU (gU (gU M_235 46 0 (M_235 29 0 21).toNat v1) 47 0 ((gU M_235 46 0 (M_235 29 0 21).toNat v1) 29 0 21).toNat v2) 48 0 ((gU (gU M_235 46 0 (M_235 29 0 21).toNat v1) 47 0 ((gU M_235 46 0 (M_235 29 0 21).toNat v1) 29 0 21).toNat v2) 29 0 21).toNat v3) 49 0 ((gU (gU (gU M_235 46 0 (M_235 29 0 21).toNat v1) 47 0 ((gU M_235 46 0 (M_235 29 0 21).toNat v1) 29 0 21).toNat v2) 48 0 ((gU (gU M_235 46 0 (M_235 29 0 21).toNat v1) 47 0 ((gU M_235 46 0 (M_235 29 0 21).toNat v1) 29 0 21).toNat v2) 29 0 21).toNat v3) 29 0 21).toNat v4) 50 0 ((gU (gU (gU (gU M_235 46 0 (M_235 29 0 21).toNat v1) 47 0 ((gU M_235 46 0 (M_235 29 0 21).toNat v1) 29 0 21).toNat v2) 48 0 ((gU (gU M_235 46 0 (M_235 29 0 21).toNat v1) 47 0 ((gU M_235 46 0 (M_235 29 0 21).toNat v1) 29 0 21).toNat v2) 29 0 21).toNat v3) 49 0 ((gU (gU (gU M_235 46 0 (M_235 29 0 21).toNat v1) 47 0 ((gU M_235 46 0 (M_235 29 0 21).toNat v1) 29 0 21).toNat v2) 48 0 ((gU (gU M_235 46 0 (M_235 29 0 21).toNat v1) 47 0 ((gU M_235 46 0 (M_235 29 0 21).toNat v1) 29 0 21).toNat v2) 29 0 21).toNat v3) 29 0 21).toNat v4) 29 0 21).toNat v5) 51 0 ((gU (gU (gU (gU (gU M_235 46 0 (M_235 29 0 21).toNat v1) 47 0 ((gU M_235 46 0 (M_235 29 0 21).toNat v1) 29 0 21).toNat v2) 48 0 ((gU (gU M_235 46 0 (M_235 29 0 21).toNat v1) 47 0 ((gU M_235 46 0 (M_235 29 0 21).toNat v1) 29 0 21).toNat v2) 29 0 21).toNat v3) 49 0 ((gU (gU (gU M_235 46 0 (M_235 29 0 21).toNat v1) 47 0 ((gU M_235 46 0 (M_235 29 0 21).toNat v1) 29 0 21).toNat v2) 48 0 ((gU (gU M_235 46 0 (M_235 29 0 21).toNat v1) 47 0 ((gU M_235 46 0 (M_235 29 0 21).toNat v1) 29 0 21).toNat v2) 29 0 21).toNat v3) 29 0 21).toNat v4) 50 0 ((gU (gU (gU (gU M_235 46 0 (M_235 29 0 21).toNat v1) 47 0 ((gU M_235 46 0 (M_235 29 0 21).toNat v1) 29 0 21).toNat v2) 48 0 ((gU (gU M_235 46 0 (M_235 29 0 21).toNat v1) 47 0 ((gU M_235 46 0 (M_235 29 0 21).toNat v1) 29 0 21).toNat v2) 29 0 21).toNat v3) 49 0 ((gU (gU (gU M_235 46 0 (M_235 29 0 21).toNat v1) 47 0 ((gU M_235 46 0 (M_235 29 0 21).toNat v1) 29 0 21).toNat v2) 48 0 ((gU (gU M_235 46 0 (M_235 29 0 21).toNat v1) 47 0 ((gU M_235 46 0 (M_235 29 0 21).toNat v1) 29 0 21).toNat v2) 29 0 21).toNat v3) 29 0 21).toNat v4) 29 0 21).toNat v5) 29 0 21).toNat ((f_X12_signature v1 v4 v5 (gU (gU (gU (gU (gU M_235 46 0 (M_235 29 0 21).toNat v1) 47 0 ((gU M_235 46 0 (M_235 29 0 21).toNat v1) 29 0 21).toNat v2) 48 0 ((gU (gU M_235 46 0 (M_235 29 0 21).toNat v1) 47 0 ((gU M_235 46 0 (M_235 29 0 21).toNat v1) 29 0 21).toNat v2) 29 0 21).toNat v3) 49 0 ((gU (gU (gU M_235 46 0 (M_235 29 0 21).toNat v1) 47 0 ((gU M_235 46 0 (M_235 29 0 21).toNat v1) 29 0 21).toNat v2) 48 0 ((gU (gU M_235 46 0 (M_235 29 0 21).toNat v1) 47 0 ((gU M_235 46 0 (M_235 29 0 21).toNat v1) 29 0 21).toNat v2) 29 0 21).toNat v3) 29 0 21).toNat v4) 50 0 ((gU (gU (gU (gU M_235 46 0 (M_235 29 0 21).toNat v1) 47 0 ((gU M_235 46 0 (M_235 29 0 21).toNat v1) 29 0 21).toNat v2) 48 0 ((gU (gU M_235 46 0 (M_235 29 0 21).toNat v1) 47 0 ((gU M_235 46 0 (M_235 29 0 21).toNat v1) 29 0 21).toNat v2) 29 0 21).toNat v3) 49 0 ((gU (gU (gU M_235 46 0 (M_235 29 0 21).toNat v1) 47 0 ((gU M_235 46 0 (M_235 29 0 21).toNat v1) 29 0 21).toNat v2) 48 0 ((gU (gU M_235 46 0 (M_235 29 0 21).toNat v1) 47 0 ((gU M_235 46 0 (M_235 29 0 21).toNat v1) 29 0 21).toNat v2) 29 0 21).toNat v3) 29 0 21).toNat v4) 29 0 21).toNat v5)))) 29 0 21).toNat 0) 29 0 21) + 1)) (nmI_w _) rfl rfl rfl dX12_keep_322 (fun H locs hH hS => ?_)
      have hq := Option.some.inj hf; subst hq
      exact gRetV X hH hS dX12_keep_325
    clear ek235
    refine g_icmp_ne X nd87 (nmI_l (by decide)) (tgt := 235) dX12_keep_92 (by decide) (fun hc92 => ?_) (fun hc92 => ?_)
    · replace hf := it_f hf hc92
      exact hk235 M hf _ _ _ hH hS (gLv_sub hl [0, 1, 2, 3, 4, 5] rfl)
    · replace hf := it_t hf hc92
      refine lv_aload_n X.1 X.2.1 dX12_keep_95 rfl (lv_at hl.1 0 rfl) ?_
      refine lv_dup X.1 X.2.1 dX12_keep_96 rfl ?_
      have nd97 : nmI (M 29 0 21) := hH.1.1 _ _ _
      refine g_get X cX12 hH (r := 29) (i := 0) (by decide) rfl 21 (by decide) k_422 rfl (v := .int (iI (M 29 0 21))) rfl dX12_keep_97 ?_
      refine lv_iconst X.1 X.2.1 dX12_keep_100 (v := iI 1) rfl ?_
      refine g_isub X dX12_keep_101 ?_
      refine g_putI X cX12 hH hS (r := 29) (i := 0) (by decide) rfl 21 (by decide) k_422 rfl rfl rfl (Nat.le_of_ble_eq_true rfl) (x := wI ((M 29 0 21) - 1)) (nmI_w _) rfl rfl rfl dX12_keep_102 (fun H locs hH hS => ?_)
      refine lv_iconst X.1 X.2.1 dX12_keep_105 (v := iI 0) rfl ?_
      refine g_istore X (lv' := [(6, .int (iI 0)), (0, .ref (gAd G 29 0)), (1, .int (iI v1)), (2, .int (iI v2)), (3, .int (iI v3)), (4, .int (iI v4)), (5, .int (iI v5))]) dX12_keep_106 hl (by decide) rfl (fun ls hl => ?_)
      refine w_X12_keep_L108 X _ v1 nv1 v2 nv2 v3 nv3 v4 nv4 v5 nv5 q ?_ 64 0 (nmI_l (by decide)) (gU M 29 0 21 (wI ((M 29 0 21) - 1))) hf _ _ _ hH hS (gLv_sub hl [1, 2, 3, 4, 5, 6, 0] rfl)
      · intro  M_108_235 hf H locs ls hH hS hl
        exact hk235 M_108_235 hf _ _ _ hH hS (gLv_sub hl [0, 1, 2, 3, 4, 5] rfl)
theorem m_X12_ends (l : Launch) (G : gG) (v1 : Int) (nv1 : nmI v1) (M : gM) (q : gM) (hf : f_X12_ends v1 M = some q) : gMet l yX12_ends cX12_ends 8 none 3 70 G M [.ref (gAd G 29 0), .int (iI v1)] (gQv G q) := by
  refine gOfW (by decide) (by show _ ≤ 8; exact Nat.le_of_ble_eq_true rfl) rfl ?_
  intro p e s m below meth c X hH ls hl
  replace hl : gLv ls 8 [(0, .ref (gAd G 29 0)), (1, .int (iI v1))] := hl
  have hS : va_S (gA G) s.heap s.heap [] := va_S.rf
  generalize hargs : ([.ref (gAd G 29 0), .int (iI v1)] : List Value).toArray = args at X ⊢
  clear hargs
  unfold f_X12_ends at hf
  refine lv_aload_n X.1 X.2.1 dX12_ends_0 rfl (lv_at hl.1 0 rfl) ?_
  refine g_get X cX12 hH (r := 29) (i := 0) (by decide) rfl 30 (by decide) k_431 rfl (v := .ref (gAd G 54 0)) rfl dX12_ends_1 ?_
  refine lv_iload_n X.1 X.2.1 dX12_ends_4 rfl (lv_at hl.1 1 rfl) ?_
  obtain ⟨hg, hf_⟩ := og_e hf; clear hf; have hf := hf_; clear hf_
  have nd5 : nmI (M 54 0 v1.toNat) := hH.1.1 _ _ _
  refine g_iald X hH (r := 54) (i := 0) (by decide) rfl nv1 hg (v := M 54 0 v1.toNat) rfl dX12_ends_5 ?_
  refine g_istore_n X (lv' := [(2, .int (iI (M 54 0 v1.toNat))), (0, .ref (gAd G 29 0)), (1, .int (iI v1))]) dX12_ends_6 rfl hl (by decide) rfl (fun ls hl => ?_)
  refine lv_iload_n X.1 X.2.1 dX12_ends_7 rfl (lv_at hl.1 0 rfl) ?_
  refine lv_iconst X.1 X.2.1 dX12_ends_8 (v := iI 4) rfl ?_
  refine g_idiv X nd5 (nmI_l (by decide)) (by decide) dX12_ends_9 ?_
  refine g_istore_n X (lv' := [(3, .int (iI (wI ((M 54 0 v1.toNat).tdiv 4)))), (2, .int (iI (M 54 0 v1.toNat))), (0, .ref (gAd G 29 0)), (1, .int (iI v1))]) dX12_ends_10 rfl hl (by decide) rfl (fun ls hl => ?_)
  refine lv_aload_n X.1 X.2.1 dX12_ends_11 rfl (lv_at hl.1 2 rfl) ?_
  refine g_get X cX12 hH (r := 29) (i := 0) (by decide) rfl 30 (by decide) k_431 rfl (v := .ref (gAd G 54 0)) rfl dX12_ends_12 ?_
  refine lv_iload_n X.1 X.2.1 dX12_ends_15 rfl (lv_at hl.1 3 rfl) ?_
  refine lv_iconst X.1 X.2.1 dX12_ends_16 (v := iI (-1)) rfl ?_
  obtain ⟨hg, hf_⟩ := og_e hf; clear hf; have hf := hf_; clear hf_
  refine g_iast X hH hS (r := 54) (i := 0) (by decide) (fun _ => rfl) nv1 hg (nmI_l (by decide)) rfl (by decide) dX12_ends_17 (fun H locs hH hS => ?_)
  refine lv_aload_n X.1 X.2.1 dX12_ends_18 rfl (lv_at hl.1 2 rfl) ?_
  refine g_get X cX12 hH (r := 29) (i := 0) (by decide) rfl 35 (by decide) k_436 rfl (v := .ref (gAd G 59 0)) rfl dX12_ends_19 ?_
  refine lv_iload_n X.1 X.2.1 dX12_ends_22 rfl (lv_at hl.1 3 rfl) ?_
  refine lv_aload_n X.1 X.2.1 dX12_ends_23 rfl (lv_at hl.1 2 rfl) ?_
  refine g_get X cX12 hH (r := 29) (i := 0) (by decide) rfl 9 (by decide) k_410 rfl (v := .ref (gAd G 36 0)) rfl dX12_ends_24 ?_
  refine lv_iload_n X.1 X.2.1 dX12_ends_27 rfl (lv_at hl.1 0 rfl) ?_
  obtain ⟨hg, hf_⟩ := og_e hf; clear hf; have hf := hf_; clear hf_
  have nd28 : nmI ((gU M 54 0 v1.toNat ((-1))) 36 0 (wI ((M 54 0 v1.toNat).tdiv 4)).toNat) := hH.1.1 _ _ _
  refine g_iald X hH (r := 36) (i := 0) (by decide) rfl (nmI_w _) hg (v := (gU M 54 0 v1.toNat ((-1))) 36 0 (wI ((M 54 0 v1.toNat).tdiv 4)).toNat) rfl dX12_ends_28 ?_
  obtain ⟨hg, hf_⟩ := og_e hf; clear hf; have hf := hf_; clear hf_
  refine g_iast X hH hS (r := 59) (i := 0) (by decide) (fun _ => rfl) nv1 hg nd28 rfl (by decide) dX12_ends_29 (fun H locs hH hS => ?_)
  refine lv_aload_n X.1 X.2.1 dX12_ends_30 rfl (lv_at hl.1 2 rfl) ?_
  refine lv_iload_n X.1 X.2.1 dX12_ends_31 rfl (lv_at hl.1 1 rfl) ?_
  obtain ⟨r32, hq32, hf_⟩ := ob_e hf; clear hf; have hf := hf_; clear hf_
  refine gGoI (gRunV X hH (As := [.int (iI (M 54 0 v1.toNat))]) (m_X12_workerAt l G (M 54 0 v1.toNat) nd5 (gU (gU M 54 0 v1.toNat ((-1))) 59 0 v1.toNat ((gU M 54 0 v1.toNat ((-1))) 36 0 (wI ((M 54 0 v1.toNat).tdiv 4)).toNat)) _ hq32) calX12_workerAt k_973 k_1109 k_481 (by decide) cX12 rfl ⟨by decide, by decide⟩ rfl hl rfl (Nat.le_of_ble_eq_true rfl) ⟨Nat.le_refl 0, Nat.le_refl 0⟩ dX12_ends_32) hS (fun H locs nr32 hH hS => ?_)
  refine g_istore X (lv' := [(4, .int (iI r32)), (3, .int (iI (wI ((M 54 0 v1.toNat).tdiv 4)))), (2, .int (iI (M 54 0 v1.toNat))), (0, .ref (gAd G 29 0)), (1, .int (iI v1))]) dX12_ends_35 hl (by decide) rfl (fun ls hl => ?_)
  refine lv_iload X.1 X.2.1 dX12_ends_37 (lv_at hl.1 0 rfl) ?_
  refine lv_iconst X.1 X.2.1 dX12_ends_39 (v := iI (-1)) rfl ?_
  obtain ⟨k59, ek59, hf_⟩ := oj_e hf; clear hf; have hf := hf_; clear hf_
  have hk59 : ∀  (M_59 : gM), k59 M_59 = some q → ∀ (H : Heap) (locs : List Loc) (ls : Array Slot), gH G M_59 H → va_S (gA G) s.heap H locs → gLv ls 8 [(0, .ref (gAd G 29 0)), (1, .int (iI v1)), (2, .int (iI (M 54 0 v1.toNat))), (3, .int (iI (wI ((M 54 0 v1.toNat).tdiv 4))))] → W p l e { frames := 3, cells := 0, slots := 0, locals := 70 } s m args below meth c H locs 0 0 (MQ below (gQv G q) args s 0 0 (gA G)) (F0 m 59 ls []) := by
    intro  M_59 hf H locs ls hH hS hl
    subst ek59
    refine lv_aload_n X.1 X.2.1 dX12_ends_59 rfl (lv_at hl.1 0 rfl) ?_
    refine lv_iload_n X.1 X.2.1 dX12_ends_60 rfl (lv_at hl.1 3 rfl) ?_
    refine lv_aload_n X.1 X.2.1 dX12_ends_61 rfl (lv_at hl.1 0 rfl) ?_
    refine g_get X cX12 hH (r := 29) (i := 0) (by decide) rfl 33 (by decide) k_434 rfl (v := .ref (gAd G 57 0)) rfl dX12_ends_62 ?_
    refine lv_iload_n X.1 X.2.1 dX12_ends_65 rfl (lv_at hl.1 1 rfl) ?_
    obtain ⟨hg, hf_⟩ := og_e hf; clear hf; have hf := hf_; clear hf_
    have nd66 : nmI (M_59 57 0 v1.toNat) := hH.1.1 _ _ _
    refine g_iald X hH (r := 57) (i := 0) (by decide) rfl nv1 hg (v := M_59 57 0 v1.toNat) rfl dX12_ends_66 ?_
    obtain ⟨r67, hq67, hf_⟩ := ob_e hf; clear hf; have hf := hf_; clear hf_
    refine gGoI (gRunV X hH (As := [.int (iI (wI ((M 54 0 v1.toNat).tdiv 4))), .int (iI (M_59 57 0 v1.toNat))]) (m_X12_foundBy l G (wI ((M 54 0 v1.toNat).tdiv 4)) (nmI_w _) (M_59 57 0 v1.toNat) nd66 M_59 _ hq67) calX12_foundBy k_999 k_1119 k_493 (by decide) cX12 rfl ⟨by decide, by decide⟩ rfl hl rfl (Nat.le_of_ble_eq_true rfl) ⟨Nat.le_refl 0, Nat.le_refl 0⟩ dX12_ends_67) hS (fun H locs nr67 hH hS => ?_)
    refine g_istore X (lv' := [(5, .int (iI r67)), (0, .ref (gAd G 29 0)), (1, .int (iI v1)), (2, .int (iI (M 54 0 v1.toNat))), (3, .int (iI (wI ((M 54 0 v1.toNat).tdiv 4))))]) dX12_ends_70 hl (by decide) rfl (fun ls hl => ?_)
    refine lv_aload_n X.1 X.2.1 dX12_ends_72 rfl (lv_at hl.1 1 rfl) ?_
    refine lv_iload_n X.1 X.2.1 dX12_ends_73 rfl (lv_at hl.1 3 rfl) ?_
    obtain ⟨r74, hq74, hf_⟩ := ob_e hf; clear hf; have hf := hf_; clear hf_
    refine gGoI (gRunV X hH (As := [.int (iI (M 54 0 v1.toNat))]) (m_X12_keyOf l G (M 54 0 v1.toNat) nd5 M_59 _ hq74) calX12_keyOf k_993 k_1116 k_490 (by decide) cX12 rfl ⟨by decide, by decide⟩ rfl hl rfl (Nat.le_of_ble_eq_true rfl) ⟨Nat.le_refl 0, Nat.le_refl 0⟩ dX12_ends_74) hS (fun H locs nr74 hH hS => ?_)
    refine lv_aload_n X.1 X.2.1 dX12_ends_77 rfl (lv_at hl.1 1 rfl) ?_
    refine g_get X cX12 hH (r := 29) (i := 0) (by decide) rfl 33 (by decide) k_434 rfl (v := .ref (gAd G 57 0)) rfl dX12_ends_78 ?_
    refine lv_iload_n X.1 X.2.1 dX12_ends_81 rfl (lv_at hl.1 2 rfl) ?_
    obtain ⟨hg, hf_⟩ := og_e hf; clear hf; have hf := hf_; clear hf_
    have nd82 : nmI (M_59 57 0 v1.toNat) := hH.1.1 _ _ _
    refine g_iald X hH (r := 57) (i := 0) (by decide) rfl nv1 hg (v := M_59 57 0 v1.toNat) rfl dX12_ends_82 ?_
    obtain ⟨k108, ek108, hf_⟩ := oj_e hf; clear hf; have hf := hf_; clear hf_
    have hk108 : k108 = some q → ∀ (H : Heap) (locs : List Loc) (ls : Array Slot), gH G M_59 H → va_S (gA G) s.heap H locs → gLv ls 8 [(0, .ref (gAd G 29 0)), (2, .int (iI (M 54 0 v1.toNat)))] → W p l e { frames := 3, cells := 0, slots := 0, locals := 70 } s m args below meth c H locs 0 0 (MQ below (gQv G q) args s 0 0 (gA G)) (F0 m 108 ls []) := by
      intro  hf H locs ls hH hS hl
      subst ek108
      refine lv_aload_n X.1 X.2.1 dX12_ends_108 rfl (lv_at hl.1 0 rfl) ?_
      refine g_get X cX12 hH (r := 29) (i := 0) (by decide) rfl 47 (by decide) k_448 rfl (v := .ref (gAd G 68 0)) rfl dX12_ends_109 ?_
      refine lv_iconst X.1 X.2.1 dX12_ends_112 (v := iI 2) rfl ?_
      refine lv_dup2_11 X.1 X.2.1 dX12_ends_113 rfl rfl ?_
      obtain ⟨hg, hf_⟩ := og_e hf; clear hf; have hf := hf_; clear hf_
      have nd114 : nmI (M_59 68 0 2) := hH.1.1 _ _ _
      refine g_iald X hH (r := 68) (i := 0) (by decide) rfl (nmI_l (by decide)) hg (v := M_59 68 0 2) rfl dX12_ends_114 ?_
      refine lv_iconst X.1 X.2.1 dX12_ends_115 (v := iI 1) rfl ?_
      refine g_iadd X dX12_ends_116 ?_
      obtain ⟨hg, hf_⟩ := og_e hf; clear hf; have hf := hf_; clear hf_
      refine g_iast X hH hS (r := 68) (i := 0) (by decide) (fun _ => rfl) (nmI_l (by decide)) hg (nmI_w _) rfl (by decide) dX12_ends_117 (fun H locs hH hS => ?_)
      refine lv_aload_n X.1 X.2.1 dX12_ends_118 rfl (lv_at hl.1 0 rfl) ?_
      refine g_get X cX12 hH (r := 29) (i := 0) (by decide) rfl 38 (by decide) k_439 rfl (v := .ref (gAd G 60 0)) rfl dX12_ends_119 ?_
      refine lv_iload_n X.1 X.2.1 dX12_ends_122 rfl (lv_at hl.1 1 rfl) ?_
      refine lv_iconst X.1 X.2.1 dX12_ends_123 (v := iI 0) rfl ?_
      obtain ⟨hg, hf_⟩ := og_e hf; clear hf; have hf := hf_; clear hf_
      refine g_iast X hH hS (r := 60) (i := 0) (by decide) (fun _ => rfl) nd5 hg (nmI_l (by decide)) rfl (by decide) dX12_ends_124 (fun H locs hH hS => ?_)
      refine lv_aload_n X.1 X.2.1 dX12_ends_125 rfl (lv_at hl.1 0 rfl) ?_
      refine g_get X cX12 hH (r := 29) (i := 0) (by decide) rfl 41 (by decide) k_442 rfl (v := .ref (gAd G 63 0)) rfl dX12_ends_126 ?_
      refine lv_iload_n X.1 X.2.1 dX12_ends_129 rfl (lv_at hl.1 1 rfl) ?_
      refine lv_iconst X.1 X.2.1 dX12_ends_130 (v := iI 0) rfl ?_
      obtain ⟨hg, hf_⟩ := og_e hf; clear hf; have hf := hf_; clear hf_
      refine g_iast X hH hS (r := 63) (i := 0) (by decide) (fun _ => rfl) nd5 hg (nmI_l (by decide)) rfl (by decide) dX12_ends_131 (fun H locs hH hS => ?_)
      have hq := Option.some.inj hf; subst hq
      exact gRetV X hH hS dX12_ends_132
    clear ek108
    refine g_icmp_ne X nr74 nd82 (tgt := 108) dX12_ends_83 (by decide) (fun hc83 => ?_) (fun hc83 => ?_)
    · replace hf := it_f hf hc83
      exact hk108  hf _ _ _ hH hS (gLv_sub hl [1, 3] rfl)
    · replace hf := it_t hf hc83
      refine lv_iload X.1 X.2.1 dX12_ends_86 (lv_at hl.1 0 rfl) ?_
      refine lv_iconst X.1 X.2.1 dX12_ends_88 (v := iI (-1)) rfl ?_
      obtain ⟨k133, ek133, hf_⟩ := oj_e hf; clear hf; have hf := hf_; clear hf_
      have hk133 : k133 = some q → ∀ (H : Heap) (locs : List Loc) (ls : Array Slot), gH G M_59 H → va_S (gA G) s.heap H locs → gLv ls 8 [(0, .ref (gAd G 29 0)), (1, .int (iI v1)), (2, .int (iI (M 54 0 v1.toNat))), (3, .int (iI (wI ((M 54 0 v1.toNat).tdiv 4)))), (5, .int (iI r67))] → W p l e { frames := 3, cells := 0, slots := 0, locals := 70 } s m args below meth c H locs 0 0 (MQ below (gQv G q) args s 0 0 (gA G)) (F0 m 133 ls []) := by
        intro  hf H locs ls hH hS hl
        subst ek133
        refine lv_aload_n X.1 X.2.1 dX12_ends_133 rfl (lv_at hl.1 0 rfl) ?_
        refine lv_iload_n X.1 X.2.1 dX12_ends_134 rfl (lv_at hl.1 3 rfl) ?_
        refine lv_aload_n X.1 X.2.1 dX12_ends_135 rfl (lv_at hl.1 0 rfl) ?_
        refine g_get X cX12 hH (r := 29) (i := 0) (by decide) rfl 33 (by decide) k_434 rfl (v := .ref (gAd G 57 0)) rfl dX12_ends_136 ?_
        refine lv_iload_n X.1 X.2.1 dX12_ends_139 rfl (lv_at hl.1 1 rfl) ?_
        obtain ⟨hg, hf_⟩ := og_e hf; clear hf; have hf := hf_; clear hf_
        have nd140 : nmI (M_59 57 0 v1.toNat) := hH.1.1 _ _ _
        refine g_iald X hH (r := 57) (i := 0) (by decide) rfl nv1 hg (v := M_59 57 0 v1.toNat) rfl dX12_ends_140 ?_
        obtain ⟨r141, hq141, hf_⟩ := ob_e hf; clear hf; have hf := hf_; clear hf_
        refine gGoZ (gRunV X hH (As := [.int (iI (wI ((M 54 0 v1.toNat).tdiv 4))), .int (iI (M_59 57 0 v1.toNat))]) (m_X12_breaks l G (wI ((M 54 0 v1.toNat).tdiv 4)) (nmI_w _) (M_59 57 0 v1.toNat) nd140 M_59 _ hq141) calX12_breaks k_1001 k_1120 k_494 (by decide) cX12 rfl ⟨by decide, by decide⟩ rfl hl rfl (Nat.le_of_ble_eq_true rfl) ⟨Nat.le_refl 0, Nat.le_refl 0⟩ dX12_ends_141) hS (fun H locs br141 hH hS => ?_)
        refine g_if_eq X (nmI_b br141) (tgt := 155) dX12_ends_144 (by decide) (fun hc144 => ?_) (fun hc144 => ?_)
        · replace hf := it_t hf hc144
          refine lv_iload X.1 X.2.1 dX12_ends_155 (lv_at hl.1 4 rfl) ?_
          refine lv_iconst X.1 X.2.1 dX12_ends_157 (v := iI (-1)) rfl ?_
          obtain ⟨k185, ek185, hf_⟩ := oj_e hf; clear hf; have hf := hf_; clear hf_
          have hk185 : ∀ (xs0_185 : Int) (nxs0_185 : nmI xs0_185), k185 xs0_185 = some q → ∀ (H : Heap) (locs : List Loc) (ls : Array Slot), gH G M_59 H → va_S (gA G) s.heap H locs → gLv ls 8 [(0, .ref (gAd G 29 0)), (1, .int (iI v1)), (2, .int (iI (M 54 0 v1.toNat))), (3, .int (iI (wI ((M 54 0 v1.toNat).tdiv 4)))), (5, .int (iI r67))] → W p l e { frames := 3, cells := 0, slots := 0, locals := 70 } s m args below meth c H locs 0 0 (MQ below (gQv G q) args s 0 0 (gA G)) (F0 m 185 ls [.int (iI xs0_185)]) := by
            intro xs0_185 nxs0_185 hf H locs ls hH hS hl
            subst ek185
            refine g_istore X (lv' := [(6, .int (iI xs0_185)), (0, .ref (gAd G 29 0)), (1, .int (iI v1)), (2, .int (iI (M 54 0 v1.toNat))), (3, .int (iI (wI ((M 54 0 v1.toNat).tdiv 4)))), (5, .int (iI r67))]) dX12_ends_185 hl (by decide) rfl (fun ls hl => ?_)
            refine lv_aload_n X.1 X.2.1 dX12_ends_187 rfl (lv_at hl.1 1 rfl) ?_
            refine g_get X cX12 hH (r := 29) (i := 0) (by decide) rfl 8 (by decide) k_409 rfl (v := .ref (gAd G 35 0)) rfl dX12_ends_188 ?_
            refine lv_iload_n X.1 X.2.1 dX12_ends_191 rfl (lv_at hl.1 4 rfl) ?_
            obtain ⟨hg, hf_⟩ := og_e hf; clear hf; have hf := hf_; clear hf_
            have nd192 : nmI (M_59 35 0 (wI ((M 54 0 v1.toNat).tdiv 4)).toNat) := hH.1.1 _ _ _
            refine g_iald X hH (r := 35) (i := 0) (by decide) rfl (nmI_w _) hg (v := M_59 35 0 (wI ((M 54 0 v1.toNat).tdiv 4)).toNat) rfl dX12_ends_192 ?_
            refine lv_iconst X.1 X.2.1 dX12_ends_193 (v := iI 2) rfl ?_
            obtain ⟨k231, ek231, hf_⟩ := oj_e hf; clear hf; have hf := hf_; clear hf_
            have hk231 : ∀ (xs0_231 : Int) (bxs0_231 : xs0_231 = 0 ∨ xs0_231 = 1), k231 xs0_231 = some q → ∀ (H : Heap) (locs : List Loc) (ls : Array Slot), gH G M_59 H → va_S (gA G) s.heap H locs → gLv ls 8 [(0, .ref (gAd G 29 0)), (1, .int (iI v1)), (2, .int (iI (M 54 0 v1.toNat))), (3, .int (iI (wI ((M 54 0 v1.toNat).tdiv 4)))), (5, .int (iI r67)), (6, .int (iI xs0_185))] → W p l e { frames := 3, cells := 0, slots := 0, locals := 70 } s m args below meth c H locs 0 0 (MQ below (gQv G q) args s 0 0 (gA G)) (F0 m 231 ls [.int (iI xs0_231)]) := by
              intro xs0_231 bxs0_231 hf H locs ls hH hS hl
              subst ek231
              refine g_istore X (lv' := [(7, .int (iI xs0_231)), (0, .ref (gAd G 29 0)), (1, .int (iI v1)), (2, .int (iI (M 54 0 v1.toNat))), (3, .int (iI (wI ((M 54 0 v1.toNat).tdiv 4)))), (5, .int (iI r67)), (6, .int (iI xs0_185))]) dX12_ends_231 hl (by decide) rfl (fun ls hl => ?_)
              refine lv_iload X.1 X.2.1 dX12_ends_233 (lv_at hl.1 0 rfl) ?_
              obtain ⟨k294, ek294, hf_⟩ := oj_e hf; clear hf; have hf := hf_; clear hf_
              have hk294 : ∀  (M_294 : gM), k294 M_294 = some q → ∀ (H : Heap) (locs : List Loc) (ls : Array Slot), gH G M_294 H → va_S (gA G) s.heap H locs → gLv ls 8 [(0, .ref (gAd G 29 0)), (1, .int (iI v1)), (2, .int (iI (M 54 0 v1.toNat))), (3, .int (iI (wI ((M 54 0 v1.toNat).tdiv 4)))), (5, .int (iI r67)), (6, .int (iI xs0_185))] → W p l e { frames := 3, cells := 0, slots := 0, locals := 70 } s m args below meth c H locs 0 0 (MQ below (gQv G q) args s 0 0 (gA G)) (F0 m 294 ls []) := by
                intro  M_294 hf H locs ls hH hS hl
                subst ek294
                refine lv_aload_n X.1 X.2.1 dX12_ends_294 rfl (lv_at hl.1 0 rfl) ?_
                refine g_get X cX12 hH (r := 29) (i := 0) (by decide) rfl 38 (by decide) k_439 rfl (v := .ref (gAd G 60 0)) rfl dX12_ends_295 ?_
                refine lv_iload_n X.1 X.2.1 dX12_ends_298 rfl (lv_at hl.1 2 rfl) ?_
                refine lv_iconst X.1 X.2.1 dX12_ends_299 (v := iI 3) rfl ?_
                obtain ⟨hg, hf_⟩ := og_e hf; clear hf; have hf := hf_; clear hf_
                refine g_iast X hH hS (r := 60) (i := 0) (by decide) (fun _ => rfl) nd5 hg (nmI_l (by decide)) rfl (by decide) dX12_ends_300 (fun H locs hH hS => ?_)
                refine lv_aload_n X.1 X.2.1 dX12_ends_301 rfl (lv_at hl.1 0 rfl) ?_
                refine g_get X cX12 hH (r := 29) (i := 0) (by decide) rfl 39 (by decide) k_440 rfl (v := .ref (gAd G 61 0)) rfl dX12_ends_302 ?_
                refine lv_iload_n X.1 X.2.1 dX12_ends_305 rfl (lv_at hl.1 2 rfl) ?_
                refine lv_iload X.1 X.2.1 dX12_ends_306 (lv_at hl.1 5 rfl) ?_
                obtain ⟨hg, hf_⟩ := og_e hf; clear hf; have hf := hf_; clear hf_
                refine g_iast X hH hS (r := 61) (i := 0) (by decide) (fun _ => rfl) nd5 hg nxs0_185 rfl (by decide) dX12_ends_308 (fun H locs hH hS => ?_)
                refine lv_aload_n X.1 X.2.1 dX12_ends_309 rfl (lv_at hl.1 0 rfl) ?_
                refine g_get X cX12 hH (r := 29) (i := 0) (by decide) rfl 40 (by decide) k_441 rfl (v := .ref (gAd G 62 0)) rfl dX12_ends_310 ?_
                refine lv_iload_n X.1 X.2.1 dX12_ends_313 rfl (lv_at hl.1 2 rfl) ?_
                refine lv_iload_n X.1 X.2.1 dX12_ends_314 rfl (lv_at hl.1 1 rfl) ?_
                obtain ⟨hg, hf_⟩ := og_e hf; clear hf; have hf := hf_; clear hf_
                refine g_iast X hH hS (r := 62) (i := 0) (by decide) (fun _ => rfl) nd5 hg nv1 rfl (by decide) dX12_ends_315 (fun H locs hH hS => ?_)
                refine lv_aload_n X.1 X.2.1 dX12_ends_316 rfl (lv_at hl.1 0 rfl) ?_
                refine g_get X cX12 hH (r := 29) (i := 0) (by decide) rfl 46 (by decide) k_447 rfl (v := .ref (gAd G 67 0)) rfl dX12_ends_317 ?_
                refine lv_iload_n X.1 X.2.1 dX12_ends_320 rfl (lv_at hl.1 3 rfl) ?_
                refine lv_aload_n X.1 X.2.1 dX12_ends_321 rfl (lv_at hl.1 0 rfl) ?_
                refine g_get X cX12 hH (r := 29) (i := 0) (by decide) rfl 32 (by decide) k_433 rfl (v := .ref (gAd G 56 0)) rfl dX12_ends_322 ?_
                refine lv_iload_n X.1 X.2.1 dX12_ends_325 rfl (lv_at hl.1 1 rfl) ?_
                obtain ⟨hg, hf_⟩ := og_e hf; clear hf; have hf := hf_; clear hf_
                have nd326 : nmI ((gU (gU (gU M_294 60 0 (M 54 0 v1.toNat).toNat 3) 61 0 (M 54 0 v1.toNat).toNat xs0_185) 62 0 (M 54 0 v1.toNat).toNat v1) 56 0 v1.toNat) := hH.1.1 _ _ _
                refine g_iald X hH (r := 56) (i := 0) (by decide) rfl nv1 hg (v := (gU (gU (gU M_294 60 0 (M 54 0 v1.toNat).toNat 3) 61 0 (M 54 0 v1.toNat).toNat xs0_185) 62 0 (M 54 0 v1.toNat).toNat v1) 56 0 v1.toNat) rfl dX12_ends_326 ?_
                obtain ⟨hg, hf_⟩ := og_e hf; clear hf; have hf := hf_; clear hf_
                refine g_iast X hH hS (r := 67) (i := 0) (by decide) (fun _ => rfl) (nmI_w _) hg nd326 rfl (by decide) dX12_ends_327 (fun H locs hH hS => ?_)
                refine lv_aload_n X.1 X.2.1 dX12_ends_328 rfl (lv_at hl.1 0 rfl) ?_
                refine g_get X cX12 hH (r := 29) (i := 0) (by decide) rfl 42 (by decide) k_443 rfl (v := .ref (gAd G 64 0)) rfl dX12_ends_329 ?_
                refine lv_iload_n X.1 X.2.1 dX12_ends_332 rfl (lv_at hl.1 2 rfl) ?_
                refine lv_aload_n X.1 X.2.1 dX12_ends_333 rfl (lv_at hl.1 0 rfl) ?_
                refine g_get X cX12 hH (r := 29) (i := 0) (by decide) rfl 41 (by decide) k_442 rfl (v := .ref (gAd G 63 0)) rfl dX12_ends_334 ?_
                refine lv_iload_n X.1 X.2.1 dX12_ends_337 rfl (lv_at hl.1 2 rfl) ?_
                obtain ⟨hg, hf_⟩ := og_e hf; clear hf; have hf := hf_; clear hf_
                have nd338 : nmI ((gU (gU (gU (gU M_294 60 0 (M 54 0 v1.toNat).toNat 3) 61 0 (M 54 0 v1.toNat).toNat xs0_185) 62 0 (M 54 0 v1.toNat).toNat v1) 67 0 (wI ((M 54 0 v1.toNat).tdiv 4)).toNat ((gU (gU (gU M_294 60 0 (M 54 0 v1.toNat).toNat 3) 61 0 (M 54 0 v1.toNat).toNat xs0_185) 62 0 (M 54 0 v1.toNat).toNat v1) 56 0 v1.toNat)) 63 0 (M 54 0 v1.toNat).toNat) := hH.1.1 _ _ _
                refine g_iald X hH (r := 63) (i := 0) (by decide) rfl nd5 hg (v := (gU (gU (gU (gU M_294 60 0 (M 54 0 v1.toNat).toNat 3) 61 0 (M 54 0 v1.toNat).toNat xs0_185) 62 0 (M 54 0 v1.toNat).toNat v1) 67 0 (wI ((M 54 0 v1.toNat).tdiv 4)).toNat ((gU (gU (gU M_294 60 0 (M 54 0 v1.toNat).toNat 3) 61 0 (M 54 0 v1.toNat).toNat xs0_185) 62 0 (M 54 0 v1.toNat).toNat v1) 56 0 v1.toNat)) 63 0 (M 54 0 v1.toNat).toNat) rfl dX12_ends_338 ?_
                obtain ⟨k347, ek347, hf_⟩ := oj_e hf; clear hf; have hf := hf_; clear hf_
                have hk347 : ∀ (xs2_347 : Int) (bxs2_347 : xs2_347 = 0 ∨ xs2_347 = 1), k347 xs2_347 = some q → ∀ (H : Heap) (locs : List Loc) (ls : Array Slot), gH G (gU (gU (gU (gU M_294 60 0 (M 54 0 v1.toNat).toNat 3) 61 0 (M 54 0 v1.toNat).toNat xs0_185) 62 0 (M 54 0 v1.toNat).toNat v1) 67 0 (wI ((M 54 0 v1.toNat).tdiv 4)).toNat ((gU (gU (gU M_294 60 0 (M 54 0 v1.toNat).toNat 3) 61 0 (M 54 0 v1.toNat).toNat xs0_185) 62 0 (M 54 0 v1.toNat).toNat v1) 56 0 v1.toNat)) H → va_S (gA G) s.heap H locs → gLv ls 8 [(0, .ref (gAd G 29 0)), (1, .int (iI v1)), (2, .int (iI (M 54 0 v1.toNat))), (3, .int (iI (wI ((M 54 0 v1.toNat).tdiv 4)))), (5, .int (iI r67)), (6, .int (iI xs0_185))] → W p l e { frames := 3, cells := 0, slots := 0, locals := 70 } s m args below meth c H locs 0 0 (MQ below (gQv G q) args s 0 0 (gA G)) (F0 m 347 ls [.int (iI xs2_347), .int (iI (M 54 0 v1.toNat)), .ref (gAd G 64 0)]) := by
                  intro xs2_347 bxs2_347 hf H locs ls hH hS hl
                  subst ek347
                  obtain ⟨hg, hf_⟩ := og_e hf; clear hf; have hf := hf_; clear hf_
                  refine g_zast X hH hS (r := 64) (i := 0) (by decide) (fun _ => rfl) nd5 hg bxs2_347 dX12_ends_347 (fun H locs hH hS => ?_)
                  refine lv_aload_n X.1 X.2.1 dX12_ends_348 rfl (lv_at hl.1 0 rfl) ?_
                  refine g_get X cX12 hH (r := 29) (i := 0) (by decide) rfl 42 (by decide) k_443 rfl (v := .ref (gAd G 64 0)) rfl dX12_ends_349 ?_
                  refine lv_iload_n X.1 X.2.1 dX12_ends_352 rfl (lv_at hl.1 2 rfl) ?_
                  obtain ⟨hg, hf_⟩ := og_e hf; clear hf; have hf := hf_; clear hf_
                  have nd353 : nmI ((gU (gU (gU (gU (gU M_294 60 0 (M 54 0 v1.toNat).toNat 3) 61 0 (M 54 0 v1.toNat).toNat xs0_185) 62 0 (M 54 0 v1.toNat).toNat v1) 67 0 (wI ((M 54 0 v1.toNat).tdiv 4)).toNat ((gU (gU (gU M_294 60 0 (M 54 0 v1.toNat).toNat 3) 61 0 (M 54 0 v1.toNat).toNat xs0_185) 62 0 (M 54 0 v1.toNat).toNat v1) 56 0 v1.toNat)) 64 0 (M 54 0 v1.toNat).toNat xs2_347) 64 0 (M 54 0 v1.toNat).toNat) := hH.1.1 _ _ _
                  have bd353 := hH.1.2.1 64 0 ((M 54 0 v1.toNat).toNat) rfl
                  refine g_zald X hH (r := 64) (i := 0) (by decide) rfl nd5 hg (v := (gU (gU (gU (gU (gU M_294 60 0 (M 54 0 v1.toNat).toNat 3) 61 0 (M 54 0 v1.toNat).toNat xs0_185) 62 0 (M 54 0 v1.toNat).toNat v1) 67 0 (wI ((M 54 0 v1.toNat).tdiv 4)).toNat ((gU (gU (gU M_294 60 0 (M 54 0 v1.toNat).toNat 3) 61 0 (M 54 0 v1.toNat).toNat xs0_185) 62 0 (M 54 0 v1.toNat).toNat v1) 56 0 v1.toNat)) 64 0 (M 54 0 v1.toNat).toNat xs2_347) 64 0 (M 54 0 v1.toNat).toNat) rfl dX12_ends_353 ?_
                  refine g_if_eq X nd353 (tgt := 407) dX12_ends_354 (by decide) (fun hc354 => ?_) (fun hc354 => ?_)
                  · replace hf := it_t hf hc354
                    refine lv_aload_n X.1 X.2.1 dX12_ends_407 rfl (lv_at hl.1 0 rfl) ?_
                    refine lv_aload_n X.1 X.2.1 dX12_ends_408 rfl (lv_at hl.1 0 rfl) ?_
                    refine g_get X cX12 hH (r := 29) (i := 0) (by decide) rfl 33 (by decide) k_434 rfl (v := .ref (gAd G 57 0)) rfl dX12_ends_409 ?_
                    refine lv_iload_n X.1 X.2.1 dX12_ends_412 rfl (lv_at hl.1 1 rfl) ?_
                    obtain ⟨hg, hf_⟩ := og_e hf; clear hf; have hf := hf_; clear hf_
                    have nd413 : nmI ((gU (gU (gU (gU (gU M_294 60 0 (M 54 0 v1.toNat).toNat 3) 61 0 (M 54 0 v1.toNat).toNat xs0_185) 62 0 (M 54 0 v1.toNat).toNat v1) 67 0 (wI ((M 54 0 v1.toNat).tdiv 4)).toNat ((gU (gU (gU M_294 60 0 (M 54 0 v1.toNat).toNat 3) 61 0 (M 54 0 v1.toNat).toNat xs0_185) 62 0 (M 54 0 v1.toNat).toNat v1) 56 0 v1.toNat)) 64 0 (M 54 0 v1.toNat).toNat xs2_347) 57 0 v1.toNat) := hH.1.1 _ _ _
                    refine g_iald X hH (r := 57) (i := 0) (by decide) rfl nv1 hg (v := (gU (gU (gU (gU (gU M_294 60 0 (M 54 0 v1.toNat).toNat 3) 61 0 (M 54 0 v1.toNat).toNat xs0_185) 62 0 (M 54 0 v1.toNat).toNat v1) 67 0 (wI ((M 54 0 v1.toNat).tdiv 4)).toNat ((gU (gU (gU M_294 60 0 (M 54 0 v1.toNat).toNat 3) 61 0 (M 54 0 v1.toNat).toNat xs0_185) 62 0 (M 54 0 v1.toNat).toNat v1) 56 0 v1.toNat)) 64 0 (M 54 0 v1.toNat).toNat xs2_347) 57 0 v1.toNat) rfl dX12_ends_413 ?_
                    refine lv_iload X.1 X.2.1 dX12_ends_414 (lv_at hl.1 4 rfl) ?_
                    refine lv_aload_n X.1 X.2.1 dX12_ends_416 rfl (lv_at hl.1 0 rfl) ?_
                    refine g_get X cX12 hH (r := 29) (i := 0) (by decide) rfl 34 (by decide) k_435 rfl (v := .ref (gAd G 58 0)) rfl dX12_ends_417 ?_
                    refine lv_iload_n X.1 X.2.1 dX12_ends_420 rfl (lv_at hl.1 1 rfl) ?_
                    obtain ⟨hg, hf_⟩ := og_e hf; clear hf; have hf := hf_; clear hf_
                    have nd421 : nmI ((gU (gU (gU (gU (gU M_294 60 0 (M 54 0 v1.toNat).toNat 3) 61 0 (M 54 0 v1.toNat).toNat xs0_185) 62 0 (M 54 0 v1.toNat).toNat v1) 67 0 (wI ((M 54 0 v1.toNat).tdiv 4)).toNat ((gU (gU (gU M_294 60 0 (M 54 0 v1.toNat).toNat 3) 61 0 (M 54 0 v1.toNat).toNat xs0_185) 62 0 (M 54 0 v1.toNat).toNat v1) 56 0 v1.toNat)) 64 0 (M 54 0 v1.toNat).toNat xs2_347) 58 0 v1.toNat) := hH.1.1 _ _ _
                    refine g_iald X hH (r := 58) (i := 0) (by decide) rfl nv1 hg (v := (gU (gU (gU (gU (gU M_294 60 0 (M 54 0 v1.toNat).toNat 3) 61 0 (M 54 0 v1.toNat).toNat xs0_185) 62 0 (M 54 0 v1.toNat).toNat v1) 67 0 (wI ((M 54 0 v1.toNat).tdiv 4)).toNat ((gU (gU (gU M_294 60 0 (M 54 0 v1.toNat).toNat 3) 61 0 (M 54 0 v1.toNat).toNat xs0_185) 62 0 (M 54 0 v1.toNat).toNat v1) 56 0 v1.toNat)) 64 0 (M 54 0 v1.toNat).toNat xs2_347) 58 0 v1.toNat) rfl dX12_ends_421 ?_
                    refine lv_iload X.1 X.2.1 dX12_ends_422 (lv_at hl.1 5 rfl) ?_
                    refine lv_iload_n X.1 X.2.1 dX12_ends_424 rfl (lv_at hl.1 1 rfl) ?_
                    obtain ⟨r425, hq425, hf_⟩ := ob_e hf; clear hf; have hf := hf_; clear hf_
                    refine gGoV (gRunV X hH (As := [.int (iI ((gU (gU (gU (gU (gU M_294 60 0 (M 54 0 v1.toNat).toNat 3) 61 0 (M 54 0 v1.toNat).toNat xs0_185) 62 0 (M 54 0 v1.toNat).toNat v1) 67 0 (wI ((M 54 0 v1.toNat).tdiv 4)).toNat ((gU (gU (gU M_294 60 0 (M 54 0 v1.toNat).toNat 3) 61 0 (M 54 0 v1.toNat).toNat xs0_185) 62 0 (M 54 0 v1.toNat).toNat v1) 56 0 v1.toNat)) 64 0 (M 54 0 v1.toNat).toNat xs2_347) 57 0 v1.toNat)), .int (iI r67), .int (iI ((gU (gU (gU (gU (gU M_294 60 0 (M 54 0 v1.toNat).toNat 3) 61 0 (M 54 0 v1.toNat).toNat xs0_185) 62 0 (M 54 0 v1.toNat).toNat v1) 67 0 (wI ((M 54 0 v1.toNat).tdiv 4)).toNat ((gU (gU (gU M_294 60 0 (M 54 0 v1.toNat).toNat 3) 61 0 (M 54 0 v1.toNat).toNat xs0_185) 62 0 (M 54 0 v1.toNat).toNat v1) 56 0 v1.toNat)) 64 0 (M 54 0 v1.toNat).toNat xs2_347) 58 0 v1.toNat)), .int (iI xs0_185), .int (iI v1)]) (m_X12_keep l G ((gU (gU (gU (gU (gU M_294 60 0 (M 54 0 v1.toNat).toNat 3) 61 0 (M 54 0 v1.toNat).toNat xs0_185) 62 0 (M 54 0 v1.toNat).toNat v1) 67 0 (wI ((M 54 0 v1.toNat).tdiv 4)).toNat ((gU (gU (gU M_294 60 0 (M 54 0 v1.toNat).toNat 3) 61 0 (M 54 0 v1.toNat).toNat xs0_185) 62 0 (M 54 0 v1.toNat).toNat v1) 56 0 v1.toNat)) 64 0 (M 54 0 v1.toNat).toNat xs2_347) 57 0 v1.toNat) nd413 r67 nr67 ((gU (gU (gU (gU (gU M_294 60 0 (M 54 0 v1.toNat).toNat 3) 61 0 (M 54 0 v1.toNat).toNat xs0_185) 62 0 (M 54 0 v1.toNat).toNat v1) 67 0 (wI ((M 54 0 v1.toNat).tdiv 4)).toNat ((gU (gU (gU M_294 60 0 (M 54 0 v1.toNat).toNat 3) 61 0 (M 54 0 v1.toNat).toNat xs0_185) 62 0 (M 54 0 v1.toNat).toNat v1) 56 0 v1.toNat)) 64 0 (M 54 0 v1.toNat).toNat xs2_347) 58 0 v1.toNat) nd421 xs0_185 nxs0_185 v1 nv1 (gU (gU (gU (gU (gU M_294 60 0 (M 54 0 v1.toNat).toNat 3) 61 0 (M 54 0 v1.toNat).toNat xs0_185) 62 0 (M 54 0 v1.toNat).toNat v1) 67 0 (wI ((M 54 0 v1.toNat).tdiv 4)).toNat ((gU (gU (gU M_294 60 0 (M 54 0 v1.toNat).toNat 3) 61 0 (M 54 0 v1.toNat).toNat xs0_185) 62 0 (M 54 0 v1.toNat).toNat v1) 56 0 v1.toNat)) 64 0 (M 54 0 v1.toNat).toNat xs2_347) _ hq425) calX12_keep k_1022 k_1129 k_504 (by decide) cX12 rfl ⟨by decide, by decide⟩ rfl hl rfl (Nat.le_of_ble_eq_true rfl) ⟨Nat.le_refl 0, Nat.le_refl 0⟩ dX12_ends_425) hS (fun H locs hH hS => ?_)
                    have hq := Option.some.inj hf; subst hq
                    exact gRetV X hH hS dX12_ends_428
                  · replace hf := it_f hf hc354
                    refine lv_aload_n X.1 X.2.1 dX12_ends_357 rfl (lv_at hl.1 0 rfl) ?_
                    refine g_get X cX12 hH (r := 29) (i := 0) (by decide) rfl 47 (by decide) k_448 rfl (v := .ref (gAd G 68 0)) rfl dX12_ends_358 ?_
                    refine lv_iconst X.1 X.2.1 dX12_ends_361 (v := iI 4) rfl ?_
                    refine lv_dup2_11 X.1 X.2.1 dX12_ends_362 rfl rfl ?_
                    obtain ⟨hg, hf_⟩ := og_e hf; clear hf; have hf := hf_; clear hf_
                    have nd363 : nmI ((gU (gU (gU (gU (gU M_294 60 0 (M 54 0 v1.toNat).toNat 3) 61 0 (M 54 0 v1.toNat).toNat xs0_185) 62 0 (M 54 0 v1.toNat).toNat v1) 67 0 (wI ((M 54 0 v1.toNat).tdiv 4)).toNat ((gU (gU (gU M_294 60 0 (M 54 0 v1.toNat).toNat 3) 61 0 (M 54 0 v1.toNat).toNat xs0_185) 62 0 (M 54 0 v1.toNat).toNat v1) 56 0 v1.toNat)) 64 0 (M 54 0 v1.toNat).toNat xs2_347) 68 0 4) := hH.1.1 _ _ _
                    refine g_iald X hH (r := 68) (i := 0) (by decide) rfl (nmI_l (by decide)) hg (v := (gU (gU (gU (gU (gU M_294 60 0 (M 54 0 v1.toNat).toNat 3) 61 0 (M 54 0 v1.toNat).toNat xs0_185) 62 0 (M 54 0 v1.toNat).toNat v1) 67 0 (wI ((M 54 0 v1.toNat).tdiv 4)).toNat ((gU (gU (gU M_294 60 0 (M 54 0 v1.toNat).toNat 3) 61 0 (M 54 0 v1.toNat).toNat xs0_185) 62 0 (M 54 0 v1.toNat).toNat v1) 56 0 v1.toNat)) 64 0 (M 54 0 v1.toNat).toNat xs2_347) 68 0 4) rfl dX12_ends_363 ?_
                    refine lv_iconst X.1 X.2.1 dX12_ends_364 (v := iI 1) rfl ?_
                    refine g_iadd X dX12_ends_365 ?_
                    obtain ⟨hg, hf_⟩ := og_e hf; clear hf; have hf := hf_; clear hf_
                    refine g_iast X hH hS (r := 68) (i := 0) (by decide) (fun _ => rfl) (nmI_l (by decide)) hg (nmI_w _) rfl (by decide) dX12_ends_366 (fun H locs hH hS => ?_)
                    refine lv_aload_n X.1 X.2.1 dX12_ends_367 rfl (lv_at hl.1 0 rfl) ?_
                    refine g_get X cX12 hH (r := 29) (i := 0) (by decide) rfl 45 (by decide) k_446 rfl (v := .ref (gAd G 66 0)) rfl dX12_ends_368 ?_
                    refine lv_iload_n X.1 X.2.1 dX12_ends_371 rfl (lv_at hl.1 3 rfl) ?_
                    refine lv_dup2_11 X.1 X.2.1 dX12_ends_372 rfl rfl ?_
                    obtain ⟨hg, hf_⟩ := og_e hf; clear hf; have hf := hf_; clear hf_
                    have nd373 : nmI ((gU (gU (gU (gU (gU (gU M_294 60 0 (M 54 0 v1.toNat).toNat 3) 61 0 (M 54 0 v1.toNat).toNat xs0_185) 62 0 (M 54 0 v1.toNat).toNat v1) 67 0 (wI ((M 54 0 v1.toNat).tdiv 4)).toNat ((gU (gU (gU M_294 60 0 (M 54 0 v1.toNat).toNat 3) 61 0 (M 54 0 v1.toNat).toNat xs0_185) 62 0 (M 54 0 v1.toNat).toNat v1) 56 0 v1.toNat)) 64 0 (M 54 0 v1.toNat).toNat xs2_347) 68 0 4 (wI (((gU (gU (gU (gU (gU M_294 60 0 (M 54 0 v1.toNat).toNat 3) 61 0 (M 54 0 v1.toNat).toNat xs0_185) 62 0 (M 54 0 v1.toNat).toNat v1) 67 0 (wI ((M 54 0 v1.toNat).tdiv 4)).toNat ((gU (gU (gU M_294 60 0 (M 54 0 v1.toNat).toNat 3) 61 0 (M 54 0 v1.toNat).toNat xs0_185) 62 0 (M 54 0 v1.toNat).toNat v1) 56 0 v1.toNat)) 64 0 (M 54 0 v1.toNat).toNat xs2_347) 68 0 4) + 1))) 66 0 (wI ((M 54 0 v1.toNat).tdiv 4)).toNat) := hH.1.1 _ _ _
                    refine g_iald X hH (r := 66) (i := 0) (by decide) rfl (nmI_w _) hg (v := (gU (gU (gU (gU (gU (gU M_294 60 0 (M 54 0 v1.toNat).toNat 3) 61 0 (M 54 0 v1.toNat).toNat xs0_185) 62 0 (M 54 0 v1.toNat).toNat v1) 67 0 (wI ((M 54 0 v1.toNat).tdiv 4)).toNat ((gU (gU (gU M_294 60 0 (M 54 0 v1.toNat).toNat 3) 61 0 (M 54 0 v1.toNat).toNat xs0_185) 62 0 (M 54 0 v1.toNat).toNat v1) 56 0 v1.toNat)) 64 0 (M 54 0 v1.toNat).toNat xs2_347) 68 0 4 (wI (((gU (gU (gU (gU (gU M_294 60 0 (M 54 0 v1.toNat).toNat 3) 61 0 (M 54 0 v1.toNat).toNat xs0_185) 62 0 (M 54 0 v1.toNat).toNat v1) 67 0 (wI ((M 54 0 v1.toNat).tdiv 4)).toNat ((gU (gU (gU M_294 60 0 (M 54 0 v1.toNat).toNat 3) 61 0 (M 54 0 v1.toNat).toNat xs0_185) 62 0 (M 54 0 v1.toNat).toNat v1) 56 0 v1.toNat)) 64 0 (M 54 0 v1.toNat).toNat xs2_347) 68 0 4) + 1))) 66 0 (wI ((M 54 0 v1.toNat).tdiv 4)).toNat) rfl dX12_ends_373 ?_
                    refine lv_aload_n X.1 X.2.1 dX12_ends_374 rfl (lv_at hl.1 0 rfl) ?_
                    have nd375 : nmI ((gU (gU (gU (gU (gU (gU M_294 60 0 (M 54 0 v1.toNat).toNat 3) 61 0 (M 54 0 v1.toNat).toNat xs0_185) 62 0 (M 54 0 v1.toNat).toNat v1) 67 0 (wI ((M 54 0 v1.toNat).tdiv 4)).toNat ((gU (gU (gU M_294 60 0 (M 54 0 v1.toNat).toNat 3) 61 0 (M 54 0 v1.toNat).toNat xs0_185) 62 0 (M 54 0 v1.toNat).toNat v1) 56 0 v1.toNat)) 64 0 (M 54 0 v1.toNat).toNat xs2_347) 68 0 4 (wI (((gU (gU (gU (gU (gU M_294 60 0 (M 54 0 v1.toNat).toNat 3) 61 0 (M 54 0 v1.toNat).toNat xs0_185) 62 0 (M 54 0 v1.toNat).toNat v1) 67 0 (wI ((M 54 0 v1.toNat).tdiv 4)).toNat ((gU (gU (gU M_294 60 0 (M 54 0 v1.toNat).toNat 3) 61 0 (M 54 0 v1.toNat).toNat xs0_185) 62 0 (M 54 0 v1.toNat).toNat v1) 56 0 v1.toNat)) 64 0 (M 54 0 v1.toNat).toNat xs2_347) 68 0 4) + 1))) 29 0 43) := hH.1.1 _ _ _
                    refine g_get X cX12 hH (r := 29) (i := 0) (by decide) rfl 43 (by decide) k_444 rfl (v := .int (iI ((gU (gU (gU (gU (gU (gU M_294 60 0 (M 54 0 v1.toNat).toNat 3) 61 0 (M 54 0 v1.toNat).toNat xs0_185) 62 0 (M 54 0 v1.toNat).toNat v1) 67 0 (wI ((M 54 0 v1.toNat).tdiv 4)).toNat ((gU (gU (gU M_294 60 0 (M 54 0 v1.toNat).toNat 3) 61 0 (M 54 0 v1.toNat).toNat xs0_185) 62 0 (M 54 0 v1.toNat).toNat v1) 56 0 v1.toNat)) 64 0 (M 54 0 v1.toNat).toNat xs2_347) 68 0 4 (wI (((gU (gU (gU (gU (gU M_294 60 0 (M 54 0 v1.toNat).toNat 3) 61 0 (M 54 0 v1.toNat).toNat xs0_185) 62 0 (M 54 0 v1.toNat).toNat v1) 67 0 (wI ((M 54 0 v1.toNat).tdiv 4)).toNat ((gU (gU (gU M_294 60 0 (M 54 0 v1.toNat).toNat 3) 61 0 (M 54 0 v1.toNat).toNat xs0_185) 62 0 (M 54 0 v1.toNat).toNat v1) 56 0 v1.toNat)) 64 0 (M 54 0 v1.toNat).toNat xs2_347) 68 0 4) + 1))) 29 0 43))) rfl dX12_ends_375 ?_
                    refine lv_iload_n X.1 X.2.1 dX12_ends_378 rfl (lv_at hl.1 3 rfl) ?_
                    refine g_ishr X dX12_ends_379 ?_
                    refine lv_iconst X.1 X.2.1 dX12_ends_380 (v := iI 1) rfl ?_
                    refine g_iand X dX12_ends_381 ?_
                    obtain ⟨k390, ek390, hf_⟩ := oj_e hf; clear hf; have hf := hf_; clear hf_
                    have hk390 : ∀ (xs3_390 : Int) (bxs3_390 : xs3_390 = 0 ∨ xs3_390 = 1), k390 xs3_390 = some q → ∀ (H : Heap) (locs : List Loc) (ls : Array Slot), gH G (gU (gU (gU (gU (gU (gU M_294 60 0 (M 54 0 v1.toNat).toNat 3) 61 0 (M 54 0 v1.toNat).toNat xs0_185) 62 0 (M 54 0 v1.toNat).toNat v1) 67 0 (wI ((M 54 0 v1.toNat).tdiv 4)).toNat ((gU (gU (gU M_294 60 0 (M 54 0 v1.toNat).toNat 3) 61 0 (M 54 0 v1.toNat).toNat xs0_185) 62 0 (M 54 0 v1.toNat).toNat v1) 56 0 v1.toNat)) 64 0 (M 54 0 v1.toNat).toNat xs2_347) 68 0 4 (wI (((gU (gU (gU (gU (gU M_294 60 0 (M 54 0 v1.toNat).toNat 3) 61 0 (M 54 0 v1.toNat).toNat xs0_185) 62 0 (M 54 0 v1.toNat).toNat v1) 67 0 (wI ((M 54 0 v1.toNat).tdiv 4)).toNat ((gU (gU (gU M_294 60 0 (M 54 0 v1.toNat).toNat 3) 61 0 (M 54 0 v1.toNat).toNat xs0_185) 62 0 (M 54 0 v1.toNat).toNat v1) 56 0 v1.toNat)) 64 0 (M 54 0 v1.toNat).toNat xs2_347) 68 0 4) + 1))) H → va_S (gA G) s.heap H locs → gLv ls 8 [(0, .ref (gAd G 29 0)), (3, .int (iI (wI ((M 54 0 v1.toNat).tdiv 4))))] → W p l e { frames := 3, cells := 0, slots := 0, locals := 70 } s m args below meth c H locs 0 0 (MQ below (gQv G q) args s 0 0 (gA G)) (F0 m 390 ls [.int (iI xs3_390), .int (iI ((gU (gU (gU (gU (gU (gU M_294 60 0 (M 54 0 v1.toNat).toNat 3) 61 0 (M 54 0 v1.toNat).toNat xs0_185) 62 0 (M 54 0 v1.toNat).toNat v1) 67 0 (wI ((M 54 0 v1.toNat).tdiv 4)).toNat ((gU (gU (gU M_294 60 0 (M 54 0 v1.toNat).toNat 3) 61 0 (M 54 0 v1.toNat).toNat xs0_185) 62 0 (M 54 0 v1.toNat).toNat v1) 56 0 v1.toNat)) 64 0 (M 54 0 v1.toNat).toNat xs2_347) 68 0 4 (wI (((gU (gU (gU (gU (gU M_294 60 0 (M 54 0 v1.toNat).toNat 3) 61 0 (M 54 0 v1.toNat).toNat xs0_185) 62 0 (M 54 0 v1.toNat).toNat v1) 67 0 (wI ((M 54 0 v1.toNat).tdiv 4)).toNat ((gU (gU (gU M_294 60 0 (M 54 0 v1.toNat).toNat 3) 61 0 (M 54 0 v1.toNat).toNat xs0_185) 62 0 (M 54 0 v1.toNat).toNat v1) 56 0 v1.toNat)) 64 0 (M 54 0 v1.toNat).toNat xs2_347) 68 0 4) + 1))) 66 0 (wI ((M 54 0 v1.toNat).tdiv 4)).toNat)), .int (iI (wI ((M 54 0 v1.toNat).tdiv 4))), .ref (gAd G 66 0)]) := by
                      intro xs3_390 bxs3_390 hf H locs ls hH hS hl
                      subst ek390
                      refine g_iadd X dX12_ends_390 ?_
                      obtain ⟨hg, hf_⟩ := og_e hf; clear hf; have hf := hf_; clear hf_
                      refine g_iast X hH hS (r := 66) (i := 0) (by decide) (fun _ => rfl) (nmI_w _) hg (nmI_w _) rfl (by decide) dX12_ends_391 (fun H locs hH hS => ?_)
                      refine lv_aload_n X.1 X.2.1 dX12_ends_392 rfl (lv_at hl.1 0 rfl) ?_
                      refine lv_dup X.1 X.2.1 dX12_ends_393 rfl ?_
                      have nd394 : nmI ((gU (gU (gU (gU (gU (gU (gU M_294 60 0 (M 54 0 v1.toNat).toNat 3) 61 0 (M 54 0 v1.toNat).toNat xs0_185) 62 0 (M 54 0 v1.toNat).toNat v1) 67 0 (wI ((M 54 0 v1.toNat).tdiv 4)).toNat ((gU (gU (gU M_294 60 0 (M 54 0 v1.toNat).toNat 3) 61 0 (M 54 0 v1.toNat).toNat xs0_185) 62 0 (M 54 0 v1.toNat).toNat v1) 56 0 v1.toNat)) 64 0 (M 54 0 v1.toNat).toNat xs2_347) 68 0 4 (wI (((gU (gU (gU (gU (gU M_294 60 0 (M 54 0 v1.toNat).toNat 3) 61 0 (M 54 0 v1.toNat).toNat xs0_185) 62 0 (M 54 0 v1.toNat).toNat v1) 67 0 (wI ((M 54 0 v1.toNat).tdiv 4)).toNat ((gU (gU (gU M_294 60 0 (M 54 0 v1.toNat).toNat 3) 61 0 (M 54 0 v1.toNat).toNat xs0_185) 62 0 (M 54 0 v1.toNat).toNat v1) 56 0 v1.toNat)) 64 0 (M 54 0 v1.toNat).toNat xs2_347) 68 0 4) + 1))) 66 0 (wI ((M 54 0 v1.toNat).tdiv 4)).toNat (wI (((gU (gU (gU (gU (gU (gU M_294 60 0 (M 54 0 v1.toNat).toNat 3) 61 0 (M 54 0 v1.toNat).toNat xs0_185) 62 0 (M 54 0 v1.toNat).toNat v1) 67 0 (wI ((M 54 0 v1.toNat).tdiv 4)).toNat ((gU (gU (gU M_294 60 0 (M 54 0 v1.toNat).toNat 3) 61 0 (M 54 0 v1.toNat).toNat xs0_185) 62 0 (M 54 0 v1.toNat).toNat v1) 56 0 v1.toNat)) 64 0 (M 54 0 v1.toNat).toNat xs2_347) 68 0 4 (wI (((gU (gU (gU (gU (gU M_294 60 0 (M 54 0 v1.toNat).toNat 3) 61 0 (M 54 0 v1.toNat).toNat xs0_185) 62 0 (M 54 0 v1.toNat).toNat v1) 67 0 (wI ((M 54 0 v1.toNat).tdiv 4)).toNat ((gU (gU (gU M_294 60 0 (M 54 0 v1.toNat).toNat 3) 61 0 (M 54 0 v1.toNat).toNat xs0_185) 62 0 (M 54 0 v1.toNat).toNat v1) 56 0 v1.toNat)) 64 0 (M 54 0 v1.toNat).toNat xs2_347) 68 0 4) + 1))) 66 0 (wI ((M 54 0 v1.toNat).tdiv 4)).toNat) + xs3_390))) 29 0 43) := hH.1.1 _ _ _
                      refine g_get X cX12 hH (r := 29) (i := 0) (by decide) rfl 43 (by decide) k_444 rfl (v := .int (iI ((gU (gU (gU (gU (gU (gU (gU M_294 60 0 (M 54 0 v1.toNat).toNat 3) 61 0 (M 54 0 v1.toNat).toNat xs0_185) 62 0 (M 54 0 v1.toNat).toNat v1) 67 0 (wI ((M 54 0 v1.toNat).tdiv 4)).toNat ((gU (gU (gU M_294 60 0 (M 54 0 v1.toNat).toNat 3) 61 0 (M 54 0 v1.toNat).toNat xs0_185) 62 0 (M 54 0 v1.toNat).toNat v1) 56 0 v1.toNat)) 64 0 (M 54 0 v1.toNat).toNat xs2_347) 68 0 4 (wI (((gU (gU (gU (gU (gU M_294 60 0 (M 54 0 v1.toNat).toNat 3) 61 0 (M 54 0 v1.toNat).toNat xs0_185) 62 0 (M 54 0 v1.toNat).toNat v1) 67 0 (wI ((M 54 0 v1.toNat).tdiv 4)).toNat ((gU (gU (gU M_294 60 0 (M 54 0 v1.toNat).toNat 3) 61 0 (M 54 0 v1.toNat).toNat xs0_185) 62 0 (M 54 0 v1.toNat).toNat v1) 56 0 v1.toNat)) 64 0 (M 54 0 v1.toNat).toNat xs2_347) 68 0 4) + 1))) 66 0 (wI ((M 54 0 v1.toNat).tdiv 4)).toNat (wI (((gU (gU (gU (gU (gU (gU M_294 60 0 (M 54 0 v1.toNat).toNat 3) 61 0 (M 54 0 v1.toNat).toNat xs0_185) 62 0 (M 54 0 v1.toNat).toNat v1) 67 0 (wI ((M 54 0 v1.toNat).tdiv 4)).toNat ((gU (gU (gU M_294 60 0 (M 54 0 v1.toNat).toNat 3) 61 0 (M 54 0 v1.toNat).toNat xs0_185) 62 0 (M 54 0 v1.toNat).toNat v1) 56 0 v1.toNat)) 64 0 (M 54 0 v1.toNat).toNat xs2_347) 68 0 4 (wI (((gU (gU (gU (gU (gU M_294 60 0 (M 54 0 v1.toNat).toNat 3) 61 0 (M 54 0 v1.toNat).toNat xs0_185) 62 0 (M 54 0 v1.toNat).toNat v1) 67 0 (wI ((M 54 0 v1.toNat).tdiv 4)).toNat ((gU (gU (gU M_294 60 0 (M 54 0 v1.toNat).toNat 3) 61 0 (M 54 0 v1.toNat).toNat xs0_185) 62 0 (M 54 0 v1.toNat).toNat v1) 56 0 v1.toNat)) 64 0 (M 54 0 v1.toNat).toNat xs2_347) 68 0 4) + 1))) 66 0 (wI ((M 54 0 v1.toNat).tdiv 4)).toNat) + xs3_390))) 29 0 43))) rfl dX12_ends_394 ?_
                      refine lv_iconst X.1 X.2.1 dX12_ends_397 (v := iI 1) rfl ?_
                      refine lv_iload_n X.1 X.2.1 dX12_ends_398 rfl (lv_at hl.1 1 rfl) ?_
                      refine g_ishl X dX12_ends_399 ?_
                      refine g_ior X dX12_ends_400 ?_
                      refine g_putI X cX12 hH hS (r := 29) (i := 0) (by decide) rfl 43 (by decide) k_444 rfl rfl rfl (Nat.le_of_ble_eq_true rfl) (x := gOr ((gU (gU (gU (gU (gU (gU (gU M_294 60 0 (M 54 0 v1.toNat).toNat 3) 61 0 (M 54 0 v1.toNat).toNat xs0_185) 62 0 (M 54 0 v1.toNat).toNat v1) 67 0 (wI ((M 54 0 v1.toNat).tdiv 4)).toNat ((gU (gU (gU M_294 60 0 (M 54 0 v1.toNat).toNat 3) 61 0 (M 54 0 v1.toNat).toNat xs0_185) 62 0 (M 54 0 v1.toNat).toNat v1) 56 0 v1.toNat)) 64 0 (M 54 0 v1.toNat).toNat xs2_347) 68 0 4 (wI (((gU (gU (gU (gU (gU M_294 60 0 (M 54 0 v1.toNat).toNat 3) 61 0 (M 54 0 v1.toNat).toNat xs0_185) 62 0 (M 54 0 v1.toNat).toNat v1) 67 0 (wI ((M 54 0 v1.toNat).tdiv 4)).toNat ((gU (gU (gU M_294 60 0 (M 54 0 v1.toNat).toNat 3) 61 0 (M 54 0 v1.toNat).toNat xs0_185) 62 0 (M 54 0 v1.toNat).toNat v1) 56 0 v1.toNat)) 64 0 (M 54 0 v1.toNat).toNat xs2_347) 68 0 4) + 1))) 66 0 (wI ((M 54 0 v1.toNat).tdiv 4)).toNat (wI (((gU (gU (gU (gU (gU (gU M_294 60 0 (M 54 0 v1.toNat).toNat 3) 61 0 (M 54 0 v1.toNat).toNat xs0_185) 62 0 (M 54 0 v1.toNat).toNat v1) 67 0 (wI ((M 54 0 v1.toNat).tdiv 4)).toNat ((gU (gU (gU M_294 60 0 (M 54 0 v1.toNat).toNat 3) 61 0 (M 54 0 v1.toNat).toNat xs0_185) 62 0 (M 54 0 v1.toNat).toNat v1) 56 0 v1.toNat)) 64 0 (M 54 0 v1.toNat).toNat xs2_347) 68 0 4 (wI (((gU (gU (gU (gU (gU M_294 60 0 (M 54 0 v1.toNat).toNat 3) 61 0 (M 54 0 v1.toNat).toNat xs0_185) 62 0 (M 54 0 v1.toNat).toNat v1) 67 0 (wI ((M 54 0 v1.toNat).tdiv 4)).toNat ((gU (gU (gU M_294 60 0 (M 54 0 v1.toNat).toNat 3) 61 0 (M 54 0 v1.toNat).toNat xs0_185) 62 0 (M 54 0 v1.toNat).toNat v1) 56 0 v1.toNat)) 64 0 (M 54 0 v1.toNat).toNat xs2_347) 68 0 4) + 1))) 66 0 (wI ((M 54 0 v1.toNat).tdiv 4)).toNat) + xs3_390))) 29 0 43) (gShl 1 (wI ((M 54 0 v1.toNat).tdiv 4)))) (nmI_or _ _) rfl rfl rfl dX12_ends_401 (fun H locs hH hS => ?_)
                      refine lv_goto (tgt := 428) X.1 X.2.1 dX12_ends_404 (by decide) ?_
                      have hq := Option.some.inj hf; subst hq
                      exact gRetV X hH hS dX12_ends_428
                    clear ek390
                    refine g_if_ne X (nmI_and _ _) (tgt := 389) dX12_ends_382 (by decide) (fun hc382 => ?_) (fun hc382 => ?_)
                    · replace hf := it_f hf hc382
                      refine lv_iconst X.1 X.2.1 dX12_ends_389 (v := iI 0) rfl ?_
                      exact hk390 0 (by decide) hf _ _ _ hH hS (gLv_sub hl [0, 3] rfl)
                    · replace hf := it_t hf hc382
                      refine lv_iconst X.1 X.2.1 dX12_ends_385 (v := iI 1) rfl ?_
                      refine lv_goto (tgt := 390) X.1 X.2.1 dX12_ends_386 (by decide) ?_
                      exact hk390 1 (by decide) hf _ _ _ hH hS (gLv_sub hl [0, 3] rfl)
                clear ek347
                refine g_if_le X nd338 (tgt := 346) dX12_ends_339 (by decide) (fun hc339 => ?_) (fun hc339 => ?_)
                · replace hf := it_f hf hc339
                  refine lv_iconst X.1 X.2.1 dX12_ends_346 (v := iI 0) rfl ?_
                  exact hk347 0 (by decide) hf _ _ _ hH hS (gLv_sub hl [0, 1, 2, 3, 4, 5] rfl)
                · replace hf := it_t hf hc339
                  refine lv_iconst X.1 X.2.1 dX12_ends_342 (v := iI 1) rfl ?_
                  refine lv_goto (tgt := 347) X.1 X.2.1 dX12_ends_343 (by decide) ?_
                  exact hk347 1 (by decide) hf _ _ _ hH hS (gLv_sub hl [0, 1, 2, 3, 4, 5] rfl)
              clear ek294
              refine g_if_eq X (nmI_b bxs0_231) (tgt := 294) dX12_ends_235 (by decide) (fun hc235 => ?_) (fun hc235 => ?_)
              · replace hf := it_t hf hc235
                exact hk294 M_59 hf _ _ _ hH hS (gLv_sub hl [1, 2, 3, 4, 5, 6] rfl)
              · replace hf := it_f hf hc235
                refine lv_aload_n X.1 X.2.1 dX12_ends_238 rfl (lv_at hl.1 1 rfl) ?_
                refine g_get X cX12 hH (r := 29) (i := 0) (by decide) rfl 47 (by decide) k_448 rfl (v := .ref (gAd G 68 0)) rfl dX12_ends_239 ?_
                refine lv_iconst X.1 X.2.1 dX12_ends_242 (v := iI 3) rfl ?_
                refine lv_dup2_11 X.1 X.2.1 dX12_ends_243 rfl rfl ?_
                obtain ⟨hg, hf_⟩ := og_e hf; clear hf; have hf := hf_; clear hf_
                have nd244 : nmI (M_59 68 0 3) := hH.1.1 _ _ _
                refine g_iald X hH (r := 68) (i := 0) (by decide) rfl (nmI_l (by decide)) hg (v := M_59 68 0 3) rfl dX12_ends_244 ?_
                refine lv_iconst X.1 X.2.1 dX12_ends_245 (v := iI 1) rfl ?_
                refine g_iadd X dX12_ends_246 ?_
                obtain ⟨hg, hf_⟩ := og_e hf; clear hf; have hf := hf_; clear hf_
                refine g_iast X hH hS (r := 68) (i := 0) (by decide) (fun _ => rfl) (nmI_l (by decide)) hg (nmI_w _) rfl (by decide) dX12_ends_247 (fun H locs hH hS => ?_)
                refine lv_aload_n X.1 X.2.1 dX12_ends_248 rfl (lv_at hl.1 1 rfl) ?_
                refine g_get X cX12 hH (r := 29) (i := 0) (by decide) rfl 41 (by decide) k_442 rfl (v := .ref (gAd G 63 0)) rfl dX12_ends_249 ?_
                refine lv_iload_n X.1 X.2.1 dX12_ends_252 rfl (lv_at hl.1 3 rfl) ?_
                refine lv_dup2_11 X.1 X.2.1 dX12_ends_253 rfl rfl ?_
                obtain ⟨hg, hf_⟩ := og_e hf; clear hf; have hf := hf_; clear hf_
                have nd254 : nmI ((gU M_59 68 0 3 (wI ((M_59 68 0 3) + 1))) 63 0 (M 54 0 v1.toNat).toNat) := hH.1.1 _ _ _
                refine g_iald X hH (r := 63) (i := 0) (by decide) rfl nd5 hg (v := (gU M_59 68 0 3 (wI ((M_59 68 0 3) + 1))) 63 0 (M 54 0 v1.toNat).toNat) rfl dX12_ends_254 ?_
                refine lv_iconst X.1 X.2.1 dX12_ends_255 (v := iI 1) rfl ?_
                refine g_iadd X dX12_ends_256 ?_
                obtain ⟨hg, hf_⟩ := og_e hf; clear hf; have hf := hf_; clear hf_
                refine g_iast X hH hS (r := 63) (i := 0) (by decide) (fun _ => rfl) nd5 hg (nmI_w _) rfl (by decide) dX12_ends_257 (fun H locs hH hS => ?_)
                refine lv_aload_n X.1 X.2.1 dX12_ends_258 rfl (lv_at hl.1 1 rfl) ?_
                refine g_get X cX12 hH (r := 29) (i := 0) (by decide) rfl 41 (by decide) k_442 rfl (v := .ref (gAd G 63 0)) rfl dX12_ends_259 ?_
                refine lv_iload_n X.1 X.2.1 dX12_ends_262 rfl (lv_at hl.1 3 rfl) ?_
                obtain ⟨hg, hf_⟩ := og_e hf; clear hf; have hf := hf_; clear hf_
                have nd263 : nmI ((gU (gU M_59 68 0 3 (wI ((M_59 68 0 3) + 1))) 63 0 (M 54 0 v1.toNat).toNat (wI (((gU M_59 68 0 3 (wI ((M_59 68 0 3) + 1))) 63 0 (M 54 0 v1.toNat).toNat) + 1))) 63 0 (M 54 0 v1.toNat).toNat) := hH.1.1 _ _ _
                refine g_iald X hH (r := 63) (i := 0) (by decide) rfl nd5 hg (v := (gU (gU M_59 68 0 3 (wI ((M_59 68 0 3) + 1))) 63 0 (M 54 0 v1.toNat).toNat (wI (((gU M_59 68 0 3 (wI ((M_59 68 0 3) + 1))) 63 0 (M 54 0 v1.toNat).toNat) + 1))) 63 0 (M 54 0 v1.toNat).toNat) rfl dX12_ends_263 ?_
                refine lv_iconst X.1 X.2.1 dX12_ends_264 (v := iI 3) rfl ?_
                refine g_icmp_ge X nd263 (nmI_l (by decide)) (tgt := 276) dX12_ends_265 (by decide) (fun hc265 => ?_) (fun hc265 => ?_)
                · replace hf := it_f hf hc265
                  refine lv_aload_n X.1 X.2.1 dX12_ends_276 rfl (lv_at hl.1 1 rfl) ?_
                  refine g_get X cX12 hH (r := 29) (i := 0) (by decide) rfl 45 (by decide) k_446 rfl (v := .ref (gAd G 66 0)) rfl dX12_ends_277 ?_
                  refine lv_iload_n X.1 X.2.1 dX12_ends_280 rfl (lv_at hl.1 4 rfl) ?_
                  obtain ⟨hg, hf_⟩ := og_e hf; clear hf; have hf := hf_; clear hf_
                  have nd281 : nmI ((gU (gU M_59 68 0 3 (wI ((M_59 68 0 3) + 1))) 63 0 (M 54 0 v1.toNat).toNat (wI (((gU M_59 68 0 3 (wI ((M_59 68 0 3) + 1))) 63 0 (M 54 0 v1.toNat).toNat) + 1))) 66 0 (wI ((M 54 0 v1.toNat).tdiv 4)).toNat) := hH.1.1 _ _ _
                  refine g_iald X hH (r := 66) (i := 0) (by decide) rfl (nmI_w _) hg (v := (gU (gU M_59 68 0 3 (wI ((M_59 68 0 3) + 1))) 63 0 (M 54 0 v1.toNat).toNat (wI (((gU M_59 68 0 3 (wI ((M_59 68 0 3) + 1))) 63 0 (M 54 0 v1.toNat).toNat) + 1))) 66 0 (wI ((M 54 0 v1.toNat).tdiv 4)).toNat) rfl dX12_ends_281 ?_
                  refine lv_iconst X.1 X.2.1 dX12_ends_282 (v := iI 2) rfl ?_
                  refine g_icmp_ge X nd281 (nmI_l (by decide)) (tgt := 294) dX12_ends_283 (by decide) (fun hc283 => ?_) (fun hc283 => ?_)
                  · replace hf := it_f hf hc283
                    exact hk294 (gU (gU M_59 68 0 3 (wI ((M_59 68 0 3) + 1))) 63 0 (M 54 0 v1.toNat).toNat (wI (((gU M_59 68 0 3 (wI ((M_59 68 0 3) + 1))) 63 0 (M 54 0 v1.toNat).toNat) + 1))) hf _ _ _ hH hS (gLv_sub hl [1, 2, 3, 4, 5, 6] rfl)
                  · replace hf := it_t hf hc283
                    refine lv_aload_n X.1 X.2.1 dX12_ends_286 rfl (lv_at hl.1 1 rfl) ?_
                    refine g_get X cX12 hH (r := 29) (i := 0) (by decide) rfl 38 (by decide) k_439 rfl (v := .ref (gAd G 60 0)) rfl dX12_ends_287 ?_
                    refine lv_iload_n X.1 X.2.1 dX12_ends_290 rfl (lv_at hl.1 3 rfl) ?_
                    refine lv_iconst X.1 X.2.1 dX12_ends_291 (v := iI 4) rfl ?_
                    obtain ⟨hg, hf_⟩ := og_e hf; clear hf; have hf := hf_; clear hf_
                    refine g_iast X hH hS (r := 60) (i := 0) (by decide) (fun _ => rfl) nd5 hg (nmI_l (by decide)) rfl (by decide) dX12_ends_292 (fun H locs hH hS => ?_)
                    have hq := Option.some.inj hf; subst hq
                    exact gRetV X hH hS dX12_ends_293
                · replace hf := it_t hf hc265
                  refine lv_aload_n X.1 X.2.1 dX12_ends_268 rfl (lv_at hl.1 1 rfl) ?_
                  refine g_get X cX12 hH (r := 29) (i := 0) (by decide) rfl 38 (by decide) k_439 rfl (v := .ref (gAd G 60 0)) rfl dX12_ends_269 ?_
                  refine lv_iload_n X.1 X.2.1 dX12_ends_272 rfl (lv_at hl.1 3 rfl) ?_
                  refine lv_iconst X.1 X.2.1 dX12_ends_273 (v := iI 1) rfl ?_
                  obtain ⟨hg, hf_⟩ := og_e hf; clear hf; have hf := hf_; clear hf_
                  refine g_iast X hH hS (r := 60) (i := 0) (by decide) (fun _ => rfl) nd5 hg (nmI_l (by decide)) rfl (by decide) dX12_ends_274 (fun H locs hH hS => ?_)
                  have hq := Option.some.inj hf; subst hq
                  exact gRetV X hH hS dX12_ends_275
            clear ek231
            obtain ⟨k230, ek230, hf_⟩ := oj_e hf; clear hf; have hf := hf_; clear hf_
            have hk230 : k230 = some q → ∀ (H : Heap) (locs : List Loc) (ls : Array Slot), gH G M_59 H → va_S (gA G) s.heap H locs → gLv ls 8 [(0, .ref (gAd G 29 0)), (1, .int (iI v1)), (2, .int (iI (M 54 0 v1.toNat))), (3, .int (iI (wI ((M 54 0 v1.toNat).tdiv 4)))), (5, .int (iI r67)), (6, .int (iI xs0_185))] → W p l e { frames := 3, cells := 0, slots := 0, locals := 70 } s m args below meth c H locs 0 0 (MQ below (gQv G q) args s 0 0 (gA G)) (F0 m 230 ls []) := by
              intro  hf H locs ls hH hS hl
              subst ek230
              refine lv_iconst X.1 X.2.1 dX12_ends_230 (v := iI 0) rfl ?_
              exact hk231 0 (by decide) hf _ _ _ hH hS (gLv_sub hl [0, 1, 2, 3, 4, 5] rfl)
            clear ek230
            refine g_icmp_ne X nd192 (nmI_l (by decide)) (tgt := 230) dX12_ends_194 (by decide) (fun hc194 => ?_) (fun hc194 => ?_)
            · replace hf := it_f hf hc194
              exact hk230  hf _ _ _ hH hS (gLv_sub hl [1, 2, 3, 4, 5, 0] rfl)
            · replace hf := it_t hf hc194
              refine lv_iload X.1 X.2.1 dX12_ends_197 (lv_at hl.1 0 rfl) ?_
              refine lv_iconst X.1 X.2.1 dX12_ends_199 (v := iI 4) rfl ?_
              refine g_irem X nxs0_185 (nmI_l (by decide)) (by decide) dX12_ends_200 ?_
              obtain ⟨k226, ek226, hf_⟩ := oj_e hf; clear hf; have hf := hf_; clear hf_
              have hk226 : k226 = some q → ∀ (H : Heap) (locs : List Loc) (ls : Array Slot), gH G M_59 H → va_S (gA G) s.heap H locs → gLv ls 8 [(0, .ref (gAd G 29 0)), (1, .int (iI v1)), (2, .int (iI (M 54 0 v1.toNat))), (3, .int (iI (wI ((M 54 0 v1.toNat).tdiv 4)))), (5, .int (iI r67)), (6, .int (iI xs0_185))] → W p l e { frames := 3, cells := 0, slots := 0, locals := 70 } s m args below meth c H locs 0 0 (MQ below (gQv G q) args s 0 0 (gA G)) (F0 m 226 ls []) := by
                intro  hf H locs ls hH hS hl
                subst ek226
                refine lv_iconst X.1 X.2.1 dX12_ends_226 (v := iI 1) rfl ?_
                refine lv_goto (tgt := 231) X.1 X.2.1 dX12_ends_227 (by decide) ?_
                exact hk231 1 (by decide) hf _ _ _ hH hS (gLv_sub hl [0, 1, 2, 3, 4, 5] rfl)
              clear ek226
              refine g_if_eq X (nmI_rem _ _) (tgt := 226) dX12_ends_201 (by decide) (fun hc201 => ?_) (fun hc201 => ?_)
              · replace hf := it_t hf hc201
                exact hk226  hf _ _ _ hH hS (gLv_sub hl [1, 2, 3, 4, 5, 0] rfl)
              · replace hf := it_f hf hc201
                refine lv_iconst X.1 X.2.1 dX12_ends_204 (v := iI 3) rfl ?_
                refine lv_aload_n X.1 X.2.1 dX12_ends_205 rfl (lv_at hl.1 1 rfl) ?_
                refine g_get X cX12 hH (r := 29) (i := 0) (by decide) rfl 44 (by decide) k_445 rfl (v := .ref (gAd G 65 0)) rfl dX12_ends_206 ?_
                refine lv_iload_n X.1 X.2.1 dX12_ends_209 rfl (lv_at hl.1 3 rfl) ?_
                obtain ⟨hg, hf_⟩ := og_e hf; clear hf; have hf := hf_; clear hf_
                have nd210 : nmI (M_59 65 0 (M 54 0 v1.toNat).toNat) := hH.1.1 _ _ _
                refine g_iald X hH (r := 65) (i := 0) (by decide) rfl nd5 hg (v := M_59 65 0 (M 54 0 v1.toNat).toNat) rfl dX12_ends_210 ?_
                refine g_imul X dX12_ends_211 ?_
                refine lv_iload X.1 X.2.1 dX12_ends_212 (lv_at hl.1 0 rfl) ?_
                refine g_iadd X dX12_ends_214 ?_
                refine lv_iconst X.1 X.2.1 dX12_ends_215 (v := iI 5) rfl ?_
                refine g_irem X (nmI_w _) (nmI_l (by decide)) (by decide) dX12_ends_216 ?_
                refine lv_aload_n X.1 X.2.1 dX12_ends_217 rfl (lv_at hl.1 1 rfl) ?_
                refine g_get X cX12 hH (r := 29) (i := 0) (by decide) rfl 13 (by decide) k_414 rfl (v := .ref (gAd G 40 0)) rfl dX12_ends_218 ?_
                refine lv_iload_n X.1 X.2.1 dX12_ends_221 rfl (lv_at hl.1 4 rfl) ?_
                obtain ⟨hg, hf_⟩ := og_e hf; clear hf; have hf := hf_; clear hf_
                have nd222 : nmI (M_59 40 0 (wI ((M 54 0 v1.toNat).tdiv 4)).toNat) := hH.1.1 _ _ _
                refine g_iald X hH (r := 40) (i := 0) (by decide) rfl (nmI_w _) hg (v := M_59 40 0 (wI ((M 54 0 v1.toNat).tdiv 4)).toNat) rfl dX12_ends_222 ?_
                refine g_icmp_ge X (nmI_rem _ _) nd222 (tgt := 230) dX12_ends_223 (by decide) (fun hc223 => ?_) (fun hc223 => ?_)
                · replace hf := it_f hf hc223
                  exact hk230  hf _ _ _ hH hS (gLv_sub hl [1, 2, 3, 4, 5, 0] rfl)
                · replace hf := it_t hf hc223
                  exact hk226  hf _ _ _ hH hS (gLv_sub hl [1, 2, 3, 4, 5, 0] rfl)
          clear ek185
          refine g_icmp_ne X nr67 (nmI_l (by decide)) (tgt := 170) dX12_ends_158 (by decide) (fun hc158 => ?_) (fun hc158 => ?_)
          · replace hf := it_f hf hc158
            refine lv_aload_n X.1 X.2.1 dX12_ends_170 rfl (lv_at hl.1 0 rfl) ?_
            refine g_get X cX12 hH (r := 29) (i := 0) (by decide) rfl 33 (by decide) k_434 rfl (v := .ref (gAd G 57 0)) rfl dX12_ends_171 ?_
            refine lv_iload_n X.1 X.2.1 dX12_ends_174 rfl (lv_at hl.1 1 rfl) ?_
            obtain ⟨hg, hf_⟩ := og_e hf; clear hf; have hf := hf_; clear hf_
            have nd175 : nmI (M_59 57 0 v1.toNat) := hH.1.1 _ _ _
            refine g_iald X hH (r := 57) (i := 0) (by decide) rfl nv1 hg (v := M_59 57 0 v1.toNat) rfl dX12_ends_175 ?_
            refine lv_aload_n X.1 X.2.1 dX12_ends_176 rfl (lv_at hl.1 0 rfl) ?_
            refine g_get X cX12 hH (r := 29) (i := 0) (by decide) rfl 34 (by decide) k_435 rfl (v := .ref (gAd G 58 0)) rfl dX12_ends_177 ?_
            refine lv_iload_n X.1 X.2.1 dX12_ends_180 rfl (lv_at hl.1 1 rfl) ?_
            obtain ⟨hg, hf_⟩ := og_e hf; clear hf; have hf := hf_; clear hf_
            have nd181 : nmI (M_59 58 0 v1.toNat) := hH.1.1 _ _ _
            refine g_iald X hH (r := 58) (i := 0) (by decide) rfl nv1 hg (v := M_59 58 0 v1.toNat) rfl dX12_ends_181 ?_
            refine gGoI (gRunS X hH (As := [.int (iI (M_59 57 0 v1.toNat)), .int (iI (M_59 58 0 v1.toNat))]) (m_X12_put l G (M_59 57 0 v1.toNat) nd175 (M_59 58 0 v1.toNat) nd181 M_59 _ rfl) calX12_put k_962 k_475 ⟨by decide, by decide⟩ rfl hl rfl (Nat.le_of_ble_eq_true rfl) ⟨Nat.le_refl 0, Nat.le_refl 0⟩ dX12_ends_182) hS (fun H locs nr182 hH hS => ?_)
            exact hk185 ((f_X12_put (M_59 57 0 v1.toNat) (M_59 58 0 v1.toNat) M_59)) nr182 hf _ _ _ hH hS (gLv_sub hl [0, 1, 2, 3, 4] rfl)
          · replace hf := it_t hf hc158
            refine lv_aload_n X.1 X.2.1 dX12_ends_161 rfl (lv_at hl.1 0 rfl) ?_
            refine g_get X cX12 hH (r := 29) (i := 0) (by decide) rfl 33 (by decide) k_434 rfl (v := .ref (gAd G 57 0)) rfl dX12_ends_162 ?_
            refine lv_iload_n X.1 X.2.1 dX12_ends_165 rfl (lv_at hl.1 1 rfl) ?_
            obtain ⟨hg, hf_⟩ := og_e hf; clear hf; have hf := hf_; clear hf_
            have nd166 : nmI (M_59 57 0 v1.toNat) := hH.1.1 _ _ _
            refine g_iald X hH (r := 57) (i := 0) (by decide) rfl nv1 hg (v := M_59 57 0 v1.toNat) rfl dX12_ends_166 ?_
            refine lv_goto (tgt := 185) X.1 X.2.1 dX12_ends_167 (by decide) ?_
            exact hk185 (M_59 57 0 v1.toNat) nd166 hf _ _ _ hH hS (gLv_sub hl [0, 1, 2, 3, 4] rfl)
        · replace hf := it_f hf hc144
          refine lv_aload_n X.1 X.2.1 dX12_ends_147 rfl (lv_at hl.1 0 rfl) ?_
          refine g_get X cX12 hH (r := 29) (i := 0) (by decide) rfl 38 (by decide) k_439 rfl (v := .ref (gAd G 60 0)) rfl dX12_ends_148 ?_
          refine lv_iload_n X.1 X.2.1 dX12_ends_151 rfl (lv_at hl.1 2 rfl) ?_
          refine lv_iconst X.1 X.2.1 dX12_ends_152 (v := iI 4) rfl ?_
          obtain ⟨hg, hf_⟩ := og_e hf; clear hf; have hf := hf_; clear hf_
          refine g_iast X hH hS (r := 60) (i := 0) (by decide) (fun _ => rfl) nd5 hg (nmI_l (by decide)) rfl (by decide) dX12_ends_153 (fun H locs hH hS => ?_)
          have hq := Option.some.inj hf; subst hq
          exact gRetV X hH hS dX12_ends_154
      clear ek133
      refine g_icmp_eq X nr67 (nmI_l (by decide)) (tgt := 133) dX12_ends_89 (by decide) (fun hc89 => ?_) (fun hc89 => ?_)
      · replace hf := it_t hf hc89
        exact hk133  hf _ _ _ hH hS (gLv_sub hl [1, 2, 3, 4, 0] rfl)
      · replace hf := it_f hf hc89
        refine lv_aload_n X.1 X.2.1 dX12_ends_92 rfl (lv_at hl.1 1 rfl) ?_
        refine g_get X cX12 hH (r := 29) (i := 0) (by decide) rfl 1 (by decide) k_402 rfl (v := .ref (gAd G 30 0)) rfl dX12_ends_93 ?_
        refine lv_iload X.1 X.2.1 dX12_ends_96 (lv_at hl.1 0 rfl) ?_
        obtain ⟨hg, hf_⟩ := og_e hf; clear hf; have hf := hf_; clear hf_
        have nd98 : nmI (M_59 30 0 r67.toNat) := hH.1.1 _ _ _
        refine g_iald X hH (r := 30) (i := 0) (by decide) rfl nr67 hg (v := M_59 30 0 r67.toNat) rfl dX12_ends_98 ?_
        refine lv_aload_n X.1 X.2.1 dX12_ends_99 rfl (lv_at hl.1 1 rfl) ?_
        refine g_get X cX12 hH (r := 29) (i := 0) (by decide) rfl 34 (by decide) k_435 rfl (v := .ref (gAd G 58 0)) rfl dX12_ends_100 ?_
        refine lv_iload_n X.1 X.2.1 dX12_ends_103 rfl (lv_at hl.1 2 rfl) ?_
        obtain ⟨hg, hf_⟩ := og_e hf; clear hf; have hf := hf_; clear hf_
        have nd104 : nmI (M_59 58 0 v1.toNat) := hH.1.1 _ _ _
        refine g_iald X hH (r := 58) (i := 0) (by decide) rfl nv1 hg (v := M_59 58 0 v1.toNat) rfl dX12_ends_104 ?_
        refine g_icmp_eq X nd98 nd104 (tgt := 133) dX12_ends_105 (by decide) (fun hc105 => ?_) (fun hc105 => ?_)
        · replace hf := it_t hf hc105
          exact hk133  hf _ _ _ hH hS (gLv_sub hl [1, 2, 3, 4, 0] rfl)
        · replace hf := it_f hf hc105
          exact hk108  hf _ _ _ hH hS (gLv_sub hl [1, 3] rfl)
  clear ek59
  refine g_icmp_eq X nr32 (nmI_l (by decide)) (tgt := 59) dX12_ends_40 (by decide) (fun hc40 => ?_) (fun hc40 => ?_)
  · replace hf := it_t hf hc40
    exact hk59 (gU (gU M 54 0 v1.toNat ((-1))) 59 0 v1.toNat ((gU M 54 0 v1.toNat ((-1))) 36 0 (wI ((M 54 0 v1.toNat).tdiv 4)).toNat)) hf _ _ _ hH hS (gLv_sub hl [3, 4, 2, 1] rfl)
  · replace hf := it_f hf hc40
    refine lv_aload_n X.1 X.2.1 dX12_ends_43 rfl (lv_at hl.1 3 rfl) ?_
    refine g_get X cX12 hH (r := 29) (i := 0) (by decide) rfl 30 (by decide) k_431 rfl (v := .ref (gAd G 54 0)) rfl dX12_ends_44 ?_
    refine lv_iload X.1 X.2.1 dX12_ends_47 (lv_at hl.1 0 rfl) ?_
    refine lv_iconst X.1 X.2.1 dX12_ends_49 (v := iI (-1)) rfl ?_
    obtain ⟨hg, hf_⟩ := og_e hf; clear hf; have hf := hf_; clear hf_
    refine g_iast X hH hS (r := 54) (i := 0) (by decide) (fun _ => rfl) nr32 hg (nmI_l (by decide)) rfl (by decide) dX12_ends_50 (fun H locs hH hS => ?_)
    refine lv_aload_n X.1 X.2.1 dX12_ends_51 rfl (lv_at hl.1 3 rfl) ?_
    refine g_get X cX12 hH (r := 29) (i := 0) (by decide) rfl 35 (by decide) k_436 rfl (v := .ref (gAd G 59 0)) rfl dX12_ends_52 ?_
    refine lv_iload X.1 X.2.1 dX12_ends_55 (lv_at hl.1 0 rfl) ?_
    refine lv_iconst X.1 X.2.1 dX12_ends_57 (v := iI (-1)) rfl ?_
    obtain ⟨hg, hf_⟩ := og_e hf; clear hf; have hf := hf_; clear hf_
    refine g_iast X hH hS (r := 59) (i := 0) (by decide) (fun _ => rfl) nr32 hg (nmI_l (by decide)) rfl (by decide) dX12_ends_58 (fun H locs hH hS => ?_)
    exact hk59 (gU (gU (gU (gU M 54 0 v1.toNat ((-1))) 59 0 v1.toNat ((gU M 54 0 v1.toNat ((-1))) 36 0 (wI ((M 54 0 v1.toNat).tdiv 4)).toNat)) 54 0 r32.toNat ((-1))) 59 0 r32.toNat ((-1))) hf _ _ _ hH hS (gLv_sub hl [3, 4, 2, 1] rfl)
theorem w_X12_builds_L10 {G : gG} {p : Program} {l : Launch} {e : Env} {s : State} {m : MethodId} {args : Array Value} {below : List Frame} {meth : Method} {c : Code} (X : gX G p s m args meth c RX12 cX12_builds 5 none (gWs yX12_builds cX12_builds 5 none)) (k49 : gM → Option gM) (q : gM) (hk49 : ∀  (M : gM), k49 M = some q → ∀ (H : Heap) (locs : List Loc) (ls : Array Slot), gH G M H → va_S (gA G) s.heap H locs → gLv ls 5 [(0, .ref (gAd G 29 0))] → W p l e { frames := 4, cells := 0, slots := 0, locals := 97 } s m args below meth c H locs 0 0 (MQ below (gQv G q) args s 0 0 (gA G)) (F0 m 49 ls [])) : ∀ (n : Nat) (x1 : Int) (nx1 : nmI x1) (x2 : Int) (nx2 : nmI x2) (M : gM), f_X12_builds_L10 k49 n x1 x2 M = some q → ∀ (H : Heap) (locs : List Loc) (ls : Array Slot), gH G M H → va_S (gA G) s.heap H locs → gLv ls 5 [(0, .ref (gAd G 29 0)), (1, .int (iI x1)), (2, .int (iI x2))] → W p l e { frames := 4, cells := 0, slots := 0, locals := 97 } s m args below meth c H locs 0 0 (MQ below (gQv G q) args s 0 0 (gA G)) (F0 m 10 ls []) := by
  intro n
  induction n with
  | zero =>
    intro x1 nx1 x2 nx2 M hf
    cases hf
  | succ n ih =>
    intro x1 nx1 x2 nx2 M hf H locs ls hH hS hl
    rw [f_X12_builds_L10] at hf
    refine lv_iload_n X.1 X.2.1 dX12_builds_10 rfl (lv_at hl.1 1 rfl) ?_
    refine lv_iconst X.1 X.2.1 dX12_builds_11 (v := iI (-1)) rfl ?_
    refine g_icmp_eq X nx1 (nmI_l (by decide)) (tgt := 49) dX12_builds_12 (by decide) (fun hc12 => ?_) (fun hc12 => ?_)
    · replace hf := it_t hf hc12
      exact hk49 M hf _ _ _ hH hS (gLv_sub hl [0] rfl)
    · replace hf := it_f hf hc12
      refine lv_iload_n X.1 X.2.1 dX12_builds_15 rfl (lv_at hl.1 2 rfl) ?_
      refine lv_iconst X.1 X.2.1 dX12_builds_16 (v := iI (-1)) rfl ?_
      refine g_icmp_eq X nx2 (nmI_l (by decide)) (tgt := 49) dX12_builds_17 (by decide) (fun hc17 => ?_) (fun hc17 => ?_)
      · replace hf := it_t hf hc17
        exact hk49 M hf _ _ _ hH hS (gLv_sub hl [0] rfl)
      · replace hf := it_f hf hc17
        refine lv_aload_n X.1 X.2.1 dX12_builds_20 rfl (lv_at hl.1 0 rfl) ?_
        refine g_get X cX12 hH (r := 29) (i := 0) (by decide) rfl 44 (by decide) k_445 rfl (v := .ref (gAd G 65 0)) rfl dX12_builds_21 ?_
        refine lv_iload_n X.1 X.2.1 dX12_builds_24 rfl (lv_at hl.1 1 rfl) ?_
        refine lv_dup2_11 X.1 X.2.1 dX12_builds_25 rfl rfl ?_
        obtain ⟨hg, hf_⟩ := og_e hf; clear hf; have hf := hf_; clear hf_
        have nd26 : nmI (M 65 0 x1.toNat) := hH.1.1 _ _ _
        refine g_iald X hH (r := 65) (i := 0) (by decide) rfl nx1 hg (v := M 65 0 x1.toNat) rfl dX12_builds_26 ?_
        refine lv_iconst X.1 X.2.1 dX12_builds_27 (v := iI 1) rfl ?_
        refine g_iadd X dX12_builds_28 ?_
        obtain ⟨hg, hf_⟩ := og_e hf; clear hf; have hf := hf_; clear hf_
        refine g_iast X hH hS (r := 65) (i := 0) (by decide) (fun _ => rfl) nx1 hg (nmI_w _) rfl (by decide) dX12_builds_29 (fun H locs hH hS => ?_)
        refine lv_aload_n X.1 X.2.1 dX12_builds_30 rfl (lv_at hl.1 0 rfl) ?_
        refine lv_iload_n X.1 X.2.1 dX12_builds_31 rfl (lv_at hl.1 1 rfl) ?_
        refine lv_iload_n X.1 X.2.1 dX12_builds_32 rfl (lv_at hl.1 2 rfl) ?_
        obtain ⟨r33, hq33, hf_⟩ := ob_e hf; clear hf; have hf := hf_; clear hf_
        refine gGoV (gRunV X hH (As := [.int (iI x1), .int (iI x2)]) (m_X12_begins l G x1 nx1 x2 nx2 (gU M 65 0 x1.toNat (wI ((M 65 0 x1.toNat) + 1))) _ hq33) calX12_begins k_1016 k_1126 k_501 (by decide) cX12 rfl ⟨by decide, by decide⟩ rfl hl rfl (Nat.le_of_ble_eq_true rfl) ⟨Nat.le_refl 0, Nat.le_refl 0⟩ dX12_builds_33) hS (fun H locs hH hS => ?_)
        refine lv_aload_n X.1 X.2.1 dX12_builds_36 rfl (lv_at hl.1 0 rfl) ?_
        obtain ⟨r37, hq37, hf_⟩ := ob_e hf; clear hf; have hf := hf_; clear hf_
        refine gGoI (gRunV X hH (As := []) (m_X12_next l G  r33 _ hq37) calX12_next k_1008 k_1122 k_497 (by decide) cX12 rfl ⟨by decide, by decide⟩ rfl hl rfl (Nat.le_of_ble_eq_true rfl) ⟨Nat.le_refl 0, Nat.le_refl 0⟩ dX12_builds_37) hS (fun H locs nr37 hH hS => ?_)
        refine g_istore_n X (lv' := [(1, .int (iI r37.1)), (0, .ref (gAd G 29 0)), (2, .int (iI x2))]) dX12_builds_40 rfl hl (by decide) rfl (fun ls hl => ?_)
        refine lv_aload_n X.1 X.2.1 dX12_builds_41 rfl (lv_at hl.1 1 rfl) ?_
        obtain ⟨r42, hq42, hf_⟩ := ob_e hf; clear hf; have hf := hf_; clear hf_
        refine gGoI (gRunV X hH (As := []) (m_X12_idle l G  r37.2 _ hq42) calX12_idle k_1014 k_1125 k_500 (by decide) cX12 rfl ⟨by decide, by decide⟩ rfl hl rfl (Nat.le_of_ble_eq_true rfl) ⟨Nat.le_refl 0, Nat.le_refl 0⟩ dX12_builds_42) hS (fun H locs nr42 hH hS => ?_)
        refine g_istore_n X (lv' := [(2, .int (iI r42)), (1, .int (iI r37.1)), (0, .ref (gAd G 29 0))]) dX12_builds_45 rfl hl (by decide) rfl (fun ls hl => ?_)
        refine lv_goto (tgt := 10) X.1 X.2.1 dX12_builds_46 (by decide) ?_
        exact ih r37.1 nr37 r42 nr42 r37.2 hf _ _ _ hH hS (gLv_sub hl [2, 1, 0] rfl)
theorem w_X12_builds_L149 {G : gG} {p : Program} {l : Launch} {e : Env} {s : State} {m : MethodId} {args : Array Value} {below : List Frame} {meth : Method} {c : Code} (X : gX G p s m args meth c RX12 cX12_builds 5 none (gWs yX12_builds cX12_builds 5 none)) (k184 : gM → Option gM) (q : gM) (hk184 : ∀  (M : gM), k184 M = some q → ∀ (H : Heap) (locs : List Loc) (ls : Array Slot), gH G M H → va_S (gA G) s.heap H locs → gLv ls 5 [(0, .ref (gAd G 29 0))] → W p l e { frames := 4, cells := 0, slots := 0, locals := 97 } s m args below meth c H locs 0 0 (MQ below (gQv G q) args s 0 0 (gA G)) (F0 m 184 ls [])) : ∀ (n : Nat) (x3 : Int) (nx3 : nmI x3) (M : gM), f_X12_builds_L149 k184 n x3 M = some q → ∀ (H : Heap) (locs : List Loc) (ls : Array Slot), gH G M H → va_S (gA G) s.heap H locs → gLv ls 5 [(0, .ref (gAd G 29 0)), (3, .int (iI x3))] → W p l e { frames := 4, cells := 0, slots := 0, locals := 97 } s m args below meth c H locs 0 0 (MQ below (gQv G q) args s 0 0 (gA G)) (F0 m 149 ls []) := by
  intro n
  induction n with
  | zero =>
    intro x3 nx3 M hf
    cases hf
  | succ n ih =>
    intro x3 nx3 M hf H locs ls hH hS hl
    rw [f_X12_builds_L149] at hf
    refine lv_iload_n X.1 X.2.1 dX12_builds_149 rfl (lv_at hl.1 1 rfl) ?_
    refine lv_iconst X.1 X.2.1 dX12_builds_150 (v := iI 4) rfl ?_
    refine g_icmp_ge X nx3 (nmI_l (by decide)) (tgt := 184) dX12_builds_151 (by decide) (fun hc151 => ?_) (fun hc151 => ?_)
    · replace hf := it_f hf hc151
      exact hk184 M hf _ _ _ hH hS (gLv_sub hl [0] rfl)
    · replace hf := it_t hf hc151
      refine lv_aload_n X.1 X.2.1 dX12_builds_154 rfl (lv_at hl.1 0 rfl) ?_
      refine g_get X cX12 hH (r := 29) (i := 0) (by decide) rfl 31 (by decide) k_432 rfl (v := .ref (gAd G 55 0)) rfl dX12_builds_155 ?_
      refine lv_iload_n X.1 X.2.1 dX12_builds_158 rfl (lv_at hl.1 1 rfl) ?_
      refine lv_dup2_11 X.1 X.2.1 dX12_builds_159 rfl rfl ?_
      obtain ⟨hg, hf_⟩ := og_e hf; clear hf; have hf := hf_; clear hf_
      have nd160 : nmI (M 55 0 x3.toNat) := hH.1.1 _ _ _
      refine g_iald X hH (r := 55) (i := 0) (by decide) rfl nx3 hg (v := M 55 0 x3.toNat) rfl dX12_builds_160 ?_
      refine lv_aload_n X.1 X.2.1 dX12_builds_161 rfl (lv_at hl.1 0 rfl) ?_
      refine g_get X cX12 hH (r := 29) (i := 0) (by decide) rfl 30 (by decide) k_431 rfl (v := .ref (gAd G 54 0)) rfl dX12_builds_162 ?_
      refine lv_iload_n X.1 X.2.1 dX12_builds_165 rfl (lv_at hl.1 1 rfl) ?_
      obtain ⟨hg, hf_⟩ := og_e hf; clear hf; have hf := hf_; clear hf_
      have nd166 : nmI (M 54 0 x3.toNat) := hH.1.1 _ _ _
      refine g_iald X hH (r := 54) (i := 0) (by decide) rfl nx3 hg (v := M 54 0 x3.toNat) rfl dX12_builds_166 ?_
      refine lv_iconst X.1 X.2.1 dX12_builds_167 (v := iI (-1)) rfl ?_
      obtain ⟨k176, ek176, hf_⟩ := oj_e hf; clear hf; have hf := hf_; clear hf_
      have hk176 : ∀ (xs3_176 : Int) (bxs3_176 : xs3_176 = 0 ∨ xs3_176 = 1), k176 xs3_176 = some q → ∀ (H : Heap) (locs : List Loc) (ls : Array Slot), gH G M H → va_S (gA G) s.heap H locs → gLv ls 5 [(0, .ref (gAd G 29 0)), (3, .int (iI x3))] → W p l e { frames := 4, cells := 0, slots := 0, locals := 97 } s m args below meth c H locs 0 0 (MQ below (gQv G q) args s 0 0 (gA G)) (F0 m 176 ls [.int (iI xs3_176), .int (iI (M 55 0 x3.toNat)), .int (iI x3), .ref (gAd G 55 0)]) := by
        intro xs3_176 bxs3_176 hf H locs ls hH hS hl
        subst ek176
        refine g_isub X dX12_builds_176 ?_
        obtain ⟨hg, hf_⟩ := og_e hf; clear hf; have hf := hf_; clear hf_
        refine g_iast X hH hS (r := 55) (i := 0) (by decide) (fun _ => rfl) nx3 hg (nmI_w _) rfl (by decide) dX12_builds_177 (fun H locs hH hS => ?_)
        refine g_iinc X (a := x3) (lv' := [(3, .int (iI (wI (x3 + 1)))), (0, .ref (gAd G 29 0))]) dX12_builds_178 hl (k := 1) rfl (by decide) rfl (fun ls hl => ?_)
        refine lv_goto (tgt := 149) X.1 X.2.1 dX12_builds_181 (by decide) ?_
        exact ih (wI (x3 + 1)) (nmI_w _) (gU M 55 0 x3.toNat (wI ((M 55 0 x3.toNat) - xs3_176))) hf _ _ _ hH hS (gLv_sub hl [1, 0] rfl)
      clear ek176
      refine g_icmp_ne X nd166 (nmI_l (by decide)) (tgt := 175) dX12_builds_168 (by decide) (fun hc168 => ?_) (fun hc168 => ?_)
      · replace hf := it_f hf hc168
        refine lv_iconst X.1 X.2.1 dX12_builds_175 (v := iI 1) rfl ?_
        exact hk176 1 (by decide) hf _ _ _ hH hS (gLv_sub hl [0, 1] rfl)
      · replace hf := it_t hf hc168
        refine lv_iconst X.1 X.2.1 dX12_builds_171 (v := iI 0) rfl ?_
        refine lv_goto (tgt := 176) X.1 X.2.1 dX12_builds_172 (by decide) ?_
        exact hk176 0 (by decide) hf _ _ _ hH hS (gLv_sub hl [0, 1] rfl)
theorem w_X12_builds_L186 {G : gG} {p : Program} {l : Launch} {e : Env} {s : State} {m : MethodId} {args : Array Value} {below : List Frame} {meth : Method} {c : Code} (X : gX G p s m args meth c RX12 cX12_builds 5 none (gWs yX12_builds cX12_builds 5 none)) (k221 : gM → Option gM) (q : gM) (hk221 : ∀  (M : gM), k221 M = some q → ∀ (H : Heap) (locs : List Loc) (ls : Array Slot), gH G M H → va_S (gA G) s.heap H locs → gLv ls 5 [] → W p l e { frames := 4, cells := 0, slots := 0, locals := 97 } s m args below meth c H locs 0 0 (MQ below (gQv G q) args s 0 0 (gA G)) (F0 m 221 ls [])) : ∀ (n : Nat) (x3 : Int) (nx3 : nmI x3) (M : gM), f_X12_builds_L186 k221 n x3 M = some q → ∀ (H : Heap) (locs : List Loc) (ls : Array Slot), gH G M H → va_S (gA G) s.heap H locs → gLv ls 5 [(0, .ref (gAd G 29 0)), (3, .int (iI x3))] → W p l e { frames := 4, cells := 0, slots := 0, locals := 97 } s m args below meth c H locs 0 0 (MQ below (gQv G q) args s 0 0 (gA G)) (F0 m 186 ls []) := by
  intro n
  induction n with
  | zero =>
    intro x3 nx3 M hf
    cases hf
  | succ n ih =>
    intro x3 nx3 M hf H locs ls hH hS hl
    rw [f_X12_builds_L186] at hf
    refine lv_iload_n X.1 X.2.1 dX12_builds_186 rfl (lv_at hl.1 1 rfl) ?_
    refine lv_iconst X.1 X.2.1 dX12_builds_187 (v := iI 4) rfl ?_
    refine g_icmp_ge X nx3 (nmI_l (by decide)) (tgt := 221) dX12_builds_188 (by decide) (fun hc188 => ?_) (fun hc188 => ?_)
    · replace hf := it_f hf hc188
      exact hk221 M hf _ _ _ hH hS (gLv_sub hl [] rfl)
    · replace hf := it_t hf hc188
      refine lv_aload_n X.1 X.2.1 dX12_builds_191 rfl (lv_at hl.1 0 rfl) ?_
      refine g_get X cX12 hH (r := 29) (i := 0) (by decide) rfl 30 (by decide) k_431 rfl (v := .ref (gAd G 54 0)) rfl dX12_builds_192 ?_
      refine lv_iload_n X.1 X.2.1 dX12_builds_195 rfl (lv_at hl.1 1 rfl) ?_
      obtain ⟨hg, hf_⟩ := og_e hf; clear hf; have hf := hf_; clear hf_
      have nd196 : nmI (M 54 0 x3.toNat) := hH.1.1 _ _ _
      refine g_iald X hH (r := 54) (i := 0) (by decide) rfl nx3 hg (v := M 54 0 x3.toNat) rfl dX12_builds_196 ?_
      refine lv_iconst X.1 X.2.1 dX12_builds_197 (v := iI (-1)) rfl ?_
      obtain ⟨k215, ek215, hf_⟩ := oj_e hf; clear hf; have hf := hf_; clear hf_
      have hk215 : ∀  (M_215 : gM), k215 M_215 = some q → ∀ (H : Heap) (locs : List Loc) (ls : Array Slot), gH G M_215 H → va_S (gA G) s.heap H locs → gLv ls 5 [(0, .ref (gAd G 29 0)), (3, .int (iI x3))] → W p l e { frames := 4, cells := 0, slots := 0, locals := 97 } s m args below meth c H locs 0 0 (MQ below (gQv G q) args s 0 0 (gA G)) (F0 m 215 ls []) := by
        intro  M_215 hf H locs ls hH hS hl
        subst ek215
        refine g_iinc X (a := x3) (lv' := [(3, .int (iI (wI (x3 + 1)))), (0, .ref (gAd G 29 0))]) dX12_builds_215 hl (k := 1) rfl (by decide) rfl (fun ls hl => ?_)
        refine lv_goto (tgt := 186) X.1 X.2.1 dX12_builds_218 (by decide) ?_
        exact ih (wI (x3 + 1)) (nmI_w _) M_215 hf _ _ _ hH hS (gLv_sub hl [1, 0] rfl)
      clear ek215
      refine g_icmp_eq X nd196 (nmI_l (by decide)) (tgt := 215) dX12_builds_198 (by decide) (fun hc198 => ?_) (fun hc198 => ?_)
      · replace hf := it_t hf hc198
        exact hk215 M hf _ _ _ hH hS (gLv_sub hl [0, 1] rfl)
      · replace hf := it_f hf hc198
        refine lv_aload_n X.1 X.2.1 dX12_builds_201 rfl (lv_at hl.1 0 rfl) ?_
        refine g_get X cX12 hH (r := 29) (i := 0) (by decide) rfl 31 (by decide) k_432 rfl (v := .ref (gAd G 55 0)) rfl dX12_builds_202 ?_
        refine lv_iload_n X.1 X.2.1 dX12_builds_205 rfl (lv_at hl.1 1 rfl) ?_
        obtain ⟨hg, hf_⟩ := og_e hf; clear hf; have hf := hf_; clear hf_
        have nd206 : nmI (M 55 0 x3.toNat) := hH.1.1 _ _ _
        refine g_iald X hH (r := 55) (i := 0) (by decide) rfl nx3 hg (v := M 55 0 x3.toNat) rfl dX12_builds_206 ?_
        refine g_if_ne X nd206 (tgt := 215) dX12_builds_207 (by decide) (fun hc207 => ?_) (fun hc207 => ?_)
        · replace hf := it_f hf hc207
          exact hk215 M hf _ _ _ hH hS (gLv_sub hl [0, 1] rfl)
        · replace hf := it_t hf hc207
          refine lv_aload_n X.1 X.2.1 dX12_builds_210 rfl (lv_at hl.1 0 rfl) ?_
          refine lv_iload_n X.1 X.2.1 dX12_builds_211 rfl (lv_at hl.1 1 rfl) ?_
          obtain ⟨r212, hq212, hf_⟩ := ob_e hf; clear hf; have hf := hf_; clear hf_
          refine gGoV (gRunV X hH (As := [.int (iI x3)]) (m_X12_ends l G x3 nx3 M _ hq212) calX12_ends k_1020 k_1128 k_503 (by decide) cX12 rfl ⟨by decide, by decide⟩ rfl hl rfl (Nat.le_of_ble_eq_true rfl) ⟨Nat.le_refl 0, Nat.le_refl 0⟩ dX12_builds_212) hS (fun H locs hH hS => ?_)
          exact hk215 r212 hf _ _ _ hH hS (gLv_sub hl [0, 1] rfl)
theorem w_X12_builds_L80 {G : gG} {p : Program} {l : Launch} {e : Env} {s : State} {m : MethodId} {args : Array Value} {below : List Frame} {meth : Method} {c : Code} (X : gX G p s m args meth c RX12 cX12_builds 5 none (gWs yX12_builds cX12_builds 5 none)) (k131 : Int → Option gM) (M : gM) (q : gM) (hk131 : ∀ (x3 : Int) (nx3 : nmI x3), k131 x3 = some q → ∀ (H : Heap) (locs : List Loc) (ls : Array Slot), gH G M H → va_S (gA G) s.heap H locs → gLv ls 5 [(0, .ref (gAd G 29 0)), (3, .int (iI x3))] → W p l e { frames := 4, cells := 0, slots := 0, locals := 97 } s m args below meth c H locs 0 0 (MQ below (gQv G q) args s 0 0 (gA G)) (F0 m 131 ls [])) : ∀ (n : Nat) (x3 : Int) (nx3 : nmI x3) (x4 : Int) (nx4 : nmI x4), f_X12_builds_L80 k131 M n x3 x4 = some q → ∀ (H : Heap) (locs : List Loc) (ls : Array Slot), gH G M H → va_S (gA G) s.heap H locs → gLv ls 5 [(0, .ref (gAd G 29 0)), (3, .int (iI x3)), (4, .int (iI x4))] → W p l e { frames := 4, cells := 0, slots := 0, locals := 97 } s m args below meth c H locs 0 0 (MQ below (gQv G q) args s 0 0 (gA G)) (F0 m 80 ls []) := by
  intro n
  induction n with
  | zero =>
    intro x3 nx3 x4 nx4 hf
    cases hf
  | succ n ih =>
    intro x3 nx3 x4 nx4 hf H locs ls hH hS hl
    rw [f_X12_builds_L80] at hf
    refine lv_iload X.1 X.2.1 dX12_builds_80 (lv_at hl.1 2 rfl) ?_
    refine lv_iconst X.1 X.2.1 dX12_builds_82 (v := iI 4) rfl ?_
    refine g_icmp_ge X nx4 (nmI_l (by decide)) (tgt := 131) dX12_builds_83 (by decide) (fun hc83 => ?_) (fun hc83 => ?_)
    · replace hf := it_f hf hc83
      exact hk131 x3 nx3 hf _ _ _ hH hS (gLv_sub hl [0, 1] rfl)
    · replace hf := it_t hf hc83
      refine lv_aload_n X.1 X.2.1 dX12_builds_86 rfl (lv_at hl.1 0 rfl) ?_
      refine g_get X cX12 hH (r := 29) (i := 0) (by decide) rfl 30 (by decide) k_431 rfl (v := .ref (gAd G 54 0)) rfl dX12_builds_87 ?_
      refine lv_iload X.1 X.2.1 dX12_builds_90 (lv_at hl.1 2 rfl) ?_
      obtain ⟨hg, hf_⟩ := og_e hf; clear hf; have hf := hf_; clear hf_
      have nd92 : nmI (M 54 0 x4.toNat) := hH.1.1 _ _ _
      refine g_iald X hH (r := 54) (i := 0) (by decide) rfl nx4 hg (v := M 54 0 x4.toNat) rfl dX12_builds_92 ?_
      refine lv_iconst X.1 X.2.1 dX12_builds_93 (v := iI (-1)) rfl ?_
      obtain ⟨k124, ek124, hf_⟩ := oj_e hf; clear hf; have hf := hf_; clear hf_
      have hk124 : ∀ (xs0_124 : Int) (nxs0_124 : nmI xs0_124), k124 xs0_124 = some q → ∀ (H : Heap) (locs : List Loc) (ls : Array Slot), gH G M H → va_S (gA G) s.heap H locs → gLv ls 5 [(0, .ref (gAd G 29 0)), (4, .int (iI x4))] → W p l e { frames := 4, cells := 0, slots := 0, locals := 97 } s m args below meth c H locs 0 0 (MQ below (gQv G q) args s 0 0 (gA G)) (F0 m 124 ls [.int (iI xs0_124)]) := by
        intro xs0_124 nxs0_124 hf H locs ls hH hS hl
        subst ek124
        refine g_istore_n X (lv' := [(3, .int (iI xs0_124)), (0, .ref (gAd G 29 0)), (4, .int (iI x4))]) dX12_builds_124 rfl hl (by decide) rfl (fun ls hl => ?_)
        refine g_iinc X (a := x4) (lv' := [(4, .int (iI (wI (x4 + 1)))), (3, .int (iI xs0_124)), (0, .ref (gAd G 29 0))]) dX12_builds_125 hl (k := 2) rfl (by decide) rfl (fun ls hl => ?_)
        refine lv_goto (tgt := 80) X.1 X.2.1 dX12_builds_128 (by decide) ?_
        exact ih xs0_124 nxs0_124 (wI (x4 + 1)) (nmI_w _) hf _ _ _ hH hS (gLv_sub hl [2, 1, 0] rfl)
      clear ek124
      obtain ⟨k123, ek123, hf_⟩ := oj_e hf; clear hf; have hf := hf_; clear hf_
      have hk123 : k123 = some q → ∀ (H : Heap) (locs : List Loc) (ls : Array Slot), gH G M H → va_S (gA G) s.heap H locs → gLv ls 5 [(0, .ref (gAd G 29 0)), (3, .int (iI x3)), (4, .int (iI x4))] → W p l e { frames := 4, cells := 0, slots := 0, locals := 97 } s m args below meth c H locs 0 0 (MQ below (gQv G q) args s 0 0 (gA G)) (F0 m 123 ls []) := by
        intro  hf H locs ls hH hS hl
        subst ek123
        refine lv_iload_n X.1 X.2.1 dX12_builds_123 rfl (lv_at hl.1 1 rfl) ?_
        exact hk124 x3 nx3 hf _ _ _ hH hS (gLv_sub hl [0, 2] rfl)
      clear ek123
      refine g_icmp_eq X nd92 (nmI_l (by decide)) (tgt := 123) dX12_builds_94 (by decide) (fun hc94 => ?_) (fun hc94 => ?_)
      · replace hf := it_t hf hc94
        exact hk123  hf _ _ _ hH hS (gLv_sub hl [0, 1, 2] rfl)
      · replace hf := it_f hf hc94
        refine lv_iload_n X.1 X.2.1 dX12_builds_97 rfl (lv_at hl.1 1 rfl) ?_
        refine lv_iconst X.1 X.2.1 dX12_builds_98 (v := iI (-1)) rfl ?_
        obtain ⟨k118, ek118, hf_⟩ := oj_e hf; clear hf; have hf := hf_; clear hf_
        have hk118 : k118 = some q → ∀ (H : Heap) (locs : List Loc) (ls : Array Slot), gH G M H → va_S (gA G) s.heap H locs → gLv ls 5 [(0, .ref (gAd G 29 0)), (4, .int (iI x4))] → W p l e { frames := 4, cells := 0, slots := 0, locals := 97 } s m args below meth c H locs 0 0 (MQ below (gQv G q) args s 0 0 (gA G)) (F0 m 118 ls []) := by
          intro  hf H locs ls hH hS hl
          subst ek118
          refine lv_iload X.1 X.2.1 dX12_builds_118 (lv_at hl.1 1 rfl) ?_
          refine lv_goto (tgt := 124) X.1 X.2.1 dX12_builds_120 (by decide) ?_
          exact hk124 x4 nx4 hf _ _ _ hH hS (gLv_sub hl [0, 1] rfl)
        clear ek118
        refine g_icmp_eq X nx3 (nmI_l (by decide)) (tgt := 118) dX12_builds_99 (by decide) (fun hc99 => ?_) (fun hc99 => ?_)
        · replace hf := it_t hf hc99
          exact hk118  hf _ _ _ hH hS (gLv_sub hl [0, 2] rfl)
        · replace hf := it_f hf hc99
          refine lv_aload_n X.1 X.2.1 dX12_builds_102 rfl (lv_at hl.1 0 rfl) ?_
          refine g_get X cX12 hH (r := 29) (i := 0) (by decide) rfl 31 (by decide) k_432 rfl (v := .ref (gAd G 55 0)) rfl dX12_builds_103 ?_
          refine lv_iload X.1 X.2.1 dX12_builds_106 (lv_at hl.1 2 rfl) ?_
          obtain ⟨hg, hf_⟩ := og_e hf; clear hf; have hf := hf_; clear hf_
          have nd108 : nmI (M 55 0 x4.toNat) := hH.1.1 _ _ _
          refine g_iald X hH (r := 55) (i := 0) (by decide) rfl nx4 hg (v := M 55 0 x4.toNat) rfl dX12_builds_108 ?_
          refine lv_aload_n X.1 X.2.1 dX12_builds_109 rfl (lv_at hl.1 0 rfl) ?_
          refine g_get X cX12 hH (r := 29) (i := 0) (by decide) rfl 31 (by decide) k_432 rfl (v := .ref (gAd G 55 0)) rfl dX12_builds_110 ?_
          refine lv_iload_n X.1 X.2.1 dX12_builds_113 rfl (lv_at hl.1 1 rfl) ?_
          obtain ⟨hg, hf_⟩ := og_e hf; clear hf; have hf := hf_; clear hf_
          have nd114 : nmI (M 55 0 x3.toNat) := hH.1.1 _ _ _
          refine g_iald X hH (r := 55) (i := 0) (by decide) rfl nx3 hg (v := M 55 0 x3.toNat) rfl dX12_builds_114 ?_
          refine g_icmp_le X nd108 nd114 (tgt := 123) dX12_builds_115 (by decide) (fun hc115 => ?_) (fun hc115 => ?_)
          · replace hf := it_f hf hc115
            exact hk123  hf _ _ _ hH hS (gLv_sub hl [0, 1, 2] rfl)
          · replace hf := it_t hf hc115
            exact hk118  hf _ _ _ hH hS (gLv_sub hl [0, 2] rfl)
theorem m_X12_builds (l : Launch) (G : gG)  (M : gM) (q : gM) (hf : f_X12_builds M = some q) : gMet l yX12_builds cX12_builds 5 none 4 97 G M [.ref (gAd G 29 0)] (gQv G q) := by
  refine gOfW (by decide) (by show _ ≤ 5; exact Nat.le_of_ble_eq_true rfl) rfl ?_
  intro p e s m below meth c X hH ls hl
  replace hl : gLv ls 5 [(0, .ref (gAd G 29 0))] := hl
  have hS : va_S (gA G) s.heap s.heap [] := va_S.rf
  generalize hargs : ([.ref (gAd G 29 0)] : List Value).toArray = args at X ⊢
  clear hargs
  unfold f_X12_builds at hf
  refine lv_aload_n X.1 X.2.1 dX12_builds_0 rfl (lv_at hl.1 0 rfl) ?_
  obtain ⟨r1, hq1, hf_⟩ := ob_e hf; clear hf; have hf := hf_; clear hf_
  refine gGoI (gRunV X hH (As := []) (m_X12_next l G  M _ hq1) calX12_next k_1008 k_1122 k_497 (by decide) cX12 rfl ⟨by decide, by decide⟩ rfl hl rfl (Nat.le_of_ble_eq_true rfl) ⟨Nat.le_refl 0, Nat.le_refl 0⟩ dX12_builds_1) hS (fun H locs nr1 hH hS => ?_)
  refine g_istore_n X (lv' := [(1, .int (iI r1.1)), (0, .ref (gAd G 29 0))]) dX12_builds_4 rfl hl (by decide) rfl (fun ls hl => ?_)
  refine lv_aload_n X.1 X.2.1 dX12_builds_5 rfl (lv_at hl.1 1 rfl) ?_
  obtain ⟨r6, hq6, hf_⟩ := ob_e hf; clear hf; have hf := hf_; clear hf_
  refine gGoI (gRunV X hH (As := []) (m_X12_idle l G  r1.2 _ hq6) calX12_idle k_1014 k_1125 k_500 (by decide) cX12 rfl ⟨by decide, by decide⟩ rfl hl rfl (Nat.le_of_ble_eq_true rfl) ⟨Nat.le_refl 0, Nat.le_refl 0⟩ dX12_builds_6) hS (fun H locs nr6 hH hS => ?_)
  refine g_istore_n X (lv' := [(2, .int (iI r6)), (1, .int (iI r1.1)), (0, .ref (gAd G 29 0))]) dX12_builds_9 rfl hl (by decide) rfl (fun ls hl => ?_)
  refine w_X12_builds_L10 X _  q ?_ 64 r1.1 nr1 r6 nr6 r1.2 hf _ _ _ hH hS (gLv_sub hl [2, 1, 0] rfl)
  · intro  M_10_49 hf H locs ls hH hS hl
    refine lv_aload_n X.1 X.2.1 dX12_builds_49 rfl (lv_at hl.1 0 rfl) ?_
    have nd50 : nmI (M_10_49 29 0 20) := hH.1.1 _ _ _
    have bd50 := hH.1.2.1 29 0 20 rfl
    refine g_get X cX12 hH (r := 29) (i := 0) (by decide) rfl 20 (by decide) k_421 rfl (v := .int (iI (M_10_49 29 0 20))) rfl dX12_builds_50 ?_
    obtain ⟨k147, ek147, hf_⟩ := oj_e hf; clear hf; have hf := hf_; clear hf_
    have hk147 : ∀  (M_147 : gM), k147 M_147 = some q → ∀ (H : Heap) (locs : List Loc) (ls : Array Slot), gH G M_147 H → va_S (gA G) s.heap H locs → gLv ls 5 [(0, .ref (gAd G 29 0))] → W p l e { frames := 4, cells := 0, slots := 0, locals := 97 } s m args below meth c H locs 0 0 (MQ below (gQv G q) args s 0 0 (gA G)) (F0 m 147 ls []) := by
      intro  M_147 hf H locs ls hH hS hl
      subst ek147
      refine lv_iconst X.1 X.2.1 dX12_builds_147 (v := iI 0) rfl ?_
      refine g_istore_n X (lv' := [(3, .int (iI 0)), (0, .ref (gAd G 29 0))]) dX12_builds_148 rfl hl (by decide) rfl (fun ls hl => ?_)
      refine w_X12_builds_L149 X _  q ?_ 64 0 (nmI_l (by decide)) M_147 hf _ _ _ hH hS (gLv_sub hl [1, 0] rfl)
      · intro  M_149_184 hf H locs ls hH hS hl
        refine lv_iconst X.1 X.2.1 dX12_builds_184 (v := iI 0) rfl ?_
        refine g_istore_n X (lv' := [(3, .int (iI 0)), (0, .ref (gAd G 29 0))]) dX12_builds_185 rfl hl (by decide) rfl (fun ls hl => ?_)
        refine w_X12_builds_L186 X _  q ?_ 64 0 (nmI_l (by decide)) M_149_184 hf _ _ _ hH hS (gLv_sub hl [1, 0] rfl)
        · intro  M_186_221 hf H locs ls hH hS hl
          have hq := Option.some.inj hf; subst hq
          exact gRetV X hH hS dX12_builds_221
    clear ek147
    refine g_if_eq X nd50 (tgt := 147) dX12_builds_53 (by decide) (fun hc53 => ?_) (fun hc53 => ?_)
    · replace hf := it_t hf hc53
      exact hk147 M_10_49 hf _ _ _ hH hS (gLv_sub hl [0] rfl)
    · replace hf := it_f hf hc53
      refine lv_aload_n X.1 X.2.1 dX12_builds_56 rfl (lv_at hl.1 0 rfl) ?_
      refine g_get X cX12 hH (r := 29) (i := 0) (by decide) rfl 29 (by decide) k_430 rfl (v := .ref (gAd G 53 0)) rfl dX12_builds_57 ?_
      refine lv_iconst X.1 X.2.1 dX12_builds_60 (v := iI 0) rfl ?_
      obtain ⟨hg, hf_⟩ := og_e hf; clear hf; have hf := hf_; clear hf_
      have nd61 : nmI (M_10_49 53 0 0) := hH.1.1 _ _ _
      refine g_iald X hH (r := 53) (i := 0) (by decide) rfl (nmI_l (by decide)) hg (v := M_10_49 53 0 0) rfl dX12_builds_61 ?_
      refine g_if_le X nd61 (tgt := 147) dX12_builds_62 (by decide) (fun hc62 => ?_) (fun hc62 => ?_)
      · replace hf := it_f hf hc62
        exact hk147 M_10_49 hf _ _ _ hH hS (gLv_sub hl [0] rfl)
      · replace hf := it_t hf hc62
        refine lv_aload_n X.1 X.2.1 dX12_builds_65 rfl (lv_at hl.1 0 rfl) ?_
        refine g_get X cX12 hH (r := 29) (i := 0) (by decide) rfl 30 (by decide) k_431 rfl (v := .ref (gAd G 54 0)) rfl dX12_builds_66 ?_
        refine lv_iconst X.1 X.2.1 dX12_builds_69 (v := iI 0) rfl ?_
        obtain ⟨hg, hf_⟩ := og_e hf; clear hf; have hf := hf_; clear hf_
        have nd70 : nmI (M_10_49 54 0 0) := hH.1.1 _ _ _
        refine g_iald X hH (r := 54) (i := 0) (by decide) rfl (nmI_l (by decide)) hg (v := M_10_49 54 0 0) rfl dX12_builds_70 ?_
        refine lv_iconst X.1 X.2.1 dX12_builds_71 (v := iI (-1)) rfl ?_
        refine g_icmp_ne X nd70 (nmI_l (by decide)) (tgt := 147) dX12_builds_72 (by decide) (fun hc72 => ?_) (fun hc72 => ?_)
        · replace hf := it_f hf hc72
          exact hk147 M_10_49 hf _ _ _ hH hS (gLv_sub hl [0] rfl)
        · replace hf := it_t hf hc72
          refine lv_iconst X.1 X.2.1 dX12_builds_75 (v := iI (-1)) rfl ?_
          refine g_istore_n X (lv' := [(3, .int (iI ((-1)))), (0, .ref (gAd G 29 0))]) dX12_builds_76 rfl hl (by decide) rfl (fun ls hl => ?_)
          refine lv_iconst X.1 X.2.1 dX12_builds_77 (v := iI 1) rfl ?_
          refine g_istore X (lv' := [(4, .int (iI 1)), (3, .int (iI ((-1)))), (0, .ref (gAd G 29 0))]) dX12_builds_78 hl (by decide) rfl (fun ls hl => ?_)
          refine w_X12_builds_L80 X _ M_10_49 q ?_ 64 ((-1)) (nmI_l (by decide)) 1 (nmI_l (by decide)) hf _ _ _ hH hS (gLv_sub hl [2, 1, 0] rfl)
          · intro y3_80_131 ny3_80_131 hf H locs ls hH hS hl
            refine lv_iload_n X.1 X.2.1 dX12_builds_131 rfl (lv_at hl.1 1 rfl) ?_
            refine lv_iconst X.1 X.2.1 dX12_builds_132 (v := iI (-1)) rfl ?_
            refine g_icmp_eq X ny3_80_131 (nmI_l (by decide)) (tgt := 147) dX12_builds_133 (by decide) (fun hc133 => ?_) (fun hc133 => ?_)
            · replace hf := it_t hf hc133
              exact hk147 M_10_49 hf _ _ _ hH hS (gLv_sub hl [0] rfl)
            · replace hf := it_f hf hc133
              refine lv_aload_n X.1 X.2.1 dX12_builds_136 rfl (lv_at hl.1 0 rfl) ?_
              refine lv_aload_n X.1 X.2.1 dX12_builds_137 rfl (lv_at hl.1 0 rfl) ?_
              refine g_get X cX12 hH (r := 29) (i := 0) (by decide) rfl 30 (by decide) k_431 rfl (v := .ref (gAd G 54 0)) rfl dX12_builds_138 ?_
              refine lv_iload_n X.1 X.2.1 dX12_builds_141 rfl (lv_at hl.1 1 rfl) ?_
              obtain ⟨hg, hf_⟩ := og_e hf; clear hf; have hf := hf_; clear hf_
              have nd142 : nmI (M_10_49 54 0 y3_80_131.toNat) := hH.1.1 _ _ _
              refine g_iald X hH (r := 54) (i := 0) (by decide) rfl ny3_80_131 hg (v := M_10_49 54 0 y3_80_131.toNat) rfl dX12_builds_142 ?_
              refine lv_iconst X.1 X.2.1 dX12_builds_143 (v := iI 0) rfl ?_
              obtain ⟨r144, hq144, hf_⟩ := ob_e hf; clear hf; have hf := hf_; clear hf_
              refine gGoV (gRunV X hH (As := [.int (iI (M_10_49 54 0 y3_80_131.toNat)), .int (iI 0)]) (m_X12_begins l G (M_10_49 54 0 y3_80_131.toNat) nd142 0 (nmI_l (by decide)) M_10_49 _ hq144) calX12_begins k_1016 k_1126 k_501 (by decide) cX12 rfl ⟨by decide, by decide⟩ rfl hl rfl (Nat.le_of_ble_eq_true rfl) ⟨Nat.le_refl 0, Nat.le_refl 0⟩ dX12_builds_144) hS (fun H locs hH hS => ?_)
              exact hk147 r144 hf _ _ _ hH hS (gLv_sub hl [0] rfl)
theorem w_X12_pass_L18 {G : gG} {p : Program} {l : Launch} {e : Env} {s : State} {m : MethodId} {args : Array Value} {below : List Frame} {meth : Method} {c : Code} (X : gX G p s m args meth c RX12 cX12_pass 3 (some .int) (gWs yX12_pass cX12_pass 3 (some .int))) (k67 : gM → Option (Int × gM)) (z1 : Int) (nz1 : nmI z1) (q : (Int × gM)) (hk67 : ∀  (M : gM), k67 M = some q → ∀ (H : Heap) (locs : List Loc) (ls : Array Slot), gH G M H → va_S (gA G) s.heap H locs → gLv ls 3 [(0, .ref (gAd G 29 0))] → W p l e { frames := 6, cells := 0, slots := 0, locals := 146 } s m args below meth c H locs 0 0 (MQ below (gQi G q.1 q.2) args s 0 0 (gA G)) (F0 m 67 ls [])) : ∀ (n : Nat) (x2 : Int) (nx2 : nmI x2) (M : gM), f_X12_pass_L18 k67 z1 n x2 M = some q → ∀ (H : Heap) (locs : List Loc) (ls : Array Slot), gH G M H → va_S (gA G) s.heap H locs → gLv ls 3 [(0, .ref (gAd G 29 0)), (1, .int (iI z1)), (2, .int (iI x2))] → W p l e { frames := 6, cells := 0, slots := 0, locals := 146 } s m args below meth c H locs 0 0 (MQ below (gQi G q.1 q.2) args s 0 0 (gA G)) (F0 m 18 ls []) := by
  intro n
  induction n with
  | zero =>
    intro x2 nx2 M hf
    cases hf
  | succ n ih =>
    intro x2 nx2 M hf H locs ls hH hS hl
    rw [f_X12_pass_L18] at hf
    refine lv_iload_n X.1 X.2.1 dX12_pass_18 rfl (lv_at hl.1 2 rfl) ?_
    refine lv_iload_n X.1 X.2.1 dX12_pass_19 rfl (lv_at hl.1 1 rfl) ?_
    refine g_icmp_ge X nx2 nz1 (tgt := 67) dX12_pass_20 (by decide) (fun hc20 => ?_) (fun hc20 => ?_)
    · replace hf := it_f hf hc20
      exact hk67 M hf _ _ _ hH hS (gLv_sub hl [0] rfl)
    · replace hf := it_t hf hc20
      refine lv_aload_n X.1 X.2.1 dX12_pass_23 rfl (lv_at hl.1 0 rfl) ?_
      have nd24 : nmI (M 29 0 36) := hH.1.1 _ _ _
      have bd24 := hH.1.2.1 29 0 36 rfl
      refine g_get X cX12 hH (r := 29) (i := 0) (by decide) rfl 36 (by decide) k_437 rfl (v := .int (iI (M 29 0 36))) rfl dX12_pass_24 ?_
      obtain ⟨k61, ek61, hf_⟩ := oj_e hf; clear hf; have hf := hf_; clear hf_
      have hk61 : ∀  (M_61 : gM), k61 M_61 = some q → ∀ (H : Heap) (locs : List Loc) (ls : Array Slot), gH G M_61 H → va_S (gA G) s.heap H locs → gLv ls 3 [(0, .ref (gAd G 29 0)), (1, .int (iI z1)), (2, .int (iI x2))] → W p l e { frames := 6, cells := 0, slots := 0, locals := 146 } s m args below meth c H locs 0 0 (MQ below (gQi G q.1 q.2) args s 0 0 (gA G)) (F0 m 61 ls []) := by
        intro  M_61 hf H locs ls hH hS hl
        subst ek61
        refine g_iinc X (a := x2) (lv' := [(2, .int (iI (wI (x2 + 1)))), (0, .ref (gAd G 29 0)), (1, .int (iI z1))]) dX12_pass_61 hl (k := 2) rfl (by decide) rfl (fun ls hl => ?_)
        refine lv_goto (tgt := 18) X.1 X.2.1 dX12_pass_64 (by decide) ?_
        exact ih (wI (x2 + 1)) (nmI_w _) M_61 hf _ _ _ hH hS (gLv_sub hl [1, 2, 0] rfl)
      clear ek61
      refine g_if_eq X nd24 (tgt := 51) dX12_pass_27 (by decide) (fun hc27 => ?_) (fun hc27 => ?_)
      · replace hf := it_t hf hc27
        refine lv_aload_n X.1 X.2.1 dX12_pass_51 rfl (lv_at hl.1 0 rfl) ?_
        refine lv_dup X.1 X.2.1 dX12_pass_52 rfl ?_
        have nd53 : nmI (M 29 0 48) := hH.1.1 _ _ _
        refine g_get X cX12 hH (r := 29) (i := 0) (by decide) rfl 48 (by decide) k_449 rfl (v := .int (iI (M 29 0 48))) rfl dX12_pass_53 ?_
        refine lv_iconst X.1 X.2.1 dX12_pass_56 (v := iI 1) rfl ?_
        refine g_iadd X dX12_pass_57 ?_
        refine g_putI X cX12 hH hS (r := 29) (i := 0) (by decide) rfl 48 (by decide) k_449 rfl rfl rfl (Nat.le_of_ble_eq_true rfl) (x := wI ((M 29 0 48) + 1)) (nmI_w _) rfl rfl rfl dX12_pass_58 (fun H locs hH hS => ?_)
        exact hk61 (gU M 29 0 48 (wI ((M 29 0 48) + 1))) hf _ _ _ hH hS (gLv_sub hl [0, 1, 2] rfl)
      · replace hf := it_f hf hc27
        refine lv_aload_n X.1 X.2.1 dX12_pass_30 rfl (lv_at hl.1 0 rfl) ?_
        obtain ⟨r31, hq31, hf_⟩ := ob_e hf; clear hf; have hf := hf_; clear hf_
        refine gGoV (gRunV X hH (As := []) (m_X12_builds l G  M _ hq31) calX12_builds k_1006 k_1121 k_496 (by decide) cX12 rfl ⟨by decide, by decide⟩ rfl hl rfl (Nat.le_of_ble_eq_true rfl) ⟨Nat.le_refl 0, Nat.le_refl 0⟩ dX12_pass_31) hS (fun H locs hH hS => ?_)
        refine lv_aload_n X.1 X.2.1 dX12_pass_34 rfl (lv_at hl.1 0 rfl) ?_
        refine lv_dup X.1 X.2.1 dX12_pass_35 rfl ?_
        have nd36 : nmI (r31 29 0 48) := hH.1.1 _ _ _
        refine g_get X cX12 hH (r := 29) (i := 0) (by decide) rfl 48 (by decide) k_449 rfl (v := .int (iI (r31 29 0 48))) rfl dX12_pass_36 ?_
        refine lv_iconst X.1 X.2.1 dX12_pass_39 (v := iI 1) rfl ?_
        refine g_iadd X dX12_pass_40 ?_
        refine g_putI X cX12 hH hS (r := 29) (i := 0) (by decide) rfl 48 (by decide) k_449 rfl rfl rfl (Nat.le_of_ble_eq_true rfl) (x := wI ((r31 29 0 48) + 1)) (nmI_w _) rfl rfl rfl dX12_pass_41 (fun H locs hH hS => ?_)
        refine lv_aload_n X.1 X.2.1 dX12_pass_44 rfl (lv_at hl.1 0 rfl) ?_
        obtain ⟨r45, hq45, hf_⟩ := ob_e hf; clear hf; have hf := hf_; clear hf_
        refine gGoV (gRunV X hH (As := []) (m_X12_opens l G  (gU r31 29 0 48 (wI ((r31 29 0 48) + 1))) _ hq45) calX12_opens k_987 k_1113 k_487 (by decide) cX12 rfl ⟨by decide, by decide⟩ rfl hl rfl (Nat.le_of_ble_eq_true rfl) ⟨Nat.le_refl 0, Nat.le_refl 0⟩ dX12_pass_45) hS (fun H locs hH hS => ?_)
        refine lv_goto (tgt := 61) X.1 X.2.1 dX12_pass_48 (by decide) ?_
        exact hk61 r45 hf _ _ _ hH hS (gLv_sub hl [0, 1, 2] rfl)
theorem m_X12_pass (l : Launch) (G : gG) (v1 : Int) (nv1 : nmI v1) (M : gM) (q : (Int × gM)) (hf : f_X12_pass v1 M = some q) : gMet l yX12_pass cX12_pass 3 (some .int) 6 146 G M [.ref (gAd G 29 0), .int (iI v1)] (gQi G q.1 q.2) := by
  refine gOfW (by decide) (by show _ ≤ 3; exact Nat.le_of_ble_eq_true rfl) rfl ?_
  intro p e s m below meth c X hH ls hl
  replace hl : gLv ls 3 [(0, .ref (gAd G 29 0)), (1, .int (iI v1))] := hl
  have hS : va_S (gA G) s.heap s.heap [] := va_S.rf
  generalize hargs : ([.ref (gAd G 29 0), .int (iI v1)] : List Value).toArray = args at X ⊢
  clear hargs
  unfold f_X12_pass at hf
  refine lv_aload_n X.1 X.2.1 dX12_pass_0 rfl (lv_at hl.1 0 rfl) ?_
  refine lv_iload_n X.1 X.2.1 dX12_pass_1 rfl (lv_at hl.1 1 rfl) ?_
  refine lv_iconst X.1 X.2.1 dX12_pass_2 (v := iI 1) rfl ?_
  refine lv_bipush X.1 X.2.1 dX12_pass_3 (v := iI 50) (by decide) ?_
  refine gGoZ (gRunS X hH (As := [.int (iI v1), .int (iI 1), .int (iI 50)]) (m_X12_in l G v1 nv1 1 (nmI_l (by decide)) 50 (nmI_l (by decide)) M _ rfl) calX12_in k_925 k_459 ⟨by decide, by decide⟩ rfl hl rfl (Nat.le_of_ble_eq_true rfl) ⟨Nat.le_refl 0, Nat.le_refl 0⟩ dX12_pass_5) hS (fun H locs br5 hH hS => ?_)
  refine gGoZ (gRunV X hH (As := [.int (iI ((f_X12_in v1 1 50 M)))]) (m_X12_asked l G ((f_X12_in v1 1 50 M)) br5 M _ rfl) calX12_asked k_927 k_1102 k_460 (by decide) cX12 rfl ⟨by decide, by decide⟩ rfl hl rfl (Nat.le_of_ble_eq_true rfl) ⟨Nat.le_refl 0, Nat.le_refl 0⟩ dX12_pass_8) hS (fun H locs br8 hH hS => ?_)
  refine g_if_ne X (nmI_b br8) (tgt := 16) dX12_pass_11 (by decide) (fun hc11 => ?_) (fun hc11 => ?_)
  · replace hf := it_f hf hc11
    refine lv_iconst X.1 X.2.1 dX12_pass_16 (v := iI 0) rfl ?_
    refine g_istore_n X (lv' := [(2, .int (iI 0)), (0, .ref (gAd G 29 0)), (1, .int (iI v1))]) dX12_pass_17 rfl hl (by decide) rfl (fun ls hl => ?_)
    refine w_X12_pass_L18 X _ v1 nv1 q ?_ 64 0 (nmI_l (by decide)) ((f_X12_asked ((f_X12_in v1 1 50 M)) M).2) hf _ _ _ hH hS (gLv_sub hl [1, 2, 0] rfl)
    · intro  M_18_67 hf H locs ls hH hS hl
      refine lv_aload_n X.1 X.2.1 dX12_pass_67 rfl (lv_at hl.1 0 rfl) ?_
      have nd68 : nmI (M_18_67 29 0 48) := hH.1.1 _ _ _
      refine g_get X cX12 hH (r := 29) (i := 0) (by decide) rfl 48 (by decide) k_449 rfl (v := .int (iI (M_18_67 29 0 48))) rfl dX12_pass_68 ?_
      have hq := Option.some.inj hf; subst hq
      exact gRetI X hH hS (res := M_18_67 29 0 48) nd68 dX12_pass_71
  · replace hf := it_t hf hc11
    refine lv_iconst X.1 X.2.1 dX12_pass_14 (v := iI 0) rfl ?_
    have hq := Option.some.inj hf; subst hq
    exact gRetI X hH hS (res := 0) (nmI_l (by decide)) dX12_pass_15
theorem m_X12_goesOn (l : Launch) (G : gG)  (M : gM) (q : (Int × gM)) (hf : f_X12_goesOn M = q) : gMet l yX12_goesOn cX12_goesOn 1 (some .boolean) 0 0 G M [.ref (gAd G 29 0)] (gQz G q.1 q.2) := by
  refine gOfW (by decide) (by show _ ≤ 1; exact Nat.le_of_ble_eq_true rfl) rfl ?_
  intro p e s m below meth c X hH ls hl
  replace hl : gLv ls 1 [(0, .ref (gAd G 29 0))] := hl
  have hS : va_S (gA G) s.heap s.heap [] := va_S.rf
  generalize hargs : ([.ref (gAd G 29 0)] : List Value).toArray = args at X ⊢
  clear hargs
  unfold f_X12_goesOn at hf
  refine lv_aload_n X.1 X.2.1 dX12_goesOn_0 rfl (lv_at hl.1 0 rfl) ?_
  refine lv_iconst X.1 X.2.1 dX12_goesOn_1 (v := iI 0) rfl ?_
  refine g_putI X cX12 hH hS (r := 29) (i := 0) (by decide) rfl 0 (by decide) k_401 rfl rfl rfl (Nat.le_of_ble_eq_true rfl) (x := 0) (nmI_l (by decide)) rfl rfl rfl dX12_goesOn_2 (fun H locs hH hS => ?_)
  refine lv_aload_n X.1 X.2.1 dX12_goesOn_5 rfl (lv_at hl.1 0 rfl) ?_
  have nd6 : nmI ((gU M 29 0 0 0) 29 0 36) := hH.1.1 _ _ _
  have bd6 := hH.1.2.1 29 0 36 rfl
  refine g_get X cX12 hH (r := 29) (i := 0) (by decide) rfl 36 (by decide) k_437 rfl (v := .int (iI ((gU M 29 0 0 0) 29 0 36))) rfl dX12_goesOn_6 ?_
  subst hf
  exact gRetZ X hH hS (res := (gU M 29 0 0 0) 29 0 36) bd6 dX12_goesOn_9
theorem m_X12_state (l : Launch) (G : gG) (v1 : Int) (nv1 : nmI v1) (v2 : Int) (nv2 : nmI v2) (M : gM) (q : (Int × gM)) (hf : f_X12_state v1 v2 M = some q) : gMet l yX12_state cX12_state 3 (some .int) 2 43 G M [.ref (gAd G 29 0), .int (iI v1), .int (iI v2)] (gQi G q.1 q.2) := by
  refine gOfW (by decide) (by show _ ≤ 3; exact Nat.le_of_ble_eq_true rfl) rfl ?_
  intro p e s m below meth c X hH ls hl
  replace hl : gLv ls 3 [(0, .ref (gAd G 29 0)), (1, .int (iI v1)), (2, .int (iI v2))] := hl
  have hS : va_S (gA G) s.heap s.heap [] := va_S.rf
  generalize hargs : ([.ref (gAd G 29 0), .int (iI v1), .int (iI v2)] : List Value).toArray = args at X ⊢
  clear hargs
  unfold f_X12_state at hf
  refine lv_aload_n X.1 X.2.1 dX12_state_0 rfl (lv_at hl.1 0 rfl) ?_
  refine lv_aload_n X.1 X.2.1 dX12_state_1 rfl (lv_at hl.1 0 rfl) ?_
  refine lv_iload_n X.1 X.2.1 dX12_state_2 rfl (lv_at hl.1 1 rfl) ?_
  refine gGoZ (gRunV X hH (As := [.int (iI v1)]) (m_X12_isTarget l G v1 nv1 M _ rfl) calX12_isTarget k_942 k_1105 k_466 (by decide) cX12 rfl ⟨by decide, by decide⟩ rfl hl rfl (Nat.le_of_ble_eq_true rfl) ⟨Nat.le_refl 0, Nat.le_refl 0⟩ dX12_state_3) hS (fun H locs br3 hH hS => ?_)
  refine lv_aload_n X.1 X.2.1 dX12_state_6 rfl (lv_at hl.1 0 rfl) ?_
  refine lv_iload_n X.1 X.2.1 dX12_state_7 rfl (lv_at hl.1 1 rfl) ?_
  refine gGoZ (gRunV X hH (As := [.int (iI v1)]) (m_X12_isTarget l G v1 nv1 M _ rfl) calX12_isTarget k_942 k_1105 k_466 (by decide) cX12 rfl ⟨by decide, by decide⟩ rfl hl rfl (Nat.le_of_ble_eq_true rfl) ⟨Nat.le_refl 0, Nat.le_refl 0⟩ dX12_state_8) hS (fun H locs br8 hH hS => ?_)
  obtain ⟨k35, ek35, hf_⟩ := oj_e hf; clear hf; have hf := hf_; clear hf_
  have hk35 : ∀ (xs2_35 : Int) (bxs2_35 : xs2_35 = 0 ∨ xs2_35 = 1), k35 xs2_35 = some q → ∀ (H : Heap) (locs : List Loc) (ls : Array Slot), gH G M H → va_S (gA G) s.heap H locs → gLv ls 3 [(0, .ref (gAd G 29 0)), (1, .int (iI v1)), (2, .int (iI v2))] → W p l e { frames := 2, cells := 0, slots := 0, locals := 43 } s m args below meth c H locs 0 0 (MQ below (gQi G q.1 q.2) args s 0 0 (gA G)) (F0 m 35 ls [.int (iI xs2_35), .int (iI ((f_X12_isTarget v1 M))), .ref (gAd G 29 0)]) := by
    intro xs2_35 bxs2_35 hf H locs ls hH hS hl
    subst ek35
    refine gGoZ (gRunV X hH (As := [.int (iI ((f_X12_isTarget v1 M))), .int (iI xs2_35)]) (m_X12_asked_ l G ((f_X12_isTarget v1 M)) br3 xs2_35 bxs2_35 M _ rfl) calX12_asked_ k_932 k_1103 k_462 (by decide) cX12 rfl ⟨by decide, by decide⟩ rfl hl rfl (Nat.le_of_ble_eq_true rfl) ⟨Nat.le_refl 0, Nat.le_refl 0⟩ dX12_state_35) hS (fun H locs br35 hH hS => ?_)
    refine g_if_ne X (nmI_b br35) (tgt := 43) dX12_state_38 (by decide) (fun hc38 => ?_) (fun hc38 => ?_)
    · replace hf := it_f hf hc38
      refine lv_aload_n X.1 X.2.1 dX12_state_43 rfl (lv_at hl.1 0 rfl) ?_
      refine lv_iload_n X.1 X.2.1 dX12_state_44 rfl (lv_at hl.1 1 rfl) ?_
      refine gGoZ (gRunV X hH (As := [.int (iI v1)]) (m_X12_isNeeded l G v1 nv1 ((f_X12_asked_ ((f_X12_isTarget v1 M)) xs2_35 M).2) _ rfl) calX12_isNeeded k_985 k_1112 k_486 (by decide) cX12 rfl ⟨by decide, by decide⟩ rfl hl rfl (Nat.le_of_ble_eq_true rfl) ⟨Nat.le_refl 0, Nat.le_refl 0⟩ dX12_state_45) hS (fun H locs br45 hH hS => ?_)
      refine g_if_eq X (nmI_b br45) (tgt := 64) dX12_state_48 (by decide) (fun hc48 => ?_) (fun hc48 => ?_)
      · replace hf := it_t hf hc48
        refine lv_iconst X.1 X.2.1 dX12_state_64 (v := iI (-1)) rfl ?_
        have hq := Option.some.inj hf; subst hq
        exact gRetI X hH hS (res := (-1)) (nmI_l (by decide)) dX12_state_65
      · replace hf := it_f hf hc48
        refine lv_aload_n X.1 X.2.1 dX12_state_51 rfl (lv_at hl.1 0 rfl) ?_
        refine g_get X cX12 hH (r := 29) (i := 0) (by decide) rfl 38 (by decide) k_439 rfl (v := .ref (gAd G 60 0)) rfl dX12_state_52 ?_
        refine lv_iconst X.1 X.2.1 dX12_state_55 (v := iI 4) rfl ?_
        refine lv_iload_n X.1 X.2.1 dX12_state_56 rfl (lv_at hl.1 1 rfl) ?_
        refine g_imul X dX12_state_57 ?_
        refine lv_iload_n X.1 X.2.1 dX12_state_58 rfl (lv_at hl.1 2 rfl) ?_
        refine g_iadd X dX12_state_59 ?_
        obtain ⟨hg, hf_⟩ := og_e hf; clear hf; have hf := hf_; clear hf_
        have nd60 : nmI (((f_X12_asked_ ((f_X12_isTarget v1 M)) xs2_35 M).2) 60 0 (wI ((wI (4 * v1)) + v2)).toNat) := hH.1.1 _ _ _
        refine g_iald X hH (r := 60) (i := 0) (by decide) rfl (nmI_w _) hg (v := ((f_X12_asked_ ((f_X12_isTarget v1 M)) xs2_35 M).2) 60 0 (wI ((wI (4 * v1)) + v2)).toNat) rfl dX12_state_60 ?_
        refine lv_goto (tgt := 65) X.1 X.2.1 dX12_state_61 (by decide) ?_
        have hq := Option.some.inj hf; subst hq
        exact gRetI X hH hS (res := ((f_X12_asked_ ((f_X12_isTarget v1 M)) xs2_35 M).2) 60 0 (wI ((wI (4 * v1)) + v2)).toNat) nd60 dX12_state_65
    · replace hf := it_t hf hc38
      refine lv_iconst X.1 X.2.1 dX12_state_41 (v := iI 0) rfl ?_
      have hq := Option.some.inj hf; subst hq
      exact gRetI X hH hS (res := 0) (nmI_l (by decide)) dX12_state_42
  clear ek35
  obtain ⟨k34, ek34, hf_⟩ := oj_e hf; clear hf; have hf := hf_; clear hf_
  have hk34 : k34 = some q → ∀ (H : Heap) (locs : List Loc) (ls : Array Slot), gH G M H → va_S (gA G) s.heap H locs → gLv ls 3 [(0, .ref (gAd G 29 0)), (1, .int (iI v1)), (2, .int (iI v2))] → W p l e { frames := 2, cells := 0, slots := 0, locals := 43 } s m args below meth c H locs 0 0 (MQ below (gQi G q.1 q.2) args s 0 0 (gA G)) (F0 m 34 ls [.int (iI ((f_X12_isTarget v1 M))), .ref (gAd G 29 0)]) := by
    intro  hf H locs ls hH hS hl
    subst ek34
    refine lv_iconst X.1 X.2.1 dX12_state_34 (v := iI 0) rfl ?_
    exact hk35 0 (by decide) hf _ _ _ hH hS (gLv_sub hl [0, 1, 2] rfl)
  clear ek34
  refine g_if_eq X (nmI_b br8) (tgt := 34) dX12_state_11 (by decide) (fun hc11 => ?_) (fun hc11 => ?_)
  · replace hf := it_t hf hc11
    exact hk34  hf _ _ _ hH hS (gLv_sub hl [0, 1, 2] rfl)
  · replace hf := it_f hf hc11
    refine lv_iload_n X.1 X.2.1 dX12_state_14 rfl (lv_at hl.1 2 rfl) ?_
    refine lv_iconst X.1 X.2.1 dX12_state_15 (v := iI 0) rfl ?_
    refine lv_aload_n X.1 X.2.1 dX12_state_16 rfl (lv_at hl.1 0 rfl) ?_
    refine g_get X cX12 hH (r := 29) (i := 0) (by decide) rfl 11 (by decide) k_412 rfl (v := .ref (gAd G 38 0)) rfl dX12_state_17 ?_
    refine lv_iload_n X.1 X.2.1 dX12_state_20 rfl (lv_at hl.1 1 rfl) ?_
    obtain ⟨hg, hf_⟩ := og_e hf; clear hf; have hf := hf_; clear hf_
    have nd21 : nmI (M 38 0 v1.toNat) := hH.1.1 _ _ _
    refine g_iald X hH (r := 38) (i := 0) (by decide) rfl nv1 hg (v := M 38 0 v1.toNat) rfl dX12_state_21 ?_
    refine lv_iconst X.1 X.2.1 dX12_state_22 (v := iI 1) rfl ?_
    refine g_isub X dX12_state_23 ?_
    refine gGoZ (gRunS X hH (As := [.int (iI v2), .int (iI 0), .int (iI (wI ((M 38 0 v1.toNat) - 1)))]) (m_X12_in l G v2 nv2 0 (nmI_l (by decide)) (wI ((M 38 0 v1.toNat) - 1)) (nmI_w _) M _ rfl) calX12_in k_925 k_459 ⟨by decide, by decide⟩ rfl hl rfl (Nat.le_of_ble_eq_true rfl) ⟨Nat.le_refl 0, Nat.le_refl 0⟩ dX12_state_24) hS (fun H locs br24 hH hS => ?_)
    refine g_if_eq X (nmI_b br24) (tgt := 34) dX12_state_27 (by decide) (fun hc27 => ?_) (fun hc27 => ?_)
    · replace hf := it_t hf hc27
      exact hk34  hf _ _ _ hH hS (gLv_sub hl [0, 1, 2] rfl)
    · replace hf := it_f hf hc27
      refine lv_iconst X.1 X.2.1 dX12_state_30 (v := iI 1) rfl ?_
      refine lv_goto (tgt := 35) X.1 X.2.1 dX12_state_31 (by decide) ?_
      exact hk35 1 (by decide) hf _ _ _ hH hS (gLv_sub hl [0, 1, 2] rfl)
theorem m_X12_result (l : Launch) (G : gG) (v1 : Int) (nv1 : nmI v1) (v2 : Int) (nv2 : nmI v2) (M : gM) (q : (Int × gM)) (hf : f_X12_result v1 v2 M = some q) : gMet l yX12_result cX12_result 3 (some .int) 2 43 G M [.ref (gAd G 29 0), .int (iI v1), .int (iI v2)] (gQi G q.1 q.2) := by
  refine gOfW (by decide) (by show _ ≤ 3; exact Nat.le_of_ble_eq_true rfl) rfl ?_
  intro p e s m below meth c X hH ls hl
  replace hl : gLv ls 3 [(0, .ref (gAd G 29 0)), (1, .int (iI v1)), (2, .int (iI v2))] := hl
  have hS : va_S (gA G) s.heap s.heap [] := va_S.rf
  generalize hargs : ([.ref (gAd G 29 0), .int (iI v1), .int (iI v2)] : List Value).toArray = args at X ⊢
  clear hargs
  unfold f_X12_result at hf
  refine lv_aload_n X.1 X.2.1 dX12_result_0 rfl (lv_at hl.1 0 rfl) ?_
  refine lv_aload_n X.1 X.2.1 dX12_result_1 rfl (lv_at hl.1 0 rfl) ?_
  refine lv_iload_n X.1 X.2.1 dX12_result_2 rfl (lv_at hl.1 1 rfl) ?_
  refine gGoZ (gRunV X hH (As := [.int (iI v1)]) (m_X12_isTarget l G v1 nv1 M _ rfl) calX12_isTarget k_942 k_1105 k_466 (by decide) cX12 rfl ⟨by decide, by decide⟩ rfl hl rfl (Nat.le_of_ble_eq_true rfl) ⟨Nat.le_refl 0, Nat.le_refl 0⟩ dX12_result_3) hS (fun H locs br3 hH hS => ?_)
  refine lv_aload_n X.1 X.2.1 dX12_result_6 rfl (lv_at hl.1 0 rfl) ?_
  refine lv_iload_n X.1 X.2.1 dX12_result_7 rfl (lv_at hl.1 1 rfl) ?_
  refine gGoZ (gRunV X hH (As := [.int (iI v1)]) (m_X12_isTarget l G v1 nv1 M _ rfl) calX12_isTarget k_942 k_1105 k_466 (by decide) cX12 rfl ⟨by decide, by decide⟩ rfl hl rfl (Nat.le_of_ble_eq_true rfl) ⟨Nat.le_refl 0, Nat.le_refl 0⟩ dX12_result_8) hS (fun H locs br8 hH hS => ?_)
  obtain ⟨k35, ek35, hf_⟩ := oj_e hf; clear hf; have hf := hf_; clear hf_
  have hk35 : ∀ (xs2_35 : Int) (bxs2_35 : xs2_35 = 0 ∨ xs2_35 = 1), k35 xs2_35 = some q → ∀ (H : Heap) (locs : List Loc) (ls : Array Slot), gH G M H → va_S (gA G) s.heap H locs → gLv ls 3 [(0, .ref (gAd G 29 0)), (1, .int (iI v1)), (2, .int (iI v2))] → W p l e { frames := 2, cells := 0, slots := 0, locals := 43 } s m args below meth c H locs 0 0 (MQ below (gQi G q.1 q.2) args s 0 0 (gA G)) (F0 m 35 ls [.int (iI xs2_35), .int (iI ((f_X12_isTarget v1 M))), .ref (gAd G 29 0)]) := by
    intro xs2_35 bxs2_35 hf H locs ls hH hS hl
    subst ek35
    refine gGoZ (gRunV X hH (As := [.int (iI ((f_X12_isTarget v1 M))), .int (iI xs2_35)]) (m_X12_asked_ l G ((f_X12_isTarget v1 M)) br3 xs2_35 bxs2_35 M _ rfl) calX12_asked_ k_932 k_1103 k_462 (by decide) cX12 rfl ⟨by decide, by decide⟩ rfl hl rfl (Nat.le_of_ble_eq_true rfl) ⟨Nat.le_refl 0, Nat.le_refl 0⟩ dX12_result_35) hS (fun H locs br35 hH hS => ?_)
    refine g_if_ne X (nmI_b br35) (tgt := 43) dX12_result_38 (by decide) (fun hc38 => ?_) (fun hc38 => ?_)
    · replace hf := it_f hf hc38
      refine lv_aload_n X.1 X.2.1 dX12_result_43 rfl (lv_at hl.1 0 rfl) ?_
      refine lv_iload_n X.1 X.2.1 dX12_result_44 rfl (lv_at hl.1 1 rfl) ?_
      refine gGoZ (gRunV X hH (As := [.int (iI v1)]) (m_X12_isNeeded l G v1 nv1 ((f_X12_asked_ ((f_X12_isTarget v1 M)) xs2_35 M).2) _ rfl) calX12_isNeeded k_985 k_1112 k_486 (by decide) cX12 rfl ⟨by decide, by decide⟩ rfl hl rfl (Nat.le_of_ble_eq_true rfl) ⟨Nat.le_refl 0, Nat.le_refl 0⟩ dX12_result_45) hS (fun H locs br45 hH hS => ?_)
      refine g_if_eq X (nmI_b br45) (tgt := 78) dX12_result_48 (by decide) (fun hc48 => ?_) (fun hc48 => ?_)
      · replace hf := it_t hf hc48
        refine lv_iconst X.1 X.2.1 dX12_result_78 (v := iI (-1)) rfl ?_
        have hq := Option.some.inj hf; subst hq
        exact gRetI X hH hS (res := (-1)) (nmI_l (by decide)) dX12_result_79
      · replace hf := it_f hf hc48
        refine lv_aload_n X.1 X.2.1 dX12_result_51 rfl (lv_at hl.1 0 rfl) ?_
        refine g_get X cX12 hH (r := 29) (i := 0) (by decide) rfl 38 (by decide) k_439 rfl (v := .ref (gAd G 60 0)) rfl dX12_result_52 ?_
        refine lv_iconst X.1 X.2.1 dX12_result_55 (v := iI 4) rfl ?_
        refine lv_iload_n X.1 X.2.1 dX12_result_56 rfl (lv_at hl.1 1 rfl) ?_
        refine g_imul X dX12_result_57 ?_
        refine lv_iload_n X.1 X.2.1 dX12_result_58 rfl (lv_at hl.1 2 rfl) ?_
        refine g_iadd X dX12_result_59 ?_
        obtain ⟨hg, hf_⟩ := og_e hf; clear hf; have hf := hf_; clear hf_
        have nd60 : nmI (((f_X12_asked_ ((f_X12_isTarget v1 M)) xs2_35 M).2) 60 0 (wI ((wI (4 * v1)) + v2)).toNat) := hH.1.1 _ _ _
        refine g_iald X hH (r := 60) (i := 0) (by decide) rfl (nmI_w _) hg (v := ((f_X12_asked_ ((f_X12_isTarget v1 M)) xs2_35 M).2) 60 0 (wI ((wI (4 * v1)) + v2)).toNat) rfl dX12_result_60 ?_
        refine lv_iconst X.1 X.2.1 dX12_result_61 (v := iI 3) rfl ?_
        refine g_icmp_ne X nd60 (nmI_l (by decide)) (tgt := 78) dX12_result_62 (by decide) (fun hc62 => ?_) (fun hc62 => ?_)
        · replace hf := it_f hf hc62
          refine lv_iconst X.1 X.2.1 dX12_result_78 (v := iI (-1)) rfl ?_
          have hq := Option.some.inj hf; subst hq
          exact gRetI X hH hS (res := (-1)) (nmI_l (by decide)) dX12_result_79
        · replace hf := it_t hf hc62
          refine lv_aload_n X.1 X.2.1 dX12_result_65 rfl (lv_at hl.1 0 rfl) ?_
          refine g_get X cX12 hH (r := 29) (i := 0) (by decide) rfl 39 (by decide) k_440 rfl (v := .ref (gAd G 61 0)) rfl dX12_result_66 ?_
          refine lv_iconst X.1 X.2.1 dX12_result_69 (v := iI 4) rfl ?_
          refine lv_iload_n X.1 X.2.1 dX12_result_70 rfl (lv_at hl.1 1 rfl) ?_
          refine g_imul X dX12_result_71 ?_
          refine lv_iload_n X.1 X.2.1 dX12_result_72 rfl (lv_at hl.1 2 rfl) ?_
          refine g_iadd X dX12_result_73 ?_
          obtain ⟨hg, hf_⟩ := og_e hf; clear hf; have hf := hf_; clear hf_
          have nd74 : nmI (((f_X12_asked_ ((f_X12_isTarget v1 M)) xs2_35 M).2) 61 0 (wI ((wI (4 * v1)) + v2)).toNat) := hH.1.1 _ _ _
          refine g_iald X hH (r := 61) (i := 0) (by decide) rfl (nmI_w _) hg (v := ((f_X12_asked_ ((f_X12_isTarget v1 M)) xs2_35 M).2) 61 0 (wI ((wI (4 * v1)) + v2)).toNat) rfl dX12_result_74 ?_
          refine lv_goto (tgt := 79) X.1 X.2.1 dX12_result_75 (by decide) ?_
          have hq := Option.some.inj hf; subst hq
          exact gRetI X hH hS (res := ((f_X12_asked_ ((f_X12_isTarget v1 M)) xs2_35 M).2) 61 0 (wI ((wI (4 * v1)) + v2)).toNat) nd74 dX12_result_79
    · replace hf := it_t hf hc38
      refine lv_iconst X.1 X.2.1 dX12_result_41 (v := iI 0) rfl ?_
      have hq := Option.some.inj hf; subst hq
      exact gRetI X hH hS (res := 0) (nmI_l (by decide)) dX12_result_42
  clear ek35
  obtain ⟨k34, ek34, hf_⟩ := oj_e hf; clear hf; have hf := hf_; clear hf_
  have hk34 : k34 = some q → ∀ (H : Heap) (locs : List Loc) (ls : Array Slot), gH G M H → va_S (gA G) s.heap H locs → gLv ls 3 [(0, .ref (gAd G 29 0)), (1, .int (iI v1)), (2, .int (iI v2))] → W p l e { frames := 2, cells := 0, slots := 0, locals := 43 } s m args below meth c H locs 0 0 (MQ below (gQi G q.1 q.2) args s 0 0 (gA G)) (F0 m 34 ls [.int (iI ((f_X12_isTarget v1 M))), .ref (gAd G 29 0)]) := by
    intro  hf H locs ls hH hS hl
    subst ek34
    refine lv_iconst X.1 X.2.1 dX12_result_34 (v := iI 0) rfl ?_
    exact hk35 0 (by decide) hf _ _ _ hH hS (gLv_sub hl [0, 1, 2] rfl)
  clear ek34
  refine g_if_eq X (nmI_b br8) (tgt := 34) dX12_result_11 (by decide) (fun hc11 => ?_) (fun hc11 => ?_)
  · replace hf := it_t hf hc11
    exact hk34  hf _ _ _ hH hS (gLv_sub hl [0, 1, 2] rfl)
  · replace hf := it_f hf hc11
    refine lv_iload_n X.1 X.2.1 dX12_result_14 rfl (lv_at hl.1 2 rfl) ?_
    refine lv_iconst X.1 X.2.1 dX12_result_15 (v := iI 0) rfl ?_
    refine lv_aload_n X.1 X.2.1 dX12_result_16 rfl (lv_at hl.1 0 rfl) ?_
    refine g_get X cX12 hH (r := 29) (i := 0) (by decide) rfl 11 (by decide) k_412 rfl (v := .ref (gAd G 38 0)) rfl dX12_result_17 ?_
    refine lv_iload_n X.1 X.2.1 dX12_result_20 rfl (lv_at hl.1 1 rfl) ?_
    obtain ⟨hg, hf_⟩ := og_e hf; clear hf; have hf := hf_; clear hf_
    have nd21 : nmI (M 38 0 v1.toNat) := hH.1.1 _ _ _
    refine g_iald X hH (r := 38) (i := 0) (by decide) rfl nv1 hg (v := M 38 0 v1.toNat) rfl dX12_result_21 ?_
    refine lv_iconst X.1 X.2.1 dX12_result_22 (v := iI 1) rfl ?_
    refine g_isub X dX12_result_23 ?_
    refine gGoZ (gRunS X hH (As := [.int (iI v2), .int (iI 0), .int (iI (wI ((M 38 0 v1.toNat) - 1)))]) (m_X12_in l G v2 nv2 0 (nmI_l (by decide)) (wI ((M 38 0 v1.toNat) - 1)) (nmI_w _) M _ rfl) calX12_in k_925 k_459 ⟨by decide, by decide⟩ rfl hl rfl (Nat.le_of_ble_eq_true rfl) ⟨Nat.le_refl 0, Nat.le_refl 0⟩ dX12_result_24) hS (fun H locs br24 hH hS => ?_)
    refine g_if_eq X (nmI_b br24) (tgt := 34) dX12_result_27 (by decide) (fun hc27 => ?_) (fun hc27 => ?_)
    · replace hf := it_t hf hc27
      exact hk34  hf _ _ _ hH hS (gLv_sub hl [0, 1, 2] rfl)
    · replace hf := it_f hf hc27
      refine lv_iconst X.1 X.2.1 dX12_result_30 (v := iI 1) rfl ?_
      refine lv_goto (tgt := 35) X.1 X.2.1 dX12_result_31 (by decide) ?_
      exact hk35 1 (by decide) hf _ _ _ hH hS (gLv_sub hl [0, 1, 2] rfl)
theorem w_X12_freshen_L47 {G : gG} {p : Program} {l : Launch} {e : Env} {s : State} {m : MethodId} {args : Array Value} {below : List Frame} {meth : Method} {c : Code} (X : gX G p s m args meth c RX12 cX12_freshen 6 none (gWs yX12_freshen cX12_freshen 6 none)) (k139 : Int → gM → Option gM) (z1 : Int) (nz1 : nmI z1) (z2 : Int) (nz2 : nmI z2) (q : gM) (hk139 : ∀ (x3 : Int) (nx3 : nmI x3) (M : gM), k139 x3 M = some q → ∀ (H : Heap) (locs : List Loc) (ls : Array Slot), gH G M H → va_S (gA G) s.heap H locs → gLv ls 6 [(0, .ref (gAd G 29 0)), (1, .int (iI z1)), (2, .int (iI z2)), (3, .int (iI x3))] → W p l e { frames := 2, cells := 0, slots := 0, locals := 44 } s m args below meth c H locs 0 0 (MQ below (gQv G q) args s 0 0 (gA G)) (F0 m 139 ls [])) : ∀ (n : Nat) (x3 : Int) (nx3 : nmI x3) (x4 : Int) (nx4 : nmI x4) (M : gM), f_X12_freshen_L47 k139 z1 z2 n x3 x4 M = some q → ∀ (H : Heap) (locs : List Loc) (ls : Array Slot), gH G M H → va_S (gA G) s.heap H locs → gLv ls 6 [(0, .ref (gAd G 29 0)), (1, .int (iI z1)), (2, .int (iI z2)), (3, .int (iI x3)), (4, .int (iI x4))] → W p l e { frames := 2, cells := 0, slots := 0, locals := 44 } s m args below meth c H locs 0 0 (MQ below (gQv G q) args s 0 0 (gA G)) (F0 m 47 ls []) := by
  intro n
  induction n with
  | zero =>
    intro x3 nx3 x4 nx4 M hf
    cases hf
  | succ n ih =>
    intro x3 nx3 x4 nx4 M hf H locs ls hH hS hl
    rw [f_X12_freshen_L47] at hf
    refine lv_iload X.1 X.2.1 dX12_freshen_47 (lv_at hl.1 4 rfl) ?_
    refine lv_aload_n X.1 X.2.1 dX12_freshen_49 rfl (lv_at hl.1 0 rfl) ?_
    refine g_get X cX12 hH (r := 29) (i := 0) (by decide) rfl 14 (by decide) k_415 rfl (v := .ref (gAd G 41 0)) rfl dX12_freshen_50 ?_
    refine lv_iload_n X.1 X.2.1 dX12_freshen_53 rfl (lv_at hl.1 1 rfl) ?_
    obtain ⟨hg, hf_⟩ := og_e hf; clear hf; have hf := hf_; clear hf_
    have nd54 : nmI (M 41 0 z1.toNat) := hH.1.1 _ _ _
    refine g_iald X hH (r := 41) (i := 0) (by decide) rfl nz1 hg (v := M 41 0 z1.toNat) rfl dX12_freshen_54 ?_
    refine g_icmp_ge X nx4 nd54 (tgt := 139) dX12_freshen_55 (by decide) (fun hc55 => ?_) (fun hc55 => ?_)
    · replace hf := it_f hf hc55
      exact hk139 x3 nx3 M hf _ _ _ hH hS (gLv_sub hl [0, 1, 2, 3] rfl)
    · replace hf := it_t hf hc55
      refine lv_aload_n X.1 X.2.1 dX12_freshen_58 rfl (lv_at hl.1 0 rfl) ?_
      refine lv_iload_n X.1 X.2.1 dX12_freshen_59 rfl (lv_at hl.1 1 rfl) ?_
      refine lv_iload X.1 X.2.1 dX12_freshen_60 (lv_at hl.1 4 rfl) ?_
      obtain ⟨r62, hq62, hf_⟩ := ob_e hf; clear hf; have hf := hf_; clear hf_
      refine gGoI (gRunV X hH (As := [.int (iI z1), .int (iI x4)]) (m_X12_inputOf l G z1 nz1 x4 nx4 M _ hq62) calX12_inputOf k_983 k_1111 k_485 (by decide) cX12 rfl ⟨by decide, by decide⟩ rfl hl rfl (Nat.le_of_ble_eq_true rfl) ⟨Nat.le_refl 0, Nat.le_refl 0⟩ dX12_freshen_62) hS (fun H locs nr62 hH hS => ?_)
      refine g_istore X (lv' := [(5, .int (iI r62)), (0, .ref (gAd G 29 0)), (1, .int (iI z1)), (2, .int (iI z2)), (3, .int (iI x3)), (4, .int (iI x4))]) dX12_freshen_65 hl (by decide) rfl (fun ls hl => ?_)
      refine lv_iload_n X.1 X.2.1 dX12_freshen_67 rfl (lv_at hl.1 4 rfl) ?_
      refine lv_iload X.1 X.2.1 dX12_freshen_68 (lv_at hl.1 0 rfl) ?_
      refine lv_bipush X.1 X.2.1 dX12_freshen_70 (v := iI 16) (by decide) ?_
      obtain ⟨k95, ek95, hf_⟩ := oj_e hf; clear hf; have hf := hf_; clear hf_
      have hk95 : ∀ (xs1_95 : Int) (nxs1_95 : nmI xs1_95), k95 xs1_95 = some q → ∀ (H : Heap) (locs : List Loc) (ls : Array Slot), gH G M H → va_S (gA G) s.heap H locs → gLv ls 6 [(0, .ref (gAd G 29 0)), (1, .int (iI z1)), (2, .int (iI z2)), (4, .int (iI x4)), (5, .int (iI r62))] → W p l e { frames := 2, cells := 0, slots := 0, locals := 44 } s m args below meth c H locs 0 0 (MQ below (gQv G q) args s 0 0 (gA G)) (F0 m 95 ls [.int (iI xs1_95), .int (iI x3)]) := by
        intro xs1_95 nxs1_95 hf H locs ls hH hS hl
        subst ek95
        refine gGoI (gRunS X hH (As := [.int (iI x3), .int (iI xs1_95)]) (m_X12_put l G x3 nx3 xs1_95 nxs1_95 M _ rfl) calX12_put k_962 k_475 ⟨by decide, by decide⟩ rfl hl rfl (Nat.le_of_ble_eq_true rfl) ⟨Nat.le_refl 0, Nat.le_refl 0⟩ dX12_freshen_95) hS (fun H locs nr95 hH hS => ?_)
        refine g_istore_n X (lv' := [(3, .int (iI ((f_X12_put x3 xs1_95 M)))), (0, .ref (gAd G 29 0)), (1, .int (iI z1)), (2, .int (iI z2)), (4, .int (iI x4)), (5, .int (iI r62))]) dX12_freshen_98 rfl hl (by decide) rfl (fun ls hl => ?_)
        refine lv_aload_n X.1 X.2.1 dX12_freshen_99 rfl (lv_at hl.1 1 rfl) ?_
        refine g_get X cX12 hH (r := 29) (i := 0) (by decide) rfl 53 (by decide) k_454 rfl (v := .ref (gAd G 72 0)) rfl dX12_freshen_100 ?_
        refine lv_iload_n X.1 X.2.1 dX12_freshen_103 rfl (lv_at hl.1 2 rfl) ?_
        refine lv_dup2_11 X.1 X.2.1 dX12_freshen_104 rfl rfl ?_
        obtain ⟨hg, hf_⟩ := og_e hf; clear hf; have hf := hf_; clear hf_
        have nd105 : nmI (M 72 0 z1.toNat) := hH.1.1 _ _ _
        have bd105 := hH.1.2.1 72 0 z1.toNat rfl
        refine g_zald X hH (r := 72) (i := 0) (by decide) rfl nz1 hg (v := M 72 0 z1.toNat) rfl dX12_freshen_105 ?_
        refine lv_iload X.1 X.2.1 dX12_freshen_106 (lv_at hl.1 5 rfl) ?_
        refine lv_bipush X.1 X.2.1 dX12_freshen_108 (v := iI 16) (by decide) ?_
        obtain ⟨k131, ek131, hf_⟩ := oj_e hf; clear hf; have hf := hf_; clear hf_
        have hk131 : ∀ (xs3_131 : Int) (bxs3_131 : xs3_131 = 0 ∨ xs3_131 = 1), k131 xs3_131 = some q → ∀ (H : Heap) (locs : List Loc) (ls : Array Slot), gH G M H → va_S (gA G) s.heap H locs → gLv ls 6 [(0, .ref (gAd G 29 0)), (1, .int (iI z1)), (2, .int (iI z2)), (3, .int (iI ((f_X12_put x3 xs1_95 M)))), (4, .int (iI x4))] → W p l e { frames := 2, cells := 0, slots := 0, locals := 44 } s m args below meth c H locs 0 0 (MQ below (gQv G q) args s 0 0 (gA G)) (F0 m 131 ls [.int (iI xs3_131), .int (iI (M 72 0 z1.toNat)), .int (iI z1), .ref (gAd G 72 0)]) := by
          intro xs3_131 bxs3_131 hf H locs ls hH hS hl
          subst ek131
          refine g_iand X dX12_freshen_131 ?_
          obtain ⟨hg, hf_⟩ := og_e hf; clear hf; have hf := hf_; clear hf_
          refine g_zast X hH hS (r := 72) (i := 0) (by decide) (fun _ => rfl) nz1 hg (b01_and bd105 bxs3_131) dX12_freshen_132 (fun H locs hH hS => ?_)
          refine g_iinc X (a := x4) (lv' := [(4, .int (iI (wI (x4 + 1)))), (0, .ref (gAd G 29 0)), (1, .int (iI z1)), (2, .int (iI z2)), (3, .int (iI ((f_X12_put x3 xs1_95 M))))]) dX12_freshen_133 hl (k := 4) rfl (by decide) rfl (fun ls hl => ?_)
          refine lv_goto (tgt := 47) X.1 X.2.1 dX12_freshen_136 (by decide) ?_
          exact ih ((f_X12_put x3 xs1_95 M)) nr95 (wI (x4 + 1)) (nmI_w _) (gU M 72 0 z1.toNat (gAnd (M 72 0 z1.toNat) xs3_131)) hf _ _ _ hH hS (gLv_sub hl [1, 2, 3, 4, 0] rfl)
        clear ek131
        obtain ⟨k126, ek126, hf_⟩ := oj_e hf; clear hf; have hf := hf_; clear hf_
        have hk126 : k126 = some q → ∀ (H : Heap) (locs : List Loc) (ls : Array Slot), gH G M H → va_S (gA G) s.heap H locs → gLv ls 6 [(0, .ref (gAd G 29 0)), (1, .int (iI z1)), (2, .int (iI z2)), (3, .int (iI ((f_X12_put x3 xs1_95 M)))), (4, .int (iI x4))] → W p l e { frames := 2, cells := 0, slots := 0, locals := 44 } s m args below meth c H locs 0 0 (MQ below (gQv G q) args s 0 0 (gA G)) (F0 m 126 ls [.int (iI (M 72 0 z1.toNat)), .int (iI z1), .ref (gAd G 72 0)]) := by
          intro  hf H locs ls hH hS hl
          subst ek126
          refine lv_iconst X.1 X.2.1 dX12_freshen_126 (v := iI 1) rfl ?_
          refine lv_goto (tgt := 131) X.1 X.2.1 dX12_freshen_127 (by decide) ?_
          exact hk131 1 (by decide) hf _ _ _ hH hS (gLv_sub hl [0, 1, 2, 3, 4] rfl)
        clear ek126
        refine g_icmp_lt X nr62 (nmI_l (by decide)) (tgt := 126) dX12_freshen_110 (by decide) (fun hc110 => ?_) (fun hc110 => ?_)
        · replace hf := it_t hf hc110
          exact hk126  hf _ _ _ hH hS (gLv_sub hl [1, 2, 3, 0, 4] rfl)
        · replace hf := it_f hf hc110
          refine lv_aload_n X.1 X.2.1 dX12_freshen_113 rfl (lv_at hl.1 1 rfl) ?_
          refine g_get X cX12 hH (r := 29) (i := 0) (by decide) rfl 53 (by decide) k_454 rfl (v := .ref (gAd G 72 0)) rfl dX12_freshen_114 ?_
          refine lv_iload X.1 X.2.1 dX12_freshen_117 (lv_at hl.1 5 rfl) ?_
          refine lv_bipush X.1 X.2.1 dX12_freshen_119 (v := iI 16) (by decide) ?_
          refine g_isub X dX12_freshen_121 ?_
          obtain ⟨hg, hf_⟩ := og_e hf; clear hf; have hf := hf_; clear hf_
          have nd122 : nmI (M 72 0 (wI (r62 - 16)).toNat) := hH.1.1 _ _ _
          have bd122 := hH.1.2.1 72 0 ((wI (r62 - 16)).toNat) rfl
          refine g_zald X hH (r := 72) (i := 0) (by decide) rfl (nmI_w _) hg (v := M 72 0 (wI (r62 - 16)).toNat) rfl dX12_freshen_122 ?_
          refine g_if_eq X nd122 (tgt := 130) dX12_freshen_123 (by decide) (fun hc123 => ?_) (fun hc123 => ?_)
          · replace hf := it_t hf hc123
            refine lv_iconst X.1 X.2.1 dX12_freshen_130 (v := iI 0) rfl ?_
            exact hk131 0 (by decide) hf _ _ _ hH hS (gLv_sub hl [1, 2, 3, 0, 4] rfl)
          · replace hf := it_f hf hc123
            exact hk126  hf _ _ _ hH hS (gLv_sub hl [1, 2, 3, 0, 4] rfl)
      clear ek95
      refine g_icmp_ge X nr62 (nmI_l (by decide)) (tgt := 85) dX12_freshen_72 (by decide) (fun hc72 => ?_) (fun hc72 => ?_)
      · replace hf := it_f hf hc72
        refine lv_aload_n X.1 X.2.1 dX12_freshen_85 rfl (lv_at hl.1 1 rfl) ?_
        refine g_get X cX12 hH (r := 29) (i := 0) (by decide) rfl 52 (by decide) k_453 rfl (v := .ref (gAd G 71 0)) rfl dX12_freshen_86 ?_
        refine lv_iload X.1 X.2.1 dX12_freshen_89 (lv_at hl.1 0 rfl) ?_
        refine lv_bipush X.1 X.2.1 dX12_freshen_91 (v := iI 16) (by decide) ?_
        refine g_isub X dX12_freshen_93 ?_
        obtain ⟨hg, hf_⟩ := og_e hf; clear hf; have hf := hf_; clear hf_
        have nd94 : nmI (M 71 0 (wI (r62 - 16)).toNat) := hH.1.1 _ _ _
        refine g_iald X hH (r := 71) (i := 0) (by decide) rfl (nmI_w _) hg (v := M 71 0 (wI (r62 - 16)).toNat) rfl dX12_freshen_94 ?_
        exact hk95 (M 71 0 (wI (r62 - 16)).toNat) nd94 hf _ _ _ hH hS (gLv_sub hl [1, 2, 3, 5, 0] rfl)
      · replace hf := it_t hf hc72
        refine lv_aload_n X.1 X.2.1 dX12_freshen_75 rfl (lv_at hl.1 1 rfl) ?_
        refine g_get X cX12 hH (r := 29) (i := 0) (by decide) rfl 50 (by decide) k_451 rfl (v := .ref (gAd G 69 0)) rfl dX12_freshen_76 ?_
        refine lv_iload X.1 X.2.1 dX12_freshen_79 (lv_at hl.1 0 rfl) ?_
        obtain ⟨hg, hf_⟩ := og_e hf; clear hf; have hf := hf_; clear hf_
        have nd81 : nmI (M 69 0 r62.toNat) := hH.1.1 _ _ _
        refine g_iald X hH (r := 69) (i := 0) (by decide) rfl nr62 hg (v := M 69 0 r62.toNat) rfl dX12_freshen_81 ?_
        refine lv_goto (tgt := 95) X.1 X.2.1 dX12_freshen_82 (by decide) ?_
        exact hk95 (M 69 0 r62.toNat) nd81 hf _ _ _ hH hS (gLv_sub hl [1, 2, 3, 5, 0] rfl)
theorem w_X12_freshen_L27 {G : gG} {p : Program} {l : Launch} {e : Env} {s : State} {m : MethodId} {args : Array Value} {below : List Frame} {meth : Method} {c : Code} (X : gX G p s m args meth c RX12 cX12_freshen 6 none (gWs yX12_freshen cX12_freshen 6 none)) (k257 : gM → Option gM) (z1 : Int) (nz1 : nmI z1) (q : gM) (hk257 : ∀  (M : gM), k257 M = some q → ∀ (H : Heap) (locs : List Loc) (ls : Array Slot), gH G M H → va_S (gA G) s.heap H locs → gLv ls 6 [(0, .ref (gAd G 29 0)), (1, .int (iI z1))] → W p l e { frames := 2, cells := 0, slots := 0, locals := 44 } s m args below meth c H locs 0 0 (MQ below (gQv G q) args s 0 0 (gA G)) (F0 m 257 ls [])) : ∀ (n : Nat) (x2 : Int) (nx2 : nmI x2) (M : gM), f_X12_freshen_L27 k257 z1 n x2 M = some q → ∀ (H : Heap) (locs : List Loc) (ls : Array Slot), gH G M H → va_S (gA G) s.heap H locs → gLv ls 6 [(0, .ref (gAd G 29 0)), (1, .int (iI z1)), (2, .int (iI x2))] → W p l e { frames := 2, cells := 0, slots := 0, locals := 44 } s m args below meth c H locs 0 0 (MQ below (gQv G q) args s 0 0 (gA G)) (F0 m 27 ls []) := by
  intro n
  induction n with
  | zero =>
    intro x2 nx2 M hf
    cases hf
  | succ n ih =>
    intro x2 nx2 M hf H locs ls hH hS hl
    rw [f_X12_freshen_L27] at hf
    refine lv_iload_n X.1 X.2.1 dX12_freshen_27 rfl (lv_at hl.1 2 rfl) ?_
    refine lv_aload_n X.1 X.2.1 dX12_freshen_28 rfl (lv_at hl.1 0 rfl) ?_
    refine g_get X cX12 hH (r := 29) (i := 0) (by decide) rfl 11 (by decide) k_412 rfl (v := .ref (gAd G 38 0)) rfl dX12_freshen_29 ?_
    refine lv_iload_n X.1 X.2.1 dX12_freshen_32 rfl (lv_at hl.1 1 rfl) ?_
    obtain ⟨hg, hf_⟩ := og_e hf; clear hf; have hf := hf_; clear hf_
    have nd33 : nmI (M 38 0 z1.toNat) := hH.1.1 _ _ _
    refine g_iald X hH (r := 38) (i := 0) (by decide) rfl nz1 hg (v := M 38 0 z1.toNat) rfl dX12_freshen_33 ?_
    refine g_icmp_ge X nx2 nd33 (tgt := 257) dX12_freshen_34 (by decide) (fun hc34 => ?_) (fun hc34 => ?_)
    · replace hf := it_f hf hc34
      exact hk257 M hf _ _ _ hH hS (gLv_sub hl [0, 1] rfl)
    · replace hf := it_t hf hc34
      refine lv_aload_n X.1 X.2.1 dX12_freshen_37 rfl (lv_at hl.1 0 rfl) ?_
      refine lv_iload_n X.1 X.2.1 dX12_freshen_38 rfl (lv_at hl.1 1 rfl) ?_
      refine lv_iload_n X.1 X.2.1 dX12_freshen_39 rfl (lv_at hl.1 2 rfl) ?_
      obtain ⟨r40, hq40, hf_⟩ := ob_e hf; clear hf; have hf := hf_; clear hf_
      refine gGoI (gRunV X hH (As := [.int (iI z1), .int (iI x2)]) (m_X12_keyBegin l G z1 nz1 x2 nx2 M _ hq40) calX12_keyBegin k_995 k_1117 k_491 (by decide) cX12 rfl ⟨by decide, by decide⟩ rfl hl rfl (Nat.le_of_ble_eq_true rfl) ⟨Nat.le_refl 0, Nat.le_refl 0⟩ dX12_freshen_40) hS (fun H locs nr40 hH hS => ?_)
      refine g_istore_n X (lv' := [(3, .int (iI r40)), (0, .ref (gAd G 29 0)), (1, .int (iI z1)), (2, .int (iI x2))]) dX12_freshen_43 rfl hl (by decide) rfl (fun ls hl => ?_)
      refine lv_iconst X.1 X.2.1 dX12_freshen_44 (v := iI 0) rfl ?_
      refine g_istore X (lv' := [(4, .int (iI 0)), (3, .int (iI r40)), (0, .ref (gAd G 29 0)), (1, .int (iI z1)), (2, .int (iI x2))]) dX12_freshen_45 hl (by decide) rfl (fun ls hl => ?_)
      refine w_X12_freshen_L47 X _ z1 nz1 x2 nx2 q ?_ 64 r40 nr40 0 (nmI_l (by decide)) M hf _ _ _ hH hS (gLv_sub hl [2, 3, 4, 1, 0] rfl)
      · intro y3_47_139 ny3_47_139 M_47_139 hf H locs ls hH hS hl
        refine lv_aload_n X.1 X.2.1 dX12_freshen_139 rfl (lv_at hl.1 0 rfl) ?_
        refine lv_iload_n X.1 X.2.1 dX12_freshen_140 rfl (lv_at hl.1 1 rfl) ?_
        refine lv_iload_n X.1 X.2.1 dX12_freshen_141 rfl (lv_at hl.1 3 rfl) ?_
        obtain ⟨r142, hq142, hf_⟩ := ob_e hf; clear hf; have hf := hf_; clear hf_
        refine gGoI (gRunV X hH (As := [.int (iI z1), .int (iI y3_47_139)]) (m_X12_foundBy l G z1 nz1 y3_47_139 ny3_47_139 M_47_139 _ hq142) calX12_foundBy k_999 k_1119 k_493 (by decide) cX12 rfl ⟨by decide, by decide⟩ rfl hl rfl (Nat.le_of_ble_eq_true rfl) ⟨Nat.le_refl 0, Nat.le_refl 0⟩ dX12_freshen_142) hS (fun H locs nr142 hH hS => ?_)
        refine g_istore X (lv' := [(4, .int (iI r142)), (0, .ref (gAd G 29 0)), (1, .int (iI z1)), (2, .int (iI x2)), (3, .int (iI y3_47_139))]) dX12_freshen_145 hl (by decide) rfl (fun ls hl => ?_)
        refine lv_aload_n X.1 X.2.1 dX12_freshen_147 rfl (lv_at hl.1 1 rfl) ?_
        refine g_get X cX12 hH (r := 29) (i := 0) (by decide) rfl 51 (by decide) k_452 rfl (v := .ref (gAd G 70 0)) rfl dX12_freshen_148 ?_
        refine lv_iconst X.1 X.2.1 dX12_freshen_151 (v := iI 4) rfl ?_
        refine lv_iload_n X.1 X.2.1 dX12_freshen_152 rfl (lv_at hl.1 2 rfl) ?_
        refine g_imul X dX12_freshen_153 ?_
        refine lv_iload_n X.1 X.2.1 dX12_freshen_154 rfl (lv_at hl.1 3 rfl) ?_
        refine g_iadd X dX12_freshen_155 ?_
        refine lv_iload X.1 X.2.1 dX12_freshen_156 (lv_at hl.1 0 rfl) ?_
        refine lv_iconst X.1 X.2.1 dX12_freshen_158 (v := iI (-1)) rfl ?_
        obtain ⟨k177, ek177, hf_⟩ := oj_e hf; clear hf; have hf := hf_; clear hf_
        have hk177 : ∀ (xs2_177 : Int) (nxs2_177 : nmI xs2_177), k177 xs2_177 = some q → ∀ (H : Heap) (locs : List Loc) (ls : Array Slot), gH G M_47_139 H → va_S (gA G) s.heap H locs → gLv ls 6 [(0, .ref (gAd G 29 0)), (1, .int (iI z1)), (2, .int (iI x2)), (3, .int (iI y3_47_139))] → W p l e { frames := 2, cells := 0, slots := 0, locals := 44 } s m args below meth c H locs 0 0 (MQ below (gQv G q) args s 0 0 (gA G)) (F0 m 177 ls [.int (iI xs2_177), .int (iI (wI ((wI (4 * z1)) + x2))), .ref (gAd G 70 0)]) := by
          intro xs2_177 nxs2_177 hf H locs ls hH hS hl
          subst ek177
          obtain ⟨hg, hf_⟩ := og_e hf; clear hf; have hf := hf_; clear hf_
          refine g_iast X hH hS (r := 70) (i := 0) (by decide) (fun _ => rfl) (nmI_w _) hg nxs2_177 rfl (by decide) dX12_freshen_177 (fun H locs hH hS => ?_)
          refine lv_aload_n X.1 X.2.1 dX12_freshen_178 rfl (lv_at hl.1 0 rfl) ?_
          refine g_get X cX12 hH (r := 29) (i := 0) (by decide) rfl 53 (by decide) k_454 rfl (v := .ref (gAd G 72 0)) rfl dX12_freshen_179 ?_
          refine lv_iload_n X.1 X.2.1 dX12_freshen_182 rfl (lv_at hl.1 1 rfl) ?_
          refine lv_dup2_11 X.1 X.2.1 dX12_freshen_183 rfl rfl ?_
          obtain ⟨hg, hf_⟩ := og_e hf; clear hf; have hf := hf_; clear hf_
          have nd184 : nmI ((gU M_47_139 70 0 (wI ((wI (4 * z1)) + x2)).toNat xs2_177) 72 0 z1.toNat) := hH.1.1 _ _ _
          have bd184 := hH.1.2.1 72 0 z1.toNat rfl
          refine g_zald X hH (r := 72) (i := 0) (by decide) rfl nz1 hg (v := (gU M_47_139 70 0 (wI ((wI (4 * z1)) + x2)).toNat xs2_177) 72 0 z1.toNat) rfl dX12_freshen_184 ?_
          refine lv_aload_n X.1 X.2.1 dX12_freshen_185 rfl (lv_at hl.1 0 rfl) ?_
          refine lv_iload_n X.1 X.2.1 dX12_freshen_186 rfl (lv_at hl.1 1 rfl) ?_
          refine lv_iload_n X.1 X.2.1 dX12_freshen_187 rfl (lv_at hl.1 3 rfl) ?_
          obtain ⟨r188, hq188, hf_⟩ := ob_e hf; clear hf; have hf := hf_; clear hf_
          refine gGoZ (gRunV X hH (As := [.int (iI z1), .int (iI y3_47_139)]) (m_X12_breaks l G z1 nz1 y3_47_139 ny3_47_139 (gU M_47_139 70 0 (wI ((wI (4 * z1)) + x2)).toNat xs2_177) _ hq188) calX12_breaks k_1001 k_1120 k_494 (by decide) cX12 rfl ⟨by decide, by decide⟩ rfl hl rfl (Nat.le_of_ble_eq_true rfl) ⟨Nat.le_refl 0, Nat.le_refl 0⟩ dX12_freshen_188) hS (fun H locs br188 hH hS => ?_)
          obtain ⟨k224, ek224, hf_⟩ := oj_e hf; clear hf; have hf := hf_; clear hf_
          have hk224 : ∀ (xs3_224 : Int) (bxs3_224 : xs3_224 = 0 ∨ xs3_224 = 1), k224 xs3_224 = some q → ∀ (H : Heap) (locs : List Loc) (ls : Array Slot), gH G (gU M_47_139 70 0 (wI ((wI (4 * z1)) + x2)).toNat xs2_177) H → va_S (gA G) s.heap H locs → gLv ls 6 [(0, .ref (gAd G 29 0)), (1, .int (iI z1)), (2, .int (iI x2))] → W p l e { frames := 2, cells := 0, slots := 0, locals := 44 } s m args below meth c H locs 0 0 (MQ below (gQv G q) args s 0 0 (gA G)) (F0 m 224 ls [.int (iI xs3_224), .int (iI ((gU M_47_139 70 0 (wI ((wI (4 * z1)) + x2)).toNat xs2_177) 72 0 z1.toNat)), .int (iI z1), .ref (gAd G 72 0)]) := by
            intro xs3_224 bxs3_224 hf H locs ls hH hS hl
            subst ek224
            refine g_iand X dX12_freshen_224 ?_
            obtain ⟨hg, hf_⟩ := og_e hf; clear hf; have hf := hf_; clear hf_
            refine g_zast X hH hS (r := 72) (i := 0) (by decide) (fun _ => rfl) nz1 hg (b01_and bd184 bxs3_224) dX12_freshen_225 (fun H locs hH hS => ?_)
            refine lv_aload_n X.1 X.2.1 dX12_freshen_226 rfl (lv_at hl.1 0 rfl) ?_
            refine g_get X cX12 hH (r := 29) (i := 0) (by decide) rfl 52 (by decide) k_453 rfl (v := .ref (gAd G 71 0)) rfl dX12_freshen_227 ?_
            refine lv_iload_n X.1 X.2.1 dX12_freshen_230 rfl (lv_at hl.1 1 rfl) ?_
            refine lv_aload_n X.1 X.2.1 dX12_freshen_231 rfl (lv_at hl.1 0 rfl) ?_
            refine g_get X cX12 hH (r := 29) (i := 0) (by decide) rfl 52 (by decide) k_453 rfl (v := .ref (gAd G 71 0)) rfl dX12_freshen_232 ?_
            refine lv_iload_n X.1 X.2.1 dX12_freshen_235 rfl (lv_at hl.1 1 rfl) ?_
            obtain ⟨hg, hf_⟩ := og_e hf; clear hf; have hf := hf_; clear hf_
            have nd236 : nmI ((gU (gU M_47_139 70 0 (wI ((wI (4 * z1)) + x2)).toNat xs2_177) 72 0 z1.toNat (gAnd ((gU M_47_139 70 0 (wI ((wI (4 * z1)) + x2)).toNat xs2_177) 72 0 z1.toNat) xs3_224)) 71 0 z1.toNat) := hH.1.1 _ _ _
            refine g_iald X hH (r := 71) (i := 0) (by decide) rfl nz1 hg (v := (gU (gU M_47_139 70 0 (wI ((wI (4 * z1)) + x2)).toNat xs2_177) 72 0 z1.toNat (gAnd ((gU M_47_139 70 0 (wI ((wI (4 * z1)) + x2)).toNat xs2_177) 72 0 z1.toNat) xs3_224)) 71 0 z1.toNat) rfl dX12_freshen_236 ?_
            refine lv_aload_n X.1 X.2.1 dX12_freshen_237 rfl (lv_at hl.1 0 rfl) ?_
            refine g_get X cX12 hH (r := 29) (i := 0) (by decide) rfl 51 (by decide) k_452 rfl (v := .ref (gAd G 70 0)) rfl dX12_freshen_238 ?_
            refine lv_iconst X.1 X.2.1 dX12_freshen_241 (v := iI 4) rfl ?_
            refine lv_iload_n X.1 X.2.1 dX12_freshen_242 rfl (lv_at hl.1 1 rfl) ?_
            refine g_imul X dX12_freshen_243 ?_
            refine lv_iload_n X.1 X.2.1 dX12_freshen_244 rfl (lv_at hl.1 2 rfl) ?_
            refine g_iadd X dX12_freshen_245 ?_
            obtain ⟨hg, hf_⟩ := og_e hf; clear hf; have hf := hf_; clear hf_
            have nd246 : nmI ((gU (gU M_47_139 70 0 (wI ((wI (4 * z1)) + x2)).toNat xs2_177) 72 0 z1.toNat (gAnd ((gU M_47_139 70 0 (wI ((wI (4 * z1)) + x2)).toNat xs2_177) 72 0 z1.toNat) xs3_224)) 70 0 (wI ((wI (4 * z1)) + x2)).toNat) := hH.1.1 _ _ _
            refine g_iald X hH (r := 70) (i := 0) (by decide) rfl (nmI_w _) hg (v := (gU (gU M_47_139 70 0 (wI ((wI (4 * z1)) + x2)).toNat xs2_177) 72 0 z1.toNat (gAnd ((gU M_47_139 70 0 (wI ((wI (4 * z1)) + x2)).toNat xs2_177) 72 0 z1.toNat) xs3_224)) 70 0 (wI ((wI (4 * z1)) + x2)).toNat) rfl dX12_freshen_246 ?_
            refine gGoI (gRunS X hH (As := [.int (iI ((gU (gU M_47_139 70 0 (wI ((wI (4 * z1)) + x2)).toNat xs2_177) 72 0 z1.toNat (gAnd ((gU M_47_139 70 0 (wI ((wI (4 * z1)) + x2)).toNat xs2_177) 72 0 z1.toNat) xs3_224)) 71 0 z1.toNat)), .int (iI ((gU (gU M_47_139 70 0 (wI ((wI (4 * z1)) + x2)).toNat xs2_177) 72 0 z1.toNat (gAnd ((gU M_47_139 70 0 (wI ((wI (4 * z1)) + x2)).toNat xs2_177) 72 0 z1.toNat) xs3_224)) 70 0 (wI ((wI (4 * z1)) + x2)).toNat))]) (m_X12_put l G ((gU (gU M_47_139 70 0 (wI ((wI (4 * z1)) + x2)).toNat xs2_177) 72 0 z1.toNat (gAnd ((gU M_47_139 70 0 (wI ((wI (4 * z1)) + x2)).toNat xs2_177) 72 0 z1.toNat) xs3_224)) 71 0 z1.toNat) nd236 ((gU (gU M_47_139 70 0 (wI ((wI (4 * z1)) + x2)).toNat xs2_177) 72 0 z1.toNat (gAnd ((gU M_47_139 70 0 (wI ((wI (4 * z1)) + x2)).toNat xs2_177) 72 0 z1.toNat) xs3_224)) 70 0 (wI ((wI (4 * z1)) + x2)).toNat) nd246 (gU (gU M_47_139 70 0 (wI ((wI (4 * z1)) + x2)).toNat xs2_177) 72 0 z1.toNat (gAnd ((gU M_47_139 70 0 (wI ((wI (4 * z1)) + x2)).toNat xs2_177) 72 0 z1.toNat) xs3_224)) _ rfl) calX12_put k_962 k_475 ⟨by decide, by decide⟩ rfl hl rfl (Nat.le_of_ble_eq_true rfl) ⟨Nat.le_refl 0, Nat.le_refl 0⟩ dX12_freshen_247) hS (fun H locs nr247 hH hS => ?_)
            obtain ⟨hg, hf_⟩ := og_e hf; clear hf; have hf := hf_; clear hf_
            refine g_iast X hH hS (r := 71) (i := 0) (by decide) (fun _ => rfl) nz1 hg nr247 rfl (by decide) dX12_freshen_250 (fun H locs hH hS => ?_)
            refine g_iinc X (a := x2) (lv' := [(2, .int (iI (wI (x2 + 1)))), (0, .ref (gAd G 29 0)), (1, .int (iI z1))]) dX12_freshen_251 hl (k := 2) rfl (by decide) rfl (fun ls hl => ?_)
            refine lv_goto (tgt := 27) X.1 X.2.1 dX12_freshen_254 (by decide) ?_
            exact ih (wI (x2 + 1)) (nmI_w _) (gU (gU (gU M_47_139 70 0 (wI ((wI (4 * z1)) + x2)).toNat xs2_177) 72 0 z1.toNat (gAnd ((gU M_47_139 70 0 (wI ((wI (4 * z1)) + x2)).toNat xs2_177) 72 0 z1.toNat) xs3_224)) 71 0 z1.toNat ((f_X12_put ((gU (gU M_47_139 70 0 (wI ((wI (4 * z1)) + x2)).toNat xs2_177) 72 0 z1.toNat (gAnd ((gU M_47_139 70 0 (wI ((wI (4 * z1)) + x2)).toNat xs2_177) 72 0 z1.toNat) xs3_224)) 71 0 z1.toNat) ((gU (gU M_47_139 70 0 (wI ((wI (4 * z1)) + x2)).toNat xs2_177) 72 0 z1.toNat (gAnd ((gU M_47_139 70 0 (wI ((wI (4 * z1)) + x2)).toNat xs2_177) 72 0 z1.toNat) xs3_224)) 70 0 (wI ((wI (4 * z1)) + x2)).toNat) (gU (gU M_47_139 70 0 (wI ((wI (4 * z1)) + x2)).toNat xs2_177) 72 0 z1.toNat (gAnd ((gU M_47_139 70 0 (wI ((wI (4 * z1)) + x2)).toNat xs2_177) 72 0 z1.toNat) xs3_224))))) hf _ _ _ hH hS (gLv_sub hl [1, 2, 0] rfl)
          clear ek224
          obtain ⟨k223, ek223, hf_⟩ := oj_e hf; clear hf; have hf := hf_; clear hf_
          have hk223 : k223 = some q → ∀ (H : Heap) (locs : List Loc) (ls : Array Slot), gH G (gU M_47_139 70 0 (wI ((wI (4 * z1)) + x2)).toNat xs2_177) H → va_S (gA G) s.heap H locs → gLv ls 6 [(0, .ref (gAd G 29 0)), (1, .int (iI z1)), (2, .int (iI x2))] → W p l e { frames := 2, cells := 0, slots := 0, locals := 44 } s m args below meth c H locs 0 0 (MQ below (gQv G q) args s 0 0 (gA G)) (F0 m 223 ls [.int (iI ((gU M_47_139 70 0 (wI ((wI (4 * z1)) + x2)).toNat xs2_177) 72 0 z1.toNat)), .int (iI z1), .ref (gAd G 72 0)]) := by
            intro  hf H locs ls hH hS hl
            subst ek223
            refine lv_iconst X.1 X.2.1 dX12_freshen_223 (v := iI 0) rfl ?_
            exact hk224 0 (by decide) hf _ _ _ hH hS (gLv_sub hl [0, 1, 2] rfl)
          clear ek223
          refine g_if_ne X (nmI_b br188) (tgt := 223) dX12_freshen_191 (by decide) (fun hc191 => ?_) (fun hc191 => ?_)
          · replace hf := it_f hf hc191
            exact hk223  hf _ _ _ hH hS (gLv_sub hl [0, 1, 2] rfl)
          · replace hf := it_t hf hc191
            refine lv_aload_n X.1 X.2.1 dX12_freshen_194 rfl (lv_at hl.1 0 rfl) ?_
            refine g_get X cX12 hH (r := 29) (i := 0) (by decide) rfl 8 (by decide) k_409 rfl (v := .ref (gAd G 35 0)) rfl dX12_freshen_195 ?_
            refine lv_iload_n X.1 X.2.1 dX12_freshen_198 rfl (lv_at hl.1 1 rfl) ?_
            obtain ⟨hg, hf_⟩ := og_e hf; clear hf; have hf := hf_; clear hf_
            have nd199 : nmI ((gU M_47_139 70 0 (wI ((wI (4 * z1)) + x2)).toNat xs2_177) 35 0 z1.toNat) := hH.1.1 _ _ _
            refine g_iald X hH (r := 35) (i := 0) (by decide) rfl nz1 hg (v := (gU M_47_139 70 0 (wI ((wI (4 * z1)) + x2)).toNat xs2_177) 35 0 z1.toNat) rfl dX12_freshen_199 ?_
            refine lv_iconst X.1 X.2.1 dX12_freshen_200 (v := iI 2) rfl ?_
            obtain ⟨k219, ek219, hf_⟩ := oj_e hf; clear hf; have hf := hf_; clear hf_
            have hk219 : k219 = some q → ∀ (H : Heap) (locs : List Loc) (ls : Array Slot), gH G (gU M_47_139 70 0 (wI ((wI (4 * z1)) + x2)).toNat xs2_177) H → va_S (gA G) s.heap H locs → gLv ls 6 [(0, .ref (gAd G 29 0)), (1, .int (iI z1)), (2, .int (iI x2))] → W p l e { frames := 2, cells := 0, slots := 0, locals := 44 } s m args below meth c H locs 0 0 (MQ below (gQv G q) args s 0 0 (gA G)) (F0 m 219 ls [.int (iI ((gU M_47_139 70 0 (wI ((wI (4 * z1)) + x2)).toNat xs2_177) 72 0 z1.toNat)), .int (iI z1), .ref (gAd G 72 0)]) := by
              intro  hf H locs ls hH hS hl
              subst ek219
              refine lv_iconst X.1 X.2.1 dX12_freshen_219 (v := iI 1) rfl ?_
              refine lv_goto (tgt := 224) X.1 X.2.1 dX12_freshen_220 (by decide) ?_
              exact hk224 1 (by decide) hf _ _ _ hH hS (gLv_sub hl [0, 1, 2] rfl)
            clear ek219
            refine g_icmp_ne X nd199 (nmI_l (by decide)) (tgt := 219) dX12_freshen_201 (by decide) (fun hc201 => ?_) (fun hc201 => ?_)
            · replace hf := it_f hf hc201
              exact hk219  hf _ _ _ hH hS (gLv_sub hl [0, 1, 2] rfl)
            · replace hf := it_t hf hc201
              refine lv_aload_n X.1 X.2.1 dX12_freshen_204 rfl (lv_at hl.1 0 rfl) ?_
              refine g_get X cX12 hH (r := 29) (i := 0) (by decide) rfl 51 (by decide) k_452 rfl (v := .ref (gAd G 70 0)) rfl dX12_freshen_205 ?_
              refine lv_iconst X.1 X.2.1 dX12_freshen_208 (v := iI 4) rfl ?_
              refine lv_iload_n X.1 X.2.1 dX12_freshen_209 rfl (lv_at hl.1 1 rfl) ?_
              refine g_imul X dX12_freshen_210 ?_
              refine lv_iload_n X.1 X.2.1 dX12_freshen_211 rfl (lv_at hl.1 2 rfl) ?_
              refine g_iadd X dX12_freshen_212 ?_
              obtain ⟨hg, hf_⟩ := og_e hf; clear hf; have hf := hf_; clear hf_
              have nd213 : nmI ((gU M_47_139 70 0 (wI ((wI (4 * z1)) + x2)).toNat xs2_177) 70 0 (wI ((wI (4 * z1)) + x2)).toNat) := hH.1.1 _ _ _
              refine g_iald X hH (r := 70) (i := 0) (by decide) rfl (nmI_w _) hg (v := (gU M_47_139 70 0 (wI ((wI (4 * z1)) + x2)).toNat xs2_177) 70 0 (wI ((wI (4 * z1)) + x2)).toNat) rfl dX12_freshen_213 ?_
              refine lv_iconst X.1 X.2.1 dX12_freshen_214 (v := iI 4) rfl ?_
              refine g_irem X nd213 (nmI_l (by decide)) (by decide) dX12_freshen_215 ?_
              refine g_if_eq X (nmI_rem _ _) (tgt := 223) dX12_freshen_216 (by decide) (fun hc216 => ?_) (fun hc216 => ?_)
              · replace hf := it_t hf hc216
                exact hk223  hf _ _ _ hH hS (gLv_sub hl [0, 1, 2] rfl)
              · replace hf := it_f hf hc216
                exact hk219  hf _ _ _ hH hS (gLv_sub hl [0, 1, 2] rfl)
        clear ek177
        refine g_icmp_ne X nr142 (nmI_l (by decide)) (tgt := 166) dX12_freshen_159 (by decide) (fun hc159 => ?_) (fun hc159 => ?_)
        · replace hf := it_f hf hc159
          refine lv_iload_n X.1 X.2.1 dX12_freshen_166 rfl (lv_at hl.1 4 rfl) ?_
          refine lv_aload_n X.1 X.2.1 dX12_freshen_167 rfl (lv_at hl.1 1 rfl) ?_
          refine g_get X cX12 hH (r := 29) (i := 0) (by decide) rfl 50 (by decide) k_451 rfl (v := .ref (gAd G 69 0)) rfl dX12_freshen_168 ?_
          refine lv_iload X.1 X.2.1 dX12_freshen_171 (lv_at hl.1 0 rfl) ?_
          obtain ⟨hg, hf_⟩ := og_e hf; clear hf; have hf := hf_; clear hf_
          have nd173 : nmI (M_47_139 69 0 r142.toNat) := hH.1.1 _ _ _
          refine g_iald X hH (r := 69) (i := 0) (by decide) rfl nr142 hg (v := M_47_139 69 0 r142.toNat) rfl dX12_freshen_173 ?_
          refine gGoI (gRunS X hH (As := [.int (iI y3_47_139), .int (iI (M_47_139 69 0 r142.toNat))]) (m_X12_put l G y3_47_139 ny3_47_139 (M_47_139 69 0 r142.toNat) nd173 M_47_139 _ rfl) calX12_put k_962 k_475 ⟨by decide, by decide⟩ rfl hl rfl (Nat.le_of_ble_eq_true rfl) ⟨Nat.le_refl 0, Nat.le_refl 0⟩ dX12_freshen_174) hS (fun H locs nr174 hH hS => ?_)
          exact hk177 ((f_X12_put y3_47_139 (M_47_139 69 0 r142.toNat) M_47_139)) nr174 hf _ _ _ hH hS (gLv_sub hl [1, 2, 3, 4] rfl)
        · replace hf := it_t hf hc159
          refine lv_iload_n X.1 X.2.1 dX12_freshen_162 rfl (lv_at hl.1 4 rfl) ?_
          refine lv_goto (tgt := 177) X.1 X.2.1 dX12_freshen_163 (by decide) ?_
          exact hk177 y3_47_139 ny3_47_139 hf _ _ _ hH hS (gLv_sub hl [1, 2, 3, 4] rfl)
theorem w_X12_freshen_L2 {G : gG} {p : Program} {l : Launch} {e : Env} {s : State} {m : MethodId} {args : Array Value} {below : List Frame} {meth : Method} {c : Code} (X : gX G p s m args meth c RX12 cX12_freshen 6 none (gWs yX12_freshen cX12_freshen 6 none)) (k263 : gM → Option gM) (q : gM) (hk263 : ∀  (M : gM), k263 M = some q → ∀ (H : Heap) (locs : List Loc) (ls : Array Slot), gH G M H → va_S (gA G) s.heap H locs → gLv ls 6 [] → W p l e { frames := 2, cells := 0, slots := 0, locals := 44 } s m args below meth c H locs 0 0 (MQ below (gQv G q) args s 0 0 (gA G)) (F0 m 263 ls [])) : ∀ (n : Nat) (x1 : Int) (nx1 : nmI x1) (M : gM), f_X12_freshen_L2 k263 n x1 M = some q → ∀ (H : Heap) (locs : List Loc) (ls : Array Slot), gH G M H → va_S (gA G) s.heap H locs → gLv ls 6 [(0, .ref (gAd G 29 0)), (1, .int (iI x1))] → W p l e { frames := 2, cells := 0, slots := 0, locals := 44 } s m args below meth c H locs 0 0 (MQ below (gQv G q) args s 0 0 (gA G)) (F0 m 2 ls []) := by
  intro n
  induction n with
  | zero =>
    intro x1 nx1 M hf
    cases hf
  | succ n ih =>
    intro x1 nx1 M hf H locs ls hH hS hl
    rw [f_X12_freshen_L2] at hf
    refine lv_iload_n X.1 X.2.1 dX12_freshen_2 rfl (lv_at hl.1 1 rfl) ?_
    refine lv_aload_n X.1 X.2.1 dX12_freshen_3 rfl (lv_at hl.1 0 rfl) ?_
    have nd4 : nmI (M 29 0 7) := hH.1.1 _ _ _
    refine g_get X cX12 hH (r := 29) (i := 0) (by decide) rfl 7 (by decide) k_408 rfl (v := .int (iI (M 29 0 7))) rfl dX12_freshen_4 ?_
    refine g_icmp_ge X nx1 nd4 (tgt := 263) dX12_freshen_7 (by decide) (fun hc7 => ?_) (fun hc7 => ?_)
    · replace hf := it_f hf hc7
      exact hk263 M hf _ _ _ hH hS (gLv_sub hl [] rfl)
    · replace hf := it_t hf hc7
      refine lv_aload_n X.1 X.2.1 dX12_freshen_10 rfl (lv_at hl.1 0 rfl) ?_
      refine g_get X cX12 hH (r := 29) (i := 0) (by decide) rfl 53 (by decide) k_454 rfl (v := .ref (gAd G 72 0)) rfl dX12_freshen_11 ?_
      refine lv_iload_n X.1 X.2.1 dX12_freshen_14 rfl (lv_at hl.1 1 rfl) ?_
      refine lv_iconst X.1 X.2.1 dX12_freshen_15 (v := iI 1) rfl ?_
      obtain ⟨hg, hf_⟩ := og_e hf; clear hf; have hf := hf_; clear hf_
      refine g_zast X hH hS (r := 72) (i := 0) (by decide) (fun _ => rfl) nx1 hg (by decide) dX12_freshen_16 (fun H locs hH hS => ?_)
      refine lv_aload_n X.1 X.2.1 dX12_freshen_17 rfl (lv_at hl.1 0 rfl) ?_
      refine g_get X cX12 hH (r := 29) (i := 0) (by decide) rfl 52 (by decide) k_453 rfl (v := .ref (gAd G 71 0)) rfl dX12_freshen_18 ?_
      refine lv_iload_n X.1 X.2.1 dX12_freshen_21 rfl (lv_at hl.1 1 rfl) ?_
      refine lv_bipush X.1 X.2.1 dX12_freshen_22 (v := iI 7) (by decide) ?_
      obtain ⟨hg, hf_⟩ := og_e hf; clear hf; have hf := hf_; clear hf_
      refine g_iast X hH hS (r := 71) (i := 0) (by decide) (fun _ => rfl) nx1 hg (nmI_l (by decide)) rfl (by decide) dX12_freshen_24 (fun H locs hH hS => ?_)
      refine lv_iconst X.1 X.2.1 dX12_freshen_25 (v := iI 0) rfl ?_
      refine g_istore_n X (lv' := [(2, .int (iI 0)), (0, .ref (gAd G 29 0)), (1, .int (iI x1))]) dX12_freshen_26 rfl hl (by decide) rfl (fun ls hl => ?_)
      refine w_X12_freshen_L27 X _ x1 nx1 q ?_ 64 0 (nmI_l (by decide)) (gU (gU M 72 0 x1.toNat 1) 71 0 x1.toNat 7) hf _ _ _ hH hS (gLv_sub hl [1, 2, 0] rfl)
      · intro  M_27_257 hf H locs ls hH hS hl
        refine g_iinc X (a := x1) (lv' := [(1, .int (iI (wI (x1 + 1)))), (0, .ref (gAd G 29 0))]) dX12_freshen_257 hl (k := 1) rfl (by decide) rfl (fun ls hl => ?_)
        refine lv_goto (tgt := 2) X.1 X.2.1 dX12_freshen_260 (by decide) ?_
        exact ih (wI (x1 + 1)) (nmI_w _) M_27_257 hf _ _ _ hH hS (gLv_sub hl [1, 0] rfl)
theorem m_X12_freshen (l : Launch) (G : gG)  (M : gM) (q : gM) (hf : f_X12_freshen M = some q) : gMet l yX12_freshen cX12_freshen 6 none 2 44 G M [.ref (gAd G 29 0)] (gQv G q) := by
  refine gOfW (by decide) (by show _ ≤ 6; exact Nat.le_of_ble_eq_true rfl) rfl ?_
  intro p e s m below meth c X hH ls hl
  replace hl : gLv ls 6 [(0, .ref (gAd G 29 0))] := hl
  have hS : va_S (gA G) s.heap s.heap [] := va_S.rf
  generalize hargs : ([.ref (gAd G 29 0)] : List Value).toArray = args at X ⊢
  clear hargs
  unfold f_X12_freshen at hf
  refine lv_iconst X.1 X.2.1 dX12_freshen_0 (v := iI 0) rfl ?_
  refine g_istore_n X (lv' := [(1, .int (iI 0)), (0, .ref (gAd G 29 0))]) dX12_freshen_1 rfl hl (by decide) rfl (fun ls hl => ?_)
  refine w_X12_freshen_L2 X _  q ?_ 64 0 (nmI_l (by decide)) M hf _ _ _ hH hS (gLv_sub hl [1, 0] rfl)
  · intro  M_2_263 hf H locs ls hH hS hl
    have hq := Option.some.inj hf; subst hq
    exact gRetV X hH hS dX12_freshen_263
theorem w_X12_freshenNow_L2 {G : gG} {p : Program} {l : Launch} {e : Env} {s : State} {m : MethodId} {args : Array Value} {below : List Frame} {meth : Method} {c : Code} (X : gX G p s m args meth c RX12 cX12_freshenNow 2 none (gWs yX12_freshenNow cX12_freshenNow 2 none)) (k26 : gM → Option gM) (q : gM) (hk26 : ∀  (M : gM), k26 M = some q → ∀ (H : Heap) (locs : List Loc) (ls : Array Slot), gH G M H → va_S (gA G) s.heap H locs → gLv ls 2 [(0, .ref (gAd G 29 0))] → W p l e { frames := 3, cells := 0, slots := 0, locals := 69 } s m args below meth c H locs 0 0 (MQ below (gQv G q) args s 0 0 (gA G)) (F0 m 26 ls [])) : ∀ (n : Nat) (x1 : Int) (nx1 : nmI x1) (M : gM), f_X12_freshenNow_L2 k26 n x1 M = some q → ∀ (H : Heap) (locs : List Loc) (ls : Array Slot), gH G M H → va_S (gA G) s.heap H locs → gLv ls 2 [(0, .ref (gAd G 29 0)), (1, .int (iI x1))] → W p l e { frames := 3, cells := 0, slots := 0, locals := 69 } s m args below meth c H locs 0 0 (MQ below (gQv G q) args s 0 0 (gA G)) (F0 m 2 ls []) := by
  intro n
  induction n with
  | zero =>
    intro x1 nx1 M hf
    cases hf
  | succ n ih =>
    intro x1 nx1 M hf H locs ls hH hS hl
    rw [f_X12_freshenNow_L2] at hf
    refine lv_iload_n X.1 X.2.1 dX12_freshenNow_2 rfl (lv_at hl.1 1 rfl) ?_
    refine lv_bipush X.1 X.2.1 dX12_freshenNow_3 (v := iI 16) (by decide) ?_
    refine g_icmp_ge X nx1 (nmI_l (by decide)) (tgt := 26) dX12_freshenNow_5 (by decide) (fun hc5 => ?_) (fun hc5 => ?_)
    · replace hf := it_f hf hc5
      exact hk26 M hf _ _ _ hH hS (gLv_sub hl [0] rfl)
    · replace hf := it_t hf hc5
      refine lv_aload_n X.1 X.2.1 dX12_freshenNow_8 rfl (lv_at hl.1 0 rfl) ?_
      refine g_get X cX12 hH (r := 29) (i := 0) (by decide) rfl 50 (by decide) k_451 rfl (v := .ref (gAd G 69 0)) rfl dX12_freshenNow_9 ?_
      refine lv_iload_n X.1 X.2.1 dX12_freshenNow_12 rfl (lv_at hl.1 1 rfl) ?_
      refine lv_aload_n X.1 X.2.1 dX12_freshenNow_13 rfl (lv_at hl.1 0 rfl) ?_
      refine g_get X cX12 hH (r := 29) (i := 0) (by decide) rfl 1 (by decide) k_402 rfl (v := .ref (gAd G 30 0)) rfl dX12_freshenNow_14 ?_
      refine lv_iload_n X.1 X.2.1 dX12_freshenNow_17 rfl (lv_at hl.1 1 rfl) ?_
      obtain ⟨hg, hf_⟩ := og_e hf; clear hf; have hf := hf_; clear hf_
      have nd18 : nmI (M 30 0 x1.toNat) := hH.1.1 _ _ _
      refine g_iald X hH (r := 30) (i := 0) (by decide) rfl nx1 hg (v := M 30 0 x1.toNat) rfl dX12_freshenNow_18 ?_
      obtain ⟨hg, hf_⟩ := og_e hf; clear hf; have hf := hf_; clear hf_
      refine g_iast X hH hS (r := 69) (i := 0) (by decide) (fun _ => rfl) nx1 hg nd18 rfl (by decide) dX12_freshenNow_19 (fun H locs hH hS => ?_)
      refine g_iinc X (a := x1) (lv' := [(1, .int (iI (wI (x1 + 1)))), (0, .ref (gAd G 29 0))]) dX12_freshenNow_20 hl (k := 1) rfl (by decide) rfl (fun ls hl => ?_)
      refine lv_goto (tgt := 2) X.1 X.2.1 dX12_freshenNow_23 (by decide) ?_
      exact ih (wI (x1 + 1)) (nmI_w _) (gU M 69 0 x1.toNat (M 30 0 x1.toNat)) hf _ _ _ hH hS (gLv_sub hl [1, 0] rfl)
theorem m_X12_freshenNow (l : Launch) (G : gG)  (M : gM) (q : gM) (hf : f_X12_freshenNow M = some q) : gMet l yX12_freshenNow cX12_freshenNow 2 none 3 69 G M [.ref (gAd G 29 0)] (gQv G q) := by
  refine gOfW (by decide) (by show _ ≤ 2; exact Nat.le_of_ble_eq_true rfl) rfl ?_
  intro p e s m below meth c X hH ls hl
  replace hl : gLv ls 2 [(0, .ref (gAd G 29 0))] := hl
  have hS : va_S (gA G) s.heap s.heap [] := va_S.rf
  generalize hargs : ([.ref (gAd G 29 0)] : List Value).toArray = args at X ⊢
  clear hargs
  unfold f_X12_freshenNow at hf
  refine lv_iconst X.1 X.2.1 dX12_freshenNow_0 (v := iI 0) rfl ?_
  refine g_istore_n X (lv' := [(1, .int (iI 0)), (0, .ref (gAd G 29 0))]) dX12_freshenNow_1 rfl hl (by decide) rfl (fun ls hl => ?_)
  refine w_X12_freshenNow_L2 X _  q ?_ 64 0 (nmI_l (by decide)) M hf _ _ _ hH hS (gLv_sub hl [1, 0] rfl)
  · intro  M_2_26 hf H locs ls hH hS hl
    refine lv_aload_n X.1 X.2.1 dX12_freshenNow_26 rfl (lv_at hl.1 0 rfl) ?_
    obtain ⟨r27, hq27, hf_⟩ := ob_e hf; clear hf; have hf := hf_; clear hf_
    refine gGoV (gRunV X hH (As := []) (m_X12_freshen l G  M_2_26 _ hq27) calX12_freshen k_1038 k_1131 k_510 (by decide) cX12 rfl ⟨by decide, by decide⟩ rfl hl rfl (Nat.le_of_ble_eq_true rfl) ⟨Nat.le_refl 0, Nat.le_refl 0⟩ dX12_freshenNow_27) hS (fun H locs hH hS => ?_)
    have hq := Option.some.inj hf; subst hq
    exact gRetV X hH hS dX12_freshenNow_30
theorem w_X12_isDone_L8 {G : gG} {p : Program} {l : Launch} {e : Env} {s : State} {m : MethodId} {args : Array Value} {below : List Frame} {meth : Method} {c : Code} (X : gX G p s m args meth c RX12 cX12_isDone 4 (some .boolean) (gWs yX12_isDone cX12_isDone 4 (some .boolean))) (k46 : Int → Option (Int)) (z1 : Int) (nz1 : nmI z1) (M : gM) (q : (Int)) (hk46 : ∀ (x2 : Int) (bx2 : x2 = 0 ∨ x2 = 1), k46 x2 = some q → ∀ (H : Heap) (locs : List Loc) (ls : Array Slot), gH G M H → va_S (gA G) s.heap H locs → gLv ls 4 [(2, .int (iI x2))] → W p l e { frames := 1, cells := 0, slots := 0, locals := 21 } s m args below meth c H locs 0 0 (MQ below (gQz G q M) args s 0 0 (gA G)) (F0 m 46 ls [])) : ∀ (n : Nat) (x2 : Int) (bx2 : x2 = 0 ∨ x2 = 1) (x3 : Int) (nx3 : nmI x3), f_X12_isDone_L8 k46 z1 M n x2 x3 = some q → ∀ (H : Heap) (locs : List Loc) (ls : Array Slot), gH G M H → va_S (gA G) s.heap H locs → gLv ls 4 [(0, .ref (gAd G 29 0)), (1, .int (iI z1)), (2, .int (iI x2)), (3, .int (iI x3))] → W p l e { frames := 1, cells := 0, slots := 0, locals := 21 } s m args below meth c H locs 0 0 (MQ below (gQz G q M) args s 0 0 (gA G)) (F0 m 8 ls []) := by
  intro n
  induction n with
  | zero =>
    intro x2 bx2 x3 nx3 hf
    cases hf
  | succ n ih =>
    intro x2 bx2 x3 nx3 hf H locs ls hH hS hl
    rw [f_X12_isDone_L8] at hf
    refine lv_iload_n X.1 X.2.1 dX12_isDone_8 rfl (lv_at hl.1 3 rfl) ?_
    refine lv_aload_n X.1 X.2.1 dX12_isDone_9 rfl (lv_at hl.1 0 rfl) ?_
    refine g_get X cX12 hH (r := 29) (i := 0) (by decide) rfl 11 (by decide) k_412 rfl (v := .ref (gAd G 38 0)) rfl dX12_isDone_10 ?_
    refine lv_iload_n X.1 X.2.1 dX12_isDone_13 rfl (lv_at hl.1 1 rfl) ?_
    obtain ⟨hg, hf_⟩ := og_e hf; clear hf; have hf := hf_; clear hf_
    have nd14 : nmI (M 38 0 z1.toNat) := hH.1.1 _ _ _
    refine g_iald X hH (r := 38) (i := 0) (by decide) rfl nz1 hg (v := M 38 0 z1.toNat) rfl dX12_isDone_14 ?_
    refine g_icmp_ge X nx3 nd14 (tgt := 46) dX12_isDone_15 (by decide) (fun hc15 => ?_) (fun hc15 => ?_)
    · replace hf := it_f hf hc15
      exact hk46 x2 bx2 hf _ _ _ hH hS (gLv_sub hl [2] rfl)
    · replace hf := it_t hf hc15
      refine lv_iload_n X.1 X.2.1 dX12_isDone_18 rfl (lv_at hl.1 2 rfl) ?_
      refine lv_aload_n X.1 X.2.1 dX12_isDone_19 rfl (lv_at hl.1 0 rfl) ?_
      refine g_get X cX12 hH (r := 29) (i := 0) (by decide) rfl 38 (by decide) k_439 rfl (v := .ref (gAd G 60 0)) rfl dX12_isDone_20 ?_
      refine lv_iconst X.1 X.2.1 dX12_isDone_23 (v := iI 4) rfl ?_
      refine lv_iload_n X.1 X.2.1 dX12_isDone_24 rfl (lv_at hl.1 1 rfl) ?_
      refine g_imul X dX12_isDone_25 ?_
      refine lv_iload_n X.1 X.2.1 dX12_isDone_26 rfl (lv_at hl.1 3 rfl) ?_
      refine g_iadd X dX12_isDone_27 ?_
      obtain ⟨hg, hf_⟩ := og_e hf; clear hf; have hf := hf_; clear hf_
      have nd28 : nmI (M 60 0 (wI ((wI (4 * z1)) + x3)).toNat) := hH.1.1 _ _ _
      refine g_iald X hH (r := 60) (i := 0) (by decide) rfl (nmI_w _) hg (v := M 60 0 (wI ((wI (4 * z1)) + x3)).toNat) rfl dX12_isDone_28 ?_
      refine lv_iconst X.1 X.2.1 dX12_isDone_29 (v := iI 3) rfl ?_
      obtain ⟨k38, ek38, hf_⟩ := oj_e hf; clear hf; have hf := hf_; clear hf_
      have hk38 : ∀ (xs1_38 : Int) (bxs1_38 : xs1_38 = 0 ∨ xs1_38 = 1), k38 xs1_38 = some q → ∀ (H : Heap) (locs : List Loc) (ls : Array Slot), gH G M H → va_S (gA G) s.heap H locs → gLv ls 4 [(0, .ref (gAd G 29 0)), (1, .int (iI z1)), (3, .int (iI x3))] → W p l e { frames := 1, cells := 0, slots := 0, locals := 21 } s m args below meth c H locs 0 0 (MQ below (gQz G q M) args s 0 0 (gA G)) (F0 m 38 ls [.int (iI xs1_38), .int (iI x2)]) := by
        intro xs1_38 bxs1_38 hf H locs ls hH hS hl
        subst ek38
        refine g_iand X dX12_isDone_38 ?_
        refine g_istore_n X (lv' := [(2, .int (iI (gAnd x2 xs1_38))), (0, .ref (gAd G 29 0)), (1, .int (iI z1)), (3, .int (iI x3))]) dX12_isDone_39 rfl hl (by decide) rfl (fun ls hl => ?_)
        refine g_iinc X (a := x3) (lv' := [(3, .int (iI (wI (x3 + 1)))), (2, .int (iI (gAnd x2 xs1_38))), (0, .ref (gAd G 29 0)), (1, .int (iI z1))]) dX12_isDone_40 hl (k := 3) rfl (by decide) rfl (fun ls hl => ?_)
        refine lv_goto (tgt := 8) X.1 X.2.1 dX12_isDone_43 (by decide) ?_
        exact ih (gAnd x2 xs1_38) (b01_and bx2 bxs1_38) (wI (x3 + 1)) (nmI_w _) hf _ _ _ hH hS (gLv_sub hl [2, 3, 1, 0] rfl)
      clear ek38
      refine g_icmp_ne X nd28 (nmI_l (by decide)) (tgt := 37) dX12_isDone_30 (by decide) (fun hc30 => ?_) (fun hc30 => ?_)
      · replace hf := it_f hf hc30
        refine lv_iconst X.1 X.2.1 dX12_isDone_37 (v := iI 0) rfl ?_
        exact hk38 0 (by decide) hf _ _ _ hH hS (gLv_sub hl [0, 1, 3] rfl)
      · replace hf := it_t hf hc30
        refine lv_iconst X.1 X.2.1 dX12_isDone_33 (v := iI 1) rfl ?_
        refine lv_goto (tgt := 38) X.1 X.2.1 dX12_isDone_34 (by decide) ?_
        exact hk38 1 (by decide) hf _ _ _ hH hS (gLv_sub hl [0, 1, 3] rfl)
theorem m_X12_isDone (l : Launch) (G : gG) (v1 : Int) (nv1 : nmI v1) (M : gM) (q : (Int)) (hf : f_X12_isDone v1 M = some q) : gMet l yX12_isDone cX12_isDone 4 (some .boolean) 1 21 G M [.ref (gAd G 29 0), .int (iI v1)] (gQz G q M) := by
  refine gOfW (by decide) (by show _ ≤ 4; exact Nat.le_of_ble_eq_true rfl) rfl ?_
  intro p e s m below meth c X hH ls hl
  replace hl : gLv ls 4 [(0, .ref (gAd G 29 0)), (1, .int (iI v1))] := hl
  have hS : va_S (gA G) s.heap s.heap [] := va_S.rf
  generalize hargs : ([.ref (gAd G 29 0), .int (iI v1)] : List Value).toArray = args at X ⊢
  clear hargs
  unfold f_X12_isDone at hf
  refine lv_aload_n X.1 X.2.1 dX12_isDone_0 rfl (lv_at hl.1 0 rfl) ?_
  refine lv_iload_n X.1 X.2.1 dX12_isDone_1 rfl (lv_at hl.1 1 rfl) ?_
  refine gGoZ (gRunV X hH (As := [.int (iI v1)]) (m_X12_isNeeded l G v1 nv1 M _ rfl) calX12_isNeeded k_985 k_1112 k_486 (by decide) cX12 rfl ⟨by decide, by decide⟩ rfl hl rfl (Nat.le_of_ble_eq_true rfl) ⟨Nat.le_refl 0, Nat.le_refl 0⟩ dX12_isDone_2) hS (fun H locs br2 hH hS => ?_)
  refine g_istore_n X (lv' := [(2, .int (iI ((f_X12_isNeeded v1 M)))), (0, .ref (gAd G 29 0)), (1, .int (iI v1))]) dX12_isDone_5 rfl hl (by decide) rfl (fun ls hl => ?_)
  refine lv_iconst X.1 X.2.1 dX12_isDone_6 (v := iI 0) rfl ?_
  refine g_istore_n X (lv' := [(3, .int (iI 0)), (2, .int (iI ((f_X12_isNeeded v1 M)))), (0, .ref (gAd G 29 0)), (1, .int (iI v1))]) dX12_isDone_7 rfl hl (by decide) rfl (fun ls hl => ?_)
  refine w_X12_isDone_L8 X _ v1 nv1 M q ?_ 64 ((f_X12_isNeeded v1 M)) br2 0 (nmI_l (by decide)) hf _ _ _ hH hS (gLv_sub hl [2, 3, 1, 0] rfl)
  · intro y2_8_46 by2_8_46 hf H locs ls hH hS hl
    refine lv_iload_n X.1 X.2.1 dX12_isDone_46 rfl (lv_at hl.1 0 rfl) ?_
    have hq := Option.some.inj hf; subst hq
    exact gRetZ X hH hS (res := y2_8_46) by2_8_46 dX12_isDone_47
theorem w_X12_isSound_L49 {G : gG} {p : Program} {l : Launch} {e : Env} {s : State} {m : MethodId} {args : Array Value} {below : List Frame} {meth : Method} {c : Code} (X : gX G p s m args meth c RX12 cX12_isSound 7 (some .boolean) (gWs yX12_isSound cX12_isSound 7 (some .boolean))) (k98 : Int → Option (Int)) (z2 : Int) (bz2 : z2 = 0 ∨ z2 = 1) (z3 : Int) (nz3 : nmI z3) (z5 : Int) (nz5 : nmI z5) (M : gM) (q : (Int)) (hk98 : ∀ (x4 : Int) (bx4 : x4 = 0 ∨ x4 = 1), k98 x4 = some q → ∀ (H : Heap) (locs : List Loc) (ls : Array Slot), gH G M H → va_S (gA G) s.heap H locs → gLv ls 7 [(0, .ref (gAd G 29 0)), (2, .int (iI z2)), (3, .int (iI z3)), (4, .int (iI x4)), (5, .int (iI z5))] → W p l e { frames := 2, cells := 0, slots := 0, locals := 48 } s m args below meth c H locs 0 0 (MQ below (gQz G q M) args s 0 0 (gA G)) (F0 m 98 ls [])) : ∀ (n : Nat) (x4 : Int) (bx4 : x4 = 0 ∨ x4 = 1) (x6 : Int) (nx6 : nmI x6), f_X12_isSound_L49 k98 z2 z3 z5 M n x4 x6 = some q → ∀ (H : Heap) (locs : List Loc) (ls : Array Slot), gH G M H → va_S (gA G) s.heap H locs → gLv ls 7 [(0, .ref (gAd G 29 0)), (2, .int (iI z2)), (3, .int (iI z3)), (4, .int (iI x4)), (5, .int (iI z5)), (6, .int (iI x6))] → W p l e { frames := 2, cells := 0, slots := 0, locals := 48 } s m args below meth c H locs 0 0 (MQ below (gQz G q M) args s 0 0 (gA G)) (F0 m 49 ls []) := by
  intro n
  induction n with
  | zero =>
    intro x4 bx4 x6 nx6 hf
    cases hf
  | succ n ih =>
    intro x4 bx4 x6 nx6 hf H locs ls hH hS hl
    rw [f_X12_isSound_L49] at hf
    refine lv_iload X.1 X.2.1 dX12_isSound_49 (lv_at hl.1 5 rfl) ?_
    refine lv_aload_n X.1 X.2.1 dX12_isSound_51 rfl (lv_at hl.1 0 rfl) ?_
    refine g_get X cX12 hH (r := 29) (i := 0) (by decide) rfl 11 (by decide) k_412 rfl (v := .ref (gAd G 38 0)) rfl dX12_isSound_52 ?_
    refine lv_iload X.1 X.2.1 dX12_isSound_55 (lv_at hl.1 4 rfl) ?_
    obtain ⟨hg, hf_⟩ := og_e hf; clear hf; have hf := hf_; clear hf_
    have nd57 : nmI (M 38 0 z5.toNat) := hH.1.1 _ _ _
    refine g_iald X hH (r := 38) (i := 0) (by decide) rfl nz5 hg (v := M 38 0 z5.toNat) rfl dX12_isSound_57 ?_
    refine g_icmp_ge X nx6 nd57 (tgt := 98) dX12_isSound_58 (by decide) (fun hc58 => ?_) (fun hc58 => ?_)
    · replace hf := it_f hf hc58
      exact hk98 x4 bx4 hf _ _ _ hH hS (gLv_sub hl [0, 1, 2, 3, 4] rfl)
    · replace hf := it_t hf hc58
      refine lv_iload X.1 X.2.1 dX12_isSound_61 (lv_at hl.1 3 rfl) ?_
      refine g_if_eq X (nmI_b bx4) (tgt := 98) dX12_isSound_63 (by decide) (fun hc63 => ?_) (fun hc63 => ?_)
      · replace hf := it_t hf hc63
        exact hk98 x4 bx4 hf _ _ _ hH hS (gLv_sub hl [0, 1, 2, 3, 4] rfl)
      · replace hf := it_f hf hc63
        refine lv_iload_n X.1 X.2.1 dX12_isSound_66 rfl (lv_at hl.1 1 rfl) ?_
        obtain ⟨k90, ek90, hf_⟩ := oj_e hf; clear hf; have hf := hf_; clear hf_
        have hk90 : ∀ (xs0_90 : Int) (bxs0_90 : xs0_90 = 0 ∨ xs0_90 = 1), k90 xs0_90 = some q → ∀ (H : Heap) (locs : List Loc) (ls : Array Slot), gH G M H → va_S (gA G) s.heap H locs → gLv ls 7 [(0, .ref (gAd G 29 0)), (2, .int (iI z2)), (3, .int (iI z3)), (5, .int (iI z5)), (6, .int (iI x6))] → W p l e { frames := 2, cells := 0, slots := 0, locals := 48 } s m args below meth c H locs 0 0 (MQ below (gQz G q M) args s 0 0 (gA G)) (F0 m 90 ls [.int (iI xs0_90)]) := by
          intro xs0_90 bxs0_90 hf H locs ls hH hS hl
          subst ek90
          refine g_istore X (lv' := [(4, .int (iI xs0_90)), (0, .ref (gAd G 29 0)), (2, .int (iI z2)), (3, .int (iI z3)), (5, .int (iI z5)), (6, .int (iI x6))]) dX12_isSound_90 hl (by decide) rfl (fun ls hl => ?_)
          refine g_iinc X (a := x6) (lv' := [(6, .int (iI (wI (x6 + 1)))), (4, .int (iI xs0_90)), (0, .ref (gAd G 29 0)), (2, .int (iI z2)), (3, .int (iI z3)), (5, .int (iI z5))]) dX12_isSound_92 hl (k := 5) rfl (by decide) rfl (fun ls hl => ?_)
          refine lv_goto (tgt := 49) X.1 X.2.1 dX12_isSound_95 (by decide) ?_
          exact ih xs0_90 bxs0_90 (wI (x6 + 1)) (nmI_w _) hf _ _ _ hH hS (gLv_sub hl [2, 3, 4, 1, 5, 0] rfl)
        clear ek90
        obtain ⟨k85, ek85, hf_⟩ := oj_e hf; clear hf; have hf := hf_; clear hf_
        have hk85 : k85 = some q → ∀ (H : Heap) (locs : List Loc) (ls : Array Slot), gH G M H → va_S (gA G) s.heap H locs → gLv ls 7 [(0, .ref (gAd G 29 0)), (2, .int (iI z2)), (3, .int (iI z3)), (5, .int (iI z5)), (6, .int (iI x6))] → W p l e { frames := 2, cells := 0, slots := 0, locals := 48 } s m args below meth c H locs 0 0 (MQ below (gQz G q M) args s 0 0 (gA G)) (F0 m 85 ls []) := by
          intro  hf H locs ls hH hS hl
          subst ek85
          refine lv_iconst X.1 X.2.1 dX12_isSound_85 (v := iI 1) rfl ?_
          refine lv_goto (tgt := 90) X.1 X.2.1 dX12_isSound_86 (by decide) ?_
          exact hk90 1 (by decide) hf _ _ _ hH hS (gLv_sub hl [0, 1, 2, 3, 4] rfl)
        clear ek85
        refine g_if_ne X (nmI_b bz2) (tgt := 85) dX12_isSound_67 (by decide) (fun hc67 => ?_) (fun hc67 => ?_)
        · replace hf := it_f hf hc67
          exact hk85  hf _ _ _ hH hS (gLv_sub hl [0, 1, 2, 4, 5] rfl)
        · replace hf := it_t hf hc67
          refine lv_aload_n X.1 X.2.1 dX12_isSound_70 rfl (lv_at hl.1 0 rfl) ?_
          refine g_get X cX12 hH (r := 29) (i := 0) (by decide) rfl 42 (by decide) k_443 rfl (v := .ref (gAd G 64 0)) rfl dX12_isSound_71 ?_
          refine lv_iconst X.1 X.2.1 dX12_isSound_74 (v := iI 4) rfl ?_
          refine lv_iload X.1 X.2.1 dX12_isSound_75 (lv_at hl.1 4 rfl) ?_
          refine g_imul X dX12_isSound_77 ?_
          refine lv_iload X.1 X.2.1 dX12_isSound_78 (lv_at hl.1 5 rfl) ?_
          refine g_iadd X dX12_isSound_80 ?_
          obtain ⟨hg, hf_⟩ := og_e hf; clear hf; have hf := hf_; clear hf_
          have nd81 : nmI (M 64 0 (wI ((wI (4 * z5)) + x6)).toNat) := hH.1.1 _ _ _
          have bd81 := hH.1.2.1 64 0 ((wI ((wI (4 * z5)) + x6)).toNat) rfl
          refine g_zald X hH (r := 64) (i := 0) (by decide) rfl (nmI_w _) hg (v := M 64 0 (wI ((wI (4 * z5)) + x6)).toNat) rfl dX12_isSound_81 ?_
          refine g_if_ne X nd81 (tgt := 89) dX12_isSound_82 (by decide) (fun hc82 => ?_) (fun hc82 => ?_)
          · replace hf := it_f hf hc82
            refine lv_iconst X.1 X.2.1 dX12_isSound_89 (v := iI 0) rfl ?_
            exact hk90 0 (by decide) hf _ _ _ hH hS (gLv_sub hl [0, 1, 2, 4, 5] rfl)
          · replace hf := it_t hf hc82
            exact hk85  hf _ _ _ hH hS (gLv_sub hl [0, 1, 2, 4, 5] rfl)
theorem w_X12_isSound_L14 {G : gG} {p : Program} {l : Launch} {e : Env} {s : State} {m : MethodId} {args : Array Value} {below : List Frame} {meth : Method} {c : Code} (X : gX G p s m args meth c RX12 cX12_isSound 7 (some .boolean) (gWs yX12_isSound cX12_isSound 7 (some .boolean))) (k104 : Int → Option (Int)) (z2 : Int) (bz2 : z2 = 0 ∨ z2 = 1) (z3 : Int) (nz3 : nmI z3) (M : gM) (q : (Int)) (hk104 : ∀ (x4 : Int) (bx4 : x4 = 0 ∨ x4 = 1), k104 x4 = some q → ∀ (H : Heap) (locs : List Loc) (ls : Array Slot), gH G M H → va_S (gA G) s.heap H locs → gLv ls 7 [(4, .int (iI x4))] → W p l e { frames := 2, cells := 0, slots := 0, locals := 48 } s m args below meth c H locs 0 0 (MQ below (gQz G q M) args s 0 0 (gA G)) (F0 m 104 ls [])) : ∀ (n : Nat) (x4 : Int) (bx4 : x4 = 0 ∨ x4 = 1) (x5 : Int) (nx5 : nmI x5), f_X12_isSound_L14 k104 z2 z3 M n x4 x5 = some q → ∀ (H : Heap) (locs : List Loc) (ls : Array Slot), gH G M H → va_S (gA G) s.heap H locs → gLv ls 7 [(0, .ref (gAd G 29 0)), (2, .int (iI z2)), (3, .int (iI z3)), (4, .int (iI x4)), (5, .int (iI x5))] → W p l e { frames := 2, cells := 0, slots := 0, locals := 48 } s m args below meth c H locs 0 0 (MQ below (gQz G q M) args s 0 0 (gA G)) (F0 m 14 ls []) := by
  intro n
  induction n with
  | zero =>
    intro x4 bx4 x5 nx5 hf
    cases hf
  | succ n ih =>
    intro x4 bx4 x5 nx5 hf H locs ls hH hS hl
    rw [f_X12_isSound_L14] at hf
    refine lv_iload X.1 X.2.1 dX12_isSound_14 (lv_at hl.1 4 rfl) ?_
    refine lv_aload_n X.1 X.2.1 dX12_isSound_16 rfl (lv_at hl.1 0 rfl) ?_
    have nd17 : nmI (M 29 0 7) := hH.1.1 _ _ _
    refine g_get X cX12 hH (r := 29) (i := 0) (by decide) rfl 7 (by decide) k_408 rfl (v := .int (iI (M 29 0 7))) rfl dX12_isSound_17 ?_
    refine g_icmp_ge X nx5 nd17 (tgt := 104) dX12_isSound_20 (by decide) (fun hc20 => ?_) (fun hc20 => ?_)
    · replace hf := it_f hf hc20
      exact hk104 x4 bx4 hf _ _ _ hH hS (gLv_sub hl [3] rfl)
    · replace hf := it_t hf hc20
      refine lv_iload X.1 X.2.1 dX12_isSound_23 (lv_at hl.1 3 rfl) ?_
      refine g_if_eq X (nmI_b bx4) (tgt := 104) dX12_isSound_25 (by decide) (fun hc25 => ?_) (fun hc25 => ?_)
      · replace hf := it_t hf hc25
        exact hk104 x4 bx4 hf _ _ _ hH hS (gLv_sub hl [3] rfl)
      · replace hf := it_f hf hc25
        refine lv_iload_n X.1 X.2.1 dX12_isSound_28 rfl (lv_at hl.1 2 rfl) ?_
        refine lv_iload X.1 X.2.1 dX12_isSound_29 (lv_at hl.1 4 rfl) ?_
        refine g_ishr X dX12_isSound_31 ?_
        refine lv_iconst X.1 X.2.1 dX12_isSound_32 (v := iI 1) rfl ?_
        refine g_iand X dX12_isSound_33 ?_
        refine lv_iconst X.1 X.2.1 dX12_isSound_34 (v := iI 1) rfl ?_
        obtain ⟨k98, ek98, hf_⟩ := oj_e hf; clear hf; have hf := hf_; clear hf_
        have hk98 : ∀ (x4_98 : Int) (bx4_98 : x4_98 = 0 ∨ x4_98 = 1), k98 x4_98 = some q → ∀ (H : Heap) (locs : List Loc) (ls : Array Slot), gH G M H → va_S (gA G) s.heap H locs → gLv ls 7 [(0, .ref (gAd G 29 0)), (2, .int (iI z2)), (3, .int (iI z3)), (4, .int (iI x4_98)), (5, .int (iI x5))] → W p l e { frames := 2, cells := 0, slots := 0, locals := 48 } s m args below meth c H locs 0 0 (MQ below (gQz G q M) args s 0 0 (gA G)) (F0 m 98 ls []) := by
          intro x4_98 bx4_98 hf H locs ls hH hS hl
          subst ek98
          refine g_iinc X (a := x5) (lv' := [(5, .int (iI (wI (x5 + 1)))), (0, .ref (gAd G 29 0)), (2, .int (iI z2)), (3, .int (iI z3)), (4, .int (iI x4_98))]) dX12_isSound_98 hl (k := 4) rfl (by decide) rfl (fun ls hl => ?_)
          refine lv_goto (tgt := 14) X.1 X.2.1 dX12_isSound_101 (by decide) ?_
          exact ih x4_98 bx4_98 (wI (x5 + 1)) (nmI_w _) hf _ _ _ hH hS (gLv_sub hl [1, 2, 3, 4, 0] rfl)
        clear ek98
        refine g_icmp_ne X (nmI_and _ _) (nmI_l (by decide)) (tgt := 98) dX12_isSound_35 (by decide) (fun hc35 => ?_) (fun hc35 => ?_)
        · replace hf := it_f hf hc35
          exact hk98 x4 bx4 hf _ _ _ hH hS (gLv_sub hl [0, 1, 2, 3, 4] rfl)
        · replace hf := it_t hf hc35
          refine lv_aload_n X.1 X.2.1 dX12_isSound_38 rfl (lv_at hl.1 0 rfl) ?_
          refine lv_iload X.1 X.2.1 dX12_isSound_39 (lv_at hl.1 4 rfl) ?_
          obtain ⟨r41, hq41, hf_⟩ := ob_e hf; clear hf; have hf := hf_; clear hf_
          refine gGoZ (gRunV X hH (As := [.int (iI x5)]) (m_X12_isDone l G x5 nx5 M _ hq41) calX12_isDone k_1042 k_1133 k_512 (by decide) cX12 rfl ⟨by decide, by decide⟩ rfl hl rfl (Nat.le_of_ble_eq_true rfl) ⟨Nat.le_refl 0, Nat.le_refl 0⟩ dX12_isSound_41) hS (fun H locs br41 hH hS => ?_)
          refine g_istore X (lv' := [(4, .int (iI r41)), (0, .ref (gAd G 29 0)), (2, .int (iI z2)), (3, .int (iI z3)), (5, .int (iI x5))]) dX12_isSound_44 hl (by decide) rfl (fun ls hl => ?_)
          refine lv_iconst X.1 X.2.1 dX12_isSound_46 (v := iI 0) rfl ?_
          refine g_istore X (lv' := [(6, .int (iI 0)), (4, .int (iI r41)), (0, .ref (gAd G 29 0)), (2, .int (iI z2)), (3, .int (iI z3)), (5, .int (iI x5))]) dX12_isSound_47 hl (by decide) rfl (fun ls hl => ?_)
          refine w_X12_isSound_L49 X _ z2 bz2 z3 nz3 x5 nx5 M q ?_ 64 r41 br41 0 (nmI_l (by decide)) hf _ _ _ hH hS (gLv_sub hl [2, 3, 4, 1, 5, 0] rfl)
          · intro y4_49_98 by4_49_98 hf H locs ls hH hS hl
            exact hk98 y4_49_98 by4_49_98 hf _ _ _ hH hS (gLv_sub hl [0, 1, 2, 3, 4] rfl)
theorem m_X12_isSound (l : Launch) (G : gG) (v1 : Int) (nv1 : nmI v1) (v2 : Int) (bv2 : v2 = 0 ∨ v2 = 1) (M : gM) (q : (Int)) (hf : f_X12_isSound v1 v2 M = some q) : gMet l yX12_isSound cX12_isSound 7 (some .boolean) 2 48 G M [.ref (gAd G 29 0), .int (iI v1), .int (iI v2)] (gQz G q M) := by
  refine gOfW (by decide) (by show _ ≤ 7; exact Nat.le_of_ble_eq_true rfl) rfl ?_
  intro p e s m below meth c X hH ls hl
  replace hl : gLv ls 7 [(0, .ref (gAd G 29 0)), (1, .int (iI v1)), (2, .int (iI v2))] := hl
  have hS : va_S (gA G) s.heap s.heap [] := va_S.rf
  generalize hargs : ([.ref (gAd G 29 0), .int (iI v1), .int (iI v2)] : List Value).toArray = args at X ⊢
  clear hargs
  unfold f_X12_isSound at hf
  refine lv_aload_n X.1 X.2.1 dX12_isSound_0 rfl (lv_at hl.1 0 rfl) ?_
  refine lv_iconst X.1 X.2.1 dX12_isSound_1 (v := iI 1) rfl ?_
  refine lv_iload_n X.1 X.2.1 dX12_isSound_2 rfl (lv_at hl.1 1 rfl) ?_
  refine g_ishl X dX12_isSound_3 ?_
  obtain ⟨r4, hq4, hf_⟩ := ob_e hf; clear hf; have hf := hf_; clear hf_
  refine gGoI (gRunV X hH (As := [.int (iI (gShl 1 v1))]) (m_X12_neededBy l G (gShl 1 v1) (nmI_shl _ _) M _ hq4) calX12_neededBy k_981 k_1110 k_484 (by decide) cX12 rfl ⟨by decide, by decide⟩ rfl hl rfl (Nat.le_of_ble_eq_true rfl) ⟨Nat.le_refl 0, Nat.le_refl 0⟩ dX12_isSound_4) hS (fun H locs nr4 hH hS => ?_)
  refine g_istore_n X (lv' := [(3, .int (iI r4)), (0, .ref (gAd G 29 0)), (1, .int (iI v1)), (2, .int (iI v2))]) dX12_isSound_7 rfl hl (by decide) rfl (fun ls hl => ?_)
  refine lv_iconst X.1 X.2.1 dX12_isSound_8 (v := iI 1) rfl ?_
  refine g_istore X (lv' := [(4, .int (iI 1)), (3, .int (iI r4)), (0, .ref (gAd G 29 0)), (1, .int (iI v1)), (2, .int (iI v2))]) dX12_isSound_9 hl (by decide) rfl (fun ls hl => ?_)
  refine lv_iconst X.1 X.2.1 dX12_isSound_11 (v := iI 0) rfl ?_
  refine g_istore X (lv' := [(5, .int (iI 0)), (4, .int (iI 1)), (3, .int (iI r4)), (0, .ref (gAd G 29 0)), (1, .int (iI v1)), (2, .int (iI v2))]) dX12_isSound_12 hl (by decide) rfl (fun ls hl => ?_)
  refine w_X12_isSound_L14 X _ v2 bv2 r4 nr4 M q ?_ 64 1 (by decide) 0 (nmI_l (by decide)) hf _ _ _ hH hS (gLv_sub hl [3, 5, 2, 1, 0] rfl)
  · intro y4_14_104 by4_14_104 hf H locs ls hH hS hl
    refine lv_iload X.1 X.2.1 dX12_isSound_104 (lv_at hl.1 0 rfl) ?_
    have hq := Option.some.inj hf; subst hq
    exact gRetZ X hH hS (res := y4_14_104) by4_14_104 dX12_isSound_106
theorem w_X12_isStale_L8 {G : gG} {p : Program} {l : Launch} {e : Env} {s : State} {m : MethodId} {args : Array Value} {below : List Frame} {meth : Method} {c : Code} (X : gX G p s m args meth c RX12 cX12_isStale 4 (some .boolean) (gWs yX12_isStale cX12_isStale 4 (some .boolean))) (k55 : Int → Option (Int × gM)) (z1 : Int) (nz1 : nmI z1) (M : gM) (q : (Int × gM)) (hk55 : ∀ (x2 : Int) (bx2 : x2 = 0 ∨ x2 = 1), k55 x2 = some q → ∀ (H : Heap) (locs : List Loc) (ls : Array Slot), gH G M H → va_S (gA G) s.heap H locs → gLv ls 4 [(0, .ref (gAd G 29 0)), (1, .int (iI z1)), (2, .int (iI x2))] → W p l e { frames := 4, cells := 0, slots := 0, locals := 90 } s m args below meth c H locs 0 0 (MQ below (gQz G q.1 q.2) args s 0 0 (gA G)) (F0 m 55 ls [])) : ∀ (n : Nat) (x2 : Int) (bx2 : x2 = 0 ∨ x2 = 1) (x3 : Int) (nx3 : nmI x3), f_X12_isStale_L8 k55 z1 M n x2 x3 = some q → ∀ (H : Heap) (locs : List Loc) (ls : Array Slot), gH G M H → va_S (gA G) s.heap H locs → gLv ls 4 [(0, .ref (gAd G 29 0)), (1, .int (iI z1)), (2, .int (iI x2)), (3, .int (iI x3))] → W p l e { frames := 4, cells := 0, slots := 0, locals := 90 } s m args below meth c H locs 0 0 (MQ below (gQz G q.1 q.2) args s 0 0 (gA G)) (F0 m 8 ls []) := by
  intro n
  induction n with
  | zero =>
    intro x2 bx2 x3 nx3 hf
    cases hf
  | succ n ih =>
    intro x2 bx2 x3 nx3 hf H locs ls hH hS hl
    rw [f_X12_isStale_L8] at hf
    refine lv_iload_n X.1 X.2.1 dX12_isStale_8 rfl (lv_at hl.1 3 rfl) ?_
    refine lv_aload_n X.1 X.2.1 dX12_isStale_9 rfl (lv_at hl.1 0 rfl) ?_
    refine g_get X cX12 hH (r := 29) (i := 0) (by decide) rfl 11 (by decide) k_412 rfl (v := .ref (gAd G 38 0)) rfl dX12_isStale_10 ?_
    refine lv_iload_n X.1 X.2.1 dX12_isStale_13 rfl (lv_at hl.1 1 rfl) ?_
    obtain ⟨hg, hf_⟩ := og_e hf; clear hf; have hf := hf_; clear hf_
    have nd14 : nmI (M 38 0 z1.toNat) := hH.1.1 _ _ _
    refine g_iald X hH (r := 38) (i := 0) (by decide) rfl nz1 hg (v := M 38 0 z1.toNat) rfl dX12_isStale_14 ?_
    refine g_icmp_ge X nx3 nd14 (tgt := 55) dX12_isStale_15 (by decide) (fun hc15 => ?_) (fun hc15 => ?_)
    · replace hf := it_f hf hc15
      exact hk55 x2 bx2 hf _ _ _ hH hS (gLv_sub hl [0, 1, 2] rfl)
    · replace hf := it_t hf hc15
      refine lv_iload_n X.1 X.2.1 dX12_isStale_18 rfl (lv_at hl.1 2 rfl) ?_
      refine lv_aload_n X.1 X.2.1 dX12_isStale_19 rfl (lv_at hl.1 0 rfl) ?_
      refine g_get X cX12 hH (r := 29) (i := 0) (by decide) rfl 39 (by decide) k_440 rfl (v := .ref (gAd G 61 0)) rfl dX12_isStale_20 ?_
      refine lv_iconst X.1 X.2.1 dX12_isStale_23 (v := iI 4) rfl ?_
      refine lv_iload_n X.1 X.2.1 dX12_isStale_24 rfl (lv_at hl.1 1 rfl) ?_
      refine g_imul X dX12_isStale_25 ?_
      refine lv_iload_n X.1 X.2.1 dX12_isStale_26 rfl (lv_at hl.1 3 rfl) ?_
      refine g_iadd X dX12_isStale_27 ?_
      obtain ⟨hg, hf_⟩ := og_e hf; clear hf; have hf := hf_; clear hf_
      have nd28 : nmI (M 61 0 (wI ((wI (4 * z1)) + x3)).toNat) := hH.1.1 _ _ _
      refine g_iald X hH (r := 61) (i := 0) (by decide) rfl (nmI_w _) hg (v := M 61 0 (wI ((wI (4 * z1)) + x3)).toNat) rfl dX12_isStale_28 ?_
      refine lv_aload_n X.1 X.2.1 dX12_isStale_29 rfl (lv_at hl.1 0 rfl) ?_
      refine g_get X cX12 hH (r := 29) (i := 0) (by decide) rfl 51 (by decide) k_452 rfl (v := .ref (gAd G 70 0)) rfl dX12_isStale_30 ?_
      refine lv_iconst X.1 X.2.1 dX12_isStale_33 (v := iI 4) rfl ?_
      refine lv_iload_n X.1 X.2.1 dX12_isStale_34 rfl (lv_at hl.1 1 rfl) ?_
      refine g_imul X dX12_isStale_35 ?_
      refine lv_iload_n X.1 X.2.1 dX12_isStale_36 rfl (lv_at hl.1 3 rfl) ?_
      refine g_iadd X dX12_isStale_37 ?_
      obtain ⟨hg, hf_⟩ := og_e hf; clear hf; have hf := hf_; clear hf_
      have nd38 : nmI (M 70 0 (wI ((wI (4 * z1)) + x3)).toNat) := hH.1.1 _ _ _
      refine g_iald X hH (r := 70) (i := 0) (by decide) rfl (nmI_w _) hg (v := M 70 0 (wI ((wI (4 * z1)) + x3)).toNat) rfl dX12_isStale_38 ?_
      obtain ⟨k47, ek47, hf_⟩ := oj_e hf; clear hf; have hf := hf_; clear hf_
      have hk47 : ∀ (xs1_47 : Int) (bxs1_47 : xs1_47 = 0 ∨ xs1_47 = 1), k47 xs1_47 = some q → ∀ (H : Heap) (locs : List Loc) (ls : Array Slot), gH G M H → va_S (gA G) s.heap H locs → gLv ls 4 [(0, .ref (gAd G 29 0)), (1, .int (iI z1)), (3, .int (iI x3))] → W p l e { frames := 4, cells := 0, slots := 0, locals := 90 } s m args below meth c H locs 0 0 (MQ below (gQz G q.1 q.2) args s 0 0 (gA G)) (F0 m 47 ls [.int (iI xs1_47), .int (iI x2)]) := by
        intro xs1_47 bxs1_47 hf H locs ls hH hS hl
        subst ek47
        refine g_ior X dX12_isStale_47 ?_
        refine g_istore_n X (lv' := [(2, .int (iI (gOr x2 xs1_47))), (0, .ref (gAd G 29 0)), (1, .int (iI z1)), (3, .int (iI x3))]) dX12_isStale_48 rfl hl (by decide) rfl (fun ls hl => ?_)
        refine g_iinc X (a := x3) (lv' := [(3, .int (iI (wI (x3 + 1)))), (2, .int (iI (gOr x2 xs1_47))), (0, .ref (gAd G 29 0)), (1, .int (iI z1))]) dX12_isStale_49 hl (k := 3) rfl (by decide) rfl (fun ls hl => ?_)
        refine lv_goto (tgt := 8) X.1 X.2.1 dX12_isStale_52 (by decide) ?_
        exact ih (gOr x2 xs1_47) (b01_or bx2 bxs1_47) (wI (x3 + 1)) (nmI_w _) hf _ _ _ hH hS (gLv_sub hl [2, 3, 1, 0] rfl)
      clear ek47
      refine g_icmp_eq X nd28 nd38 (tgt := 46) dX12_isStale_39 (by decide) (fun hc39 => ?_) (fun hc39 => ?_)
      · replace hf := it_t hf hc39
        refine lv_iconst X.1 X.2.1 dX12_isStale_46 (v := iI 0) rfl ?_
        exact hk47 0 (by decide) hf _ _ _ hH hS (gLv_sub hl [0, 1, 3] rfl)
      · replace hf := it_f hf hc39
        refine lv_iconst X.1 X.2.1 dX12_isStale_42 (v := iI 1) rfl ?_
        refine lv_goto (tgt := 47) X.1 X.2.1 dX12_isStale_43 (by decide) ?_
        exact hk47 1 (by decide) hf _ _ _ hH hS (gLv_sub hl [0, 1, 3] rfl)
theorem m_X12_isStale (l : Launch) (G : gG) (v1 : Int) (nv1 : nmI v1) (M : gM) (q : (Int × gM)) (hf : f_X12_isStale v1 M = some q) : gMet l yX12_isStale cX12_isStale 4 (some .boolean) 4 90 G M [.ref (gAd G 29 0), .int (iI v1)] (gQz G q.1 q.2) := by
  refine gOfW (by decide) (by show _ ≤ 4; exact Nat.le_of_ble_eq_true rfl) rfl ?_
  intro p e s m below meth c X hH ls hl
  replace hl : gLv ls 4 [(0, .ref (gAd G 29 0)), (1, .int (iI v1))] := hl
  have hS : va_S (gA G) s.heap s.heap [] := va_S.rf
  generalize hargs : ([.ref (gAd G 29 0), .int (iI v1)] : List Value).toArray = args at X ⊢
  clear hargs
  unfold f_X12_isStale at hf
  refine lv_iconst X.1 X.2.1 dX12_isStale_0 (v := iI 0) rfl ?_
  refine g_istore_n X (lv' := [(2, .int (iI 0)), (0, .ref (gAd G 29 0)), (1, .int (iI v1))]) dX12_isStale_1 rfl hl (by decide) rfl (fun ls hl => ?_)
  refine lv_aload_n X.1 X.2.1 dX12_isStale_2 rfl (lv_at hl.1 1 rfl) ?_
  obtain ⟨r3, hq3, hf_⟩ := ob_e hf; clear hf; have hf := hf_; clear hf_
  refine gGoV (gRunV X hH (As := []) (m_X12_freshenNow l G  M _ hq3) calX12_freshenNow k_1036 k_1130 k_509 (by decide) cX12 rfl ⟨by decide, by decide⟩ rfl hl rfl (Nat.le_of_ble_eq_true rfl) ⟨Nat.le_refl 0, Nat.le_refl 0⟩ dX12_isStale_3) hS (fun H locs hH hS => ?_)
  refine lv_iconst X.1 X.2.1 dX12_isStale_6 (v := iI 0) rfl ?_
  refine g_istore_n X (lv' := [(3, .int (iI 0)), (2, .int (iI 0)), (0, .ref (gAd G 29 0)), (1, .int (iI v1))]) dX12_isStale_7 rfl hl (by decide) rfl (fun ls hl => ?_)
  refine w_X12_isStale_L8 X _ v1 nv1 r3 q ?_ 64 0 (by decide) 0 (nmI_l (by decide)) hf _ _ _ hH hS (gLv_sub hl [2, 3, 1, 0] rfl)
  · intro y2_8_55 by2_8_55 hf H locs ls hH hS hl
    refine lv_iload_n X.1 X.2.1 dX12_isStale_55 rfl (lv_at hl.1 2 rfl) ?_
    refine g_if_eq X (nmI_b by2_8_55) (tgt := 71) dX12_isStale_56 (by decide) (fun hc56 => ?_) (fun hc56 => ?_)
    · replace hf := it_t hf hc56
      refine lv_iconst X.1 X.2.1 dX12_isStale_71 (v := iI 0) rfl ?_
      have hq := Option.some.inj hf; subst hq
      exact gRetZ X hH hS (res := 0) (by decide) dX12_isStale_72
    · replace hf := it_f hf hc56
      refine lv_aload_n X.1 X.2.1 dX12_isStale_59 rfl (lv_at hl.1 0 rfl) ?_
      refine lv_iload_n X.1 X.2.1 dX12_isStale_60 rfl (lv_at hl.1 1 rfl) ?_
      obtain ⟨r61, hq61, hf_⟩ := ob_e hf; clear hf; have hf := hf_; clear hf_
      refine gGoZ (gRunV X hH (As := [.int (iI v1)]) (m_X12_isDone l G v1 nv1 r3 _ hq61) calX12_isDone k_1042 k_1133 k_512 (by decide) cX12 rfl ⟨by decide, by decide⟩ rfl hl rfl (Nat.le_of_ble_eq_true rfl) ⟨Nat.le_refl 0, Nat.le_refl 0⟩ dX12_isStale_61) hS (fun H locs br61 hH hS => ?_)
      refine g_if_eq X (nmI_b br61) (tgt := 71) dX12_isStale_64 (by decide) (fun hc64 => ?_) (fun hc64 => ?_)
      · replace hf := it_t hf hc64
        refine lv_iconst X.1 X.2.1 dX12_isStale_71 (v := iI 0) rfl ?_
        have hq := Option.some.inj hf; subst hq
        exact gRetZ X hH hS (res := 0) (by decide) dX12_isStale_72
      · replace hf := it_f hf hc64
        refine lv_iconst X.1 X.2.1 dX12_isStale_67 (v := iI 1) rfl ?_
        refine lv_goto (tgt := 72) X.1 X.2.1 dX12_isStale_68 (by decide) ?_
        have hq := Option.some.inj hf; subst hq
        exact gRetZ X hH hS (res := 1) (by decide) dX12_isStale_72
theorem m_X12_about (l : Launch) (G : gG) (v1 : Int) (nv1 : nmI v1) (v2 : Int) (nv2 : nmI v2) (M : gM) (q : (Int × gM)) (hf : f_X12_about v1 v2 M = some q) : gMet l yX12_about cX12_about 4 (some .int) 5 113 G M [.ref (gAd G 29 0), .int (iI v1), .int (iI v2)] (gQi G q.1 q.2) := by
  refine gOfW (by decide) (by show _ ≤ 4; exact Nat.le_of_ble_eq_true rfl) rfl ?_
  intro p e s m below meth c X hH ls hl
  replace hl : gLv ls 4 [(0, .ref (gAd G 29 0)), (1, .int (iI v1)), (2, .int (iI v2))] := hl
  have hS : va_S (gA G) s.heap s.heap [] := va_S.rf
  generalize hargs : ([.ref (gAd G 29 0), .int (iI v1), .int (iI v2)] : List Value).toArray = args at X ⊢
  clear hargs
  unfold f_X12_about at hf
  refine lv_aload_n X.1 X.2.1 dX12_about_0 rfl (lv_at hl.1 0 rfl) ?_
  refine lv_aload_n X.1 X.2.1 dX12_about_1 rfl (lv_at hl.1 0 rfl) ?_
  refine lv_iload_n X.1 X.2.1 dX12_about_2 rfl (lv_at hl.1 1 rfl) ?_
  refine gGoZ (gRunV X hH (As := [.int (iI v1)]) (m_X12_isTarget l G v1 nv1 M _ rfl) calX12_isTarget k_942 k_1105 k_466 (by decide) cX12 rfl ⟨by decide, by decide⟩ rfl hl rfl (Nat.le_of_ble_eq_true rfl) ⟨Nat.le_refl 0, Nat.le_refl 0⟩ dX12_about_3) hS (fun H locs br3 hH hS => ?_)
  refine lv_iload_n X.1 X.2.1 dX12_about_6 rfl (lv_at hl.1 2 rfl) ?_
  refine lv_iconst X.1 X.2.1 dX12_about_7 (v := iI 0) rfl ?_
  refine lv_iconst X.1 X.2.1 dX12_about_8 (v := iI 5) rfl ?_
  refine gGoZ (gRunS X hH (As := [.int (iI v2), .int (iI 0), .int (iI 5)]) (m_X12_in l G v2 nv2 0 (nmI_l (by decide)) 5 (nmI_l (by decide)) M _ rfl) calX12_in k_925 k_459 ⟨by decide, by decide⟩ rfl hl rfl (Nat.le_of_ble_eq_true rfl) ⟨Nat.le_refl 0, Nat.le_refl 0⟩ dX12_about_9) hS (fun H locs br9 hH hS => ?_)
  refine gGoZ (gRunV X hH (As := [.int (iI ((f_X12_isTarget v1 M))), .int (iI ((f_X12_in v2 0 5 M)))]) (m_X12_asked_ l G ((f_X12_isTarget v1 M)) br3 ((f_X12_in v2 0 5 M)) br9 M _ rfl) calX12_asked_ k_932 k_1103 k_462 (by decide) cX12 rfl ⟨by decide, by decide⟩ rfl hl rfl (Nat.le_of_ble_eq_true rfl) ⟨Nat.le_refl 0, Nat.le_refl 0⟩ dX12_about_12) hS (fun H locs br12 hH hS => ?_)
  refine g_if_ne X (nmI_b br12) (tgt := 20) dX12_about_15 (by decide) (fun hc15 => ?_) (fun hc15 => ?_)
  · replace hf := it_f hf hc15
    refine lv_iload_n X.1 X.2.1 dX12_about_20 rfl (lv_at hl.1 2 rfl) ?_
    refine lv_iconst X.1 X.2.1 dX12_about_21 (v := iI 5) rfl ?_
    refine g_icmp_ne X nv2 (nmI_l (by decide)) (tgt := 43) dX12_about_22 (by decide) (fun hc22 => ?_) (fun hc22 => ?_)
    · replace hf := it_f hf hc22
      refine lv_aload_n X.1 X.2.1 dX12_about_43 rfl (lv_at hl.1 0 rfl) ?_
      obtain ⟨r44, hq44, hf_⟩ := ob_e hf; clear hf; have hf := hf_; clear hf_
      refine gGoV (gRunV X hH (As := []) (m_X12_freshenNow l G  ((f_X12_asked_ ((f_X12_isTarget v1 M)) ((f_X12_in v2 0 5 M)) M).2) _ hq44) calX12_freshenNow k_1036 k_1130 k_509 (by decide) cX12 rfl ⟨by decide, by decide⟩ rfl hl rfl (Nat.le_of_ble_eq_true rfl) ⟨Nat.le_refl 0, Nat.le_refl 0⟩ dX12_about_44) hS (fun H locs hH hS => ?_)
      refine lv_iload_n X.1 X.2.1 dX12_about_47 rfl (lv_at hl.1 2 rfl) ?_
      refine lv_iconst X.1 X.2.1 dX12_about_48 (v := iI 4) rfl ?_
      refine g_icmp_ne X nv2 (nmI_l (by decide)) (tgt := 59) dX12_about_49 (by decide) (fun hc49 => ?_) (fun hc49 => ?_)
      · replace hf := it_f hf hc49
        refine lv_iload_n X.1 X.2.1 dX12_about_59 rfl (lv_at hl.1 2 rfl) ?_
        obtain ⟨k114, ek114, hf_⟩ := oj_e hf; clear hf; have hf := hf_; clear hf_
        have hk114 : ∀ (xs0_114 : Int) (bxs0_114 : xs0_114 = 0 ∨ xs0_114 = 1) (M_114 : gM), k114 xs0_114 M_114 = some q → ∀ (H : Heap) (locs : List Loc) (ls : Array Slot), gH G M_114 H → va_S (gA G) s.heap H locs → gLv ls 4 [] → W p l e { frames := 5, cells := 0, slots := 0, locals := 113 } s m args below meth c H locs 0 0 (MQ below (gQi G q.1 q.2) args s 0 0 (gA G)) (F0 m 114 ls [.int (iI xs0_114)]) := by
          intro xs0_114 bxs0_114 M_114 hf H locs ls hH hS hl
          subst ek114
          refine g_istore_n X (lv' := [(3, .int (iI xs0_114))]) dX12_about_114 rfl hl (by decide) rfl (fun ls hl => ?_)
          refine lv_iload_n X.1 X.2.1 dX12_about_115 rfl (lv_at hl.1 0 rfl) ?_
          refine g_if_eq X (nmI_b bxs0_114) (tgt := 123) dX12_about_116 (by decide) (fun hc116 => ?_) (fun hc116 => ?_)
          · replace hf := it_t hf hc116
            refine lv_iconst X.1 X.2.1 dX12_about_123 (v := iI 0) rfl ?_
            have hq := Option.some.inj hf; subst hq
            exact gRetI X hH hS (res := 0) (nmI_l (by decide)) dX12_about_124
          · replace hf := it_f hf hc116
            refine lv_iconst X.1 X.2.1 dX12_about_119 (v := iI 1) rfl ?_
            refine lv_goto (tgt := 124) X.1 X.2.1 dX12_about_120 (by decide) ?_
            have hq := Option.some.inj hf; subst hq
            exact gRetI X hH hS (res := 1) (nmI_l (by decide)) dX12_about_124
        clear ek114
        refine g_if_ne X nv2 (tgt := 72) dX12_about_60 (by decide) (fun hc60 => ?_) (fun hc60 => ?_)
        · replace hf := it_f hf hc60
          refine lv_iload_n X.1 X.2.1 dX12_about_72 rfl (lv_at hl.1 2 rfl) ?_
          refine lv_iconst X.1 X.2.1 dX12_about_73 (v := iI 1) rfl ?_
          refine g_icmp_ne X nv2 (nmI_l (by decide)) (tgt := 85) dX12_about_74 (by decide) (fun hc74 => ?_) (fun hc74 => ?_)
          · replace hf := it_f hf hc74
            refine lv_iload_n X.1 X.2.1 dX12_about_85 rfl (lv_at hl.1 2 rfl) ?_
            refine lv_iconst X.1 X.2.1 dX12_about_86 (v := iI 2) rfl ?_
            refine g_icmp_ne X nv2 (nmI_l (by decide)) (tgt := 108) dX12_about_87 (by decide) (fun hc87 => ?_) (fun hc87 => ?_)
            · replace hf := it_f hf hc87
              refine lv_aload_n X.1 X.2.1 dX12_about_108 rfl (lv_at hl.1 0 rfl) ?_
              refine g_get X cX12 hH (r := 29) (i := 0) (by decide) rfl 53 (by decide) k_454 rfl (v := .ref (gAd G 72 0)) rfl dX12_about_109 ?_
              refine lv_iload_n X.1 X.2.1 dX12_about_112 rfl (lv_at hl.1 1 rfl) ?_
              obtain ⟨hg, hf_⟩ := og_e hf; clear hf; have hf := hf_; clear hf_
              have nd113 : nmI (r44 72 0 v1.toNat) := hH.1.1 _ _ _
              have bd113 := hH.1.2.1 72 0 v1.toNat rfl
              refine g_zald X hH (r := 72) (i := 0) (by decide) rfl nv1 hg (v := r44 72 0 v1.toNat) rfl dX12_about_113 ?_
              exact hk114 (r44 72 0 v1.toNat) bd113 r44 hf _ _ _ hH hS (gLv_sub hl [] rfl)
            · replace hf := it_t hf hc87
              refine lv_aload_n X.1 X.2.1 dX12_about_90 rfl (lv_at hl.1 0 rfl) ?_
              refine g_get X cX12 hH (r := 29) (i := 0) (by decide) rfl 45 (by decide) k_446 rfl (v := .ref (gAd G 66 0)) rfl dX12_about_91 ?_
              refine lv_iload_n X.1 X.2.1 dX12_about_94 rfl (lv_at hl.1 1 rfl) ?_
              obtain ⟨hg, hf_⟩ := og_e hf; clear hf; have hf := hf_; clear hf_
              have nd95 : nmI (r44 66 0 v1.toNat) := hH.1.1 _ _ _
              refine g_iald X hH (r := 66) (i := 0) (by decide) rfl nv1 hg (v := r44 66 0 v1.toNat) rfl dX12_about_95 ?_
              refine lv_iconst X.1 X.2.1 dX12_about_96 (v := iI 2) rfl ?_
              refine g_icmp_lt X nd95 (nmI_l (by decide)) (tgt := 104) dX12_about_97 (by decide) (fun hc97 => ?_) (fun hc97 => ?_)
              · replace hf := it_t hf hc97
                refine lv_iconst X.1 X.2.1 dX12_about_104 (v := iI 0) rfl ?_
                refine lv_goto (tgt := 114) X.1 X.2.1 dX12_about_105 (by decide) ?_
                exact hk114 0 (by decide) r44 hf _ _ _ hH hS (gLv_sub hl [] rfl)
              · replace hf := it_f hf hc97
                refine lv_iconst X.1 X.2.1 dX12_about_100 (v := iI 1) rfl ?_
                refine lv_goto (tgt := 114) X.1 X.2.1 dX12_about_101 (by decide) ?_
                exact hk114 1 (by decide) r44 hf _ _ _ hH hS (gLv_sub hl [] rfl)
          · replace hf := it_t hf hc74
            refine lv_aload_n X.1 X.2.1 dX12_about_77 rfl (lv_at hl.1 0 rfl) ?_
            refine lv_iload_n X.1 X.2.1 dX12_about_78 rfl (lv_at hl.1 1 rfl) ?_
            obtain ⟨r79, hq79, hf_⟩ := ob_e hf; clear hf; have hf := hf_; clear hf_
            refine gGoZ (gRunV X hH (As := [.int (iI v1)]) (m_X12_isStale l G v1 nv1 r44 _ hq79) calX12_isStale k_1044 k_1134 k_513 (by decide) cX12 rfl ⟨by decide, by decide⟩ rfl hl rfl (Nat.le_of_ble_eq_true rfl) ⟨Nat.le_refl 0, Nat.le_refl 0⟩ dX12_about_79) hS (fun H locs br79 hH hS => ?_)
            refine lv_goto (tgt := 114) X.1 X.2.1 dX12_about_82 (by decide) ?_
            exact hk114 r79.1 br79 r79.2 hf _ _ _ hH hS (gLv_sub hl [] rfl)
        · replace hf := it_t hf hc60
          refine lv_aload_n X.1 X.2.1 dX12_about_63 rfl (lv_at hl.1 0 rfl) ?_
          refine lv_iload_n X.1 X.2.1 dX12_about_64 rfl (lv_at hl.1 1 rfl) ?_
          refine lv_iconst X.1 X.2.1 dX12_about_65 (v := iI 0) rfl ?_
          obtain ⟨r66, hq66, hf_⟩ := ob_e hf; clear hf; have hf := hf_; clear hf_
          refine gGoZ (gRunV X hH (As := [.int (iI v1), .int (iI 0)]) (m_X12_isSound l G v1 nv1 0 (by decide) r44 _ hq66) calX12_isSound k_1040 k_1132 k_511 (by decide) cX12 rfl ⟨by decide, by decide⟩ rfl hl rfl (Nat.le_of_ble_eq_true rfl) ⟨Nat.le_refl 0, Nat.le_refl 0⟩ dX12_about_66) hS (fun H locs br66 hH hS => ?_)
          refine lv_goto (tgt := 114) X.1 X.2.1 dX12_about_69 (by decide) ?_
          exact hk114 r66 br66 r44 hf _ _ _ hH hS (gLv_sub hl [] rfl)
      · replace hf := it_t hf hc49
        refine lv_aload_n X.1 X.2.1 dX12_about_52 rfl (lv_at hl.1 0 rfl) ?_
        refine g_get X cX12 hH (r := 29) (i := 0) (by decide) rfl 52 (by decide) k_453 rfl (v := .ref (gAd G 71 0)) rfl dX12_about_53 ?_
        refine lv_iload_n X.1 X.2.1 dX12_about_56 rfl (lv_at hl.1 1 rfl) ?_
        obtain ⟨hg, hf_⟩ := og_e hf; clear hf; have hf := hf_; clear hf_
        have nd57 : nmI (r44 71 0 v1.toNat) := hH.1.1 _ _ _
        refine g_iald X hH (r := 71) (i := 0) (by decide) rfl nv1 hg (v := r44 71 0 v1.toNat) rfl dX12_about_57 ?_
        have hq := Option.some.inj hf; subst hq
        exact gRetI X hH hS (res := r44 71 0 v1.toNat) nd57 dX12_about_58
    · replace hf := it_t hf hc22
      refine lv_aload_n X.1 X.2.1 dX12_about_25 rfl (lv_at hl.1 0 rfl) ?_
      refine lv_iload_n X.1 X.2.1 dX12_about_26 rfl (lv_at hl.1 1 rfl) ?_
      refine gGoZ (gRunV X hH (As := [.int (iI v1)]) (m_X12_isNeeded l G v1 nv1 ((f_X12_asked_ ((f_X12_isTarget v1 M)) ((f_X12_in v2 0 5 M)) M).2) _ rfl) calX12_isNeeded k_985 k_1112 k_486 (by decide) cX12 rfl ⟨by decide, by decide⟩ rfl hl rfl (Nat.le_of_ble_eq_true rfl) ⟨Nat.le_refl 0, Nat.le_refl 0⟩ dX12_about_27) hS (fun H locs br27 hH hS => ?_)
      refine g_if_eq X (nmI_b br27) (tgt := 41) dX12_about_30 (by decide) (fun hc30 => ?_) (fun hc30 => ?_)
      · replace hf := it_t hf hc30
        refine lv_iconst X.1 X.2.1 dX12_about_41 (v := iI (-1)) rfl ?_
        have hq := Option.some.inj hf; subst hq
        exact gRetI X hH hS (res := (-1)) (nmI_l (by decide)) dX12_about_42
      · replace hf := it_f hf hc30
        refine lv_aload_n X.1 X.2.1 dX12_about_33 rfl (lv_at hl.1 0 rfl) ?_
        refine lv_iload_n X.1 X.2.1 dX12_about_34 rfl (lv_at hl.1 1 rfl) ?_
        obtain ⟨r35, hq35, hf_⟩ := ob_e hf; clear hf; have hf := hf_; clear hf_
        refine gGoI (gRunV X hH (As := [.int (iI v1)]) (m_X12_wayOf l G v1 nv1 ((f_X12_asked_ ((f_X12_isTarget v1 M)) ((f_X12_in v2 0 5 M)) M).2) _ hq35) calX12_wayOf k_1010 k_1123 k_498 (by decide) cX12 rfl ⟨by decide, by decide⟩ rfl hl rfl (Nat.le_of_ble_eq_true rfl) ⟨Nat.le_refl 0, Nat.le_refl 0⟩ dX12_about_35) hS (fun H locs nr35 hH hS => ?_)
        refine lv_goto (tgt := 42) X.1 X.2.1 dX12_about_38 (by decide) ?_
        have hq := Option.some.inj hf; subst hq
        exact gRetI X hH hS (res := r35.1) nr35 dX12_about_42
  · replace hf := it_t hf hc15
    refine lv_iconst X.1 X.2.1 dX12_about_18 (v := iI 0) rfl ?_
    have hq := Option.some.inj hf; subst hq
    exact gRetI X hH hS (res := 0) (nmI_l (by decide)) dX12_about_19
theorem w_X12_proof_L75 {G : gG} {p : Program} {l : Launch} {e : Env} {s : State} {m : MethodId} {args : Array Value} {below : List Frame} {meth : Method} {c : Code} (X : gX G p s m args meth c RX12 cX12_proof 7 (some .int) (gWs yX12_proof cX12_proof 7 (some .int))) (k124 : Int → Option (Int × gM)) (z1 : Int) (nz1 : nmI z1) (z2 : Int) (nz2 : nmI z2) (z3 : Int) (nz3 : nmI z3) (M : gM) (q : (Int × gM)) (hk124 : ∀ (x4 : Int) (nx4 : nmI x4), k124 x4 = some q → ∀ (H : Heap) (locs : List Loc) (ls : Array Slot), gH G M H → va_S (gA G) s.heap H locs → gLv ls 7 [(0, .ref (gAd G 29 0)), (1, .int (iI z1)), (2, .int (iI z2)), (3, .int (iI z3)), (4, .int (iI x4))] → W p l e { frames := 3, cells := 0, slots := 0, locals := 74 } s m args below meth c H locs 0 0 (MQ below (gQi G q.1 q.2) args s 0 0 (gA G)) (F0 m 124 ls [])) : ∀ (n : Nat) (x4 : Int) (nx4 : nmI x4) (x5 : Int) (nx5 : nmI x5), f_X12_proof_L75 k124 z1 z2 z3 M n x4 x5 = some q → ∀ (H : Heap) (locs : List Loc) (ls : Array Slot), gH G M H → va_S (gA G) s.heap H locs → gLv ls 7 [(0, .ref (gAd G 29 0)), (1, .int (iI z1)), (2, .int (iI z2)), (3, .int (iI z3)), (4, .int (iI x4)), (5, .int (iI x5))] → W p l e { frames := 3, cells := 0, slots := 0, locals := 74 } s m args below meth c H locs 0 0 (MQ below (gQi G q.1 q.2) args s 0 0 (gA G)) (F0 m 75 ls []) := by
  intro n
  induction n with
  | zero =>
    intro x4 nx4 x5 nx5 hf
    cases hf
  | succ n ih =>
    intro x4 nx4 x5 nx5 hf H locs ls hH hS hl
    rw [f_X12_proof_L75] at hf
    refine lv_iload X.1 X.2.1 dX12_proof_75 (lv_at hl.1 5 rfl) ?_
    refine lv_aload_n X.1 X.2.1 dX12_proof_77 rfl (lv_at hl.1 0 rfl) ?_
    refine g_get X cX12 hH (r := 29) (i := 0) (by decide) rfl 11 (by decide) k_412 rfl (v := .ref (gAd G 38 0)) rfl dX12_proof_78 ?_
    refine lv_iload_n X.1 X.2.1 dX12_proof_81 rfl (lv_at hl.1 3 rfl) ?_
    obtain ⟨hg, hf_⟩ := og_e hf; clear hf; have hf := hf_; clear hf_
    have nd82 : nmI (M 38 0 z3.toNat) := hH.1.1 _ _ _
    refine g_iald X hH (r := 38) (i := 0) (by decide) rfl nz3 hg (v := M 38 0 z3.toNat) rfl dX12_proof_82 ?_
    refine g_icmp_ge X nx5 nd82 (tgt := 124) dX12_proof_83 (by decide) (fun hc83 => ?_) (fun hc83 => ?_)
    · replace hf := it_f hf hc83
      exact hk124 x4 nx4 hf _ _ _ hH hS (gLv_sub hl [0, 1, 2, 3, 4] rfl)
    · replace hf := it_t hf hc83
      refine lv_iload X.1 X.2.1 dX12_proof_86 (lv_at hl.1 4 rfl) ?_
      refine lv_aload_n X.1 X.2.1 dX12_proof_88 rfl (lv_at hl.1 0 rfl) ?_
      refine g_get X cX12 hH (r := 29) (i := 0) (by decide) rfl 39 (by decide) k_440 rfl (v := .ref (gAd G 61 0)) rfl dX12_proof_89 ?_
      refine lv_iconst X.1 X.2.1 dX12_proof_92 (v := iI 4) rfl ?_
      refine lv_iload_n X.1 X.2.1 dX12_proof_93 rfl (lv_at hl.1 3 rfl) ?_
      refine g_imul X dX12_proof_94 ?_
      refine lv_iload X.1 X.2.1 dX12_proof_95 (lv_at hl.1 5 rfl) ?_
      refine g_iadd X dX12_proof_97 ?_
      obtain ⟨hg, hf_⟩ := og_e hf; clear hf; have hf := hf_; clear hf_
      have nd98 : nmI (M 61 0 (wI ((wI (4 * z3)) + x5)).toNat) := hH.1.1 _ _ _
      refine g_iald X hH (r := 61) (i := 0) (by decide) rfl (nmI_w _) hg (v := M 61 0 (wI ((wI (4 * z3)) + x5)).toNat) rfl dX12_proof_98 ?_
      refine gGoI (gRunS X hH (As := [.int (iI x4), .int (iI (M 61 0 (wI ((wI (4 * z3)) + x5)).toNat))]) (m_X12_put l G x4 nx4 (M 61 0 (wI ((wI (4 * z3)) + x5)).toNat) nd98 M _ rfl) calX12_put k_962 k_475 ⟨by decide, by decide⟩ rfl hl rfl (Nat.le_of_ble_eq_true rfl) ⟨Nat.le_refl 0, Nat.le_refl 0⟩ dX12_proof_99) hS (fun H locs nr99 hH hS => ?_)
      refine lv_aload_n X.1 X.2.1 dX12_proof_102 rfl (lv_at hl.1 0 rfl) ?_
      refine g_get X cX12 hH (r := 29) (i := 0) (by decide) rfl 40 (by decide) k_441 rfl (v := .ref (gAd G 62 0)) rfl dX12_proof_103 ?_
      refine lv_iconst X.1 X.2.1 dX12_proof_106 (v := iI 4) rfl ?_
      refine lv_iload_n X.1 X.2.1 dX12_proof_107 rfl (lv_at hl.1 3 rfl) ?_
      refine g_imul X dX12_proof_108 ?_
      refine lv_iload X.1 X.2.1 dX12_proof_109 (lv_at hl.1 5 rfl) ?_
      refine g_iadd X dX12_proof_111 ?_
      obtain ⟨hg, hf_⟩ := og_e hf; clear hf; have hf := hf_; clear hf_
      have nd112 : nmI (M 62 0 (wI ((wI (4 * z3)) + x5)).toNat) := hH.1.1 _ _ _
      refine g_iald X hH (r := 62) (i := 0) (by decide) rfl (nmI_w _) hg (v := M 62 0 (wI ((wI (4 * z3)) + x5)).toNat) rfl dX12_proof_112 ?_
      refine gGoI (gRunS X hH (As := [.int (iI ((f_X12_put x4 (M 61 0 (wI ((wI (4 * z3)) + x5)).toNat) M))), .int (iI (M 62 0 (wI ((wI (4 * z3)) + x5)).toNat))]) (m_X12_put l G ((f_X12_put x4 (M 61 0 (wI ((wI (4 * z3)) + x5)).toNat) M)) nr99 (M 62 0 (wI ((wI (4 * z3)) + x5)).toNat) nd112 M _ rfl) calX12_put k_962 k_475 ⟨by decide, by decide⟩ rfl hl rfl (Nat.le_of_ble_eq_true rfl) ⟨Nat.le_refl 0, Nat.le_refl 0⟩ dX12_proof_113) hS (fun H locs nr113 hH hS => ?_)
      refine g_istore X (lv' := [(4, .int (iI ((f_X12_put ((f_X12_put x4 (M 61 0 (wI ((wI (4 * z3)) + x5)).toNat) M)) (M 62 0 (wI ((wI (4 * z3)) + x5)).toNat) M)))), (0, .ref (gAd G 29 0)), (1, .int (iI z1)), (2, .int (iI z2)), (3, .int (iI z3)), (5, .int (iI x5))]) dX12_proof_116 hl (by decide) rfl (fun ls hl => ?_)
      refine g_iinc X (a := x5) (lv' := [(5, .int (iI (wI (x5 + 1)))), (4, .int (iI ((f_X12_put ((f_X12_put x4 (M 61 0 (wI ((wI (4 * z3)) + x5)).toNat) M)) (M 62 0 (wI ((wI (4 * z3)) + x5)).toNat) M)))), (0, .ref (gAd G 29 0)), (1, .int (iI z1)), (2, .int (iI z2)), (3, .int (iI z3))]) dX12_proof_118 hl (k := 5) rfl (by decide) rfl (fun ls hl => ?_)
      refine lv_goto (tgt := 75) X.1 X.2.1 dX12_proof_121 (by decide) ?_
      exact ih ((f_X12_put ((f_X12_put x4 (M 61 0 (wI ((wI (4 * z3)) + x5)).toNat) M)) (M 62 0 (wI ((wI (4 * z3)) + x5)).toNat) M)) nr113 (wI (x5 + 1)) (nmI_w _) hf _ _ _ hH hS (gLv_sub hl [2, 3, 4, 5, 1, 0] rfl)
theorem w_X12_proof_L127 {G : gG} {p : Program} {l : Launch} {e : Env} {s : State} {m : MethodId} {args : Array Value} {below : List Frame} {meth : Method} {c : Code} (X : gX G p s m args meth c RX12 cX12_proof 7 (some .int) (gWs yX12_proof cX12_proof 7 (some .int))) (k182 : Int → Option (Int × gM)) (z1 : Int) (nz1 : nmI z1) (z2 : Int) (nz2 : nmI z2) (z3 : Int) (nz3 : nmI z3) (M : gM) (q : (Int × gM)) (hk182 : ∀ (x4 : Int) (nx4 : nmI x4), k182 x4 = some q → ∀ (H : Heap) (locs : List Loc) (ls : Array Slot), gH G M H → va_S (gA G) s.heap H locs → gLv ls 7 [(0, .ref (gAd G 29 0)), (1, .int (iI z1)), (2, .int (iI z2)), (3, .int (iI z3)), (4, .int (iI x4))] → W p l e { frames := 3, cells := 0, slots := 0, locals := 74 } s m args below meth c H locs 0 0 (MQ below (gQi G q.1 q.2) args s 0 0 (gA G)) (F0 m 182 ls [])) : ∀ (n : Nat) (x4 : Int) (nx4 : nmI x4) (x5 : Int) (nx5 : nmI x5), f_X12_proof_L127 k182 z1 z2 z3 M n x4 x5 = some q → ∀ (H : Heap) (locs : List Loc) (ls : Array Slot), gH G M H → va_S (gA G) s.heap H locs → gLv ls 7 [(0, .ref (gAd G 29 0)), (1, .int (iI z1)), (2, .int (iI z2)), (3, .int (iI z3)), (4, .int (iI x4)), (5, .int (iI x5))] → W p l e { frames := 3, cells := 0, slots := 0, locals := 74 } s m args below meth c H locs 0 0 (MQ below (gQi G q.1 q.2) args s 0 0 (gA G)) (F0 m 127 ls []) := by
  intro n
  induction n with
  | zero =>
    intro x4 nx4 x5 nx5 hf
    cases hf
  | succ n ih =>
    intro x4 nx4 x5 nx5 hf H locs ls hH hS hl
    rw [f_X12_proof_L127] at hf
    refine lv_iload X.1 X.2.1 dX12_proof_127 (lv_at hl.1 5 rfl) ?_
    refine lv_aload_n X.1 X.2.1 dX12_proof_129 rfl (lv_at hl.1 0 rfl) ?_
    refine g_get X cX12 hH (r := 29) (i := 0) (by decide) rfl 14 (by decide) k_415 rfl (v := .ref (gAd G 41 0)) rfl dX12_proof_130 ?_
    refine lv_iload_n X.1 X.2.1 dX12_proof_133 rfl (lv_at hl.1 3 rfl) ?_
    obtain ⟨hg, hf_⟩ := og_e hf; clear hf; have hf := hf_; clear hf_
    have nd134 : nmI (M 41 0 z3.toNat) := hH.1.1 _ _ _
    refine g_iald X hH (r := 41) (i := 0) (by decide) rfl nz3 hg (v := M 41 0 z3.toNat) rfl dX12_proof_134 ?_
    refine g_icmp_ge X nx5 nd134 (tgt := 182) dX12_proof_135 (by decide) (fun hc135 => ?_) (fun hc135 => ?_)
    · replace hf := it_f hf hc135
      exact hk182 x4 nx4 hf _ _ _ hH hS (gLv_sub hl [0, 1, 2, 3, 4] rfl)
    · replace hf := it_t hf hc135
      refine lv_aload_n X.1 X.2.1 dX12_proof_138 rfl (lv_at hl.1 0 rfl) ?_
      refine lv_iload_n X.1 X.2.1 dX12_proof_139 rfl (lv_at hl.1 3 rfl) ?_
      refine lv_iload X.1 X.2.1 dX12_proof_140 (lv_at hl.1 5 rfl) ?_
      obtain ⟨r142, hq142, hf_⟩ := ob_e hf; clear hf; have hf := hf_; clear hf_
      refine gGoI (gRunV X hH (As := [.int (iI z3), .int (iI x5)]) (m_X12_inputOf l G z3 nz3 x5 nx5 M _ hq142) calX12_inputOf k_983 k_1111 k_485 (by decide) cX12 rfl ⟨by decide, by decide⟩ rfl hl rfl (Nat.le_of_ble_eq_true rfl) ⟨Nat.le_refl 0, Nat.le_refl 0⟩ dX12_proof_142) hS (fun H locs nr142 hH hS => ?_)
      refine g_istore X (lv' := [(6, .int (iI r142)), (0, .ref (gAd G 29 0)), (1, .int (iI z1)), (2, .int (iI z2)), (3, .int (iI z3)), (4, .int (iI x4)), (5, .int (iI x5))]) dX12_proof_145 hl (by decide) rfl (fun ls hl => ?_)
      refine lv_iload X.1 X.2.1 dX12_proof_147 (lv_at hl.1 0 rfl) ?_
      refine lv_bipush X.1 X.2.1 dX12_proof_149 (v := iI 16) (by decide) ?_
      obtain ⟨k174, ek174, hf_⟩ := oj_e hf; clear hf; have hf := hf_; clear hf_
      have hk174 : ∀ (xs0_174 : Int) (nxs0_174 : nmI xs0_174), k174 xs0_174 = some q → ∀ (H : Heap) (locs : List Loc) (ls : Array Slot), gH G M H → va_S (gA G) s.heap H locs → gLv ls 7 [(0, .ref (gAd G 29 0)), (1, .int (iI z1)), (2, .int (iI z2)), (3, .int (iI z3)), (5, .int (iI x5))] → W p l e { frames := 3, cells := 0, slots := 0, locals := 74 } s m args below meth c H locs 0 0 (MQ below (gQi G q.1 q.2) args s 0 0 (gA G)) (F0 m 174 ls [.int (iI xs0_174)]) := by
        intro xs0_174 nxs0_174 hf H locs ls hH hS hl
        subst ek174
        refine g_istore X (lv' := [(4, .int (iI xs0_174)), (0, .ref (gAd G 29 0)), (1, .int (iI z1)), (2, .int (iI z2)), (3, .int (iI z3)), (5, .int (iI x5))]) dX12_proof_174 hl (by decide) rfl (fun ls hl => ?_)
        refine g_iinc X (a := x5) (lv' := [(5, .int (iI (wI (x5 + 1)))), (4, .int (iI xs0_174)), (0, .ref (gAd G 29 0)), (1, .int (iI z1)), (2, .int (iI z2)), (3, .int (iI z3))]) dX12_proof_176 hl (k := 5) rfl (by decide) rfl (fun ls hl => ?_)
        refine lv_goto (tgt := 127) X.1 X.2.1 dX12_proof_179 (by decide) ?_
        exact ih xs0_174 nxs0_174 (wI (x5 + 1)) (nmI_w _) hf _ _ _ hH hS (gLv_sub hl [2, 3, 4, 5, 1, 0] rfl)
      clear ek174
      refine g_icmp_ge X nr142 (nmI_l (by decide)) (tgt := 159) dX12_proof_151 (by decide) (fun hc151 => ?_) (fun hc151 => ?_)
      · replace hf := it_f hf hc151
        refine lv_iload X.1 X.2.1 dX12_proof_159 (lv_at hl.1 5 rfl) ?_
        refine lv_aload_n X.1 X.2.1 dX12_proof_161 rfl (lv_at hl.1 1 rfl) ?_
        refine g_get X cX12 hH (r := 29) (i := 0) (by decide) rfl 55 (by decide) k_456 rfl (v := .ref (gAd G 74 0)) rfl dX12_proof_162 ?_
        refine lv_iload X.1 X.2.1 dX12_proof_165 (lv_at hl.1 0 rfl) ?_
        refine lv_bipush X.1 X.2.1 dX12_proof_167 (v := iI 16) (by decide) ?_
        refine g_isub X dX12_proof_169 ?_
        obtain ⟨hg, hf_⟩ := og_e hf; clear hf; have hf := hf_; clear hf_
        have nd170 : nmI (M 74 0 (wI (r142 - 16)).toNat) := hH.1.1 _ _ _
        refine g_iald X hH (r := 74) (i := 0) (by decide) rfl (nmI_w _) hg (v := M 74 0 (wI (r142 - 16)).toNat) rfl dX12_proof_170 ?_
        refine gGoI (gRunS X hH (As := [.int (iI x4), .int (iI (M 74 0 (wI (r142 - 16)).toNat))]) (m_X12_put l G x4 nx4 (M 74 0 (wI (r142 - 16)).toNat) nd170 M _ rfl) calX12_put k_962 k_475 ⟨by decide, by decide⟩ rfl hl rfl (Nat.le_of_ble_eq_true rfl) ⟨Nat.le_refl 0, Nat.le_refl 0⟩ dX12_proof_171) hS (fun H locs nr171 hH hS => ?_)
        exact hk174 ((f_X12_put x4 (M 74 0 (wI (r142 - 16)).toNat) M)) nr171 hf _ _ _ hH hS (gLv_sub hl [1, 2, 3, 4, 6] rfl)
      · replace hf := it_t hf hc151
        refine lv_iload X.1 X.2.1 dX12_proof_154 (lv_at hl.1 5 rfl) ?_
        refine lv_goto (tgt := 174) X.1 X.2.1 dX12_proof_156 (by decide) ?_
        exact hk174 x4 nx4 hf _ _ _ hH hS (gLv_sub hl [1, 2, 3, 4, 6] rfl)
theorem w_X12_proof_L54 {G : gG} {p : Program} {l : Launch} {e : Env} {s : State} {m : MethodId} {args : Array Value} {below : List Frame} {meth : Method} {c : Code} (X : gX G p s m args meth c RX12 cX12_proof 7 (some .int) (gWs yX12_proof cX12_proof 7 (some .int))) (k196 : gM → Option (Int × gM)) (z1 : Int) (nz1 : nmI z1) (z2 : Int) (nz2 : nmI z2) (q : (Int × gM)) (hk196 : ∀  (M : gM), k196 M = some q → ∀ (H : Heap) (locs : List Loc) (ls : Array Slot), gH G M H → va_S (gA G) s.heap H locs → gLv ls 7 [(0, .ref (gAd G 29 0)), (1, .int (iI z1))] → W p l e { frames := 3, cells := 0, slots := 0, locals := 74 } s m args below meth c H locs 0 0 (MQ below (gQi G q.1 q.2) args s 0 0 (gA G)) (F0 m 196 ls [])) : ∀ (n : Nat) (x3 : Int) (nx3 : nmI x3) (M : gM), f_X12_proof_L54 k196 z1 z2 n x3 M = some q → ∀ (H : Heap) (locs : List Loc) (ls : Array Slot), gH G M H → va_S (gA G) s.heap H locs → gLv ls 7 [(0, .ref (gAd G 29 0)), (1, .int (iI z1)), (2, .int (iI z2)), (3, .int (iI x3))] → W p l e { frames := 3, cells := 0, slots := 0, locals := 74 } s m args below meth c H locs 0 0 (MQ below (gQi G q.1 q.2) args s 0 0 (gA G)) (F0 m 54 ls []) := by
  intro n
  induction n with
  | zero =>
    intro x3 nx3 M hf
    cases hf
  | succ n ih =>
    intro x3 nx3 M hf H locs ls hH hS hl
    rw [f_X12_proof_L54] at hf
    refine lv_iload_n X.1 X.2.1 dX12_proof_54 rfl (lv_at hl.1 3 rfl) ?_
    refine lv_iload_n X.1 X.2.1 dX12_proof_55 rfl (lv_at hl.1 1 rfl) ?_
    refine g_icmp_gt X nx3 nz1 (tgt := 196) dX12_proof_56 (by decide) (fun hc56 => ?_) (fun hc56 => ?_)
    · replace hf := it_t hf hc56
      exact hk196 M hf _ _ _ hH hS (gLv_sub hl [0, 1] rfl)
    · replace hf := it_f hf hc56
      refine lv_iload_n X.1 X.2.1 dX12_proof_59 rfl (lv_at hl.1 2 rfl) ?_
      refine lv_iload_n X.1 X.2.1 dX12_proof_60 rfl (lv_at hl.1 3 rfl) ?_
      refine g_ishr X dX12_proof_61 ?_
      refine lv_iconst X.1 X.2.1 dX12_proof_62 (v := iI 1) rfl ?_
      refine g_iand X dX12_proof_63 ?_
      refine lv_iconst X.1 X.2.1 dX12_proof_64 (v := iI 1) rfl ?_
      obtain ⟨k190, ek190, hf_⟩ := oj_e hf; clear hf; have hf := hf_; clear hf_
      have hk190 : ∀  (M_190 : gM), k190 M_190 = some q → ∀ (H : Heap) (locs : List Loc) (ls : Array Slot), gH G M_190 H → va_S (gA G) s.heap H locs → gLv ls 7 [(0, .ref (gAd G 29 0)), (1, .int (iI z1)), (2, .int (iI z2)), (3, .int (iI x3))] → W p l e { frames := 3, cells := 0, slots := 0, locals := 74 } s m args below meth c H locs 0 0 (MQ below (gQi G q.1 q.2) args s 0 0 (gA G)) (F0 m 190 ls []) := by
        intro  M_190 hf H locs ls hH hS hl
        subst ek190
        refine g_iinc X (a := x3) (lv' := [(3, .int (iI (wI (x3 + 1)))), (0, .ref (gAd G 29 0)), (1, .int (iI z1)), (2, .int (iI z2))]) dX12_proof_190 hl (k := 3) rfl (by decide) rfl (fun ls hl => ?_)
        refine lv_goto (tgt := 54) X.1 X.2.1 dX12_proof_193 (by decide) ?_
        exact ih (wI (x3 + 1)) (nmI_w _) M_190 hf _ _ _ hH hS (gLv_sub hl [1, 2, 3, 0] rfl)
      clear ek190
      refine g_icmp_ne X (nmI_and _ _) (nmI_l (by decide)) (tgt := 190) dX12_proof_65 (by decide) (fun hc65 => ?_) (fun hc65 => ?_)
      · replace hf := it_f hf hc65
        exact hk190 M hf _ _ _ hH hS (gLv_sub hl [0, 1, 2, 3] rfl)
      · replace hf := it_t hf hc65
        refine lv_bipush X.1 X.2.1 dX12_proof_68 (v := iI 7) (by decide) ?_
        refine g_istore X (lv' := [(4, .int (iI 7)), (0, .ref (gAd G 29 0)), (1, .int (iI z1)), (2, .int (iI z2)), (3, .int (iI x3))]) dX12_proof_70 hl (by decide) rfl (fun ls hl => ?_)
        refine lv_iconst X.1 X.2.1 dX12_proof_72 (v := iI 0) rfl ?_
        refine g_istore X (lv' := [(5, .int (iI 0)), (4, .int (iI 7)), (0, .ref (gAd G 29 0)), (1, .int (iI z1)), (2, .int (iI z2)), (3, .int (iI x3))]) dX12_proof_73 hl (by decide) rfl (fun ls hl => ?_)
        refine w_X12_proof_L75 X _ z1 nz1 z2 nz2 x3 nx3 M q ?_ 64 7 (nmI_l (by decide)) 0 (nmI_l (by decide)) hf _ _ _ hH hS (gLv_sub hl [2, 3, 4, 5, 1, 0] rfl)
        · intro y4_75_124 ny4_75_124 hf H locs ls hH hS hl
          refine lv_iconst X.1 X.2.1 dX12_proof_124 (v := iI 0) rfl ?_
          refine g_istore X (lv' := [(5, .int (iI 0)), (0, .ref (gAd G 29 0)), (1, .int (iI z1)), (2, .int (iI z2)), (3, .int (iI x3)), (4, .int (iI y4_75_124))]) dX12_proof_125 hl (by decide) rfl (fun ls hl => ?_)
          refine w_X12_proof_L127 X _ z1 nz1 z2 nz2 x3 nx3 M q ?_ 64 y4_75_124 ny4_75_124 0 (nmI_l (by decide)) hf _ _ _ hH hS (gLv_sub hl [1, 2, 3, 4, 5, 0] rfl)
          · intro y4_127_182 ny4_127_182 hf H locs ls hH hS hl
            refine lv_aload_n X.1 X.2.1 dX12_proof_182 rfl (lv_at hl.1 0 rfl) ?_
            refine g_get X cX12 hH (r := 29) (i := 0) (by decide) rfl 55 (by decide) k_456 rfl (v := .ref (gAd G 74 0)) rfl dX12_proof_183 ?_
            refine lv_iload_n X.1 X.2.1 dX12_proof_186 rfl (lv_at hl.1 3 rfl) ?_
            refine lv_iload X.1 X.2.1 dX12_proof_187 (lv_at hl.1 4 rfl) ?_
            obtain ⟨hg, hf_⟩ := og_e hf; clear hf; have hf := hf_; clear hf_
            refine g_iast X hH hS (r := 74) (i := 0) (by decide) (fun _ => rfl) nx3 hg ny4_127_182 rfl (by decide) dX12_proof_189 (fun H locs hH hS => ?_)
            exact hk190 (gU M 74 0 x3.toNat y4_127_182) hf _ _ _ hH hS (gLv_sub hl [0, 1, 2, 3] rfl)
theorem m_X12_proof (l : Launch) (G : gG) (v1 : Int) (nv1 : nmI v1) (M : gM) (q : (Int × gM)) (hf : f_X12_proof v1 M = some q) : gMet l yX12_proof cX12_proof 7 (some .int) 3 74 G M [.ref (gAd G 29 0), .int (iI v1)] (gQi G q.1 q.2) := by
  refine gOfW (by decide) (by show _ ≤ 7; exact Nat.le_of_ble_eq_true rfl) rfl ?_
  intro p e s m below meth c X hH ls hl
  replace hl : gLv ls 7 [(0, .ref (gAd G 29 0)), (1, .int (iI v1))] := hl
  have hS : va_S (gA G) s.heap s.heap [] := va_S.rf
  generalize hargs : ([.ref (gAd G 29 0), .int (iI v1)] : List Value).toArray = args at X ⊢
  clear hargs
  unfold f_X12_proof at hf
  refine lv_aload_n X.1 X.2.1 dX12_proof_0 rfl (lv_at hl.1 0 rfl) ?_
  refine lv_aload_n X.1 X.2.1 dX12_proof_1 rfl (lv_at hl.1 0 rfl) ?_
  refine lv_iload_n X.1 X.2.1 dX12_proof_2 rfl (lv_at hl.1 1 rfl) ?_
  refine gGoZ (gRunV X hH (As := [.int (iI v1)]) (m_X12_isTarget l G v1 nv1 M _ rfl) calX12_isTarget k_942 k_1105 k_466 (by decide) cX12 rfl ⟨by decide, by decide⟩ rfl hl rfl (Nat.le_of_ble_eq_true rfl) ⟨Nat.le_refl 0, Nat.le_refl 0⟩ dX12_proof_3) hS (fun H locs br3 hH hS => ?_)
  refine lv_aload_n X.1 X.2.1 dX12_proof_6 rfl (lv_at hl.1 0 rfl) ?_
  refine lv_iload_n X.1 X.2.1 dX12_proof_7 rfl (lv_at hl.1 1 rfl) ?_
  refine gGoZ (gRunV X hH (As := [.int (iI v1)]) (m_X12_isTarget l G v1 nv1 M _ rfl) calX12_isTarget k_942 k_1105 k_466 (by decide) cX12 rfl ⟨by decide, by decide⟩ rfl hl rfl (Nat.le_of_ble_eq_true rfl) ⟨Nat.le_refl 0, Nat.le_refl 0⟩ dX12_proof_8) hS (fun H locs br8 hH hS => ?_)
  obtain ⟨k36, ek36, hf_⟩ := oj_e hf; clear hf; have hf := hf_; clear hf_
  have hk36 : ∀ (xs2_36 : Int) (bxs2_36 : xs2_36 = 0 ∨ xs2_36 = 1), k36 xs2_36 = some q → ∀ (H : Heap) (locs : List Loc) (ls : Array Slot), gH G M H → va_S (gA G) s.heap H locs → gLv ls 7 [(0, .ref (gAd G 29 0)), (1, .int (iI v1))] → W p l e { frames := 3, cells := 0, slots := 0, locals := 74 } s m args below meth c H locs 0 0 (MQ below (gQi G q.1 q.2) args s 0 0 (gA G)) (F0 m 36 ls [.int (iI xs2_36), .int (iI ((f_X12_isTarget v1 M))), .ref (gAd G 29 0)]) := by
    intro xs2_36 bxs2_36 hf H locs ls hH hS hl
    subst ek36
    refine gGoZ (gRunV X hH (As := [.int (iI ((f_X12_isTarget v1 M))), .int (iI xs2_36)]) (m_X12_asked_ l G ((f_X12_isTarget v1 M)) br3 xs2_36 bxs2_36 M _ rfl) calX12_asked_ k_932 k_1103 k_462 (by decide) cX12 rfl ⟨by decide, by decide⟩ rfl hl rfl (Nat.le_of_ble_eq_true rfl) ⟨Nat.le_refl 0, Nat.le_refl 0⟩ dX12_proof_36) hS (fun H locs br36 hH hS => ?_)
    refine g_if_ne X (nmI_b br36) (tgt := 44) dX12_proof_39 (by decide) (fun hc39 => ?_) (fun hc39 => ?_)
    · replace hf := it_f hf hc39
      refine lv_aload_n X.1 X.2.1 dX12_proof_44 rfl (lv_at hl.1 0 rfl) ?_
      refine lv_iconst X.1 X.2.1 dX12_proof_45 (v := iI 1) rfl ?_
      refine lv_iload_n X.1 X.2.1 dX12_proof_46 rfl (lv_at hl.1 1 rfl) ?_
      refine g_ishl X dX12_proof_47 ?_
      obtain ⟨r48, hq48, hf_⟩ := ob_e hf; clear hf; have hf := hf_; clear hf_
      refine gGoI (gRunV X hH (As := [.int (iI (gShl 1 v1))]) (m_X12_neededBy l G (gShl 1 v1) (nmI_shl _ _) ((f_X12_asked_ ((f_X12_isTarget v1 M)) xs2_36 M).2) _ hq48) calX12_neededBy k_981 k_1110 k_484 (by decide) cX12 rfl ⟨by decide, by decide⟩ rfl hl rfl (Nat.le_of_ble_eq_true rfl) ⟨Nat.le_refl 0, Nat.le_refl 0⟩ dX12_proof_48) hS (fun H locs nr48 hH hS => ?_)
      refine g_istore_n X (lv' := [(2, .int (iI r48)), (0, .ref (gAd G 29 0)), (1, .int (iI v1))]) dX12_proof_51 rfl hl (by decide) rfl (fun ls hl => ?_)
      refine lv_iconst X.1 X.2.1 dX12_proof_52 (v := iI 0) rfl ?_
      refine g_istore_n X (lv' := [(3, .int (iI 0)), (2, .int (iI r48)), (0, .ref (gAd G 29 0)), (1, .int (iI v1))]) dX12_proof_53 rfl hl (by decide) rfl (fun ls hl => ?_)
      refine w_X12_proof_L54 X _ v1 nv1 r48 nr48 q ?_ 64 0 (nmI_l (by decide)) ((f_X12_asked_ ((f_X12_isTarget v1 M)) xs2_36 M).2) hf _ _ _ hH hS (gLv_sub hl [2, 3, 1, 0] rfl)
      · intro  M_54_196 hf H locs ls hH hS hl
        refine lv_aload_n X.1 X.2.1 dX12_proof_196 rfl (lv_at hl.1 0 rfl) ?_
        refine g_get X cX12 hH (r := 29) (i := 0) (by decide) rfl 55 (by decide) k_456 rfl (v := .ref (gAd G 74 0)) rfl dX12_proof_197 ?_
        refine lv_iload_n X.1 X.2.1 dX12_proof_200 rfl (lv_at hl.1 1 rfl) ?_
        obtain ⟨hg, hf_⟩ := og_e hf; clear hf; have hf := hf_; clear hf_
        have nd201 : nmI (M_54_196 74 0 v1.toNat) := hH.1.1 _ _ _
        refine g_iald X hH (r := 74) (i := 0) (by decide) rfl nv1 hg (v := M_54_196 74 0 v1.toNat) rfl dX12_proof_201 ?_
        have hq := Option.some.inj hf; subst hq
        exact gRetI X hH hS (res := M_54_196 74 0 v1.toNat) nd201 dX12_proof_202
    · replace hf := it_t hf hc39
      refine lv_iconst X.1 X.2.1 dX12_proof_42 (v := iI 0) rfl ?_
      have hq := Option.some.inj hf; subst hq
      exact gRetI X hH hS (res := 0) (nmI_l (by decide)) dX12_proof_43
  clear ek36
  obtain ⟨k35, ek35, hf_⟩ := oj_e hf; clear hf; have hf := hf_; clear hf_
  have hk35 : k35 = some q → ∀ (H : Heap) (locs : List Loc) (ls : Array Slot), gH G M H → va_S (gA G) s.heap H locs → gLv ls 7 [(0, .ref (gAd G 29 0)), (1, .int (iI v1))] → W p l e { frames := 3, cells := 0, slots := 0, locals := 74 } s m args below meth c H locs 0 0 (MQ below (gQi G q.1 q.2) args s 0 0 (gA G)) (F0 m 35 ls [.int (iI ((f_X12_isTarget v1 M))), .ref (gAd G 29 0)]) := by
    intro  hf H locs ls hH hS hl
    subst ek35
    refine lv_iconst X.1 X.2.1 dX12_proof_35 (v := iI 0) rfl ?_
    exact hk36 0 (by decide) hf _ _ _ hH hS (gLv_sub hl [0, 1] rfl)
  clear ek35
  refine g_if_eq X (nmI_b br8) (tgt := 35) dX12_proof_11 (by decide) (fun hc11 => ?_) (fun hc11 => ?_)
  · replace hf := it_t hf hc11
    exact hk35  hf _ _ _ hH hS (gLv_sub hl [0, 1] rfl)
  · replace hf := it_f hf hc11
    refine lv_aload_n X.1 X.2.1 dX12_proof_14 rfl (lv_at hl.1 0 rfl) ?_
    refine lv_iload_n X.1 X.2.1 dX12_proof_15 rfl (lv_at hl.1 1 rfl) ?_
    refine gGoZ (gRunV X hH (As := [.int (iI v1)]) (m_X12_isNeeded l G v1 nv1 M _ rfl) calX12_isNeeded k_985 k_1112 k_486 (by decide) cX12 rfl ⟨by decide, by decide⟩ rfl hl rfl (Nat.le_of_ble_eq_true rfl) ⟨Nat.le_refl 0, Nat.le_refl 0⟩ dX12_proof_16) hS (fun H locs br16 hH hS => ?_)
    refine g_if_eq X (nmI_b br16) (tgt := 35) dX12_proof_19 (by decide) (fun hc19 => ?_) (fun hc19 => ?_)
    · replace hf := it_t hf hc19
      exact hk35  hf _ _ _ hH hS (gLv_sub hl [0, 1] rfl)
    · replace hf := it_f hf hc19
      refine lv_aload_n X.1 X.2.1 dX12_proof_22 rfl (lv_at hl.1 0 rfl) ?_
      refine lv_iload_n X.1 X.2.1 dX12_proof_23 rfl (lv_at hl.1 1 rfl) ?_
      refine lv_iconst X.1 X.2.1 dX12_proof_24 (v := iI 1) rfl ?_
      obtain ⟨r25, hq25, hf_⟩ := ob_e hf; clear hf; have hf := hf_; clear hf_
      refine gGoZ (gRunV X hH (As := [.int (iI v1), .int (iI 1)]) (m_X12_isSound l G v1 nv1 1 (by decide) M _ hq25) calX12_isSound k_1040 k_1132 k_511 (by decide) cX12 rfl ⟨by decide, by decide⟩ rfl hl rfl (Nat.le_of_ble_eq_true rfl) ⟨Nat.le_refl 0, Nat.le_refl 0⟩ dX12_proof_25) hS (fun H locs br25 hH hS => ?_)
      refine g_if_eq X (nmI_b br25) (tgt := 35) dX12_proof_28 (by decide) (fun hc28 => ?_) (fun hc28 => ?_)
      · replace hf := it_t hf hc28
        exact hk35  hf _ _ _ hH hS (gLv_sub hl [0, 1] rfl)
      · replace hf := it_f hf hc28
        refine lv_iconst X.1 X.2.1 dX12_proof_31 (v := iI 1) rfl ?_
        refine lv_goto (tgt := 36) X.1 X.2.1 dX12_proof_32 (by decide) ?_
        exact hk36 1 (by decide) hf _ _ _ hH hS (gLv_sub hl [0, 1] rfl)
theorem m_X12_count (l : Launch) (G : gG) (v1 : Int) (nv1 : nmI v1) (M : gM) (q : (Int × gM)) (hf : f_X12_count v1 M = some q) : gMet l yX12_count cX12_count 2 (some .int) 1 22 G M [.ref (gAd G 29 0), .int (iI v1)] (gQi G q.1 q.2) := by
  refine gOfW (by decide) (by show _ ≤ 2; exact Nat.le_of_ble_eq_true rfl) rfl ?_
  intro p e s m below meth c X hH ls hl
  replace hl : gLv ls 2 [(0, .ref (gAd G 29 0)), (1, .int (iI v1))] := hl
  have hS : va_S (gA G) s.heap s.heap [] := va_S.rf
  generalize hargs : ([.ref (gAd G 29 0), .int (iI v1)] : List Value).toArray = args at X ⊢
  clear hargs
  unfold f_X12_count at hf
  refine lv_aload_n X.1 X.2.1 dX12_count_0 rfl (lv_at hl.1 0 rfl) ?_
  refine lv_iload_n X.1 X.2.1 dX12_count_1 rfl (lv_at hl.1 1 rfl) ?_
  refine lv_iconst X.1 X.2.1 dX12_count_2 (v := iI 0) rfl ?_
  refine lv_iconst X.1 X.2.1 dX12_count_3 (v := iI 4) rfl ?_
  refine gGoZ (gRunS X hH (As := [.int (iI v1), .int (iI 0), .int (iI 4)]) (m_X12_in l G v1 nv1 0 (nmI_l (by decide)) 4 (nmI_l (by decide)) M _ rfl) calX12_in k_925 k_459 ⟨by decide, by decide⟩ rfl hl rfl (Nat.le_of_ble_eq_true rfl) ⟨Nat.le_refl 0, Nat.le_refl 0⟩ dX12_count_4) hS (fun H locs br4 hH hS => ?_)
  refine gGoZ (gRunV X hH (As := [.int (iI ((f_X12_in v1 0 4 M)))]) (m_X12_asked l G ((f_X12_in v1 0 4 M)) br4 M _ rfl) calX12_asked k_927 k_1102 k_460 (by decide) cX12 rfl ⟨by decide, by decide⟩ rfl hl rfl (Nat.le_of_ble_eq_true rfl) ⟨Nat.le_refl 0, Nat.le_refl 0⟩ dX12_count_7) hS (fun H locs br7 hH hS => ?_)
  refine g_if_eq X (nmI_b br7) (tgt := 22) dX12_count_10 (by decide) (fun hc10 => ?_) (fun hc10 => ?_)
  · replace hf := it_t hf hc10
    refine lv_iconst X.1 X.2.1 dX12_count_22 (v := iI 0) rfl ?_
    have hq := Option.some.inj hf; subst hq
    exact gRetI X hH hS (res := 0) (nmI_l (by decide)) dX12_count_23
  · replace hf := it_f hf hc10
    refine lv_aload_n X.1 X.2.1 dX12_count_13 rfl (lv_at hl.1 0 rfl) ?_
    refine g_get X cX12 hH (r := 29) (i := 0) (by decide) rfl 47 (by decide) k_448 rfl (v := .ref (gAd G 68 0)) rfl dX12_count_14 ?_
    refine lv_iload_n X.1 X.2.1 dX12_count_17 rfl (lv_at hl.1 1 rfl) ?_
    obtain ⟨hg, hf_⟩ := og_e hf; clear hf; have hf := hf_; clear hf_
    have nd18 : nmI (((f_X12_asked ((f_X12_in v1 0 4 M)) M).2) 68 0 v1.toNat) := hH.1.1 _ _ _
    refine g_iald X hH (r := 68) (i := 0) (by decide) rfl nv1 hg (v := ((f_X12_asked ((f_X12_in v1 0 4 M)) M).2) 68 0 v1.toNat) rfl dX12_count_18 ?_
    refine lv_goto (tgt := 23) X.1 X.2.1 dX12_count_19 (by decide) ?_
    have hq := Option.some.inj hf; subst hq
    exact gRetI X hH hS (res := ((f_X12_asked ((f_X12_in v1 0 4 M)) M).2) 68 0 v1.toNat) nd18 dX12_count_23
theorem m_X12_needed (l : Launch) (G : gG) (v1 : Int) (nv1 : nmI v1) (M : gM) (q : (Int × gM)) (hf : f_X12_needed v1 M = some q) : gMet l yX12_needed cX12_needed 2 (some .int) 2 48 G M [.ref (gAd G 29 0), .int (iI v1)] (gQi G q.1 q.2) := by
  refine gOfW (by decide) (by show _ ≤ 2; exact Nat.le_of_ble_eq_true rfl) rfl ?_
  intro p e s m below meth c X hH ls hl
  replace hl : gLv ls 2 [(0, .ref (gAd G 29 0)), (1, .int (iI v1))] := hl
  have hS : va_S (gA G) s.heap s.heap [] := va_S.rf
  generalize hargs : ([.ref (gAd G 29 0), .int (iI v1)] : List Value).toArray = args at X ⊢
  clear hargs
  unfold f_X12_needed at hf
  refine lv_aload_n X.1 X.2.1 dX12_needed_0 rfl (lv_at hl.1 0 rfl) ?_
  refine lv_aload_n X.1 X.2.1 dX12_needed_1 rfl (lv_at hl.1 0 rfl) ?_
  refine lv_iload_n X.1 X.2.1 dX12_needed_2 rfl (lv_at hl.1 1 rfl) ?_
  refine gGoZ (gRunV X hH (As := [.int (iI v1)]) (m_X12_isTarget l G v1 nv1 M _ rfl) calX12_isTarget k_942 k_1105 k_466 (by decide) cX12 rfl ⟨by decide, by decide⟩ rfl hl rfl (Nat.le_of_ble_eq_true rfl) ⟨Nat.le_refl 0, Nat.le_refl 0⟩ dX12_needed_3) hS (fun H locs br3 hH hS => ?_)
  refine gGoZ (gRunV X hH (As := [.int (iI ((f_X12_isTarget v1 M)))]) (m_X12_asked l G ((f_X12_isTarget v1 M)) br3 M _ rfl) calX12_asked k_927 k_1102 k_460 (by decide) cX12 rfl ⟨by decide, by decide⟩ rfl hl rfl (Nat.le_of_ble_eq_true rfl) ⟨Nat.le_refl 0, Nat.le_refl 0⟩ dX12_needed_6) hS (fun H locs br6 hH hS => ?_)
  refine g_if_eq X (nmI_b br6) (tgt := 22) dX12_needed_9 (by decide) (fun hc9 => ?_) (fun hc9 => ?_)
  · replace hf := it_t hf hc9
    refine lv_iconst X.1 X.2.1 dX12_needed_22 (v := iI 0) rfl ?_
    have hq := Option.some.inj hf; subst hq
    exact gRetI X hH hS (res := 0) (nmI_l (by decide)) dX12_needed_23
  · replace hf := it_f hf hc9
    refine lv_aload_n X.1 X.2.1 dX12_needed_12 rfl (lv_at hl.1 0 rfl) ?_
    refine lv_iconst X.1 X.2.1 dX12_needed_13 (v := iI 1) rfl ?_
    refine lv_iload_n X.1 X.2.1 dX12_needed_14 rfl (lv_at hl.1 1 rfl) ?_
    refine g_ishl X dX12_needed_15 ?_
    obtain ⟨r16, hq16, hf_⟩ := ob_e hf; clear hf; have hf := hf_; clear hf_
    refine gGoI (gRunV X hH (As := [.int (iI (gShl 1 v1))]) (m_X12_neededBy l G (gShl 1 v1) (nmI_shl _ _) ((f_X12_asked ((f_X12_isTarget v1 M)) M).2) _ hq16) calX12_neededBy k_981 k_1110 k_484 (by decide) cX12 rfl ⟨by decide, by decide⟩ rfl hl rfl (Nat.le_of_ble_eq_true rfl) ⟨Nat.le_refl 0, Nat.le_refl 0⟩ dX12_needed_16) hS (fun H locs nr16 hH hS => ?_)
    refine lv_goto (tgt := 23) X.1 X.2.1 dX12_needed_19 (by decide) ?_
    have hq := Option.some.inj hf; subst hq
    exact gRetI X hH hS (res := r16) nr16 dX12_needed_23
theorem w_X12_needing_L91 {G : gG} {p : Program} {l : Launch} {e : Env} {s : State} {m : MethodId} {args : Array Value} {below : List Frame} {meth : Method} {c : Code} (X : gX G p s m args meth c RX12 cX12_needing 8 (some .int) (gWs yX12_needing cX12_needing 8 (some .int))) (k142 : Int → Option (Int × gM)) (z1 : Int) (nz1 : nmI z1) (z2 : Int) (nz2 : nmI z2) (z3 : Int) (nz3 : nmI z3) (z4 : Int) (nz4 : nmI z4) (z6 : Int) (nz6 : nmI z6) (M : gM) (q : (Int × gM)) (hk142 : ∀ (x5 : Int) (bx5 : x5 = 0 ∨ x5 = 1), k142 x5 = some q → ∀ (H : Heap) (locs : List Loc) (ls : Array Slot), gH G M H → va_S (gA G) s.heap H locs → gLv ls 8 [(0, .ref (gAd G 29 0)), (1, .int (iI z1)), (2, .int (iI z2)), (3, .int (iI z3)), (4, .int (iI z4)), (5, .int (iI x5)), (6, .int (iI z6))] → W p l e { frames := 3, cells := 0, slots := 0, locals := 64 } s m args below meth c H locs 0 0 (MQ below (gQi G q.1 q.2) args s 0 0 (gA G)) (F0 m 142 ls [])) : ∀ (n : Nat) (x5 : Int) (bx5 : x5 = 0 ∨ x5 = 1) (x7 : Int) (nx7 : nmI x7), f_X12_needing_L91 k142 z1 z2 z3 z4 z6 M n x5 x7 = some q → ∀ (H : Heap) (locs : List Loc) (ls : Array Slot), gH G M H → va_S (gA G) s.heap H locs → gLv ls 8 [(0, .ref (gAd G 29 0)), (1, .int (iI z1)), (2, .int (iI z2)), (3, .int (iI z3)), (4, .int (iI z4)), (5, .int (iI x5)), (6, .int (iI z6)), (7, .int (iI x7))] → W p l e { frames := 3, cells := 0, slots := 0, locals := 64 } s m args below meth c H locs 0 0 (MQ below (gQi G q.1 q.2) args s 0 0 (gA G)) (F0 m 91 ls []) := by
  intro n
  induction n with
  | zero =>
    intro x5 bx5 x7 nx7 hf
    cases hf
  | succ n ih =>
    intro x5 bx5 x7 nx7 hf H locs ls hH hS hl
    rw [f_X12_needing_L91] at hf
    refine lv_iload X.1 X.2.1 dX12_needing_91 (lv_at hl.1 7 rfl) ?_
    refine lv_aload_n X.1 X.2.1 dX12_needing_93 rfl (lv_at hl.1 0 rfl) ?_
    refine g_get X cX12 hH (r := 29) (i := 0) (by decide) rfl 14 (by decide) k_415 rfl (v := .ref (gAd G 41 0)) rfl dX12_needing_94 ?_
    refine lv_iload X.1 X.2.1 dX12_needing_97 (lv_at hl.1 6 rfl) ?_
    obtain ⟨hg, hf_⟩ := og_e hf; clear hf; have hf := hf_; clear hf_
    have nd99 : nmI (M 41 0 z6.toNat) := hH.1.1 _ _ _
    refine g_iald X hH (r := 41) (i := 0) (by decide) rfl nz6 hg (v := M 41 0 z6.toNat) rfl dX12_needing_99 ?_
    refine g_icmp_ge X nx7 nd99 (tgt := 142) dX12_needing_100 (by decide) (fun hc100 => ?_) (fun hc100 => ?_)
    · replace hf := it_f hf hc100
      exact hk142 x5 bx5 hf _ _ _ hH hS (gLv_sub hl [0, 1, 2, 3, 4, 5, 6] rfl)
    · replace hf := it_t hf hc100
      refine lv_iload X.1 X.2.1 dX12_needing_103 (lv_at hl.1 4 rfl) ?_
      refine lv_iload X.1 X.2.1 dX12_needing_105 (lv_at hl.1 6 rfl) ?_
      refine g_ishr X dX12_needing_107 ?_
      refine lv_iconst X.1 X.2.1 dX12_needing_108 (v := iI 1) rfl ?_
      refine g_iand X dX12_needing_109 ?_
      refine lv_iconst X.1 X.2.1 dX12_needing_110 (v := iI 1) rfl ?_
      refine g_icmp_ne X (nmI_and _ _) (nmI_l (by decide)) (tgt := 142) dX12_needing_111 (by decide) (fun hc111 => ?_) (fun hc111 => ?_)
      · replace hf := it_f hf hc111
        exact hk142 x5 bx5 hf _ _ _ hH hS (gLv_sub hl [0, 1, 2, 3, 4, 5, 6] rfl)
      · replace hf := it_t hf hc111
        refine lv_iload X.1 X.2.1 dX12_needing_114 (lv_at hl.1 5 rfl) ?_
        refine lv_aload_n X.1 X.2.1 dX12_needing_116 rfl (lv_at hl.1 0 rfl) ?_
        refine lv_iload X.1 X.2.1 dX12_needing_117 (lv_at hl.1 6 rfl) ?_
        refine lv_iload X.1 X.2.1 dX12_needing_119 (lv_at hl.1 7 rfl) ?_
        obtain ⟨r121, hq121, hf_⟩ := ob_e hf; clear hf; have hf := hf_; clear hf_
        refine gGoI (gRunV X hH (As := [.int (iI z6), .int (iI x7)]) (m_X12_inputOf l G z6 nz6 x7 nx7 M _ hq121) calX12_inputOf k_983 k_1111 k_485 (by decide) cX12 rfl ⟨by decide, by decide⟩ rfl hl rfl (Nat.le_of_ble_eq_true rfl) ⟨Nat.le_refl 0, Nat.le_refl 0⟩ dX12_needing_121) hS (fun H locs nr121 hH hS => ?_)
        refine lv_iload_n X.1 X.2.1 dX12_needing_124 rfl (lv_at hl.1 1 rfl) ?_
        obtain ⟨k133, ek133, hf_⟩ := oj_e hf; clear hf; have hf := hf_; clear hf_
        have hk133 : ∀ (xs1_133 : Int) (bxs1_133 : xs1_133 = 0 ∨ xs1_133 = 1), k133 xs1_133 = some q → ∀ (H : Heap) (locs : List Loc) (ls : Array Slot), gH G M H → va_S (gA G) s.heap H locs → gLv ls 8 [(0, .ref (gAd G 29 0)), (1, .int (iI z1)), (2, .int (iI z2)), (3, .int (iI z3)), (4, .int (iI z4)), (6, .int (iI z6)), (7, .int (iI x7))] → W p l e { frames := 3, cells := 0, slots := 0, locals := 64 } s m args below meth c H locs 0 0 (MQ below (gQi G q.1 q.2) args s 0 0 (gA G)) (F0 m 133 ls [.int (iI xs1_133), .int (iI x5)]) := by
          intro xs1_133 bxs1_133 hf H locs ls hH hS hl
          subst ek133
          refine g_ior X dX12_needing_133 ?_
          refine g_istore X (lv' := [(5, .int (iI (gOr x5 xs1_133))), (0, .ref (gAd G 29 0)), (1, .int (iI z1)), (2, .int (iI z2)), (3, .int (iI z3)), (4, .int (iI z4)), (6, .int (iI z6)), (7, .int (iI x7))]) dX12_needing_134 hl (by decide) rfl (fun ls hl => ?_)
          refine g_iinc X (a := x7) (lv' := [(7, .int (iI (wI (x7 + 1)))), (5, .int (iI (gOr x5 xs1_133))), (0, .ref (gAd G 29 0)), (1, .int (iI z1)), (2, .int (iI z2)), (3, .int (iI z3)), (4, .int (iI z4)), (6, .int (iI z6))]) dX12_needing_136 hl (k := 7) rfl (by decide) rfl (fun ls hl => ?_)
          refine lv_goto (tgt := 91) X.1 X.2.1 dX12_needing_139 (by decide) ?_
          exact ih (gOr x5 xs1_133) (b01_or bx5 bxs1_133) (wI (x7 + 1)) (nmI_w _) hf _ _ _ hH hS (gLv_sub hl [2, 3, 4, 5, 6, 1, 7, 0] rfl)
        clear ek133
        refine g_icmp_ne X nr121 nz1 (tgt := 132) dX12_needing_125 (by decide) (fun hc125 => ?_) (fun hc125 => ?_)
        · replace hf := it_f hf hc125
          refine lv_iconst X.1 X.2.1 dX12_needing_132 (v := iI 0) rfl ?_
          exact hk133 0 (by decide) hf _ _ _ hH hS (gLv_sub hl [0, 1, 2, 3, 4, 6, 7] rfl)
        · replace hf := it_t hf hc125
          refine lv_iconst X.1 X.2.1 dX12_needing_128 (v := iI 1) rfl ?_
          refine lv_goto (tgt := 133) X.1 X.2.1 dX12_needing_129 (by decide) ?_
          exact hk133 1 (by decide) hf _ _ _ hH hS (gLv_sub hl [0, 1, 2, 3, 4, 6, 7] rfl)
theorem w_X12_needing_L73 {G : gG} {p : Program} {l : Launch} {e : Env} {s : State} {m : MethodId} {args : Array Value} {below : List Frame} {meth : Method} {c : Code} (X : gX G p s m args meth c RX12 cX12_needing 8 (some .int) (gWs yX12_needing cX12_needing 8 (some .int))) (k148 : Int → Option (Int × gM)) (z1 : Int) (nz1 : nmI z1) (z2 : Int) (nz2 : nmI z2) (z3 : Int) (nz3 : nmI z3) (z4 : Int) (nz4 : nmI z4) (M : gM) (q : (Int × gM)) (hk148 : ∀ (x5 : Int) (bx5 : x5 = 0 ∨ x5 = 1), k148 x5 = some q → ∀ (H : Heap) (locs : List Loc) (ls : Array Slot), gH G M H → va_S (gA G) s.heap H locs → gLv ls 8 [(0, .ref (gAd G 29 0)), (1, .int (iI z1)), (2, .int (iI z2)), (3, .int (iI z3)), (5, .int (iI x5))] → W p l e { frames := 3, cells := 0, slots := 0, locals := 64 } s m args below meth c H locs 0 0 (MQ below (gQi G q.1 q.2) args s 0 0 (gA G)) (F0 m 148 ls [])) : ∀ (n : Nat) (x5 : Int) (bx5 : x5 = 0 ∨ x5 = 1) (x6 : Int) (nx6 : nmI x6), f_X12_needing_L73 k148 z1 z2 z3 z4 M n x5 x6 = some q → ∀ (H : Heap) (locs : List Loc) (ls : Array Slot), gH G M H → va_S (gA G) s.heap H locs → gLv ls 8 [(0, .ref (gAd G 29 0)), (1, .int (iI z1)), (2, .int (iI z2)), (3, .int (iI z3)), (4, .int (iI z4)), (5, .int (iI x5)), (6, .int (iI x6))] → W p l e { frames := 3, cells := 0, slots := 0, locals := 64 } s m args below meth c H locs 0 0 (MQ below (gQi G q.1 q.2) args s 0 0 (gA G)) (F0 m 73 ls []) := by
  intro n
  induction n with
  | zero =>
    intro x5 bx5 x6 nx6 hf
    cases hf
  | succ n ih =>
    intro x5 bx5 x6 nx6 hf H locs ls hH hS hl
    rw [f_X12_needing_L73] at hf
    refine lv_iload X.1 X.2.1 dX12_needing_73 (lv_at hl.1 6 rfl) ?_
    refine lv_aload_n X.1 X.2.1 dX12_needing_75 rfl (lv_at hl.1 0 rfl) ?_
    have nd76 : nmI (M 29 0 7) := hH.1.1 _ _ _
    refine g_get X cX12 hH (r := 29) (i := 0) (by decide) rfl 7 (by decide) k_408 rfl (v := .int (iI (M 29 0 7))) rfl dX12_needing_76 ?_
    refine g_icmp_ge X nx6 nd76 (tgt := 148) dX12_needing_79 (by decide) (fun hc79 => ?_) (fun hc79 => ?_)
    · replace hf := it_f hf hc79
      exact hk148 x5 bx5 hf _ _ _ hH hS (gLv_sub hl [0, 1, 2, 3, 5] rfl)
    · replace hf := it_t hf hc79
      refine lv_iload_n X.1 X.2.1 dX12_needing_82 rfl (lv_at hl.1 1 rfl) ?_
      refine lv_bipush X.1 X.2.1 dX12_needing_83 (v := iI 16) (by decide) ?_
      refine g_icmp_ge X nz1 (nmI_l (by decide)) (tgt := 148) dX12_needing_85 (by decide) (fun hc85 => ?_) (fun hc85 => ?_)
      · replace hf := it_f hf hc85
        exact hk148 x5 bx5 hf _ _ _ hH hS (gLv_sub hl [0, 1, 2, 3, 5] rfl)
      · replace hf := it_t hf hc85
        refine lv_iconst X.1 X.2.1 dX12_needing_88 (v := iI 0) rfl ?_
        refine g_istore X (lv' := [(7, .int (iI 0)), (0, .ref (gAd G 29 0)), (1, .int (iI z1)), (2, .int (iI z2)), (3, .int (iI z3)), (4, .int (iI z4)), (5, .int (iI x5)), (6, .int (iI x6))]) dX12_needing_89 hl (by decide) rfl (fun ls hl => ?_)
        refine w_X12_needing_L91 X _ z1 nz1 z2 nz2 z3 nz3 z4 nz4 x6 nx6 M q ?_ 64 x5 bx5 0 (nmI_l (by decide)) hf _ _ _ hH hS (gLv_sub hl [1, 2, 3, 4, 5, 6, 7, 0] rfl)
        · intro y5_91_142 by5_91_142 hf H locs ls hH hS hl
          refine g_iinc X (a := x6) (lv' := [(6, .int (iI (wI (x6 + 1)))), (0, .ref (gAd G 29 0)), (1, .int (iI z1)), (2, .int (iI z2)), (3, .int (iI z3)), (4, .int (iI z4)), (5, .int (iI y5_91_142))]) dX12_needing_142 hl (k := 6) rfl (by decide) rfl (fun ls hl => ?_)
          refine lv_goto (tgt := 73) X.1 X.2.1 dX12_needing_145 (by decide) ?_
          exact ih y5_91_142 by5_91_142 (wI (x6 + 1)) (nmI_w _) hf _ _ _ hH hS (gLv_sub hl [1, 2, 3, 4, 5, 6, 0] rfl)
theorem w_X12_needing_L27 {G : gG} {p : Program} {l : Launch} {e : Env} {s : State} {m : MethodId} {args : Array Value} {below : List Frame} {meth : Method} {c : Code} (X : gX G p s m args meth c RX12 cX12_needing 8 (some .int) (gWs yX12_needing cX12_needing 8 (some .int))) (k169 : Int → Option (Int × gM)) (z1 : Int) (nz1 : nmI z1) (M : gM) (q : (Int × gM)) (hk169 : ∀ (x2 : Int) (nx2 : nmI x2), k169 x2 = some q → ∀ (H : Heap) (locs : List Loc) (ls : Array Slot), gH G M H → va_S (gA G) s.heap H locs → gLv ls 8 [(2, .int (iI x2))] → W p l e { frames := 3, cells := 0, slots := 0, locals := 64 } s m args below meth c H locs 0 0 (MQ below (gQi G q.1 q.2) args s 0 0 (gA G)) (F0 m 169 ls [])) : ∀ (n : Nat) (x2 : Int) (nx2 : nmI x2) (x3 : Int) (nx3 : nmI x3), f_X12_needing_L27 k169 z1 M n x2 x3 = some q → ∀ (H : Heap) (locs : List Loc) (ls : Array Slot), gH G M H → va_S (gA G) s.heap H locs → gLv ls 8 [(0, .ref (gAd G 29 0)), (1, .int (iI z1)), (2, .int (iI x2)), (3, .int (iI x3))] → W p l e { frames := 3, cells := 0, slots := 0, locals := 64 } s m args below meth c H locs 0 0 (MQ below (gQi G q.1 q.2) args s 0 0 (gA G)) (F0 m 27 ls []) := by
  intro n
  induction n with
  | zero =>
    intro x2 nx2 x3 nx3 hf
    cases hf
  | succ n ih =>
    intro x2 nx2 x3 nx3 hf H locs ls hH hS hl
    rw [f_X12_needing_L27] at hf
    refine lv_iload_n X.1 X.2.1 dX12_needing_27 rfl (lv_at hl.1 3 rfl) ?_
    refine lv_aload_n X.1 X.2.1 dX12_needing_28 rfl (lv_at hl.1 0 rfl) ?_
    have nd29 : nmI (M 29 0 7) := hH.1.1 _ _ _
    refine g_get X cX12 hH (r := 29) (i := 0) (by decide) rfl 7 (by decide) k_408 rfl (v := .int (iI (M 29 0 7))) rfl dX12_needing_29 ?_
    refine g_icmp_ge X nx3 nd29 (tgt := 169) dX12_needing_32 (by decide) (fun hc32 => ?_) (fun hc32 => ?_)
    · replace hf := it_f hf hc32
      exact hk169 x2 nx2 hf _ _ _ hH hS (gLv_sub hl [2] rfl)
    · replace hf := it_t hf hc32
      refine lv_aload_n X.1 X.2.1 dX12_needing_35 rfl (lv_at hl.1 0 rfl) ?_
      refine lv_iconst X.1 X.2.1 dX12_needing_36 (v := iI 1) rfl ?_
      refine lv_iload_n X.1 X.2.1 dX12_needing_37 rfl (lv_at hl.1 3 rfl) ?_
      refine g_ishl X dX12_needing_38 ?_
      obtain ⟨r39, hq39, hf_⟩ := ob_e hf; clear hf; have hf := hf_; clear hf_
      refine gGoI (gRunV X hH (As := [.int (iI (gShl 1 x3))]) (m_X12_neededBy l G (gShl 1 x3) (nmI_shl _ _) M _ hq39) calX12_neededBy k_981 k_1110 k_484 (by decide) cX12 rfl ⟨by decide, by decide⟩ rfl hl rfl (Nat.le_of_ble_eq_true rfl) ⟨Nat.le_refl 0, Nat.le_refl 0⟩ dX12_needing_39) hS (fun H locs nr39 hH hS => ?_)
      refine g_istore X (lv' := [(4, .int (iI r39)), (0, .ref (gAd G 29 0)), (1, .int (iI z1)), (2, .int (iI x2)), (3, .int (iI x3))]) dX12_needing_42 hl (by decide) rfl (fun ls hl => ?_)
      refine lv_iload_n X.1 X.2.1 dX12_needing_44 rfl (lv_at hl.1 2 rfl) ?_
      refine lv_bipush X.1 X.2.1 dX12_needing_45 (v := iI 16) (by decide) ?_
      obtain ⟨k68, ek68, hf_⟩ := oj_e hf; clear hf; have hf := hf_; clear hf_
      have hk68 : ∀ (xs0_68 : Int) (bxs0_68 : xs0_68 = 0 ∨ xs0_68 = 1), k68 xs0_68 = some q → ∀ (H : Heap) (locs : List Loc) (ls : Array Slot), gH G M H → va_S (gA G) s.heap H locs → gLv ls 8 [(0, .ref (gAd G 29 0)), (1, .int (iI z1)), (2, .int (iI x2)), (3, .int (iI x3)), (4, .int (iI r39))] → W p l e { frames := 3, cells := 0, slots := 0, locals := 64 } s m args below meth c H locs 0 0 (MQ below (gQi G q.1 q.2) args s 0 0 (gA G)) (F0 m 68 ls [.int (iI xs0_68)]) := by
        intro xs0_68 bxs0_68 hf H locs ls hH hS hl
        subst ek68
        refine g_istore X (lv' := [(5, .int (iI xs0_68)), (0, .ref (gAd G 29 0)), (1, .int (iI z1)), (2, .int (iI x2)), (3, .int (iI x3)), (4, .int (iI r39))]) dX12_needing_68 hl (by decide) rfl (fun ls hl => ?_)
        refine lv_iconst X.1 X.2.1 dX12_needing_70 (v := iI 0) rfl ?_
        refine g_istore X (lv' := [(6, .int (iI 0)), (5, .int (iI xs0_68)), (0, .ref (gAd G 29 0)), (1, .int (iI z1)), (2, .int (iI x2)), (3, .int (iI x3)), (4, .int (iI r39))]) dX12_needing_71 hl (by decide) rfl (fun ls hl => ?_)
        refine w_X12_needing_L73 X _ z1 nz1 x2 nx2 x3 nx3 r39 nr39 M q ?_ 64 xs0_68 bxs0_68 0 (nmI_l (by decide)) hf _ _ _ hH hS (gLv_sub hl [2, 3, 4, 5, 6, 1, 0] rfl)
        · intro y5_73_148 by5_73_148 hf H locs ls hH hS hl
          refine lv_iload_n X.1 X.2.1 dX12_needing_148 rfl (lv_at hl.1 2 rfl) ?_
          refine lv_iload X.1 X.2.1 dX12_needing_149 (lv_at hl.1 4 rfl) ?_
          obtain ⟨k161, ek161, hf_⟩ := oj_e hf; clear hf; have hf := hf_; clear hf_
          have hk161 : ∀ (xs1_161 : Int) (nxs1_161 : nmI xs1_161), k161 xs1_161 = some q → ∀ (H : Heap) (locs : List Loc) (ls : Array Slot), gH G M H → va_S (gA G) s.heap H locs → gLv ls 8 [(0, .ref (gAd G 29 0)), (1, .int (iI z1)), (3, .int (iI x3))] → W p l e { frames := 3, cells := 0, slots := 0, locals := 64 } s m args below meth c H locs 0 0 (MQ below (gQi G q.1 q.2) args s 0 0 (gA G)) (F0 m 161 ls [.int (iI xs1_161), .int (iI x2)]) := by
            intro xs1_161 nxs1_161 hf H locs ls hH hS hl
            subst ek161
            refine g_ior X dX12_needing_161 ?_
            refine g_istore_n X (lv' := [(2, .int (iI (gOr x2 xs1_161))), (0, .ref (gAd G 29 0)), (1, .int (iI z1)), (3, .int (iI x3))]) dX12_needing_162 rfl hl (by decide) rfl (fun ls hl => ?_)
            refine g_iinc X (a := x3) (lv' := [(3, .int (iI (wI (x3 + 1)))), (2, .int (iI (gOr x2 xs1_161))), (0, .ref (gAd G 29 0)), (1, .int (iI z1))]) dX12_needing_163 hl (k := 3) rfl (by decide) rfl (fun ls hl => ?_)
            refine lv_goto (tgt := 27) X.1 X.2.1 dX12_needing_166 (by decide) ?_
            exact ih (gOr x2 xs1_161) (nmI_or _ _) (wI (x3 + 1)) (nmI_w _) hf _ _ _ hH hS (gLv_sub hl [2, 3, 1, 0] rfl)
          clear ek161
          refine g_if_eq X (nmI_b by5_73_148) (tgt := 160) dX12_needing_151 (by decide) (fun hc151 => ?_) (fun hc151 => ?_)
          · replace hf := it_t hf hc151
            refine lv_iconst X.1 X.2.1 dX12_needing_160 (v := iI 0) rfl ?_
            exact hk161 0 (nmI_l (by decide)) hf _ _ _ hH hS (gLv_sub hl [0, 1, 3] rfl)
          · replace hf := it_f hf hc151
            refine lv_iconst X.1 X.2.1 dX12_needing_154 (v := iI 1) rfl ?_
            refine lv_iload_n X.1 X.2.1 dX12_needing_155 rfl (lv_at hl.1 3 rfl) ?_
            refine g_ishl X dX12_needing_156 ?_
            refine lv_goto (tgt := 161) X.1 X.2.1 dX12_needing_157 (by decide) ?_
            exact hk161 (gShl 1 x3) (nmI_shl _ _) hf _ _ _ hH hS (gLv_sub hl [0, 1, 3] rfl)
      clear ek68
      obtain ⟨k67, ek67, hf_⟩ := oj_e hf; clear hf; have hf := hf_; clear hf_
      have hk67 : k67 = some q → ∀ (H : Heap) (locs : List Loc) (ls : Array Slot), gH G M H → va_S (gA G) s.heap H locs → gLv ls 8 [(0, .ref (gAd G 29 0)), (1, .int (iI z1)), (2, .int (iI x2)), (3, .int (iI x3)), (4, .int (iI r39))] → W p l e { frames := 3, cells := 0, slots := 0, locals := 64 } s m args below meth c H locs 0 0 (MQ below (gQi G q.1 q.2) args s 0 0 (gA G)) (F0 m 67 ls []) := by
        intro  hf H locs ls hH hS hl
        subst ek67
        refine lv_iconst X.1 X.2.1 dX12_needing_67 (v := iI 0) rfl ?_
        exact hk68 0 (by decide) hf _ _ _ hH hS (gLv_sub hl [0, 1, 2, 3, 4] rfl)
      clear ek67
      refine g_icmp_lt X nz1 (nmI_l (by decide)) (tgt := 67) dX12_needing_47 (by decide) (fun hc47 => ?_) (fun hc47 => ?_)
      · replace hf := it_t hf hc47
        exact hk67  hf _ _ _ hH hS (gLv_sub hl [1, 2, 3, 4, 0] rfl)
      · replace hf := it_f hf hc47
        refine lv_iload X.1 X.2.1 dX12_needing_50 (lv_at hl.1 0 rfl) ?_
        refine lv_iload_n X.1 X.2.1 dX12_needing_52 rfl (lv_at hl.1 2 rfl) ?_
        refine lv_bipush X.1 X.2.1 dX12_needing_53 (v := iI 16) (by decide) ?_
        refine g_isub X dX12_needing_55 ?_
        refine g_ishr X dX12_needing_56 ?_
        refine lv_iconst X.1 X.2.1 dX12_needing_57 (v := iI 1) rfl ?_
        refine g_iand X dX12_needing_58 ?_
        refine lv_iconst X.1 X.2.1 dX12_needing_59 (v := iI 1) rfl ?_
        refine g_icmp_ne X (nmI_and _ _) (nmI_l (by decide)) (tgt := 67) dX12_needing_60 (by decide) (fun hc60 => ?_) (fun hc60 => ?_)
        · replace hf := it_f hf hc60
          exact hk67  hf _ _ _ hH hS (gLv_sub hl [1, 2, 3, 4, 0] rfl)
        · replace hf := it_t hf hc60
          refine lv_iconst X.1 X.2.1 dX12_needing_63 (v := iI 1) rfl ?_
          refine lv_goto (tgt := 68) X.1 X.2.1 dX12_needing_64 (by decide) ?_
          exact hk68 1 (by decide) hf _ _ _ hH hS (gLv_sub hl [1, 2, 3, 4, 0] rfl)
theorem m_X12_needing (l : Launch) (G : gG) (v1 : Int) (nv1 : nmI v1) (M : gM) (q : (Int × gM)) (hf : f_X12_needing v1 M = some q) : gMet l yX12_needing cX12_needing 8 (some .int) 3 64 G M [.ref (gAd G 29 0), .int (iI v1)] (gQi G q.1 q.2) := by
  refine gOfW (by decide) (by show _ ≤ 8; exact Nat.le_of_ble_eq_true rfl) rfl ?_
  intro p e s m below meth c X hH ls hl
  replace hl : gLv ls 8 [(0, .ref (gAd G 29 0)), (1, .int (iI v1))] := hl
  have hS : va_S (gA G) s.heap s.heap [] := va_S.rf
  generalize hargs : ([.ref (gAd G 29 0), .int (iI v1)] : List Value).toArray = args at X ⊢
  clear hargs
  unfold f_X12_needing at hf
  refine lv_aload_n X.1 X.2.1 dX12_needing_0 rfl (lv_at hl.1 0 rfl) ?_
  refine lv_iload_n X.1 X.2.1 dX12_needing_1 rfl (lv_at hl.1 1 rfl) ?_
  obtain ⟨k10, ek10, hf_⟩ := oj_e hf; clear hf; have hf := hf_; clear hf_
  have hk10 : ∀ (xs1_10 : Int) (bxs1_10 : xs1_10 = 0 ∨ xs1_10 = 1), k10 xs1_10 = some q → ∀ (H : Heap) (locs : List Loc) (ls : Array Slot), gH G M H → va_S (gA G) s.heap H locs → gLv ls 8 [(0, .ref (gAd G 29 0)), (1, .int (iI v1))] → W p l e { frames := 3, cells := 0, slots := 0, locals := 64 } s m args below meth c H locs 0 0 (MQ below (gQi G q.1 q.2) args s 0 0 (gA G)) (F0 m 10 ls [.int (iI xs1_10), .ref (gAd G 29 0)]) := by
    intro xs1_10 bxs1_10 hf H locs ls hH hS hl
    subst ek10
    refine lv_aload_n X.1 X.2.1 dX12_needing_10 rfl (lv_at hl.1 0 rfl) ?_
    refine lv_iload_n X.1 X.2.1 dX12_needing_11 rfl (lv_at hl.1 1 rfl) ?_
    refine gGoZ (gRunV X hH (As := [.int (iI v1)]) (m_X12_isInput l G v1 nv1 M _ rfl) calX12_isInput k_940 k_1104 k_465 (by decide) cX12 rfl ⟨by decide, by decide⟩ rfl hl rfl (Nat.le_of_ble_eq_true rfl) ⟨Nat.le_refl 0, Nat.le_refl 0⟩ dX12_needing_12) hS (fun H locs br12 hH hS => ?_)
    refine gGoZ (gRunV X hH (As := [.int (iI xs1_10), .int (iI ((f_X12_isInput v1 M)))]) (m_X12_asked_ l G xs1_10 bxs1_10 ((f_X12_isInput v1 M)) br12 M _ rfl) calX12_asked_ k_932 k_1103 k_462 (by decide) cX12 rfl ⟨by decide, by decide⟩ rfl hl rfl (Nat.le_of_ble_eq_true rfl) ⟨Nat.le_refl 0, Nat.le_refl 0⟩ dX12_needing_15) hS (fun H locs br15 hH hS => ?_)
    refine g_if_ne X (nmI_b br15) (tgt := 23) dX12_needing_18 (by decide) (fun hc18 => ?_) (fun hc18 => ?_)
    · replace hf := it_f hf hc18
      refine lv_iconst X.1 X.2.1 dX12_needing_23 (v := iI 0) rfl ?_
      refine g_istore_n X (lv' := [(2, .int (iI 0)), (0, .ref (gAd G 29 0)), (1, .int (iI v1))]) dX12_needing_24 rfl hl (by decide) rfl (fun ls hl => ?_)
      refine lv_iconst X.1 X.2.1 dX12_needing_25 (v := iI 0) rfl ?_
      refine g_istore_n X (lv' := [(3, .int (iI 0)), (2, .int (iI 0)), (0, .ref (gAd G 29 0)), (1, .int (iI v1))]) dX12_needing_26 rfl hl (by decide) rfl (fun ls hl => ?_)
      refine w_X12_needing_L27 X _ v1 nv1 ((f_X12_asked_ xs1_10 ((f_X12_isInput v1 M)) M).2) q ?_ 64 0 (nmI_l (by decide)) 0 (nmI_l (by decide)) hf _ _ _ hH hS (gLv_sub hl [2, 3, 1, 0] rfl)
      · intro y2_27_169 ny2_27_169 hf H locs ls hH hS hl
        refine lv_iload_n X.1 X.2.1 dX12_needing_169 rfl (lv_at hl.1 0 rfl) ?_
        have hq := Option.some.inj hf; subst hq
        exact gRetI X hH hS (res := y2_27_169) ny2_27_169 dX12_needing_170
    · replace hf := it_t hf hc18
      refine lv_iconst X.1 X.2.1 dX12_needing_21 (v := iI 0) rfl ?_
      have hq := Option.some.inj hf; subst hq
      exact gRetI X hH hS (res := 0) (nmI_l (by decide)) dX12_needing_22
  clear ek10
  refine g_if_lt X nv1 (tgt := 9) dX12_needing_2 (by decide) (fun hc2 => ?_) (fun hc2 => ?_)
  · replace hf := it_t hf hc2
    refine lv_iconst X.1 X.2.1 dX12_needing_9 (v := iI 0) rfl ?_
    exact hk10 0 (by decide) hf _ _ _ hH hS (gLv_sub hl [0, 1] rfl)
  · replace hf := it_f hf hc2
    refine lv_iconst X.1 X.2.1 dX12_needing_5 (v := iI 1) rfl ?_
    refine lv_goto (tgt := 10) X.1 X.2.1 dX12_needing_6 (by decide) ?_
    exact hk10 1 (by decide) hf _ _ _ hH hS (gLv_sub hl [0, 1] rfl)
theorem w_X12_steps_L76 {G : gG} {p : Program} {l : Launch} {e : Env} {s : State} {m : MethodId} {args : Array Value} {below : List Frame} {meth : Method} {c : Code} (X : gX G p s m args meth c RX12 cX12_steps 9 (some .int) (gWs yX12_steps cX12_steps 9 (some .int))) (k137 : Int → Option (Int × gM)) (z2 : Int) (nz2 : nmI z2) (z3 : Int) (nz3 : nmI z3) (z4 : Int) (nz4 : nmI z4) (z6 : Int) (nz6 : nmI z6) (M : gM) (q : (Int × gM)) (hk137 : ∀ (x5 : Int) (nx5 : nmI x5), k137 x5 = some q → ∀ (H : Heap) (locs : List Loc) (ls : Array Slot), gH G M H → va_S (gA G) s.heap H locs → gLv ls 9 [(0, .ref (gAd G 29 0)), (2, .int (iI z2)), (3, .int (iI z3)), (4, .int (iI z4)), (5, .int (iI x5)), (6, .int (iI z6))] → W p l e { frames := 2, cells := 0, slots := 0, locals := 43 } s m args below meth c H locs 0 0 (MQ below (gQi G q.1 q.2) args s 0 0 (gA G)) (F0 m 137 ls [])) : ∀ (n : Nat) (x5 : Int) (nx5 : nmI x5) (x7 : Int) (nx7 : nmI x7), f_X12_steps_L76 k137 z2 z3 z4 z6 M n x5 x7 = some q → ∀ (H : Heap) (locs : List Loc) (ls : Array Slot), gH G M H → va_S (gA G) s.heap H locs → gLv ls 9 [(0, .ref (gAd G 29 0)), (2, .int (iI z2)), (3, .int (iI z3)), (4, .int (iI z4)), (5, .int (iI x5)), (6, .int (iI z6)), (7, .int (iI x7))] → W p l e { frames := 2, cells := 0, slots := 0, locals := 43 } s m args below meth c H locs 0 0 (MQ below (gQi G q.1 q.2) args s 0 0 (gA G)) (F0 m 76 ls []) := by
  intro n
  induction n with
  | zero =>
    intro x5 nx5 x7 nx7 hf
    cases hf
  | succ n ih =>
    intro x5 nx5 x7 nx7 hf H locs ls hH hS hl
    rw [f_X12_steps_L76] at hf
    refine lv_iload X.1 X.2.1 dX12_steps_76 (lv_at hl.1 6 rfl) ?_
    refine lv_aload_n X.1 X.2.1 dX12_steps_78 rfl (lv_at hl.1 0 rfl) ?_
    refine g_get X cX12 hH (r := 29) (i := 0) (by decide) rfl 14 (by decide) k_415 rfl (v := .ref (gAd G 41 0)) rfl dX12_steps_79 ?_
    refine lv_iload X.1 X.2.1 dX12_steps_82 (lv_at hl.1 5 rfl) ?_
    obtain ⟨hg, hf_⟩ := og_e hf; clear hf; have hf := hf_; clear hf_
    have nd84 : nmI (M 41 0 z6.toNat) := hH.1.1 _ _ _
    refine g_iald X hH (r := 41) (i := 0) (by decide) rfl nz6 hg (v := M 41 0 z6.toNat) rfl dX12_steps_84 ?_
    refine g_icmp_ge X nx7 nd84 (tgt := 137) dX12_steps_85 (by decide) (fun hc85 => ?_) (fun hc85 => ?_)
    · replace hf := it_f hf hc85
      exact hk137 x5 nx5 hf _ _ _ hH hS (gLv_sub hl [0, 1, 2, 3, 4, 5] rfl)
    · replace hf := it_t hf hc85
      refine lv_iload_n X.1 X.2.1 dX12_steps_88 rfl (lv_at hl.1 2 rfl) ?_
      refine lv_iload X.1 X.2.1 dX12_steps_89 (lv_at hl.1 5 rfl) ?_
      refine g_ishr X dX12_steps_91 ?_
      refine lv_iconst X.1 X.2.1 dX12_steps_92 (v := iI 1) rfl ?_
      refine g_iand X dX12_steps_93 ?_
      refine lv_iconst X.1 X.2.1 dX12_steps_94 (v := iI 1) rfl ?_
      refine g_icmp_ne X (nmI_and _ _) (nmI_l (by decide)) (tgt := 137) dX12_steps_95 (by decide) (fun hc95 => ?_) (fun hc95 => ?_)
      · replace hf := it_f hf hc95
        exact hk137 x5 nx5 hf _ _ _ hH hS (gLv_sub hl [0, 1, 2, 3, 4, 5] rfl)
      · replace hf := it_t hf hc95
        refine lv_aload_n X.1 X.2.1 dX12_steps_98 rfl (lv_at hl.1 0 rfl) ?_
        refine lv_iload X.1 X.2.1 dX12_steps_99 (lv_at hl.1 5 rfl) ?_
        refine lv_iload X.1 X.2.1 dX12_steps_101 (lv_at hl.1 6 rfl) ?_
        obtain ⟨r103, hq103, hf_⟩ := ob_e hf; clear hf; have hf := hf_; clear hf_
        refine gGoI (gRunV X hH (As := [.int (iI z6), .int (iI x7)]) (m_X12_inputOf l G z6 nz6 x7 nx7 M _ hq103) calX12_inputOf k_983 k_1111 k_485 (by decide) cX12 rfl ⟨by decide, by decide⟩ rfl hl rfl (Nat.le_of_ble_eq_true rfl) ⟨Nat.le_refl 0, Nat.le_refl 0⟩ dX12_steps_103) hS (fun H locs nr103 hH hS => ?_)
        refine g_istore X (lv' := [(8, .int (iI r103)), (0, .ref (gAd G 29 0)), (2, .int (iI z2)), (3, .int (iI z3)), (4, .int (iI z4)), (5, .int (iI x5)), (6, .int (iI z6)), (7, .int (iI x7))]) dX12_steps_106 hl (by decide) rfl (fun ls hl => ?_)
        refine lv_iload X.1 X.2.1 dX12_steps_108 (lv_at hl.1 5 rfl) ?_
        refine lv_iload X.1 X.2.1 dX12_steps_110 (lv_at hl.1 0 rfl) ?_
        refine lv_bipush X.1 X.2.1 dX12_steps_112 (v := iI 16) (by decide) ?_
        obtain ⟨k128, ek128, hf_⟩ := oj_e hf; clear hf; have hf := hf_; clear hf_
        have hk128 : ∀ (xs1_128 : Int) (nxs1_128 : nmI xs1_128), k128 xs1_128 = some q → ∀ (H : Heap) (locs : List Loc) (ls : Array Slot), gH G M H → va_S (gA G) s.heap H locs → gLv ls 9 [(0, .ref (gAd G 29 0)), (2, .int (iI z2)), (3, .int (iI z3)), (4, .int (iI z4)), (6, .int (iI z6)), (7, .int (iI x7))] → W p l e { frames := 2, cells := 0, slots := 0, locals := 43 } s m args below meth c H locs 0 0 (MQ below (gQi G q.1 q.2) args s 0 0 (gA G)) (F0 m 128 ls [.int (iI xs1_128), .int (iI x5)]) := by
          intro xs1_128 nxs1_128 hf H locs ls hH hS hl
          subst ek128
          refine g_ior X dX12_steps_128 ?_
          refine g_istore X (lv' := [(5, .int (iI (gOr x5 xs1_128))), (0, .ref (gAd G 29 0)), (2, .int (iI z2)), (3, .int (iI z3)), (4, .int (iI z4)), (6, .int (iI z6)), (7, .int (iI x7))]) dX12_steps_129 hl (by decide) rfl (fun ls hl => ?_)
          refine g_iinc X (a := x7) (lv' := [(7, .int (iI (wI (x7 + 1)))), (5, .int (iI (gOr x5 xs1_128))), (0, .ref (gAd G 29 0)), (2, .int (iI z2)), (3, .int (iI z3)), (4, .int (iI z4)), (6, .int (iI z6))]) dX12_steps_131 hl (k := 6) rfl (by decide) rfl (fun ls hl => ?_)
          refine lv_goto (tgt := 76) X.1 X.2.1 dX12_steps_134 (by decide) ?_
          exact ih (gOr x5 xs1_128) (nmI_or _ _) (wI (x7 + 1)) (nmI_w _) hf _ _ _ hH hS (gLv_sub hl [2, 3, 4, 5, 1, 6, 0] rfl)
        clear ek128
        refine g_icmp_ge X nr103 (nmI_l (by decide)) (tgt := 121) dX12_steps_114 (by decide) (fun hc114 => ?_) (fun hc114 => ?_)
        · replace hf := it_f hf hc114
          refine lv_iconst X.1 X.2.1 dX12_steps_121 (v := iI 1) rfl ?_
          refine lv_iload X.1 X.2.1 dX12_steps_122 (lv_at hl.1 0 rfl) ?_
          refine lv_bipush X.1 X.2.1 dX12_steps_124 (v := iI 16) (by decide) ?_
          refine g_isub X dX12_steps_126 ?_
          refine g_ishl X dX12_steps_127 ?_
          exact hk128 (gShl 1 (wI (r103 - 16))) (nmI_shl _ _) hf _ _ _ hH hS (gLv_sub hl [1, 2, 3, 4, 6, 7] rfl)
        · replace hf := it_t hf hc114
          refine lv_iconst X.1 X.2.1 dX12_steps_117 (v := iI 0) rfl ?_
          refine lv_goto (tgt := 128) X.1 X.2.1 dX12_steps_118 (by decide) ?_
          exact hk128 0 (nmI_l (by decide)) hf _ _ _ hH hS (gLv_sub hl [1, 2, 3, 4, 6, 7] rfl)
theorem w_X12_steps_L64 {G : gG} {p : Program} {l : Launch} {e : Env} {s : State} {m : MethodId} {args : Array Value} {below : List Frame} {meth : Method} {c : Code} (X : gX G p s m args meth c RX12 cX12_steps 9 (some .int) (gWs yX12_steps cX12_steps 9 (some .int))) (k143 : Int → Option (Int × gM)) (z2 : Int) (nz2 : nmI z2) (z3 : Int) (nz3 : nmI z3) (z4 : Int) (nz4 : nmI z4) (M : gM) (q : (Int × gM)) (hk143 : ∀ (x5 : Int) (nx5 : nmI x5), k143 x5 = some q → ∀ (H : Heap) (locs : List Loc) (ls : Array Slot), gH G M H → va_S (gA G) s.heap H locs → gLv ls 9 [(0, .ref (gAd G 29 0)), (2, .int (iI z2)), (4, .int (iI z4)), (5, .int (iI x5))] → W p l e { frames := 2, cells := 0, slots := 0, locals := 43 } s m args below meth c H locs 0 0 (MQ below (gQi G q.1 q.2) args s 0 0 (gA G)) (F0 m 143 ls [])) : ∀ (n : Nat) (x5 : Int) (nx5 : nmI x5) (x6 : Int) (nx6 : nmI x6), f_X12_steps_L64 k143 z2 z3 z4 M n x5 x6 = some q → ∀ (H : Heap) (locs : List Loc) (ls : Array Slot), gH G M H → va_S (gA G) s.heap H locs → gLv ls 9 [(0, .ref (gAd G 29 0)), (2, .int (iI z2)), (3, .int (iI z3)), (4, .int (iI z4)), (5, .int (iI x5)), (6, .int (iI x6))] → W p l e { frames := 2, cells := 0, slots := 0, locals := 43 } s m args below meth c H locs 0 0 (MQ below (gQi G q.1 q.2) args s 0 0 (gA G)) (F0 m 64 ls []) := by
  intro n
  induction n with
  | zero =>
    intro x5 nx5 x6 nx6 hf
    cases hf
  | succ n ih =>
    intro x5 nx5 x6 nx6 hf H locs ls hH hS hl
    rw [f_X12_steps_L64] at hf
    refine lv_iload X.1 X.2.1 dX12_steps_64 (lv_at hl.1 5 rfl) ?_
    refine lv_aload_n X.1 X.2.1 dX12_steps_66 rfl (lv_at hl.1 0 rfl) ?_
    have nd67 : nmI (M 29 0 7) := hH.1.1 _ _ _
    refine g_get X cX12 hH (r := 29) (i := 0) (by decide) rfl 7 (by decide) k_408 rfl (v := .int (iI (M 29 0 7))) rfl dX12_steps_67 ?_
    refine g_icmp_ge X nx6 nd67 (tgt := 143) dX12_steps_70 (by decide) (fun hc70 => ?_) (fun hc70 => ?_)
    · replace hf := it_f hf hc70
      exact hk143 x5 nx5 hf _ _ _ hH hS (gLv_sub hl [0, 1, 3, 4] rfl)
    · replace hf := it_t hf hc70
      refine lv_iconst X.1 X.2.1 dX12_steps_73 (v := iI 0) rfl ?_
      refine g_istore X (lv' := [(7, .int (iI 0)), (0, .ref (gAd G 29 0)), (2, .int (iI z2)), (3, .int (iI z3)), (4, .int (iI z4)), (5, .int (iI x5)), (6, .int (iI x6))]) dX12_steps_74 hl (by decide) rfl (fun ls hl => ?_)
      refine w_X12_steps_L76 X _ z2 nz2 z3 nz3 z4 nz4 x6 nx6 M q ?_ 64 x5 nx5 0 (nmI_l (by decide)) hf _ _ _ hH hS (gLv_sub hl [1, 2, 3, 4, 5, 6, 0] rfl)
      · intro y5_76_137 ny5_76_137 hf H locs ls hH hS hl
        refine g_iinc X (a := x6) (lv' := [(6, .int (iI (wI (x6 + 1)))), (0, .ref (gAd G 29 0)), (2, .int (iI z2)), (3, .int (iI z3)), (4, .int (iI z4)), (5, .int (iI y5_76_137))]) dX12_steps_137 hl (k := 5) rfl (by decide) rfl (fun ls hl => ?_)
        refine lv_goto (tgt := 64) X.1 X.2.1 dX12_steps_140 (by decide) ?_
        exact ih y5_76_137 ny5_76_137 (wI (x6 + 1)) (nmI_w _) hf _ _ _ hH hS (gLv_sub hl [1, 2, 3, 4, 5, 0] rfl)
theorem w_X12_steps_L37 {G : gG} {p : Program} {l : Launch} {e : Env} {s : State} {m : MethodId} {args : Array Value} {below : List Frame} {meth : Method} {c : Code} (X : gX G p s m args meth c RX12 cX12_steps 9 (some .int) (gWs yX12_steps cX12_steps 9 (some .int))) (k152 : Option (Int × gM)) (z2 : Int) (nz2 : nmI z2) (M : gM) (q : (Int × gM)) (hk152 : k152 = some q → ∀ (H : Heap) (locs : List Loc) (ls : Array Slot), gH G M H → va_S (gA G) s.heap H locs → gLv ls 9 [] → W p l e { frames := 2, cells := 0, slots := 0, locals := 43 } s m args below meth c H locs 0 0 (MQ below (gQi G q.1 q.2) args s 0 0 (gA G)) (F0 m 152 ls [])) : ∀ (n : Nat) (x3 : Int) (nx3 : nmI x3) (x4 : Int) (nx4 : nmI x4), f_X12_steps_L37 k152 z2 M n x3 x4 = some q → ∀ (H : Heap) (locs : List Loc) (ls : Array Slot), gH G M H → va_S (gA G) s.heap H locs → gLv ls 9 [(0, .ref (gAd G 29 0)), (2, .int (iI z2)), (3, .int (iI x3)), (4, .int (iI x4))] → W p l e { frames := 2, cells := 0, slots := 0, locals := 43 } s m args below meth c H locs 0 0 (MQ below (gQi G q.1 q.2) args s 0 0 (gA G)) (F0 m 37 ls []) := by
  intro n
  induction n with
  | zero =>
    intro x3 nx3 x4 nx4 hf
    cases hf
  | succ n ih =>
    intro x3 nx3 x4 nx4 hf H locs ls hH hS hl
    rw [f_X12_steps_L37] at hf
    refine lv_iload X.1 X.2.1 dX12_steps_37 (lv_at hl.1 3 rfl) ?_
    refine lv_aload_n X.1 X.2.1 dX12_steps_39 rfl (lv_at hl.1 0 rfl) ?_
    have nd40 : nmI (M 29 0 7) := hH.1.1 _ _ _
    refine g_get X cX12 hH (r := 29) (i := 0) (by decide) rfl 7 (by decide) k_408 rfl (v := .int (iI (M 29 0 7))) rfl dX12_steps_40 ?_
    refine g_icmp_gt X nx4 nd40 (tgt := 152) dX12_steps_43 (by decide) (fun hc43 => ?_) (fun hc43 => ?_)
    · replace hf := it_t hf hc43
      exact hk152  hf _ _ _ hH hS (gLv_sub hl [] rfl)
    · replace hf := it_f hf hc43
      refine lv_iload_n X.1 X.2.1 dX12_steps_46 rfl (lv_at hl.1 2 rfl) ?_
      refine lv_iload_n X.1 X.2.1 dX12_steps_47 rfl (lv_at hl.1 1 rfl) ?_
      refine g_ishr X dX12_steps_48 ?_
      refine lv_iconst X.1 X.2.1 dX12_steps_49 (v := iI 1) rfl ?_
      refine g_iand X dX12_steps_50 ?_
      refine lv_iconst X.1 X.2.1 dX12_steps_51 (v := iI 1) rfl ?_
      refine g_icmp_ne X (nmI_and _ _) (nmI_l (by decide)) (tgt := 58) dX12_steps_52 (by decide) (fun hc52 => ?_) (fun hc52 => ?_)
      · replace hf := it_f hf hc52
        refine lv_iload_n X.1 X.2.1 dX12_steps_58 rfl (lv_at hl.1 2 rfl) ?_
        refine g_istore X (lv' := [(5, .int (iI x3)), (0, .ref (gAd G 29 0)), (2, .int (iI z2)), (3, .int (iI x3)), (4, .int (iI x4))]) dX12_steps_59 hl (by decide) rfl (fun ls hl => ?_)
        refine lv_iconst X.1 X.2.1 dX12_steps_61 (v := iI 0) rfl ?_
        refine g_istore X (lv' := [(6, .int (iI 0)), (5, .int (iI x3)), (0, .ref (gAd G 29 0)), (2, .int (iI z2)), (3, .int (iI x3)), (4, .int (iI x4))]) dX12_steps_62 hl (by decide) rfl (fun ls hl => ?_)
        refine w_X12_steps_L64 X _ z2 nz2 x3 nx3 x4 nx4 M q ?_ 64 x3 nx3 0 (nmI_l (by decide)) hf _ _ _ hH hS (gLv_sub hl [2, 3, 4, 5, 1, 0] rfl)
        · intro y5_64_143 ny5_64_143 hf H locs ls hH hS hl
          refine lv_iload X.1 X.2.1 dX12_steps_143 (lv_at hl.1 3 rfl) ?_
          refine g_istore_n X (lv' := [(3, .int (iI y5_64_143)), (0, .ref (gAd G 29 0)), (2, .int (iI z2)), (4, .int (iI x4)), (5, .int (iI y5_64_143))]) dX12_steps_145 rfl hl (by decide) rfl (fun ls hl => ?_)
          refine g_iinc X (a := x4) (lv' := [(4, .int (iI (wI (x4 + 1)))), (3, .int (iI y5_64_143)), (0, .ref (gAd G 29 0)), (2, .int (iI z2)), (5, .int (iI y5_64_143))]) dX12_steps_146 hl (k := 3) rfl (by decide) rfl (fun ls hl => ?_)
          refine lv_goto (tgt := 37) X.1 X.2.1 dX12_steps_149 (by decide) ?_
          exact ih y5_64_143 ny5_64_143 (wI (x4 + 1)) (nmI_w _) hf _ _ _ hH hS (gLv_sub hl [2, 3, 1, 0] rfl)
      · replace hf := it_t hf hc52
        refine lv_iload X.1 X.2.1 dX12_steps_55 (lv_at hl.1 3 rfl) ?_
        have hq := Option.some.inj hf; subst hq
        exact gRetI X hH hS (res := x4) nx4 dX12_steps_57
theorem m_X12_steps (l : Launch) (G : gG) (v1 : Int) (nv1 : nmI v1) (v2 : Int) (nv2 : nmI v2) (M : gM) (q : (Int × gM)) (hf : f_X12_steps v1 v2 M = some q) : gMet l yX12_steps cX12_steps 9 (some .int) 2 43 G M [.ref (gAd G 29 0), .int (iI v1), .int (iI v2)] (gQi G q.1 q.2) := by
  refine gOfW (by decide) (by show _ ≤ 9; exact Nat.le_of_ble_eq_true rfl) rfl ?_
  intro p e s m below meth c X hH ls hl
  replace hl : gLv ls 9 [(0, .ref (gAd G 29 0)), (1, .int (iI v1)), (2, .int (iI v2))] := hl
  have hS : va_S (gA G) s.heap s.heap [] := va_S.rf
  generalize hargs : ([.ref (gAd G 29 0), .int (iI v1), .int (iI v2)] : List Value).toArray = args at X ⊢
  clear hargs
  unfold f_X12_steps at hf
  refine lv_aload_n X.1 X.2.1 dX12_steps_0 rfl (lv_at hl.1 0 rfl) ?_
  refine lv_aload_n X.1 X.2.1 dX12_steps_1 rfl (lv_at hl.1 0 rfl) ?_
  refine lv_iload_n X.1 X.2.1 dX12_steps_2 rfl (lv_at hl.1 1 rfl) ?_
  refine gGoZ (gRunV X hH (As := [.int (iI v1)]) (m_X12_isTarget l G v1 nv1 M _ rfl) calX12_isTarget k_942 k_1105 k_466 (by decide) cX12 rfl ⟨by decide, by decide⟩ rfl hl rfl (Nat.le_of_ble_eq_true rfl) ⟨Nat.le_refl 0, Nat.le_refl 0⟩ dX12_steps_3) hS (fun H locs br3 hH hS => ?_)
  obtain ⟨k22, ek22, hf_⟩ := oj_e hf; clear hf; have hf := hf_; clear hf_
  have hk22 : ∀ (xs1_22 : Int) (bxs1_22 : xs1_22 = 0 ∨ xs1_22 = 1), k22 xs1_22 = some q → ∀ (H : Heap) (locs : List Loc) (ls : Array Slot), gH G M H → va_S (gA G) s.heap H locs → gLv ls 9 [(0, .ref (gAd G 29 0)), (1, .int (iI v1)), (2, .int (iI v2))] → W p l e { frames := 2, cells := 0, slots := 0, locals := 43 } s m args below meth c H locs 0 0 (MQ below (gQi G q.1 q.2) args s 0 0 (gA G)) (F0 m 22 ls [.int (iI xs1_22), .ref (gAd G 29 0)]) := by
    intro xs1_22 bxs1_22 hf H locs ls hH hS hl
    subst ek22
    refine gGoZ (gRunV X hH (As := [.int (iI xs1_22)]) (m_X12_asked l G xs1_22 bxs1_22 M _ rfl) calX12_asked k_927 k_1102 k_460 (by decide) cX12 rfl ⟨by decide, by decide⟩ rfl hl rfl (Nat.le_of_ble_eq_true rfl) ⟨Nat.le_refl 0, Nat.le_refl 0⟩ dX12_steps_22) hS (fun H locs br22 hH hS => ?_)
    refine g_if_ne X (nmI_b br22) (tgt := 30) dX12_steps_25 (by decide) (fun hc25 => ?_) (fun hc25 => ?_)
    · replace hf := it_f hf hc25
      refine lv_iconst X.1 X.2.1 dX12_steps_30 (v := iI 1) rfl ?_
      refine lv_iload_n X.1 X.2.1 dX12_steps_31 rfl (lv_at hl.1 1 rfl) ?_
      refine g_ishl X dX12_steps_32 ?_
      refine g_istore_n X (lv' := [(3, .int (iI (gShl 1 v1))), (0, .ref (gAd G 29 0)), (1, .int (iI v1)), (2, .int (iI v2))]) dX12_steps_33 rfl hl (by decide) rfl (fun ls hl => ?_)
      refine lv_iconst X.1 X.2.1 dX12_steps_34 (v := iI 0) rfl ?_
      refine g_istore X (lv' := [(4, .int (iI 0)), (3, .int (iI (gShl 1 v1))), (0, .ref (gAd G 29 0)), (1, .int (iI v1)), (2, .int (iI v2))]) dX12_steps_35 hl (by decide) rfl (fun ls hl => ?_)
      refine w_X12_steps_L37 X _ v2 nv2 ((f_X12_asked xs1_22 M).2) q ?_ 64 (gShl 1 v1) (nmI_shl _ _) 0 (nmI_l (by decide)) hf _ _ _ hH hS (gLv_sub hl [2, 4, 1, 0] rfl)
      · intro  hf H locs ls hH hS hl
        refine lv_iconst X.1 X.2.1 dX12_steps_152 (v := iI (-1)) rfl ?_
        have hq := Option.some.inj hf; subst hq
        exact gRetI X hH hS (res := (-1)) (nmI_l (by decide)) dX12_steps_153
    · replace hf := it_t hf hc25
      refine lv_iconst X.1 X.2.1 dX12_steps_28 (v := iI 0) rfl ?_
      have hq := Option.some.inj hf; subst hq
      exact gRetI X hH hS (res := 0) (nmI_l (by decide)) dX12_steps_29
  clear ek22
  obtain ⟨k21, ek21, hf_⟩ := oj_e hf; clear hf; have hf := hf_; clear hf_
  have hk21 : k21 = some q → ∀ (H : Heap) (locs : List Loc) (ls : Array Slot), gH G M H → va_S (gA G) s.heap H locs → gLv ls 9 [(0, .ref (gAd G 29 0)), (1, .int (iI v1)), (2, .int (iI v2))] → W p l e { frames := 2, cells := 0, slots := 0, locals := 43 } s m args below meth c H locs 0 0 (MQ below (gQi G q.1 q.2) args s 0 0 (gA G)) (F0 m 21 ls [.ref (gAd G 29 0)]) := by
    intro  hf H locs ls hH hS hl
    subst ek21
    refine lv_iconst X.1 X.2.1 dX12_steps_21 (v := iI 0) rfl ?_
    exact hk22 0 (by decide) hf _ _ _ hH hS (gLv_sub hl [0, 1, 2] rfl)
  clear ek21
  refine g_if_eq X (nmI_b br3) (tgt := 21) dX12_steps_6 (by decide) (fun hc6 => ?_) (fun hc6 => ?_)
  · replace hf := it_t hf hc6
    exact hk21  hf _ _ _ hH hS (gLv_sub hl [0, 1, 2] rfl)
  · replace hf := it_f hf hc6
    refine lv_aload_n X.1 X.2.1 dX12_steps_9 rfl (lv_at hl.1 0 rfl) ?_
    refine lv_iload_n X.1 X.2.1 dX12_steps_10 rfl (lv_at hl.1 2 rfl) ?_
    refine gGoZ (gRunV X hH (As := [.int (iI v2)]) (m_X12_isTarget l G v2 nv2 M _ rfl) calX12_isTarget k_942 k_1105 k_466 (by decide) cX12 rfl ⟨by decide, by decide⟩ rfl hl rfl (Nat.le_of_ble_eq_true rfl) ⟨Nat.le_refl 0, Nat.le_refl 0⟩ dX12_steps_11) hS (fun H locs br11 hH hS => ?_)
    refine g_if_eq X (nmI_b br11) (tgt := 21) dX12_steps_14 (by decide) (fun hc14 => ?_) (fun hc14 => ?_)
    · replace hf := it_t hf hc14
      exact hk21  hf _ _ _ hH hS (gLv_sub hl [0, 1, 2] rfl)
    · replace hf := it_f hf hc14
      refine lv_iconst X.1 X.2.1 dX12_steps_17 (v := iI 1) rfl ?_
      refine lv_goto (tgt := 22) X.1 X.2.1 dX12_steps_18 (by decide) ?_
      exact hk22 1 (by decide) hf _ _ _ hH hS (gLv_sub hl [0, 1, 2] rfl)
theorem m_X12_changes (l : Launch) (G : gG)  (M : gM) (q : (Int × gM)) (hf : f_X12_changes M = q) : gMet l yX12_changes cX12_changes 1 (some .int) 0 0 G M [.ref (gAd G 29 0)] (gQi G q.1 q.2) := by
  refine gOfW (by decide) (by show _ ≤ 1; exact Nat.le_of_ble_eq_true rfl) rfl ?_
  intro p e s m below meth c X hH ls hl
  replace hl : gLv ls 1 [(0, .ref (gAd G 29 0))] := hl
  have hS : va_S (gA G) s.heap s.heap [] := va_S.rf
  generalize hargs : ([.ref (gAd G 29 0)] : List Value).toArray = args at X ⊢
  clear hargs
  unfold f_X12_changes at hf
  refine lv_aload_n X.1 X.2.1 dX12_changes_0 rfl (lv_at hl.1 0 rfl) ?_
  refine lv_iconst X.1 X.2.1 dX12_changes_1 (v := iI 0) rfl ?_
  refine g_putI X cX12 hH hS (r := 29) (i := 0) (by decide) rfl 0 (by decide) k_401 rfl rfl rfl (Nat.le_of_ble_eq_true rfl) (x := 0) (nmI_l (by decide)) rfl rfl rfl dX12_changes_2 (fun H locs hH hS => ?_)
  refine lv_aload_n X.1 X.2.1 dX12_changes_5 rfl (lv_at hl.1 0 rfl) ?_
  have nd6 : nmI ((gU M 29 0 0 0) 29 0 4) := hH.1.1 _ _ _
  refine g_get X cX12 hH (r := 29) (i := 0) (by decide) rfl 4 (by decide) k_405 rfl (v := .int (iI ((gU M 29 0 0 0) 29 0 4))) rfl dX12_changes_6 ?_
  subst hf
  exact gRetI X hH hS (res := (gU M 29 0 0 0) 29 0 4) nd6 dX12_changes_9
theorem w_X12_isGood_L2 {G : gG} {p : Program} {l : Launch} {e : Env} {s : State} {m : MethodId} {args : Array Value} {below : List Frame} {meth : Method} {c : Code} (X : gX G p s m args meth c RX12 cX12_isGood 4 (some .boolean) (gWs yX12_isGood cX12_isGood 4 (some .boolean))) (k26 : gM → Option (Int × gM)) (z1 : Int) (nz1 : nmI z1) (z2 : Int) (nz2 : nmI z2) (q : (Int × gM)) (hk26 : ∀  (M : gM), k26 M = some q → ∀ (H : Heap) (locs : List Loc) (ls : Array Slot), gH G M H → va_S (gA G) s.heap H locs → gLv ls 4 [(0, .ref (gAd G 29 0)), (1, .int (iI z1)), (2, .int (iI z2))] → W p l e { frames := 3, cells := 0, slots := 0, locals := 69 } s m args below meth c H locs 0 0 (MQ below (gQz G q.1 q.2) args s 0 0 (gA G)) (F0 m 26 ls [])) : ∀ (n : Nat) (x3 : Int) (nx3 : nmI x3) (M : gM), f_X12_isGood_L2 k26 z1 z2 n x3 M = some q → ∀ (H : Heap) (locs : List Loc) (ls : Array Slot), gH G M H → va_S (gA G) s.heap H locs → gLv ls 4 [(0, .ref (gAd G 29 0)), (1, .int (iI z1)), (2, .int (iI z2)), (3, .int (iI x3))] → W p l e { frames := 3, cells := 0, slots := 0, locals := 69 } s m args below meth c H locs 0 0 (MQ below (gQz G q.1 q.2) args s 0 0 (gA G)) (F0 m 2 ls []) := by
  intro n
  induction n with
  | zero =>
    intro x3 nx3 M hf
    cases hf
  | succ n ih =>
    intro x3 nx3 M hf H locs ls hH hS hl
    rw [f_X12_isGood_L2] at hf
    refine lv_iload_n X.1 X.2.1 dX12_isGood_2 rfl (lv_at hl.1 3 rfl) ?_
    refine lv_bipush X.1 X.2.1 dX12_isGood_3 (v := iI 16) (by decide) ?_
    refine g_icmp_ge X nx3 (nmI_l (by decide)) (tgt := 26) dX12_isGood_5 (by decide) (fun hc5 => ?_) (fun hc5 => ?_)
    · replace hf := it_f hf hc5
      exact hk26 M hf _ _ _ hH hS (gLv_sub hl [0, 1, 2] rfl)
    · replace hf := it_t hf hc5
      refine lv_aload_n X.1 X.2.1 dX12_isGood_8 rfl (lv_at hl.1 0 rfl) ?_
      refine g_get X cX12 hH (r := 29) (i := 0) (by decide) rfl 50 (by decide) k_451 rfl (v := .ref (gAd G 69 0)) rfl dX12_isGood_9 ?_
      refine lv_iload_n X.1 X.2.1 dX12_isGood_12 rfl (lv_at hl.1 3 rfl) ?_
      refine lv_aload_n X.1 X.2.1 dX12_isGood_13 rfl (lv_at hl.1 0 rfl) ?_
      refine g_get X cX12 hH (r := 29) (i := 0) (by decide) rfl 1 (by decide) k_402 rfl (v := .ref (gAd G 30 0)) rfl dX12_isGood_14 ?_
      refine lv_iload_n X.1 X.2.1 dX12_isGood_17 rfl (lv_at hl.1 3 rfl) ?_
      obtain ⟨hg, hf_⟩ := og_e hf; clear hf; have hf := hf_; clear hf_
      have nd18 : nmI (M 30 0 x3.toNat) := hH.1.1 _ _ _
      refine g_iald X hH (r := 30) (i := 0) (by decide) rfl nx3 hg (v := M 30 0 x3.toNat) rfl dX12_isGood_18 ?_
      obtain ⟨hg, hf_⟩ := og_e hf; clear hf; have hf := hf_; clear hf_
      refine g_iast X hH hS (r := 69) (i := 0) (by decide) (fun _ => rfl) nx3 hg nd18 rfl (by decide) dX12_isGood_19 (fun H locs hH hS => ?_)
      refine g_iinc X (a := x3) (lv' := [(3, .int (iI (wI (x3 + 1)))), (0, .ref (gAd G 29 0)), (1, .int (iI z1)), (2, .int (iI z2))]) dX12_isGood_20 hl (k := 3) rfl (by decide) rfl (fun ls hl => ?_)
      refine lv_goto (tgt := 2) X.1 X.2.1 dX12_isGood_23 (by decide) ?_
      exact ih (wI (x3 + 1)) (nmI_w _) (gU M 69 0 x3.toNat (M 30 0 x3.toNat)) hf _ _ _ hH hS (gLv_sub hl [1, 2, 3, 0] rfl)
theorem w_X12_isGood_L33 {G : gG} {p : Program} {l : Launch} {e : Env} {s : State} {m : MethodId} {args : Array Value} {below : List Frame} {meth : Method} {c : Code} (X : gX G p s m args meth c RX12 cX12_isGood 4 (some .boolean) (gWs yX12_isGood cX12_isGood 4 (some .boolean))) (k61 : gM → Option (Int × gM)) (z1 : Int) (nz1 : nmI z1) (z2 : Int) (nz2 : nmI z2) (q : (Int × gM)) (hk61 : ∀  (M : gM), k61 M = some q → ∀ (H : Heap) (locs : List Loc) (ls : Array Slot), gH G M H → va_S (gA G) s.heap H locs → gLv ls 4 [(0, .ref (gAd G 29 0)), (1, .int (iI z1))] → W p l e { frames := 3, cells := 0, slots := 0, locals := 69 } s m args below meth c H locs 0 0 (MQ below (gQz G q.1 q.2) args s 0 0 (gA G)) (F0 m 61 ls [])) : ∀ (n : Nat) (x3 : Int) (nx3 : nmI x3) (M : gM), f_X12_isGood_L33 k61 z1 z2 n x3 M = some q → ∀ (H : Heap) (locs : List Loc) (ls : Array Slot), gH G M H → va_S (gA G) s.heap H locs → gLv ls 4 [(0, .ref (gAd G 29 0)), (1, .int (iI z1)), (2, .int (iI z2)), (3, .int (iI x3))] → W p l e { frames := 3, cells := 0, slots := 0, locals := 69 } s m args below meth c H locs 0 0 (MQ below (gQz G q.1 q.2) args s 0 0 (gA G)) (F0 m 33 ls []) := by
  intro n
  induction n with
  | zero =>
    intro x3 nx3 M hf
    cases hf
  | succ n ih =>
    intro x3 nx3 M hf H locs ls hH hS hl
    rw [f_X12_isGood_L33] at hf
    refine lv_iload_n X.1 X.2.1 dX12_isGood_33 rfl (lv_at hl.1 3 rfl) ?_
    refine lv_iload_n X.1 X.2.1 dX12_isGood_34 rfl (lv_at hl.1 2 rfl) ?_
    refine g_icmp_lt X nx3 nz2 (tgt := 61) dX12_isGood_35 (by decide) (fun hc35 => ?_) (fun hc35 => ?_)
    · replace hf := it_t hf hc35
      exact hk61 M hf _ _ _ hH hS (gLv_sub hl [0, 1] rfl)
    · replace hf := it_f hf hc35
      refine lv_aload_n X.1 X.2.1 dX12_isGood_38 rfl (lv_at hl.1 0 rfl) ?_
      refine g_get X cX12 hH (r := 29) (i := 0) (by decide) rfl 50 (by decide) k_451 rfl (v := .ref (gAd G 69 0)) rfl dX12_isGood_39 ?_
      refine lv_aload_n X.1 X.2.1 dX12_isGood_42 rfl (lv_at hl.1 0 rfl) ?_
      refine g_get X cX12 hH (r := 29) (i := 0) (by decide) rfl 5 (by decide) k_406 rfl (v := .ref (gAd G 33 0)) rfl dX12_isGood_43 ?_
      refine lv_iload_n X.1 X.2.1 dX12_isGood_46 rfl (lv_at hl.1 3 rfl) ?_
      obtain ⟨hg, hf_⟩ := og_e hf; clear hf; have hf := hf_; clear hf_
      have nd47 : nmI (M 33 0 x3.toNat) := hH.1.1 _ _ _
      refine g_iald X hH (r := 33) (i := 0) (by decide) rfl nx3 hg (v := M 33 0 x3.toNat) rfl dX12_isGood_47 ?_
      refine lv_aload_n X.1 X.2.1 dX12_isGood_48 rfl (lv_at hl.1 0 rfl) ?_
      refine g_get X cX12 hH (r := 29) (i := 0) (by decide) rfl 6 (by decide) k_407 rfl (v := .ref (gAd G 34 0)) rfl dX12_isGood_49 ?_
      refine lv_iload_n X.1 X.2.1 dX12_isGood_52 rfl (lv_at hl.1 3 rfl) ?_
      obtain ⟨hg, hf_⟩ := og_e hf; clear hf; have hf := hf_; clear hf_
      have nd53 : nmI (M 34 0 x3.toNat) := hH.1.1 _ _ _
      refine g_iald X hH (r := 34) (i := 0) (by decide) rfl nx3 hg (v := M 34 0 x3.toNat) rfl dX12_isGood_53 ?_
      obtain ⟨hg, hf_⟩ := og_e hf; clear hf; have hf := hf_; clear hf_
      refine g_iast X hH hS (r := 69) (i := 0) (by decide) (fun _ => rfl) nd47 hg nd53 rfl (by decide) dX12_isGood_54 (fun H locs hH hS => ?_)
      refine g_iinc X (a := x3) (lv' := [(3, .int (iI (wI (x3 + (-1))))), (0, .ref (gAd G 29 0)), (1, .int (iI z1)), (2, .int (iI z2))]) dX12_isGood_55 hl (k := 3) rfl (by decide) rfl (fun ls hl => ?_)
      refine lv_goto (tgt := 33) X.1 X.2.1 dX12_isGood_58 (by decide) ?_
      exact ih (wI (x3 + (-1))) (nmI_w _) (gU M 69 0 (M 33 0 x3.toNat).toNat (M 34 0 x3.toNat)) hf _ _ _ hH hS (gLv_sub hl [1, 2, 3, 0] rfl)
theorem m_X12_isGood (l : Launch) (G : gG) (v1 : Int) (nv1 : nmI v1) (v2 : Int) (nv2 : nmI v2) (M : gM) (q : (Int × gM)) (hf : f_X12_isGood v1 v2 M = some q) : gMet l yX12_isGood cX12_isGood 4 (some .boolean) 3 69 G M [.ref (gAd G 29 0), .int (iI v1), .int (iI v2)] (gQz G q.1 q.2) := by
  refine gOfW (by decide) (by show _ ≤ 4; exact Nat.le_of_ble_eq_true rfl) rfl ?_
  intro p e s m below meth c X hH ls hl
  replace hl : gLv ls 4 [(0, .ref (gAd G 29 0)), (1, .int (iI v1)), (2, .int (iI v2))] := hl
  have hS : va_S (gA G) s.heap s.heap [] := va_S.rf
  generalize hargs : ([.ref (gAd G 29 0), .int (iI v1), .int (iI v2)] : List Value).toArray = args at X ⊢
  clear hargs
  unfold f_X12_isGood at hf
  refine lv_iconst X.1 X.2.1 dX12_isGood_0 (v := iI 0) rfl ?_
  refine g_istore_n X (lv' := [(3, .int (iI 0)), (0, .ref (gAd G 29 0)), (1, .int (iI v1)), (2, .int (iI v2))]) dX12_isGood_1 rfl hl (by decide) rfl (fun ls hl => ?_)
  refine w_X12_isGood_L2 X _ v1 nv1 v2 nv2 q ?_ 64 0 (nmI_l (by decide)) M hf _ _ _ hH hS (gLv_sub hl [1, 2, 3, 0] rfl)
  · intro  M_2_26 hf H locs ls hH hS hl
    refine lv_aload_n X.1 X.2.1 dX12_isGood_26 rfl (lv_at hl.1 0 rfl) ?_
    have nd27 : nmI (M_2_26 29 0 4) := hH.1.1 _ _ _
    refine g_get X cX12 hH (r := 29) (i := 0) (by decide) rfl 4 (by decide) k_405 rfl (v := .int (iI (M_2_26 29 0 4))) rfl dX12_isGood_27 ?_
    refine lv_iconst X.1 X.2.1 dX12_isGood_30 (v := iI 1) rfl ?_
    refine g_isub X dX12_isGood_31 ?_
    refine g_istore_n X (lv' := [(3, .int (iI (wI ((M_2_26 29 0 4) - 1)))), (0, .ref (gAd G 29 0)), (1, .int (iI v1)), (2, .int (iI v2))]) dX12_isGood_32 rfl hl (by decide) rfl (fun ls hl => ?_)
    refine w_X12_isGood_L33 X _ v1 nv1 v2 nv2 q ?_ 64 (wI ((M_2_26 29 0 4) - 1)) (nmI_w _) M_2_26 hf _ _ _ hH hS (gLv_sub hl [1, 2, 3, 0] rfl)
    · intro  M_33_61 hf H locs ls hH hS hl
      refine lv_aload_n X.1 X.2.1 dX12_isGood_61 rfl (lv_at hl.1 0 rfl) ?_
      obtain ⟨r62, hq62, hf_⟩ := ob_e hf; clear hf; have hf := hf_; clear hf_
      refine gGoV (gRunV X hH (As := []) (m_X12_freshen l G  M_33_61 _ hq62) calX12_freshen k_1038 k_1131 k_510 (by decide) cX12 rfl ⟨by decide, by decide⟩ rfl hl rfl (Nat.le_of_ble_eq_true rfl) ⟨Nat.le_refl 0, Nat.le_refl 0⟩ dX12_isGood_62) hS (fun H locs hH hS => ?_)
      refine lv_aload_n X.1 X.2.1 dX12_isGood_65 rfl (lv_at hl.1 0 rfl) ?_
      refine g_get X cX12 hH (r := 29) (i := 0) (by decide) rfl 53 (by decide) k_454 rfl (v := .ref (gAd G 72 0)) rfl dX12_isGood_66 ?_
      refine lv_iload_n X.1 X.2.1 dX12_isGood_69 rfl (lv_at hl.1 1 rfl) ?_
      obtain ⟨hg, hf_⟩ := og_e hf; clear hf; have hf := hf_; clear hf_
      have nd70 : nmI (r62 72 0 v1.toNat) := hH.1.1 _ _ _
      have bd70 := hH.1.2.1 72 0 v1.toNat rfl
      refine g_zald X hH (r := 72) (i := 0) (by decide) rfl nv1 hg (v := r62 72 0 v1.toNat) rfl dX12_isGood_70 ?_
      have hq := Option.some.inj hf; subst hq
      exact gRetZ X hH hS (res := r62 72 0 v1.toNat) bd70 dX12_isGood_71
theorem w_X12_bisect_L49 {G : gG} {p : Program} {l : Launch} {e : Env} {s : State} {m : MethodId} {args : Array Value} {below : List Frame} {meth : Method} {c : Code} (X : gX G p s m args meth c RX12 cX12_bisect 5 (some .int) (gWs yX12_bisect cX12_bisect 5 (some .int))) (k95 : Int → gM → Option (Int × gM)) (z1 : Int) (nz1 : nmI z1) (q : (Int × gM)) (hk95 : ∀ (x3 : Int) (nx3 : nmI x3) (M : gM), k95 x3 M = some q → ∀ (H : Heap) (locs : List Loc) (ls : Array Slot), gH G M H → va_S (gA G) s.heap H locs → gLv ls 5 [(3, .int (iI x3))] → W p l e { frames := 4, cells := 0, slots := 0, locals := 92 } s m args below meth c H locs 0 0 (MQ below (gQi G q.1 q.2) args s 0 0 (gA G)) (F0 m 95 ls [])) : ∀ (n : Nat) (x2 : Int) (nx2 : nmI x2) (x3 : Int) (nx3 : nmI x3) (M : gM), f_X12_bisect_L49 k95 z1 n x2 x3 M = some q → ∀ (H : Heap) (locs : List Loc) (ls : Array Slot), gH G M H → va_S (gA G) s.heap H locs → gLv ls 5 [(0, .ref (gAd G 29 0)), (1, .int (iI z1)), (2, .int (iI x2)), (3, .int (iI x3))] → W p l e { frames := 4, cells := 0, slots := 0, locals := 92 } s m args below meth c H locs 0 0 (MQ below (gQi G q.1 q.2) args s 0 0 (gA G)) (F0 m 49 ls []) := by
  intro n
  induction n with
  | zero =>
    intro x2 nx2 x3 nx3 M hf
    cases hf
  | succ n ih =>
    intro x2 nx2 x3 nx3 M hf H locs ls hH hS hl
    rw [f_X12_bisect_L49] at hf
    refine lv_iload_n X.1 X.2.1 dX12_bisect_49 rfl (lv_at hl.1 3 rfl) ?_
    refine lv_iload_n X.1 X.2.1 dX12_bisect_50 rfl (lv_at hl.1 2 rfl) ?_
    refine g_isub X dX12_bisect_51 ?_
    refine lv_iconst X.1 X.2.1 dX12_bisect_52 (v := iI 1) rfl ?_
    refine g_icmp_le X (nmI_w _) (nmI_l (by decide)) (tgt := 95) dX12_bisect_53 (by decide) (fun hc53 => ?_) (fun hc53 => ?_)
    · replace hf := it_f hf hc53
      exact hk95 x3 nx3 M hf _ _ _ hH hS (gLv_sub hl [3] rfl)
    · replace hf := it_t hf hc53
      refine lv_iload_n X.1 X.2.1 dX12_bisect_56 rfl (lv_at hl.1 2 rfl) ?_
      refine lv_iload_n X.1 X.2.1 dX12_bisect_57 rfl (lv_at hl.1 3 rfl) ?_
      refine g_iadd X dX12_bisect_58 ?_
      refine lv_iconst X.1 X.2.1 dX12_bisect_59 (v := iI 2) rfl ?_
      refine g_idiv X (nmI_w _) (nmI_l (by decide)) (by decide) dX12_bisect_60 ?_
      refine g_istore X (lv' := [(4, .int (iI (wI ((wI (x2 + x3)).tdiv 2)))), (0, .ref (gAd G 29 0)), (1, .int (iI z1)), (2, .int (iI x2)), (3, .int (iI x3))]) dX12_bisect_61 hl (by decide) rfl (fun ls hl => ?_)
      refine lv_aload_n X.1 X.2.1 dX12_bisect_63 rfl (lv_at hl.1 1 rfl) ?_
      refine lv_dup X.1 X.2.1 dX12_bisect_64 rfl ?_
      have nd65 : nmI (M 29 0 49) := hH.1.1 _ _ _
      refine g_get X cX12 hH (r := 29) (i := 0) (by decide) rfl 49 (by decide) k_450 rfl (v := .int (iI (M 29 0 49))) rfl dX12_bisect_65 ?_
      refine lv_iconst X.1 X.2.1 dX12_bisect_68 (v := iI 1) rfl ?_
      refine g_iadd X dX12_bisect_69 ?_
      refine g_putI X cX12 hH hS (r := 29) (i := 0) (by decide) rfl 49 (by decide) k_450 rfl rfl rfl (Nat.le_of_ble_eq_true rfl) (x := wI ((M 29 0 49) + 1)) (nmI_w _) rfl rfl rfl dX12_bisect_70 (fun H locs hH hS => ?_)
      refine lv_aload_n X.1 X.2.1 dX12_bisect_73 rfl (lv_at hl.1 1 rfl) ?_
      refine lv_iload_n X.1 X.2.1 dX12_bisect_74 rfl (lv_at hl.1 2 rfl) ?_
      refine lv_iload X.1 X.2.1 dX12_bisect_75 (lv_at hl.1 0 rfl) ?_
      obtain ⟨r77, hq77, hf_⟩ := ob_e hf; clear hf; have hf := hf_; clear hf_
      refine gGoZ (gRunV X hH (As := [.int (iI z1), .int (iI (wI ((wI (x2 + x3)).tdiv 2)))]) (m_X12_isGood l G z1 nz1 (wI ((wI (x2 + x3)).tdiv 2)) (nmI_w _) (gU M 29 0 49 (wI ((M 29 0 49) + 1))) _ hq77) calX12_isGood k_1067 k_1135 k_521 (by decide) cX12 rfl ⟨by decide, by decide⟩ rfl hl rfl (Nat.le_of_ble_eq_true rfl) ⟨Nat.le_refl 0, Nat.le_refl 0⟩ dX12_bisect_77) hS (fun H locs br77 hH hS => ?_)
      obtain ⟨k92, ek92, hf_⟩ := oj_e hf; clear hf; have hf := hf_; clear hf_
      have hk92 : ∀ (x2_92 : Int) (nx2_92 : nmI x2_92) (x3_92 : Int) (nx3_92 : nmI x3_92), k92 x2_92 x3_92 = some q → ∀ (H : Heap) (locs : List Loc) (ls : Array Slot), gH G r77.2 H → va_S (gA G) s.heap H locs → gLv ls 5 [(0, .ref (gAd G 29 0)), (1, .int (iI z1)), (2, .int (iI x2_92)), (3, .int (iI x3_92))] → W p l e { frames := 4, cells := 0, slots := 0, locals := 92 } s m args below meth c H locs 0 0 (MQ below (gQi G q.1 q.2) args s 0 0 (gA G)) (F0 m 92 ls []) := by
        intro x2_92 nx2_92 x3_92 nx3_92 hf H locs ls hH hS hl
        subst ek92
        refine lv_goto (tgt := 49) X.1 X.2.1 dX12_bisect_92 (by decide) ?_
        exact ih x2_92 nx2_92 x3_92 nx3_92 r77.2 hf _ _ _ hH hS (gLv_sub hl [0, 1, 2, 3] rfl)
      clear ek92
      refine g_if_eq X (nmI_b br77) (tgt := 89) dX12_bisect_80 (by decide) (fun hc80 => ?_) (fun hc80 => ?_)
      · replace hf := it_t hf hc80
        refine lv_iload X.1 X.2.1 dX12_bisect_89 (lv_at hl.1 0 rfl) ?_
        refine g_istore_n X (lv' := [(3, .int (iI (wI ((wI (x2 + x3)).tdiv 2)))), (4, .int (iI (wI ((wI (x2 + x3)).tdiv 2)))), (0, .ref (gAd G 29 0)), (1, .int (iI z1)), (2, .int (iI x2))]) dX12_bisect_91 rfl hl (by decide) rfl (fun ls hl => ?_)
        exact hk92 x2 nx2 (wI ((wI (x2 + x3)).tdiv 2)) (nmI_w _) hf _ _ _ hH hS (gLv_sub hl [2, 3, 4, 0] rfl)
      · replace hf := it_f hf hc80
        refine lv_iload X.1 X.2.1 dX12_bisect_83 (lv_at hl.1 0 rfl) ?_
        refine g_istore_n X (lv' := [(2, .int (iI (wI ((wI (x2 + x3)).tdiv 2)))), (4, .int (iI (wI ((wI (x2 + x3)).tdiv 2)))), (0, .ref (gAd G 29 0)), (1, .int (iI z1)), (3, .int (iI x3))]) dX12_bisect_85 rfl hl (by decide) rfl (fun ls hl => ?_)
        refine lv_goto (tgt := 92) X.1 X.2.1 dX12_bisect_86 (by decide) ?_
        exact hk92 (wI ((wI (x2 + x3)).tdiv 2)) (nmI_w _) x3 nx3 hf _ _ _ hH hS (gLv_sub hl [2, 3, 0, 4] rfl)
theorem m_X12_bisect (l : Launch) (G : gG) (v1 : Int) (nv1 : nmI v1) (M : gM) (q : (Int × gM)) (hf : f_X12_bisect v1 M = some q) : gMet l yX12_bisect cX12_bisect 5 (some .int) 4 92 G M [.ref (gAd G 29 0), .int (iI v1)] (gQi G q.1 q.2) := by
  refine gOfW (by decide) (by show _ ≤ 5; exact Nat.le_of_ble_eq_true rfl) rfl ?_
  intro p e s m below meth c X hH ls hl
  replace hl : gLv ls 5 [(0, .ref (gAd G 29 0)), (1, .int (iI v1))] := hl
  have hS : va_S (gA G) s.heap s.heap [] := va_S.rf
  generalize hargs : ([.ref (gAd G 29 0), .int (iI v1)] : List Value).toArray = args at X ⊢
  clear hargs
  unfold f_X12_bisect at hf
  refine lv_aload_n X.1 X.2.1 dX12_bisect_0 rfl (lv_at hl.1 0 rfl) ?_
  refine lv_aload_n X.1 X.2.1 dX12_bisect_1 rfl (lv_at hl.1 0 rfl) ?_
  refine lv_iload_n X.1 X.2.1 dX12_bisect_2 rfl (lv_at hl.1 1 rfl) ?_
  refine gGoZ (gRunV X hH (As := [.int (iI v1)]) (m_X12_isTarget l G v1 nv1 M _ rfl) calX12_isTarget k_942 k_1105 k_466 (by decide) cX12 rfl ⟨by decide, by decide⟩ rfl hl rfl (Nat.le_of_ble_eq_true rfl) ⟨Nat.le_refl 0, Nat.le_refl 0⟩ dX12_bisect_3) hS (fun H locs br3 hH hS => ?_)
  refine gGoZ (gRunV X hH (As := [.int (iI ((f_X12_isTarget v1 M)))]) (m_X12_asked l G ((f_X12_isTarget v1 M)) br3 M _ rfl) calX12_asked k_927 k_1102 k_460 (by decide) cX12 rfl ⟨by decide, by decide⟩ rfl hl rfl (Nat.le_of_ble_eq_true rfl) ⟨Nat.le_refl 0, Nat.le_refl 0⟩ dX12_bisect_6) hS (fun H locs br6 hH hS => ?_)
  refine g_if_ne X (nmI_b br6) (tgt := 14) dX12_bisect_9 (by decide) (fun hc9 => ?_) (fun hc9 => ?_)
  · replace hf := it_f hf hc9
    refine lv_aload_n X.1 X.2.1 dX12_bisect_14 rfl (lv_at hl.1 0 rfl) ?_
    refine lv_iconst X.1 X.2.1 dX12_bisect_15 (v := iI 0) rfl ?_
    refine g_putI X cX12 hH hS (r := 29) (i := 0) (by decide) rfl 49 (by decide) k_450 rfl rfl rfl (Nat.le_of_ble_eq_true rfl) (x := 0) (nmI_l (by decide)) rfl rfl rfl dX12_bisect_16 (fun H locs hH hS => ?_)
    refine lv_aload_n X.1 X.2.1 dX12_bisect_19 rfl (lv_at hl.1 0 rfl) ?_
    refine lv_iload_n X.1 X.2.1 dX12_bisect_20 rfl (lv_at hl.1 1 rfl) ?_
    refine lv_iconst X.1 X.2.1 dX12_bisect_21 (v := iI 0) rfl ?_
    obtain ⟨r22, hq22, hf_⟩ := ob_e hf; clear hf; have hf := hf_; clear hf_
    refine gGoZ (gRunV X hH (As := [.int (iI v1), .int (iI 0)]) (m_X12_isGood l G v1 nv1 0 (nmI_l (by decide)) (gU ((f_X12_asked ((f_X12_isTarget v1 M)) M).2) 29 0 49 0) _ hq22) calX12_isGood k_1067 k_1135 k_521 (by decide) cX12 rfl ⟨by decide, by decide⟩ rfl hl rfl (Nat.le_of_ble_eq_true rfl) ⟨Nat.le_refl 0, Nat.le_refl 0⟩ dX12_bisect_22) hS (fun H locs br22 hH hS => ?_)
    refine g_if_eq X (nmI_b br22) (tgt := 40) dX12_bisect_25 (by decide) (fun hc25 => ?_) (fun hc25 => ?_)
    · replace hf := it_t hf hc25
      refine lv_iconst X.1 X.2.1 dX12_bisect_40 (v := iI (-1)) rfl ?_
      have hq := Option.some.inj hf; subst hq
      exact gRetI X hH hS (res := (-1)) (nmI_l (by decide)) dX12_bisect_41
    · replace hf := it_f hf hc25
      refine lv_aload_n X.1 X.2.1 dX12_bisect_28 rfl (lv_at hl.1 0 rfl) ?_
      refine lv_iload_n X.1 X.2.1 dX12_bisect_29 rfl (lv_at hl.1 1 rfl) ?_
      refine lv_aload_n X.1 X.2.1 dX12_bisect_30 rfl (lv_at hl.1 0 rfl) ?_
      have nd31 : nmI (r22.2 29 0 4) := hH.1.1 _ _ _
      refine g_get X cX12 hH (r := 29) (i := 0) (by decide) rfl 4 (by decide) k_405 rfl (v := .int (iI (r22.2 29 0 4))) rfl dX12_bisect_31 ?_
      obtain ⟨r34, hq34, hf_⟩ := ob_e hf; clear hf; have hf := hf_; clear hf_
      refine gGoZ (gRunV X hH (As := [.int (iI v1), .int (iI (r22.2 29 0 4))]) (m_X12_isGood l G v1 nv1 (r22.2 29 0 4) nd31 r22.2 _ hq34) calX12_isGood k_1067 k_1135 k_521 (by decide) cX12 rfl ⟨by decide, by decide⟩ rfl hl rfl (Nat.le_of_ble_eq_true rfl) ⟨Nat.le_refl 0, Nat.le_refl 0⟩ dX12_bisect_34) hS (fun H locs br34 hH hS => ?_)
      refine g_if_eq X (nmI_b br34) (tgt := 42) dX12_bisect_37 (by decide) (fun hc37 => ?_) (fun hc37 => ?_)
      · replace hf := it_t hf hc37
        refine lv_iconst X.1 X.2.1 dX12_bisect_42 (v := iI 0) rfl ?_
        refine g_istore_n X (lv' := [(2, .int (iI 0)), (0, .ref (gAd G 29 0)), (1, .int (iI v1))]) dX12_bisect_43 rfl hl (by decide) rfl (fun ls hl => ?_)
        refine lv_aload_n X.1 X.2.1 dX12_bisect_44 rfl (lv_at hl.1 1 rfl) ?_
        have nd45 : nmI (r34.2 29 0 4) := hH.1.1 _ _ _
        refine g_get X cX12 hH (r := 29) (i := 0) (by decide) rfl 4 (by decide) k_405 rfl (v := .int (iI (r34.2 29 0 4))) rfl dX12_bisect_45 ?_
        refine g_istore_n X (lv' := [(3, .int (iI (r34.2 29 0 4))), (2, .int (iI 0)), (0, .ref (gAd G 29 0)), (1, .int (iI v1))]) dX12_bisect_48 rfl hl (by decide) rfl (fun ls hl => ?_)
        refine w_X12_bisect_L49 X _ v1 nv1 q ?_ 64 0 (nmI_l (by decide)) (r34.2 29 0 4) nd45 r34.2 hf _ _ _ hH hS (gLv_sub hl [2, 3, 1, 0] rfl)
        · intro y3_49_95 ny3_49_95 M_49_95 hf H locs ls hH hS hl
          refine lv_iload_n X.1 X.2.1 dX12_bisect_95 rfl (lv_at hl.1 0 rfl) ?_
          refine lv_iconst X.1 X.2.1 dX12_bisect_96 (v := iI 1) rfl ?_
          refine g_isub X dX12_bisect_97 ?_
          have hq := Option.some.inj hf; subst hq
          exact gRetI X hH hS (res := wI (y3_49_95 - 1)) (nmI_w _) dX12_bisect_98
      · replace hf := it_f hf hc37
        refine lv_iconst X.1 X.2.1 dX12_bisect_40 (v := iI (-1)) rfl ?_
        have hq := Option.some.inj hf; subst hq
        exact gRetI X hH hS (res := (-1)) (nmI_l (by decide)) dX12_bisect_41
  · replace hf := it_t hf hc9
    refine lv_iconst X.1 X.2.1 dX12_bisect_12 (v := iI 0) rfl ?_
    have hq := Option.some.inj hf; subst hq
    exact gRetI X hH hS (res := 0) (nmI_l (by decide)) dX12_bisect_13
theorem m_X12_looks (l : Launch) (G : gG)  (M : gM) (q : (Int × gM)) (hf : f_X12_looks M = q) : gMet l yX12_looks cX12_looks 1 (some .int) 0 0 G M [.ref (gAd G 29 0)] (gQi G q.1 q.2) := by
  refine gOfW (by decide) (by show _ ≤ 1; exact Nat.le_of_ble_eq_true rfl) rfl ?_
  intro p e s m below meth c X hH ls hl
  replace hl : gLv ls 1 [(0, .ref (gAd G 29 0))] := hl
  have hS : va_S (gA G) s.heap s.heap [] := va_S.rf
  generalize hargs : ([.ref (gAd G 29 0)] : List Value).toArray = args at X ⊢
  clear hargs
  unfold f_X12_looks at hf
  refine lv_aload_n X.1 X.2.1 dX12_looks_0 rfl (lv_at hl.1 0 rfl) ?_
  refine lv_iconst X.1 X.2.1 dX12_looks_1 (v := iI 0) rfl ?_
  refine g_putI X cX12 hH hS (r := 29) (i := 0) (by decide) rfl 0 (by decide) k_401 rfl rfl rfl (Nat.le_of_ble_eq_true rfl) (x := 0) (nmI_l (by decide)) rfl rfl rfl dX12_looks_2 (fun H locs hH hS => ?_)
  refine lv_aload_n X.1 X.2.1 dX12_looks_5 rfl (lv_at hl.1 0 rfl) ?_
  have nd6 : nmI ((gU M 29 0 0 0) 29 0 49) := hH.1.1 _ _ _
  refine g_get X cX12 hH (r := 29) (i := 0) (by decide) rfl 49 (by decide) k_450 rfl (v := .int (iI ((gU M 29 0 0 0) 29 0 49))) rfl dX12_looks_6 ?_
  subst hf
  exact gRetI X hH hS (res := (gU M 29 0 0 0) 29 0 49) nd6 dX12_looks_9
