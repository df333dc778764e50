theorem m_X11_copy (l : Launch) (hl0 : l.stackTraces = false) (G : gG) (v1 : Int) (nv1 : nmI v1) (v2 : Int) (nv2 : nmI v2) (M0 : gM) (q : (Nat ⊕ (Int × gM))) (hf : f_X11_copy v1 v2 M0 = some q) : gXMet l yX11_copy cX11_copy 5 (some .int) 7 111 3 18 G M0 [.ref (gAd G 0 0), .int (iI v1), .int (iI v2)] (gXi G (∃ z, q = Sum.inr z) (gvP q).1 (gvP q).2) (fun e9 => q = Sum.inl e9) := by
  refine gOfX (by decide) (by show _ ≤ 5; exact Nat.le_of_ble_eq_true rfl) rfl ?_
  intro p e s m below meth c X Z hnt hH ls hl
  replace hl : gLv ls 5 [(0, .ref (gAd G 0 0)), (1, .int (iI v1)), (2, .int (iI v2))] := hl
  have hS : va_S (gA G) s.heap s.heap [] := va_S.rf
  generalize hargs : ([.ref (gAd G 0 0), .int (iI v1), .int (iI v2)] : List Value).toArray = args at X ⊢
  clear hargs
  unfold f_X11_copy at hf
  refine lv_aload_n X.1 X.2.1 dX11_copy_0 rfl (lv_at hl.1 0 rfl) ?_
  refine lv_iload_n X.1 X.2.1 dX11_copy_1 rfl (lv_at hl.1 1 rfl) ?_
  obtain ⟨r2, hq2, hf_⟩ := ob_e hf; clear hf; have hf := hf_; clear hf_
  rcases r2 with e8 | v2_
  · have hq := Option.some.inj hf; subst hq
    refine gGoXV (gRunVX X Z hH hS (As := [.int (iI v1)]) (m_X11_checkTarget l hl0 G v1 nv1 M0 _ hq2) calX11_checkTarget k_677 k_4 k_675 (by decide) cX11 rfl ⟨by decide, by decide⟩ rfl hl rfl (Nat.le_of_ble_eq_true rfl) ⟨Nat.le_of_ble_eq_true rfl, Nat.le_of_ble_eq_true rfl⟩ dX11_copy_2) hS (fun E ce q9 H locs hE hH hS h1 h2 h3 => ?_) (fun H locs hok hH hS => ?_)
    · exact gOutX X hnt (by obtain ⟨e7, h7, h8⟩ := hE; exact ⟨e7, congrArg _ (Sum.inl.inj h7), h8⟩) hH hS h1 h2 h3 ⟨Nat.le_of_ble_eq_true rfl, Nat.le_of_ble_eq_true rfl⟩
    · obtain ⟨z, hz⟩ := hok; cases hz
  · replace hf := ox_i hf
    refine gGoXV (gRunVX X Z hH hS (As := [.int (iI v1)]) (m_X11_checkTarget l hl0 G v1 nv1 M0 _ hq2) calX11_checkTarget k_677 k_4 k_675 (by decide) cX11 rfl ⟨by decide, by decide⟩ rfl hl rfl (Nat.le_of_ble_eq_true rfl) ⟨Nat.le_of_ble_eq_true rfl, Nat.le_of_ble_eq_true rfl⟩ dX11_copy_2) hS (fun E ce q9 H locs hE hH hS h1 h2 h3 => ?_) (fun H locs _ hH hS => ?_)
    · obtain ⟨e7, h7, h8⟩ := hE; cases h7
    · refine lv_iload_n X.1 X.2.1 dX11_copy_5 rfl (lv_at hl.1 2 rfl) ?_
      refine lv_bipush X.1 X.2.1 dX11_copy_6 (v := iI 10) (by decide) ?_
      refine gGoZ (gRunS X hH (As := [.int (iI v2), .int (iI 10)]) (m_X11_isBelow l G v2 nv2 10 (nmI_l (by decide)) M0 _ rfl) calX11_isBelow k_529 k_528 ⟨by decide, by decide⟩ rfl hl rfl (Nat.le_of_ble_eq_true rfl) ⟨Nat.le_of_ble_eq_true rfl, Nat.le_of_ble_eq_true rfl⟩ dX11_copy_8) hS (fun H locs br8 hH hS => ?_)
      obtain ⟨r11, hq11, hf_⟩ := ob_e hf; clear hf; have hf := hf_; clear hf_
      rcases r11 with e8 | v11_
      · have hq := Option.some.inj hf; subst hq
        refine gGoXV (gRunSX X Z hH hS (As := [.int (iI ((f_X11_isBelow v2 10 M0)))]) (m_X11_checkArgument l hl0 G ((f_X11_isBelow v2 10 M0)) br8 M0 _ hq11) calX11_checkArgument k_532 k_531 ⟨by decide, by decide⟩ rfl hl rfl (Nat.le_of_ble_eq_true rfl) ⟨Nat.le_of_ble_eq_true rfl, Nat.le_of_ble_eq_true rfl⟩ dX11_copy_11) hS (fun E ce q9 H locs hE hH hS h1 h2 h3 => ?_) (fun H locs hok hH hS => ?_)
        · exact gOutX X hnt (by obtain ⟨e7, h7, h8⟩ := hE; exact ⟨e7, congrArg _ (Sum.inl.inj h7), h8⟩) hH hS h1 h2 h3 ⟨Nat.le_of_ble_eq_true rfl, Nat.le_of_ble_eq_true rfl⟩
        · obtain ⟨z, hz⟩ := hok; cases hz
      · replace hf := ox_i hf
        refine gGoXV (gRunSX X Z hH hS (As := [.int (iI ((f_X11_isBelow v2 10 M0)))]) (m_X11_checkArgument l hl0 G ((f_X11_isBelow v2 10 M0)) br8 M0 _ hq11) calX11_checkArgument k_532 k_531 ⟨by decide, by decide⟩ rfl hl rfl (Nat.le_of_ble_eq_true rfl) ⟨Nat.le_of_ble_eq_true rfl, Nat.le_of_ble_eq_true rfl⟩ dX11_copy_11) hS (fun E ce q9 H locs hE hH hS h1 h2 h3 => ?_) (fun H locs _ hH hS => ?_)
        · obtain ⟨e7, h7, h8⟩ := hE; cases h7
        · refine lv_aload_n X.1 X.2.1 dX11_copy_14 rfl (lv_at hl.1 0 rfl) ?_
          refine g_get X cX11 hH (r := 0) (i := 0) (by decide) rfl 3 (by decide) k_481 rfl (v := .ref (gAd G 4 0)) rfl dX11_copy_15 ?_
          have nd18 : nmI (M0 4 0 8) := hH.1.1 _ _ _
          have bd18 := hH.1.2.1 4 0 8 rfl
          refine g_get X cX2 hH (r := 4) (i := 0) (by decide) rfl 8 (by decide) k_428 rfl (v := .int (iI (M0 4 0 8))) rfl dX11_copy_18 ?_
          obtain ⟨k41, ek41, hf_⟩ := oj_e hf; clear hf; have hf := hf_; clear hf_
          have hk41 : ∀ (xs0_41 : Int) (bxs0_41 : xs0_41 = 0 ∨ xs0_41 = 1), k41 xs0_41 = some q → ∀ (H : Heap) (locs : List Loc) (ls : Array Slot), gH G M0 H → va_S (gA G) s.heap H locs → gLv ls 5 [(0, .ref (gAd G 0 0)), (1, .int (iI v1)), (2, .int (iI v2))] → W p l e { frames := 7, cells := 3, slots := 18, locals := 111 } s m args below meth c H locs 2 12 (vx_MQ below (gXi G (∃ z, q = Sum.inr z) (gvP q).1 (gvP q).2) (gXC G (fun e9 => q = Sum.inl e9) M0) args s 3 18 (gA G)) (F0 m 41 ls [.int (iI xs0_41)]) := by
            intro xs0_41 bxs0_41 hf H locs ls hH hS hl
            subst ek41
            obtain ⟨r41, hq41, hf_⟩ := ob_e hf; clear hf; have hf := hf_; clear hf_
            rcases r41 with e8 | v41_
            · have hq := Option.some.inj hf; subst hq
              refine gGoXV (gRunSX X Z hH hS (As := [.int (iI xs0_41)]) (m_X11_checkState l hl0 G xs0_41 bxs0_41 M0 _ hq41) calX11_checkState k_634 k_633 ⟨by decide, by decide⟩ rfl hl rfl (Nat.le_of_ble_eq_true rfl) ⟨Nat.le_of_ble_eq_true rfl, Nat.le_of_ble_eq_true rfl⟩ dX11_copy_41) hS (fun E ce q9 H locs hE hH hS h1 h2 h3 => ?_) (fun H locs hok hH hS => ?_)
              · exact gOutX X hnt (by obtain ⟨e7, h7, h8⟩ := hE; exact ⟨e7, congrArg _ (Sum.inl.inj h7), h8⟩) hH hS h1 h2 h3 ⟨Nat.le_of_ble_eq_true rfl, Nat.le_of_ble_eq_true rfl⟩
              · obtain ⟨z, hz⟩ := hok; cases hz
            · replace hf := ox_i hf
              refine gGoXV (gRunSX X Z hH hS (As := [.int (iI xs0_41)]) (m_X11_checkState l hl0 G xs0_41 bxs0_41 M0 _ hq41) calX11_checkState k_634 k_633 ⟨by decide, by decide⟩ rfl hl rfl (Nat.le_of_ble_eq_true rfl) ⟨Nat.le_of_ble_eq_true rfl, Nat.le_of_ble_eq_true rfl⟩ dX11_copy_41) hS (fun E ce q9 H locs hE hH hS h1 h2 h3 => ?_) (fun H locs _ hH hS => ?_)
              · obtain ⟨e7, h7, h8⟩ := hE; cases h7
              · refine lv_aload_n X.1 X.2.1 dX11_copy_44 rfl (lv_at hl.1 0 rfl) ?_
                refine g_get X cX11 hH (r := 0) (i := 0) (by decide) rfl 1 (by decide) k_479 rfl (v := .ref (gAd G 2 0)) rfl dX11_copy_45 ?_
                refine lv_iload_n X.1 X.2.1 dX11_copy_48 rfl (lv_at hl.1 1 rfl) ?_
                refine gGoR (gRunV X hH (As := [.int (iI v1)]) (m_X5_targetAt l G v1 nv1 M0 _ rfl) calX5_targetAt k_713 k_714 k_733 (by decide) cX5 rfl ⟨by decide, by decide⟩ rfl hl rfl (Nat.le_of_ble_eq_true rfl) ⟨Nat.le_of_ble_eq_true rfl, Nat.le_of_ble_eq_true rfl⟩ dX11_copy_49) hS (fun H locs hr49 hH hS => ?_)
                replace hr49 : (f_X5_targetAt v1 M0) < 15 := hr49
                refine g_astore_n X (lv' := [(3, .ref (gAd G 7 ((f_X5_targetAt v1 M0)))), (0, .ref (gAd G 0 0)), (1, .int (iI v1)), (2, .int (iI v2))]) dX11_copy_52 rfl hl (by decide) rfl (fun ls hl => ?_)
                refine lv_aload_n X.1 X.2.1 dX11_copy_53 rfl (lv_at hl.1 1 rfl) ?_
                refine g_get X cX11 hH (r := 0) (i := 0) (by decide) rfl 1 (by decide) k_479 rfl (v := .ref (gAd G 2 0)) rfl dX11_copy_54 ?_
                refine gGoR (gRunV X hH (As := []) (m_X5_tellNext l G  M0 _ rfl) calX5_tellNext k_709 k_710 k_708 (by decide) cX5 rfl ⟨by decide, by decide⟩ rfl hl rfl (Nat.le_of_ble_eq_true rfl) ⟨Nat.le_of_ble_eq_true rfl, Nat.le_of_ble_eq_true rfl⟩ dX11_copy_57) hS (fun H locs hr57 hH hS => ?_)
                replace hr57 : (f_X5_tellNext M0).1 < 15 := hr57
                refine g_astore X (lv' := [(4, .ref (gAd G 7 ((f_X5_tellNext M0).1))), (3, .ref (gAd G 7 ((f_X5_targetAt v1 M0)))), (0, .ref (gAd G 0 0)), (1, .int (iI v1)), (2, .int (iI v2))]) dX11_copy_60 hl (by decide) rfl (fun ls hl => ?_)
                refine lv_aload X.1 X.2.1 dX11_copy_62 (lv_at hl.1 0 rfl) ?_
                refine lv_aload_n X.1 X.2.1 dX11_copy_64 rfl (lv_at hl.1 1 rfl) ?_
                have nd65 : nmI (((f_X5_tellNext M0).2) 7 ((f_X5_targetAt v1 M0)) 3) := hH.1.1 _ _ _
                refine g_get X cX8 hH (r := 7) (i := (f_X5_targetAt v1 M0)) hr49 rfl 3 (by decide) k_226 rfl (v := .int (iI (((f_X5_tellNext M0).2) 7 ((f_X5_targetAt v1 M0)) 3))) rfl dX11_copy_65 ?_
                refine lv_aload_n X.1 X.2.1 dX11_copy_68 rfl (lv_at hl.1 1 rfl) ?_
                have nd69 : nmI (((f_X5_tellNext M0).2) 7 ((f_X5_targetAt v1 M0)) 4) := hH.1.1 _ _ _
                refine g_get X cX8 hH (r := 7) (i := (f_X5_targetAt v1 M0)) hr49 rfl 4 (by decide) k_230 rfl (v := .int (iI (((f_X5_tellNext M0).2) 7 ((f_X5_targetAt v1 M0)) 4))) rfl dX11_copy_69 ?_
                refine lv_iload_n X.1 X.2.1 dX11_copy_72 rfl (lv_at hl.1 4 rfl) ?_
                refine lv_aload_n X.1 X.2.1 dX11_copy_73 rfl (lv_at hl.1 1 rfl) ?_
                have nd74 : nmI (((f_X5_tellNext M0).2) 7 ((f_X5_targetAt v1 M0)) 6) := hH.1.1 _ _ _
                refine g_get X cX8 hH (r := 7) (i := (f_X5_targetAt v1 M0)) hr49 rfl 6 (by decide) k_237 rfl (v := .int (iI (((f_X5_tellNext M0).2) 7 ((f_X5_targetAt v1 M0)) 6))) rfl dX11_copy_74 ?_
                refine lv_aload_n X.1 X.2.1 dX11_copy_77 rfl (lv_at hl.1 1 rfl) ?_
                have nd78 : nmI (((f_X5_tellNext M0).2) 7 ((f_X5_targetAt v1 M0)) 7) := hH.1.1 _ _ _
                refine g_get X cX8 hH (r := 7) (i := (f_X5_targetAt v1 M0)) hr49 rfl 7 (by decide) k_240 rfl (v := .int (iI (((f_X5_tellNext M0).2) 7 ((f_X5_targetAt v1 M0)) 7))) rfl dX11_copy_78 ?_
                refine lv_aload_n X.1 X.2.1 dX11_copy_81 rfl (lv_at hl.1 1 rfl) ?_
                have nd82 : nmI (((f_X5_tellNext M0).2) 7 ((f_X5_targetAt v1 M0)) 8) := hH.1.1 _ _ _
                refine g_get X cX8 hH (r := 7) (i := (f_X5_targetAt v1 M0)) hr49 rfl 8 (by decide) k_242 rfl (v := .int (iI (((f_X5_tellNext M0).2) 7 ((f_X5_targetAt v1 M0)) 8))) rfl dX11_copy_82 ?_
                refine gGoV (gRunV X hH (As := [.int (iI (((f_X5_tellNext M0).2) 7 ((f_X5_targetAt v1 M0)) 3)), .int (iI (((f_X5_tellNext M0).2) 7 ((f_X5_targetAt v1 M0)) 4)), .int (iI v2), .int (iI (((f_X5_tellNext M0).2) 7 ((f_X5_targetAt v1 M0)) 6)), .int (iI (((f_X5_tellNext M0).2) 7 ((f_X5_targetAt v1 M0)) 7)), .int (iI (((f_X5_tellNext M0).2) 7 ((f_X5_targetAt v1 M0)) 8))]) (m_X8_describe l G ((f_X5_tellNext M0).1) hr57 (((f_X5_tellNext M0).2) 7 ((f_X5_targetAt v1 M0)) 3) nd65 (((f_X5_tellNext M0).2) 7 ((f_X5_targetAt v1 M0)) 4) nd69 v2 nv2 (((f_X5_tellNext M0).2) 7 ((f_X5_targetAt v1 M0)) 6) nd74 (((f_X5_tellNext M0).2) 7 ((f_X5_targetAt v1 M0)) 7) nd78 (((f_X5_tellNext M0).2) 7 ((f_X5_targetAt v1 M0)) 8) nd82 ((f_X5_tellNext M0).2) _ rfl) calX8_describe k_717 k_718 k_716 hr57 cX8 rfl ⟨by decide, by decide⟩ rfl hl rfl (Nat.le_of_ble_eq_true rfl) ⟨Nat.le_of_ble_eq_true rfl, Nat.le_of_ble_eq_true rfl⟩ dX11_copy_85) hS (fun H locs hH hS => ?_)
                refine lv_aload X.1 X.2.1 dX11_copy_88 (lv_at hl.1 0 rfl) ?_
                refine g_get X cX8 hH (r := 7) (i := (f_X5_tellNext M0).1) hr57 rfl 1 (by decide) k_220 rfl (v := .ref (gAd G 8 ((f_X5_tellNext M0).1))) rfl dX11_copy_90 ?_
                refine lv_aload_n X.1 X.2.1 dX11_copy_93 rfl (lv_at hl.1 1 rfl) ?_
                refine g_get X cX8 hH (r := 7) (i := (f_X5_targetAt v1 M0)) hr49 rfl 1 (by decide) k_220 rfl (v := .ref (gAd G 8 ((f_X5_targetAt v1 M0)))) rfl dX11_copy_94 ?_
                obtain ⟨r97, hq97, hf_⟩ := ob_e hf; clear hf; have hf := hf_; clear hf_
                refine gGoV (gRunV X hH (As := [.ref (gAd G 8 ((f_X5_targetAt v1 M0)))]) (m_X6_become l G ((f_X5_tellNext M0).1) (by show _ < 16; omega) ((f_X5_targetAt v1 M0)) (by show _ < 16; omega) ((f_X8_describe ((f_X5_tellNext M0).1) (((f_X5_tellNext M0).2) 7 ((f_X5_targetAt v1 M0)) 3) (((f_X5_tellNext M0).2) 7 ((f_X5_targetAt v1 M0)) 4) v2 (((f_X5_tellNext M0).2) 7 ((f_X5_targetAt v1 M0)) 6) (((f_X5_tellNext M0).2) 7 ((f_X5_targetAt v1 M0)) 7) (((f_X5_tellNext M0).2) 7 ((f_X5_targetAt v1 M0)) 8) ((f_X5_tellNext M0).2))) _ hq97) calX6_become k_721 k_722 k_720 (by show _ < 16; omega) cX6 rfl ⟨by decide, by decide⟩ rfl hl rfl (Nat.le_of_ble_eq_true rfl) ⟨Nat.le_of_ble_eq_true rfl, Nat.le_of_ble_eq_true rfl⟩ dX11_copy_97) hS (fun H locs hH hS => ?_)
                refine lv_aload X.1 X.2.1 dX11_copy_100 (lv_at hl.1 0 rfl) ?_
                have nd102 : nmI (r97 7 ((f_X5_tellNext M0).1) 0) := hH.1.1 _ _ _
                refine g_get X cX8 hH (r := 7) (i := (f_X5_tellNext M0).1) hr57 rfl 0 (by decide) k_215 rfl (v := .int (iI (r97 7 ((f_X5_tellNext M0).1) 0))) rfl dX11_copy_102 ?_
                have hq := Option.some.inj hf; subst hq
                exact gRetXI X hH hS ⟨_, rfl⟩ (res := r97 7 ((f_X5_tellNext M0).1) 0) nd102 ⟨Nat.le_of_ble_eq_true rfl, Nat.le_of_ble_eq_true rfl⟩ dX11_copy_105
          clear ek41
          obtain ⟨k40, ek40, hf_⟩ := oj_e hf; clear hf; have hf := hf_; clear hf_
          have hk40 : k40 = some q → ∀ (H : Heap) (locs : List Loc) (ls : Array Slot), gH G M0 H → va_S (gA G) s.heap H locs → gLv ls 5 [(0, .ref (gAd G 0 0)), (1, .int (iI v1)), (2, .int (iI v2))] → W p l e { frames := 7, cells := 3, slots := 18, locals := 111 } s m args below meth c H locs 2 12 (vx_MQ below (gXi G (∃ z, q = Sum.inr z) (gvP q).1 (gvP q).2) (gXC G (fun e9 => q = Sum.inl e9) M0) args s 3 18 (gA G)) (F0 m 40 ls []) := by
            intro  hf H locs ls hH hS hl
            subst ek40
            refine lv_iconst X.1 X.2.1 dX11_copy_40 (v := iI 0) rfl ?_
            exact hk41 0 (by decide) hf _ _ _ hH hS (gLv_sub hl [0, 1, 2] rfl)
          clear ek40
          refine g_if_ne X nd18 (tgt := 40) dX11_copy_21 (by decide) (fun hc21 => ?_) (fun hc21 => ?_)
          · replace hf := it_f hf hc21
            exact hk40  hf _ _ _ hH hS (gLv_sub hl [0, 1, 2] rfl)
          · replace hf := it_t hf hc21
            refine lv_aload_n X.1 X.2.1 dX11_copy_24 rfl (lv_at hl.1 0 rfl) ?_
            refine g_get X cX11 hH (r := 0) (i := 0) (by decide) rfl 1 (by decide) k_479 rfl (v := .ref (gAd G 2 0)) rfl dX11_copy_25 ?_
            have nd28 : nmI (M0 2 0 5) := hH.1.1 _ _ _
            refine g_get X cX5 hH (r := 2) (i := 0) (by decide) rfl 5 (by decide) k_288 rfl (v := .int (iI (M0 2 0 5))) rfl dX11_copy_28 ?_
            refine lv_bipush X.1 X.2.1 dX11_copy_31 (v := iI 14) (by decide) ?_
            refine g_icmp_ge X nd28 (nmI_l (by decide)) (tgt := 40) dX11_copy_33 (by decide) (fun hc33 => ?_) (fun hc33 => ?_)
            · replace hf := it_f hf hc33
              exact hk40  hf _ _ _ hH hS (gLv_sub hl [0, 1, 2] rfl)
            · replace hf := it_t hf hc33
              refine lv_iconst X.1 X.2.1 dX11_copy_36 (v := iI 1) rfl ?_
              refine lv_goto (tgt := 41) X.1 X.2.1 dX11_copy_37 (by decide) ?_
              exact hk41 1 (by decide) hf _ _ _ hH hS (gLv_sub hl [0, 1, 2] rfl)
theorem m_X11_setPower (l : Launch) (hl0 : l.stackTraces = false) (G : gG) (v1 : Int) (nv1 : nmI v1) (v2 : Int) (nv2 : nmI v2) (M0 : gM) (q : (Nat ⊕ (Int × gM))) (hf : f_X11_setPower v1 v2 M0 = some q) : gXMet l yX11_setPower cX11_setPower 5 (some .int) 7 110 1 6 G M0 [.ref (gAd G 0 0), .int (iI v1), .int (iI v2)] (gXi G (∃ z, q = Sum.inr z) (gvP q).1 (gvP q).2) (fun e9 => q = Sum.inl e9) := by
  refine gOfX (by decide) (by show _ ≤ 5; exact Nat.le_of_ble_eq_true rfl) rfl ?_
  intro p e s m below meth c X Z hnt hH ls hl
  replace hl : gLv ls 5 [(0, .ref (gAd G 0 0)), (1, .int (iI v1)), (2, .int (iI v2))] := hl
  have hS : va_S (gA G) s.heap s.heap [] := va_S.rf
  generalize hargs : ([.ref (gAd G 0 0), .int (iI v1), .int (iI v2)] : List Value).toArray = args at X ⊢
  clear hargs
  unfold f_X11_setPower at hf
  refine lv_iload_n X.1 X.2.1 dX11_setPower_0 rfl (lv_at hl.1 1 rfl) ?_
  refine lv_iconst X.1 X.2.1 dX11_setPower_1 (v := iI 4) rfl ?_
  refine gGoZ (gRunS X hH (As := [.int (iI v1), .int (iI 4)]) (m_X11_isBelow l G v1 nv1 4 (nmI_l (by decide)) M0 _ rfl) calX11_isBelow k_529 k_528 ⟨by decide, by decide⟩ rfl hl rfl (Nat.le_of_ble_eq_true rfl) ⟨Nat.le_of_ble_eq_true rfl, Nat.le_of_ble_eq_true rfl⟩ dX11_setPower_2) hS (fun H locs br2 hH hS => ?_)
  obtain ⟨k22, ek22, hf_⟩ := oj_e hf; clear hf; have hf := hf_; clear hf_
  have hk22 : ∀ (xs0_22 : Int) (bxs0_22 : xs0_22 = 0 ∨ xs0_22 = 1), k22 xs0_22 = some q → ∀ (H : Heap) (locs : List Loc) (ls : Array Slot), gH G M0 H → va_S (gA G) s.heap H locs → gLv ls 5 [(0, .ref (gAd G 0 0)), (1, .int (iI v1)), (2, .int (iI v2))] → W p l e { frames := 7, cells := 1, slots := 6, locals := 110 } s m args below meth c H locs 0 0 (vx_MQ below (gXi G (∃ z, q = Sum.inr z) (gvP q).1 (gvP q).2) (gXC G (fun e9 => q = Sum.inl e9) M0) args s 1 6 (gA G)) (F0 m 22 ls [.int (iI xs0_22)]) := by
    intro xs0_22 bxs0_22 hf H locs ls hH hS hl
    subst ek22
    obtain ⟨r22, hq22, hf_⟩ := ob_e hf; clear hf; have hf := hf_; clear hf_
    rcases r22 with e8 | v22_
    · have hq := Option.some.inj hf; subst hq
      refine gGoXV (gRunSX X Z hH hS (As := [.int (iI xs0_22)]) (m_X11_checkArgument l hl0 G xs0_22 bxs0_22 M0 _ hq22) calX11_checkArgument k_532 k_531 ⟨by decide, by decide⟩ rfl hl rfl (Nat.le_of_ble_eq_true rfl) ⟨Nat.le_of_ble_eq_true rfl, Nat.le_of_ble_eq_true rfl⟩ dX11_setPower_22) hS (fun E ce q9 H locs hE hH hS h1 h2 h3 => ?_) (fun H locs hok hH hS => ?_)
      · exact gOutX X hnt (by obtain ⟨e7, h7, h8⟩ := hE; exact ⟨e7, congrArg _ (Sum.inl.inj h7), h8⟩) hH hS h1 h2 h3 ⟨Nat.le_of_ble_eq_true rfl, Nat.le_of_ble_eq_true rfl⟩
      · obtain ⟨z, hz⟩ := hok; cases hz
    · replace hf := ox_i hf
      refine gGoXV (gRunSX X Z hH hS (As := [.int (iI xs0_22)]) (m_X11_checkArgument l hl0 G xs0_22 bxs0_22 M0 _ hq22) calX11_checkArgument k_532 k_531 ⟨by decide, by decide⟩ rfl hl rfl (Nat.le_of_ble_eq_true rfl) ⟨Nat.le_of_ble_eq_true rfl, Nat.le_of_ble_eq_true rfl⟩ dX11_setPower_22) hS (fun E ce q9 H locs hE hH hS h1 h2 h3 => ?_) (fun H locs _ hH hS => ?_)
      · obtain ⟨e7, h7, h8⟩ := hE; cases h7
      · refine lv_aload_n X.1 X.2.1 dX11_setPower_25 rfl (lv_at hl.1 0 rfl) ?_
        refine g_get X cX11 hH (r := 0) (i := 0) (by decide) rfl 3 (by decide) k_481 rfl (v := .ref (gAd G 4 0)) rfl dX11_setPower_26 ?_
        refine lv_iload_n X.1 X.2.1 dX11_setPower_29 rfl (lv_at hl.1 1 rfl) ?_
        refine gGoR (gRunV X hH (As := [.int (iI v1)]) (m_X2_workerAt l G v1 nv1 M0 _ rfl) calX2_workerAt k_742 k_743 k_741 (by decide) cX2 rfl ⟨by decide, by decide⟩ rfl hl rfl (Nat.le_of_ble_eq_true rfl) ⟨Nat.le_of_ble_eq_true rfl, Nat.le_of_ble_eq_true rfl⟩ dX11_setPower_30) hS (fun H locs hr30 hH hS => ?_)
        replace hr30 : (f_X2_workerAt v1 M0) < 4 := hr30
        refine g_astore_n X (lv' := [(3, .ref (gAd G 11 ((f_X2_workerAt v1 M0)))), (0, .ref (gAd G 0 0)), (1, .int (iI v1)), (2, .int (iI v2))]) dX11_setPower_33 rfl hl (by decide) rfl (fun ls hl => ?_)
        refine lv_aload_n X.1 X.2.1 dX11_setPower_34 rfl (lv_at hl.1 0 rfl) ?_
        have nd35 : nmI (M0 11 ((f_X2_workerAt v1 M0)) 1) := hH.1.1 _ _ _
        refine g_get X cX10 hH (r := 11) (i := (f_X2_workerAt v1 M0)) hr30 rfl 1 (by decide) k_389 rfl (v := .int (iI (M0 11 ((f_X2_workerAt v1 M0)) 1))) rfl dX11_setPower_35 ?_
        refine g_istore X (lv' := [(4, .int (iI (M0 11 ((f_X2_workerAt v1 M0)) 1))), (3, .ref (gAd G 11 ((f_X2_workerAt v1 M0)))), (0, .ref (gAd G 0 0)), (1, .int (iI v1)), (2, .int (iI v2))]) dX11_setPower_38 hl (by decide) rfl (fun ls hl => ?_)
        refine lv_iload_n X.1 X.2.1 dX11_setPower_40 rfl (lv_at hl.1 4 rfl) ?_
        refine lv_iload X.1 X.2.1 dX11_setPower_41 (lv_at hl.1 0 rfl) ?_
        refine g_icmp_eq X nv2 nd35 (tgt := 55) dX11_setPower_43 (by decide) (fun hc43 => ?_) (fun hc43 => ?_)
        · replace hf := it_t hf hc43
          refine lv_iload X.1 X.2.1 dX11_setPower_55 (lv_at hl.1 0 rfl) ?_
          have hq := Option.some.inj hf; subst hq
          exact gRetXI X hH hS ⟨_, rfl⟩ (res := M0 11 ((f_X2_workerAt v1 M0)) 1) nd35 ⟨Nat.le_of_ble_eq_true rfl, Nat.le_of_ble_eq_true rfl⟩ dX11_setPower_57
        · replace hf := it_f hf hc43
          refine lv_aload_n X.1 X.2.1 dX11_setPower_46 rfl (lv_at hl.1 2 rfl) ?_
          refine g_get X cX11 hH (r := 0) (i := 0) (by decide) rfl 3 (by decide) k_481 rfl (v := .ref (gAd G 4 0)) rfl dX11_setPower_47 ?_
          refine lv_aload_n X.1 X.2.1 dX11_setPower_50 rfl (lv_at hl.1 1 rfl) ?_
          refine lv_iload_n X.1 X.2.1 dX11_setPower_51 rfl (lv_at hl.1 4 rfl) ?_
          obtain ⟨r52, hq52, hf_⟩ := ob_e hf; clear hf; have hf := hf_; clear hf_
          refine gGoV (gRunV X hH (As := [.ref (gAd G 11 ((f_X2_workerAt v1 M0))), .int (iI v2)]) (m_X2_changePower l G ((f_X2_workerAt v1 M0)) hr30 v2 nv2 M0 _ hq52) calX2_changePower k_746 k_747 k_745 (by decide) cX2 rfl ⟨by decide, by decide⟩ rfl hl rfl (Nat.le_of_ble_eq_true rfl) ⟨Nat.le_of_ble_eq_true rfl, Nat.le_of_ble_eq_true rfl⟩ dX11_setPower_52) hS (fun H locs hH hS => ?_)
          refine lv_iload X.1 X.2.1 dX11_setPower_55 (lv_at hl.1 0 rfl) ?_
          have hq := Option.some.inj hf; subst hq
          exact gRetXI X hH hS ⟨_, rfl⟩ (res := M0 11 ((f_X2_workerAt v1 M0)) 1) nd35 ⟨Nat.le_of_ble_eq_true rfl, Nat.le_of_ble_eq_true rfl⟩ dX11_setPower_57
  clear ek22
  obtain ⟨k21, ek21, hf_⟩ := oj_e hf; clear hf; have hf := hf_; clear hf_
  have hk21 : k21 = some q → ∀ (H : Heap) (locs : List Loc) (ls : Array Slot), gH G M0 H → va_S (gA G) s.heap H locs → gLv ls 5 [(0, .ref (gAd G 0 0)), (1, .int (iI v1)), (2, .int (iI v2))] → W p l e { frames := 7, cells := 1, slots := 6, locals := 110 } s m args below meth c H locs 0 0 (vx_MQ below (gXi G (∃ z, q = Sum.inr z) (gvP q).1 (gvP q).2) (gXC G (fun e9 => q = Sum.inl e9) M0) args s 1 6 (gA G)) (F0 m 21 ls []) := by
    intro  hf H locs ls hH hS hl
    subst ek21
    refine lv_iconst X.1 X.2.1 dX11_setPower_21 (v := iI 0) rfl ?_
    exact hk22 0 (by decide) hf _ _ _ hH hS (gLv_sub hl [0, 1, 2] rfl)
  clear ek21
  refine g_if_eq X (nmI_b br2) (tgt := 21) dX11_setPower_5 (by decide) (fun hc5 => ?_) (fun hc5 => ?_)
  · replace hf := it_t hf hc5
    exact hk21  hf _ _ _ hH hS (gLv_sub hl [0, 1, 2] rfl)
  · replace hf := it_f hf hc5
    refine lv_iload_n X.1 X.2.1 dX11_setPower_8 rfl (lv_at hl.1 2 rfl) ?_
    refine lv_bipush X.1 X.2.1 dX11_setPower_9 (v := iI 10) (by decide) ?_
    refine gGoZ (gRunS X hH (As := [.int (iI v2), .int (iI 10)]) (m_X11_isBelow l G v2 nv2 10 (nmI_l (by decide)) M0 _ rfl) calX11_isBelow k_529 k_528 ⟨by decide, by decide⟩ rfl hl rfl (Nat.le_of_ble_eq_true rfl) ⟨Nat.le_of_ble_eq_true rfl, Nat.le_of_ble_eq_true rfl⟩ dX11_setPower_11) hS (fun H locs br11 hH hS => ?_)
    refine g_if_eq X (nmI_b br11) (tgt := 21) dX11_setPower_14 (by decide) (fun hc14 => ?_) (fun hc14 => ?_)
    · replace hf := it_t hf hc14
      exact hk21  hf _ _ _ hH hS (gLv_sub hl [0, 1, 2] rfl)
    · replace hf := it_f hf hc14
      refine lv_iconst X.1 X.2.1 dX11_setPower_17 (v := iI 1) rfl ?_
      refine lv_goto (tgt := 22) X.1 X.2.1 dX11_setPower_18 (by decide) ?_
      exact hk22 1 (by decide) hf _ _ _ hH hS (gLv_sub hl [0, 1, 2] rfl)
theorem m_X11_entry (l : Launch) (hl0 : l.stackTraces = false) (G : gG) (v1 : Int) (nv1 : nmI v1) (v2 : Int) (nv2 : nmI v2) (M0 : gM) (q : (Nat ⊕ Int)) (hf : f_X11_entry v1 v2 M0 = some q) : gXMet l yX11_entry cX11_entry 4 (some .int) 6 90 1 6 G M0 [.ref (gAd G 0 0), .int (iI v1), .int (iI v2)] (gXi G (∃ z, q = Sum.inr z) (gvI q) M0) (fun e9 => q = Sum.inl e9) := by
  refine gOfX (by decide) (by show _ ≤ 4; exact Nat.le_of_ble_eq_true rfl) rfl ?_
  intro p e s m below meth c X Z hnt hH ls hl
  replace hl : gLv ls 4 [(0, .ref (gAd G 0 0)), (1, .int (iI v1)), (2, .int (iI v2))] := hl
  have hS : va_S (gA G) s.heap s.heap [] := va_S.rf
  generalize hargs : ([.ref (gAd G 0 0), .int (iI v1), .int (iI v2)] : List Value).toArray = args at X ⊢
  clear hargs
  unfold f_X11_entry at hf
  refine lv_aload_n X.1 X.2.1 dX11_entry_0 rfl (lv_at hl.1 0 rfl) ?_
  refine g_get X cX11 hH (r := 0) (i := 0) (by decide) rfl 2 (by decide) k_480 rfl (v := .ref (gAd G 3 0)) rfl dX11_entry_1 ?_
  refine lv_iload_n X.1 X.2.1 dX11_entry_4 rfl (lv_at hl.1 1 rfl) ?_
  obtain ⟨r5, hq5, hf_⟩ := ob_e hf; clear hf; have hf := hf_; clear hf_
  refine gGoQ (gRunV X hH (As := [.int (iI v1)]) (m_X1_entryAt l G v1 nv1 M0 _ hq5) calX1_entryAt k_771 k_772 k_770 (by decide) cX1 rfl ⟨by decide, by decide⟩ rfl hl rfl (Nat.le_of_ble_eq_true rfl) ⟨Nat.le_of_ble_eq_true rfl, Nat.le_of_ble_eq_true rfl⟩ dX11_entry_5) hS (fun H locs hr5 hH hS => ?_)
  refine g_astore_nO X (lv' := [(3, va_re (gAd G 10) r5), (0, .ref (gAd G 0 0)), (1, .int (iI v1)), (2, .int (iI v2))]) dX11_entry_8 rfl hl (by decide) rfl (fun ls hl => ?_)
  refine g_aload_nO X (ad := gAd G 10) (x := r5) dX11_entry_9 rfl (lv_at hl.1 0 rfl) ?_
  obtain ⟨k22, ek22, hf_⟩ := oj_e hf; clear hf; have hf := hf_; clear hf_
  have hk22 : k22 = some q → ∀ (H : Heap) (locs : List Loc) (ls : Array Slot), gH G M0 H → va_S (gA G) s.heap H locs → gLv ls 4 [] → W p l e { frames := 6, cells := 1, slots := 6, locals := 90 } s m args below meth c H locs 0 0 (vx_MQ below (gXi G (∃ z, q = Sum.inr z) (gvI q) M0) (gXC G (fun e9 => q = Sum.inl e9) M0) args s 1 6 (gA G)) (F0 m 22 ls []) := by
    intro  hf H locs ls hH hS hl
    subst ek22
    have hq := Option.some.inj hf; subst hq
    exact gThrow hl0 X Z hnt hH hS hl (e9 := 1) (by decide) k_534 k_81 (List.mem_of_getElem? (i := 3) rfl) gAt_180 dX11_entry_22 dX11_entry_25 dX11_entry_26 dX11_entry_28 dX11_entry_31 (by decide) (by decide) ⟨by decide, by decide⟩ ⟨by decide, by decide⟩ rfl
  clear ek22
  refine g_ifnullO X (ad := gAd G 10) (x := r5) (tgt := 22) dX11_entry_10 (by decide) ?_ ?_
  · intro hx
    subst hx
    replace hf := om_n hf
    exact hk22  hf _ _ _ hH hS (gLv_sub hl [] rfl)
  · intro a10 hx
    subst hx
    replace hf := om_s hf
    have ha10 : a10 < 40 := hr5 _ rfl
    refine lv_iload_n X.1 X.2.1 dX11_entry_13 rfl (lv_at hl.1 3 rfl) ?_
    refine lv_bipush X.1 X.2.1 dX11_entry_14 (v := iI 7) (by decide) ?_
    refine gGoZ (gRunS X hH (As := [.int (iI v2), .int (iI 7)]) (m_X11_isBelow l G v2 nv2 7 (nmI_l (by decide)) M0 _ rfl) calX11_isBelow k_529 k_528 ⟨by decide, by decide⟩ rfl hl rfl (Nat.le_of_ble_eq_true rfl) ⟨Nat.le_of_ble_eq_true rfl, Nat.le_of_ble_eq_true rfl⟩ dX11_entry_16) hS (fun H locs br16 hH hS => ?_)
    refine g_if_ne X (nmI_b br16) (tgt := 32) dX11_entry_19 (by decide) (fun hc19 => ?_) (fun hc19 => ?_)
    · replace hf := it_f hf hc19
      refine lv_aload_n X.1 X.2.1 dX11_entry_32 rfl (lv_at hl.1 0 rfl) ?_
      refine lv_iload_n X.1 X.2.1 dX11_entry_33 rfl (lv_at hl.1 3 rfl) ?_
      refine gGoI (gRunV X hH (As := [.int (iI v2)]) (m_X3_tell l G a10 ha10 v2 nv2 M0 _ rfl) calX3_tell k_779 k_780 k_778 ha10 cX3 rfl ⟨by decide, by decide⟩ rfl hl rfl (Nat.le_of_ble_eq_true rfl) ⟨Nat.le_of_ble_eq_true rfl, Nat.le_of_ble_eq_true rfl⟩ dX11_entry_34) hS (fun H locs nr34 hH hS => ?_)
      have hq := Option.some.inj hf; subst hq
      exact gRetXI X hH hS ⟨_, rfl⟩ (res := (f_X3_tell a10 v2 M0)) nr34 ⟨Nat.le_of_ble_eq_true rfl, Nat.le_of_ble_eq_true rfl⟩ dX11_entry_37
    · replace hf := it_t hf hc19
      exact hk22  hf _ _ _ hH hS (gLv_sub hl [] rfl)
theorem m_X11_lie (l : Launch) (hl0 : l.stackTraces = false) (G : gG) (v1 : Int) (nv1 : nmI v1) (v2 : Int) (nv2 : nmI v2) (M0 : gM) (q : (Nat ⊕ gM)) (hf : f_X11_lie v1 v2 M0 = some q) : gXMet l yX11_lie cX11_lie 4 none 6 90 1 6 G M0 [.ref (gAd G 0 0), .int (iI v1), .int (iI v2)] (gXv G (∃ z, q = Sum.inr z) (gvM q)) (fun e9 => q = Sum.inl e9) := by
  refine gOfX (by decide) (by show _ ≤ 4; exact Nat.le_of_ble_eq_true rfl) rfl ?_
  intro p e s m below meth c X Z hnt hH ls hl
  replace hl : gLv ls 4 [(0, .ref (gAd G 0 0)), (1, .int (iI v1)), (2, .int (iI v2))] := hl
  have hS : va_S (gA G) s.heap s.heap [] := va_S.rf
  generalize hargs : ([.ref (gAd G 0 0), .int (iI v1), .int (iI v2)] : List Value).toArray = args at X ⊢
  clear hargs
  unfold f_X11_lie at hf
  refine lv_aload_n X.1 X.2.1 dX11_lie_0 rfl (lv_at hl.1 0 rfl) ?_
  refine g_get X cX11 hH (r := 0) (i := 0) (by decide) rfl 2 (by decide) k_480 rfl (v := .ref (gAd G 3 0)) rfl dX11_lie_1 ?_
  refine lv_iload_n X.1 X.2.1 dX11_lie_4 rfl (lv_at hl.1 1 rfl) ?_
  obtain ⟨r5, hq5, hf_⟩ := ob_e hf; clear hf; have hf := hf_; clear hf_
  refine gGoQ (gRunV X hH (As := [.int (iI v1)]) (m_X1_entryAt l G v1 nv1 M0 _ hq5) calX1_entryAt k_771 k_772 k_770 (by decide) cX1 rfl ⟨by decide, by decide⟩ rfl hl rfl (Nat.le_of_ble_eq_true rfl) ⟨Nat.le_of_ble_eq_true rfl, Nat.le_of_ble_eq_true rfl⟩ dX11_lie_5) hS (fun H locs hr5 hH hS => ?_)
  refine g_astore_nO X (lv' := [(3, va_re (gAd G 10) r5), (0, .ref (gAd G 0 0)), (1, .int (iI v1)), (2, .int (iI v2))]) dX11_lie_8 rfl hl (by decide) rfl (fun ls hl => ?_)
  refine g_aload_nO X (ad := gAd G 10) (x := r5) dX11_lie_9 rfl (lv_at hl.1 0 rfl) ?_
  obtain ⟨k22, ek22, hf_⟩ := oj_e hf; clear hf; have hf := hf_; clear hf_
  have hk22 : k22 = some q → ∀ (H : Heap) (locs : List Loc) (ls : Array Slot), gH G M0 H → va_S (gA G) s.heap H locs → gLv ls 4 [] → W p l e { frames := 6, cells := 1, slots := 6, locals := 90 } s m args below meth c H locs 0 0 (vx_MQ below (gXv G (∃ z, q = Sum.inr z) (gvM q)) (gXC G (fun e9 => q = Sum.inl e9) M0) args s 1 6 (gA G)) (F0 m 22 ls []) := by
    intro  hf H locs ls hH hS hl
    subst ek22
    have hq := Option.some.inj hf; subst hq
    exact gThrow hl0 X Z hnt hH hS hl (e9 := 1) (by decide) k_534 k_81 (List.mem_of_getElem? (i := 4) rfl) gAt_180 dX11_lie_22 dX11_lie_25 dX11_lie_26 dX11_lie_28 dX11_lie_31 (by decide) (by decide) ⟨by decide, by decide⟩ ⟨by decide, by decide⟩ rfl
  clear ek22
  refine g_ifnullO X (ad := gAd G 10) (x := r5) (tgt := 22) dX11_lie_10 (by decide) ?_ ?_
  · intro hx
    subst hx
    replace hf := om_n hf
    exact hk22  hf _ _ _ hH hS (gLv_sub hl [] rfl)
  · intro a10 hx
    subst hx
    replace hf := om_s hf
    have ha10 : a10 < 40 := hr5 _ rfl
    refine lv_iload_n X.1 X.2.1 dX11_lie_13 rfl (lv_at hl.1 3 rfl) ?_
    refine g_ldc X k_793 (a := 100003) (by decide) dX11_lie_14 ?_
    refine gGoZ (gRunS X hH (As := [.int (iI v2), .int (iI 100003)]) (m_X11_isBelow l G v2 nv2 100003 (nmI_l (by decide)) M0 _ rfl) calX11_isBelow k_529 k_528 ⟨by decide, by decide⟩ rfl hl rfl (Nat.le_of_ble_eq_true rfl) ⟨Nat.le_of_ble_eq_true rfl, Nat.le_of_ble_eq_true rfl⟩ dX11_lie_16) hS (fun H locs br16 hH hS => ?_)
    refine g_if_ne X (nmI_b br16) (tgt := 32) dX11_lie_19 (by decide) (fun hc19 => ?_) (fun hc19 => ?_)
    · replace hf := it_f hf hc19
      refine lv_aload_n X.1 X.2.1 dX11_lie_32 rfl (lv_at hl.1 0 rfl) ?_
      refine lv_iload_n X.1 X.2.1 dX11_lie_33 rfl (lv_at hl.1 3 rfl) ?_
      refine g_putI X cX3 hH hS (r := 10) (i := a10) ha10 rfl 3 (by decide) k_320 rfl rfl rfl (Nat.le_of_ble_eq_true rfl) (x := v2) nv2 rfl rfl rfl dX11_lie_34 (fun H locs hH hS => ?_)
      have hq := Option.some.inj hf; subst hq
      exact gRetXV X hH hS ⟨_, rfl⟩ ⟨Nat.le_of_ble_eq_true rfl, Nat.le_of_ble_eq_true rfl⟩ dX11_lie_37
    · replace hf := it_t hf hc19
      exact hk22  hf _ _ _ hH hS (gLv_sub hl [] rfl)
theorem m_X11_lose (l : Launch) (hl0 : l.stackTraces = false) (G : gG) (v1 : Int) (nv1 : nmI v1) (M0 : gM) (q : (Nat ⊕ (Int × gM))) (hf : f_X11_lose v1 M0 = some q) : gXMet l yX11_lose cX11_lose 4 (some .boolean) 6 90 1 6 G M0 [.ref (gAd G 0 0), .int (iI v1)] (gXz G (∃ z, q = Sum.inr z) (gvP q).1 (gvP q).2) (fun e9 => q = Sum.inl e9) := by
  refine gOfX (by decide) (by show _ ≤ 4; exact Nat.le_of_ble_eq_true rfl) rfl ?_
  intro p e s m below meth c X Z hnt hH ls hl
  replace hl : gLv ls 4 [(0, .ref (gAd G 0 0)), (1, .int (iI v1))] := hl
  have hS : va_S (gA G) s.heap s.heap [] := va_S.rf
  generalize hargs : ([.ref (gAd G 0 0), .int (iI v1)] : List Value).toArray = args at X ⊢
  clear hargs
  unfold f_X11_lose at hf
  refine lv_aload_n X.1 X.2.1 dX11_lose_0 rfl (lv_at hl.1 0 rfl) ?_
  refine g_get X cX11 hH (r := 0) (i := 0) (by decide) rfl 2 (by decide) k_480 rfl (v := .ref (gAd G 3 0)) rfl dX11_lose_1 ?_
  refine lv_iload_n X.1 X.2.1 dX11_lose_4 rfl (lv_at hl.1 1 rfl) ?_
  obtain ⟨r5, hq5, hf_⟩ := ob_e hf; clear hf; have hf := hf_; clear hf_
  refine gGoQ (gRunV X hH (As := [.int (iI v1)]) (m_X1_entryAt l G v1 nv1 M0 _ hq5) calX1_entryAt k_771 k_772 k_770 (by decide) cX1 rfl ⟨by decide, by decide⟩ rfl hl rfl (Nat.le_of_ble_eq_true rfl) ⟨Nat.le_of_ble_eq_true rfl, Nat.le_of_ble_eq_true rfl⟩ dX11_lose_5) hS (fun H locs hr5 hH hS => ?_)
  refine g_astore_nO X (lv' := [(2, va_re (gAd G 10) r5), (0, .ref (gAd G 0 0)), (1, .int (iI v1))]) dX11_lose_8 rfl hl (by decide) rfl (fun ls hl => ?_)
  refine g_aload_nO X (ad := gAd G 10) (x := r5) dX11_lose_9 rfl (lv_at hl.1 0 rfl) ?_
  refine g_ifnonnullO X (ad := gAd G 10) (x := r5) (tgt := 23) dX11_lose_10 (by decide) ?_ ?_
  · intro a10 hx
    subst hx
    replace hf := om_s hf
    have ha10 : a10 < 40 := hr5 _ rfl
    refine lv_aload_n X.1 X.2.1 dX11_lose_23 rfl (lv_at hl.1 0 rfl) ?_
    have nd24 : nmI (M0 10 a10 6) := hH.1.1 _ _ _
    have bd24 := hH.1.2.1 10 a10 6 rfl
    refine g_get X cX3 hH (r := 10) (i := a10) ha10 rfl 6 (by decide) k_327 rfl (v := .int (iI (M0 10 a10 6))) rfl dX11_lose_24 ?_
    refine g_istore_n X (lv' := [(3, .int (iI (M0 10 a10 6))), (2, .ref (gAd G 10 a10)), (0, .ref (gAd G 0 0)), (1, .int (iI v1))]) dX11_lose_27 rfl hl (by decide) rfl (fun ls hl => ?_)
    refine lv_aload_n X.1 X.2.1 dX11_lose_28 rfl (lv_at hl.1 1 rfl) ?_
    refine lv_iconst X.1 X.2.1 dX11_lose_29 (v := iI 0) rfl ?_
    refine g_putZ X cX3 hH hS (r := 10) (i := a10) ha10 rfl 6 (by decide) k_327 rfl rfl rfl (Nat.le_of_ble_eq_true rfl) (x := 0) (by decide) rfl dX11_lose_30 (fun H locs hH hS => ?_)
    refine lv_iload_n X.1 X.2.1 dX11_lose_33 rfl (lv_at hl.1 0 rfl) ?_
    have hq := Option.some.inj hf; subst hq
    exact gRetXZ X hH hS ⟨_, rfl⟩ (res := M0 10 a10 6) bd24 ⟨Nat.le_of_ble_eq_true rfl, Nat.le_of_ble_eq_true rfl⟩ dX11_lose_34
  · intro hx
    subst hx
    replace hf := om_n hf
    have hq := Option.some.inj hf; subst hq
    exact gThrow hl0 X Z hnt hH hS hl (e9 := 1) (by decide) k_534 k_81 (List.mem_of_getElem? (i := 5) rfl) gAt_180 dX11_lose_13 dX11_lose_16 dX11_lose_17 dX11_lose_19 dX11_lose_22 (by decide) (by decide) ⟨by decide, by decide⟩ ⟨by decide, by decide⟩ rfl
theorem m_X11_build (l : Launch) (hl0 : l.stackTraces = false) (G : gG) (v1 : Int) (nv1 : nmI v1) (M0 : gM) (q : (Nat ⊕ (Int × gM))) (hf : f_X11_build v1 M0 = some q) : gXMet l yX11_build cX11_build 2 (some .int) 7 173 2 12 G M0 [.ref (gAd G 0 0), .int (iI v1)] (gXi G (∃ z, q = Sum.inr z) (gvP q).1 (gvP q).2) (fun e9 => q = Sum.inl e9) := by
  refine gOfX (by decide) (by show _ ≤ 2; exact Nat.le_of_ble_eq_true rfl) rfl ?_
  intro p e s m below meth c X Z hnt hH ls hl
  replace hl : gLv ls 2 [(0, .ref (gAd G 0 0)), (1, .int (iI v1))] := hl
  have hS : va_S (gA G) s.heap s.heap [] := va_S.rf
  generalize hargs : ([.ref (gAd G 0 0), .int (iI v1)] : List Value).toArray = args at X ⊢
  clear hargs
  unfold f_X11_build at hf
  refine lv_iload_n X.1 X.2.1 dX11_build_0 rfl (lv_at hl.1 1 rfl) ?_
  obtain ⟨k22, ek22, hf_⟩ := oj_e hf; clear hf; have hf := hf_; clear hf_
  have hk22 : ∀ (xs0_22 : Int) (bxs0_22 : xs0_22 = 0 ∨ xs0_22 = 1), k22 xs0_22 = some q → ∀ (H : Heap) (locs : List Loc) (ls : Array Slot), gH G M0 H → va_S (gA G) s.heap H locs → gLv ls 2 [(0, .ref (gAd G 0 0)), (1, .int (iI v1))] → W p l e { frames := 7, cells := 2, slots := 12, locals := 173 } s m args below meth c H locs 0 0 (vx_MQ below (gXi G (∃ z, q = Sum.inr z) (gvP q).1 (gvP q).2) (gXC G (fun e9 => q = Sum.inl e9) M0) args s 2 12 (gA G)) (F0 m 22 ls [.int (iI xs0_22)]) := by
    intro xs0_22 bxs0_22 hf H locs ls hH hS hl
    subst ek22
    obtain ⟨r22, hq22, hf_⟩ := ob_e hf; clear hf; have hf := hf_; clear hf_
    rcases r22 with e8 | v22_
    · have hq := Option.some.inj hf; subst hq
      refine gGoXV (gRunSX X Z hH hS (As := [.int (iI xs0_22)]) (m_X11_checkArgument l hl0 G xs0_22 bxs0_22 M0 _ hq22) calX11_checkArgument k_532 k_531 ⟨by decide, by decide⟩ rfl hl rfl (Nat.le_of_ble_eq_true rfl) ⟨Nat.le_of_ble_eq_true rfl, Nat.le_of_ble_eq_true rfl⟩ dX11_build_22) hS (fun E ce q9 H locs hE hH hS h1 h2 h3 => ?_) (fun H locs hok hH hS => ?_)
      · exact gOutX X hnt (by obtain ⟨e7, h7, h8⟩ := hE; exact ⟨e7, congrArg _ (Sum.inl.inj h7), h8⟩) hH hS h1 h2 h3 ⟨Nat.le_of_ble_eq_true rfl, Nat.le_of_ble_eq_true rfl⟩
      · obtain ⟨z, hz⟩ := hok; cases hz
    · replace hf := ox_i hf
      refine gGoXV (gRunSX X Z hH hS (As := [.int (iI xs0_22)]) (m_X11_checkArgument l hl0 G xs0_22 bxs0_22 M0 _ hq22) calX11_checkArgument k_532 k_531 ⟨by decide, by decide⟩ rfl hl rfl (Nat.le_of_ble_eq_true rfl) ⟨Nat.le_of_ble_eq_true rfl, Nat.le_of_ble_eq_true rfl⟩ dX11_build_22) hS (fun E ce q9 H locs hE hH hS h1 h2 h3 => ?_) (fun H locs _ hH hS => ?_)
      · obtain ⟨e7, h7, h8⟩ := hE; cases h7
      · refine lv_aload_n X.1 X.2.1 dX11_build_25 rfl (lv_at hl.1 0 rfl) ?_
        refine g_get X cX11 hH (r := 0) (i := 0) (by decide) rfl 3 (by decide) k_481 rfl (v := .ref (gAd G 4 0)) rfl dX11_build_26 ?_
        have nd29 : nmI (M0 4 0 8) := hH.1.1 _ _ _
        have bd29 := hH.1.2.1 4 0 8 rfl
        refine g_get X cX2 hH (r := 4) (i := 0) (by decide) rfl 8 (by decide) k_428 rfl (v := .int (iI (M0 4 0 8))) rfl dX11_build_29 ?_
        obtain ⟨k40, ek40, hf_⟩ := oj_e hf; clear hf; have hf := hf_; clear hf_
        have hk40 : ∀ (xs0_40 : Int) (bxs0_40 : xs0_40 = 0 ∨ xs0_40 = 1), k40 xs0_40 = some q → ∀ (H : Heap) (locs : List Loc) (ls : Array Slot), gH G M0 H → va_S (gA G) s.heap H locs → gLv ls 2 [(0, .ref (gAd G 0 0)), (1, .int (iI v1))] → W p l e { frames := 7, cells := 2, slots := 12, locals := 173 } s m args below meth c H locs 1 6 (vx_MQ below (gXi G (∃ z, q = Sum.inr z) (gvP q).1 (gvP q).2) (gXC G (fun e9 => q = Sum.inl e9) M0) args s 2 12 (gA G)) (F0 m 40 ls [.int (iI xs0_40)]) := by
          intro xs0_40 bxs0_40 hf H locs ls hH hS hl
          subst ek40
          obtain ⟨r40, hq40, hf_⟩ := ob_e hf; clear hf; have hf := hf_; clear hf_
          rcases r40 with e8 | v40_
          · have hq := Option.some.inj hf; subst hq
            refine gGoXV (gRunSX X Z hH hS (As := [.int (iI xs0_40)]) (m_X11_checkState l hl0 G xs0_40 bxs0_40 M0 _ hq40) calX11_checkState k_634 k_633 ⟨by decide, by decide⟩ rfl hl rfl (Nat.le_of_ble_eq_true rfl) ⟨Nat.le_of_ble_eq_true rfl, Nat.le_of_ble_eq_true rfl⟩ dX11_build_40) hS (fun E ce q9 H locs hE hH hS h1 h2 h3 => ?_) (fun H locs hok hH hS => ?_)
            · exact gOutX X hnt (by obtain ⟨e7, h7, h8⟩ := hE; exact ⟨e7, congrArg _ (Sum.inl.inj h7), h8⟩) hH hS h1 h2 h3 ⟨Nat.le_of_ble_eq_true rfl, Nat.le_of_ble_eq_true rfl⟩
            · obtain ⟨z, hz⟩ := hok; cases hz
          · replace hf := ox_i hf
            refine gGoXV (gRunSX X Z hH hS (As := [.int (iI xs0_40)]) (m_X11_checkState l hl0 G xs0_40 bxs0_40 M0 _ hq40) calX11_checkState k_634 k_633 ⟨by decide, by decide⟩ rfl hl rfl (Nat.le_of_ble_eq_true rfl) ⟨Nat.le_of_ble_eq_true rfl, Nat.le_of_ble_eq_true rfl⟩ dX11_build_40) hS (fun E ce q9 H locs hE hH hS h1 h2 h3 => ?_) (fun H locs _ hH hS => ?_)
            · obtain ⟨e7, h7, h8⟩ := hE; cases h7
            · refine lv_aload_n X.1 X.2.1 dX11_build_43 rfl (lv_at hl.1 0 rfl) ?_
              refine g_get X cX11 hH (r := 0) (i := 0) (by decide) rfl 3 (by decide) k_481 rfl (v := .ref (gAd G 4 0)) rfl dX11_build_44 ?_
              refine lv_iload_n X.1 X.2.1 dX11_build_47 rfl (lv_at hl.1 1 rfl) ?_
              obtain ⟨r48, hq48, hf_⟩ := ob_e hf; clear hf; have hf := hf_; clear hf_
              refine gGoI (gRunV X hH (As := [.int (iI v1)]) (m_X2_begin l G v1 nv1 M0 _ hq48) calX2_begin k_818 k_819 k_817 (by decide) cX2 rfl ⟨by decide, by decide⟩ rfl hl rfl (Nat.le_of_ble_eq_true rfl) ⟨Nat.le_of_ble_eq_true rfl, Nat.le_of_ble_eq_true rfl⟩ dX11_build_48) hS (fun H locs nr48 hH hS => ?_)
              have hq := Option.some.inj hf; subst hq
              exact gRetXI X hH hS ⟨_, rfl⟩ (res := r48.1) nr48 ⟨Nat.le_of_ble_eq_true rfl, Nat.le_of_ble_eq_true rfl⟩ dX11_build_51
        clear ek40
        refine g_if_ne X nd29 (tgt := 39) dX11_build_32 (by decide) (fun hc32 => ?_) (fun hc32 => ?_)
        · replace hf := it_f hf hc32
          refine lv_iconst X.1 X.2.1 dX11_build_39 (v := iI 0) rfl ?_
          exact hk40 0 (by decide) hf _ _ _ hH hS (gLv_sub hl [0, 1] rfl)
        · replace hf := it_t hf hc32
          refine lv_iconst X.1 X.2.1 dX11_build_35 (v := iI 1) rfl ?_
          refine lv_goto (tgt := 40) X.1 X.2.1 dX11_build_36 (by decide) ?_
          exact hk40 1 (by decide) hf _ _ _ hH hS (gLv_sub hl [0, 1] rfl)
  clear ek22
  obtain ⟨k21, ek21, hf_⟩ := oj_e hf; clear hf; have hf := hf_; clear hf_
  have hk21 : k21 = some q → ∀ (H : Heap) (locs : List Loc) (ls : Array Slot), gH G M0 H → va_S (gA G) s.heap H locs → gLv ls 2 [(0, .ref (gAd G 0 0)), (1, .int (iI v1))] → W p l e { frames := 7, cells := 2, slots := 12, locals := 173 } s m args below meth c H locs 0 0 (vx_MQ below (gXi G (∃ z, q = Sum.inr z) (gvP q).1 (gvP q).2) (gXC G (fun e9 => q = Sum.inl e9) M0) args s 2 12 (gA G)) (F0 m 21 ls []) := by
    intro  hf H locs ls hH hS hl
    subst ek21
    refine lv_iconst X.1 X.2.1 dX11_build_21 (v := iI 0) rfl ?_
    exact hk22 0 (by decide) hf _ _ _ hH hS (gLv_sub hl [0, 1] rfl)
  clear ek21
  refine g_if_le X nv1 (tgt := 21) dX11_build_1 (by decide) (fun hc1 => ?_) (fun hc1 => ?_)
  · replace hf := it_f hf hc1
    exact hk21  hf _ _ _ hH hS (gLv_sub hl [0, 1] rfl)
  · replace hf := it_t hf hc1
    refine lv_iload_n X.1 X.2.1 dX11_build_4 rfl (lv_at hl.1 1 rfl) ?_
    refine lv_iconst X.1 X.2.1 dX11_build_5 (v := iI 1) rfl ?_
    refine lv_aload_n X.1 X.2.1 dX11_build_6 rfl (lv_at hl.1 0 rfl) ?_
    refine g_get X cX11 hH (r := 0) (i := 0) (by decide) rfl 1 (by decide) k_479 rfl (v := .ref (gAd G 2 0)) rfl dX11_build_7 ?_
    have nd10 : nmI (M0 2 0 5) := hH.1.1 _ _ _
    refine g_get X cX5 hH (r := 2) (i := 0) (by decide) rfl 5 (by decide) k_288 rfl (v := .int (iI (M0 2 0 5))) rfl dX11_build_10 ?_
    refine g_ishl X dX11_build_13 ?_
    refine g_icmp_ge X nv1 (nmI_shl _ _) (tgt := 21) dX11_build_14 (by decide) (fun hc14 => ?_) (fun hc14 => ?_)
    · replace hf := it_f hf hc14
      exact hk21  hf _ _ _ hH hS (gLv_sub hl [0, 1] rfl)
    · replace hf := it_t hf hc14
      refine lv_iconst X.1 X.2.1 dX11_build_17 (v := iI 1) rfl ?_
      refine lv_goto (tgt := 22) X.1 X.2.1 dX11_build_18 (by decide) ?_
      exact hk22 1 (by decide) hf _ _ _ hH hS (gLv_sub hl [0, 1] rfl)
theorem w_X11_pass_L21 {G : gG} {p : Program} {l : Launch} {e : Env} {s : State} {m : MethodId} {args : Array Value} {below : List Frame} {meth : Method} {c : Code} (X : gX G p s m args meth c RX11 cX11_pass 3 (some .int) (gWs yX11_pass cX11_pass 3 (some .int))) (hl0 : l.stackTraces = false) (Z : gS G s) (hnt : ∀ x ∈ c.exceptionTable.toList, False) (M0 : gM) (k59 : gM → Option (Nat ⊕ (Int × gM))) (z1 : Int) (nz1 : nmI z1) (q : (Nat ⊕ (Int × gM))) (hk59 : ∀  (M : gM), k59 M = some q → ∀ (H : Heap) (locs : List Loc) (ls : Array Slot), gH G M H → va_S (gA G) s.heap H locs → gLv ls 3 [(0, .ref (gAd G 0 0))] → W p l e { frames := 7, cells := 1, slots := 6, locals := 173 } s m args below meth c H locs 1 6 (vx_MQ below (gXi G (∃ z, q = Sum.inr z) (gvP q).1 (gvP q).2) (gXC G (fun e9 => q = Sum.inl e9) M0) args s 1 6 (gA G)) (F0 m 59 ls [])) : ∀ (n : Nat) (x2 : Int) (nx2 : nmI x2) (M : gM), f_X11_pass_L21 k59 z1 n x2 M = some q → ∀ (H : Heap) (locs : List Loc) (ls : Array Slot), gH G M H → va_S (gA G) s.heap H locs → gLv ls 3 [(0, .ref (gAd G 0 0)), (1, .int (iI z1)), (2, .int (iI x2))] → W p l e { frames := 7, cells := 1, slots := 6, locals := 173 } s m args below meth c H locs 1 6 (vx_MQ below (gXi G (∃ z, q = Sum.inr z) (gvP q).1 (gvP q).2) (gXC G (fun e9 => q = Sum.inl e9) M0) args s 1 6 (gA G)) (F0 m 21 ls []) := by
  intro n
  induction n with
  | zero =>
    intro x2 nx2 M hf
    cases hf
  | succ n ih =>
    intro x2 nx2 M hf H locs ls hH hS hl
    rw [f_X11_pass_L21] at hf
    refine lv_iload_n X.1 X.2.1 dX11_pass_21 rfl (lv_at hl.1 2 rfl) ?_
    refine lv_iload_n X.1 X.2.1 dX11_pass_22 rfl (lv_at hl.1 1 rfl) ?_
    refine g_icmp_ge X nx2 nz1 (tgt := 59) dX11_pass_23 (by decide) (fun hc23 => ?_) (fun hc23 => ?_)
    · replace hf := it_f hf hc23
      exact hk59 M hf _ _ _ hH hS (gLv_sub hl [0] rfl)
    · replace hf := it_t hf hc23
      refine lv_aload_n X.1 X.2.1 dX11_pass_26 rfl (lv_at hl.1 0 rfl) ?_
      refine g_get X cX11 hH (r := 0) (i := 0) (by decide) rfl 3 (by decide) k_481 rfl (v := .ref (gAd G 4 0)) rfl dX11_pass_27 ?_
      have nd30 : nmI (M 4 0 8) := hH.1.1 _ _ _
      have bd30 := hH.1.2.1 4 0 8 rfl
      refine g_get X cX2 hH (r := 4) (i := 0) (by decide) rfl 8 (by decide) k_428 rfl (v := .int (iI (M 4 0 8))) rfl dX11_pass_30 ?_
      obtain ⟨k43, ek43, hf_⟩ := oj_e hf; clear hf; have hf := hf_; clear hf_
      have hk43 : ∀  (M_43 : gM), k43 M_43 = some q → ∀ (H : Heap) (locs : List Loc) (ls : Array Slot), gH G M_43 H → va_S (gA G) s.heap H locs → gLv ls 3 [(0, .ref (gAd G 0 0)), (1, .int (iI z1)), (2, .int (iI x2))] → W p l e { frames := 7, cells := 1, slots := 6, locals := 173 } s m args below meth c H locs 1 6 (vx_MQ below (gXi G (∃ z, q = Sum.inr z) (gvP q).1 (gvP q).2) (gXC G (fun e9 => q = Sum.inl e9) M0) args s 1 6 (gA G)) (F0 m 43 ls []) := by
        intro  M_43 hf H locs ls hH hS hl
        subst ek43
        refine lv_aload_n X.1 X.2.1 dX11_pass_43 rfl (lv_at hl.1 0 rfl) ?_
        refine lv_dup X.1 X.2.1 dX11_pass_44 rfl ?_
        have nd45 : nmI (M_43 0 0 5) := hH.1.1 _ _ _
        refine g_get X cX11 hH (r := 0) (i := 0) (by decide) rfl 5 (by decide) k_483 rfl (v := .int (iI (M_43 0 0 5))) rfl dX11_pass_45 ?_
        refine lv_iconst X.1 X.2.1 dX11_pass_48 (v := iI 1) rfl ?_
        refine g_iadd X dX11_pass_49 ?_
        refine g_putI X cX11 hH hS (r := 0) (i := 0) (by decide) rfl 5 (by decide) k_483 rfl rfl rfl (Nat.le_of_ble_eq_true rfl) (x := wI ((M_43 0 0 5) + 1)) (nmI_w _) rfl rfl rfl dX11_pass_50 (fun H locs hH hS => ?_)
        refine g_iinc X (a := x2) (lv' := [(2, .int (iI (wI (x2 + 1)))), (0, .ref (gAd G 0 0)), (1, .int (iI z1))]) dX11_pass_53 hl (k := 2) rfl (by decide) rfl (fun ls hl => ?_)
        refine lv_goto (tgt := 21) X.1 X.2.1 dX11_pass_56 (by decide) ?_
        exact ih (wI (x2 + 1)) (nmI_w _) (gU M_43 0 0 5 (wI ((M_43 0 0 5) + 1))) hf _ _ _ hH hS (gLv_sub hl [1, 2, 0] rfl)
      clear ek43
      refine g_if_eq X nd30 (tgt := 43) dX11_pass_33 (by decide) (fun hc33 => ?_) (fun hc33 => ?_)
      · replace hf := it_t hf hc33
        exact hk43 M hf _ _ _ hH hS (gLv_sub hl [0, 1, 2] rfl)
      · replace hf := it_f hf hc33
        refine lv_aload_n X.1 X.2.1 dX11_pass_36 rfl (lv_at hl.1 0 rfl) ?_
        refine g_get X cX11 hH (r := 0) (i := 0) (by decide) rfl 3 (by decide) k_481 rfl (v := .ref (gAd G 4 0)) rfl dX11_pass_37 ?_
        obtain ⟨r40, hq40, hf_⟩ := ob_e hf; clear hf; have hf := hf_; clear hf_
        refine gGoV (gRunV X hH (As := []) (m_X2_passTick l G  M _ hq40) calX2_passTick k_921 k_922 k_920 (by decide) cX2 rfl ⟨by decide, by decide⟩ rfl hl rfl (Nat.le_of_ble_eq_true rfl) ⟨Nat.le_of_ble_eq_true rfl, Nat.le_of_ble_eq_true rfl⟩ dX11_pass_40) hS (fun H locs hH hS => ?_)
        exact hk43 r40 hf _ _ _ hH hS (gLv_sub hl [0, 1, 2] rfl)
theorem m_X11_pass (l : Launch) (hl0 : l.stackTraces = false) (G : gG) (v1 : Int) (nv1 : nmI v1) (M0 : gM) (q : (Nat ⊕ (Int × gM))) (hf : f_X11_pass v1 M0 = some q) : gXMet l yX11_pass cX11_pass 3 (some .int) 7 173 1 6 G M0 [.ref (gAd G 0 0), .int (iI v1)] (gXi G (∃ z, q = Sum.inr z) (gvP q).1 (gvP q).2) (fun e9 => q = Sum.inl e9) := by
  refine gOfX (by decide) (by show _ ≤ 3; exact Nat.le_of_ble_eq_true rfl) rfl ?_
  intro p e s m below meth c X Z hnt hH ls hl
  replace hl : gLv ls 3 [(0, .ref (gAd G 0 0)), (1, .int (iI v1))] := hl
  have hS : va_S (gA G) s.heap s.heap [] := va_S.rf
  generalize hargs : ([.ref (gAd G 0 0), .int (iI v1)] : List Value).toArray = args at X ⊢
  clear hargs
  unfold f_X11_pass at hf
  refine lv_iload_n X.1 X.2.1 dX11_pass_0 rfl (lv_at hl.1 1 rfl) ?_
  refine lv_iconst X.1 X.2.1 dX11_pass_1 (v := iI 1) rfl ?_
  obtain ⟨k16, ek16, hf_⟩ := oj_e hf; clear hf; have hf := hf_; clear hf_
  have hk16 : ∀ (xs0_16 : Int) (bxs0_16 : xs0_16 = 0 ∨ xs0_16 = 1), k16 xs0_16 = some q → ∀ (H : Heap) (locs : List Loc) (ls : Array Slot), gH G M0 H → va_S (gA G) s.heap H locs → gLv ls 3 [(0, .ref (gAd G 0 0)), (1, .int (iI v1))] → W p l e { frames := 7, cells := 1, slots := 6, locals := 173 } s m args below meth c H locs 0 0 (vx_MQ below (gXi G (∃ z, q = Sum.inr z) (gvP q).1 (gvP q).2) (gXC G (fun e9 => q = Sum.inl e9) M0) args s 1 6 (gA G)) (F0 m 16 ls [.int (iI xs0_16)]) := by
    intro xs0_16 bxs0_16 hf H locs ls hH hS hl
    subst ek16
    obtain ⟨r16, hq16, hf_⟩ := ob_e hf; clear hf; have hf := hf_; clear hf_
    rcases r16 with e8 | v16_
    · have hq := Option.some.inj hf; subst hq
      refine gGoXV (gRunSX X Z hH hS (As := [.int (iI xs0_16)]) (m_X11_checkArgument l hl0 G xs0_16 bxs0_16 M0 _ hq16) calX11_checkArgument k_532 k_531 ⟨by decide, by decide⟩ rfl hl rfl (Nat.le_of_ble_eq_true rfl) ⟨Nat.le_of_ble_eq_true rfl, Nat.le_of_ble_eq_true rfl⟩ dX11_pass_16) hS (fun E ce q9 H locs hE hH hS h1 h2 h3 => ?_) (fun H locs hok hH hS => ?_)
      · exact gOutX X hnt (by obtain ⟨e7, h7, h8⟩ := hE; exact ⟨e7, congrArg _ (Sum.inl.inj h7), h8⟩) hH hS h1 h2 h3 ⟨Nat.le_of_ble_eq_true rfl, Nat.le_of_ble_eq_true rfl⟩
      · obtain ⟨z, hz⟩ := hok; cases hz
    · replace hf := ox_i hf
      refine gGoXV (gRunSX X Z hH hS (As := [.int (iI xs0_16)]) (m_X11_checkArgument l hl0 G xs0_16 bxs0_16 M0 _ hq16) calX11_checkArgument k_532 k_531 ⟨by decide, by decide⟩ rfl hl rfl (Nat.le_of_ble_eq_true rfl) ⟨Nat.le_of_ble_eq_true rfl, Nat.le_of_ble_eq_true rfl⟩ dX11_pass_16) hS (fun E ce q9 H locs hE hH hS h1 h2 h3 => ?_) (fun H locs _ hH hS => ?_)
      · obtain ⟨e7, h7, h8⟩ := hE; cases h7
      · refine lv_iconst X.1 X.2.1 dX11_pass_19 (v := iI 0) rfl ?_
        refine g_istore_n X (lv' := [(2, .int (iI 0)), (0, .ref (gAd G 0 0)), (1, .int (iI v1))]) dX11_pass_20 rfl hl (by decide) rfl (fun ls hl => ?_)
        refine w_X11_pass_L21 X hl0 Z hnt M0 _ v1 nv1 q ?_ 64 0 (nmI_l (by decide)) M0 hf _ _ _ hH hS (gLv_sub hl [1, 2, 0] rfl)
        · intro  M_21_59 hf H locs ls hH hS hl
          refine lv_aload_n X.1 X.2.1 dX11_pass_59 rfl (lv_at hl.1 0 rfl) ?_
          have nd60 : nmI (M_21_59 0 0 5) := hH.1.1 _ _ _
          refine g_get X cX11 hH (r := 0) (i := 0) (by decide) rfl 5 (by decide) k_483 rfl (v := .int (iI (M_21_59 0 0 5))) rfl dX11_pass_60 ?_
          have hq := Option.some.inj hf; subst hq
          exact gRetXI X hH hS ⟨_, rfl⟩ (res := M_21_59 0 0 5) nd60 ⟨Nat.le_of_ble_eq_true rfl, Nat.le_of_ble_eq_true rfl⟩ dX11_pass_63
  clear ek16
  obtain ⟨k15, ek15, hf_⟩ := oj_e hf; clear hf; have hf := hf_; clear hf_
  have hk15 : k15 = some q → ∀ (H : Heap) (locs : List Loc) (ls : Array Slot), gH G M0 H → va_S (gA G) s.heap H locs → gLv ls 3 [(0, .ref (gAd G 0 0)), (1, .int (iI v1))] → W p l e { frames := 7, cells := 1, slots := 6, locals := 173 } s m args below meth c H locs 0 0 (vx_MQ below (gXi G (∃ z, q = Sum.inr z) (gvP q).1 (gvP q).2) (gXC G (fun e9 => q = Sum.inl e9) M0) args s 1 6 (gA G)) (F0 m 15 ls []) := by
    intro  hf H locs ls hH hS hl
    subst ek15
    refine lv_iconst X.1 X.2.1 dX11_pass_15 (v := iI 0) rfl ?_
    exact hk16 0 (by decide) hf _ _ _ hH hS (gLv_sub hl [0, 1] rfl)
  clear ek15
  refine g_icmp_lt X nv1 (nmI_l (by decide)) (tgt := 15) dX11_pass_2 (by decide) (fun hc2 => ?_) (fun hc2 => ?_)
  · replace hf := it_t hf hc2
    exact hk15  hf _ _ _ hH hS (gLv_sub hl [0, 1] rfl)
  · replace hf := it_f hf hc2
    refine lv_iload_n X.1 X.2.1 dX11_pass_5 rfl (lv_at hl.1 1 rfl) ?_
    refine lv_bipush X.1 X.2.1 dX11_pass_6 (v := iI 50) (by decide) ?_
    refine g_icmp_gt X nv1 (nmI_l (by decide)) (tgt := 15) dX11_pass_8 (by decide) (fun hc8 => ?_) (fun hc8 => ?_)
    · replace hf := it_t hf hc8
      exact hk15  hf _ _ _ hH hS (gLv_sub hl [0, 1] rfl)
    · replace hf := it_f hf hc8
      refine lv_iconst X.1 X.2.1 dX11_pass_11 (v := iI 1) rfl ?_
      refine lv_goto (tgt := 16) X.1 X.2.1 dX11_pass_12 (by decide) ?_
      exact hk16 1 (by decide) hf _ _ _ hH hS (gLv_sub hl [0, 1] rfl)
theorem m_X11_checkedAction (l : Launch) (hl0 : l.stackTraces = false) (G : gG) (v1 : Int) (nv1 : nmI v1) (v2 : Int) (nv2 : nmI v2) (M0 : gM) (q : (Nat ⊕ Nat)) (hf : f_X11_checkedAction v1 v2 M0 = some q) : gXMet l yX11_checkedAction cX11_checkedAction 4 (some (.object "BuildGrid$Action")) 7 111 2 12 G M0 [.ref (gAd G 0 0), .int (iI v1), .int (iI v2)] (gXr G (∃ z, q = Sum.inr z) 9 (gvN q) M0) (fun e9 => q = Sum.inl e9) := by
  refine gOfX (by decide) (by show _ ≤ 4; exact Nat.le_of_ble_eq_true rfl) rfl ?_
  intro p e s m below meth c X Z hnt hH ls hl
  replace hl : gLv ls 4 [(0, .ref (gAd G 0 0)), (1, .int (iI v1)), (2, .int (iI v2))] := hl
  have hS : va_S (gA G) s.heap s.heap [] := va_S.rf
  generalize hargs : ([.ref (gAd G 0 0), .int (iI v1), .int (iI v2)] : List Value).toArray = args at X ⊢
  clear hargs
  unfold f_X11_checkedAction at hf
  refine lv_aload_n X.1 X.2.1 dX11_checkedAction_0 rfl (lv_at hl.1 0 rfl) ?_
  refine lv_iload_n X.1 X.2.1 dX11_checkedAction_1 rfl (lv_at hl.1 1 rfl) ?_
  obtain ⟨r2, hq2, hf_⟩ := ob_e hf; clear hf; have hf := hf_; clear hf_
  rcases r2 with e8 | v2_
  · have hq := Option.some.inj hf; subst hq
    refine gGoXV (gRunVX X Z hH hS (As := [.int (iI v1)]) (m_X11_checkTarget l hl0 G v1 nv1 M0 _ hq2) calX11_checkTarget k_677 k_4 k_675 (by decide) cX11 rfl ⟨by decide, by decide⟩ rfl hl rfl (Nat.le_of_ble_eq_true rfl) ⟨Nat.le_of_ble_eq_true rfl, Nat.le_of_ble_eq_true rfl⟩ dX11_checkedAction_2) hS (fun E ce q9 H locs hE hH hS h1 h2 h3 => ?_) (fun H locs hok hH hS => ?_)
    · exact gOutX X hnt (by obtain ⟨e7, h7, h8⟩ := hE; exact ⟨e7, congrArg _ (Sum.inl.inj h7), h8⟩) hH hS h1 h2 h3 ⟨Nat.le_of_ble_eq_true rfl, Nat.le_of_ble_eq_true rfl⟩
    · obtain ⟨z, hz⟩ := hok; cases hz
  · replace hf := ox_i hf
    refine gGoXV (gRunVX X Z hH hS (As := [.int (iI v1)]) (m_X11_checkTarget l hl0 G v1 nv1 M0 _ hq2) calX11_checkTarget k_677 k_4 k_675 (by decide) cX11 rfl ⟨by decide, by decide⟩ rfl hl rfl (Nat.le_of_ble_eq_true rfl) ⟨Nat.le_of_ble_eq_true rfl, Nat.le_of_ble_eq_true rfl⟩ dX11_checkedAction_2) hS (fun E ce q9 H locs hE hH hS h1 h2 h3 => ?_) (fun H locs _ hH hS => ?_)
    · obtain ⟨e7, h7, h8⟩ := hE; cases h7
    · refine lv_aload_n X.1 X.2.1 dX11_checkedAction_5 rfl (lv_at hl.1 0 rfl) ?_
      refine g_get X cX11 hH (r := 0) (i := 0) (by decide) rfl 1 (by decide) k_479 rfl (v := .ref (gAd G 2 0)) rfl dX11_checkedAction_6 ?_
      refine lv_iload_n X.1 X.2.1 dX11_checkedAction_9 rfl (lv_at hl.1 1 rfl) ?_
      refine gGoR (gRunV X hH (As := [.int (iI v1)]) (m_X5_targetAt l G v1 nv1 M0 _ rfl) calX5_targetAt k_713 k_714 k_733 (by decide) cX5 rfl ⟨by decide, by decide⟩ rfl hl rfl (Nat.le_of_ble_eq_true rfl) ⟨Nat.le_of_ble_eq_true rfl, Nat.le_of_ble_eq_true rfl⟩ dX11_checkedAction_10) hS (fun H locs hr10 hH hS => ?_)
      replace hr10 : (f_X5_targetAt v1 M0) < 15 := hr10
      refine g_astore_n X (lv' := [(3, .ref (gAd G 7 ((f_X5_targetAt v1 M0)))), (0, .ref (gAd G 0 0)), (1, .int (iI v1)), (2, .int (iI v2))]) dX11_checkedAction_13 rfl hl (by decide) rfl (fun ls hl => ?_)
      refine lv_iload_n X.1 X.2.1 dX11_checkedAction_14 rfl (lv_at hl.1 3 rfl) ?_
      refine lv_aload_n X.1 X.2.1 dX11_checkedAction_15 rfl (lv_at hl.1 0 rfl) ?_
      have nd16 : nmI (M0 7 ((f_X5_targetAt v1 M0)) 6) := hH.1.1 _ _ _
      refine g_get X cX8 hH (r := 7) (i := (f_X5_targetAt v1 M0)) hr10 rfl 6 (by decide) k_237 rfl (v := .int (iI (M0 7 ((f_X5_targetAt v1 M0)) 6))) rfl dX11_checkedAction_16 ?_
      refine gGoZ (gRunS X hH (As := [.int (iI v2), .int (iI (M0 7 ((f_X5_targetAt v1 M0)) 6))]) (m_X11_isBelow l G v2 nv2 (M0 7 ((f_X5_targetAt v1 M0)) 6) nd16 M0 _ rfl) calX11_isBelow k_529 k_528 ⟨by decide, by decide⟩ rfl hl rfl (Nat.le_of_ble_eq_true rfl) ⟨Nat.le_of_ble_eq_true rfl, Nat.le_of_ble_eq_true rfl⟩ dX11_checkedAction_19) hS (fun H locs br19 hH hS => ?_)
      obtain ⟨r22, hq22, hf_⟩ := ob_e hf; clear hf; have hf := hf_; clear hf_
      rcases r22 with e8 | v22_
      · have hq := Option.some.inj hf; subst hq
        refine gGoXV (gRunSX X Z hH hS (As := [.int (iI ((f_X11_isBelow v2 (M0 7 ((f_X5_targetAt v1 M0)) 6) M0)))]) (m_X11_checkArgument l hl0 G ((f_X11_isBelow v2 (M0 7 ((f_X5_targetAt v1 M0)) 6) M0)) br19 M0 _ hq22) calX11_checkArgument k_532 k_531 ⟨by decide, by decide⟩ rfl hl rfl (Nat.le_of_ble_eq_true rfl) ⟨Nat.le_of_ble_eq_true rfl, Nat.le_of_ble_eq_true rfl⟩ dX11_checkedAction_22) hS (fun E ce q9 H locs hE hH hS h1 h2 h3 => ?_) (fun H locs hok hH hS => ?_)
        · exact gOutX X hnt (by obtain ⟨e7, h7, h8⟩ := hE; exact ⟨e7, congrArg _ (Sum.inl.inj h7), h8⟩) hH hS h1 h2 h3 ⟨Nat.le_of_ble_eq_true rfl, Nat.le_of_ble_eq_true rfl⟩
        · obtain ⟨z, hz⟩ := hok; cases hz
      · replace hf := ox_i hf
        refine gGoXV (gRunSX X Z hH hS (As := [.int (iI ((f_X11_isBelow v2 (M0 7 ((f_X5_targetAt v1 M0)) 6) M0)))]) (m_X11_checkArgument l hl0 G ((f_X11_isBelow v2 (M0 7 ((f_X5_targetAt v1 M0)) 6) M0)) br19 M0 _ hq22) calX11_checkArgument k_532 k_531 ⟨by decide, by decide⟩ rfl hl rfl (Nat.le_of_ble_eq_true rfl) ⟨Nat.le_of_ble_eq_true rfl, Nat.le_of_ble_eq_true rfl⟩ dX11_checkedAction_22) hS (fun E ce q9 H locs hE hH hS h1 h2 h3 => ?_) (fun H locs _ hH hS => ?_)
        · obtain ⟨e7, h7, h8⟩ := hE; cases h7
        · refine lv_aload_n X.1 X.2.1 dX11_checkedAction_25 rfl (lv_at hl.1 0 rfl) ?_
          refine lv_iload_n X.1 X.2.1 dX11_checkedAction_26 rfl (lv_at hl.1 3 rfl) ?_
          refine gGoR (gRunV X hH (As := [.int (iI v2)]) (m_X8_actionAt l G ((f_X5_targetAt v1 M0)) hr10 v2 nv2 M0 _ rfl) calX8_actionAt k_844 k_845 k_1052 hr10 cX8 rfl ⟨by decide, by decide⟩ rfl hl rfl (Nat.le_of_ble_eq_true rfl) ⟨Nat.le_of_ble_eq_true rfl, Nat.le_of_ble_eq_true rfl⟩ dX11_checkedAction_27) hS (fun H locs hr27 hH hS => ?_)
          replace hr27 : (f_X8_actionAt ((f_X5_targetAt v1 M0)) v2 M0) < 60 := hr27
          have hq := Option.some.inj hf; subst hq
          exact gRetXR X hH hS ⟨_, rfl⟩ (i := (f_X8_actionAt ((f_X5_targetAt v1 M0)) v2 M0)) hr27 ⟨Nat.le_of_ble_eq_true rfl, Nat.le_of_ble_eq_true rfl⟩ dX11_checkedAction_30
theorem m_X11_state (l : Launch) (hl0 : l.stackTraces = false) (G : gG) (v1 : Int) (nv1 : nmI v1) (v2 : Int) (nv2 : nmI v2) (M0 : gM) (q : (Nat ⊕ Int)) (hf : f_X11_state v1 v2 M0 = some q) : gXMet l yX11_state cX11_state 3 (some .int) 8 134 2 12 G M0 [.ref (gAd G 0 0), .int (iI v1), .int (iI v2)] (gXi G (∃ z, q = Sum.inr z) (gvI q) M0) (fun e9 => q = Sum.inl e9) := by
  refine gOfX (by decide) (by show _ ≤ 3; exact Nat.le_of_ble_eq_true rfl) rfl ?_
  intro p e s m below meth c X Z hnt hH ls hl
  replace hl : gLv ls 3 [(0, .ref (gAd G 0 0)), (1, .int (iI v1)), (2, .int (iI v2))] := hl
  have hS : va_S (gA G) s.heap s.heap [] := va_S.rf
  generalize hargs : ([.ref (gAd G 0 0), .int (iI v1), .int (iI v2)] : List Value).toArray = args at X ⊢
  clear hargs
  unfold f_X11_state at hf
  refine lv_aload_n X.1 X.2.1 dX11_state_0 rfl (lv_at hl.1 0 rfl) ?_
  refine lv_iload_n X.1 X.2.1 dX11_state_1 rfl (lv_at hl.1 1 rfl) ?_
  refine lv_iload_n X.1 X.2.1 dX11_state_2 rfl (lv_at hl.1 2 rfl) ?_
  obtain ⟨r3, hq3, hf_⟩ := ob_e hf; clear hf; have hf := hf_; clear hf_
  rcases r3 with e8 | v3_
  · have hq := Option.some.inj hf; subst hq
    refine gGoXR (gRunVX X Z hH hS (As := [.int (iI v1), .int (iI v2)]) (m_X11_checkedAction l hl0 G v1 nv1 v2 nv2 M0 _ hq3) calX11_checkedAction k_1050 k_23 k_1048 (by decide) cX11 rfl ⟨by decide, by decide⟩ rfl hl rfl (Nat.le_of_ble_eq_true rfl) ⟨Nat.le_of_ble_eq_true rfl, Nat.le_of_ble_eq_true rfl⟩ dX11_state_3) hS (fun E ce q9 H locs hE hH hS h1 h2 h3 => ?_) (fun H locs hok _ hH hS => ?_)
    · exact gOutX X hnt (by obtain ⟨e7, h7, h8⟩ := hE; exact ⟨e7, congrArg _ (Sum.inl.inj h7), h8⟩) hH hS h1 h2 h3 ⟨Nat.le_of_ble_eq_true rfl, Nat.le_of_ble_eq_true rfl⟩
    · obtain ⟨z, hz⟩ := hok; cases hz
  · replace hf := ox_i hf
    refine gGoXR (gRunVX X Z hH hS (As := [.int (iI v1), .int (iI v2)]) (m_X11_checkedAction l hl0 G v1 nv1 v2 nv2 M0 _ hq3) calX11_checkedAction k_1050 k_23 k_1048 (by decide) cX11 rfl ⟨by decide, by decide⟩ rfl hl rfl (Nat.le_of_ble_eq_true rfl) ⟨Nat.le_of_ble_eq_true rfl, Nat.le_of_ble_eq_true rfl⟩ dX11_state_3) hS (fun E ce q9 H locs hE hH hS h1 h2 h3 => ?_) (fun H locs _ hv3_ hH hS => ?_)
    · obtain ⟨e7, h7, h8⟩ := hE; cases h7
    · replace hv3_ : v3_ < 60 := hv3_
      have nd6 : nmI (M0 9 v3_ 2) := hH.1.1 _ _ _
      refine g_get X cX0 hH (r := 9) (i := v3_) hv3_ rfl 2 (by decide) k_182 rfl (v := .int (iI (M0 9 v3_ 2))) rfl dX11_state_6 ?_
      have hq := Option.some.inj hf; subst hq
      exact gRetXI X hH hS ⟨_, rfl⟩ (res := M0 9 v3_ 2) nd6 ⟨Nat.le_of_ble_eq_true rfl, Nat.le_of_ble_eq_true rfl⟩ dX11_state_9
theorem m_X11_result (l : Launch) (hl0 : l.stackTraces = false) (G : gG) (v1 : Int) (nv1 : nmI v1) (v2 : Int) (nv2 : nmI v2) (M0 : gM) (q : (Nat ⊕ Int)) (hf : f_X11_result v1 v2 M0 = some q) : gXMet l yX11_result cX11_result 4 (some .int) 8 134 2 12 G M0 [.ref (gAd G 0 0), .int (iI v1), .int (iI v2)] (gXi G (∃ z, q = Sum.inr z) (gvI q) M0) (fun e9 => q = Sum.inl e9) := by
  refine gOfX (by decide) (by show _ ≤ 4; exact Nat.le_of_ble_eq_true rfl) rfl ?_
  intro p e s m below meth c X Z hnt hH ls hl
  replace hl : gLv ls 4 [(0, .ref (gAd G 0 0)), (1, .int (iI v1)), (2, .int (iI v2))] := hl
  have hS : va_S (gA G) s.heap s.heap [] := va_S.rf
  generalize hargs : ([.ref (gAd G 0 0), .int (iI v1), .int (iI v2)] : List Value).toArray = args at X ⊢
  clear hargs
  unfold f_X11_result at hf
  refine lv_aload_n X.1 X.2.1 dX11_result_0 rfl (lv_at hl.1 0 rfl) ?_
  refine lv_iload_n X.1 X.2.1 dX11_result_1 rfl (lv_at hl.1 1 rfl) ?_
  refine lv_iload_n X.1 X.2.1 dX11_result_2 rfl (lv_at hl.1 2 rfl) ?_
  obtain ⟨r3, hq3, hf_⟩ := ob_e hf; clear hf; have hf := hf_; clear hf_
  rcases r3 with e8 | v3_
  · have hq := Option.some.inj hf; subst hq
    refine gGoXR (gRunVX X Z hH hS (As := [.int (iI v1), .int (iI v2)]) (m_X11_checkedAction l hl0 G v1 nv1 v2 nv2 M0 _ hq3) calX11_checkedAction k_1050 k_23 k_1048 (by decide) cX11 rfl ⟨by decide, by decide⟩ rfl hl rfl (Nat.le_of_ble_eq_true rfl) ⟨Nat.le_of_ble_eq_true rfl, Nat.le_of_ble_eq_true rfl⟩ dX11_result_3) hS (fun E ce q9 H locs hE hH hS h1 h2 h3 => ?_) (fun H locs hok _ hH hS => ?_)
    · exact gOutX X hnt (by obtain ⟨e7, h7, h8⟩ := hE; exact ⟨e7, congrArg _ (Sum.inl.inj h7), h8⟩) hH hS h1 h2 h3 ⟨Nat.le_of_ble_eq_true rfl, Nat.le_of_ble_eq_true rfl⟩
    · obtain ⟨z, hz⟩ := hok; cases hz
  · replace hf := ox_i hf
    refine gGoXR (gRunVX X Z hH hS (As := [.int (iI v1), .int (iI v2)]) (m_X11_checkedAction l hl0 G v1 nv1 v2 nv2 M0 _ hq3) calX11_checkedAction k_1050 k_23 k_1048 (by decide) cX11 rfl ⟨by decide, by decide⟩ rfl hl rfl (Nat.le_of_ble_eq_true rfl) ⟨Nat.le_of_ble_eq_true rfl, Nat.le_of_ble_eq_true rfl⟩ dX11_result_3) hS (fun E ce q9 H locs hE hH hS h1 h2 h3 => ?_) (fun H locs _ hv3_ hH hS => ?_)
    · obtain ⟨e7, h7, h8⟩ := hE; cases h7
    · replace hv3_ : v3_ < 60 := hv3_
      refine g_astore_n X (lv' := [(3, .ref (gAd G 9 v3_)), (0, .ref (gAd G 0 0)), (1, .int (iI v1)), (2, .int (iI v2))]) dX11_result_6 rfl hl (by decide) rfl (fun ls hl => ?_)
      refine lv_aload_n X.1 X.2.1 dX11_result_7 rfl (lv_at hl.1 0 rfl) ?_
      have nd8 : nmI (M0 9 v3_ 2) := hH.1.1 _ _ _
      refine g_get X cX0 hH (r := 9) (i := v3_) hv3_ rfl 2 (by decide) k_182 rfl (v := .int (iI (M0 9 v3_ 2))) rfl dX11_result_8 ?_
      refine lv_iconst X.1 X.2.1 dX11_result_11 (v := iI 3) rfl ?_
      refine g_icmp_ne X nd8 (nmI_l (by decide)) (tgt := 22) dX11_result_12 (by decide) (fun hc12 => ?_) (fun hc12 => ?_)
      · replace hf := it_f hf hc12
        refine lv_iconst X.1 X.2.1 dX11_result_22 (v := iI (-1)) rfl ?_
        have hq := Option.some.inj hf; subst hq
        exact gRetXI X hH hS ⟨_, rfl⟩ (res := (-1)) (nmI_l (by decide)) ⟨Nat.le_of_ble_eq_true rfl, Nat.le_of_ble_eq_true rfl⟩ dX11_result_23
      · replace hf := it_t hf hc12
        refine lv_aload_n X.1 X.2.1 dX11_result_15 rfl (lv_at hl.1 0 rfl) ?_
        have nd16 : nmI (M0 9 v3_ 3) := hH.1.1 _ _ _
        refine g_get X cX0 hH (r := 9) (i := v3_) hv3_ rfl 3 (by decide) k_187 rfl (v := .int (iI (M0 9 v3_ 3))) rfl dX11_result_16 ?_
        refine lv_goto (tgt := 23) X.1 X.2.1 dX11_result_19 (by decide) ?_
        have hq := Option.some.inj hf; subst hq
        exact gRetXI X hH hS ⟨_, rfl⟩ (res := M0 9 v3_ 3) nd16 ⟨Nat.le_of_ble_eq_true rfl, Nat.le_of_ble_eq_true rfl⟩ dX11_result_23
theorem m_X11_about (l : Launch) (hl0 : l.stackTraces = false) (G : gG) (v1 : Int) (nv1 : nmI v1) (v2 : Int) (nv2 : nmI v2) (M0 : gM) (q : (Nat ⊕ (Int × gM))) (hf : f_X11_about v1 v2 M0 = some q) : gXMet l yX11_about cX11_about 4 (some .int) 7 140 2 12 G M0 [.ref (gAd G 0 0), .int (iI v1), .int (iI v2)] (gXi G (∃ z, q = Sum.inr z) (gvP q).1 (gvP q).2) (fun e9 => q = Sum.inl e9) := by
  refine gOfX (by decide) (by show _ ≤ 4; exact Nat.le_of_ble_eq_true rfl) rfl ?_
  intro p e s m below meth c X Z hnt hH ls hl
  replace hl : gLv ls 4 [(0, .ref (gAd G 0 0)), (1, .int (iI v1)), (2, .int (iI v2))] := hl
  have hS : va_S (gA G) s.heap s.heap [] := va_S.rf
  generalize hargs : ([.ref (gAd G 0 0), .int (iI v1), .int (iI v2)] : List Value).toArray = args at X ⊢
  clear hargs
  unfold f_X11_about at hf
  refine lv_aload_n X.1 X.2.1 dX11_about_0 rfl (lv_at hl.1 0 rfl) ?_
  refine lv_iload_n X.1 X.2.1 dX11_about_1 rfl (lv_at hl.1 1 rfl) ?_
  obtain ⟨r2, hq2, hf_⟩ := ob_e hf; clear hf; have hf := hf_; clear hf_
  rcases r2 with e8 | v2_
  · have hq := Option.some.inj hf; subst hq
    refine gGoXV (gRunVX X Z hH hS (As := [.int (iI v1)]) (m_X11_checkTarget l hl0 G v1 nv1 M0 _ hq2) calX11_checkTarget k_677 k_4 k_675 (by decide) cX11 rfl ⟨by decide, by decide⟩ rfl hl rfl (Nat.le_of_ble_eq_true rfl) ⟨Nat.le_of_ble_eq_true rfl, Nat.le_of_ble_eq_true rfl⟩ dX11_about_2) hS (fun E ce q9 H locs hE hH hS h1 h2 h3 => ?_) (fun H locs hok hH hS => ?_)
    · exact gOutX X hnt (by obtain ⟨e7, h7, h8⟩ := hE; exact ⟨e7, congrArg _ (Sum.inl.inj h7), h8⟩) hH hS h1 h2 h3 ⟨Nat.le_of_ble_eq_true rfl, Nat.le_of_ble_eq_true rfl⟩
    · obtain ⟨z, hz⟩ := hok; cases hz
  · replace hf := ox_i hf
    refine gGoXV (gRunVX X Z hH hS (As := [.int (iI v1)]) (m_X11_checkTarget l hl0 G v1 nv1 M0 _ hq2) calX11_checkTarget k_677 k_4 k_675 (by decide) cX11 rfl ⟨by decide, by decide⟩ rfl hl rfl (Nat.le_of_ble_eq_true rfl) ⟨Nat.le_of_ble_eq_true rfl, Nat.le_of_ble_eq_true rfl⟩ dX11_about_2) hS (fun E ce q9 H locs hE hH hS h1 h2 h3 => ?_) (fun H locs _ hH hS => ?_)
    · obtain ⟨e7, h7, h8⟩ := hE; cases h7
    · refine lv_iload_n X.1 X.2.1 dX11_about_5 rfl (lv_at hl.1 2 rfl) ?_
      refine lv_bipush X.1 X.2.1 dX11_about_6 (v := iI 6) (by decide) ?_
      refine gGoZ (gRunS X hH (As := [.int (iI v2), .int (iI 6)]) (m_X11_isBelow l G v2 nv2 6 (nmI_l (by decide)) M0 _ rfl) calX11_isBelow k_529 k_528 ⟨by decide, by decide⟩ rfl hl rfl (Nat.le_of_ble_eq_true rfl) ⟨Nat.le_of_ble_eq_true rfl, Nat.le_of_ble_eq_true rfl⟩ dX11_about_8) hS (fun H locs br8 hH hS => ?_)
      obtain ⟨r11, hq11, hf_⟩ := ob_e hf; clear hf; have hf := hf_; clear hf_
      rcases r11 with e8 | v11_
      · have hq := Option.some.inj hf; subst hq
        refine gGoXV (gRunSX X Z hH hS (As := [.int (iI ((f_X11_isBelow v2 6 M0)))]) (m_X11_checkArgument l hl0 G ((f_X11_isBelow v2 6 M0)) br8 M0 _ hq11) calX11_checkArgument k_532 k_531 ⟨by decide, by decide⟩ rfl hl rfl (Nat.le_of_ble_eq_true rfl) ⟨Nat.le_of_ble_eq_true rfl, Nat.le_of_ble_eq_true rfl⟩ dX11_about_11) hS (fun E ce q9 H locs hE hH hS h1 h2 h3 => ?_) (fun H locs hok hH hS => ?_)
        · exact gOutX X hnt (by obtain ⟨e7, h7, h8⟩ := hE; exact ⟨e7, congrArg _ (Sum.inl.inj h7), h8⟩) hH hS h1 h2 h3 ⟨Nat.le_of_ble_eq_true rfl, Nat.le_of_ble_eq_true rfl⟩
        · obtain ⟨z, hz⟩ := hok; cases hz
      · replace hf := ox_i hf
        refine gGoXV (gRunSX X Z hH hS (As := [.int (iI ((f_X11_isBelow v2 6 M0)))]) (m_X11_checkArgument l hl0 G ((f_X11_isBelow v2 6 M0)) br8 M0 _ hq11) calX11_checkArgument k_532 k_531 ⟨by decide, by decide⟩ rfl hl rfl (Nat.le_of_ble_eq_true rfl) ⟨Nat.le_of_ble_eq_true rfl, Nat.le_of_ble_eq_true rfl⟩ dX11_about_11) hS (fun E ce q9 H locs hE hH hS h1 h2 h3 => ?_) (fun H locs _ hH hS => ?_)
        · obtain ⟨e7, h7, h8⟩ := hE; cases h7
        · refine lv_aload_n X.1 X.2.1 dX11_about_14 rfl (lv_at hl.1 0 rfl) ?_
          refine g_get X cX11 hH (r := 0) (i := 0) (by decide) rfl 1 (by decide) k_479 rfl (v := .ref (gAd G 2 0)) rfl dX11_about_15 ?_
          refine lv_iload_n X.1 X.2.1 dX11_about_18 rfl (lv_at hl.1 1 rfl) ?_
          refine gGoR (gRunV X hH (As := [.int (iI v1)]) (m_X5_targetAt l G v1 nv1 M0 _ rfl) calX5_targetAt k_713 k_714 k_733 (by decide) cX5 rfl ⟨by decide, by decide⟩ rfl hl rfl (Nat.le_of_ble_eq_true rfl) ⟨Nat.le_of_ble_eq_true rfl, Nat.le_of_ble_eq_true rfl⟩ dX11_about_19) hS (fun H locs hr19 hH hS => ?_)
          replace hr19 : (f_X5_targetAt v1 M0) < 15 := hr19
          refine g_astore_n X (lv' := [(3, .ref (gAd G 7 ((f_X5_targetAt v1 M0)))), (0, .ref (gAd G 0 0)), (1, .int (iI v1)), (2, .int (iI v2))]) dX11_about_22 rfl hl (by decide) rfl (fun ls hl => ?_)
          refine lv_iload_n X.1 X.2.1 dX11_about_23 rfl (lv_at hl.1 3 rfl) ?_
          by_cases hs0 : v2 = 0
          · replace hf := it_t hf hs0
            refine lv_tableIn (tgt := 60) X.1 X.2.1 dX11_about_24 (by rw [iI_T nv2]; omega) (by rw [iI_T nv2]; omega) (by rw [iI_T nv2, hs0]; rfl) (by decide) ?_
            refine lv_aload_n X.1 X.2.1 dX11_about_60 rfl (lv_at hl.1 1 rfl) ?_
            refine g_get X cX11 hH (r := 0) (i := 0) (by decide) rfl 1 (by decide) k_479 rfl (v := .ref (gAd G 2 0)) rfl dX11_about_61 ?_
            obtain ⟨r64, hq64, hf_⟩ := ob_e hf; clear hf; have hf := hf_; clear hf_
            refine gGoI (gRunV X hH (As := []) (m_X5_soundTargets l G  M0 _ hq64) calX5_soundTargets k_1068 k_1069 k_1067 (by decide) cX5 rfl ⟨by decide, by decide⟩ rfl hl rfl (Nat.le_of_ble_eq_true rfl) ⟨Nat.le_of_ble_eq_true rfl, Nat.le_of_ble_eq_true rfl⟩ dX11_about_64) hS (fun H locs nr64 hH hS => ?_)
            refine lv_iload_n X.1 X.2.1 dX11_about_67 rfl (lv_at hl.1 2 rfl) ?_
            refine gGoI (gRunS X hH (As := [.int (iI r64), .int (iI v1)]) (m_X11_bitOf l G r64 nr64 v1 nv1 M0 _ rfl) calX11_bitOf k_826 k_1079 ⟨by decide, by decide⟩ rfl hl rfl (Nat.le_of_ble_eq_true rfl) ⟨Nat.le_of_ble_eq_true rfl, Nat.le_of_ble_eq_true rfl⟩ dX11_about_68) hS (fun H locs nr68 hH hS => ?_)
            have hq := Option.some.inj hf; subst hq
            exact gRetXI X hH hS ⟨_, rfl⟩ (res := (f_X11_bitOf r64 v1 M0)) nr68 ⟨Nat.le_of_ble_eq_true rfl, Nat.le_of_ble_eq_true rfl⟩ dX11_about_71
          replace hf := it_f hf hs0
          by_cases hs1 : v2 = 1
          · replace hf := it_t hf hs1
            refine lv_tableIn (tgt := 72) X.1 X.2.1 dX11_about_24 (by rw [iI_T nv2]; omega) (by rw [iI_T nv2]; omega) (by rw [iI_T nv2, hs1]; rfl) (by decide) ?_
            refine lv_aload_n X.1 X.2.1 dX11_about_72 rfl (lv_at hl.1 1 rfl) ?_
            refine g_get X cX11 hH (r := 0) (i := 0) (by decide) rfl 4 (by decide) k_482 rfl (v := .ref (gAd G 5 0)) rfl dX11_about_73 ?_
            refine lv_aload_n X.1 X.2.1 dX11_about_76 rfl (lv_at hl.1 0 rfl) ?_
            obtain ⟨r77, hq77, hf_⟩ := ob_e hf; clear hf; have hf := hf_; clear hf_
            refine gGoZ (gRunV X hH (As := [.ref (gAd G 7 ((f_X5_targetAt v1 M0)))]) (m_X4_isStale l G ((f_X5_targetAt v1 M0)) hr19 M0 _ hq77) calX4_isStale k_1081 k_1082 k_1080 (by decide) cX4 rfl ⟨by decide, by decide⟩ rfl hl rfl (Nat.le_of_ble_eq_true rfl) ⟨Nat.le_of_ble_eq_true rfl, Nat.le_of_ble_eq_true rfl⟩ dX11_about_77) hS (fun H locs br77 hH hS => ?_)
            refine g_if_eq X (nmI_b br77) (tgt := 87) dX11_about_80 (by decide) (fun hc80 => ?_) (fun hc80 => ?_)
            · replace hf := it_t hf hc80
              refine lv_iconst X.1 X.2.1 dX11_about_87 (v := iI 0) rfl ?_
              have hq := Option.some.inj hf; subst hq
              exact gRetXI X hH hS ⟨_, rfl⟩ (res := 0) (nmI_l (by decide)) ⟨Nat.le_of_ble_eq_true rfl, Nat.le_of_ble_eq_true rfl⟩ dX11_about_88
            · replace hf := it_f hf hc80
              refine lv_iconst X.1 X.2.1 dX11_about_83 (v := iI 1) rfl ?_
              refine lv_goto (tgt := 88) X.1 X.2.1 dX11_about_84 (by decide) ?_
              have hq := Option.some.inj hf; subst hq
              exact gRetXI X hH hS ⟨_, rfl⟩ (res := 1) (nmI_l (by decide)) ⟨Nat.le_of_ble_eq_true rfl, Nat.le_of_ble_eq_true rfl⟩ dX11_about_88
          replace hf := it_f hf hs1
          by_cases hs2 : v2 = 2
          · replace hf := it_t hf hs2
            refine lv_tableIn (tgt := 89) X.1 X.2.1 dX11_about_24 (by rw [iI_T nv2]; omega) (by rw [iI_T nv2]; omega) (by rw [iI_T nv2, hs2]; rfl) (by decide) ?_
            refine lv_aload_n X.1 X.2.1 dX11_about_89 rfl (lv_at hl.1 0 rfl) ?_
            refine gGoZ (gRunV X hH (As := []) (m_X8_isInQuarantine l G ((f_X5_targetAt v1 M0)) hr19 M0 _ rfl) calX8_isInQuarantine k_1022 k_1023 k_1110 hr19 cX8 rfl ⟨by decide, by decide⟩ rfl hl rfl (Nat.le_of_ble_eq_true rfl) ⟨Nat.le_of_ble_eq_true rfl, Nat.le_of_ble_eq_true rfl⟩ dX11_about_90) hS (fun H locs br90 hH hS => ?_)
            refine g_if_eq X (nmI_b br90) (tgt := 100) dX11_about_93 (by decide) (fun hc93 => ?_) (fun hc93 => ?_)
            · replace hf := it_t hf hc93
              refine lv_iconst X.1 X.2.1 dX11_about_100 (v := iI 0) rfl ?_
              have hq := Option.some.inj hf; subst hq
              exact gRetXI X hH hS ⟨_, rfl⟩ (res := 0) (nmI_l (by decide)) ⟨Nat.le_of_ble_eq_true rfl, Nat.le_of_ble_eq_true rfl⟩ dX11_about_101
            · replace hf := it_f hf hc93
              refine lv_iconst X.1 X.2.1 dX11_about_96 (v := iI 1) rfl ?_
              refine lv_goto (tgt := 101) X.1 X.2.1 dX11_about_97 (by decide) ?_
              have hq := Option.some.inj hf; subst hq
              exact gRetXI X hH hS ⟨_, rfl⟩ (res := 1) (nmI_l (by decide)) ⟨Nat.le_of_ble_eq_true rfl, Nat.le_of_ble_eq_true rfl⟩ dX11_about_101
          replace hf := it_f hf hs2
          by_cases hs3 : v2 = 3
          · replace hf := it_t hf hs3
            refine lv_tableIn (tgt := 102) X.1 X.2.1 dX11_about_24 (by rw [iI_T nv2]; omega) (by rw [iI_T nv2]; omega) (by rw [iI_T nv2, hs3]; rfl) (by decide) ?_
            refine lv_aload_n X.1 X.2.1 dX11_about_102 rfl (lv_at hl.1 1 rfl) ?_
            refine g_get X cX11 hH (r := 0) (i := 0) (by decide) rfl 4 (by decide) k_482 rfl (v := .ref (gAd G 5 0)) rfl dX11_about_103 ?_
            refine lv_aload_n X.1 X.2.1 dX11_about_106 rfl (lv_at hl.1 1 rfl) ?_
            refine g_get X cX11 hH (r := 0) (i := 0) (by decide) rfl 0 (by decide) k_478 rfl (v := .ref (gAd G 1 0)) rfl dX11_about_107 ?_
            have nd110 : nmI (M0 1 0 5) := hH.1.1 _ _ _
            refine g_get X cX7 hH (r := 1) (i := 0) (by decide) rfl 5 (by decide) k_110 rfl (v := .int (iI (M0 1 0 5))) rfl dX11_about_110 ?_
            obtain ⟨r113, hq113, hf_⟩ := ob_e hf; clear hf; have hf := hf_; clear hf_
            refine gGoI (gRunV X hH (As := [.int (iI (M0 1 0 5))]) (m_X4_goodTargets l G (M0 1 0 5) nd110 M0 _ hq113) calX4_goodTargets k_1112 k_1113 k_1111 (by decide) cX4 rfl ⟨by decide, by decide⟩ rfl hl rfl (Nat.le_of_ble_eq_true rfl) ⟨Nat.le_of_ble_eq_true rfl, Nat.le_of_ble_eq_true rfl⟩ dX11_about_113) hS (fun H locs nr113 hH hS => ?_)
            refine lv_iload_n X.1 X.2.1 dX11_about_116 rfl (lv_at hl.1 2 rfl) ?_
            refine gGoI (gRunS X hH (As := [.int (iI r113.1), .int (iI v1)]) (m_X11_bitOf l G r113.1 nr113 v1 nv1 r113.2 _ rfl) calX11_bitOf k_826 k_1079 ⟨by decide, by decide⟩ rfl hl rfl (Nat.le_of_ble_eq_true rfl) ⟨Nat.le_of_ble_eq_true rfl, Nat.le_of_ble_eq_true rfl⟩ dX11_about_117) hS (fun H locs nr117 hH hS => ?_)
            have hq := Option.some.inj hf; subst hq
            exact gRetXI X hH hS ⟨_, rfl⟩ (res := (f_X11_bitOf r113.1 v1 r113.2)) nr117 ⟨Nat.le_of_ble_eq_true rfl, Nat.le_of_ble_eq_true rfl⟩ dX11_about_120
          replace hf := it_f hf hs3
          by_cases hs4 : v2 = 4
          · replace hf := it_t hf hs4
            refine lv_tableIn (tgt := 121) X.1 X.2.1 dX11_about_24 (by rw [iI_T nv2]; omega) (by rw [iI_T nv2]; omega) (by rw [iI_T nv2, hs4]; rfl) (by decide) ?_
            refine lv_aload_n X.1 X.2.1 dX11_about_121 rfl (lv_at hl.1 1 rfl) ?_
            refine g_get X cX11 hH (r := 0) (i := 0) (by decide) rfl 4 (by decide) k_482 rfl (v := .ref (gAd G 5 0)) rfl dX11_about_122 ?_
            refine lv_aload_n X.1 X.2.1 dX11_about_125 rfl (lv_at hl.1 0 rfl) ?_
            obtain ⟨r126, hq126, hf_⟩ := ob_e hf; clear hf; have hf := hf_; clear hf_
            refine gGoI (gRunV X hH (As := [.ref (gAd G 7 ((f_X5_targetAt v1 M0)))]) (m_X4_digestOf l G ((f_X5_targetAt v1 M0)) hr19 M0 _ hq126) calX4_digestOf k_1116 k_1117 k_1115 (by decide) cX4 rfl ⟨by decide, by decide⟩ rfl hl rfl (Nat.le_of_ble_eq_true rfl) ⟨Nat.le_of_ble_eq_true rfl, Nat.le_of_ble_eq_true rfl⟩ dX11_about_126) hS (fun H locs nr126 hH hS => ?_)
            have hq := Option.some.inj hf; subst hq
            exact gRetXI X hH hS ⟨_, rfl⟩ (res := r126.1) nr126 ⟨Nat.le_of_ble_eq_true rfl, Nat.le_of_ble_eq_true rfl⟩ dX11_about_129
          replace hf := it_f hf hs4
          refine lv_tableOut (tgt := 130) X.1 X.2.1 dX11_about_24 (by rw [iI_T nv2]; omega) (by decide) ?_
          refine lv_aload_n X.1 X.2.1 dX11_about_130 rfl (lv_at hl.1 1 rfl) ?_
          refine g_get X cX11 hH (r := 0) (i := 0) (by decide) rfl 3 (by decide) k_481 rfl (v := .ref (gAd G 4 0)) rfl dX11_about_131 ?_
          refine lv_aload_n X.1 X.2.1 dX11_about_134 rfl (lv_at hl.1 0 rfl) ?_
          obtain ⟨r135, hq135, hf_⟩ := ob_e hf; clear hf; have hf := hf_; clear hf_
          refine gGoI (gRunV X hH (As := [.ref (gAd G 7 ((f_X5_targetAt v1 M0)))]) (m_X2_wayOf l G ((f_X5_targetAt v1 M0)) hr19 M0 _ hq135) calX2_wayOf k_1121 k_1122 k_1120 (by decide) cX2 rfl ⟨by decide, by decide⟩ rfl hl rfl (Nat.le_of_ble_eq_true rfl) ⟨Nat.le_of_ble_eq_true rfl, Nat.le_of_ble_eq_true rfl⟩ dX11_about_135) hS (fun H locs nr135 hH hS => ?_)
          have hq := Option.some.inj hf; subst hq
          exact gRetXI X hH hS ⟨_, rfl⟩ (res := r135.1) nr135 ⟨Nat.le_of_ble_eq_true rfl, Nat.le_of_ble_eq_true rfl⟩ dX11_about_138
theorem m_X11_proof (l : Launch) (hl0 : l.stackTraces = false) (G : gG) (v1 : Int) (nv1 : nmI v1) (M0 : gM) (q : (Nat ⊕ (Int × gM))) (hf : f_X11_proof v1 M0 = some q) : gXMet l yX11_proof cX11_proof 2 (some .int) 7 111 2 12 G M0 [.ref (gAd G 0 0), .int (iI v1)] (gXi G (∃ z, q = Sum.inr z) (gvP q).1 (gvP q).2) (fun e9 => q = Sum.inl e9) := by
  refine gOfX (by decide) (by show _ ≤ 2; exact Nat.le_of_ble_eq_true rfl) rfl ?_
  intro p e s m below meth c X Z hnt hH ls hl
  replace hl : gLv ls 2 [(0, .ref (gAd G 0 0)), (1, .int (iI v1))] := hl
  have hS : va_S (gA G) s.heap s.heap [] := va_S.rf
  generalize hargs : ([.ref (gAd G 0 0), .int (iI v1)] : List Value).toArray = args at X ⊢
  clear hargs
  unfold f_X11_proof at hf
  refine lv_aload_n X.1 X.2.1 dX11_proof_0 rfl (lv_at hl.1 0 rfl) ?_
  refine lv_iload_n X.1 X.2.1 dX11_proof_1 rfl (lv_at hl.1 1 rfl) ?_
  obtain ⟨r2, hq2, hf_⟩ := ob_e hf; clear hf; have hf := hf_; clear hf_
  rcases r2 with e8 | v2_
  · have hq := Option.some.inj hf; subst hq
    refine gGoXV (gRunVX X Z hH hS (As := [.int (iI v1)]) (m_X11_checkTarget l hl0 G v1 nv1 M0 _ hq2) calX11_checkTarget k_677 k_4 k_675 (by decide) cX11 rfl ⟨by decide, by decide⟩ rfl hl rfl (Nat.le_of_ble_eq_true rfl) ⟨Nat.le_of_ble_eq_true rfl, Nat.le_of_ble_eq_true rfl⟩ dX11_proof_2) hS (fun E ce q9 H locs hE hH hS h1 h2 h3 => ?_) (fun H locs hok hH hS => ?_)
    · exact gOutX X hnt (by obtain ⟨e7, h7, h8⟩ := hE; exact ⟨e7, congrArg _ (Sum.inl.inj h7), h8⟩) hH hS h1 h2 h3 ⟨Nat.le_of_ble_eq_true rfl, Nat.le_of_ble_eq_true rfl⟩
    · obtain ⟨z, hz⟩ := hok; cases hz
  · replace hf := ox_i hf
    refine gGoXV (gRunVX X Z hH hS (As := [.int (iI v1)]) (m_X11_checkTarget l hl0 G v1 nv1 M0 _ hq2) calX11_checkTarget k_677 k_4 k_675 (by decide) cX11 rfl ⟨by decide, by decide⟩ rfl hl rfl (Nat.le_of_ble_eq_true rfl) ⟨Nat.le_of_ble_eq_true rfl, Nat.le_of_ble_eq_true rfl⟩ dX11_proof_2) hS (fun E ce q9 H locs hE hH hS h1 h2 h3 => ?_) (fun H locs _ hH hS => ?_)
    · obtain ⟨e7, h7, h8⟩ := hE; cases h7
    · refine lv_aload_n X.1 X.2.1 dX11_proof_5 rfl (lv_at hl.1 0 rfl) ?_
      refine g_get X cX11 hH (r := 0) (i := 0) (by decide) rfl 1 (by decide) k_479 rfl (v := .ref (gAd G 2 0)) rfl dX11_proof_6 ?_
      refine lv_aload_n X.1 X.2.1 dX11_proof_9 rfl (lv_at hl.1 0 rfl) ?_
      refine g_get X cX11 hH (r := 0) (i := 0) (by decide) rfl 1 (by decide) k_479 rfl (v := .ref (gAd G 2 0)) rfl dX11_proof_10 ?_
      refine lv_iconst X.1 X.2.1 dX11_proof_13 (v := iI 1) rfl ?_
      refine lv_iload_n X.1 X.2.1 dX11_proof_14 rfl (lv_at hl.1 1 rfl) ?_
      refine g_ishl X dX11_proof_15 ?_
      obtain ⟨r16, hq16, hf_⟩ := ob_e hf; clear hf; have hf := hf_; clear hf_
      refine gGoI (gRunV X hH (As := [.int (iI (gShl 1 v1))]) (m_X5_withNeeded l G (gShl 1 v1) (nmI_shl _ _) M0 _ hq16) calX5_withNeeded k_822 k_823 k_1131 (by decide) cX5 rfl ⟨by decide, by decide⟩ rfl hl rfl (Nat.le_of_ble_eq_true rfl) ⟨Nat.le_of_ble_eq_true rfl, Nat.le_of_ble_eq_true rfl⟩ dX11_proof_16) hS (fun H locs nr16 hH hS => ?_)
      obtain ⟨r19, hq19, hf_⟩ := ob_e hf; clear hf; have hf := hf_; clear hf_
      refine gGoZ (gRunV X hH (As := [.int (iI r16)]) (m_X5_isAllDone l G r16 nr16 M0 _ hq19) calX5_isAllDone k_1133 k_1134 k_1132 (by decide) cX5 rfl ⟨by decide, by decide⟩ rfl hl rfl (Nat.le_of_ble_eq_true rfl) ⟨Nat.le_of_ble_eq_true rfl, Nat.le_of_ble_eq_true rfl⟩ dX11_proof_19) hS (fun H locs br19 hH hS => ?_)
      obtain ⟨r22, hq22, hf_⟩ := ob_e hf; clear hf; have hf := hf_; clear hf_
      rcases r22 with e8 | v22_
      · have hq := Option.some.inj hf; subst hq
        refine gGoXV (gRunSX X Z hH hS (As := [.int (iI r19)]) (m_X11_checkState l hl0 G r19 br19 M0 _ hq22) calX11_checkState k_634 k_633 ⟨by decide, by decide⟩ rfl hl rfl (Nat.le_of_ble_eq_true rfl) ⟨Nat.le_of_ble_eq_true rfl, Nat.le_of_ble_eq_true rfl⟩ dX11_proof_22) hS (fun E ce q9 H locs hE hH hS h1 h2 h3 => ?_) (fun H locs hok hH hS => ?_)
        · exact gOutX X hnt (by obtain ⟨e7, h7, h8⟩ := hE; exact ⟨e7, congrArg _ (Sum.inl.inj h7), h8⟩) hH hS h1 h2 h3 ⟨Nat.le_of_ble_eq_true rfl, Nat.le_of_ble_eq_true rfl⟩
        · obtain ⟨z, hz⟩ := hok; cases hz
      · replace hf := ox_i hf
        refine gGoXV (gRunSX X Z hH hS (As := [.int (iI r19)]) (m_X11_checkState l hl0 G r19 br19 M0 _ hq22) calX11_checkState k_634 k_633 ⟨by decide, by decide⟩ rfl hl rfl (Nat.le_of_ble_eq_true rfl) ⟨Nat.le_of_ble_eq_true rfl, Nat.le_of_ble_eq_true rfl⟩ dX11_proof_22) hS (fun E ce q9 H locs hE hH hS h1 h2 h3 => ?_) (fun H locs _ hH hS => ?_)
        · obtain ⟨e7, h7, h8⟩ := hE; cases h7
        · refine lv_aload_n X.1 X.2.1 dX11_proof_25 rfl (lv_at hl.1 0 rfl) ?_
          refine g_get X cX11 hH (r := 0) (i := 0) (by decide) rfl 1 (by decide) k_479 rfl (v := .ref (gAd G 2 0)) rfl dX11_proof_26 ?_
          refine lv_iload_n X.1 X.2.1 dX11_proof_29 rfl (lv_at hl.1 1 rfl) ?_
          obtain ⟨r30, hq30, hf_⟩ := ob_e hf; clear hf; have hf := hf_; clear hf_
          refine gGoI (gRunV X hH (As := [.int (iI v1)]) (m_X5_proofOf l G v1 nv1 M0 _ hq30) calX5_proofOf k_1138 k_1139 k_1137 (by decide) cX5 rfl ⟨by decide, by decide⟩ rfl hl rfl (Nat.le_of_ble_eq_true rfl) ⟨Nat.le_of_ble_eq_true rfl, Nat.le_of_ble_eq_true rfl⟩ dX11_proof_30) hS (fun H locs nr30 hH hS => ?_)
          have hq := Option.some.inj hf; subst hq
          exact gRetXI X hH hS ⟨_, rfl⟩ (res := r30.1) nr30 ⟨Nat.le_of_ble_eq_true rfl, Nat.le_of_ble_eq_true rfl⟩ dX11_proof_33
theorem m_X11_count (l : Launch) (hl0 : l.stackTraces = false) (G : gG) (v1 : Int) (nv1 : nmI v1) (M0 : gM) (q : (Nat ⊕ Int)) (hf : f_X11_count v1 M0 = some q) : gXMet l yX11_count cX11_count 2 (some .int) 7 110 1 6 G M0 [.ref (gAd G 0 0), .int (iI v1)] (gXi G (∃ z, q = Sum.inr z) (gvI q) M0) (fun e9 => q = Sum.inl e9) := by
  refine gOfX (by decide) (by show _ ≤ 2; exact Nat.le_of_ble_eq_true rfl) rfl ?_
  intro p e s m below meth c X Z hnt hH ls hl
  replace hl : gLv ls 2 [(0, .ref (gAd G 0 0)), (1, .int (iI v1))] := hl
  have hS : va_S (gA G) s.heap s.heap [] := va_S.rf
  generalize hargs : ([.ref (gAd G 0 0), .int (iI v1)] : List Value).toArray = args at X ⊢
  clear hargs
  unfold f_X11_count at hf
  refine lv_iload_n X.1 X.2.1 dX11_count_0 rfl (lv_at hl.1 1 rfl) ?_
  refine lv_iconst X.1 X.2.1 dX11_count_1 (v := iI 5) rfl ?_
  refine gGoZ (gRunS X hH (As := [.int (iI v1), .int (iI 5)]) (m_X11_isBelow l G v1 nv1 5 (nmI_l (by decide)) M0 _ rfl) calX11_isBelow k_529 k_528 ⟨by decide, by decide⟩ rfl hl rfl (Nat.le_of_ble_eq_true rfl) ⟨Nat.le_of_ble_eq_true rfl, Nat.le_of_ble_eq_true rfl⟩ dX11_count_2) hS (fun H locs br2 hH hS => ?_)
  obtain ⟨r5, hq5, hf_⟩ := ob_e hf; clear hf; have hf := hf_; clear hf_
  rcases r5 with e8 | v5_
  · have hq := Option.some.inj hf; subst hq
    refine gGoXV (gRunSX X Z hH hS (As := [.int (iI ((f_X11_isBelow v1 5 M0)))]) (m_X11_checkArgument l hl0 G ((f_X11_isBelow v1 5 M0)) br2 M0 _ hq5) calX11_checkArgument k_532 k_531 ⟨by decide, by decide⟩ rfl hl rfl (Nat.le_of_ble_eq_true rfl) ⟨Nat.le_of_ble_eq_true rfl, Nat.le_of_ble_eq_true rfl⟩ dX11_count_5) hS (fun E ce q9 H locs hE hH hS h1 h2 h3 => ?_) (fun H locs hok hH hS => ?_)
    · exact gOutX X hnt (by obtain ⟨e7, h7, h8⟩ := hE; exact ⟨e7, congrArg _ (Sum.inl.inj h7), h8⟩) hH hS h1 h2 h3 ⟨Nat.le_of_ble_eq_true rfl, Nat.le_of_ble_eq_true rfl⟩
    · obtain ⟨z, hz⟩ := hok; cases hz
  · replace hf := ox_i hf
    refine gGoXV (gRunSX X Z hH hS (As := [.int (iI ((f_X11_isBelow v1 5 M0)))]) (m_X11_checkArgument l hl0 G ((f_X11_isBelow v1 5 M0)) br2 M0 _ hq5) calX11_checkArgument k_532 k_531 ⟨by decide, by decide⟩ rfl hl rfl (Nat.le_of_ble_eq_true rfl) ⟨Nat.le_of_ble_eq_true rfl, Nat.le_of_ble_eq_true rfl⟩ dX11_count_5) hS (fun E ce q9 H locs hE hH hS h1 h2 h3 => ?_) (fun H locs _ hH hS => ?_)
    · obtain ⟨e7, h7, h8⟩ := hE; cases h7
    · refine lv_aload_n X.1 X.2.1 dX11_count_8 rfl (lv_at hl.1 0 rfl) ?_
      refine g_get X cX11 hH (r := 0) (i := 0) (by decide) rfl 3 (by decide) k_481 rfl (v := .ref (gAd G 4 0)) rfl dX11_count_9 ?_
      refine g_get X cX2 hH (r := 4) (i := 0) (by decide) rfl 5 (by decide) k_425 rfl (v := .ref (gAd G 24 0)) rfl dX11_count_12 ?_
      refine lv_iload_n X.1 X.2.1 dX11_count_15 rfl (lv_at hl.1 1 rfl) ?_
      refine gGoI (gRunS X hH (As := [.ref (gAd G 24 0), .int (iI v1)]) (m_X11_at l G 24 0 5 (by decide) gArr_24 v1 nv1 M0 _ rfl) calX11_at k_610 k_609 ⟨by decide, by decide⟩ rfl hl rfl (Nat.le_of_ble_eq_true rfl) ⟨Nat.le_of_ble_eq_true rfl, Nat.le_of_ble_eq_true rfl⟩ dX11_count_16) hS (fun H locs nr16 hH hS => ?_)
      have hq := Option.some.inj hf; subst hq
      exact gRetXI X hH hS ⟨_, rfl⟩ (res := (f_X11_at 24 0 5 v1 M0)) nr16 ⟨Nat.le_of_ble_eq_true rfl, Nat.le_of_ble_eq_true rfl⟩ dX11_count_19
theorem m_X11_needed (l : Launch) (hl0 : l.stackTraces = false) (G : gG) (v1 : Int) (nv1 : nmI v1) (M0 : gM) (q : (Nat ⊕ Int)) (hf : f_X11_needed v1 M0 = some q) : gXMet l yX11_needed cX11_needed 2 (some .int) 7 111 1 6 G M0 [.ref (gAd G 0 0), .int (iI v1)] (gXi G (∃ z, q = Sum.inr z) (gvI q) M0) (fun e9 => q = Sum.inl e9) := by
  refine gOfX (by decide) (by show _ ≤ 2; exact Nat.le_of_ble_eq_true rfl) rfl ?_
  intro p e s m below meth c X Z hnt hH ls hl
  replace hl : gLv ls 2 [(0, .ref (gAd G 0 0)), (1, .int (iI v1))] := hl
  have hS : va_S (gA G) s.heap s.heap [] := va_S.rf
  generalize hargs : ([.ref (gAd G 0 0), .int (iI v1)] : List Value).toArray = args at X ⊢
  clear hargs
  unfold f_X11_needed at hf
  refine lv_aload_n X.1 X.2.1 dX11_needed_0 rfl (lv_at hl.1 0 rfl) ?_
  refine lv_iload_n X.1 X.2.1 dX11_needed_1 rfl (lv_at hl.1 1 rfl) ?_
  obtain ⟨r2, hq2, hf_⟩ := ob_e hf; clear hf; have hf := hf_; clear hf_
  rcases r2 with e8 | v2_
  · have hq := Option.some.inj hf; subst hq
    refine gGoXV (gRunVX X Z hH hS (As := [.int (iI v1)]) (m_X11_checkTarget l hl0 G v1 nv1 M0 _ hq2) calX11_checkTarget k_677 k_4 k_675 (by decide) cX11 rfl ⟨by decide, by decide⟩ rfl hl rfl (Nat.le_of_ble_eq_true rfl) ⟨Nat.le_of_ble_eq_true rfl, Nat.le_of_ble_eq_true rfl⟩ dX11_needed_2) hS (fun E ce q9 H locs hE hH hS h1 h2 h3 => ?_) (fun H locs hok hH hS => ?_)
    · exact gOutX X hnt (by obtain ⟨e7, h7, h8⟩ := hE; exact ⟨e7, congrArg _ (Sum.inl.inj h7), h8⟩) hH hS h1 h2 h3 ⟨Nat.le_of_ble_eq_true rfl, Nat.le_of_ble_eq_true rfl⟩
    · obtain ⟨z, hz⟩ := hok; cases hz
  · replace hf := ox_i hf
    refine gGoXV (gRunVX X Z hH hS (As := [.int (iI v1)]) (m_X11_checkTarget l hl0 G v1 nv1 M0 _ hq2) calX11_checkTarget k_677 k_4 k_675 (by decide) cX11 rfl ⟨by decide, by decide⟩ rfl hl rfl (Nat.le_of_ble_eq_true rfl) ⟨Nat.le_of_ble_eq_true rfl, Nat.le_of_ble_eq_true rfl⟩ dX11_needed_2) hS (fun E ce q9 H locs hE hH hS h1 h2 h3 => ?_) (fun H locs _ hH hS => ?_)
    · obtain ⟨e7, h7, h8⟩ := hE; cases h7
    · refine lv_aload_n X.1 X.2.1 dX11_needed_5 rfl (lv_at hl.1 0 rfl) ?_
      refine g_get X cX11 hH (r := 0) (i := 0) (by decide) rfl 1 (by decide) k_479 rfl (v := .ref (gAd G 2 0)) rfl dX11_needed_6 ?_
      refine lv_iconst X.1 X.2.1 dX11_needed_9 (v := iI 1) rfl ?_
      refine lv_iload_n X.1 X.2.1 dX11_needed_10 rfl (lv_at hl.1 1 rfl) ?_
      refine g_ishl X dX11_needed_11 ?_
      obtain ⟨r12, hq12, hf_⟩ := ob_e hf; clear hf; have hf := hf_; clear hf_
      refine gGoI (gRunV X hH (As := [.int (iI (gShl 1 v1))]) (m_X5_withNeeded l G (gShl 1 v1) (nmI_shl _ _) M0 _ hq12) calX5_withNeeded k_822 k_823 k_1131 (by decide) cX5 rfl ⟨by decide, by decide⟩ rfl hl rfl (Nat.le_of_ble_eq_true rfl) ⟨Nat.le_of_ble_eq_true rfl, Nat.le_of_ble_eq_true rfl⟩ dX11_needed_12) hS (fun H locs nr12 hH hS => ?_)
      have hq := Option.some.inj hf; subst hq
      exact gRetXI X hH hS ⟨_, rfl⟩ (res := r12) nr12 ⟨Nat.le_of_ble_eq_true rfl, Nat.le_of_ble_eq_true rfl⟩ dX11_needed_15
theorem m_X11_needing (l : Launch) (hl0 : l.stackTraces = false) (G : gG) (v1 : Int) (nv1 : nmI v1) (M0 : gM) (q : (Nat ⊕ Int)) (hf : f_X11_needing v1 M0 = some q) : gXMet l yX11_needing cX11_needing 2 (some .int) 8 132 2 12 G M0 [.ref (gAd G 0 0), .int (iI v1)] (gXi G (∃ z, q = Sum.inr z) (gvI q) M0) (fun e9 => q = Sum.inl e9) := by
  refine gOfX (by decide) (by show _ ≤ 2; exact Nat.le_of_ble_eq_true rfl) rfl ?_
  intro p e s m below meth c X Z hnt hH ls hl
  replace hl : gLv ls 2 [(0, .ref (gAd G 0 0)), (1, .int (iI v1))] := hl
  have hS : va_S (gA G) s.heap s.heap [] := va_S.rf
  generalize hargs : ([.ref (gAd G 0 0), .int (iI v1)] : List Value).toArray = args at X ⊢
  clear hargs
  unfold f_X11_needing at hf
  refine lv_iload_n X.1 X.2.1 dX11_needing_0 rfl (lv_at hl.1 1 rfl) ?_
  obtain ⟨k9, ek9, hf_⟩ := oj_e hf; clear hf; have hf := hf_; clear hf_
  have hk9 : ∀ (xs0_9 : Int) (bxs0_9 : xs0_9 = 0 ∨ xs0_9 = 1), k9 xs0_9 = some q → ∀ (H : Heap) (locs : List Loc) (ls : Array Slot), gH G M0 H → va_S (gA G) s.heap H locs → gLv ls 2 [(0, .ref (gAd G 0 0)), (1, .int (iI v1))] → W p l e { frames := 8, cells := 2, slots := 12, locals := 132 } s m args below meth c H locs 0 0 (vx_MQ below (gXi G (∃ z, q = Sum.inr z) (gvI q) M0) (gXC G (fun e9 => q = Sum.inl e9) M0) args s 2 12 (gA G)) (F0 m 9 ls [.int (iI xs0_9)]) := by
    intro xs0_9 bxs0_9 hf H locs ls hH hS hl
    subst ek9
    obtain ⟨r9, hq9, hf_⟩ := ob_e hf; clear hf; have hf := hf_; clear hf_
    rcases r9 with e8 | v9_
    · have hq := Option.some.inj hf; subst hq
      refine gGoXV (gRunSX X Z hH hS (As := [.int (iI xs0_9)]) (m_X11_checkArgument l hl0 G xs0_9 bxs0_9 M0 _ hq9) calX11_checkArgument k_532 k_531 ⟨by decide, by decide⟩ rfl hl rfl (Nat.le_of_ble_eq_true rfl) ⟨Nat.le_of_ble_eq_true rfl, Nat.le_of_ble_eq_true rfl⟩ dX11_needing_9) hS (fun E ce q9 H locs hE hH hS h1 h2 h3 => ?_) (fun H locs hok hH hS => ?_)
      · exact gOutX X hnt (by obtain ⟨e7, h7, h8⟩ := hE; exact ⟨e7, congrArg _ (Sum.inl.inj h7), h8⟩) hH hS h1 h2 h3 ⟨Nat.le_of_ble_eq_true rfl, Nat.le_of_ble_eq_true rfl⟩
      · obtain ⟨z, hz⟩ := hok; cases hz
    · replace hf := ox_i hf
      refine gGoXV (gRunSX X Z hH hS (As := [.int (iI xs0_9)]) (m_X11_checkArgument l hl0 G xs0_9 bxs0_9 M0 _ hq9) calX11_checkArgument k_532 k_531 ⟨by decide, by decide⟩ rfl hl rfl (Nat.le_of_ble_eq_true rfl) ⟨Nat.le_of_ble_eq_true rfl, Nat.le_of_ble_eq_true rfl⟩ dX11_needing_9) hS (fun E ce q9 H locs hE hH hS h1 h2 h3 => ?_) (fun H locs _ hH hS => ?_)
      · obtain ⟨e7, h7, h8⟩ := hE; cases h7
      · refine lv_aload_n X.1 X.2.1 dX11_needing_12 rfl (lv_at hl.1 0 rfl) ?_
        refine lv_iload_n X.1 X.2.1 dX11_needing_13 rfl (lv_at hl.1 1 rfl) ?_
        obtain ⟨r14, hq14, hf_⟩ := ob_e hf; clear hf; have hf := hf_; clear hf_
        rcases r14 with e8 | v14_
        · have hq := Option.some.inj hf; subst hq
          refine gGoXV (gRunVX X Z hH hS (As := [.int (iI v1)]) (m_X11_checkThing l hl0 G v1 nv1 M0 _ hq14) calX11_checkThing k_670 k_3 k_668 (by decide) cX11 rfl ⟨by decide, by decide⟩ rfl hl rfl (Nat.le_of_ble_eq_true rfl) ⟨Nat.le_of_ble_eq_true rfl, Nat.le_of_ble_eq_true rfl⟩ dX11_needing_14) hS (fun E ce q9 H locs hE hH hS h1 h2 h3 => ?_) (fun H locs hok hH hS => ?_)
          · exact gOutX X hnt (by obtain ⟨e7, h7, h8⟩ := hE; exact ⟨e7, congrArg _ (Sum.inl.inj h7), h8⟩) hH hS h1 h2 h3 ⟨Nat.le_of_ble_eq_true rfl, Nat.le_of_ble_eq_true rfl⟩
          · obtain ⟨z, hz⟩ := hok; cases hz
        · replace hf := ox_i hf
          refine gGoXV (gRunVX X Z hH hS (As := [.int (iI v1)]) (m_X11_checkThing l hl0 G v1 nv1 M0 _ hq14) calX11_checkThing k_670 k_3 k_668 (by decide) cX11 rfl ⟨by decide, by decide⟩ rfl hl rfl (Nat.le_of_ble_eq_true rfl) ⟨Nat.le_of_ble_eq_true rfl, Nat.le_of_ble_eq_true rfl⟩ dX11_needing_14) hS (fun E ce q9 H locs hE hH hS h1 h2 h3 => ?_) (fun H locs _ hH hS => ?_)
          · obtain ⟨e7, h7, h8⟩ := hE; cases h7
          · refine lv_aload_n X.1 X.2.1 dX11_needing_17 rfl (lv_at hl.1 0 rfl) ?_
            refine g_get X cX11 hH (r := 0) (i := 0) (by decide) rfl 1 (by decide) k_479 rfl (v := .ref (gAd G 2 0)) rfl dX11_needing_18 ?_
            refine lv_iload_n X.1 X.2.1 dX11_needing_21 rfl (lv_at hl.1 1 rfl) ?_
            obtain ⟨r22, hq22, hf_⟩ := ob_e hf; clear hf; have hf := hf_; clear hf_
            refine gGoI (gRunV X hH (As := [.int (iI v1)]) (m_X5_targetsOver l G v1 nv1 M0 _ hq22) calX5_targetsOver k_1171 k_1172 k_1170 (by decide) cX5 rfl ⟨by decide, by decide⟩ rfl hl rfl (Nat.le_of_ble_eq_true rfl) ⟨Nat.le_of_ble_eq_true rfl, Nat.le_of_ble_eq_true rfl⟩ dX11_needing_22) hS (fun H locs nr22 hH hS => ?_)
            have hq := Option.some.inj hf; subst hq
            exact gRetXI X hH hS ⟨_, rfl⟩ (res := r22) nr22 ⟨Nat.le_of_ble_eq_true rfl, Nat.le_of_ble_eq_true rfl⟩ dX11_needing_25
  clear ek9
  refine g_if_lt X nv1 (tgt := 8) dX11_needing_1 (by decide) (fun hc1 => ?_) (fun hc1 => ?_)
  · replace hf := it_t hf hc1
    refine lv_iconst X.1 X.2.1 dX11_needing_8 (v := iI 0) rfl ?_
    exact hk9 0 (by decide) hf _ _ _ hH hS (gLv_sub hl [0, 1] rfl)
  · replace hf := it_f hf hc1
    refine lv_iconst X.1 X.2.1 dX11_needing_4 (v := iI 1) rfl ?_
    refine lv_goto (tgt := 9) X.1 X.2.1 dX11_needing_5 (by decide) ?_
    exact hk9 1 (by decide) hf _ _ _ hH hS (gLv_sub hl [0, 1] rfl)
theorem m_X11_steps (l : Launch) (hl0 : l.stackTraces = false) (G : gG) (v1 : Int) (nv1 : nmI v1) (v2 : Int) (nv2 : nmI v2) (M0 : gM) (q : (Nat ⊕ (Int × gM))) (hf : f_X11_steps v1 v2 M0 = some q) : gXMet l yX11_steps cX11_steps 3 (some .int) 7 111 2 12 G M0 [.ref (gAd G 0 0), .int (iI v1), .int (iI v2)] (gXi G (∃ z, q = Sum.inr z) (gvP q).1 (gvP q).2) (fun e9 => q = Sum.inl e9) := by
  refine gOfX (by decide) (by show _ ≤ 3; exact Nat.le_of_ble_eq_true rfl) rfl ?_
  intro p e s m below meth c X Z hnt hH ls hl
  replace hl : gLv ls 3 [(0, .ref (gAd G 0 0)), (1, .int (iI v1)), (2, .int (iI v2))] := hl
  have hS : va_S (gA G) s.heap s.heap [] := va_S.rf
  generalize hargs : ([.ref (gAd G 0 0), .int (iI v1), .int (iI v2)] : List Value).toArray = args at X ⊢
  clear hargs
  unfold f_X11_steps at hf
  refine lv_aload_n X.1 X.2.1 dX11_steps_0 rfl (lv_at hl.1 0 rfl) ?_
  refine lv_iload_n X.1 X.2.1 dX11_steps_1 rfl (lv_at hl.1 1 rfl) ?_
  obtain ⟨r2, hq2, hf_⟩ := ob_e hf; clear hf; have hf := hf_; clear hf_
  rcases r2 with e8 | v2_
  · have hq := Option.some.inj hf; subst hq
    refine gGoXV (gRunVX X Z hH hS (As := [.int (iI v1)]) (m_X11_checkTarget l hl0 G v1 nv1 M0 _ hq2) calX11_checkTarget k_677 k_4 k_675 (by decide) cX11 rfl ⟨by decide, by decide⟩ rfl hl rfl (Nat.le_of_ble_eq_true rfl) ⟨Nat.le_of_ble_eq_true rfl, Nat.le_of_ble_eq_true rfl⟩ dX11_steps_2) hS (fun E ce q9 H locs hE hH hS h1 h2 h3 => ?_) (fun H locs hok hH hS => ?_)
    · exact gOutX X hnt (by obtain ⟨e7, h7, h8⟩ := hE; exact ⟨e7, congrArg _ (Sum.inl.inj h7), h8⟩) hH hS h1 h2 h3 ⟨Nat.le_of_ble_eq_true rfl, Nat.le_of_ble_eq_true rfl⟩
    · obtain ⟨z, hz⟩ := hok; cases hz
  · replace hf := ox_i hf
    refine gGoXV (gRunVX X Z hH hS (As := [.int (iI v1)]) (m_X11_checkTarget l hl0 G v1 nv1 M0 _ hq2) calX11_checkTarget k_677 k_4 k_675 (by decide) cX11 rfl ⟨by decide, by decide⟩ rfl hl rfl (Nat.le_of_ble_eq_true rfl) ⟨Nat.le_of_ble_eq_true rfl, Nat.le_of_ble_eq_true rfl⟩ dX11_steps_2) hS (fun E ce q9 H locs hE hH hS h1 h2 h3 => ?_) (fun H locs _ hH hS => ?_)
    · obtain ⟨e7, h7, h8⟩ := hE; cases h7
    · refine lv_aload_n X.1 X.2.1 dX11_steps_5 rfl (lv_at hl.1 0 rfl) ?_
      refine lv_iload_n X.1 X.2.1 dX11_steps_6 rfl (lv_at hl.1 2 rfl) ?_
      obtain ⟨r7, hq7, hf_⟩ := ob_e hf; clear hf; have hf := hf_; clear hf_
      rcases r7 with e8 | v7_
      · have hq := Option.some.inj hf; subst hq
        refine gGoXV (gRunVX X Z hH hS (As := [.int (iI v2)]) (m_X11_checkTarget l hl0 G v2 nv2 M0 _ hq7) calX11_checkTarget k_677 k_4 k_675 (by decide) cX11 rfl ⟨by decide, by decide⟩ rfl hl rfl (Nat.le_of_ble_eq_true rfl) ⟨Nat.le_of_ble_eq_true rfl, Nat.le_of_ble_eq_true rfl⟩ dX11_steps_7) hS (fun E ce q9 H locs hE hH hS h1 h2 h3 => ?_) (fun H locs hok hH hS => ?_)
        · exact gOutX X hnt (by obtain ⟨e7, h7, h8⟩ := hE; exact ⟨e7, congrArg _ (Sum.inl.inj h7), h8⟩) hH hS h1 h2 h3 ⟨Nat.le_of_ble_eq_true rfl, Nat.le_of_ble_eq_true rfl⟩
        · obtain ⟨z, hz⟩ := hok; cases hz
      · replace hf := ox_i hf
        refine gGoXV (gRunVX X Z hH hS (As := [.int (iI v2)]) (m_X11_checkTarget l hl0 G v2 nv2 M0 _ hq7) calX11_checkTarget k_677 k_4 k_675 (by decide) cX11 rfl ⟨by decide, by decide⟩ rfl hl rfl (Nat.le_of_ble_eq_true rfl) ⟨Nat.le_of_ble_eq_true rfl, Nat.le_of_ble_eq_true rfl⟩ dX11_steps_7) hS (fun E ce q9 H locs hE hH hS h1 h2 h3 => ?_) (fun H locs _ hH hS => ?_)
        · obtain ⟨e7, h7, h8⟩ := hE; cases h7
        · refine lv_aload_n X.1 X.2.1 dX11_steps_10 rfl (lv_at hl.1 0 rfl) ?_
          refine g_get X cX11 hH (r := 0) (i := 0) (by decide) rfl 1 (by decide) k_479 rfl (v := .ref (gAd G 2 0)) rfl dX11_steps_11 ?_
          refine lv_iload_n X.1 X.2.1 dX11_steps_14 rfl (lv_at hl.1 1 rfl) ?_
          refine lv_iload_n X.1 X.2.1 dX11_steps_15 rfl (lv_at hl.1 2 rfl) ?_
          obtain ⟨r16, hq16, hf_⟩ := ob_e hf; clear hf; have hf := hf_; clear hf_
          refine gGoI (gRunV X hH (As := [.int (iI v1), .int (iI v2)]) (m_X5_distance l G v1 nv1 v2 nv2 M0 _ hq16) calX5_distance k_1186 k_1187 k_1185 (by decide) cX5 rfl ⟨by decide, by decide⟩ rfl hl rfl (Nat.le_of_ble_eq_true rfl) ⟨Nat.le_of_ble_eq_true rfl, Nat.le_of_ble_eq_true rfl⟩ dX11_steps_16) hS (fun H locs nr16 hH hS => ?_)
          have hq := Option.some.inj hf; subst hq
          exact gRetXI X hH hS ⟨_, rfl⟩ (res := r16.1) nr16 ⟨Nat.le_of_ble_eq_true rfl, Nat.le_of_ble_eq_true rfl⟩ dX11_steps_19
theorem w_X11_bisect_L43 {G : gG} {p : Program} {l : Launch} {e : Env} {s : State} {m : MethodId} {args : Array Value} {below : List Frame} {meth : Method} {c : Code} (X : gX G p s m args meth c RX11 cX11_bisect 6 (some .int) (gWs yX11_bisect cX11_bisect 6 (some .int))) (hl0 : l.stackTraces = false) (Z : gS G s) (hnt : ∀ x ∈ c.exceptionTable.toList, False) (M0 : gM) (k99 : Int → gM → Option (Nat ⊕ (Int × gM))) (z1 : Int) (nz1 : nmI z1) (q : (Nat ⊕ (Int × gM))) (hk99 : ∀ (x3 : Int) (nx3 : nmI x3) (M : gM), k99 x3 M = some q → ∀ (H : Heap) (locs : List Loc) (ls : Array Slot), gH G M H → va_S (gA G) s.heap H locs → gLv ls 6 [(3, .int (iI x3))] → W p l e { frames := 7, cells := 1, slots := 6, locals := 160 } s m args below meth c H locs 1 6 (vx_MQ below (gXi G (∃ z, q = Sum.inr z) (gvP q).1 (gvP q).2) (gXC G (fun e9 => q = Sum.inl e9) M0) args s 1 6 (gA G)) (F0 m 99 ls [])) : ∀ (n : Nat) (x2 : Int) (nx2 : nmI x2) (x3 : Int) (nx3 : nmI x3) (x4 : Int) (nx4 : nmI x4) (M : gM), f_X11_bisect_L43 k99 z1 n x2 x3 x4 M = some q → ∀ (H : Heap) (locs : List Loc) (ls : Array Slot), gH G M H → va_S (gA G) s.heap H locs → gLv ls 6 [(0, .ref (gAd G 0 0)), (1, .int (iI z1)), (2, .int (iI x2)), (3, .int (iI x3)), (4, .int (iI x4))] → W p l e { frames := 7, cells := 1, slots := 6, locals := 160 } s m args below meth c H locs 1 6 (vx_MQ below (gXi G (∃ z, q = Sum.inr z) (gvP q).1 (gvP q).2) (gXC G (fun e9 => q = Sum.inl e9) M0) args s 1 6 (gA G)) (F0 m 43 ls []) := by
  intro n
  induction n with
  | zero =>
    intro x2 nx2 x3 nx3 x4 nx4 M hf
    cases hf
  | succ n ih =>
    intro x2 nx2 x3 nx3 x4 nx4 M hf H locs ls hH hS hl
    rw [f_X11_bisect_L43] at hf
    refine lv_iload X.1 X.2.1 dX11_bisect_43 (lv_at hl.1 4 rfl) ?_
    refine lv_bipush X.1 X.2.1 dX11_bisect_45 (v := iI 30) (by decide) ?_
    refine g_icmp_ge X nx4 (nmI_l (by decide)) (tgt := 99) dX11_bisect_47 (by decide) (fun hc47 => ?_) (fun hc47 => ?_)
    · replace hf := it_f hf hc47
      exact hk99 x3 nx3 M hf _ _ _ hH hS (gLv_sub hl [3] rfl)
    · replace hf := it_t hf hc47
      refine lv_iload_n X.1 X.2.1 dX11_bisect_50 rfl (lv_at hl.1 3 rfl) ?_
      refine lv_iload_n X.1 X.2.1 dX11_bisect_51 rfl (lv_at hl.1 2 rfl) ?_
      refine g_isub X dX11_bisect_52 ?_
      refine lv_iconst X.1 X.2.1 dX11_bisect_53 (v := iI 1) rfl ?_
      refine g_icmp_le X (nmI_w _) (nmI_l (by decide)) (tgt := 99) dX11_bisect_54 (by decide) (fun hc54 => ?_) (fun hc54 => ?_)
      · replace hf := it_f hf hc54
        exact hk99 x3 nx3 M hf _ _ _ hH hS (gLv_sub hl [3] rfl)
      · replace hf := it_t hf hc54
        refine lv_iload_n X.1 X.2.1 dX11_bisect_57 rfl (lv_at hl.1 2 rfl) ?_
        refine lv_iload_n X.1 X.2.1 dX11_bisect_58 rfl (lv_at hl.1 3 rfl) ?_
        refine g_iadd X dX11_bisect_59 ?_
        refine lv_iconst X.1 X.2.1 dX11_bisect_60 (v := iI 2) rfl ?_
        refine g_idiv X (nmI_w _) (nmI_l (by decide)) (by decide) dX11_bisect_61 ?_
        refine g_istore X (lv' := [(5, .int (iI (wI ((wI (x2 + x3)).tdiv 2)))), (0, .ref (gAd G 0 0)), (1, .int (iI z1)), (2, .int (iI x2)), (3, .int (iI x3)), (4, .int (iI x4))]) dX11_bisect_62 hl (by decide) rfl (fun ls hl => ?_)
        refine lv_aload_n X.1 X.2.1 dX11_bisect_64 rfl (lv_at hl.1 1 rfl) ?_
        refine lv_dup X.1 X.2.1 dX11_bisect_65 rfl ?_
        have nd66 : nmI (M 0 0 6) := hH.1.1 _ _ _
        refine g_get X cX11 hH (r := 0) (i := 0) (by decide) rfl 6 (by decide) k_484 rfl (v := .int (iI (M 0 0 6))) rfl dX11_bisect_66 ?_
        refine lv_iconst X.1 X.2.1 dX11_bisect_69 (v := iI 1) rfl ?_
        refine g_iadd X dX11_bisect_70 ?_
        refine g_putI X cX11 hH hS (r := 0) (i := 0) (by decide) rfl 6 (by decide) k_484 rfl rfl rfl (Nat.le_of_ble_eq_true rfl) (x := wI ((M 0 0 6) + 1)) (nmI_w _) rfl rfl rfl dX11_bisect_71 (fun H locs hH hS => ?_)
        refine lv_aload_n X.1 X.2.1 dX11_bisect_74 rfl (lv_at hl.1 1 rfl) ?_
        refine lv_iload X.1 X.2.1 dX11_bisect_75 (lv_at hl.1 0 rfl) ?_
        refine lv_iload_n X.1 X.2.1 dX11_bisect_77 rfl (lv_at hl.1 2 rfl) ?_
        obtain ⟨r78, hq78, hf_⟩ := ob_e hf; clear hf; have hf := hf_; clear hf_
        refine gGoZ (gRunV X hH (As := [.int (iI (wI ((wI (x2 + x3)).tdiv 2))), .int (iI z1)]) (m_X11_isGoodAfter l G (wI ((wI (x2 + x3)).tdiv 2)) (nmI_w _) z1 nz1 (gU M 0 0 6 (wI ((M 0 0 6) + 1))) _ hq78) calX11_isGoodAfter k_1202 k_29 k_1200 (by decide) cX11 rfl ⟨by decide, by decide⟩ rfl hl rfl (Nat.le_of_ble_eq_true rfl) ⟨Nat.le_of_ble_eq_true rfl, Nat.le_of_ble_eq_true rfl⟩ dX11_bisect_78) hS (fun H locs br78 hH hS => ?_)
        obtain ⟨k93, ek93, hf_⟩ := oj_e hf; clear hf; have hf := hf_; clear hf_
        have hk93 : ∀ (x2_93 : Int) (nx2_93 : nmI x2_93) (x3_93 : Int) (nx3_93 : nmI x3_93), k93 x2_93 x3_93 = some q → ∀ (H : Heap) (locs : List Loc) (ls : Array Slot), gH G r78.2 H → va_S (gA G) s.heap H locs → gLv ls 6 [(0, .ref (gAd G 0 0)), (1, .int (iI z1)), (2, .int (iI x2_93)), (3, .int (iI x3_93)), (4, .int (iI x4))] → W p l e { frames := 7, cells := 1, slots := 6, locals := 160 } s m args below meth c H locs 1 6 (vx_MQ below (gXi G (∃ z, q = Sum.inr z) (gvP q).1 (gvP q).2) (gXC G (fun e9 => q = Sum.inl e9) M0) args s 1 6 (gA G)) (F0 m 93 ls []) := by
          intro x2_93 nx2_93 x3_93 nx3_93 hf H locs ls hH hS hl
          subst ek93
          refine g_iinc X (a := x4) (lv' := [(4, .int (iI (wI (x4 + 1)))), (0, .ref (gAd G 0 0)), (1, .int (iI z1)), (2, .int (iI x2_93)), (3, .int (iI x3_93))]) dX11_bisect_93 hl (k := 4) rfl (by decide) rfl (fun ls hl => ?_)
          refine lv_goto (tgt := 43) X.1 X.2.1 dX11_bisect_96 (by decide) ?_
          exact ih x2_93 nx2_93 x3_93 nx3_93 (wI (x4 + 1)) (nmI_w _) r78.2 hf _ _ _ hH hS (gLv_sub hl [1, 2, 3, 4, 0] rfl)
        clear ek93
        refine g_if_eq X (nmI_b br78) (tgt := 90) dX11_bisect_81 (by decide) (fun hc81 => ?_) (fun hc81 => ?_)
        · replace hf := it_t hf hc81
          refine lv_iload X.1 X.2.1 dX11_bisect_90 (lv_at hl.1 0 rfl) ?_
          refine g_istore_n X (lv' := [(3, .int (iI (wI ((wI (x2 + x3)).tdiv 2)))), (5, .int (iI (wI ((wI (x2 + x3)).tdiv 2)))), (0, .ref (gAd G 0 0)), (1, .int (iI z1)), (2, .int (iI x2)), (4, .int (iI x4))]) dX11_bisect_92 rfl hl (by decide) rfl (fun ls hl => ?_)
          exact hk93 x2 nx2 (wI ((wI (x2 + x3)).tdiv 2)) (nmI_w _) hf _ _ _ hH hS (gLv_sub hl [2, 3, 4, 0, 5] rfl)
        · replace hf := it_f hf hc81
          refine lv_iload X.1 X.2.1 dX11_bisect_84 (lv_at hl.1 0 rfl) ?_
          refine g_istore_n X (lv' := [(2, .int (iI (wI ((wI (x2 + x3)).tdiv 2)))), (5, .int (iI (wI ((wI (x2 + x3)).tdiv 2)))), (0, .ref (gAd G 0 0)), (1, .int (iI z1)), (3, .int (iI x3)), (4, .int (iI x4))]) dX11_bisect_86 rfl hl (by decide) rfl (fun ls hl => ?_)
          refine lv_goto (tgt := 93) X.1 X.2.1 dX11_bisect_87 (by decide) ?_
          exact hk93 (wI ((wI (x2 + x3)).tdiv 2)) (nmI_w _) x3 nx3 hf _ _ _ hH hS (gLv_sub hl [2, 3, 0, 4, 5] rfl)
theorem m_X11_bisect (l : Launch) (hl0 : l.stackTraces = false) (G : gG) (v1 : Int) (nv1 : nmI v1) (M0 : gM) (q : (Nat ⊕ (Int × gM))) (hf : f_X11_bisect v1 M0 = some q) : gXMet l yX11_bisect cX11_bisect 6 (some .int) 7 160 1 6 G M0 [.ref (gAd G 0 0), .int (iI v1)] (gXi G (∃ z, q = Sum.inr z) (gvP q).1 (gvP q).2) (fun e9 => q = Sum.inl e9) := by
  refine gOfX (by decide) (by show _ ≤ 6; exact Nat.le_of_ble_eq_true rfl) rfl ?_
  intro p e s m below meth c X Z hnt hH ls hl
  replace hl : gLv ls 6 [(0, .ref (gAd G 0 0)), (1, .int (iI v1))] := hl
  have hS : va_S (gA G) s.heap s.heap [] := va_S.rf
  generalize hargs : ([.ref (gAd G 0 0), .int (iI v1)] : List Value).toArray = args at X ⊢
  clear hargs
  unfold f_X11_bisect at hf
  refine lv_aload_n X.1 X.2.1 dX11_bisect_0 rfl (lv_at hl.1 0 rfl) ?_
  refine lv_iload_n X.1 X.2.1 dX11_bisect_1 rfl (lv_at hl.1 1 rfl) ?_
  obtain ⟨r2, hq2, hf_⟩ := ob_e hf; clear hf; have hf := hf_; clear hf_
  rcases r2 with e8 | v2_
  · have hq := Option.some.inj hf; subst hq
    refine gGoXV (gRunVX X Z hH hS (As := [.int (iI v1)]) (m_X11_checkTarget l hl0 G v1 nv1 M0 _ hq2) calX11_checkTarget k_677 k_4 k_675 (by decide) cX11 rfl ⟨by decide, by decide⟩ rfl hl rfl (Nat.le_of_ble_eq_true rfl) ⟨Nat.le_of_ble_eq_true rfl, Nat.le_of_ble_eq_true rfl⟩ dX11_bisect_2) hS (fun E ce q9 H locs hE hH hS h1 h2 h3 => ?_) (fun H locs hok hH hS => ?_)
    · exact gOutX X hnt (by obtain ⟨e7, h7, h8⟩ := hE; exact ⟨e7, congrArg _ (Sum.inl.inj h7), h8⟩) hH hS h1 h2 h3 ⟨Nat.le_of_ble_eq_true rfl, Nat.le_of_ble_eq_true rfl⟩
    · obtain ⟨z, hz⟩ := hok; cases hz
  · replace hf := ox_i hf
    refine gGoXV (gRunVX X Z hH hS (As := [.int (iI v1)]) (m_X11_checkTarget l hl0 G v1 nv1 M0 _ hq2) calX11_checkTarget k_677 k_4 k_675 (by decide) cX11 rfl ⟨by decide, by decide⟩ rfl hl rfl (Nat.le_of_ble_eq_true rfl) ⟨Nat.le_of_ble_eq_true rfl, Nat.le_of_ble_eq_true rfl⟩ dX11_bisect_2) hS (fun E ce q9 H locs hE hH hS h1 h2 h3 => ?_) (fun H locs _ hH hS => ?_)
    · obtain ⟨e7, h7, h8⟩ := hE; cases h7
    · refine lv_aload_n X.1 X.2.1 dX11_bisect_5 rfl (lv_at hl.1 0 rfl) ?_
      refine lv_iconst X.1 X.2.1 dX11_bisect_6 (v := iI 0) rfl ?_
      refine g_putI X cX11 hH hS (r := 0) (i := 0) (by decide) rfl 6 (by decide) k_484 rfl rfl rfl (Nat.le_of_ble_eq_true rfl) (x := 0) (nmI_l (by decide)) rfl rfl rfl dX11_bisect_7 (fun H locs hH hS => ?_)
      refine lv_iconst X.1 X.2.1 dX11_bisect_10 (v := iI 0) rfl ?_
      refine g_istore_n X (lv' := [(2, .int (iI 0)), (0, .ref (gAd G 0 0)), (1, .int (iI v1))]) dX11_bisect_11 rfl hl (by decide) rfl (fun ls hl => ?_)
      refine lv_aload_n X.1 X.2.1 dX11_bisect_12 rfl (lv_at hl.1 1 rfl) ?_
      refine g_get X cX11 hH (r := 0) (i := 0) (by decide) rfl 0 (by decide) k_478 rfl (v := .ref (gAd G 1 0)) rfl dX11_bisect_13 ?_
      have nd16 : nmI ((gU M0 0 0 6 0) 1 0 5) := hH.1.1 _ _ _
      refine g_get X cX7 hH (r := 1) (i := 0) (by decide) rfl 5 (by decide) k_110 rfl (v := .int (iI ((gU M0 0 0 6 0) 1 0 5))) rfl dX11_bisect_16 ?_
      refine g_istore_n X (lv' := [(3, .int (iI ((gU M0 0 0 6 0) 1 0 5))), (2, .int (iI 0)), (0, .ref (gAd G 0 0)), (1, .int (iI v1))]) dX11_bisect_19 rfl hl (by decide) rfl (fun ls hl => ?_)
      refine lv_aload_n X.1 X.2.1 dX11_bisect_20 rfl (lv_at hl.1 2 rfl) ?_
      refine lv_iload_n X.1 X.2.1 dX11_bisect_21 rfl (lv_at hl.1 1 rfl) ?_
      refine lv_iload_n X.1 X.2.1 dX11_bisect_22 rfl (lv_at hl.1 3 rfl) ?_
      obtain ⟨r23, hq23, hf_⟩ := ob_e hf; clear hf; have hf := hf_; clear hf_
      refine gGoZ (gRunV X hH (As := [.int (iI 0), .int (iI v1)]) (m_X11_isGoodAfter l G 0 (nmI_l (by decide)) v1 nv1 (gU M0 0 0 6 0) _ hq23) calX11_isGoodAfter k_1202 k_29 k_1200 (by decide) cX11 rfl ⟨by decide, by decide⟩ rfl hl rfl (Nat.le_of_ble_eq_true rfl) ⟨Nat.le_of_ble_eq_true rfl, Nat.le_of_ble_eq_true rfl⟩ dX11_bisect_23) hS (fun H locs br23 hH hS => ?_)
      refine g_if_eq X (nmI_b br23) (tgt := 38) dX11_bisect_26 (by decide) (fun hc26 => ?_) (fun hc26 => ?_)
      · replace hf := it_t hf hc26
        refine lv_iconst X.1 X.2.1 dX11_bisect_38 (v := iI (-1)) rfl ?_
        have hq := Option.some.inj hf; subst hq
        exact gRetXI X hH hS ⟨_, rfl⟩ (res := (-1)) (nmI_l (by decide)) ⟨Nat.le_of_ble_eq_true rfl, Nat.le_of_ble_eq_true rfl⟩ dX11_bisect_39
      · replace hf := it_f hf hc26
        refine lv_aload_n X.1 X.2.1 dX11_bisect_29 rfl (lv_at hl.1 2 rfl) ?_
        refine lv_iload_n X.1 X.2.1 dX11_bisect_30 rfl (lv_at hl.1 0 rfl) ?_
        refine lv_iload_n X.1 X.2.1 dX11_bisect_31 rfl (lv_at hl.1 3 rfl) ?_
        obtain ⟨r32, hq32, hf_⟩ := ob_e hf; clear hf; have hf := hf_; clear hf_
        refine gGoZ (gRunV X hH (As := [.int (iI ((gU M0 0 0 6 0) 1 0 5)), .int (iI v1)]) (m_X11_isGoodAfter l G ((gU M0 0 0 6 0) 1 0 5) nd16 v1 nv1 r23.2 _ hq32) calX11_isGoodAfter k_1202 k_29 k_1200 (by decide) cX11 rfl ⟨by decide, by decide⟩ rfl hl rfl (Nat.le_of_ble_eq_true rfl) ⟨Nat.le_of_ble_eq_true rfl, Nat.le_of_ble_eq_true rfl⟩ dX11_bisect_32) hS (fun H locs br32 hH hS => ?_)
        refine g_if_eq X (nmI_b br32) (tgt := 40) dX11_bisect_35 (by decide) (fun hc35 => ?_) (fun hc35 => ?_)
        · replace hf := it_t hf hc35
          refine lv_iconst X.1 X.2.1 dX11_bisect_40 (v := iI 0) rfl ?_
          refine g_istore X (lv' := [(4, .int (iI 0)), (3, .int (iI ((gU M0 0 0 6 0) 1 0 5))), (2, .int (iI 0)), (0, .ref (gAd G 0 0)), (1, .int (iI v1))]) dX11_bisect_41 hl (by decide) rfl (fun ls hl => ?_)
          refine w_X11_bisect_L43 X hl0 Z hnt M0 _ v1 nv1 q ?_ 64 0 (nmI_l (by decide)) ((gU M0 0 0 6 0) 1 0 5) nd16 0 (nmI_l (by decide)) r32.2 hf _ _ _ hH hS (gLv_sub hl [3, 4, 2, 1, 0] rfl)
          · intro y3_43_99 ny3_43_99 M_43_99 hf H locs ls hH hS hl
            refine lv_iload_n X.1 X.2.1 dX11_bisect_99 rfl (lv_at hl.1 0 rfl) ?_
            refine lv_iconst X.1 X.2.1 dX11_bisect_100 (v := iI 1) rfl ?_
            refine g_isub X dX11_bisect_101 ?_
            have hq := Option.some.inj hf; subst hq
            exact gRetXI X hH hS ⟨_, rfl⟩ (res := wI (y3_43_99 - 1)) (nmI_w _) ⟨Nat.le_of_ble_eq_true rfl, Nat.le_of_ble_eq_true rfl⟩ dX11_bisect_102
        · replace hf := it_f hf hc35
          refine lv_iconst X.1 X.2.1 dX11_bisect_38 (v := iI (-1)) rfl ?_
          have hq := Option.some.inj hf; subst hq
          exact gRetXI X hH hS ⟨_, rfl⟩ (res := (-1)) (nmI_l (by decide)) ⟨Nat.le_of_ble_eq_true rfl, Nat.le_of_ble_eq_true rfl⟩ dX11_bisect_39
