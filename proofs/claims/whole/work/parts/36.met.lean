theorem m_X12_entries (l : Launch) (G : gG)  (M : gM) (q : (Int × gM)) (hf : f_X12_entries M = q) : gMet l yX12_entries cX12_entries 1 (some .int) 0 0 G M [.ref (gAd G 29 0)] (gQi G q.1 q.2) := by
  refine gOfW (by decide) (by show _ ≤ 1; exact Nat.le_of_ble_eq_true rfl) rfl ?_
  intro p e s m below meth c X hH ls hl
  replace hl : gLv ls 1 [(0, .ref (gAd G 29 0))] := hl
  have hS : va_S (gA G) s.heap s.heap [] := va_S.rf
  generalize hargs : ([.ref (gAd G 29 0)] : List Value).toArray = args at X ⊢
  clear hargs
  unfold f_X12_entries at hf
  refine lv_aload_n X.1 X.2.1 dX12_entries_0 rfl (lv_at hl.1 0 rfl) ?_
  refine lv_iconst X.1 X.2.1 dX12_entries_1 (v := iI 0) rfl ?_
  refine g_putI X cX12 hH hS (r := 29) (i := 0) (by decide) rfl 0 (by decide) k_1210 rfl rfl rfl (Nat.le_of_ble_eq_true rfl) (x := 0) (nmI_l (by decide)) rfl rfl rfl dX12_entries_2 (fun H locs hH hS => ?_)
  refine lv_aload_n X.1 X.2.1 dX12_entries_5 rfl (lv_at hl.1 0 rfl) ?_
  have nd6 : nmI ((gU M 29 0 0 0) 29 0 21) := hH.1.1 _ _ _
  refine g_get X cX12 hH (r := 29) (i := 0) (by decide) rfl 21 (by decide) k_1231 rfl (v := .int (iI ((gU M 29 0 0 0) 29 0 21))) rfl dX12_entries_6 ?_
  subst hf
  exact gRetI X hH hS (res := (gU M 29 0 0 0) 29 0 21) nd6 dX12_entries_9
theorem m_X12_put (l : Launch) (G : gG) (v0 : Int) (nv0 : nmI v0) (v1 : Int) (nv1 : nmI v1) (M : gM) (q : (Int)) (hf : f_X12_put v0 v1 M = q) : gMet l yX12_put cX12_put 2 (some .int) 0 0 G M [.int (iI v0), .int (iI v1)] (gQi G q M) := by
  refine gOfW (by decide) (by show _ ≤ 2; exact Nat.le_of_ble_eq_true rfl) rfl ?_
  intro p e s m below meth c X hH ls hl
  replace hl : gLv ls 2 [(0, .int (iI v0)), (1, .int (iI v1))] := hl
  have hS : va_S (gA G) s.heap s.heap [] := va_S.rf
  generalize hargs : ([.int (iI v0), .int (iI v1)] : List Value).toArray = args at X ⊢
  clear hargs
  unfold f_X12_put at hf
  refine lv_bipush X.1 X.2.1 dX12_put_0 (v := iI 31) (by decide) ?_
  refine lv_iload_n X.1 X.2.1 dX12_put_2 rfl (lv_at hl.1 0 rfl) ?_
  refine g_imul X dX12_put_3 ?_
  refine lv_iload_n X.1 X.2.1 dX12_put_4 rfl (lv_at hl.1 1 rfl) ?_
  refine g_iadd X dX12_put_5 ?_
  refine lv_iconst X.1 X.2.1 dX12_put_6 (v := iI 1) rfl ?_
  refine g_iadd X dX12_put_7 ?_
  refine g_ldc X k_1451 (a := 100003) (by decide) dX12_put_8 ?_
  refine g_irem X (nmI_w _) (nmI_l (by decide)) (by decide) dX12_put_10 ?_
  subst hf
  exact gRetI X hH hS (res := gRem (wI ((wI ((wI (31 * v0)) + v1)) + 1)) 100003) (nmI_rem _ _) dX12_put_11
theorem m_X12_signature (l : Launch) (G : gG) (v1 : Int) (nv1 : nmI v1) (v2 : Int) (nv2 : nmI v2) (v3 : Int) (nv3 : nmI v3) (M : gM) (q : (Int)) (hf : f_X12_signature v1 v2 v3 M = q) : gMet l yX12_signature cX12_signature 4 (some .int) 1 21 G M [.ref (gAd G 29 0), .int (iI v1), .int (iI v2), .int (iI v3)] (gQi G q M) := by
  refine gOfW (by decide) (by show _ ≤ 4; exact Nat.le_of_ble_eq_true rfl) rfl ?_
  intro p e s m below meth c X hH ls hl
  replace hl : gLv ls 4 [(0, .ref (gAd G 29 0)), (1, .int (iI v1)), (2, .int (iI v2)), (3, .int (iI v3))] := hl
  have hS : va_S (gA G) s.heap s.heap [] := va_S.rf
  generalize hargs : ([.ref (gAd G 29 0), .int (iI v1), .int (iI v2), .int (iI v3)] : List Value).toArray = args at X ⊢
  clear hargs
  unfold f_X12_signature at hf
  refine lv_bipush X.1 X.2.1 dX12_signature_0 (v := iI 7) (by decide) ?_
  refine lv_iload_n X.1 X.2.1 dX12_signature_2 rfl (lv_at hl.1 1 rfl) ?_
  refine gGoI (gRunS X hH (As := [.int (iI 7), .int (iI v1)]) (m_X12_put l G 7 (nmI_l (by decide)) v1 nv1 M _ rfl) calX12_put k_1449 k_1448 ⟨by decide, by decide⟩ rfl hl rfl (Nat.le_of_ble_eq_true rfl) ⟨Nat.le_of_ble_eq_true rfl, Nat.le_of_ble_eq_true rfl⟩ dX12_signature_3) hS (fun H locs nr3 hH hS => ?_)
  refine lv_iload_n X.1 X.2.1 dX12_signature_6 rfl (lv_at hl.1 2 rfl) ?_
  refine gGoI (gRunS X hH (As := [.int (iI ((f_X12_put 7 v1 M))), .int (iI v2)]) (m_X12_put l G ((f_X12_put 7 v1 M)) nr3 v2 nv2 M _ rfl) calX12_put k_1449 k_1448 ⟨by decide, by decide⟩ rfl hl rfl (Nat.le_of_ble_eq_true rfl) ⟨Nat.le_of_ble_eq_true rfl, Nat.le_of_ble_eq_true rfl⟩ dX12_signature_7) hS (fun H locs nr7 hH hS => ?_)
  refine lv_bipush X.1 X.2.1 dX12_signature_10 (v := iI 17) (by decide) ?_
  refine lv_iload_n X.1 X.2.1 dX12_signature_12 rfl (lv_at hl.1 3 rfl) ?_
  refine g_imul X dX12_signature_13 ?_
  refine lv_iconst X.1 X.2.1 dX12_signature_14 (v := iI 5) rfl ?_
  refine g_iadd X dX12_signature_15 ?_
  refine gGoI (gRunS X hH (As := [.int (iI ((f_X12_put ((f_X12_put 7 v1 M)) v2 M))), .int (iI (wI ((wI (17 * v3)) + 5)))]) (m_X12_put l G ((f_X12_put ((f_X12_put 7 v1 M)) v2 M)) nr7 (wI ((wI (17 * v3)) + 5)) (nmI_w _) M _ rfl) calX12_put k_1449 k_1448 ⟨by decide, by decide⟩ rfl hl rfl (Nat.le_of_ble_eq_true rfl) ⟨Nat.le_of_ble_eq_true rfl, Nat.le_of_ble_eq_true rfl⟩ dX12_signature_16) hS (fun H locs nr16 hH hS => ?_)
  subst hf
  exact gRetI X hH hS (res := (f_X12_put ((f_X12_put ((f_X12_put 7 v1 M)) v2 M)) (wI ((wI (17 * v3)) + 5)) M)) nr16 dX12_signature_19
theorem m_X12_isSigned (l : Launch) (G : gG) (v1 : Int) (nv1 : nmI v1) (M : gM) (q : (Int)) (hf : f_X12_isSigned v1 M = some q) : gMet l yX12_isSigned cX12_isSigned 2 (some .boolean) 2 44 G M [.ref (gAd G 29 0), .int (iI v1)] (gQz G q M) := by
  refine gOfW (by decide) (by show _ ≤ 2; exact Nat.le_of_ble_eq_true rfl) rfl ?_
  intro p e s m below meth c X hH ls hl
  replace hl : gLv ls 2 [(0, .ref (gAd G 29 0)), (1, .int (iI v1))] := hl
  have hS : va_S (gA G) s.heap s.heap [] := va_S.rf
  generalize hargs : ([.ref (gAd G 29 0), .int (iI v1)] : List Value).toArray = args at X ⊢
  clear hargs
  unfold f_X12_isSigned at hf
  refine lv_aload_n X.1 X.2.1 dX12_isSigned_0 rfl (lv_at hl.1 0 rfl) ?_
  refine g_get X cX12 hH (r := 29) (i := 0) (by decide) rfl 27 (by decide) k_1237 rfl (v := .ref (gAd G 51 0)) rfl dX12_isSigned_1 ?_
  refine lv_iload_n X.1 X.2.1 dX12_isSigned_4 rfl (lv_at hl.1 1 rfl) ?_
  obtain ⟨hg, hf_⟩ := og_e hf; clear hf; have hf := hf_; clear hf_
  have nd5 : nmI (M 51 0 v1.toNat) := hH.1.1 _ _ _
  refine g_iald X hH (r := 51) (i := 0) (by decide) rfl nv1 hg (v := M 51 0 v1.toNat) rfl dX12_isSigned_5 ?_
  refine lv_aload_n X.1 X.2.1 dX12_isSigned_6 rfl (lv_at hl.1 0 rfl) ?_
  refine lv_aload_n X.1 X.2.1 dX12_isSigned_7 rfl (lv_at hl.1 0 rfl) ?_
  refine g_get X cX12 hH (r := 29) (i := 0) (by decide) rfl 22 (by decide) k_1232 rfl (v := .ref (gAd G 46 0)) rfl dX12_isSigned_8 ?_
  refine lv_iload_n X.1 X.2.1 dX12_isSigned_11 rfl (lv_at hl.1 1 rfl) ?_
  obtain ⟨hg, hf_⟩ := og_e hf; clear hf; have hf := hf_; clear hf_
  have nd12 : nmI (M 46 0 v1.toNat) := hH.1.1 _ _ _
  refine g_iald X hH (r := 46) (i := 0) (by decide) rfl nv1 hg (v := M 46 0 v1.toNat) rfl dX12_isSigned_12 ?_
  refine lv_aload_n X.1 X.2.1 dX12_isSigned_13 rfl (lv_at hl.1 0 rfl) ?_
  refine g_get X cX12 hH (r := 29) (i := 0) (by decide) rfl 25 (by decide) k_1235 rfl (v := .ref (gAd G 49 0)) rfl dX12_isSigned_14 ?_
  refine lv_iload_n X.1 X.2.1 dX12_isSigned_17 rfl (lv_at hl.1 1 rfl) ?_
  obtain ⟨hg, hf_⟩ := og_e hf; clear hf; have hf := hf_; clear hf_
  have nd18 : nmI (M 49 0 v1.toNat) := hH.1.1 _ _ _
  refine g_iald X hH (r := 49) (i := 0) (by decide) rfl nv1 hg (v := M 49 0 v1.toNat) rfl dX12_isSigned_18 ?_
  refine lv_aload_n X.1 X.2.1 dX12_isSigned_19 rfl (lv_at hl.1 0 rfl) ?_
  refine g_get X cX12 hH (r := 29) (i := 0) (by decide) rfl 26 (by decide) k_1236 rfl (v := .ref (gAd G 50 0)) rfl dX12_isSigned_20 ?_
  refine lv_iload_n X.1 X.2.1 dX12_isSigned_23 rfl (lv_at hl.1 1 rfl) ?_
  obtain ⟨hg, hf_⟩ := og_e hf; clear hf; have hf := hf_; clear hf_
  have nd24 : nmI (M 50 0 v1.toNat) := hH.1.1 _ _ _
  refine g_iald X hH (r := 50) (i := 0) (by decide) rfl nv1 hg (v := M 50 0 v1.toNat) rfl dX12_isSigned_24 ?_
  refine gGoI (gRunV X hH (As := [.int (iI (M 46 0 v1.toNat)), .int (iI (M 49 0 v1.toNat)), .int (iI (M 50 0 v1.toNat))]) (m_X12_signature l G (M 46 0 v1.toNat) nd12 (M 49 0 v1.toNat) nd18 (M 50 0 v1.toNat) nd24 M _ rfl) calX12_signature k_1446 k_36 k_1444 (by decide) cX12 rfl ⟨by decide, by decide⟩ rfl hl rfl (Nat.le_of_ble_eq_true rfl) ⟨Nat.le_of_ble_eq_true rfl, Nat.le_of_ble_eq_true rfl⟩ dX12_isSigned_25) hS (fun H locs nr25 hH hS => ?_)
  refine g_icmp_ne X nd5 nr25 (tgt := 35) dX12_isSigned_28 (by decide) (fun hc28 => ?_) (fun hc28 => ?_)
  · replace hf := it_f hf hc28
    refine lv_iconst X.1 X.2.1 dX12_isSigned_35 (v := iI 0) rfl ?_
    have hq := Option.some.inj hf; subst hq
    exact gRetZ X hH hS (res := 0) (by decide) dX12_isSigned_36
  · replace hf := it_t hf hc28
    refine lv_iconst X.1 X.2.1 dX12_isSigned_31 (v := iI 1) rfl ?_
    refine lv_goto (tgt := 36) X.1 X.2.1 dX12_isSigned_32 (by decide) ?_
    have hq := Option.some.inj hf; subst hq
    exact gRetZ X hH hS (res := 1) (by decide) dX12_isSigned_36
theorem m_X12_entry (l : Launch) (G : gG) (v1 : Int) (nv1 : nmI v1) (v2 : Int) (nv2 : nmI v2) (M : gM) (q : (Int × gM)) (hf : f_X12_entry v1 v2 M = some q) : gMet l yX12_entry cX12_entry 3 (some .int) 3 65 G M [.ref (gAd G 29 0), .int (iI v1), .int (iI v2)] (gQi G q.1 q.2) := by
  refine gOfW (by decide) (by show _ ≤ 3; exact Nat.le_of_ble_eq_true rfl) rfl ?_
  intro p e s m below meth c X hH ls hl
  replace hl : gLv ls 3 [(0, .ref (gAd G 29 0)), (1, .int (iI v1)), (2, .int (iI v2))] := hl
  have hS : va_S (gA G) s.heap s.heap [] := va_S.rf
  generalize hargs : ([.ref (gAd G 29 0), .int (iI v1), .int (iI v2)] : List Value).toArray = args at X ⊢
  clear hargs
  unfold f_X12_entry at hf
  refine lv_aload_n X.1 X.2.1 dX12_entry_0 rfl (lv_at hl.1 0 rfl) ?_
  refine lv_iload_n X.1 X.2.1 dX12_entry_1 rfl (lv_at hl.1 1 rfl) ?_
  refine lv_iconst X.1 X.2.1 dX12_entry_2 (v := iI 0) rfl ?_
  refine lv_aload_n X.1 X.2.1 dX12_entry_3 rfl (lv_at hl.1 0 rfl) ?_
  have nd4 : nmI (M 29 0 21) := hH.1.1 _ _ _
  refine g_get X cX12 hH (r := 29) (i := 0) (by decide) rfl 21 (by decide) k_1231 rfl (v := .int (iI (M 29 0 21))) rfl dX12_entry_4 ?_
  refine lv_iconst X.1 X.2.1 dX12_entry_7 (v := iI 1) rfl ?_
  refine g_isub X dX12_entry_8 ?_
  refine gGoZ (gRunS X hH (As := [.int (iI v1), .int (iI 0), .int (iI (wI ((M 29 0 21) - 1)))]) (m_X12_in l G v1 nv1 0 (nmI_l (by decide)) (wI ((M 29 0 21) - 1)) (nmI_w _) M _ rfl) calX12_in k_1389 k_1388 ⟨by decide, by decide⟩ rfl hl rfl (Nat.le_of_ble_eq_true rfl) ⟨Nat.le_of_ble_eq_true rfl, Nat.le_of_ble_eq_true rfl⟩ dX12_entry_9) hS (fun H locs br9 hH hS => ?_)
  obtain ⟨k30, ek30, hf_⟩ := oj_e hf; clear hf; have hf := hf_; clear hf_
  have hk30 : ∀ (xs1_30 : Int) (bxs1_30 : xs1_30 = 0 ∨ xs1_30 = 1), k30 xs1_30 = some q → ∀ (H : Heap) (locs : List Loc) (ls : Array Slot), gH G M H → va_S (gA G) s.heap H locs → gLv ls 3 [(0, .ref (gAd G 29 0)), (1, .int (iI v1)), (2, .int (iI v2))] → W p l e { frames := 3, cells := 0, slots := 0, locals := 65 } s m args below meth c H locs 0 0 (MQ below (gQi G q.1 q.2) args s 0 0 (gA G)) (F0 m 30 ls [.int (iI xs1_30), .ref (gAd G 29 0)]) := by
    intro xs1_30 bxs1_30 hf H locs ls hH hS hl
    subst ek30
    refine gGoZ (gRunV X hH (As := [.int (iI xs1_30)]) (m_X12_asked l G xs1_30 bxs1_30 M _ rfl) calX12_asked k_1393 k_30 k_1391 (by decide) cX12 rfl ⟨by decide, by decide⟩ rfl hl rfl (Nat.le_of_ble_eq_true rfl) ⟨Nat.le_of_ble_eq_true rfl, Nat.le_of_ble_eq_true rfl⟩ dX12_entry_30) hS (fun H locs br30 hH hS => ?_)
    refine g_if_ne X (nmI_b br30) (tgt := 38) dX12_entry_33 (by decide) (fun hc33 => ?_) (fun hc33 => ?_)
    · replace hf := it_f hf hc33
      refine lv_iload_n X.1 X.2.1 dX12_entry_38 rfl (lv_at hl.1 2 rfl) ?_
      refine g_if_ne X nv2 (tgt := 51) dX12_entry_39 (by decide) (fun hc39 => ?_) (fun hc39 => ?_)
      · replace hf := it_f hf hc39
        refine lv_iload_n X.1 X.2.1 dX12_entry_51 rfl (lv_at hl.1 2 rfl) ?_
        refine lv_iconst X.1 X.2.1 dX12_entry_52 (v := iI 1) rfl ?_
        refine g_icmp_ne X nv2 (nmI_l (by decide)) (tgt := 65) dX12_entry_53 (by decide) (fun hc53 => ?_) (fun hc53 => ?_)
        · replace hf := it_f hf hc53
          refine lv_iload_n X.1 X.2.1 dX12_entry_65 rfl (lv_at hl.1 2 rfl) ?_
          refine lv_iconst X.1 X.2.1 dX12_entry_66 (v := iI 2) rfl ?_
          refine g_icmp_ne X nv2 (nmI_l (by decide)) (tgt := 79) dX12_entry_67 (by decide) (fun hc67 => ?_) (fun hc67 => ?_)
          · replace hf := it_f hf hc67
            refine lv_iload_n X.1 X.2.1 dX12_entry_79 rfl (lv_at hl.1 2 rfl) ?_
            refine lv_iconst X.1 X.2.1 dX12_entry_80 (v := iI 3) rfl ?_
            refine g_icmp_ne X nv2 (nmI_l (by decide)) (tgt := 93) dX12_entry_81 (by decide) (fun hc81 => ?_) (fun hc81 => ?_)
            · replace hf := it_f hf hc81
              refine lv_iload_n X.1 X.2.1 dX12_entry_93 rfl (lv_at hl.1 2 rfl) ?_
              refine lv_iconst X.1 X.2.1 dX12_entry_94 (v := iI 4) rfl ?_
              refine g_icmp_ne X nv2 (nmI_l (by decide)) (tgt := 107) dX12_entry_95 (by decide) (fun hc95 => ?_) (fun hc95 => ?_)
              · replace hf := it_f hf hc95
                refine lv_iload_n X.1 X.2.1 dX12_entry_107 rfl (lv_at hl.1 2 rfl) ?_
                refine lv_iconst X.1 X.2.1 dX12_entry_108 (v := iI 5) rfl ?_
                refine g_icmp_ne X nv2 (nmI_l (by decide)) (tgt := 129) dX12_entry_109 (by decide) (fun hc109 => ?_) (fun hc109 => ?_)
                · replace hf := it_f hf hc109
                  refine lv_aload_n X.1 X.2.1 dX12_entry_129 rfl (lv_at hl.1 0 rfl) ?_
                  refine lv_iload_n X.1 X.2.1 dX12_entry_130 rfl (lv_at hl.1 1 rfl) ?_
                  obtain ⟨r131, hq131, hf_⟩ := ob_e hf; clear hf; have hf := hf_; clear hf_
                  refine gGoZ (gRunV X hH (As := [.int (iI v1)]) (m_X12_isSigned l G v1 nv1 ((f_X12_asked xs1_30 M).2) _ hq131) calX12_isSigned k_1442 k_35 k_1440 (by decide) cX12 rfl ⟨by decide, by decide⟩ rfl hl rfl (Nat.le_of_ble_eq_true rfl) ⟨Nat.le_of_ble_eq_true rfl, Nat.le_of_ble_eq_true rfl⟩ dX12_entry_131) hS (fun H locs br131 hH hS => ?_)
                  refine g_if_eq X (nmI_b br131) (tgt := 141) dX12_entry_134 (by decide) (fun hc134 => ?_) (fun hc134 => ?_)
                  · replace hf := it_t hf hc134
                    refine lv_iconst X.1 X.2.1 dX12_entry_141 (v := iI 0) rfl ?_
                    have hq := Option.some.inj hf; subst hq
                    exact gRetI X hH hS (res := 0) (nmI_l (by decide)) dX12_entry_142
                  · replace hf := it_f hf hc134
                    refine lv_iconst X.1 X.2.1 dX12_entry_137 (v := iI 1) rfl ?_
                    refine lv_goto (tgt := 142) X.1 X.2.1 dX12_entry_138 (by decide) ?_
                    have hq := Option.some.inj hf; subst hq
                    exact gRetI X hH hS (res := 1) (nmI_l (by decide)) dX12_entry_142
                · replace hf := it_t hf hc109
                  refine lv_aload_n X.1 X.2.1 dX12_entry_112 rfl (lv_at hl.1 0 rfl) ?_
                  refine g_get X cX12 hH (r := 29) (i := 0) (by decide) rfl 28 (by decide) k_1238 rfl (v := .ref (gAd G 52 0)) rfl dX12_entry_113 ?_
                  refine lv_iload_n X.1 X.2.1 dX12_entry_116 rfl (lv_at hl.1 1 rfl) ?_
                  obtain ⟨hg, hf_⟩ := og_e hf; clear hf; have hf := hf_; clear hf_
                  have nd117 : nmI (((f_X12_asked xs1_30 M).2) 52 0 v1.toNat) := hH.1.1 _ _ _
                  have bd117 := hH.1.2.1 52 0 v1.toNat rfl
                  refine g_zald X hH (r := 52) (i := 0) (by decide) rfl nv1 hg (v := ((f_X12_asked xs1_30 M).2) 52 0 v1.toNat) rfl dX12_entry_117 ?_
                  refine g_if_eq X nd117 (tgt := 125) dX12_entry_118 (by decide) (fun hc118 => ?_) (fun hc118 => ?_)
                  · replace hf := it_t hf hc118
                    refine lv_iconst X.1 X.2.1 dX12_entry_125 (v := iI 1) rfl ?_
                    refine lv_goto (tgt := 142) X.1 X.2.1 dX12_entry_126 (by decide) ?_
                    have hq := Option.some.inj hf; subst hq
                    exact gRetI X hH hS (res := 1) (nmI_l (by decide)) dX12_entry_142
                  · replace hf := it_f hf hc118
                    refine lv_iconst X.1 X.2.1 dX12_entry_121 (v := iI 0) rfl ?_
                    refine lv_goto (tgt := 142) X.1 X.2.1 dX12_entry_122 (by decide) ?_
                    have hq := Option.some.inj hf; subst hq
                    exact gRetI X hH hS (res := 0) (nmI_l (by decide)) dX12_entry_142
              · replace hf := it_t hf hc95
                refine lv_aload_n X.1 X.2.1 dX12_entry_98 rfl (lv_at hl.1 0 rfl) ?_
                refine g_get X cX12 hH (r := 29) (i := 0) (by decide) rfl 26 (by decide) k_1236 rfl (v := .ref (gAd G 50 0)) rfl dX12_entry_99 ?_
                refine lv_iload_n X.1 X.2.1 dX12_entry_102 rfl (lv_at hl.1 1 rfl) ?_
                obtain ⟨hg, hf_⟩ := og_e hf; clear hf; have hf := hf_; clear hf_
                have nd103 : nmI (((f_X12_asked xs1_30 M).2) 50 0 v1.toNat) := hH.1.1 _ _ _
                refine g_iald X hH (r := 50) (i := 0) (by decide) rfl nv1 hg (v := ((f_X12_asked xs1_30 M).2) 50 0 v1.toNat) rfl dX12_entry_103 ?_
                refine lv_goto (tgt := 142) X.1 X.2.1 dX12_entry_104 (by decide) ?_
                have hq := Option.some.inj hf; subst hq
                exact gRetI X hH hS (res := ((f_X12_asked xs1_30 M).2) 50 0 v1.toNat) nd103 dX12_entry_142
            · replace hf := it_t hf hc81
              refine lv_aload_n X.1 X.2.1 dX12_entry_84 rfl (lv_at hl.1 0 rfl) ?_
              refine g_get X cX12 hH (r := 29) (i := 0) (by decide) rfl 25 (by decide) k_1235 rfl (v := .ref (gAd G 49 0)) rfl dX12_entry_85 ?_
              refine lv_iload_n X.1 X.2.1 dX12_entry_88 rfl (lv_at hl.1 1 rfl) ?_
              obtain ⟨hg, hf_⟩ := og_e hf; clear hf; have hf := hf_; clear hf_
              have nd89 : nmI (((f_X12_asked xs1_30 M).2) 49 0 v1.toNat) := hH.1.1 _ _ _
              refine g_iald X hH (r := 49) (i := 0) (by decide) rfl nv1 hg (v := ((f_X12_asked xs1_30 M).2) 49 0 v1.toNat) rfl dX12_entry_89 ?_
              refine lv_goto (tgt := 142) X.1 X.2.1 dX12_entry_90 (by decide) ?_
              have hq := Option.some.inj hf; subst hq
              exact gRetI X hH hS (res := ((f_X12_asked xs1_30 M).2) 49 0 v1.toNat) nd89 dX12_entry_142
          · replace hf := it_t hf hc67
            refine lv_aload_n X.1 X.2.1 dX12_entry_70 rfl (lv_at hl.1 0 rfl) ?_
            refine g_get X cX12 hH (r := 29) (i := 0) (by decide) rfl 24 (by decide) k_1234 rfl (v := .ref (gAd G 48 0)) rfl dX12_entry_71 ?_
            refine lv_iload_n X.1 X.2.1 dX12_entry_74 rfl (lv_at hl.1 1 rfl) ?_
            obtain ⟨hg, hf_⟩ := og_e hf; clear hf; have hf := hf_; clear hf_
            have nd75 : nmI (((f_X12_asked xs1_30 M).2) 48 0 v1.toNat) := hH.1.1 _ _ _
            refine g_iald X hH (r := 48) (i := 0) (by decide) rfl nv1 hg (v := ((f_X12_asked xs1_30 M).2) 48 0 v1.toNat) rfl dX12_entry_75 ?_
            refine lv_goto (tgt := 142) X.1 X.2.1 dX12_entry_76 (by decide) ?_
            have hq := Option.some.inj hf; subst hq
            exact gRetI X hH hS (res := ((f_X12_asked xs1_30 M).2) 48 0 v1.toNat) nd75 dX12_entry_142
        · replace hf := it_t hf hc53
          refine lv_aload_n X.1 X.2.1 dX12_entry_56 rfl (lv_at hl.1 0 rfl) ?_
          refine g_get X cX12 hH (r := 29) (i := 0) (by decide) rfl 23 (by decide) k_1233 rfl (v := .ref (gAd G 47 0)) rfl dX12_entry_57 ?_
          refine lv_iload_n X.1 X.2.1 dX12_entry_60 rfl (lv_at hl.1 1 rfl) ?_
          obtain ⟨hg, hf_⟩ := og_e hf; clear hf; have hf := hf_; clear hf_
          have nd61 : nmI (((f_X12_asked xs1_30 M).2) 47 0 v1.toNat) := hH.1.1 _ _ _
          refine g_iald X hH (r := 47) (i := 0) (by decide) rfl nv1 hg (v := ((f_X12_asked xs1_30 M).2) 47 0 v1.toNat) rfl dX12_entry_61 ?_
          refine lv_goto (tgt := 142) X.1 X.2.1 dX12_entry_62 (by decide) ?_
          have hq := Option.some.inj hf; subst hq
          exact gRetI X hH hS (res := ((f_X12_asked xs1_30 M).2) 47 0 v1.toNat) nd61 dX12_entry_142
      · replace hf := it_t hf hc39
        refine lv_aload_n X.1 X.2.1 dX12_entry_42 rfl (lv_at hl.1 0 rfl) ?_
        refine g_get X cX12 hH (r := 29) (i := 0) (by decide) rfl 22 (by decide) k_1232 rfl (v := .ref (gAd G 46 0)) rfl dX12_entry_43 ?_
        refine lv_iload_n X.1 X.2.1 dX12_entry_46 rfl (lv_at hl.1 1 rfl) ?_
        obtain ⟨hg, hf_⟩ := og_e hf; clear hf; have hf := hf_; clear hf_
        have nd47 : nmI (((f_X12_asked xs1_30 M).2) 46 0 v1.toNat) := hH.1.1 _ _ _
        refine g_iald X hH (r := 46) (i := 0) (by decide) rfl nv1 hg (v := ((f_X12_asked xs1_30 M).2) 46 0 v1.toNat) rfl dX12_entry_47 ?_
        refine lv_goto (tgt := 142) X.1 X.2.1 dX12_entry_48 (by decide) ?_
        have hq := Option.some.inj hf; subst hq
        exact gRetI X hH hS (res := ((f_X12_asked xs1_30 M).2) 46 0 v1.toNat) nd47 dX12_entry_142
    · replace hf := it_t hf hc33
      refine lv_iconst X.1 X.2.1 dX12_entry_36 (v := iI 0) rfl ?_
      have hq := Option.some.inj hf; subst hq
      exact gRetI X hH hS (res := 0) (nmI_l (by decide)) dX12_entry_37
  clear ek30
  obtain ⟨k29, ek29, hf_⟩ := oj_e hf; clear hf; have hf := hf_; clear hf_
  have hk29 : k29 = some q → ∀ (H : Heap) (locs : List Loc) (ls : Array Slot), gH G M H → va_S (gA G) s.heap H locs → gLv ls 3 [(0, .ref (gAd G 29 0)), (1, .int (iI v1)), (2, .int (iI v2))] → W p l e { frames := 3, cells := 0, slots := 0, locals := 65 } s m args below meth c H locs 0 0 (MQ below (gQi G q.1 q.2) args s 0 0 (gA G)) (F0 m 29 ls [.ref (gAd G 29 0)]) := by
    intro  hf H locs ls hH hS hl
    subst ek29
    refine lv_iconst X.1 X.2.1 dX12_entry_29 (v := iI 0) rfl ?_
    exact hk30 0 (by decide) hf _ _ _ hH hS (gLv_sub hl [0, 1, 2] rfl)
  clear ek29
  refine g_if_eq X (nmI_b br9) (tgt := 29) dX12_entry_12 (by decide) (fun hc12 => ?_) (fun hc12 => ?_)
  · replace hf := it_t hf hc12
    exact hk29  hf _ _ _ hH hS (gLv_sub hl [0, 1, 2] rfl)
  · replace hf := it_f hf hc12
    refine lv_iload_n X.1 X.2.1 dX12_entry_15 rfl (lv_at hl.1 2 rfl) ?_
    refine lv_iconst X.1 X.2.1 dX12_entry_16 (v := iI 0) rfl ?_
    refine lv_bipush X.1 X.2.1 dX12_entry_17 (v := iI 6) (by decide) ?_
    refine gGoZ (gRunS X hH (As := [.int (iI v2), .int (iI 0), .int (iI 6)]) (m_X12_in l G v2 nv2 0 (nmI_l (by decide)) 6 (nmI_l (by decide)) M _ rfl) calX12_in k_1389 k_1388 ⟨by decide, by decide⟩ rfl hl rfl (Nat.le_of_ble_eq_true rfl) ⟨Nat.le_of_ble_eq_true rfl, Nat.le_of_ble_eq_true rfl⟩ dX12_entry_19) hS (fun H locs br19 hH hS => ?_)
    refine g_if_eq X (nmI_b br19) (tgt := 29) dX12_entry_22 (by decide) (fun hc22 => ?_) (fun hc22 => ?_)
    · replace hf := it_t hf hc22
      exact hk29  hf _ _ _ hH hS (gLv_sub hl [0, 1, 2] rfl)
    · replace hf := it_f hf hc22
      refine lv_iconst X.1 X.2.1 dX12_entry_25 (v := iI 1) rfl ?_
      refine lv_goto (tgt := 30) X.1 X.2.1 dX12_entry_26 (by decide) ?_
      exact hk30 1 (by decide) hf _ _ _ hH hS (gLv_sub hl [0, 1, 2] rfl)
theorem m_X12_lie (l : Launch) (G : gG) (v1 : Int) (nv1 : nmI v1) (v2 : Int) (nv2 : nmI v2) (M : gM) (q : gM) (hf : f_X12_lie v1 v2 M = some q) : gMet l yX12_lie cX12_lie 3 none 1 22 G M [.ref (gAd G 29 0), .int (iI v1), .int (iI v2)] (gQv G q) := by
  refine gOfW (by decide) (by show _ ≤ 3; exact Nat.le_of_ble_eq_true rfl) rfl ?_
  intro p e s m below meth c X hH ls hl
  replace hl : gLv ls 3 [(0, .ref (gAd G 29 0)), (1, .int (iI v1)), (2, .int (iI v2))] := hl
  have hS : va_S (gA G) s.heap s.heap [] := va_S.rf
  generalize hargs : ([.ref (gAd G 29 0), .int (iI v1), .int (iI v2)] : List Value).toArray = args at X ⊢
  clear hargs
  unfold f_X12_lie at hf
  refine lv_aload_n X.1 X.2.1 dX12_lie_0 rfl (lv_at hl.1 0 rfl) ?_
  refine lv_iload_n X.1 X.2.1 dX12_lie_1 rfl (lv_at hl.1 1 rfl) ?_
  refine lv_iconst X.1 X.2.1 dX12_lie_2 (v := iI 0) rfl ?_
  refine lv_aload_n X.1 X.2.1 dX12_lie_3 rfl (lv_at hl.1 0 rfl) ?_
  have nd4 : nmI (M 29 0 21) := hH.1.1 _ _ _
  refine g_get X cX12 hH (r := 29) (i := 0) (by decide) rfl 21 (by decide) k_1231 rfl (v := .int (iI (M 29 0 21))) rfl dX12_lie_4 ?_
  refine lv_iconst X.1 X.2.1 dX12_lie_7 (v := iI 1) rfl ?_
  refine g_isub X dX12_lie_8 ?_
  refine gGoZ (gRunS X hH (As := [.int (iI v1), .int (iI 0), .int (iI (wI ((M 29 0 21) - 1)))]) (m_X12_in l G v1 nv1 0 (nmI_l (by decide)) (wI ((M 29 0 21) - 1)) (nmI_w _) M _ rfl) calX12_in k_1389 k_1388 ⟨by decide, by decide⟩ rfl hl rfl (Nat.le_of_ble_eq_true rfl) ⟨Nat.le_of_ble_eq_true rfl, Nat.le_of_ble_eq_true rfl⟩ dX12_lie_9) hS (fun H locs br9 hH hS => ?_)
  obtain ⟨k30, ek30, hf_⟩ := oj_e hf; clear hf; have hf := hf_; clear hf_
  have hk30 : ∀ (xs1_30 : Int) (bxs1_30 : xs1_30 = 0 ∨ xs1_30 = 1), k30 xs1_30 = some q → ∀ (H : Heap) (locs : List Loc) (ls : Array Slot), gH G M H → va_S (gA G) s.heap H locs → gLv ls 3 [(0, .ref (gAd G 29 0)), (1, .int (iI v1)), (2, .int (iI v2))] → W p l e { frames := 1, cells := 0, slots := 0, locals := 22 } s m args below meth c H locs 0 0 (MQ below (gQv G q) args s 0 0 (gA G)) (F0 m 30 ls [.int (iI xs1_30), .ref (gAd G 29 0)]) := by
    intro xs1_30 bxs1_30 hf H locs ls hH hS hl
    subst ek30
    refine gGoZ (gRunV X hH (As := [.int (iI xs1_30)]) (m_X12_asked l G xs1_30 bxs1_30 M _ rfl) calX12_asked k_1393 k_30 k_1391 (by decide) cX12 rfl ⟨by decide, by decide⟩ rfl hl rfl (Nat.le_of_ble_eq_true rfl) ⟨Nat.le_of_ble_eq_true rfl, Nat.le_of_ble_eq_true rfl⟩ dX12_lie_30) hS (fun H locs br30 hH hS => ?_)
    refine g_if_eq X (nmI_b br30) (tgt := 43) dX12_lie_33 (by decide) (fun hc33 => ?_) (fun hc33 => ?_)
    · replace hf := it_t hf hc33
      have hq := Option.some.inj hf; subst hq
      exact gRetV X hH hS dX12_lie_43
    · replace hf := it_f hf hc33
      refine lv_aload_n X.1 X.2.1 dX12_lie_36 rfl (lv_at hl.1 0 rfl) ?_
      refine g_get X cX12 hH (r := 29) (i := 0) (by decide) rfl 25 (by decide) k_1235 rfl (v := .ref (gAd G 49 0)) rfl dX12_lie_37 ?_
      refine lv_iload_n X.1 X.2.1 dX12_lie_40 rfl (lv_at hl.1 1 rfl) ?_
      refine lv_iload_n X.1 X.2.1 dX12_lie_41 rfl (lv_at hl.1 2 rfl) ?_
      obtain ⟨hg, hf_⟩ := og_e hf; clear hf; have hf := hf_; clear hf_
      refine g_iast X hH hS (r := 49) (i := 0) (by decide) (fun _ => rfl) nv1 hg nv2 rfl (by decide) dX12_lie_42 (fun H locs hH hS => ?_)
      have hq := Option.some.inj hf; subst hq
      exact gRetV X hH hS dX12_lie_43
  clear ek30
  obtain ⟨k29, ek29, hf_⟩ := oj_e hf; clear hf; have hf := hf_; clear hf_
  have hk29 : k29 = some q → ∀ (H : Heap) (locs : List Loc) (ls : Array Slot), gH G M H → va_S (gA G) s.heap H locs → gLv ls 3 [(0, .ref (gAd G 29 0)), (1, .int (iI v1)), (2, .int (iI v2))] → W p l e { frames := 1, cells := 0, slots := 0, locals := 22 } s m args below meth c H locs 0 0 (MQ below (gQv G q) args s 0 0 (gA G)) (F0 m 29 ls [.ref (gAd G 29 0)]) := by
    intro  hf H locs ls hH hS hl
    subst ek29
    refine lv_iconst X.1 X.2.1 dX12_lie_29 (v := iI 0) rfl ?_
    exact hk30 0 (by decide) hf _ _ _ hH hS (gLv_sub hl [0, 1, 2] rfl)
  clear ek29
  refine g_if_eq X (nmI_b br9) (tgt := 29) dX12_lie_12 (by decide) (fun hc12 => ?_) (fun hc12 => ?_)
  · replace hf := it_t hf hc12
    exact hk29  hf _ _ _ hH hS (gLv_sub hl [0, 1, 2] rfl)
  · replace hf := it_f hf hc12
    refine lv_iload_n X.1 X.2.1 dX12_lie_15 rfl (lv_at hl.1 2 rfl) ?_
    refine lv_iconst X.1 X.2.1 dX12_lie_16 (v := iI 0) rfl ?_
    refine g_ldc X k_1456 (a := 100002) (by decide) dX12_lie_17 ?_
    refine gGoZ (gRunS X hH (As := [.int (iI v2), .int (iI 0), .int (iI 100002)]) (m_X12_in l G v2 nv2 0 (nmI_l (by decide)) 100002 (nmI_l (by decide)) M _ rfl) calX12_in k_1389 k_1388 ⟨by decide, by decide⟩ rfl hl rfl (Nat.le_of_ble_eq_true rfl) ⟨Nat.le_of_ble_eq_true rfl, Nat.le_of_ble_eq_true rfl⟩ dX12_lie_19) hS (fun H locs br19 hH hS => ?_)
    refine g_if_eq X (nmI_b br19) (tgt := 29) dX12_lie_22 (by decide) (fun hc22 => ?_) (fun hc22 => ?_)
    · replace hf := it_t hf hc22
      exact hk29  hf _ _ _ hH hS (gLv_sub hl [0, 1, 2] rfl)
    · replace hf := it_f hf hc22
      refine lv_iconst X.1 X.2.1 dX12_lie_25 (v := iI 1) rfl ?_
      refine lv_goto (tgt := 30) X.1 X.2.1 dX12_lie_26 (by decide) ?_
      exact hk30 1 (by decide) hf _ _ _ hH hS (gLv_sub hl [0, 1, 2] rfl)
theorem m_X12_lose (l : Launch) (G : gG) (v1 : Int) (nv1 : nmI v1) (M : gM) (q : (Int × gM)) (hf : f_X12_lose v1 M = some q) : gMet l yX12_lose cX12_lose 3 (some .boolean) 1 22 G M [.ref (gAd G 29 0), .int (iI v1)] (gQz G q.1 q.2) := by
  refine gOfW (by decide) (by show _ ≤ 3; exact Nat.le_of_ble_eq_true rfl) rfl ?_
  intro p e s m below meth c X hH ls hl
  replace hl : gLv ls 3 [(0, .ref (gAd G 29 0)), (1, .int (iI v1))] := hl
  have hS : va_S (gA G) s.heap s.heap [] := va_S.rf
  generalize hargs : ([.ref (gAd G 29 0), .int (iI v1)] : List Value).toArray = args at X ⊢
  clear hargs
  unfold f_X12_lose at hf
  refine lv_aload_n X.1 X.2.1 dX12_lose_0 rfl (lv_at hl.1 0 rfl) ?_
  refine lv_iload_n X.1 X.2.1 dX12_lose_1 rfl (lv_at hl.1 1 rfl) ?_
  refine lv_iconst X.1 X.2.1 dX12_lose_2 (v := iI 0) rfl ?_
  refine lv_aload_n X.1 X.2.1 dX12_lose_3 rfl (lv_at hl.1 0 rfl) ?_
  have nd4 : nmI (M 29 0 21) := hH.1.1 _ _ _
  refine g_get X cX12 hH (r := 29) (i := 0) (by decide) rfl 21 (by decide) k_1231 rfl (v := .int (iI (M 29 0 21))) rfl dX12_lose_4 ?_
  refine lv_iconst X.1 X.2.1 dX12_lose_7 (v := iI 1) rfl ?_
  refine g_isub X dX12_lose_8 ?_
  refine gGoZ (gRunS X hH (As := [.int (iI v1), .int (iI 0), .int (iI (wI ((M 29 0 21) - 1)))]) (m_X12_in l G v1 nv1 0 (nmI_l (by decide)) (wI ((M 29 0 21) - 1)) (nmI_w _) M _ rfl) calX12_in k_1389 k_1388 ⟨by decide, by decide⟩ rfl hl rfl (Nat.le_of_ble_eq_true rfl) ⟨Nat.le_of_ble_eq_true rfl, Nat.le_of_ble_eq_true rfl⟩ dX12_lose_9) hS (fun H locs br9 hH hS => ?_)
  refine gGoZ (gRunV X hH (As := [.int (iI ((f_X12_in v1 0 (wI ((M 29 0 21) - 1)) M)))]) (m_X12_asked l G ((f_X12_in v1 0 (wI ((M 29 0 21) - 1)) M)) br9 M _ rfl) calX12_asked k_1393 k_30 k_1391 (by decide) cX12 rfl ⟨by decide, by decide⟩ rfl hl rfl (Nat.le_of_ble_eq_true rfl) ⟨Nat.le_of_ble_eq_true rfl, Nat.le_of_ble_eq_true rfl⟩ dX12_lose_12) hS (fun H locs br12 hH hS => ?_)
  refine g_if_ne X (nmI_b br12) (tgt := 20) dX12_lose_15 (by decide) (fun hc15 => ?_) (fun hc15 => ?_)
  · replace hf := it_f hf hc15
    refine lv_aload_n X.1 X.2.1 dX12_lose_20 rfl (lv_at hl.1 0 rfl) ?_
    refine g_get X cX12 hH (r := 29) (i := 0) (by decide) rfl 28 (by decide) k_1238 rfl (v := .ref (gAd G 52 0)) rfl dX12_lose_21 ?_
    refine lv_iload_n X.1 X.2.1 dX12_lose_24 rfl (lv_at hl.1 1 rfl) ?_
    obtain ⟨hg, hf_⟩ := og_e hf; clear hf; have hf := hf_; clear hf_
    have nd25 : nmI (((f_X12_asked ((f_X12_in v1 0 (wI ((M 29 0 21) - 1)) M)) M).2) 52 0 v1.toNat) := hH.1.1 _ _ _
    have bd25 := hH.1.2.1 52 0 v1.toNat rfl
    refine g_zald X hH (r := 52) (i := 0) (by decide) rfl nv1 hg (v := ((f_X12_asked ((f_X12_in v1 0 (wI ((M 29 0 21) - 1)) M)) M).2) 52 0 v1.toNat) rfl dX12_lose_25 ?_
    obtain ⟨k34, ek34, hf_⟩ := oj_e hf; clear hf; have hf := hf_; clear hf_
    have hk34 : ∀ (xs0_34 : Int) (bxs0_34 : xs0_34 = 0 ∨ xs0_34 = 1), k34 xs0_34 = some q → ∀ (H : Heap) (locs : List Loc) (ls : Array Slot), gH G ((f_X12_asked ((f_X12_in v1 0 (wI ((M 29 0 21) - 1)) M)) M).2) H → va_S (gA G) s.heap H locs → gLv ls 3 [(0, .ref (gAd G 29 0)), (1, .int (iI v1))] → W p l e { frames := 1, cells := 0, slots := 0, locals := 22 } s m args below meth c H locs 0 0 (MQ below (gQz G q.1 q.2) args s 0 0 (gA G)) (F0 m 34 ls [.int (iI xs0_34)]) := by
      intro xs0_34 bxs0_34 hf H locs ls hH hS hl
      subst ek34
      refine g_istore_n X (lv' := [(2, .int (iI xs0_34)), (0, .ref (gAd G 29 0)), (1, .int (iI v1))]) dX12_lose_34 rfl hl (by decide) rfl (fun ls hl => ?_)
      refine lv_aload_n X.1 X.2.1 dX12_lose_35 rfl (lv_at hl.1 1 rfl) ?_
      refine g_get X cX12 hH (r := 29) (i := 0) (by decide) rfl 28 (by decide) k_1238 rfl (v := .ref (gAd G 52 0)) rfl dX12_lose_36 ?_
      refine lv_iload_n X.1 X.2.1 dX12_lose_39 rfl (lv_at hl.1 2 rfl) ?_
      refine lv_iconst X.1 X.2.1 dX12_lose_40 (v := iI 1) rfl ?_
      obtain ⟨hg, hf_⟩ := og_e hf; clear hf; have hf := hf_; clear hf_
      refine g_zast X hH hS (r := 52) (i := 0) (by decide) (fun _ => rfl) nv1 hg (by decide) dX12_lose_41 (fun H locs hH hS => ?_)
      refine lv_iload_n X.1 X.2.1 dX12_lose_42 rfl (lv_at hl.1 0 rfl) ?_
      have hq := Option.some.inj hf; subst hq
      exact gRetZ X hH hS (res := xs0_34) bxs0_34 dX12_lose_43
    clear ek34
    refine g_if_ne X nd25 (tgt := 33) dX12_lose_26 (by decide) (fun hc26 => ?_) (fun hc26 => ?_)
    · replace hf := it_f hf hc26
      refine lv_iconst X.1 X.2.1 dX12_lose_33 (v := iI 0) rfl ?_
      exact hk34 0 (by decide) hf _ _ _ hH hS (gLv_sub hl [0, 1] rfl)
    · replace hf := it_t hf hc26
      refine lv_iconst X.1 X.2.1 dX12_lose_29 (v := iI 1) rfl ?_
      refine lv_goto (tgt := 34) X.1 X.2.1 dX12_lose_30 (by decide) ?_
      exact hk34 1 (by decide) hf _ _ _ hH hS (gLv_sub hl [0, 1] rfl)
  · replace hf := it_t hf hc15
    refine lv_iconst X.1 X.2.1 dX12_lose_18 (v := iI 0) rfl ?_
    have hq := Option.some.inj hf; subst hq
    exact gRetZ X hH hS (res := 0) (by decide) dX12_lose_19
theorem w_X12_workerAt_L2 {G : gG} {p : Program} {l : Launch} {e : Env} {s : State} {m : MethodId} {args : Array Value} {below : List Frame} {meth : Method} {c : Code} (X : gX G p s m args meth c RX12 cX12_workerAt 3 (some .int) (gWs yX12_workerAt cX12_workerAt 3 (some .int))) (k25 : Option (Int)) (z1 : Int) (nz1 : nmI z1) (M : gM) (q : (Int)) (hk25 : k25 = some q → ∀ (H : Heap) (locs : List Loc) (ls : Array Slot), gH G M H → va_S (gA G) s.heap H locs → gLv ls 3 [] → W p l e { frames := 0, cells := 0, slots := 0, locals := 0 } s m args below meth c H locs 0 0 (MQ below (gQi G q M) args s 0 0 (gA G)) (F0 m 25 ls [])) : ∀ (n : Nat) (x2 : Int) (nx2 : nmI x2), f_X12_workerAt_L2 k25 z1 M n x2 = some q → ∀ (H : Heap) (locs : List Loc) (ls : Array Slot), gH G M H → va_S (gA G) s.heap H locs → gLv ls 3 [(0, .ref (gAd G 29 0)), (1, .int (iI z1)), (2, .int (iI x2))] → W p l e { frames := 0, cells := 0, slots := 0, locals := 0 } s m args below meth c H locs 0 0 (MQ below (gQi G q M) args s 0 0 (gA G)) (F0 m 2 ls []) := by
  intro n
  induction n with
  | zero =>
    intro x2 nx2 hf
    cases hf
  | succ n ih =>
    intro x2 nx2 hf H locs ls hH hS hl
    rw [f_X12_workerAt_L2] at hf
    refine lv_iload_n X.1 X.2.1 dX12_workerAt_2 rfl (lv_at hl.1 2 rfl) ?_
    refine lv_iconst X.1 X.2.1 dX12_workerAt_3 (v := iI 4) rfl ?_
    refine g_icmp_ge X nx2 (nmI_l (by decide)) (tgt := 25) dX12_workerAt_4 (by decide) (fun hc4 => ?_) (fun hc4 => ?_)
    · replace hf := it_f hf hc4
      exact hk25  hf _ _ _ hH hS (gLv_sub hl [] rfl)
    · replace hf := it_t hf hc4
      refine lv_aload_n X.1 X.2.1 dX12_workerAt_7 rfl (lv_at hl.1 0 rfl) ?_
      refine g_get X cX12 hH (r := 29) (i := 0) (by decide) rfl 30 (by decide) k_1240 rfl (v := .ref (gAd G 54 0)) rfl dX12_workerAt_8 ?_
      refine lv_iload_n X.1 X.2.1 dX12_workerAt_11 rfl (lv_at hl.1 2 rfl) ?_
      obtain ⟨hg, hf_⟩ := og_e hf; clear hf; have hf := hf_; clear hf_
      have nd12 : nmI (M 54 0 x2.toNat) := hH.1.1 _ _ _
      refine g_iald X hH (r := 54) (i := 0) (by decide) rfl nx2 hg (v := M 54 0 x2.toNat) rfl dX12_workerAt_12 ?_
      refine lv_iload_n X.1 X.2.1 dX12_workerAt_13 rfl (lv_at hl.1 1 rfl) ?_
      refine g_icmp_ne X nd12 nz1 (tgt := 19) dX12_workerAt_14 (by decide) (fun hc14 => ?_) (fun hc14 => ?_)
      · replace hf := it_f hf hc14
        refine g_iinc X (a := x2) (lv' := [(2, .int (iI (wI (x2 + 1)))), (0, .ref (gAd G 29 0)), (1, .int (iI z1))]) dX12_workerAt_19 hl (k := 2) rfl (by decide) rfl (fun ls hl => ?_)
        refine lv_goto (tgt := 2) X.1 X.2.1 dX12_workerAt_22 (by decide) ?_
        exact ih (wI (x2 + 1)) (nmI_w _) hf _ _ _ hH hS (gLv_sub hl [1, 2, 0] rfl)
      · replace hf := it_t hf hc14
        refine lv_iload_n X.1 X.2.1 dX12_workerAt_17 rfl (lv_at hl.1 2 rfl) ?_
        have hq := Option.some.inj hf; subst hq
        exact gRetI X hH hS (res := x2) nx2 dX12_workerAt_18
theorem m_X12_workerAt (l : Launch) (G : gG) (v1 : Int) (nv1 : nmI v1) (M : gM) (q : (Int)) (hf : f_X12_workerAt v1 M = some q) : gMet l yX12_workerAt cX12_workerAt 3 (some .int) 0 0 G M [.ref (gAd G 29 0), .int (iI v1)] (gQi G q M) := by
  refine gOfW (by decide) (by show _ ≤ 3; exact Nat.le_of_ble_eq_true rfl) rfl ?_
  intro p e s m below meth c X hH ls hl
  replace hl : gLv ls 3 [(0, .ref (gAd G 29 0)), (1, .int (iI v1))] := hl
  have hS : va_S (gA G) s.heap s.heap [] := va_S.rf
  generalize hargs : ([.ref (gAd G 29 0), .int (iI v1)] : List Value).toArray = args at X ⊢
  clear hargs
  unfold f_X12_workerAt at hf
  refine lv_iconst X.1 X.2.1 dX12_workerAt_0 (v := iI 0) rfl ?_
  refine g_istore_n X (lv' := [(2, .int (iI 0)), (0, .ref (gAd G 29 0)), (1, .int (iI v1))]) dX12_workerAt_1 rfl hl (by decide) rfl (fun ls hl => ?_)
  refine w_X12_workerAt_L2 X _ v1 nv1 M q ?_ 64 0 (nmI_l (by decide)) hf _ _ _ hH hS (gLv_sub hl [1, 2, 0] rfl)
  · intro  hf H locs ls hH hS hl
    refine lv_iconst X.1 X.2.1 dX12_workerAt_25 (v := iI (-1)) rfl ?_
    have hq := Option.some.inj hf; subst hq
    exact gRetI X hH hS (res := (-1)) (nmI_l (by decide)) dX12_workerAt_26
theorem m_X12_setPower (l : Launch) (G : gG) (v1 : Int) (nv1 : nmI v1) (v2 : Int) (nv2 : nmI v2) (M : gM) (q : (Int × gM)) (hf : f_X12_setPower v1 v2 M = some q) : gMet l yX12_setPower cX12_setPower 5 (some .int) 1 22 G M [.ref (gAd G 29 0), .int (iI v1), .int (iI v2)] (gQi G q.1 q.2) := by
  refine gOfW (by decide) (by show _ ≤ 5; exact Nat.le_of_ble_eq_true rfl) rfl ?_
  intro p e s m below meth c X hH ls hl
  replace hl : gLv ls 5 [(0, .ref (gAd G 29 0)), (1, .int (iI v1)), (2, .int (iI v2))] := hl
  have hS : va_S (gA G) s.heap s.heap [] := va_S.rf
  generalize hargs : ([.ref (gAd G 29 0), .int (iI v1), .int (iI v2)] : List Value).toArray = args at X ⊢
  clear hargs
  unfold f_X12_setPower at hf
  refine lv_aload_n X.1 X.2.1 dX12_setPower_0 rfl (lv_at hl.1 0 rfl) ?_
  refine lv_iload_n X.1 X.2.1 dX12_setPower_1 rfl (lv_at hl.1 1 rfl) ?_
  refine lv_iconst X.1 X.2.1 dX12_setPower_2 (v := iI 0) rfl ?_
  refine lv_iconst X.1 X.2.1 dX12_setPower_3 (v := iI 3) rfl ?_
  refine gGoZ (gRunS X hH (As := [.int (iI v1), .int (iI 0), .int (iI 3)]) (m_X12_in l G v1 nv1 0 (nmI_l (by decide)) 3 (nmI_l (by decide)) M _ rfl) calX12_in k_1389 k_1388 ⟨by decide, by decide⟩ rfl hl rfl (Nat.le_of_ble_eq_true rfl) ⟨Nat.le_of_ble_eq_true rfl, Nat.le_of_ble_eq_true rfl⟩ dX12_setPower_4) hS (fun H locs br4 hH hS => ?_)
  obtain ⟨k25, ek25, hf_⟩ := oj_e hf; clear hf; have hf := hf_; clear hf_
  have hk25 : ∀ (xs1_25 : Int) (bxs1_25 : xs1_25 = 0 ∨ xs1_25 = 1), k25 xs1_25 = some q → ∀ (H : Heap) (locs : List Loc) (ls : Array Slot), gH G M H → va_S (gA G) s.heap H locs → gLv ls 5 [(0, .ref (gAd G 29 0)), (1, .int (iI v1)), (2, .int (iI v2))] → W p l e { frames := 1, cells := 0, slots := 0, locals := 22 } s m args below meth c H locs 0 0 (MQ below (gQi G q.1 q.2) args s 0 0 (gA G)) (F0 m 25 ls [.int (iI xs1_25), .ref (gAd G 29 0)]) := by
    intro xs1_25 bxs1_25 hf H locs ls hH hS hl
    subst ek25
    refine gGoZ (gRunV X hH (As := [.int (iI xs1_25)]) (m_X12_asked l G xs1_25 bxs1_25 M _ rfl) calX12_asked k_1393 k_30 k_1391 (by decide) cX12 rfl ⟨by decide, by decide⟩ rfl hl rfl (Nat.le_of_ble_eq_true rfl) ⟨Nat.le_of_ble_eq_true rfl, Nat.le_of_ble_eq_true rfl⟩ dX12_setPower_25) hS (fun H locs br25 hH hS => ?_)
    refine g_if_ne X (nmI_b br25) (tgt := 33) dX12_setPower_28 (by decide) (fun hc28 => ?_) (fun hc28 => ?_)
    · replace hf := it_f hf hc28
      refine lv_aload_n X.1 X.2.1 dX12_setPower_33 rfl (lv_at hl.1 0 rfl) ?_
      refine g_get X cX12 hH (r := 29) (i := 0) (by decide) rfl 29 (by decide) k_1239 rfl (v := .ref (gAd G 53 0)) rfl dX12_setPower_34 ?_
      refine lv_iload_n X.1 X.2.1 dX12_setPower_37 rfl (lv_at hl.1 1 rfl) ?_
      obtain ⟨hg, hf_⟩ := og_e hf; clear hf; have hf := hf_; clear hf_
      have nd38 : nmI (((f_X12_asked xs1_25 M).2) 53 0 v1.toNat) := hH.1.1 _ _ _
      refine g_iald X hH (r := 53) (i := 0) (by decide) rfl nv1 hg (v := ((f_X12_asked xs1_25 M).2) 53 0 v1.toNat) rfl dX12_setPower_38 ?_
      refine g_istore_n X (lv' := [(3, .int (iI (((f_X12_asked xs1_25 M).2) 53 0 v1.toNat))), (0, .ref (gAd G 29 0)), (1, .int (iI v1)), (2, .int (iI v2))]) dX12_setPower_39 rfl hl (by decide) rfl (fun ls hl => ?_)
      refine lv_iload_n X.1 X.2.1 dX12_setPower_40 rfl (lv_at hl.1 0 rfl) ?_
      refine lv_iload_n X.1 X.2.1 dX12_setPower_41 rfl (lv_at hl.1 3 rfl) ?_
      refine g_icmp_eq X nd38 nv2 (tgt := 108) dX12_setPower_42 (by decide) (fun hc42 => ?_) (fun hc42 => ?_)
      · replace hf := it_t hf hc42
        refine lv_iload_n X.1 X.2.1 dX12_setPower_108 rfl (lv_at hl.1 0 rfl) ?_
        have hq := Option.some.inj hf; subst hq
        exact gRetI X hH hS (res := ((f_X12_asked xs1_25 M).2) 53 0 v1.toNat) nd38 dX12_setPower_109
      · replace hf := it_f hf hc42
        refine lv_aload_n X.1 X.2.1 dX12_setPower_45 rfl (lv_at hl.1 1 rfl) ?_
        refine g_get X cX12 hH (r := 29) (i := 0) (by decide) rfl 29 (by decide) k_1239 rfl (v := .ref (gAd G 53 0)) rfl dX12_setPower_46 ?_
        refine lv_iload_n X.1 X.2.1 dX12_setPower_49 rfl (lv_at hl.1 2 rfl) ?_
        refine lv_iload_n X.1 X.2.1 dX12_setPower_50 rfl (lv_at hl.1 3 rfl) ?_
        obtain ⟨hg, hf_⟩ := og_e hf; clear hf; have hf := hf_; clear hf_
        refine g_iast X hH hS (r := 53) (i := 0) (by decide) (fun _ => rfl) nv1 hg nv2 rfl (by decide) dX12_setPower_51 (fun H locs hH hS => ?_)
        refine lv_aload_n X.1 X.2.1 dX12_setPower_52 rfl (lv_at hl.1 1 rfl) ?_
        refine g_get X cX12 hH (r := 29) (i := 0) (by decide) rfl 35 (by decide) k_1245 rfl (v := .ref (gAd G 59 0)) rfl dX12_setPower_53 ?_
        refine lv_iload_n X.1 X.2.1 dX12_setPower_56 rfl (lv_at hl.1 2 rfl) ?_
        refine lv_iconst X.1 X.2.1 dX12_setPower_57 (v := iI (-1)) rfl ?_
        obtain ⟨hg, hf_⟩ := og_e hf; clear hf; have hf := hf_; clear hf_
        refine g_iast X hH hS (r := 59) (i := 0) (by decide) (fun _ => rfl) nv1 hg (nmI_l (by decide)) rfl (by decide) dX12_setPower_58 (fun H locs hH hS => ?_)
        refine lv_aload_n X.1 X.2.1 dX12_setPower_59 rfl (lv_at hl.1 1 rfl) ?_
        refine g_get X cX12 hH (r := 29) (i := 0) (by decide) rfl 30 (by decide) k_1240 rfl (v := .ref (gAd G 54 0)) rfl dX12_setPower_60 ?_
        refine lv_iload_n X.1 X.2.1 dX12_setPower_63 rfl (lv_at hl.1 2 rfl) ?_
        obtain ⟨hg, hf_⟩ := og_e hf; clear hf; have hf := hf_; clear hf_
        have nd64 : nmI ((gU (gU ((f_X12_asked xs1_25 M).2) 53 0 v1.toNat v2) 59 0 v1.toNat ((-1))) 54 0 v1.toNat) := hH.1.1 _ _ _
        refine g_iald X hH (r := 54) (i := 0) (by decide) rfl nv1 hg (v := (gU (gU ((f_X12_asked xs1_25 M).2) 53 0 v1.toNat v2) 59 0 v1.toNat ((-1))) 54 0 v1.toNat) rfl dX12_setPower_64 ?_
        refine g_istore X (lv' := [(4, .int (iI ((gU (gU ((f_X12_asked xs1_25 M).2) 53 0 v1.toNat v2) 59 0 v1.toNat ((-1))) 54 0 v1.toNat))), (3, .int (iI (((f_X12_asked xs1_25 M).2) 53 0 v1.toNat))), (0, .ref (gAd G 29 0)), (1, .int (iI v1)), (2, .int (iI v2))]) dX12_setPower_65 hl (by decide) rfl (fun ls hl => ?_)
        refine lv_aload_n X.1 X.2.1 dX12_setPower_67 rfl (lv_at hl.1 2 rfl) ?_
        refine g_get X cX12 hH (r := 29) (i := 0) (by decide) rfl 30 (by decide) k_1240 rfl (v := .ref (gAd G 54 0)) rfl dX12_setPower_68 ?_
        refine lv_iload_n X.1 X.2.1 dX12_setPower_71 rfl (lv_at hl.1 3 rfl) ?_
        refine lv_iconst X.1 X.2.1 dX12_setPower_72 (v := iI (-1)) rfl ?_
        obtain ⟨hg, hf_⟩ := og_e hf; clear hf; have hf := hf_; clear hf_
        refine g_iast X hH hS (r := 54) (i := 0) (by decide) (fun _ => rfl) nv1 hg (nmI_l (by decide)) rfl (by decide) dX12_setPower_73 (fun H locs hH hS => ?_)
        refine lv_iload X.1 X.2.1 dX12_setPower_74 (lv_at hl.1 0 rfl) ?_
        refine lv_iconst X.1 X.2.1 dX12_setPower_76 (v := iI (-1)) rfl ?_
        refine g_icmp_eq X nd64 (nmI_l (by decide)) (tgt := 108) dX12_setPower_77 (by decide) (fun hc77 => ?_) (fun hc77 => ?_)
        · replace hf := it_t hf hc77
          refine lv_iload_n X.1 X.2.1 dX12_setPower_108 rfl (lv_at hl.1 1 rfl) ?_
          have hq := Option.some.inj hf; subst hq
          exact gRetI X hH hS (res := ((f_X12_asked xs1_25 M).2) 53 0 v1.toNat) nd38 dX12_setPower_109
        · replace hf := it_f hf hc77
          refine lv_aload_n X.1 X.2.1 dX12_setPower_80 rfl (lv_at hl.1 2 rfl) ?_
          refine lv_iload X.1 X.2.1 dX12_setPower_81 (lv_at hl.1 0 rfl) ?_
          obtain ⟨r83, hq83, hf_⟩ := ob_e hf; clear hf; have hf := hf_; clear hf_
          refine gGoI (gRunV X hH (As := [.int (iI ((gU (gU ((f_X12_asked xs1_25 M).2) 53 0 v1.toNat v2) 59 0 v1.toNat ((-1))) 54 0 v1.toNat))]) (m_X12_workerAt l G ((gU (gU ((f_X12_asked xs1_25 M).2) 53 0 v1.toNat v2) 59 0 v1.toNat ((-1))) 54 0 v1.toNat) nd64 (gU (gU (gU ((f_X12_asked xs1_25 M).2) 53 0 v1.toNat v2) 59 0 v1.toNat ((-1))) 54 0 v1.toNat ((-1))) _ hq83) calX12_workerAt k_1467 k_37 k_1465 (by decide) cX12 rfl ⟨by decide, by decide⟩ rfl hl rfl (Nat.le_of_ble_eq_true rfl) ⟨Nat.le_of_ble_eq_true rfl, Nat.le_of_ble_eq_true rfl⟩ dX12_setPower_83) hS (fun H locs nr83 hH hS => ?_)
          refine lv_iconst X.1 X.2.1 dX12_setPower_86 (v := iI (-1)) rfl ?_
          refine g_icmp_ne X nr83 (nmI_l (by decide)) (tgt := 108) dX12_setPower_87 (by decide) (fun hc87 => ?_) (fun hc87 => ?_)
          · replace hf := it_f hf hc87
            refine lv_iload_n X.1 X.2.1 dX12_setPower_108 rfl (lv_at hl.1 1 rfl) ?_
            have hq := Option.some.inj hf; subst hq
            exact gRetI X hH hS (res := ((f_X12_asked xs1_25 M).2) 53 0 v1.toNat) nd38 dX12_setPower_109
          · replace hf := it_t hf hc87
            refine lv_aload_n X.1 X.2.1 dX12_setPower_90 rfl (lv_at hl.1 2 rfl) ?_
            refine g_get X cX12 hH (r := 29) (i := 0) (by decide) rfl 38 (by decide) k_1248 rfl (v := .ref (gAd G 60 0)) rfl dX12_setPower_91 ?_
            refine lv_iload X.1 X.2.1 dX12_setPower_94 (lv_at hl.1 0 rfl) ?_
            refine lv_iconst X.1 X.2.1 dX12_setPower_96 (v := iI 1) rfl ?_
            obtain ⟨hg, hf_⟩ := og_e hf; clear hf; have hf := hf_; clear hf_
            refine g_iast X hH hS (r := 60) (i := 0) (by decide) (fun _ => rfl) nd64 hg (nmI_l (by decide)) rfl (by decide) dX12_setPower_97 (fun H locs hH hS => ?_)
            refine lv_aload_n X.1 X.2.1 dX12_setPower_98 rfl (lv_at hl.1 2 rfl) ?_
            refine g_get X cX12 hH (r := 29) (i := 0) (by decide) rfl 47 (by decide) k_1257 rfl (v := .ref (gAd G 68 0)) rfl dX12_setPower_99 ?_
            refine lv_iconst X.1 X.2.1 dX12_setPower_102 (v := iI 2) rfl ?_
            refine lv_dup2_11 X.1 X.2.1 dX12_setPower_103 rfl rfl ?_
            obtain ⟨hg, hf_⟩ := og_e hf; clear hf; have hf := hf_; clear hf_
            have nd104 : nmI ((gU (gU (gU (gU ((f_X12_asked xs1_25 M).2) 53 0 v1.toNat v2) 59 0 v1.toNat ((-1))) 54 0 v1.toNat ((-1))) 60 0 ((gU (gU ((f_X12_asked xs1_25 M).2) 53 0 v1.toNat v2) 59 0 v1.toNat ((-1))) 54 0 v1.toNat).toNat 1) 68 0 2) := hH.1.1 _ _ _
            refine g_iald X hH (r := 68) (i := 0) (by decide) rfl (nmI_l (by decide)) hg (v := (gU (gU (gU (gU ((f_X12_asked xs1_25 M).2) 53 0 v1.toNat v2) 59 0 v1.toNat ((-1))) 54 0 v1.toNat ((-1))) 60 0 ((gU (gU ((f_X12_asked xs1_25 M).2) 53 0 v1.toNat v2) 59 0 v1.toNat ((-1))) 54 0 v1.toNat).toNat 1) 68 0 2) rfl dX12_setPower_104 ?_
            refine lv_iconst X.1 X.2.1 dX12_setPower_105 (v := iI 1) rfl ?_
            refine g_iadd X dX12_setPower_106 ?_
            obtain ⟨hg, hf_⟩ := og_e hf; clear hf; have hf := hf_; clear hf_
            refine g_iast X hH hS (r := 68) (i := 0) (by decide) (fun _ => rfl) (nmI_l (by decide)) hg (nmI_w _) rfl (by decide) dX12_setPower_107 (fun H locs hH hS => ?_)
            refine lv_iload_n X.1 X.2.1 dX12_setPower_108 rfl (lv_at hl.1 1 rfl) ?_
            have hq := Option.some.inj hf; subst hq
            exact gRetI X hH hS (res := ((f_X12_asked xs1_25 M).2) 53 0 v1.toNat) nd38 dX12_setPower_109
    · replace hf := it_t hf hc28
      refine lv_iconst X.1 X.2.1 dX12_setPower_31 (v := iI 0) rfl ?_
      have hq := Option.some.inj hf; subst hq
      exact gRetI X hH hS (res := 0) (nmI_l (by decide)) dX12_setPower_32
  clear ek25
  obtain ⟨k24, ek24, hf_⟩ := oj_e hf; clear hf; have hf := hf_; clear hf_
  have hk24 : k24 = some q → ∀ (H : Heap) (locs : List Loc) (ls : Array Slot), gH G M H → va_S (gA G) s.heap H locs → gLv ls 5 [(0, .ref (gAd G 29 0)), (1, .int (iI v1)), (2, .int (iI v2))] → W p l e { frames := 1, cells := 0, slots := 0, locals := 22 } s m args below meth c H locs 0 0 (MQ below (gQi G q.1 q.2) args s 0 0 (gA G)) (F0 m 24 ls [.ref (gAd G 29 0)]) := by
    intro  hf H locs ls hH hS hl
    subst ek24
    refine lv_iconst X.1 X.2.1 dX12_setPower_24 (v := iI 0) rfl ?_
    exact hk25 0 (by decide) hf _ _ _ hH hS (gLv_sub hl [0, 1, 2] rfl)
  clear ek24
  refine g_if_eq X (nmI_b br4) (tgt := 24) dX12_setPower_7 (by decide) (fun hc7 => ?_) (fun hc7 => ?_)
  · replace hf := it_t hf hc7
    exact hk24  hf _ _ _ hH hS (gLv_sub hl [0, 1, 2] rfl)
  · replace hf := it_f hf hc7
    refine lv_iload_n X.1 X.2.1 dX12_setPower_10 rfl (lv_at hl.1 2 rfl) ?_
    refine lv_iconst X.1 X.2.1 dX12_setPower_11 (v := iI 0) rfl ?_
    refine lv_bipush X.1 X.2.1 dX12_setPower_12 (v := iI 9) (by decide) ?_
    refine gGoZ (gRunS X hH (As := [.int (iI v2), .int (iI 0), .int (iI 9)]) (m_X12_in l G v2 nv2 0 (nmI_l (by decide)) 9 (nmI_l (by decide)) M _ rfl) calX12_in k_1389 k_1388 ⟨by decide, by decide⟩ rfl hl rfl (Nat.le_of_ble_eq_true rfl) ⟨Nat.le_of_ble_eq_true rfl, Nat.le_of_ble_eq_true rfl⟩ dX12_setPower_14) hS (fun H locs br14 hH hS => ?_)
    refine g_if_eq X (nmI_b br14) (tgt := 24) dX12_setPower_17 (by decide) (fun hc17 => ?_) (fun hc17 => ?_)
    · replace hf := it_t hf hc17
      exact hk24  hf _ _ _ hH hS (gLv_sub hl [0, 1, 2] rfl)
    · replace hf := it_f hf hc17
      refine lv_iconst X.1 X.2.1 dX12_setPower_20 (v := iI 1) rfl ?_
      refine lv_goto (tgt := 25) X.1 X.2.1 dX12_setPower_21 (by decide) ?_
      exact hk25 1 (by decide) hf _ _ _ hH hS (gLv_sub hl [0, 1, 2] rfl)
theorem m_X12_setWays (l : Launch) (G : gG) (v1 : Int) (bv1 : v1 = 0 ∨ v1 = 1) (v2 : Int) (bv2 : v2 = 0 ∨ v2 = 1) (M : gM) (q : gM) (hf : f_X12_setWays v1 v2 M = q) : gMet l yX12_setWays cX12_setWays 3 none 0 0 G M [.ref (gAd G 29 0), .int (iI v1), .int (iI v2)] (gQv G q) := by
  refine gOfW (by decide) (by show _ ≤ 3; exact Nat.le_of_ble_eq_true rfl) rfl ?_
  intro p e s m below meth c X hH ls hl
  replace hl : gLv ls 3 [(0, .ref (gAd G 29 0)), (1, .int (iI v1)), (2, .int (iI v2))] := hl
  have hS : va_S (gA G) s.heap s.heap [] := va_S.rf
  generalize hargs : ([.ref (gAd G 29 0), .int (iI v1), .int (iI v2)] : List Value).toArray = args at X ⊢
  clear hargs
  unfold f_X12_setWays at hf
  refine lv_aload_n X.1 X.2.1 dX12_setWays_0 rfl (lv_at hl.1 0 rfl) ?_
  refine lv_iconst X.1 X.2.1 dX12_setWays_1 (v := iI 0) rfl ?_
  refine g_putI X cX12 hH hS (r := 29) (i := 0) (by decide) rfl 0 (by decide) k_1210 rfl rfl rfl (Nat.le_of_ble_eq_true rfl) (x := 0) (nmI_l (by decide)) rfl rfl rfl dX12_setWays_2 (fun H locs hH hS => ?_)
  refine lv_aload_n X.1 X.2.1 dX12_setWays_5 rfl (lv_at hl.1 0 rfl) ?_
  refine lv_iload_n X.1 X.2.1 dX12_setWays_6 rfl (lv_at hl.1 1 rfl) ?_
  refine g_putZ X cX12 hH hS (r := 29) (i := 0) (by decide) rfl 19 (by decide) k_1229 rfl rfl rfl (Nat.le_of_ble_eq_true rfl) (x := v1) bv1 rfl dX12_setWays_7 (fun H locs hH hS => ?_)
  refine lv_aload_n X.1 X.2.1 dX12_setWays_10 rfl (lv_at hl.1 0 rfl) ?_
  refine lv_iload_n X.1 X.2.1 dX12_setWays_11 rfl (lv_at hl.1 2 rfl) ?_
  refine g_putZ X cX12 hH hS (r := 29) (i := 0) (by decide) rfl 20 (by decide) k_1230 rfl rfl rfl (Nat.le_of_ble_eq_true rfl) (x := v2) bv2 rfl dX12_setWays_12 (fun H locs hH hS => ?_)
  subst hf
  exact gRetV X hH hS dX12_setWays_15
theorem m_X12_inputOf (l : Launch) (G : gG) (v1 : Int) (nv1 : nmI v1) (v2 : Int) (nv2 : nmI v2) (M : gM) (q : (Int)) (hf : f_X12_inputOf v1 v2 M = some q) : gMet l yX12_inputOf cX12_inputOf 4 (some .int) 0 0 G M [.ref (gAd G 29 0), .int (iI v1), .int (iI v2)] (gQi G q M) := by
  refine gOfW (by decide) (by show _ ≤ 4; exact Nat.le_of_ble_eq_true rfl) rfl ?_
  intro p e s m below meth c X hH ls hl
  replace hl : gLv ls 4 [(0, .ref (gAd G 29 0)), (1, .int (iI v1)), (2, .int (iI v2))] := hl
  have hS : va_S (gA G) s.heap s.heap [] := va_S.rf
  generalize hargs : ([.ref (gAd G 29 0), .int (iI v1), .int (iI v2)] : List Value).toArray = args at X ⊢
  clear hargs
  unfold f_X12_inputOf at hf
  refine lv_iconst X.1 X.2.1 dX12_inputOf_0 (v := iI 4) rfl ?_
  refine lv_iload_n X.1 X.2.1 dX12_inputOf_1 rfl (lv_at hl.1 1 rfl) ?_
  refine g_imul X dX12_inputOf_2 ?_
  refine lv_iload_n X.1 X.2.1 dX12_inputOf_3 rfl (lv_at hl.1 2 rfl) ?_
  refine g_iadd X dX12_inputOf_4 ?_
  refine g_istore_n X (lv' := [(3, .int (iI (wI ((wI (4 * v1)) + v2)))), (0, .ref (gAd G 29 0)), (1, .int (iI v1)), (2, .int (iI v2))]) dX12_inputOf_5 rfl hl (by decide) rfl (fun ls hl => ?_)
  refine lv_aload_n X.1 X.2.1 dX12_inputOf_6 rfl (lv_at hl.1 1 rfl) ?_
  refine g_get X cX12 hH (r := 29) (i := 0) (by decide) rfl 16 (by decide) k_1226 rfl (v := .ref (gAd G 43 0)) rfl dX12_inputOf_7 ?_
  refine lv_iload_n X.1 X.2.1 dX12_inputOf_10 rfl (lv_at hl.1 0 rfl) ?_
  obtain ⟨hg, hf_⟩ := og_e hf; clear hf; have hf := hf_; clear hf_
  have nd11 : nmI (M 43 0 (wI ((wI (4 * v1)) + v2)).toNat) := hH.1.1 _ _ _
  refine g_iald X hH (r := 43) (i := 0) (by decide) rfl (nmI_w _) hg (v := M 43 0 (wI ((wI (4 * v1)) + v2)).toNat) rfl dX12_inputOf_11 ?_
  refine lv_iconst X.1 X.2.1 dX12_inputOf_12 (v := iI (-1)) rfl ?_
  obtain ⟨k36, ek36, hf_⟩ := oj_e hf; clear hf; have hf := hf_; clear hf_
  have hk36 : k36 = some q → ∀ (H : Heap) (locs : List Loc) (ls : Array Slot), gH G M H → va_S (gA G) s.heap H locs → gLv ls 4 [(0, .ref (gAd G 29 0)), (3, .int (iI (wI ((wI (4 * v1)) + v2))))] → W p l e { frames := 0, cells := 0, slots := 0, locals := 0 } s m args below meth c H locs 0 0 (MQ below (gQi G q M) args s 0 0 (gA G)) (F0 m 36 ls []) := by
    intro  hf H locs ls hH hS hl
    subst ek36
    refine lv_aload_n X.1 X.2.1 dX12_inputOf_36 rfl (lv_at hl.1 0 rfl) ?_
    refine g_get X cX12 hH (r := 29) (i := 0) (by decide) rfl 15 (by decide) k_1225 rfl (v := .ref (gAd G 42 0)) rfl dX12_inputOf_37 ?_
    refine lv_iload_n X.1 X.2.1 dX12_inputOf_40 rfl (lv_at hl.1 1 rfl) ?_
    obtain ⟨hg, hf_⟩ := og_e hf; clear hf; have hf := hf_; clear hf_
    have nd41 : nmI (M 42 0 (wI ((wI (4 * v1)) + v2)).toNat) := hH.1.1 _ _ _
    refine g_iald X hH (r := 42) (i := 0) (by decide) rfl (nmI_w _) hg (v := M 42 0 (wI ((wI (4 * v1)) + v2)).toNat) rfl dX12_inputOf_41 ?_
    refine lv_goto (tgt := 51) X.1 X.2.1 dX12_inputOf_42 (by decide) ?_
    have hq := Option.some.inj hf; subst hq
    exact gRetI X hH hS (res := M 42 0 (wI ((wI (4 * v1)) + v2)).toNat) nd41 dX12_inputOf_51
  clear ek36
  refine g_icmp_eq X nd11 (nmI_l (by decide)) (tgt := 36) dX12_inputOf_13 (by decide) (fun hc13 => ?_) (fun hc13 => ?_)
  · replace hf := it_t hf hc13
    exact hk36  hf _ _ _ hH hS (gLv_sub hl [1, 0] rfl)
  · replace hf := it_f hf hc13
    refine lv_aload_n X.1 X.2.1 dX12_inputOf_16 rfl (lv_at hl.1 1 rfl) ?_
    refine g_get X cX12 hH (r := 29) (i := 0) (by decide) rfl 2 (by decide) k_1212 rfl (v := .ref (gAd G 31 0)) rfl dX12_inputOf_17 ?_
    refine lv_aload_n X.1 X.2.1 dX12_inputOf_20 rfl (lv_at hl.1 1 rfl) ?_
    refine g_get X cX12 hH (r := 29) (i := 0) (by decide) rfl 17 (by decide) k_1227 rfl (v := .ref (gAd G 44 0)) rfl dX12_inputOf_21 ?_
    refine lv_iload_n X.1 X.2.1 dX12_inputOf_24 rfl (lv_at hl.1 0 rfl) ?_
    obtain ⟨hg, hf_⟩ := og_e hf; clear hf; have hf := hf_; clear hf_
    have nd25 : nmI (M 44 0 (wI ((wI (4 * v1)) + v2)).toNat) := hH.1.1 _ _ _
    refine g_iald X hH (r := 44) (i := 0) (by decide) rfl (nmI_w _) hg (v := M 44 0 (wI ((wI (4 * v1)) + v2)).toNat) rfl dX12_inputOf_25 ?_
    obtain ⟨hg, hf_⟩ := og_e hf; clear hf; have hf := hf_; clear hf_
    have nd26 : nmI (M 31 0 (M 44 0 (wI ((wI (4 * v1)) + v2)).toNat).toNat) := hH.1.1 _ _ _
    refine g_iald X hH (r := 31) (i := 0) (by decide) rfl nd25 hg (v := M 31 0 (M 44 0 (wI ((wI (4 * v1)) + v2)).toNat).toNat) rfl dX12_inputOf_26 ?_
    refine lv_aload_n X.1 X.2.1 dX12_inputOf_27 rfl (lv_at hl.1 1 rfl) ?_
    refine g_get X cX12 hH (r := 29) (i := 0) (by decide) rfl 18 (by decide) k_1228 rfl (v := .ref (gAd G 45 0)) rfl dX12_inputOf_28 ?_
    refine lv_iload_n X.1 X.2.1 dX12_inputOf_31 rfl (lv_at hl.1 0 rfl) ?_
    obtain ⟨hg, hf_⟩ := og_e hf; clear hf; have hf := hf_; clear hf_
    have nd32 : nmI (M 45 0 (wI ((wI (4 * v1)) + v2)).toNat) := hH.1.1 _ _ _
    refine g_iald X hH (r := 45) (i := 0) (by decide) rfl (nmI_w _) hg (v := M 45 0 (wI ((wI (4 * v1)) + v2)).toNat) rfl dX12_inputOf_32 ?_
    refine g_icmp_ne X nd26 nd32 (tgt := 45) dX12_inputOf_33 (by decide) (fun hc33 => ?_) (fun hc33 => ?_)
    · replace hf := it_f hf hc33
      refine lv_aload_n X.1 X.2.1 dX12_inputOf_45 rfl (lv_at hl.1 1 rfl) ?_
      refine g_get X cX12 hH (r := 29) (i := 0) (by decide) rfl 16 (by decide) k_1226 rfl (v := .ref (gAd G 43 0)) rfl dX12_inputOf_46 ?_
      refine lv_iload_n X.1 X.2.1 dX12_inputOf_49 rfl (lv_at hl.1 0 rfl) ?_
      obtain ⟨hg, hf_⟩ := og_e hf; clear hf; have hf := hf_; clear hf_
      have nd50 : nmI (M 43 0 (wI ((wI (4 * v1)) + v2)).toNat) := hH.1.1 _ _ _
      refine g_iald X hH (r := 43) (i := 0) (by decide) rfl (nmI_w _) hg (v := M 43 0 (wI ((wI (4 * v1)) + v2)).toNat) rfl dX12_inputOf_50 ?_
      have hq := Option.some.inj hf; subst hq
      exact gRetI X hH hS (res := M 43 0 (wI ((wI (4 * v1)) + v2)).toNat) nd50 dX12_inputOf_51
    · replace hf := it_t hf hc33
      exact hk36  hf _ _ _ hH hS (gLv_sub hl [1, 0] rfl)
theorem w_X12_neededBy_L16 {G : gG} {p : Program} {l : Launch} {e : Env} {s : State} {m : MethodId} {args : Array Value} {below : List Frame} {meth : Method} {c : Code} (X : gX G p s m args meth c RX12 cX12_neededBy 6 (some .int) (gWs yX12_neededBy cX12_neededBy 6 (some .int))) (k72 : Int → Option (Int)) (z3 : Int) (nz3 : nmI z3) (M : gM) (q : (Int)) (hk72 : ∀ (x2 : Int) (nx2 : nmI x2), k72 x2 = some q → ∀ (H : Heap) (locs : List Loc) (ls : Array Slot), gH G M H → va_S (gA G) s.heap H locs → gLv ls 6 [(0, .ref (gAd G 29 0)), (2, .int (iI x2)), (3, .int (iI z3))] → W p l e { frames := 1, cells := 0, slots := 0, locals := 23 } s m args below meth c H locs 0 0 (MQ below (gQi G q M) args s 0 0 (gA G)) (F0 m 72 ls [])) : ∀ (n : Nat) (x2 : Int) (nx2 : nmI x2) (x4 : Int) (nx4 : nmI x4), f_X12_neededBy_L16 k72 z3 M n x2 x4 = some q → ∀ (H : Heap) (locs : List Loc) (ls : Array Slot), gH G M H → va_S (gA G) s.heap H locs → gLv ls 6 [(0, .ref (gAd G 29 0)), (2, .int (iI x2)), (3, .int (iI z3)), (4, .int (iI x4))] → W p l e { frames := 1, cells := 0, slots := 0, locals := 23 } s m args below meth c H locs 0 0 (MQ below (gQi G q M) args s 0 0 (gA G)) (F0 m 16 ls []) := by
  intro n
  induction n with
  | zero =>
    intro x2 nx2 x4 nx4 hf
    cases hf
  | succ n ih =>
    intro x2 nx2 x4 nx4 hf H locs ls hH hS hl
    rw [f_X12_neededBy_L16] at hf
    refine lv_iload X.1 X.2.1 dX12_neededBy_16 (lv_at hl.1 3 rfl) ?_
    refine lv_aload_n X.1 X.2.1 dX12_neededBy_18 rfl (lv_at hl.1 0 rfl) ?_
    refine g_get X cX12 hH (r := 29) (i := 0) (by decide) rfl 14 (by decide) k_1224 rfl (v := .ref (gAd G 41 0)) rfl dX12_neededBy_19 ?_
    refine lv_iload_n X.1 X.2.1 dX12_neededBy_22 rfl (lv_at hl.1 2 rfl) ?_
    obtain ⟨hg, hf_⟩ := og_e hf; clear hf; have hf := hf_; clear hf_
    have nd23 : nmI (M 41 0 z3.toNat) := hH.1.1 _ _ _
    refine g_iald X hH (r := 41) (i := 0) (by decide) rfl nz3 hg (v := M 41 0 z3.toNat) rfl dX12_neededBy_23 ?_
    refine g_icmp_ge X nx4 nd23 (tgt := 72) dX12_neededBy_24 (by decide) (fun hc24 => ?_) (fun hc24 => ?_)
    · replace hf := it_f hf hc24
      exact hk72 x2 nx2 hf _ _ _ hH hS (gLv_sub hl [0, 1, 2] rfl)
    · replace hf := it_t hf hc24
      refine lv_iload_n X.1 X.2.1 dX12_neededBy_27 rfl (lv_at hl.1 1 rfl) ?_
      refine lv_iload_n X.1 X.2.1 dX12_neededBy_28 rfl (lv_at hl.1 2 rfl) ?_
      refine g_ishr X dX12_neededBy_29 ?_
      refine lv_iconst X.1 X.2.1 dX12_neededBy_30 (v := iI 1) rfl ?_
      refine g_iand X dX12_neededBy_31 ?_
      refine lv_iconst X.1 X.2.1 dX12_neededBy_32 (v := iI 1) rfl ?_
      refine g_icmp_ne X (nmI_and _ _) (nmI_l (by decide)) (tgt := 72) dX12_neededBy_33 (by decide) (fun hc33 => ?_) (fun hc33 => ?_)
      · replace hf := it_f hf hc33
        exact hk72 x2 nx2 hf _ _ _ hH hS (gLv_sub hl [0, 1, 2] rfl)
      · replace hf := it_t hf hc33
        refine lv_aload_n X.1 X.2.1 dX12_neededBy_36 rfl (lv_at hl.1 0 rfl) ?_
        refine lv_iload_n X.1 X.2.1 dX12_neededBy_37 rfl (lv_at hl.1 2 rfl) ?_
        refine lv_iload X.1 X.2.1 dX12_neededBy_38 (lv_at hl.1 3 rfl) ?_
        obtain ⟨r40, hq40, hf_⟩ := ob_e hf; clear hf; have hf := hf_; clear hf_
        refine gGoI (gRunV X hH (As := [.int (iI z3), .int (iI x4)]) (m_X12_inputOf l G z3 nz3 x4 nx4 M _ hq40) calX12_inputOf k_1483 k_39 k_1481 (by decide) cX12 rfl ⟨by decide, by decide⟩ rfl hl rfl (Nat.le_of_ble_eq_true rfl) ⟨Nat.le_of_ble_eq_true rfl, Nat.le_of_ble_eq_true rfl⟩ dX12_neededBy_40) hS (fun H locs nr40 hH hS => ?_)
        refine g_istore X (lv' := [(5, .int (iI r40)), (0, .ref (gAd G 29 0)), (2, .int (iI x2)), (3, .int (iI z3)), (4, .int (iI x4))]) dX12_neededBy_43 hl (by decide) rfl (fun ls hl => ?_)
        refine lv_iload_n X.1 X.2.1 dX12_neededBy_45 rfl (lv_at hl.1 2 rfl) ?_
        refine lv_iload X.1 X.2.1 dX12_neededBy_46 (lv_at hl.1 0 rfl) ?_
        refine lv_bipush X.1 X.2.1 dX12_neededBy_48 (v := iI 16) (by decide) ?_
        obtain ⟨k64, ek64, hf_⟩ := oj_e hf; clear hf; have hf := hf_; clear hf_
        have hk64 : ∀ (xs1_64 : Int) (nxs1_64 : nmI xs1_64), k64 xs1_64 = some q → ∀ (H : Heap) (locs : List Loc) (ls : Array Slot), gH G M H → va_S (gA G) s.heap H locs → gLv ls 6 [(0, .ref (gAd G 29 0)), (3, .int (iI z3)), (4, .int (iI x4))] → W p l e { frames := 1, cells := 0, slots := 0, locals := 23 } s m args below meth c H locs 0 0 (MQ below (gQi G q M) args s 0 0 (gA G)) (F0 m 64 ls [.int (iI xs1_64), .int (iI x2)]) := by
          intro xs1_64 nxs1_64 hf H locs ls hH hS hl
          subst ek64
          refine g_ior X dX12_neededBy_64 ?_
          refine g_istore_n X (lv' := [(2, .int (iI (gOr x2 xs1_64))), (0, .ref (gAd G 29 0)), (3, .int (iI z3)), (4, .int (iI x4))]) dX12_neededBy_65 rfl hl (by decide) rfl (fun ls hl => ?_)
          refine g_iinc X (a := x4) (lv' := [(4, .int (iI (wI (x4 + 1)))), (2, .int (iI (gOr x2 xs1_64))), (0, .ref (gAd G 29 0)), (3, .int (iI z3))]) dX12_neededBy_66 hl (k := 3) rfl (by decide) rfl (fun ls hl => ?_)
          refine lv_goto (tgt := 16) X.1 X.2.1 dX12_neededBy_69 (by decide) ?_
          exact ih (gOr x2 xs1_64) (nmI_or _ _) (wI (x4 + 1)) (nmI_w _) hf _ _ _ hH hS (gLv_sub hl [2, 1, 3, 0] rfl)
        clear ek64
        refine g_icmp_lt X nr40 (nmI_l (by decide)) (tgt := 63) dX12_neededBy_50 (by decide) (fun hc50 => ?_) (fun hc50 => ?_)
        · replace hf := it_t hf hc50
          refine lv_iconst X.1 X.2.1 dX12_neededBy_63 (v := iI 0) rfl ?_
          exact hk64 0 (nmI_l (by decide)) hf _ _ _ hH hS (gLv_sub hl [1, 3, 4] rfl)
        · replace hf := it_f hf hc50
          refine lv_iconst X.1 X.2.1 dX12_neededBy_53 (v := iI 1) rfl ?_
          refine lv_iload X.1 X.2.1 dX12_neededBy_54 (lv_at hl.1 0 rfl) ?_
          refine lv_bipush X.1 X.2.1 dX12_neededBy_56 (v := iI 16) (by decide) ?_
          refine g_isub X dX12_neededBy_58 ?_
          refine g_ishl X dX12_neededBy_59 ?_
          refine lv_goto (tgt := 64) X.1 X.2.1 dX12_neededBy_60 (by decide) ?_
          exact hk64 (gShl 1 (wI (r40 - 16))) (nmI_shl _ _) hf _ _ _ hH hS (gLv_sub hl [1, 3, 4] rfl)
theorem w_X12_neededBy_L9 {G : gG} {p : Program} {l : Launch} {e : Env} {s : State} {m : MethodId} {args : Array Value} {below : List Frame} {meth : Method} {c : Code} (X : gX G p s m args meth c RX12 cX12_neededBy 6 (some .int) (gWs yX12_neededBy cX12_neededBy 6 (some .int))) (k78 : Int → Option (Int)) (M : gM) (q : (Int)) (hk78 : ∀ (x2 : Int) (nx2 : nmI x2), k78 x2 = some q → ∀ (H : Heap) (locs : List Loc) (ls : Array Slot), gH G M H → va_S (gA G) s.heap H locs → gLv ls 6 [(2, .int (iI x2))] → W p l e { frames := 1, cells := 0, slots := 0, locals := 23 } s m args below meth c H locs 0 0 (MQ below (gQi G q M) args s 0 0 (gA G)) (F0 m 78 ls [])) : ∀ (n : Nat) (x2 : Int) (nx2 : nmI x2) (x3 : Int) (nx3 : nmI x3), f_X12_neededBy_L9 k78 M n x2 x3 = some q → ∀ (H : Heap) (locs : List Loc) (ls : Array Slot), gH G M H → va_S (gA G) s.heap H locs → gLv ls 6 [(0, .ref (gAd G 29 0)), (2, .int (iI x2)), (3, .int (iI x3))] → W p l e { frames := 1, cells := 0, slots := 0, locals := 23 } s m args below meth c H locs 0 0 (MQ below (gQi G q M) args s 0 0 (gA G)) (F0 m 9 ls []) := by
  intro n
  induction n with
  | zero =>
    intro x2 nx2 x3 nx3 hf
    cases hf
  | succ n ih =>
    intro x2 nx2 x3 nx3 hf H locs ls hH hS hl
    rw [f_X12_neededBy_L9] at hf
    refine lv_iload_n X.1 X.2.1 dX12_neededBy_9 rfl (lv_at hl.1 2 rfl) ?_
    refine g_if_lt X nx3 (tgt := 78) dX12_neededBy_10 (by decide) (fun hc10 => ?_) (fun hc10 => ?_)
    · replace hf := it_t hf hc10
      exact hk78 x2 nx2 hf _ _ _ hH hS (gLv_sub hl [1] rfl)
    · replace hf := it_f hf hc10
      refine lv_iconst X.1 X.2.1 dX12_neededBy_13 (v := iI 0) rfl ?_
      refine g_istore X (lv' := [(4, .int (iI 0)), (0, .ref (gAd G 29 0)), (2, .int (iI x2)), (3, .int (iI x3))]) dX12_neededBy_14 hl (by decide) rfl (fun ls hl => ?_)
      refine w_X12_neededBy_L16 X _ x3 nx3 M q ?_ 64 x2 nx2 0 (nmI_l (by decide)) hf _ _ _ hH hS (gLv_sub hl [1, 2, 3, 0] rfl)
      · intro y2_16_72 ny2_16_72 hf H locs ls hH hS hl
        refine g_iinc X (a := x3) (lv' := [(3, .int (iI (wI (x3 + (-1))))), (0, .ref (gAd G 29 0)), (2, .int (iI y2_16_72))]) dX12_neededBy_72 hl (k := 2) rfl (by decide) rfl (fun ls hl => ?_)
        refine lv_goto (tgt := 9) X.1 X.2.1 dX12_neededBy_75 (by decide) ?_
        exact ih y2_16_72 ny2_16_72 (wI (x3 + (-1))) (nmI_w _) hf _ _ _ hH hS (gLv_sub hl [1, 2, 0] rfl)
theorem m_X12_neededBy (l : Launch) (G : gG) (v1 : Int) (nv1 : nmI v1) (M : gM) (q : (Int)) (hf : f_X12_neededBy v1 M = some q) : gMet l yX12_neededBy cX12_neededBy 6 (some .int) 1 23 G M [.ref (gAd G 29 0), .int (iI v1)] (gQi G q M) := by
  refine gOfW (by decide) (by show _ ≤ 6; exact Nat.le_of_ble_eq_true rfl) rfl ?_
  intro p e s m below meth c X hH ls hl
  replace hl : gLv ls 6 [(0, .ref (gAd G 29 0)), (1, .int (iI v1))] := hl
  have hS : va_S (gA G) s.heap s.heap [] := va_S.rf
  generalize hargs : ([.ref (gAd G 29 0), .int (iI v1)] : List Value).toArray = args at X ⊢
  clear hargs
  unfold f_X12_neededBy at hf
  refine lv_iload_n X.1 X.2.1 dX12_neededBy_0 rfl (lv_at hl.1 1 rfl) ?_
  refine g_istore_n X (lv' := [(2, .int (iI v1)), (0, .ref (gAd G 29 0)), (1, .int (iI v1))]) dX12_neededBy_1 rfl hl (by decide) rfl (fun ls hl => ?_)
  refine lv_aload_n X.1 X.2.1 dX12_neededBy_2 rfl (lv_at hl.1 1 rfl) ?_
  have nd3 : nmI (M 29 0 7) := hH.1.1 _ _ _
  refine g_get X cX12 hH (r := 29) (i := 0) (by decide) rfl 7 (by decide) k_1217 rfl (v := .int (iI (M 29 0 7))) rfl dX12_neededBy_3 ?_
  refine lv_iconst X.1 X.2.1 dX12_neededBy_6 (v := iI 1) rfl ?_
  refine g_isub X dX12_neededBy_7 ?_
  refine g_istore_n X (lv' := [(3, .int (iI (wI ((M 29 0 7) - 1)))), (2, .int (iI v1)), (0, .ref (gAd G 29 0)), (1, .int (iI v1))]) dX12_neededBy_8 rfl hl (by decide) rfl (fun ls hl => ?_)
  refine w_X12_neededBy_L9 X _ M q ?_ 64 v1 nv1 (wI ((M 29 0 7) - 1)) (nmI_w _) hf _ _ _ hH hS (gLv_sub hl [2, 1, 0] rfl)
  · intro y2_9_78 ny2_9_78 hf H locs ls hH hS hl
    refine lv_iload_n X.1 X.2.1 dX12_neededBy_78 rfl (lv_at hl.1 0 rfl) ?_
    have hq := Option.some.inj hf; subst hq
    exact gRetI X hH hS (res := y2_9_78) ny2_9_78 dX12_neededBy_79
theorem m_X12_isNeeded (l : Launch) (G : gG) (v1 : Int) (nv1 : nmI v1) (M : gM) (q : (Int)) (hf : f_X12_isNeeded v1 M = q) : gMet l yX12_isNeeded cX12_isNeeded 2 (some .boolean) 0 0 G M [.ref (gAd G 29 0), .int (iI v1)] (gQz G q M) := by
  refine gOfW (by decide) (by show _ ≤ 2; exact Nat.le_of_ble_eq_true rfl) rfl ?_
  intro p e s m below meth c X hH ls hl
  replace hl : gLv ls 2 [(0, .ref (gAd G 29 0)), (1, .int (iI v1))] := hl
  have hS : va_S (gA G) s.heap s.heap [] := va_S.rf
  generalize hargs : ([.ref (gAd G 29 0), .int (iI v1)] : List Value).toArray = args at X ⊢
  clear hargs
  unfold f_X12_isNeeded at hf
  refine lv_aload_n X.1 X.2.1 dX12_isNeeded_0 rfl (lv_at hl.1 0 rfl) ?_
  have nd1 : nmI (M 29 0 37) := hH.1.1 _ _ _
  refine g_get X cX12 hH (r := 29) (i := 0) (by decide) rfl 37 (by decide) k_1247 rfl (v := .int (iI (M 29 0 37))) rfl dX12_isNeeded_1 ?_
  refine lv_iload_n X.1 X.2.1 dX12_isNeeded_4 rfl (lv_at hl.1 1 rfl) ?_
  refine g_ishr X dX12_isNeeded_5 ?_
  refine lv_iconst X.1 X.2.1 dX12_isNeeded_6 (v := iI 1) rfl ?_
  refine g_iand X dX12_isNeeded_7 ?_
  refine lv_iconst X.1 X.2.1 dX12_isNeeded_8 (v := iI 1) rfl ?_
  refine g_icmp_ne X (nmI_and _ _) (nmI_l (by decide)) (tgt := 16) dX12_isNeeded_9 (by decide) (fun hc9 => ?_) (fun hc9 => ?_)
  · replace hf := it_f hf hc9
    refine lv_iconst X.1 X.2.1 dX12_isNeeded_16 (v := iI 0) rfl ?_
    subst hf
    exact gRetZ X hH hS (res := 0) (by decide) dX12_isNeeded_17
  · replace hf := it_t hf hc9
    refine lv_iconst X.1 X.2.1 dX12_isNeeded_12 (v := iI 1) rfl ?_
    refine lv_goto (tgt := 17) X.1 X.2.1 dX12_isNeeded_13 (by decide) ?_
    subst hf
    exact gRetZ X hH hS (res := 1) (by decide) dX12_isNeeded_17
theorem m_X12_keyBegin (l : Launch) (G : gG) (v1 : Int) (nv1 : nmI v1) (v2 : Int) (nv2 : nmI v2) (M : gM) (q : (Int)) (hf : f_X12_keyBegin v1 v2 M = some q) : gMet l yX12_keyBegin cX12_keyBegin 4 (some .int) 1 21 G M [.ref (gAd G 29 0), .int (iI v1), .int (iI v2)] (gQi G q M) := by
  refine gOfW (by decide) (by show _ ≤ 4; exact Nat.le_of_ble_eq_true rfl) rfl ?_
  intro p e s m below meth c X hH ls hl
  replace hl : gLv ls 4 [(0, .ref (gAd G 29 0)), (1, .int (iI v1)), (2, .int (iI v2))] := hl
  have hS : va_S (gA G) s.heap s.heap [] := va_S.rf
  generalize hargs : ([.ref (gAd G 29 0), .int (iI v1), .int (iI v2)] : List Value).toArray = args at X ⊢
  clear hargs
  unfold f_X12_keyBegin at hf
  refine lv_bipush X.1 X.2.1 dX12_keyBegin_0 (v := iI 7) (by decide) ?_
  refine lv_aload_n X.1 X.2.1 dX12_keyBegin_2 rfl (lv_at hl.1 0 rfl) ?_
  refine g_get X cX12 hH (r := 29) (i := 0) (by decide) rfl 8 (by decide) k_1218 rfl (v := .ref (gAd G 35 0)) rfl dX12_keyBegin_3 ?_
  refine lv_iload_n X.1 X.2.1 dX12_keyBegin_6 rfl (lv_at hl.1 1 rfl) ?_
  obtain ⟨hg, hf_⟩ := og_e hf; clear hf; have hf := hf_; clear hf_
  have nd7 : nmI (M 35 0 v1.toNat) := hH.1.1 _ _ _
  refine g_iald X hH (r := 35) (i := 0) (by decide) rfl nv1 hg (v := M 35 0 v1.toNat) rfl dX12_keyBegin_7 ?_
  refine gGoI (gRunS X hH (As := [.int (iI 7), .int (iI (M 35 0 v1.toNat))]) (m_X12_put l G 7 (nmI_l (by decide)) (M 35 0 v1.toNat) nd7 M _ rfl) calX12_put k_1449 k_1448 ⟨by decide, by decide⟩ rfl hl rfl (Nat.le_of_ble_eq_true rfl) ⟨Nat.le_of_ble_eq_true rfl, Nat.le_of_ble_eq_true rfl⟩ dX12_keyBegin_8) hS (fun H locs nr8 hH hS => ?_)
  refine lv_aload_n X.1 X.2.1 dX12_keyBegin_11 rfl (lv_at hl.1 0 rfl) ?_
  refine g_get X cX12 hH (r := 29) (i := 0) (by decide) rfl 9 (by decide) k_1219 rfl (v := .ref (gAd G 36 0)) rfl dX12_keyBegin_12 ?_
  refine lv_iload_n X.1 X.2.1 dX12_keyBegin_15 rfl (lv_at hl.1 1 rfl) ?_
  obtain ⟨hg, hf_⟩ := og_e hf; clear hf; have hf := hf_; clear hf_
  have nd16 : nmI (M 36 0 v1.toNat) := hH.1.1 _ _ _
  refine g_iald X hH (r := 36) (i := 0) (by decide) rfl nv1 hg (v := M 36 0 v1.toNat) rfl dX12_keyBegin_16 ?_
  refine gGoI (gRunS X hH (As := [.int (iI ((f_X12_put 7 (M 35 0 v1.toNat) M))), .int (iI (M 36 0 v1.toNat))]) (m_X12_put l G ((f_X12_put 7 (M 35 0 v1.toNat) M)) nr8 (M 36 0 v1.toNat) nd16 M _ rfl) calX12_put k_1449 k_1448 ⟨by decide, by decide⟩ rfl hl rfl (Nat.le_of_ble_eq_true rfl) ⟨Nat.le_of_ble_eq_true rfl, Nat.le_of_ble_eq_true rfl⟩ dX12_keyBegin_17) hS (fun H locs nr17 hH hS => ?_)
  refine g_istore_n X (lv' := [(3, .int (iI ((f_X12_put ((f_X12_put 7 (M 35 0 v1.toNat) M)) (M 36 0 v1.toNat) M)))), (0, .ref (gAd G 29 0)), (1, .int (iI v1)), (2, .int (iI v2))]) dX12_keyBegin_20 rfl hl (by decide) rfl (fun ls hl => ?_)
  refine lv_iload_n X.1 X.2.1 dX12_keyBegin_21 rfl (lv_at hl.1 0 rfl) ?_
  refine lv_aload_n X.1 X.2.1 dX12_keyBegin_22 rfl (lv_at hl.1 1 rfl) ?_
  refine g_get X cX12 hH (r := 29) (i := 0) (by decide) rfl 3 (by decide) k_1213 rfl (v := .ref (gAd G 32 0)) rfl dX12_keyBegin_23 ?_
  refine lv_aload_n X.1 X.2.1 dX12_keyBegin_26 rfl (lv_at hl.1 1 rfl) ?_
  refine g_get X cX12 hH (r := 29) (i := 0) (by decide) rfl 9 (by decide) k_1219 rfl (v := .ref (gAd G 36 0)) rfl dX12_keyBegin_27 ?_
  refine lv_iload_n X.1 X.2.1 dX12_keyBegin_30 rfl (lv_at hl.1 2 rfl) ?_
  obtain ⟨hg, hf_⟩ := og_e hf; clear hf; have hf := hf_; clear hf_
  have nd31 : nmI (M 36 0 v1.toNat) := hH.1.1 _ _ _
  refine g_iald X hH (r := 36) (i := 0) (by decide) rfl nv1 hg (v := M 36 0 v1.toNat) rfl dX12_keyBegin_31 ?_
  obtain ⟨hg, hf_⟩ := og_e hf; clear hf; have hf := hf_; clear hf_
  have nd32 : nmI (M 32 0 (M 36 0 v1.toNat).toNat) := hH.1.1 _ _ _
  refine g_iald X hH (r := 32) (i := 0) (by decide) rfl nd31 hg (v := M 32 0 (M 36 0 v1.toNat).toNat) rfl dX12_keyBegin_32 ?_
  refine gGoI (gRunS X hH (As := [.int (iI ((f_X12_put ((f_X12_put 7 (M 35 0 v1.toNat) M)) (M 36 0 v1.toNat) M))), .int (iI (M 32 0 (M 36 0 v1.toNat).toNat))]) (m_X12_put l G ((f_X12_put ((f_X12_put 7 (M 35 0 v1.toNat) M)) (M 36 0 v1.toNat) M)) nr17 (M 32 0 (M 36 0 v1.toNat).toNat) nd32 M _ rfl) calX12_put k_1449 k_1448 ⟨by decide, by decide⟩ rfl hl rfl (Nat.le_of_ble_eq_true rfl) ⟨Nat.le_of_ble_eq_true rfl, Nat.le_of_ble_eq_true rfl⟩ dX12_keyBegin_33) hS (fun H locs nr33 hH hS => ?_)
  refine lv_aload_n X.1 X.2.1 dX12_keyBegin_36 rfl (lv_at hl.1 1 rfl) ?_
  refine g_get X cX12 hH (r := 29) (i := 0) (by decide) rfl 10 (by decide) k_1220 rfl (v := .ref (gAd G 37 0)) rfl dX12_keyBegin_37 ?_
  refine lv_iload_n X.1 X.2.1 dX12_keyBegin_40 rfl (lv_at hl.1 2 rfl) ?_
  obtain ⟨hg, hf_⟩ := og_e hf; clear hf; have hf := hf_; clear hf_
  have nd41 : nmI (M 37 0 v1.toNat) := hH.1.1 _ _ _
  refine g_iald X hH (r := 37) (i := 0) (by decide) rfl nv1 hg (v := M 37 0 v1.toNat) rfl dX12_keyBegin_41 ?_
  refine gGoI (gRunS X hH (As := [.int (iI ((f_X12_put ((f_X12_put ((f_X12_put 7 (M 35 0 v1.toNat) M)) (M 36 0 v1.toNat) M)) (M 32 0 (M 36 0 v1.toNat).toNat) M))), .int (iI (M 37 0 v1.toNat))]) (m_X12_put l G ((f_X12_put ((f_X12_put ((f_X12_put 7 (M 35 0 v1.toNat) M)) (M 36 0 v1.toNat) M)) (M 32 0 (M 36 0 v1.toNat).toNat) M)) nr33 (M 37 0 v1.toNat) nd41 M _ rfl) calX12_put k_1449 k_1448 ⟨by decide, by decide⟩ rfl hl rfl (Nat.le_of_ble_eq_true rfl) ⟨Nat.le_of_ble_eq_true rfl, Nat.le_of_ble_eq_true rfl⟩ dX12_keyBegin_42) hS (fun H locs nr42 hH hS => ?_)
  refine lv_iload_n X.1 X.2.1 dX12_keyBegin_45 rfl (lv_at hl.1 3 rfl) ?_
  refine gGoI (gRunS X hH (As := [.int (iI ((f_X12_put ((f_X12_put ((f_X12_put ((f_X12_put 7 (M 35 0 v1.toNat) M)) (M 36 0 v1.toNat) M)) (M 32 0 (M 36 0 v1.toNat).toNat) M)) (M 37 0 v1.toNat) M))), .int (iI v2)]) (m_X12_put l G ((f_X12_put ((f_X12_put ((f_X12_put ((f_X12_put 7 (M 35 0 v1.toNat) M)) (M 36 0 v1.toNat) M)) (M 32 0 (M 36 0 v1.toNat).toNat) M)) (M 37 0 v1.toNat) M)) nr42 v2 nv2 M _ rfl) calX12_put k_1449 k_1448 ⟨by decide, by decide⟩ rfl hl rfl (Nat.le_of_ble_eq_true rfl) ⟨Nat.le_of_ble_eq_true rfl, Nat.le_of_ble_eq_true rfl⟩ dX12_keyBegin_46) hS (fun H locs nr46 hH hS => ?_)
  have hq := Option.some.inj hf; subst hq
  exact gRetI X hH hS (res := (f_X12_put ((f_X12_put ((f_X12_put ((f_X12_put ((f_X12_put 7 (M 35 0 v1.toNat) M)) (M 36 0 v1.toNat) M)) (M 32 0 (M 36 0 v1.toNat).toNat) M)) (M 37 0 v1.toNat) M)) v2 M)) nr46 dX12_keyBegin_49
theorem w_X12_digestOf_L5 {G : gG} {p : Program} {l : Launch} {e : Env} {s : State} {m : MethodId} {args : Array Value} {below : List Frame} {meth : Method} {c : Code} (X : gX G p s m args meth c RX12 cX12_digestOf 4 (some .int) (gWs yX12_digestOf cX12_digestOf 4 (some .int))) (k36 : Int → Option (Int)) (z1 : Int) (nz1 : nmI z1) (M : gM) (q : (Int)) (hk36 : ∀ (x2 : Int) (nx2 : nmI x2), k36 x2 = some q → ∀ (H : Heap) (locs : List Loc) (ls : Array Slot), gH G M H → va_S (gA G) s.heap H locs → gLv ls 4 [(2, .int (iI x2))] → W p l e { frames := 1, cells := 0, slots := 0, locals := 21 } s m args below meth c H locs 0 0 (MQ below (gQi G q M) args s 0 0 (gA G)) (F0 m 36 ls [])) : ∀ (n : Nat) (x2 : Int) (nx2 : nmI x2) (x3 : Int) (nx3 : nmI x3), f_X12_digestOf_L5 k36 z1 M n x2 x3 = some q → ∀ (H : Heap) (locs : List Loc) (ls : Array Slot), gH G M H → va_S (gA G) s.heap H locs → gLv ls 4 [(0, .ref (gAd G 29 0)), (1, .int (iI z1)), (2, .int (iI x2)), (3, .int (iI x3))] → W p l e { frames := 1, cells := 0, slots := 0, locals := 21 } s m args below meth c H locs 0 0 (MQ below (gQi G q M) args s 0 0 (gA G)) (F0 m 5 ls []) := by
  intro n
  induction n with
  | zero =>
    intro x2 nx2 x3 nx3 hf
    cases hf
  | succ n ih =>
    intro x2 nx2 x3 nx3 hf H locs ls hH hS hl
    rw [f_X12_digestOf_L5] at hf
    refine lv_iload_n X.1 X.2.1 dX12_digestOf_5 rfl (lv_at hl.1 3 rfl) ?_
    refine lv_aload_n X.1 X.2.1 dX12_digestOf_6 rfl (lv_at hl.1 0 rfl) ?_
    refine g_get X cX12 hH (r := 29) (i := 0) (by decide) rfl 11 (by decide) k_1221 rfl (v := .ref (gAd G 38 0)) rfl dX12_digestOf_7 ?_
    refine lv_iload_n X.1 X.2.1 dX12_digestOf_10 rfl (lv_at hl.1 1 rfl) ?_
    obtain ⟨hg, hf_⟩ := og_e hf; clear hf; have hf := hf_; clear hf_
    have nd11 : nmI (M 38 0 z1.toNat) := hH.1.1 _ _ _
    refine g_iald X hH (r := 38) (i := 0) (by decide) rfl nz1 hg (v := M 38 0 z1.toNat) rfl dX12_digestOf_11 ?_
    refine g_icmp_ge X nx3 nd11 (tgt := 36) dX12_digestOf_12 (by decide) (fun hc12 => ?_) (fun hc12 => ?_)
    · replace hf := it_f hf hc12
      exact hk36 x2 nx2 hf _ _ _ hH hS (gLv_sub hl [2] rfl)
    · replace hf := it_t hf hc12
      refine lv_iload_n X.1 X.2.1 dX12_digestOf_15 rfl (lv_at hl.1 2 rfl) ?_
      refine lv_aload_n X.1 X.2.1 dX12_digestOf_16 rfl (lv_at hl.1 0 rfl) ?_
      refine g_get X cX12 hH (r := 29) (i := 0) (by decide) rfl 39 (by decide) k_1249 rfl (v := .ref (gAd G 61 0)) rfl dX12_digestOf_17 ?_
      refine lv_iconst X.1 X.2.1 dX12_digestOf_20 (v := iI 4) rfl ?_
      refine lv_iload_n X.1 X.2.1 dX12_digestOf_21 rfl (lv_at hl.1 1 rfl) ?_
      refine g_imul X dX12_digestOf_22 ?_
      refine lv_iload_n X.1 X.2.1 dX12_digestOf_23 rfl (lv_at hl.1 3 rfl) ?_
      refine g_iadd X dX12_digestOf_24 ?_
      obtain ⟨hg, hf_⟩ := og_e hf; clear hf; have hf := hf_; clear hf_
      have nd25 : nmI (M 61 0 (wI ((wI (4 * z1)) + x3)).toNat) := hH.1.1 _ _ _
      refine g_iald X hH (r := 61) (i := 0) (by decide) rfl (nmI_w _) hg (v := M 61 0 (wI ((wI (4 * z1)) + x3)).toNat) rfl dX12_digestOf_25 ?_
      refine gGoI (gRunS X hH (As := [.int (iI x2), .int (iI (M 61 0 (wI ((wI (4 * z1)) + x3)).toNat))]) (m_X12_put l G x2 nx2 (M 61 0 (wI ((wI (4 * z1)) + x3)).toNat) nd25 M _ rfl) calX12_put k_1449 k_1448 ⟨by decide, by decide⟩ rfl hl rfl (Nat.le_of_ble_eq_true rfl) ⟨Nat.le_of_ble_eq_true rfl, Nat.le_of_ble_eq_true rfl⟩ dX12_digestOf_26) hS (fun H locs nr26 hH hS => ?_)
      refine g_istore_n X (lv' := [(2, .int (iI ((f_X12_put x2 (M 61 0 (wI ((wI (4 * z1)) + x3)).toNat) M)))), (0, .ref (gAd G 29 0)), (1, .int (iI z1)), (3, .int (iI x3))]) dX12_digestOf_29 rfl hl (by decide) rfl (fun ls hl => ?_)
      refine g_iinc X (a := x3) (lv' := [(3, .int (iI (wI (x3 + 1)))), (2, .int (iI ((f_X12_put x2 (M 61 0 (wI ((wI (4 * z1)) + x3)).toNat) M)))), (0, .ref (gAd G 29 0)), (1, .int (iI z1))]) dX12_digestOf_30 hl (k := 3) rfl (by decide) rfl (fun ls hl => ?_)
      refine lv_goto (tgt := 5) X.1 X.2.1 dX12_digestOf_33 (by decide) ?_
      exact ih ((f_X12_put x2 (M 61 0 (wI ((wI (4 * z1)) + x3)).toNat) M)) nr26 (wI (x3 + 1)) (nmI_w _) hf _ _ _ hH hS (gLv_sub hl [2, 3, 1, 0] rfl)
theorem m_X12_digestOf (l : Launch) (G : gG) (v1 : Int) (nv1 : nmI v1) (M : gM) (q : (Int)) (hf : f_X12_digestOf v1 M = some q) : gMet l yX12_digestOf cX12_digestOf 4 (some .int) 1 21 G M [.ref (gAd G 29 0), .int (iI v1)] (gQi G q M) := by
  refine gOfW (by decide) (by show _ ≤ 4; exact Nat.le_of_ble_eq_true rfl) rfl ?_
  intro p e s m below meth c X hH ls hl
  replace hl : gLv ls 4 [(0, .ref (gAd G 29 0)), (1, .int (iI v1))] := hl
  have hS : va_S (gA G) s.heap s.heap [] := va_S.rf
  generalize hargs : ([.ref (gAd G 29 0), .int (iI v1)] : List Value).toArray = args at X ⊢
  clear hargs
  unfold f_X12_digestOf at hf
  refine lv_bipush X.1 X.2.1 dX12_digestOf_0 (v := iI 7) (by decide) ?_
  refine g_istore_n X (lv' := [(2, .int (iI 7)), (0, .ref (gAd G 29 0)), (1, .int (iI v1))]) dX12_digestOf_2 rfl hl (by decide) rfl (fun ls hl => ?_)
  refine lv_iconst X.1 X.2.1 dX12_digestOf_3 (v := iI 0) rfl ?_
  refine g_istore_n X (lv' := [(3, .int (iI 0)), (2, .int (iI 7)), (0, .ref (gAd G 29 0)), (1, .int (iI v1))]) dX12_digestOf_4 rfl hl (by decide) rfl (fun ls hl => ?_)
  refine w_X12_digestOf_L5 X _ v1 nv1 M q ?_ 64 7 (nmI_l (by decide)) 0 (nmI_l (by decide)) hf _ _ _ hH hS (gLv_sub hl [2, 3, 1, 0] rfl)
  · intro y2_5_36 ny2_5_36 hf H locs ls hH hS hl
    refine lv_iload_n X.1 X.2.1 dX12_digestOf_36 rfl (lv_at hl.1 0 rfl) ?_
    have hq := Option.some.inj hf; subst hq
    exact gRetI X hH hS (res := y2_5_36) ny2_5_36 dX12_digestOf_37
theorem w_X12_keyOf_L16 {G : gG} {p : Program} {l : Launch} {e : Env} {s : State} {m : MethodId} {args : Array Value} {below : List Frame} {meth : Method} {c : Code} (X : gX G p s m args meth c RX12 cX12_keyOf 6 (some .int) (gWs yX12_keyOf cX12_keyOf 6 (some .int))) (k73 : Int → Option (Int)) (z2 : Int) (nz2 : nmI z2) (M : gM) (q : (Int)) (hk73 : ∀ (x3 : Int) (nx3 : nmI x3), k73 x3 = some q → ∀ (H : Heap) (locs : List Loc) (ls : Array Slot), gH G M H → va_S (gA G) s.heap H locs → gLv ls 6 [(3, .int (iI x3))] → W p l e { frames := 2, cells := 0, slots := 0, locals := 44 } s m args below meth c H locs 0 0 (MQ below (gQi G q M) args s 0 0 (gA G)) (F0 m 73 ls [])) : ∀ (n : Nat) (x3 : Int) (nx3 : nmI x3) (x4 : Int) (nx4 : nmI x4), f_X12_keyOf_L16 k73 z2 M n x3 x4 = some q → ∀ (H : Heap) (locs : List Loc) (ls : Array Slot), gH G M H → va_S (gA G) s.heap H locs → gLv ls 6 [(0, .ref (gAd G 29 0)), (2, .int (iI z2)), (3, .int (iI x3)), (4, .int (iI x4))] → W p l e { frames := 2, cells := 0, slots := 0, locals := 44 } s m args below meth c H locs 0 0 (MQ below (gQi G q M) args s 0 0 (gA G)) (F0 m 16 ls []) := by
  intro n
  induction n with
  | zero =>
    intro x3 nx3 x4 nx4 hf
    cases hf
  | succ n ih =>
    intro x3 nx3 x4 nx4 hf H locs ls hH hS hl
    rw [f_X12_keyOf_L16] at hf
    refine lv_iload X.1 X.2.1 dX12_keyOf_16 (lv_at hl.1 3 rfl) ?_
    refine lv_aload_n X.1 X.2.1 dX12_keyOf_18 rfl (lv_at hl.1 0 rfl) ?_
    refine g_get X cX12 hH (r := 29) (i := 0) (by decide) rfl 14 (by decide) k_1224 rfl (v := .ref (gAd G 41 0)) rfl dX12_keyOf_19 ?_
    refine lv_iload_n X.1 X.2.1 dX12_keyOf_22 rfl (lv_at hl.1 1 rfl) ?_
    obtain ⟨hg, hf_⟩ := og_e hf; clear hf; have hf := hf_; clear hf_
    have nd23 : nmI (M 41 0 z2.toNat) := hH.1.1 _ _ _
    refine g_iald X hH (r := 41) (i := 0) (by decide) rfl nz2 hg (v := M 41 0 z2.toNat) rfl dX12_keyOf_23 ?_
    refine g_icmp_ge X nx4 nd23 (tgt := 73) dX12_keyOf_24 (by decide) (fun hc24 => ?_) (fun hc24 => ?_)
    · replace hf := it_f hf hc24
      exact hk73 x3 nx3 hf _ _ _ hH hS (gLv_sub hl [2] rfl)
    · replace hf := it_t hf hc24
      refine lv_aload_n X.1 X.2.1 dX12_keyOf_27 rfl (lv_at hl.1 0 rfl) ?_
      refine lv_iload_n X.1 X.2.1 dX12_keyOf_28 rfl (lv_at hl.1 1 rfl) ?_
      refine lv_iload X.1 X.2.1 dX12_keyOf_29 (lv_at hl.1 3 rfl) ?_
      obtain ⟨r31, hq31, hf_⟩ := ob_e hf; clear hf; have hf := hf_; clear hf_
      refine gGoI (gRunV X hH (As := [.int (iI z2), .int (iI x4)]) (m_X12_inputOf l G z2 nz2 x4 nx4 M _ hq31) calX12_inputOf k_1483 k_39 k_1481 (by decide) cX12 rfl ⟨by decide, by decide⟩ rfl hl rfl (Nat.le_of_ble_eq_true rfl) ⟨Nat.le_of_ble_eq_true rfl, Nat.le_of_ble_eq_true rfl⟩ dX12_keyOf_31) hS (fun H locs nr31 hH hS => ?_)
      refine g_istore X (lv' := [(5, .int (iI r31)), (0, .ref (gAd G 29 0)), (2, .int (iI z2)), (3, .int (iI x3)), (4, .int (iI x4))]) dX12_keyOf_34 hl (by decide) rfl (fun ls hl => ?_)
      refine lv_iload_n X.1 X.2.1 dX12_keyOf_36 rfl (lv_at hl.1 3 rfl) ?_
      refine lv_iload X.1 X.2.1 dX12_keyOf_37 (lv_at hl.1 0 rfl) ?_
      refine lv_bipush X.1 X.2.1 dX12_keyOf_39 (v := iI 16) (by decide) ?_
      obtain ⟨k63, ek63, hf_⟩ := oj_e hf; clear hf; have hf := hf_; clear hf_
      have hk63 : ∀ (xs1_63 : Int) (nxs1_63 : nmI xs1_63), k63 xs1_63 = some q → ∀ (H : Heap) (locs : List Loc) (ls : Array Slot), gH G M H → va_S (gA G) s.heap H locs → gLv ls 6 [(0, .ref (gAd G 29 0)), (2, .int (iI z2)), (4, .int (iI x4))] → W p l e { frames := 2, cells := 0, slots := 0, locals := 44 } s m args below meth c H locs 0 0 (MQ below (gQi G q M) args s 0 0 (gA G)) (F0 m 63 ls [.int (iI xs1_63), .int (iI x3)]) := by
        intro xs1_63 nxs1_63 hf H locs ls hH hS hl
        subst ek63
        refine gGoI (gRunS X hH (As := [.int (iI x3), .int (iI xs1_63)]) (m_X12_put l G x3 nx3 xs1_63 nxs1_63 M _ rfl) calX12_put k_1449 k_1448 ⟨by decide, by decide⟩ rfl hl rfl (Nat.le_of_ble_eq_true rfl) ⟨Nat.le_of_ble_eq_true rfl, Nat.le_of_ble_eq_true rfl⟩ dX12_keyOf_63) hS (fun H locs nr63 hH hS => ?_)
        refine g_istore_n X (lv' := [(3, .int (iI ((f_X12_put x3 xs1_63 M)))), (0, .ref (gAd G 29 0)), (2, .int (iI z2)), (4, .int (iI x4))]) dX12_keyOf_66 rfl hl (by decide) rfl (fun ls hl => ?_)
        refine g_iinc X (a := x4) (lv' := [(4, .int (iI (wI (x4 + 1)))), (3, .int (iI ((f_X12_put x3 xs1_63 M)))), (0, .ref (gAd G 29 0)), (2, .int (iI z2))]) dX12_keyOf_67 hl (k := 3) rfl (by decide) rfl (fun ls hl => ?_)
        refine lv_goto (tgt := 16) X.1 X.2.1 dX12_keyOf_70 (by decide) ?_
        exact ih ((f_X12_put x3 xs1_63 M)) nr63 (wI (x4 + 1)) (nmI_w _) hf _ _ _ hH hS (gLv_sub hl [2, 3, 1, 0] rfl)
      clear ek63
      refine g_icmp_ge X nr31 (nmI_l (by decide)) (tgt := 54) dX12_keyOf_41 (by decide) (fun hc41 => ?_) (fun hc41 => ?_)
      · replace hf := it_f hf hc41
        refine lv_aload_n X.1 X.2.1 dX12_keyOf_54 rfl (lv_at hl.1 1 rfl) ?_
        refine lv_iload X.1 X.2.1 dX12_keyOf_55 (lv_at hl.1 0 rfl) ?_
        refine lv_bipush X.1 X.2.1 dX12_keyOf_57 (v := iI 16) (by decide) ?_
        refine g_isub X dX12_keyOf_59 ?_
        obtain ⟨r60, hq60, hf_⟩ := ob_e hf; clear hf; have hf := hf_; clear hf_
        refine gGoI (gRunV X hH (As := [.int (iI (wI (r31 - 16)))]) (m_X12_digestOf l G (wI (r31 - 16)) (nmI_w _) M _ hq60) calX12_digestOf k_1511 k_46 k_1509 (by decide) cX12 rfl ⟨by decide, by decide⟩ rfl hl rfl (Nat.le_of_ble_eq_true rfl) ⟨Nat.le_of_ble_eq_true rfl, Nat.le_of_ble_eq_true rfl⟩ dX12_keyOf_60) hS (fun H locs nr60 hH hS => ?_)
        exact hk63 r60 nr60 hf _ _ _ hH hS (gLv_sub hl [1, 2, 4] rfl)
      · replace hf := it_t hf hc41
        refine lv_aload_n X.1 X.2.1 dX12_keyOf_44 rfl (lv_at hl.1 1 rfl) ?_
        refine g_get X cX12 hH (r := 29) (i := 0) (by decide) rfl 1 (by decide) k_1211 rfl (v := .ref (gAd G 30 0)) rfl dX12_keyOf_45 ?_
        refine lv_iload X.1 X.2.1 dX12_keyOf_48 (lv_at hl.1 0 rfl) ?_
        obtain ⟨hg, hf_⟩ := og_e hf; clear hf; have hf := hf_; clear hf_
        have nd50 : nmI (M 30 0 r31.toNat) := hH.1.1 _ _ _
        refine g_iald X hH (r := 30) (i := 0) (by decide) rfl nr31 hg (v := M 30 0 r31.toNat) rfl dX12_keyOf_50 ?_
        refine lv_goto (tgt := 63) X.1 X.2.1 dX12_keyOf_51 (by decide) ?_
        exact hk63 (M 30 0 r31.toNat) nd50 hf _ _ _ hH hS (gLv_sub hl [1, 2, 4] rfl)
theorem m_X12_keyOf (l : Launch) (G : gG) (v1 : Int) (nv1 : nmI v1) (M : gM) (q : (Int)) (hf : f_X12_keyOf v1 M = some q) : gMet l yX12_keyOf cX12_keyOf 6 (some .int) 2 44 G M [.ref (gAd G 29 0), .int (iI v1)] (gQi G q M) := by
  refine gOfW (by decide) (by show _ ≤ 6; exact Nat.le_of_ble_eq_true rfl) rfl ?_
  intro p e s m below meth c X hH ls hl
  replace hl : gLv ls 6 [(0, .ref (gAd G 29 0)), (1, .int (iI v1))] := hl
  have hS : va_S (gA G) s.heap s.heap [] := va_S.rf
  generalize hargs : ([.ref (gAd G 29 0), .int (iI v1)] : List Value).toArray = args at X ⊢
  clear hargs
  unfold f_X12_keyOf at hf
  refine lv_iload_n X.1 X.2.1 dX12_keyOf_0 rfl (lv_at hl.1 1 rfl) ?_
  refine lv_iconst X.1 X.2.1 dX12_keyOf_1 (v := iI 4) rfl ?_
  refine g_idiv X nv1 (nmI_l (by decide)) (by decide) dX12_keyOf_2 ?_
  refine g_istore_n X (lv' := [(2, .int (iI (wI (v1.tdiv 4)))), (0, .ref (gAd G 29 0)), (1, .int (iI v1))]) dX12_keyOf_3 rfl hl (by decide) rfl (fun ls hl => ?_)
  refine lv_aload_n X.1 X.2.1 dX12_keyOf_4 rfl (lv_at hl.1 1 rfl) ?_
  refine lv_iload_n X.1 X.2.1 dX12_keyOf_5 rfl (lv_at hl.1 0 rfl) ?_
  refine lv_iload_n X.1 X.2.1 dX12_keyOf_6 rfl (lv_at hl.1 2 rfl) ?_
  refine lv_iconst X.1 X.2.1 dX12_keyOf_7 (v := iI 4) rfl ?_
  refine g_irem X nv1 (nmI_l (by decide)) (by decide) dX12_keyOf_8 ?_
  obtain ⟨r9, hq9, hf_⟩ := ob_e hf; clear hf; have hf := hf_; clear hf_
  refine gGoI (gRunV X hH (As := [.int (iI (wI (v1.tdiv 4))), .int (iI (gRem v1 4))]) (m_X12_keyBegin l G (wI (v1.tdiv 4)) (nmI_w _) (gRem v1 4) (nmI_rem _ _) M _ hq9) calX12_keyBegin k_1507 k_45 k_1505 (by decide) cX12 rfl ⟨by decide, by decide⟩ rfl hl rfl (Nat.le_of_ble_eq_true rfl) ⟨Nat.le_of_ble_eq_true rfl, Nat.le_of_ble_eq_true rfl⟩ dX12_keyOf_9) hS (fun H locs nr9 hH hS => ?_)
  refine g_istore_n X (lv' := [(3, .int (iI r9)), (2, .int (iI (wI (v1.tdiv 4)))), (0, .ref (gAd G 29 0)), (1, .int (iI v1))]) dX12_keyOf_12 rfl hl (by decide) rfl (fun ls hl => ?_)
  refine lv_iconst X.1 X.2.1 dX12_keyOf_13 (v := iI 0) rfl ?_
  refine g_istore X (lv' := [(4, .int (iI 0)), (3, .int (iI r9)), (2, .int (iI (wI (v1.tdiv 4)))), (0, .ref (gAd G 29 0)), (1, .int (iI v1))]) dX12_keyOf_14 hl (by decide) rfl (fun ls hl => ?_)
  refine w_X12_keyOf_L16 X _ (wI (v1.tdiv 4)) (nmI_w _) M q ?_ 64 r9 nr9 0 (nmI_l (by decide)) hf _ _ _ hH hS (gLv_sub hl [3, 2, 1, 0] rfl)
  · intro y3_16_73 ny3_16_73 hf H locs ls hH hS hl
    refine lv_iload_n X.1 X.2.1 dX12_keyOf_73 rfl (lv_at hl.1 0 rfl) ?_
    have hq := Option.some.inj hf; subst hq
    exact gRetI X hH hS (res := y3_16_73) ny3_16_73 dX12_keyOf_74
theorem m_X12_foundBy (l : Launch) (G : gG) (v1 : Int) (nv1 : nmI v1) (v2 : Int) (nv2 : nmI v2) (M : gM) (q : (Int)) (hf : f_X12_foundBy v1 v2 M = some q) : gMet l yX12_foundBy cX12_foundBy 3 (some .int) 0 0 G M [.ref (gAd G 29 0), .int (iI v1), .int (iI v2)] (gQi G q M) := by
  refine gOfW (by decide) (by show _ ≤ 3; exact Nat.le_of_ble_eq_true rfl) rfl ?_
  intro p e s m below meth c X hH ls hl
  replace hl : gLv ls 3 [(0, .ref (gAd G 29 0)), (1, .int (iI v1)), (2, .int (iI v2))] := hl
  have hS : va_S (gA G) s.heap s.heap [] := va_S.rf
  generalize hargs : ([.ref (gAd G 29 0), .int (iI v1), .int (iI v2)] : List Value).toArray = args at X ⊢
  clear hargs
  unfold f_X12_foundBy at hf
  refine lv_aload_n X.1 X.2.1 dX12_foundBy_0 rfl (lv_at hl.1 0 rfl) ?_
  refine g_get X cX12 hH (r := 29) (i := 0) (by decide) rfl 12 (by decide) k_1222 rfl (v := .ref (gAd G 39 0)) rfl dX12_foundBy_1 ?_
  refine lv_iload_n X.1 X.2.1 dX12_foundBy_4 rfl (lv_at hl.1 1 rfl) ?_
  obtain ⟨hg, hf_⟩ := og_e hf; clear hf; have hf := hf_; clear hf_
  have nd5 : nmI (M 39 0 v1.toNat) := hH.1.1 _ _ _
  refine g_iald X hH (r := 39) (i := 0) (by decide) rfl nv1 hg (v := M 39 0 v1.toNat) rfl dX12_foundBy_5 ?_
  refine lv_iconst X.1 X.2.1 dX12_foundBy_6 (v := iI (-1)) rfl ?_
  refine g_icmp_ne X nd5 (nmI_l (by decide)) (tgt := 14) dX12_foundBy_7 (by decide) (fun hc7 => ?_) (fun hc7 => ?_)
  · replace hf := it_f hf hc7
    refine lv_iload_n X.1 X.2.1 dX12_foundBy_14 rfl (lv_at hl.1 2 rfl) ?_
    refine lv_bipush X.1 X.2.1 dX12_foundBy_15 (v := iI 16) (by decide) ?_
    refine g_irem X nv2 (nmI_l (by decide)) (by decide) dX12_foundBy_17 ?_
    have hq := Option.some.inj hf; subst hq
    exact gRetI X hH hS (res := gRem v2 16) (nmI_rem _ _) dX12_foundBy_18
  · replace hf := it_t hf hc7
    refine lv_iconst X.1 X.2.1 dX12_foundBy_10 (v := iI (-1)) rfl ?_
    refine lv_goto (tgt := 18) X.1 X.2.1 dX12_foundBy_11 (by decide) ?_
    have hq := Option.some.inj hf; subst hq
    exact gRetI X hH hS (res := (-1)) (nmI_l (by decide)) dX12_foundBy_18
theorem m_X12_breaks (l : Launch) (G : gG) (v1 : Int) (nv1 : nmI v1) (v2 : Int) (nv2 : nmI v2) (M : gM) (q : (Int)) (hf : f_X12_breaks v1 v2 M = some q) : gMet l yX12_breaks cX12_breaks 3 (some .boolean) 0 0 G M [.ref (gAd G 29 0), .int (iI v1), .int (iI v2)] (gQz G q M) := by
  refine gOfW (by decide) (by show _ ≤ 3; exact Nat.le_of_ble_eq_true rfl) rfl ?_
  intro p e s m below meth c X hH ls hl
  replace hl : gLv ls 3 [(0, .ref (gAd G 29 0)), (1, .int (iI v1)), (2, .int (iI v2))] := hl
  have hS : va_S (gA G) s.heap s.heap [] := va_S.rf
  generalize hargs : ([.ref (gAd G 29 0), .int (iI v1), .int (iI v2)] : List Value).toArray = args at X ⊢
  clear hargs
  unfold f_X12_breaks at hf
  refine lv_aload_n X.1 X.2.1 dX12_breaks_0 rfl (lv_at hl.1 0 rfl) ?_
  refine g_get X cX12 hH (r := 29) (i := 0) (by decide) rfl 12 (by decide) k_1222 rfl (v := .ref (gAd G 39 0)) rfl dX12_breaks_1 ?_
  refine lv_iload_n X.1 X.2.1 dX12_breaks_4 rfl (lv_at hl.1 1 rfl) ?_
  obtain ⟨hg, hf_⟩ := og_e hf; clear hf; have hf := hf_; clear hf_
  have nd5 : nmI (M 39 0 v1.toNat) := hH.1.1 _ _ _
  refine g_iald X hH (r := 39) (i := 0) (by decide) rfl nv1 hg (v := M 39 0 v1.toNat) rfl dX12_breaks_5 ?_
  refine lv_iconst X.1 X.2.1 dX12_breaks_6 (v := iI (-1)) rfl ?_
  refine g_icmp_eq X nd5 (nmI_l (by decide)) (tgt := 30) dX12_breaks_7 (by decide) (fun hc7 => ?_) (fun hc7 => ?_)
  · replace hf := it_t hf hc7
    refine lv_iconst X.1 X.2.1 dX12_breaks_30 (v := iI 0) rfl ?_
    have hq := Option.some.inj hf; subst hq
    exact gRetZ X hH hS (res := 0) (by decide) dX12_breaks_31
  · replace hf := it_f hf hc7
    refine lv_aload_n X.1 X.2.1 dX12_breaks_10 rfl (lv_at hl.1 0 rfl) ?_
    refine g_get X cX12 hH (r := 29) (i := 0) (by decide) rfl 12 (by decide) k_1222 rfl (v := .ref (gAd G 39 0)) rfl dX12_breaks_11 ?_
    refine lv_iload_n X.1 X.2.1 dX12_breaks_14 rfl (lv_at hl.1 1 rfl) ?_
    obtain ⟨hg, hf_⟩ := og_e hf; clear hf; have hf := hf_; clear hf_
    have nd15 : nmI (M 39 0 v1.toNat) := hH.1.1 _ _ _
    refine g_iald X hH (r := 39) (i := 0) (by decide) rfl nv1 hg (v := M 39 0 v1.toNat) rfl dX12_breaks_15 ?_
    refine lv_iload_n X.1 X.2.1 dX12_breaks_16 rfl (lv_at hl.1 2 rfl) ?_
    refine lv_bipush X.1 X.2.1 dX12_breaks_17 (v := iI 16) (by decide) ?_
    refine g_irem X nv2 (nmI_l (by decide)) (by decide) dX12_breaks_19 ?_
    refine g_ishr X dX12_breaks_20 ?_
    refine lv_iconst X.1 X.2.1 dX12_breaks_21 (v := iI 1) rfl ?_
    refine g_iand X dX12_breaks_22 ?_
    refine g_if_ne X (nmI_and _ _) (tgt := 30) dX12_breaks_23 (by decide) (fun hc23 => ?_) (fun hc23 => ?_)
    · replace hf := it_f hf hc23
      refine lv_iconst X.1 X.2.1 dX12_breaks_30 (v := iI 0) rfl ?_
      have hq := Option.some.inj hf; subst hq
      exact gRetZ X hH hS (res := 0) (by decide) dX12_breaks_31
    · replace hf := it_t hf hc23
      refine lv_iconst X.1 X.2.1 dX12_breaks_26 (v := iI 1) rfl ?_
      refine lv_goto (tgt := 31) X.1 X.2.1 dX12_breaks_27 (by decide) ?_
      have hq := Option.some.inj hf; subst hq
      exact gRetZ X hH hS (res := 1) (by decide) dX12_breaks_31
theorem w_X12_hit_L40 {G : gG} {p : Program} {l : Launch} {e : Env} {s : State} {m : MethodId} {args : Array Value} {below : List Frame} {meth : Method} {c : Code} (X : gX G p s m args meth c RX12 cX12_hit 8 (some .int) (gWs yX12_hit cX12_hit 8 (some .int))) (k140 : Option (Int)) (z2 : Int) (nz2 : nmI z2) (z3 : Int) (nz3 : nmI z3) (z4 : Int) (nz4 : nmI z4) (z5 : Int) (nz5 : nmI z5) (M : gM) (q : (Int)) (hk140 : k140 = some q → ∀ (H : Heap) (locs : List Loc) (ls : Array Slot), gH G M H → va_S (gA G) s.heap H locs → gLv ls 8 [] → W p l e { frames := 3, cells := 0, slots := 0, locals := 69 } s m args below meth c H locs 0 0 (MQ below (gQi G q M) args s 0 0 (gA G)) (F0 m 140 ls [])) : ∀ (n : Nat) (x6 : Int) (nx6 : nmI x6), f_X12_hit_L40 k140 z2 z3 z4 z5 M n x6 = some q → ∀ (H : Heap) (locs : List Loc) (ls : Array Slot), gH G M H → va_S (gA G) s.heap H locs → gLv ls 8 [(0, .ref (gAd G 29 0)), (2, .int (iI z2)), (3, .int (iI z3)), (4, .int (iI z4)), (5, .int (iI z5)), (6, .int (iI x6))] → W p l e { frames := 3, cells := 0, slots := 0, locals := 69 } s m args below meth c H locs 0 0 (MQ below (gQi G q M) args s 0 0 (gA G)) (F0 m 40 ls []) := by
  intro n
  induction n with
  | zero =>
    intro x6 nx6 hf
    cases hf
  | succ n ih =>
    intro x6 nx6 hf H locs ls hH hS hl
    rw [f_X12_hit_L40] at hf
    refine lv_iload X.1 X.2.1 dX12_hit_40 (lv_at hl.1 5 rfl) ?_
    refine lv_aload_n X.1 X.2.1 dX12_hit_42 rfl (lv_at hl.1 0 rfl) ?_
    have nd43 : nmI (M 29 0 21) := hH.1.1 _ _ _
    refine g_get X cX12 hH (r := 29) (i := 0) (by decide) rfl 21 (by decide) k_1231 rfl (v := .int (iI (M 29 0 21))) rfl dX12_hit_43 ?_
    refine g_icmp_ge X nx6 nd43 (tgt := 140) dX12_hit_46 (by decide) (fun hc46 => ?_) (fun hc46 => ?_)
    · replace hf := it_f hf hc46
      exact hk140  hf _ _ _ hH hS (gLv_sub hl [] rfl)
    · replace hf := it_t hf hc46
      refine lv_aload_n X.1 X.2.1 dX12_hit_49 rfl (lv_at hl.1 0 rfl) ?_
      refine g_get X cX12 hH (r := 29) (i := 0) (by decide) rfl 22 (by decide) k_1232 rfl (v := .ref (gAd G 46 0)) rfl dX12_hit_50 ?_
      refine lv_iload X.1 X.2.1 dX12_hit_53 (lv_at hl.1 5 rfl) ?_
      obtain ⟨hg, hf_⟩ := og_e hf; clear hf; have hf := hf_; clear hf_
      have nd55 : nmI (M 46 0 x6.toNat) := hH.1.1 _ _ _
      refine g_iald X hH (r := 46) (i := 0) (by decide) rfl nx6 hg (v := M 46 0 x6.toNat) rfl dX12_hit_55 ?_
      refine lv_iload_n X.1 X.2.1 dX12_hit_56 rfl (lv_at hl.1 2 rfl) ?_
      obtain ⟨k108, ek108, hf_⟩ := oj_e hf; clear hf; have hf := hf_; clear hf_
      have hk108 : ∀ (xs0_108 : Int) (bxs0_108 : xs0_108 = 0 ∨ xs0_108 = 1), k108 xs0_108 = some q → ∀ (H : Heap) (locs : List Loc) (ls : Array Slot), gH G M H → va_S (gA G) s.heap H locs → gLv ls 8 [(0, .ref (gAd G 29 0)), (2, .int (iI z2)), (3, .int (iI z3)), (4, .int (iI z4)), (5, .int (iI z5)), (6, .int (iI x6))] → W p l e { frames := 3, cells := 0, slots := 0, locals := 69 } s m args below meth c H locs 0 0 (MQ below (gQi G q M) args s 0 0 (gA G)) (F0 m 108 ls [.int (iI xs0_108)]) := by
        intro xs0_108 bxs0_108 hf H locs ls hH hS hl
        subst ek108
        refine g_istore X (lv' := [(7, .int (iI xs0_108)), (0, .ref (gAd G 29 0)), (2, .int (iI z2)), (3, .int (iI z3)), (4, .int (iI z4)), (5, .int (iI z5)), (6, .int (iI x6))]) dX12_hit_108 hl (by decide) rfl (fun ls hl => ?_)
        refine lv_iload X.1 X.2.1 dX12_hit_110 (lv_at hl.1 0 rfl) ?_
        obtain ⟨k134, ek134, hf_⟩ := oj_e hf; clear hf; have hf := hf_; clear hf_
        have hk134 : k134 = some q → ∀ (H : Heap) (locs : List Loc) (ls : Array Slot), gH G M H → va_S (gA G) s.heap H locs → gLv ls 8 [(0, .ref (gAd G 29 0)), (2, .int (iI z2)), (3, .int (iI z3)), (4, .int (iI z4)), (5, .int (iI z5)), (6, .int (iI x6))] → W p l e { frames := 3, cells := 0, slots := 0, locals := 69 } s m args below meth c H locs 0 0 (MQ below (gQi G q M) args s 0 0 (gA G)) (F0 m 134 ls []) := by
          intro  hf H locs ls hH hS hl
          subst ek134
          refine g_iinc X (a := x6) (lv' := [(6, .int (iI (wI (x6 + 1)))), (0, .ref (gAd G 29 0)), (2, .int (iI z2)), (3, .int (iI z3)), (4, .int (iI z4)), (5, .int (iI z5))]) dX12_hit_134 hl (k := 5) rfl (by decide) rfl (fun ls hl => ?_)
          refine lv_goto (tgt := 40) X.1 X.2.1 dX12_hit_137 (by decide) ?_
          exact ih (wI (x6 + 1)) (nmI_w _) hf _ _ _ hH hS (gLv_sub hl [1, 2, 3, 4, 5, 0] rfl)
        clear ek134
        refine g_if_eq X (nmI_b bxs0_108) (tgt := 134) dX12_hit_112 (by decide) (fun hc112 => ?_) (fun hc112 => ?_)
        · replace hf := it_t hf hc112
          exact hk134  hf _ _ _ hH hS (gLv_sub hl [1, 2, 3, 4, 5, 6] rfl)
        · replace hf := it_f hf hc112
          refine lv_aload_n X.1 X.2.1 dX12_hit_115 rfl (lv_at hl.1 1 rfl) ?_
          have nd116 : nmI (M 29 0 19) := hH.1.1 _ _ _
          have bd116 := hH.1.2.1 29 0 19 rfl
          refine g_get X cX12 hH (r := 29) (i := 0) (by decide) rfl 19 (by decide) k_1229 rfl (v := .int (iI (M 29 0 19))) rfl dX12_hit_116 ?_
          refine g_if_eq X nd116 (tgt := 131) dX12_hit_119 (by decide) (fun hc119 => ?_) (fun hc119 => ?_)
          · replace hf := it_t hf hc119
            refine lv_iload X.1 X.2.1 dX12_hit_131 (lv_at hl.1 6 rfl) ?_
            have hq := Option.some.inj hf; subst hq
            exact gRetI X hH hS (res := x6) nx6 dX12_hit_133
          · replace hf := it_f hf hc119
            refine lv_aload_n X.1 X.2.1 dX12_hit_122 rfl (lv_at hl.1 1 rfl) ?_
            refine lv_iload X.1 X.2.1 dX12_hit_123 (lv_at hl.1 6 rfl) ?_
            obtain ⟨r125, hq125, hf_⟩ := ob_e hf; clear hf; have hf := hf_; clear hf_
            refine gGoZ (gRunV X hH (As := [.int (iI x6)]) (m_X12_isSigned l G x6 nx6 M _ hq125) calX12_isSigned k_1442 k_35 k_1440 (by decide) cX12 rfl ⟨by decide, by decide⟩ rfl hl rfl (Nat.le_of_ble_eq_true rfl) ⟨Nat.le_of_ble_eq_true rfl, Nat.le_of_ble_eq_true rfl⟩ dX12_hit_125) hS (fun H locs br125 hH hS => ?_)
            refine g_if_eq X (nmI_b br125) (tgt := 134) dX12_hit_128 (by decide) (fun hc128 => ?_) (fun hc128 => ?_)
            · replace hf := it_t hf hc128
              exact hk134  hf _ _ _ hH hS (gLv_sub hl [1, 2, 3, 4, 5, 6] rfl)
            · replace hf := it_f hf hc128
              refine lv_iload X.1 X.2.1 dX12_hit_131 (lv_at hl.1 6 rfl) ?_
              have hq := Option.some.inj hf; subst hq
              exact gRetI X hH hS (res := x6) nx6 dX12_hit_133
      clear ek108
      obtain ⟨k107, ek107, hf_⟩ := oj_e hf; clear hf; have hf := hf_; clear hf_
      have hk107 : k107 = some q → ∀ (H : Heap) (locs : List Loc) (ls : Array Slot), gH G M H → va_S (gA G) s.heap H locs → gLv ls 8 [(0, .ref (gAd G 29 0)), (2, .int (iI z2)), (3, .int (iI z3)), (4, .int (iI z4)), (5, .int (iI z5)), (6, .int (iI x6))] → W p l e { frames := 3, cells := 0, slots := 0, locals := 69 } s m args below meth c H locs 0 0 (MQ below (gQi G q M) args s 0 0 (gA G)) (F0 m 107 ls []) := by
        intro  hf H locs ls hH hS hl
        subst ek107
        refine lv_iconst X.1 X.2.1 dX12_hit_107 (v := iI 0) rfl ?_
        exact hk108 0 (by decide) hf _ _ _ hH hS (gLv_sub hl [0, 1, 2, 3, 4, 5] rfl)
      clear ek107
      refine g_icmp_ne X nd55 nz3 (tgt := 107) dX12_hit_57 (by decide) (fun hc57 => ?_) (fun hc57 => ?_)
      · replace hf := it_f hf hc57
        exact hk107  hf _ _ _ hH hS (gLv_sub hl [0, 1, 2, 3, 4, 5] rfl)
      · replace hf := it_t hf hc57
        refine lv_aload_n X.1 X.2.1 dX12_hit_60 rfl (lv_at hl.1 0 rfl) ?_
        refine g_get X cX12 hH (r := 29) (i := 0) (by decide) rfl 28 (by decide) k_1238 rfl (v := .ref (gAd G 52 0)) rfl dX12_hit_61 ?_
        refine lv_iload X.1 X.2.1 dX12_hit_64 (lv_at hl.1 5 rfl) ?_
        obtain ⟨hg, hf_⟩ := og_e hf; clear hf; have hf := hf_; clear hf_
        have nd66 : nmI (M 52 0 x6.toNat) := hH.1.1 _ _ _
        have bd66 := hH.1.2.1 52 0 x6.toNat rfl
        refine g_zald X hH (r := 52) (i := 0) (by decide) rfl nx6 hg (v := M 52 0 x6.toNat) rfl dX12_hit_66 ?_
        refine g_if_ne X nd66 (tgt := 107) dX12_hit_67 (by decide) (fun hc67 => ?_) (fun hc67 => ?_)
        · replace hf := it_f hf hc67
          exact hk107  hf _ _ _ hH hS (gLv_sub hl [0, 1, 2, 3, 4, 5] rfl)
        · replace hf := it_t hf hc67
          refine lv_aload_n X.1 X.2.1 dX12_hit_70 rfl (lv_at hl.1 0 rfl) ?_
          refine g_get X cX12 hH (r := 29) (i := 0) (by decide) rfl 23 (by decide) k_1233 rfl (v := .ref (gAd G 47 0)) rfl dX12_hit_71 ?_
          refine lv_iload X.1 X.2.1 dX12_hit_74 (lv_at hl.1 5 rfl) ?_
          obtain ⟨hg, hf_⟩ := og_e hf; clear hf; have hf := hf_; clear hf_
          have nd76 : nmI (M 47 0 x6.toNat) := hH.1.1 _ _ _
          refine g_iald X hH (r := 47) (i := 0) (by decide) rfl nx6 hg (v := M 47 0 x6.toNat) rfl dX12_hit_76 ?_
          refine lv_iload X.1 X.2.1 dX12_hit_77 (lv_at hl.1 3 rfl) ?_
          refine g_icmp_ne X nd76 nz4 (tgt := 107) dX12_hit_79 (by decide) (fun hc79 => ?_) (fun hc79 => ?_)
          · replace hf := it_f hf hc79
            exact hk107  hf _ _ _ hH hS (gLv_sub hl [0, 1, 2, 3, 4, 5] rfl)
          · replace hf := it_t hf hc79
            refine lv_aload_n X.1 X.2.1 dX12_hit_82 rfl (lv_at hl.1 0 rfl) ?_
            refine g_get X cX12 hH (r := 29) (i := 0) (by decide) rfl 24 (by decide) k_1234 rfl (v := .ref (gAd G 48 0)) rfl dX12_hit_83 ?_
            refine lv_iload X.1 X.2.1 dX12_hit_86 (lv_at hl.1 5 rfl) ?_
            obtain ⟨hg, hf_⟩ := og_e hf; clear hf; have hf := hf_; clear hf_
            have nd88 : nmI (M 48 0 x6.toNat) := hH.1.1 _ _ _
            refine g_iald X hH (r := 48) (i := 0) (by decide) rfl nx6 hg (v := M 48 0 x6.toNat) rfl dX12_hit_88 ?_
            refine lv_iload X.1 X.2.1 dX12_hit_89 (lv_at hl.1 4 rfl) ?_
            refine g_icmp_ne X nd88 nz5 (tgt := 107) dX12_hit_91 (by decide) (fun hc91 => ?_) (fun hc91 => ?_)
            · replace hf := it_f hf hc91
              exact hk107  hf _ _ _ hH hS (gLv_sub hl [0, 1, 2, 3, 4, 5] rfl)
            · replace hf := it_t hf hc91
              refine lv_aload_n X.1 X.2.1 dX12_hit_94 rfl (lv_at hl.1 0 rfl) ?_
              refine lv_iload_n X.1 X.2.1 dX12_hit_95 rfl (lv_at hl.1 1 rfl) ?_
              refine lv_iload_n X.1 X.2.1 dX12_hit_96 rfl (lv_at hl.1 2 rfl) ?_
              obtain ⟨r97, hq97, hf_⟩ := ob_e hf; clear hf; have hf := hf_; clear hf_
              refine gGoZ (gRunV X hH (As := [.int (iI z2), .int (iI z3)]) (m_X12_breaks l G z2 nz2 z3 nz3 M _ hq97) calX12_breaks k_1519 k_48 k_1517 (by decide) cX12 rfl ⟨by decide, by decide⟩ rfl hl rfl (Nat.le_of_ble_eq_true rfl) ⟨Nat.le_of_ble_eq_true rfl, Nat.le_of_ble_eq_true rfl⟩ dX12_hit_97) hS (fun H locs br97 hH hS => ?_)
              refine g_if_ne X (nmI_b br97) (tgt := 107) dX12_hit_100 (by decide) (fun hc100 => ?_) (fun hc100 => ?_)
              · replace hf := it_f hf hc100
                exact hk107  hf _ _ _ hH hS (gLv_sub hl [0, 1, 2, 3, 4, 5] rfl)
              · replace hf := it_t hf hc100
                refine lv_iconst X.1 X.2.1 dX12_hit_103 (v := iI 1) rfl ?_
                refine lv_goto (tgt := 108) X.1 X.2.1 dX12_hit_104 (by decide) ?_
                exact hk108 1 (by decide) hf _ _ _ hH hS (gLv_sub hl [0, 1, 2, 3, 4, 5] rfl)
theorem m_X12_hit (l : Launch) (G : gG) (v1 : Int) (nv1 : nmI v1) (M : gM) (q : (Int)) (hf : f_X12_hit v1 M = some q) : gMet l yX12_hit cX12_hit 8 (some .int) 3 69 G M [.ref (gAd G 29 0), .int (iI v1)] (gQi G q M) := by
  refine gOfW (by decide) (by show _ ≤ 8; exact Nat.le_of_ble_eq_true rfl) rfl ?_
  intro p e s m below meth c X hH ls hl
  replace hl : gLv ls 8 [(0, .ref (gAd G 29 0)), (1, .int (iI v1))] := hl
  have hS : va_S (gA G) s.heap s.heap [] := va_S.rf
  generalize hargs : ([.ref (gAd G 29 0), .int (iI v1)] : List Value).toArray = args at X ⊢
  clear hargs
  unfold f_X12_hit at hf
  refine lv_iload_n X.1 X.2.1 dX12_hit_0 rfl (lv_at hl.1 1 rfl) ?_
  refine lv_iconst X.1 X.2.1 dX12_hit_1 (v := iI 4) rfl ?_
  refine g_idiv X nv1 (nmI_l (by decide)) (by decide) dX12_hit_2 ?_
  refine g_istore_n X (lv' := [(2, .int (iI (wI (v1.tdiv 4)))), (0, .ref (gAd G 29 0)), (1, .int (iI v1))]) dX12_hit_3 rfl hl (by decide) rfl (fun ls hl => ?_)
  refine lv_aload_n X.1 X.2.1 dX12_hit_4 rfl (lv_at hl.1 1 rfl) ?_
  refine lv_iload_n X.1 X.2.1 dX12_hit_5 rfl (lv_at hl.1 2 rfl) ?_
  obtain ⟨r6, hq6, hf_⟩ := ob_e hf; clear hf; have hf := hf_; clear hf_
  refine gGoI (gRunV X hH (As := [.int (iI v1)]) (m_X12_keyOf l G v1 nv1 M _ hq6) calX12_keyOf k_1503 k_44 k_1501 (by decide) cX12 rfl ⟨by decide, by decide⟩ rfl hl rfl (Nat.le_of_ble_eq_true rfl) ⟨Nat.le_of_ble_eq_true rfl, Nat.le_of_ble_eq_true rfl⟩ dX12_hit_6) hS (fun H locs nr6 hH hS => ?_)
  refine g_istore_n X (lv' := [(3, .int (iI r6)), (2, .int (iI (wI (v1.tdiv 4)))), (0, .ref (gAd G 29 0)), (1, .int (iI v1))]) dX12_hit_9 rfl hl (by decide) rfl (fun ls hl => ?_)
  refine lv_aload_n X.1 X.2.1 dX12_hit_10 rfl (lv_at hl.1 2 rfl) ?_
  refine lv_iload_n X.1 X.2.1 dX12_hit_11 rfl (lv_at hl.1 1 rfl) ?_
  refine lv_iload_n X.1 X.2.1 dX12_hit_12 rfl (lv_at hl.1 0 rfl) ?_
  obtain ⟨r13, hq13, hf_⟩ := ob_e hf; clear hf; have hf := hf_; clear hf_
  refine gGoI (gRunV X hH (As := [.int (iI (wI (v1.tdiv 4))), .int (iI r6)]) (m_X12_foundBy l G (wI (v1.tdiv 4)) (nmI_w _) r6 nr6 M _ hq13) calX12_foundBy k_1515 k_47 k_1513 (by decide) cX12 rfl ⟨by decide, by decide⟩ rfl hl rfl (Nat.le_of_ble_eq_true rfl) ⟨Nat.le_of_ble_eq_true rfl, Nat.le_of_ble_eq_true rfl⟩ dX12_hit_13) hS (fun H locs nr13 hH hS => ?_)
  refine g_istore X (lv' := [(4, .int (iI r13)), (3, .int (iI r6)), (2, .int (iI (wI (v1.tdiv 4)))), (0, .ref (gAd G 29 0)), (1, .int (iI v1))]) dX12_hit_16 hl (by decide) rfl (fun ls hl => ?_)
  refine lv_iload X.1 X.2.1 dX12_hit_18 (lv_at hl.1 0 rfl) ?_
  refine lv_iconst X.1 X.2.1 dX12_hit_20 (v := iI (-1)) rfl ?_
  obtain ⟨k35, ek35, hf_⟩ := oj_e hf; clear hf; have hf := hf_; clear hf_
  have hk35 : ∀ (xs0_35 : Int) (nxs0_35 : nmI xs0_35), k35 xs0_35 = some q → ∀ (H : Heap) (locs : List Loc) (ls : Array Slot), gH G M H → va_S (gA G) s.heap H locs → gLv ls 8 [(0, .ref (gAd G 29 0)), (2, .int (iI (wI (v1.tdiv 4)))), (3, .int (iI r6)), (4, .int (iI r13))] → W p l e { frames := 3, cells := 0, slots := 0, locals := 69 } s m args below meth c H locs 0 0 (MQ below (gQi G q M) args s 0 0 (gA G)) (F0 m 35 ls [.int (iI xs0_35)]) := by
    intro xs0_35 nxs0_35 hf H locs ls hH hS hl
    subst ek35
    refine g_istore X (lv' := [(5, .int (iI xs0_35)), (0, .ref (gAd G 29 0)), (2, .int (iI (wI (v1.tdiv 4)))), (3, .int (iI r6)), (4, .int (iI r13))]) dX12_hit_35 hl (by decide) rfl (fun ls hl => ?_)
    refine lv_iconst X.1 X.2.1 dX12_hit_37 (v := iI 0) rfl ?_
    refine g_istore X (lv' := [(6, .int (iI 0)), (5, .int (iI xs0_35)), (0, .ref (gAd G 29 0)), (2, .int (iI (wI (v1.tdiv 4)))), (3, .int (iI r6)), (4, .int (iI r13))]) dX12_hit_38 hl (by decide) rfl (fun ls hl => ?_)
    refine w_X12_hit_L40 X _ (wI (v1.tdiv 4)) (nmI_w _) r6 nr6 r13 nr13 xs0_35 nxs0_35 M q ?_ 64 0 (nmI_l (by decide)) hf _ _ _ hH hS (gLv_sub hl [2, 3, 4, 5, 1, 0] rfl)
    · intro  hf H locs ls hH hS hl
      refine lv_iconst X.1 X.2.1 dX12_hit_140 (v := iI (-1)) rfl ?_
      have hq := Option.some.inj hf; subst hq
      exact gRetI X hH hS (res := (-1)) (nmI_l (by decide)) dX12_hit_141
  clear ek35
  refine g_icmp_ne X nr13 (nmI_l (by decide)) (tgt := 28) dX12_hit_21 (by decide) (fun hc21 => ?_) (fun hc21 => ?_)
  · replace hf := it_f hf hc21
    refine lv_aload_n X.1 X.2.1 dX12_hit_28 rfl (lv_at hl.1 3 rfl) ?_
    refine g_get X cX12 hH (r := 29) (i := 0) (by decide) rfl 1 (by decide) k_1211 rfl (v := .ref (gAd G 30 0)) rfl dX12_hit_29 ?_
    refine lv_iload X.1 X.2.1 dX12_hit_32 (lv_at hl.1 0 rfl) ?_
    obtain ⟨hg, hf_⟩ := og_e hf; clear hf; have hf := hf_; clear hf_
    have nd34 : nmI (M 30 0 r13.toNat) := hH.1.1 _ _ _
    refine g_iald X hH (r := 30) (i := 0) (by decide) rfl nr13 hg (v := M 30 0 r13.toNat) rfl dX12_hit_34 ?_
    exact hk35 (M 30 0 r13.toNat) nd34 hf _ _ _ hH hS (gLv_sub hl [3, 2, 1, 0] rfl)
  · replace hf := it_t hf hc21
    refine lv_iconst X.1 X.2.1 dX12_hit_24 (v := iI (-1)) rfl ?_
    refine lv_goto (tgt := 35) X.1 X.2.1 dX12_hit_25 (by decide) ?_
    exact hk35 ((-1)) (nmI_l (by decide)) hf _ _ _ hH hS (gLv_sub hl [3, 2, 1, 0] rfl)
theorem w_X12_opensOne_L34 {G : gG} {p : Program} {l : Launch} {e : Env} {s : State} {m : MethodId} {args : Array Value} {below : List Frame} {meth : Method} {c : Code} (X : gX G p s m args meth c RX12 cX12_opensOne 8 none (gWs yX12_opensOne cX12_opensOne 8 none)) (k107 : Int → Int → Option gM) (z1 : Int) (nz1 : nmI z1) (z2 : Int) (nz2 : nmI z2) (z5 : Int) (nz5 : nmI z5) (z6 : Int) (nz6 : nmI z6) (M : gM) (q : gM) (hk107 : ∀ (x3 : Int) (bx3 : x3 = 0 ∨ x3 = 1) (x4 : Int) (bx4 : x4 = 0 ∨ x4 = 1), k107 x3 x4 = some q → ∀ (H : Heap) (locs : List Loc) (ls : Array Slot), gH G M H → va_S (gA G) s.heap H locs → gLv ls 8 [(0, .ref (gAd G 29 0)), (1, .int (iI z1)), (2, .int (iI z2)), (3, .int (iI x3)), (4, .int (iI x4)), (5, .int (iI z5))] → W p l e { frames := 4, cells := 0, slots := 0, locals := 96 } s m args below meth c H locs 0 0 (MQ below (gQv G q) args s 0 0 (gA G)) (F0 m 107 ls [])) : ∀ (n : Nat) (x3 : Int) (bx3 : x3 = 0 ∨ x3 = 1) (x4 : Int) (bx4 : x4 = 0 ∨ x4 = 1) (x7 : Int) (nx7 : nmI x7), f_X12_opensOne_L34 k107 z1 z2 z5 z6 M n x3 x4 x7 = some q → ∀ (H : Heap) (locs : List Loc) (ls : Array Slot), gH G M H → va_S (gA G) s.heap H locs → gLv ls 8 [(0, .ref (gAd G 29 0)), (1, .int (iI z1)), (2, .int (iI z2)), (3, .int (iI x3)), (4, .int (iI x4)), (5, .int (iI z5)), (6, .int (iI z6)), (7, .int (iI x7))] → W p l e { frames := 4, cells := 0, slots := 0, locals := 96 } s m args below meth c H locs 0 0 (MQ below (gQv G q) args s 0 0 (gA G)) (F0 m 34 ls []) := by
  intro n
  induction n with
  | zero =>
    intro x3 bx3 x4 bx4 x7 nx7 hf
    cases hf
  | succ n ih =>
    intro x3 bx3 x4 bx4 x7 nx7 hf H locs ls hH hS hl
    rw [f_X12_opensOne_L34] at hf
    refine lv_iload X.1 X.2.1 dX12_opensOne_34 (lv_at hl.1 6 rfl) ?_
    refine g_if_lt X nz6 (tgt := 107) dX12_opensOne_36 (by decide) (fun hc36 => ?_) (fun hc36 => ?_)
    · replace hf := it_t hf hc36
      exact hk107 x3 bx3 x4 bx4 hf _ _ _ hH hS (gLv_sub hl [0, 1, 2, 3, 4, 5] rfl)
    · replace hf := it_f hf hc36
      refine lv_iload X.1 X.2.1 dX12_opensOne_39 (lv_at hl.1 7 rfl) ?_
      refine lv_aload_n X.1 X.2.1 dX12_opensOne_41 rfl (lv_at hl.1 0 rfl) ?_
      refine g_get X cX12 hH (r := 29) (i := 0) (by decide) rfl 11 (by decide) k_1221 rfl (v := .ref (gAd G 38 0)) rfl dX12_opensOne_42 ?_
      refine lv_iload X.1 X.2.1 dX12_opensOne_45 (lv_at hl.1 6 rfl) ?_
      obtain ⟨hg, hf_⟩ := og_e hf; clear hf; have hf := hf_; clear hf_
      have nd47 : nmI (M 38 0 z6.toNat) := hH.1.1 _ _ _
      refine g_iald X hH (r := 38) (i := 0) (by decide) rfl nz6 hg (v := M 38 0 z6.toNat) rfl dX12_opensOne_47 ?_
      refine g_icmp_ge X nx7 nd47 (tgt := 107) dX12_opensOne_48 (by decide) (fun hc48 => ?_) (fun hc48 => ?_)
      · replace hf := it_f hf hc48
        exact hk107 x3 bx3 x4 bx4 hf _ _ _ hH hS (gLv_sub hl [0, 1, 2, 3, 4, 5] rfl)
      · replace hf := it_t hf hc48
        refine lv_iload_n X.1 X.2.1 dX12_opensOne_51 rfl (lv_at hl.1 3 rfl) ?_
        refine lv_aload_n X.1 X.2.1 dX12_opensOne_52 rfl (lv_at hl.1 0 rfl) ?_
        refine g_get X cX12 hH (r := 29) (i := 0) (by decide) rfl 38 (by decide) k_1248 rfl (v := .ref (gAd G 60 0)) rfl dX12_opensOne_53 ?_
        refine lv_iconst X.1 X.2.1 dX12_opensOne_56 (v := iI 4) rfl ?_
        refine lv_iload X.1 X.2.1 dX12_opensOne_57 (lv_at hl.1 6 rfl) ?_
        refine g_imul X dX12_opensOne_59 ?_
        refine lv_iload X.1 X.2.1 dX12_opensOne_60 (lv_at hl.1 7 rfl) ?_
        refine g_iadd X dX12_opensOne_62 ?_
        obtain ⟨hg, hf_⟩ := og_e hf; clear hf; have hf := hf_; clear hf_
        have nd63 : nmI (M 60 0 (wI ((wI (4 * z6)) + x7)).toNat) := hH.1.1 _ _ _
        refine g_iald X hH (r := 60) (i := 0) (by decide) rfl (nmI_w _) hg (v := M 60 0 (wI ((wI (4 * z6)) + x7)).toNat) rfl dX12_opensOne_63 ?_
        refine lv_iconst X.1 X.2.1 dX12_opensOne_64 (v := iI 3) rfl ?_
        obtain ⟨k73, ek73, hf_⟩ := oj_e hf; clear hf; have hf := hf_; clear hf_
        have hk73 : ∀ (xs1_73 : Int) (bxs1_73 : xs1_73 = 0 ∨ xs1_73 = 1), k73 xs1_73 = some q → ∀ (H : Heap) (locs : List Loc) (ls : Array Slot), gH G M H → va_S (gA G) s.heap H locs → gLv ls 8 [(0, .ref (gAd G 29 0)), (1, .int (iI z1)), (2, .int (iI z2)), (4, .int (iI x4)), (5, .int (iI z5)), (6, .int (iI z6)), (7, .int (iI x7))] → W p l e { frames := 4, cells := 0, slots := 0, locals := 96 } s m args below meth c H locs 0 0 (MQ below (gQv G q) args s 0 0 (gA G)) (F0 m 73 ls [.int (iI xs1_73), .int (iI x3)]) := by
          intro xs1_73 bxs1_73 hf H locs ls hH hS hl
          subst ek73
          refine g_ior X dX12_opensOne_73 ?_
          refine g_istore_n X (lv' := [(3, .int (iI (gOr x3 xs1_73))), (0, .ref (gAd G 29 0)), (1, .int (iI z1)), (2, .int (iI z2)), (4, .int (iI x4)), (5, .int (iI z5)), (6, .int (iI z6)), (7, .int (iI x7))]) dX12_opensOne_74 rfl hl (by decide) rfl (fun ls hl => ?_)
          refine lv_iload X.1 X.2.1 dX12_opensOne_75 (lv_at hl.1 4 rfl) ?_
          refine lv_aload_n X.1 X.2.1 dX12_opensOne_77 rfl (lv_at hl.1 1 rfl) ?_
          refine g_get X cX12 hH (r := 29) (i := 0) (by decide) rfl 38 (by decide) k_1248 rfl (v := .ref (gAd G 60 0)) rfl dX12_opensOne_78 ?_
          refine lv_iconst X.1 X.2.1 dX12_opensOne_81 (v := iI 4) rfl ?_
          refine lv_iload X.1 X.2.1 dX12_opensOne_82 (lv_at hl.1 6 rfl) ?_
          refine g_imul X dX12_opensOne_84 ?_
          refine lv_iload X.1 X.2.1 dX12_opensOne_85 (lv_at hl.1 7 rfl) ?_
          refine g_iadd X dX12_opensOne_87 ?_
          obtain ⟨hg, hf_⟩ := og_e hf; clear hf; have hf := hf_; clear hf_
          have nd88 : nmI (M 60 0 (wI ((wI (4 * z6)) + x7)).toNat) := hH.1.1 _ _ _
          refine g_iald X hH (r := 60) (i := 0) (by decide) rfl (nmI_w _) hg (v := M 60 0 (wI ((wI (4 * z6)) + x7)).toNat) rfl dX12_opensOne_88 ?_
          refine lv_iconst X.1 X.2.1 dX12_opensOne_89 (v := iI 3) rfl ?_
          obtain ⟨k98, ek98, hf_⟩ := oj_e hf; clear hf; have hf := hf_; clear hf_
          have hk98 : ∀ (xs1_98 : Int) (bxs1_98 : xs1_98 = 0 ∨ xs1_98 = 1), k98 xs1_98 = some q → ∀ (H : Heap) (locs : List Loc) (ls : Array Slot), gH G M H → va_S (gA G) s.heap H locs → gLv ls 8 [(0, .ref (gAd G 29 0)), (1, .int (iI z1)), (2, .int (iI z2)), (3, .int (iI (gOr x3 xs1_73))), (5, .int (iI z5)), (6, .int (iI z6)), (7, .int (iI x7))] → W p l e { frames := 4, cells := 0, slots := 0, locals := 96 } s m args below meth c H locs 0 0 (MQ below (gQv G q) args s 0 0 (gA G)) (F0 m 98 ls [.int (iI xs1_98), .int (iI x4)]) := by
            intro xs1_98 bxs1_98 hf H locs ls hH hS hl
            subst ek98
            refine g_ior X dX12_opensOne_98 ?_
            refine g_istore X (lv' := [(4, .int (iI (gOr x4 xs1_98))), (0, .ref (gAd G 29 0)), (1, .int (iI z1)), (2, .int (iI z2)), (3, .int (iI (gOr x3 xs1_73))), (5, .int (iI z5)), (6, .int (iI z6)), (7, .int (iI x7))]) dX12_opensOne_99 hl (by decide) rfl (fun ls hl => ?_)
            refine g_iinc X (a := x7) (lv' := [(7, .int (iI (wI (x7 + 1)))), (4, .int (iI (gOr x4 xs1_98))), (0, .ref (gAd G 29 0)), (1, .int (iI z1)), (2, .int (iI z2)), (3, .int (iI (gOr x3 xs1_73))), (5, .int (iI z5)), (6, .int (iI z6))]) dX12_opensOne_101 hl (k := 7) rfl (by decide) rfl (fun ls hl => ?_)
            refine lv_goto (tgt := 34) X.1 X.2.1 dX12_opensOne_104 (by decide) ?_
            exact ih (gOr x3 xs1_73) (b01_or bx3 bxs1_73) (gOr x4 xs1_98) (b01_or bx4 bxs1_98) (wI (x7 + 1)) (nmI_w _) hf _ _ _ hH hS (gLv_sub hl [2, 3, 4, 5, 1, 6, 7, 0] rfl)
          clear ek98
          refine g_icmp_le X nd88 (nmI_l (by decide)) (tgt := 97) dX12_opensOne_90 (by decide) (fun hc90 => ?_) (fun hc90 => ?_)
          · replace hf := it_f hf hc90
            refine lv_iconst X.1 X.2.1 dX12_opensOne_97 (v := iI 0) rfl ?_
            exact hk98 0 (by decide) hf _ _ _ hH hS (gLv_sub hl [1, 2, 3, 0, 5, 6, 7] rfl)
          · replace hf := it_t hf hc90
            refine lv_iconst X.1 X.2.1 dX12_opensOne_93 (v := iI 1) rfl ?_
            refine lv_goto (tgt := 98) X.1 X.2.1 dX12_opensOne_94 (by decide) ?_
            exact hk98 1 (by decide) hf _ _ _ hH hS (gLv_sub hl [1, 2, 3, 0, 5, 6, 7] rfl)
        clear ek73
        refine g_icmp_ge X nd63 (nmI_l (by decide)) (tgt := 72) dX12_opensOne_65 (by decide) (fun hc65 => ?_) (fun hc65 => ?_)
        · replace hf := it_f hf hc65
          refine lv_iconst X.1 X.2.1 dX12_opensOne_72 (v := iI 0) rfl ?_
          exact hk73 0 (by decide) hf _ _ _ hH hS (gLv_sub hl [0, 1, 2, 4, 5, 6, 7] rfl)
        · replace hf := it_t hf hc65
          refine lv_iconst X.1 X.2.1 dX12_opensOne_68 (v := iI 1) rfl ?_
          refine lv_goto (tgt := 73) X.1 X.2.1 dX12_opensOne_69 (by decide) ?_
          exact hk73 1 (by decide) hf _ _ _ hH hS (gLv_sub hl [0, 1, 2, 4, 5, 6, 7] rfl)
theorem w_X12_opensOne_L8 {G : gG} {p : Program} {l : Launch} {e : Env} {s : State} {m : MethodId} {args : Array Value} {below : List Frame} {meth : Method} {c : Code} (X : gX G p s m args meth c RX12 cX12_opensOne 8 none (gWs yX12_opensOne cX12_opensOne 8 none)) (k113 : Int → Int → Option gM) (z1 : Int) (nz1 : nmI z1) (z2 : Int) (nz2 : nmI z2) (M : gM) (q : gM) (hk113 : ∀ (x3 : Int) (bx3 : x3 = 0 ∨ x3 = 1) (x4 : Int) (bx4 : x4 = 0 ∨ x4 = 1), k113 x3 x4 = some q → ∀ (H : Heap) (locs : List Loc) (ls : Array Slot), gH G M H → va_S (gA G) s.heap H locs → gLv ls 8 [(0, .ref (gAd G 29 0)), (2, .int (iI z2)), (3, .int (iI x3)), (4, .int (iI x4))] → W p l e { frames := 4, cells := 0, slots := 0, locals := 96 } s m args below meth c H locs 0 0 (MQ below (gQv G q) args s 0 0 (gA G)) (F0 m 113 ls [])) : ∀ (n : Nat) (x3 : Int) (bx3 : x3 = 0 ∨ x3 = 1) (x4 : Int) (bx4 : x4 = 0 ∨ x4 = 1) (x5 : Int) (nx5 : nmI x5), f_X12_opensOne_L8 k113 z1 z2 M n x3 x4 x5 = some q → ∀ (H : Heap) (locs : List Loc) (ls : Array Slot), gH G M H → va_S (gA G) s.heap H locs → gLv ls 8 [(0, .ref (gAd G 29 0)), (1, .int (iI z1)), (2, .int (iI z2)), (3, .int (iI x3)), (4, .int (iI x4)), (5, .int (iI x5))] → W p l e { frames := 4, cells := 0, slots := 0, locals := 96 } s m args below meth c H locs 0 0 (MQ below (gQv G q) args s 0 0 (gA G)) (F0 m 8 ls []) := by
  intro n
  induction n with
  | zero =>
    intro x3 bx3 x4 bx4 x5 nx5 hf
    cases hf
  | succ n ih =>
    intro x3 bx3 x4 bx4 x5 nx5 hf H locs ls hH hS hl
    rw [f_X12_opensOne_L8] at hf
    refine lv_iload X.1 X.2.1 dX12_opensOne_8 (lv_at hl.1 5 rfl) ?_
    refine lv_aload_n X.1 X.2.1 dX12_opensOne_10 rfl (lv_at hl.1 0 rfl) ?_
    refine g_get X cX12 hH (r := 29) (i := 0) (by decide) rfl 14 (by decide) k_1224 rfl (v := .ref (gAd G 41 0)) rfl dX12_opensOne_11 ?_
    refine lv_iload_n X.1 X.2.1 dX12_opensOne_14 rfl (lv_at hl.1 1 rfl) ?_
    obtain ⟨hg, hf_⟩ := og_e hf; clear hf; have hf := hf_; clear hf_
    have nd15 : nmI (M 41 0 z1.toNat) := hH.1.1 _ _ _
    refine g_iald X hH (r := 41) (i := 0) (by decide) rfl nz1 hg (v := M 41 0 z1.toNat) rfl dX12_opensOne_15 ?_
    refine g_icmp_ge X nx5 nd15 (tgt := 113) dX12_opensOne_16 (by decide) (fun hc16 => ?_) (fun hc16 => ?_)
    · replace hf := it_f hf hc16
      exact hk113 x3 bx3 x4 bx4 hf _ _ _ hH hS (gLv_sub hl [0, 2, 3, 4] rfl)
    · replace hf := it_t hf hc16
      refine lv_aload_n X.1 X.2.1 dX12_opensOne_19 rfl (lv_at hl.1 0 rfl) ?_
      refine lv_iload_n X.1 X.2.1 dX12_opensOne_20 rfl (lv_at hl.1 1 rfl) ?_
      refine lv_iload X.1 X.2.1 dX12_opensOne_21 (lv_at hl.1 5 rfl) ?_
      obtain ⟨r23, hq23, hf_⟩ := ob_e hf; clear hf; have hf := hf_; clear hf_
      refine gGoI (gRunV X hH (As := [.int (iI z1), .int (iI x5)]) (m_X12_inputOf l G z1 nz1 x5 nx5 M _ hq23) calX12_inputOf k_1483 k_39 k_1481 (by decide) cX12 rfl ⟨by decide, by decide⟩ rfl hl rfl (Nat.le_of_ble_eq_true rfl) ⟨Nat.le_of_ble_eq_true rfl, Nat.le_of_ble_eq_true rfl⟩ dX12_opensOne_23) hS (fun H locs nr23 hH hS => ?_)
      refine lv_bipush X.1 X.2.1 dX12_opensOne_26 (v := iI 16) (by decide) ?_
      refine g_isub X dX12_opensOne_28 ?_
      refine g_istore X (lv' := [(6, .int (iI (wI (r23 - 16)))), (0, .ref (gAd G 29 0)), (1, .int (iI z1)), (2, .int (iI z2)), (3, .int (iI x3)), (4, .int (iI x4)), (5, .int (iI x5))]) dX12_opensOne_29 hl (by decide) rfl (fun ls hl => ?_)
      refine lv_iconst X.1 X.2.1 dX12_opensOne_31 (v := iI 0) rfl ?_
      refine g_istore X (lv' := [(7, .int (iI 0)), (6, .int (iI (wI (r23 - 16)))), (0, .ref (gAd G 29 0)), (1, .int (iI z1)), (2, .int (iI z2)), (3, .int (iI x3)), (4, .int (iI x4)), (5, .int (iI x5))]) dX12_opensOne_32 hl (by decide) rfl (fun ls hl => ?_)
      refine w_X12_opensOne_L34 X _ z1 nz1 z2 nz2 x5 nx5 (wI (r23 - 16)) (nmI_w _) M q ?_ 64 x3 bx3 x4 bx4 0 (nmI_l (by decide)) hf _ _ _ hH hS (gLv_sub hl [2, 3, 4, 5, 6, 7, 1, 0] rfl)
      · intro y3_34_107 by3_34_107 y4_34_107 by4_34_107 hf H locs ls hH hS hl
        refine g_iinc X (a := x5) (lv' := [(5, .int (iI (wI (x5 + 1)))), (0, .ref (gAd G 29 0)), (1, .int (iI z1)), (2, .int (iI z2)), (3, .int (iI y3_34_107)), (4, .int (iI y4_34_107))]) dX12_opensOne_107 hl (k := 5) rfl (by decide) rfl (fun ls hl => ?_)
        refine lv_goto (tgt := 8) X.1 X.2.1 dX12_opensOne_110 (by decide) ?_
        exact ih y3_34_107 by3_34_107 y4_34_107 by4_34_107 (wI (x5 + 1)) (nmI_w _) hf _ _ _ hH hS (gLv_sub hl [1, 2, 3, 4, 5, 0] rfl)
theorem m_X12_opensOne (l : Launch) (G : gG) (v1 : Int) (nv1 : nmI v1) (v2 : Int) (nv2 : nmI v2) (M : gM) (q : gM) (hf : f_X12_opensOne v1 v2 M = some q) : gMet l yX12_opensOne cX12_opensOne 8 none 4 96 G M [.ref (gAd G 29 0), .int (iI v1), .int (iI v2)] (gQv G q) := by
  refine gOfW (by decide) (by show _ ≤ 8; exact Nat.le_of_ble_eq_true rfl) rfl ?_
  intro p e s m below meth c X hH ls hl
  replace hl : gLv ls 8 [(0, .ref (gAd G 29 0)), (1, .int (iI v1)), (2, .int (iI v2))] := hl
  have hS : va_S (gA G) s.heap s.heap [] := va_S.rf
  generalize hargs : ([.ref (gAd G 29 0), .int (iI v1), .int (iI v2)] : List Value).toArray = args at X ⊢
  clear hargs
  unfold f_X12_opensOne at hf
  refine lv_iconst X.1 X.2.1 dX12_opensOne_0 (v := iI 0) rfl ?_
  refine g_istore_n X (lv' := [(3, .int (iI 0)), (0, .ref (gAd G 29 0)), (1, .int (iI v1)), (2, .int (iI v2))]) dX12_opensOne_1 rfl hl (by decide) rfl (fun ls hl => ?_)
  refine lv_iconst X.1 X.2.1 dX12_opensOne_2 (v := iI 0) rfl ?_
  refine g_istore X (lv' := [(4, .int (iI 0)), (3, .int (iI 0)), (0, .ref (gAd G 29 0)), (1, .int (iI v1)), (2, .int (iI v2))]) dX12_opensOne_3 hl (by decide) rfl (fun ls hl => ?_)
  refine lv_iconst X.1 X.2.1 dX12_opensOne_5 (v := iI 0) rfl ?_
  refine g_istore X (lv' := [(5, .int (iI 0)), (4, .int (iI 0)), (3, .int (iI 0)), (0, .ref (gAd G 29 0)), (1, .int (iI v1)), (2, .int (iI v2))]) dX12_opensOne_6 hl (by decide) rfl (fun ls hl => ?_)
  refine w_X12_opensOne_L8 X _ v1 nv1 v2 nv2 M q ?_ 64 0 (by decide) 0 (by decide) 0 (nmI_l (by decide)) hf _ _ _ hH hS (gLv_sub hl [3, 4, 5, 2, 1, 0] rfl)
  · intro y3_8_113 by3_8_113 y4_8_113 by4_8_113 hf H locs ls hH hS hl
    refine lv_iload_n X.1 X.2.1 dX12_opensOne_113 rfl (lv_at hl.1 2 rfl) ?_
    refine g_if_eq X (nmI_b by3_8_113) (tgt := 118) dX12_opensOne_114 (by decide) (fun hc114 => ?_) (fun hc114 => ?_)
    · replace hf := it_t hf hc114
      refine lv_iload X.1 X.2.1 dX12_opensOne_118 (lv_at hl.1 3 rfl) ?_
      obtain ⟨k132, ek132, hf_⟩ := oj_e hf; clear hf; have hf := hf_; clear hf_
      have hk132 : ∀ (xs0_132 : Int) (nxs0_132 : nmI xs0_132), k132 xs0_132 = some q → ∀ (H : Heap) (locs : List Loc) (ls : Array Slot), gH G M H → va_S (gA G) s.heap H locs → gLv ls 8 [(0, .ref (gAd G 29 0)), (2, .int (iI v2)), (4, .int (iI y4_8_113))] → W p l e { frames := 4, cells := 0, slots := 0, locals := 96 } s m args below meth c H locs 0 0 (MQ below (gQv G q) args s 0 0 (gA G)) (F0 m 132 ls [.int (iI xs0_132)]) := by
        intro xs0_132 nxs0_132 hf H locs ls hH hS hl
        subst ek132
        refine g_istore X (lv' := [(5, .int (iI xs0_132)), (0, .ref (gAd G 29 0)), (2, .int (iI v2)), (4, .int (iI y4_8_113))]) dX12_opensOne_132 hl (by decide) rfl (fun ls hl => ?_)
        refine lv_iload X.1 X.2.1 dX12_opensOne_134 (lv_at hl.1 0 rfl) ?_
        refine lv_iconst X.1 X.2.1 dX12_opensOne_136 (v := iI (-1)) rfl ?_
        refine g_icmp_eq X nxs0_132 (nmI_l (by decide)) (tgt := 186) dX12_opensOne_137 (by decide) (fun hc137 => ?_) (fun hc137 => ?_)
        · replace hf := it_t hf hc137
          refine lv_aload_n X.1 X.2.1 dX12_opensOne_186 rfl (lv_at hl.1 1 rfl) ?_
          refine g_get X cX12 hH (r := 29) (i := 0) (by decide) rfl 38 (by decide) k_1248 rfl (v := .ref (gAd G 60 0)) rfl dX12_opensOne_187 ?_
          refine lv_iload_n X.1 X.2.1 dX12_opensOne_190 rfl (lv_at hl.1 2 rfl) ?_
          refine lv_iload X.1 X.2.1 dX12_opensOne_191 (lv_at hl.1 3 rfl) ?_
          obtain ⟨k201, ek201, hf_⟩ := oj_e hf; clear hf; have hf := hf_; clear hf_
          have hk201 : ∀ (xs2_201 : Int) (nxs2_201 : nmI xs2_201), k201 xs2_201 = some q → ∀ (H : Heap) (locs : List Loc) (ls : Array Slot), gH G M H → va_S (gA G) s.heap H locs → gLv ls 8 [(0, .ref (gAd G 29 0)), (2, .int (iI v2))] → W p l e { frames := 4, cells := 0, slots := 0, locals := 96 } s m args below meth c H locs 0 0 (MQ below (gQv G q) args s 0 0 (gA G)) (F0 m 201 ls [.int (iI xs2_201), .int (iI v2), .ref (gAd G 60 0)]) := by
            intro xs2_201 nxs2_201 hf H locs ls hH hS hl
            subst ek201
            obtain ⟨hg, hf_⟩ := og_e hf; clear hf; have hf := hf_; clear hf_
            refine g_iast X hH hS (r := 60) (i := 0) (by decide) (fun _ => rfl) nv2 hg nxs2_201 rfl (by decide) dX12_opensOne_201 (fun H locs hH hS => ?_)
            refine lv_aload_n X.1 X.2.1 dX12_opensOne_202 rfl (lv_at hl.1 0 rfl) ?_
            refine g_get X cX12 hH (r := 29) (i := 0) (by decide) rfl 41 (by decide) k_1251 rfl (v := .ref (gAd G 63 0)) rfl dX12_opensOne_203 ?_
            refine lv_iload_n X.1 X.2.1 dX12_opensOne_206 rfl (lv_at hl.1 1 rfl) ?_
            refine lv_iconst X.1 X.2.1 dX12_opensOne_207 (v := iI 0) rfl ?_
            obtain ⟨hg, hf_⟩ := og_e hf; clear hf; have hf := hf_; clear hf_
            refine g_iast X hH hS (r := 63) (i := 0) (by decide) (fun _ => rfl) nv2 hg (nmI_l (by decide)) rfl (by decide) dX12_opensOne_208 (fun H locs hH hS => ?_)
            have hq := Option.some.inj hf; subst hq
            exact gRetV X hH hS dX12_opensOne_209
          clear ek201
          refine g_if_eq X (nmI_b by4_8_113) (tgt := 200) dX12_opensOne_193 (by decide) (fun hc193 => ?_) (fun hc193 => ?_)
          · replace hf := it_t hf hc193
            refine lv_iconst X.1 X.2.1 dX12_opensOne_200 (v := iI 1) rfl ?_
            exact hk201 1 (nmI_l (by decide)) hf _ _ _ hH hS (gLv_sub hl [1, 2] rfl)
          · replace hf := it_f hf hc193
            refine lv_iconst X.1 X.2.1 dX12_opensOne_196 (v := iI 5) rfl ?_
            refine lv_goto (tgt := 201) X.1 X.2.1 dX12_opensOne_197 (by decide) ?_
            exact hk201 5 (nmI_l (by decide)) hf _ _ _ hH hS (gLv_sub hl [1, 2] rfl)
        · replace hf := it_f hf hc137
          refine lv_aload_n X.1 X.2.1 dX12_opensOne_140 rfl (lv_at hl.1 1 rfl) ?_
          refine g_get X cX12 hH (r := 29) (i := 0) (by decide) rfl 38 (by decide) k_1248 rfl (v := .ref (gAd G 60 0)) rfl dX12_opensOne_141 ?_
          refine lv_iload_n X.1 X.2.1 dX12_opensOne_144 rfl (lv_at hl.1 2 rfl) ?_
          refine lv_iconst X.1 X.2.1 dX12_opensOne_145 (v := iI 3) rfl ?_
          obtain ⟨hg, hf_⟩ := og_e hf; clear hf; have hf := hf_; clear hf_
          refine g_iast X hH hS (r := 60) (i := 0) (by decide) (fun _ => rfl) nv2 hg (nmI_l (by decide)) rfl (by decide) dX12_opensOne_146 (fun H locs hH hS => ?_)
          refine lv_aload_n X.1 X.2.1 dX12_opensOne_147 rfl (lv_at hl.1 1 rfl) ?_
          refine g_get X cX12 hH (r := 29) (i := 0) (by decide) rfl 39 (by decide) k_1249 rfl (v := .ref (gAd G 61 0)) rfl dX12_opensOne_148 ?_
          refine lv_iload_n X.1 X.2.1 dX12_opensOne_151 rfl (lv_at hl.1 2 rfl) ?_
          refine lv_aload_n X.1 X.2.1 dX12_opensOne_152 rfl (lv_at hl.1 1 rfl) ?_
          refine g_get X cX12 hH (r := 29) (i := 0) (by decide) rfl 25 (by decide) k_1235 rfl (v := .ref (gAd G 49 0)) rfl dX12_opensOne_153 ?_
          refine lv_iload X.1 X.2.1 dX12_opensOne_156 (lv_at hl.1 0 rfl) ?_
          obtain ⟨hg, hf_⟩ := og_e hf; clear hf; have hf := hf_; clear hf_
          have nd158 : nmI ((gU M 60 0 v2.toNat 3) 49 0 xs0_132.toNat) := hH.1.1 _ _ _
          refine g_iald X hH (r := 49) (i := 0) (by decide) rfl nxs0_132 hg (v := (gU M 60 0 v2.toNat 3) 49 0 xs0_132.toNat) rfl dX12_opensOne_158 ?_
          obtain ⟨hg, hf_⟩ := og_e hf; clear hf; have hf := hf_; clear hf_
          refine g_iast X hH hS (r := 61) (i := 0) (by decide) (fun _ => rfl) nv2 hg nd158 rfl (by decide) dX12_opensOne_159 (fun H locs hH hS => ?_)
          refine lv_aload_n X.1 X.2.1 dX12_opensOne_160 rfl (lv_at hl.1 1 rfl) ?_
          refine g_get X cX12 hH (r := 29) (i := 0) (by decide) rfl 40 (by decide) k_1250 rfl (v := .ref (gAd G 62 0)) rfl dX12_opensOne_161 ?_
          refine lv_iload_n X.1 X.2.1 dX12_opensOne_164 rfl (lv_at hl.1 2 rfl) ?_
          refine lv_aload_n X.1 X.2.1 dX12_opensOne_165 rfl (lv_at hl.1 1 rfl) ?_
          refine g_get X cX12 hH (r := 29) (i := 0) (by decide) rfl 26 (by decide) k_1236 rfl (v := .ref (gAd G 50 0)) rfl dX12_opensOne_166 ?_
          refine lv_iload X.1 X.2.1 dX12_opensOne_169 (lv_at hl.1 0 rfl) ?_
          obtain ⟨hg, hf_⟩ := og_e hf; clear hf; have hf := hf_; clear hf_
          have nd171 : nmI ((gU (gU M 60 0 v2.toNat 3) 61 0 v2.toNat ((gU M 60 0 v2.toNat 3) 49 0 xs0_132.toNat)) 50 0 xs0_132.toNat) := hH.1.1 _ _ _
          refine g_iald X hH (r := 50) (i := 0) (by decide) rfl nxs0_132 hg (v := (gU (gU M 60 0 v2.toNat 3) 61 0 v2.toNat ((gU M 60 0 v2.toNat 3) 49 0 xs0_132.toNat)) 50 0 xs0_132.toNat) rfl dX12_opensOne_171 ?_
          obtain ⟨hg, hf_⟩ := og_e hf; clear hf; have hf := hf_; clear hf_
          refine g_iast X hH hS (r := 62) (i := 0) (by decide) (fun _ => rfl) nv2 hg nd171 rfl (by decide) dX12_opensOne_172 (fun H locs hH hS => ?_)
          refine lv_aload_n X.1 X.2.1 dX12_opensOne_173 rfl (lv_at hl.1 1 rfl) ?_
          refine g_get X cX12 hH (r := 29) (i := 0) (by decide) rfl 47 (by decide) k_1257 rfl (v := .ref (gAd G 68 0)) rfl dX12_opensOne_174 ?_
          refine lv_iconst X.1 X.2.1 dX12_opensOne_177 (v := iI 1) rfl ?_
          refine lv_dup2_11 X.1 X.2.1 dX12_opensOne_178 rfl rfl ?_
          obtain ⟨hg, hf_⟩ := og_e hf; clear hf; have hf := hf_; clear hf_
          have nd179 : nmI ((gU (gU (gU M 60 0 v2.toNat 3) 61 0 v2.toNat ((gU M 60 0 v2.toNat 3) 49 0 xs0_132.toNat)) 62 0 v2.toNat ((gU (gU M 60 0 v2.toNat 3) 61 0 v2.toNat ((gU M 60 0 v2.toNat 3) 49 0 xs0_132.toNat)) 50 0 xs0_132.toNat)) 68 0 1) := hH.1.1 _ _ _
          refine g_iald X hH (r := 68) (i := 0) (by decide) rfl (nmI_l (by decide)) hg (v := (gU (gU (gU M 60 0 v2.toNat 3) 61 0 v2.toNat ((gU M 60 0 v2.toNat 3) 49 0 xs0_132.toNat)) 62 0 v2.toNat ((gU (gU M 60 0 v2.toNat 3) 61 0 v2.toNat ((gU M 60 0 v2.toNat 3) 49 0 xs0_132.toNat)) 50 0 xs0_132.toNat)) 68 0 1) rfl dX12_opensOne_179 ?_
          refine lv_iconst X.1 X.2.1 dX12_opensOne_180 (v := iI 1) rfl ?_
          refine g_iadd X dX12_opensOne_181 ?_
          obtain ⟨hg, hf_⟩ := og_e hf; clear hf; have hf := hf_; clear hf_
          refine g_iast X hH hS (r := 68) (i := 0) (by decide) (fun _ => rfl) (nmI_l (by decide)) hg (nmI_w _) rfl (by decide) dX12_opensOne_182 (fun H locs hH hS => ?_)
          refine lv_goto (tgt := 209) X.1 X.2.1 dX12_opensOne_183 (by decide) ?_
          have hq := Option.some.inj hf; subst hq
          exact gRetV X hH hS dX12_opensOne_209
      clear ek132
      refine g_if_eq X (nmI_b by4_8_113) (tgt := 127) dX12_opensOne_120 (by decide) (fun hc120 => ?_) (fun hc120 => ?_)
      · replace hf := it_t hf hc120
        refine lv_aload_n X.1 X.2.1 dX12_opensOne_127 rfl (lv_at hl.1 0 rfl) ?_
        refine lv_iload_n X.1 X.2.1 dX12_opensOne_128 rfl (lv_at hl.1 1 rfl) ?_
        obtain ⟨r129, hq129, hf_⟩ := ob_e hf; clear hf; have hf := hf_; clear hf_
        refine gGoI (gRunV X hH (As := [.int (iI v2)]) (m_X12_hit l G v2 nv2 M _ hq129) calX12_hit k_1499 k_43 k_1497 (by decide) cX12 rfl ⟨by decide, by decide⟩ rfl hl rfl (Nat.le_of_ble_eq_true rfl) ⟨Nat.le_of_ble_eq_true rfl, Nat.le_of_ble_eq_true rfl⟩ dX12_opensOne_129) hS (fun H locs nr129 hH hS => ?_)
        exact hk132 r129 nr129 hf _ _ _ hH hS (gLv_sub hl [0, 1, 3] rfl)
      · replace hf := it_f hf hc120
        refine lv_iconst X.1 X.2.1 dX12_opensOne_123 (v := iI (-1)) rfl ?_
        refine lv_goto (tgt := 132) X.1 X.2.1 dX12_opensOne_124 (by decide) ?_
        exact hk132 ((-1)) (nmI_l (by decide)) hf _ _ _ hH hS (gLv_sub hl [0, 1, 3] rfl)
    · replace hf := it_f hf hc114
      have hq := Option.some.inj hf; subst hq
      exact gRetV X hH hS dX12_opensOne_117
theorem w_X12_opens_L17 {G : gG} {p : Program} {l : Launch} {e : Env} {s : State} {m : MethodId} {args : Array Value} {below : List Frame} {meth : Method} {c : Code} (X : gX G p s m args meth c RX12 cX12_opens 4 none (gWs yX12_opens cX12_opens 4 none)) (k86 : gM → Option gM) (z1 : Int) (nz1 : nmI z1) (q : gM) (hk86 : ∀  (M : gM), k86 M = some q → ∀ (H : Heap) (locs : List Loc) (ls : Array Slot), gH G M H → va_S (gA G) s.heap H locs → gLv ls 4 [(0, .ref (gAd G 29 0)), (1, .int (iI z1))] → W p l e { frames := 5, cells := 0, slots := 0, locals := 123 } s m args below meth c H locs 0 0 (MQ below (gQv G q) args s 0 0 (gA G)) (F0 m 86 ls [])) : ∀ (n : Nat) (x2 : Int) (nx2 : nmI x2) (M : gM), f_X12_opens_L17 k86 z1 n x2 M = some q → ∀ (H : Heap) (locs : List Loc) (ls : Array Slot), gH G M H → va_S (gA G) s.heap H locs → gLv ls 4 [(0, .ref (gAd G 29 0)), (1, .int (iI z1)), (2, .int (iI x2))] → W p l e { frames := 5, cells := 0, slots := 0, locals := 123 } s m args below meth c H locs 0 0 (MQ below (gQv G q) args s 0 0 (gA G)) (F0 m 17 ls []) := by
  intro n
  induction n with
  | zero =>
    intro x2 nx2 M hf
    cases hf
  | succ n ih =>
    intro x2 nx2 M hf H locs ls hH hS hl
    rw [f_X12_opens_L17] at hf
    refine lv_iload_n X.1 X.2.1 dX12_opens_17 rfl (lv_at hl.1 2 rfl) ?_
    refine lv_aload_n X.1 X.2.1 dX12_opens_18 rfl (lv_at hl.1 0 rfl) ?_
    refine g_get X cX12 hH (r := 29) (i := 0) (by decide) rfl 11 (by decide) k_1221 rfl (v := .ref (gAd G 38 0)) rfl dX12_opens_19 ?_
    refine lv_iload_n X.1 X.2.1 dX12_opens_22 rfl (lv_at hl.1 1 rfl) ?_
    obtain ⟨hg, hf_⟩ := og_e hf; clear hf; have hf := hf_; clear hf_
    have nd23 : nmI (M 38 0 z1.toNat) := hH.1.1 _ _ _
    refine g_iald X hH (r := 38) (i := 0) (by decide) rfl nz1 hg (v := M 38 0 z1.toNat) rfl dX12_opens_23 ?_
    refine g_icmp_ge X nx2 nd23 (tgt := 86) dX12_opens_24 (by decide) (fun hc24 => ?_) (fun hc24 => ?_)
    · replace hf := it_f hf hc24
      exact hk86 M hf _ _ _ hH hS (gLv_sub hl [0, 1] rfl)
    · replace hf := it_t hf hc24
      refine lv_aload_n X.1 X.2.1 dX12_opens_27 rfl (lv_at hl.1 0 rfl) ?_
      refine lv_iload_n X.1 X.2.1 dX12_opens_28 rfl (lv_at hl.1 1 rfl) ?_
      refine gGoZ (gRunV X hH (As := [.int (iI z1)]) (m_X12_isNeeded l G z1 nz1 M _ rfl) calX12_isNeeded k_1487 k_40 k_1485 (by decide) cX12 rfl ⟨by decide, by decide⟩ rfl hl rfl (Nat.le_of_ble_eq_true rfl) ⟨Nat.le_of_ble_eq_true rfl, Nat.le_of_ble_eq_true rfl⟩ dX12_opens_29) hS (fun H locs br29 hH hS => ?_)
      refine g_if_eq X (nmI_b br29) (tgt := 86) dX12_opens_32 (by decide) (fun hc32 => ?_) (fun hc32 => ?_)
      · replace hf := it_t hf hc32
        exact hk86 M hf _ _ _ hH hS (gLv_sub hl [0, 1] rfl)
      · replace hf := it_f hf hc32
        refine lv_iconst X.1 X.2.1 dX12_opens_35 (v := iI 4) rfl ?_
        refine lv_iload_n X.1 X.2.1 dX12_opens_36 rfl (lv_at hl.1 1 rfl) ?_
        refine g_imul X dX12_opens_37 ?_
        refine lv_iload_n X.1 X.2.1 dX12_opens_38 rfl (lv_at hl.1 2 rfl) ?_
        refine g_iadd X dX12_opens_39 ?_
        refine g_istore_n X (lv' := [(3, .int (iI (wI ((wI (4 * z1)) + x2)))), (0, .ref (gAd G 29 0)), (1, .int (iI z1)), (2, .int (iI x2))]) dX12_opens_40 rfl hl (by decide) rfl (fun ls hl => ?_)
        refine lv_aload_n X.1 X.2.1 dX12_opens_41 rfl (lv_at hl.1 1 rfl) ?_
        refine g_get X cX12 hH (r := 29) (i := 0) (by decide) rfl 38 (by decide) k_1248 rfl (v := .ref (gAd G 60 0)) rfl dX12_opens_42 ?_
        refine lv_iload_n X.1 X.2.1 dX12_opens_45 rfl (lv_at hl.1 0 rfl) ?_
        obtain ⟨hg, hf_⟩ := og_e hf; clear hf; have hf := hf_; clear hf_
        have nd46 : nmI (M 60 0 (wI ((wI (4 * z1)) + x2)).toNat) := hH.1.1 _ _ _
        refine g_iald X hH (r := 60) (i := 0) (by decide) rfl (nmI_w _) hg (v := M 60 0 (wI ((wI (4 * z1)) + x2)).toNat) rfl dX12_opens_46 ?_
        obtain ⟨k56, ek56, hf_⟩ := oj_e hf; clear hf; have hf := hf_; clear hf_
        have hk56 : ∀  (M_56 : gM), k56 M_56 = some q → ∀ (H : Heap) (locs : List Loc) (ls : Array Slot), gH G M_56 H → va_S (gA G) s.heap H locs → gLv ls 4 [(0, .ref (gAd G 29 0)), (1, .int (iI z1)), (2, .int (iI x2)), (3, .int (iI (wI ((wI (4 * z1)) + x2))))] → W p l e { frames := 5, cells := 0, slots := 0, locals := 123 } s m args below meth c H locs 0 0 (MQ below (gQv G q) args s 0 0 (gA G)) (F0 m 56 ls []) := by
          intro  M_56 hf H locs ls hH hS hl
          subst ek56
          refine lv_aload_n X.1 X.2.1 dX12_opens_56 rfl (lv_at hl.1 0 rfl) ?_
          refine lv_dup X.1 X.2.1 dX12_opens_57 rfl ?_
          have nd58 : nmI (M_56 29 0 36) := hH.1.1 _ _ _
          have bd58 := hH.1.2.1 29 0 36 rfl
          refine g_get X cX12 hH (r := 29) (i := 0) (by decide) rfl 36 (by decide) k_1246 rfl (v := .int (iI (M_56 29 0 36))) rfl dX12_opens_58 ?_
          refine lv_aload_n X.1 X.2.1 dX12_opens_61 rfl (lv_at hl.1 0 rfl) ?_
          refine g_get X cX12 hH (r := 29) (i := 0) (by decide) rfl 38 (by decide) k_1248 rfl (v := .ref (gAd G 60 0)) rfl dX12_opens_62 ?_
          refine lv_iload_n X.1 X.2.1 dX12_opens_65 rfl (lv_at hl.1 3 rfl) ?_
          obtain ⟨hg, hf_⟩ := og_e hf; clear hf; have hf := hf_; clear hf_
          have nd66 : nmI (M_56 60 0 (wI ((wI (4 * z1)) + x2)).toNat) := hH.1.1 _ _ _
          refine g_iald X hH (r := 60) (i := 0) (by decide) rfl (nmI_w _) hg (v := M_56 60 0 (wI ((wI (4 * z1)) + x2)).toNat) rfl dX12_opens_66 ?_
          refine lv_iconst X.1 X.2.1 dX12_opens_67 (v := iI 3) rfl ?_
          obtain ⟨k76, ek76, hf_⟩ := oj_e hf; clear hf; have hf := hf_; clear hf_
          have hk76 : ∀ (xs2_76 : Int) (bxs2_76 : xs2_76 = 0 ∨ xs2_76 = 1), k76 xs2_76 = some q → ∀ (H : Heap) (locs : List Loc) (ls : Array Slot), gH G M_56 H → va_S (gA G) s.heap H locs → gLv ls 4 [(0, .ref (gAd G 29 0)), (1, .int (iI z1)), (2, .int (iI x2))] → W p l e { frames := 5, cells := 0, slots := 0, locals := 123 } s m args below meth c H locs 0 0 (MQ below (gQv G q) args s 0 0 (gA G)) (F0 m 76 ls [.int (iI xs2_76), .int (iI (M_56 29 0 36)), .ref (gAd G 29 0)]) := by
            intro xs2_76 bxs2_76 hf H locs ls hH hS hl
            subst ek76
            refine g_ior X dX12_opens_76 ?_
            refine g_putZ X cX12 hH hS (r := 29) (i := 0) (by decide) rfl 36 (by decide) k_1246 rfl rfl rfl (Nat.le_of_ble_eq_true rfl) (x := gOr (M_56 29 0 36) xs2_76) (b01_or bd58 bxs2_76) rfl dX12_opens_77 (fun H locs hH hS => ?_)
            refine g_iinc X (a := x2) (lv' := [(2, .int (iI (wI (x2 + 1)))), (0, .ref (gAd G 29 0)), (1, .int (iI z1))]) dX12_opens_80 hl (k := 2) rfl (by decide) rfl (fun ls hl => ?_)
            refine lv_goto (tgt := 17) X.1 X.2.1 dX12_opens_83 (by decide) ?_
            exact ih (wI (x2 + 1)) (nmI_w _) (gU M_56 29 0 36 (gOr (M_56 29 0 36) xs2_76)) hf _ _ _ hH hS (gLv_sub hl [1, 2, 0] rfl)
          clear ek76
          refine g_icmp_ge X nd66 (nmI_l (by decide)) (tgt := 75) dX12_opens_68 (by decide) (fun hc68 => ?_) (fun hc68 => ?_)
          · replace hf := it_f hf hc68
            refine lv_iconst X.1 X.2.1 dX12_opens_75 (v := iI 0) rfl ?_
            exact hk76 0 (by decide) hf _ _ _ hH hS (gLv_sub hl [0, 1, 2] rfl)
          · replace hf := it_t hf hc68
            refine lv_iconst X.1 X.2.1 dX12_opens_71 (v := iI 1) rfl ?_
            refine lv_goto (tgt := 76) X.1 X.2.1 dX12_opens_72 (by decide) ?_
            exact hk76 1 (by decide) hf _ _ _ hH hS (gLv_sub hl [0, 1, 2] rfl)
        clear ek56
        refine g_if_ne X nd46 (tgt := 56) dX12_opens_47 (by decide) (fun hc47 => ?_) (fun hc47 => ?_)
        · replace hf := it_f hf hc47
          exact hk56 M hf _ _ _ hH hS (gLv_sub hl [1, 2, 3, 0] rfl)
        · replace hf := it_t hf hc47
          refine lv_aload_n X.1 X.2.1 dX12_opens_50 rfl (lv_at hl.1 1 rfl) ?_
          refine lv_iload_n X.1 X.2.1 dX12_opens_51 rfl (lv_at hl.1 2 rfl) ?_
          refine lv_iload_n X.1 X.2.1 dX12_opens_52 rfl (lv_at hl.1 0 rfl) ?_
          obtain ⟨r53, hq53, hf_⟩ := ob_e hf; clear hf; have hf := hf_; clear hf_
          refine gGoV (gRunV X hH (As := [.int (iI z1), .int (iI (wI ((wI (4 * z1)) + x2)))]) (m_X12_opensOne l G z1 nz1 (wI ((wI (4 * z1)) + x2)) (nmI_w _) M _ hq53) calX12_opensOne k_1495 k_42 k_1493 (by decide) cX12 rfl ⟨by decide, by decide⟩ rfl hl rfl (Nat.le_of_ble_eq_true rfl) ⟨Nat.le_of_ble_eq_true rfl, Nat.le_of_ble_eq_true rfl⟩ dX12_opens_53) hS (fun H locs hH hS => ?_)
          exact hk56 r53 hf _ _ _ hH hS (gLv_sub hl [1, 2, 3, 0] rfl)
theorem w_X12_opens_L7 {G : gG} {p : Program} {l : Launch} {e : Env} {s : State} {m : MethodId} {args : Array Value} {below : List Frame} {meth : Method} {c : Code} (X : gX G p s m args meth c RX12 cX12_opens 4 none (gWs yX12_opens cX12_opens 4 none)) (k92 : gM → Option gM) (q : gM) (hk92 : ∀  (M : gM), k92 M = some q → ∀ (H : Heap) (locs : List Loc) (ls : Array Slot), gH G M H → va_S (gA G) s.heap H locs → gLv ls 4 [] → W p l e { frames := 5, cells := 0, slots := 0, locals := 123 } s m args below meth c H locs 0 0 (MQ below (gQv G q) args s 0 0 (gA G)) (F0 m 92 ls [])) : ∀ (n : Nat) (x1 : Int) (nx1 : nmI x1) (M : gM), f_X12_opens_L7 k92 n x1 M = some q → ∀ (H : Heap) (locs : List Loc) (ls : Array Slot), gH G M H → va_S (gA G) s.heap H locs → gLv ls 4 [(0, .ref (gAd G 29 0)), (1, .int (iI x1))] → W p l e { frames := 5, cells := 0, slots := 0, locals := 123 } s m args below meth c H locs 0 0 (MQ below (gQv G q) args s 0 0 (gA G)) (F0 m 7 ls []) := by
  intro n
  induction n with
  | zero =>
    intro x1 nx1 M hf
    cases hf
  | succ n ih =>
    intro x1 nx1 M hf H locs ls hH hS hl
    rw [f_X12_opens_L7] at hf
    refine lv_iload_n X.1 X.2.1 dX12_opens_7 rfl (lv_at hl.1 1 rfl) ?_
    refine lv_aload_n X.1 X.2.1 dX12_opens_8 rfl (lv_at hl.1 0 rfl) ?_
    have nd9 : nmI (M 29 0 7) := hH.1.1 _ _ _
    refine g_get X cX12 hH (r := 29) (i := 0) (by decide) rfl 7 (by decide) k_1217 rfl (v := .int (iI (M 29 0 7))) rfl dX12_opens_9 ?_
    refine g_icmp_ge X nx1 nd9 (tgt := 92) dX12_opens_12 (by decide) (fun hc12 => ?_) (fun hc12 => ?_)
    · replace hf := it_f hf hc12
      exact hk92 M hf _ _ _ hH hS (gLv_sub hl [] rfl)
    · replace hf := it_t hf hc12
      refine lv_iconst X.1 X.2.1 dX12_opens_15 (v := iI 0) rfl ?_
      refine g_istore_n X (lv' := [(2, .int (iI 0)), (0, .ref (gAd G 29 0)), (1, .int (iI x1))]) dX12_opens_16 rfl hl (by decide) rfl (fun ls hl => ?_)
      refine w_X12_opens_L17 X _ x1 nx1 q ?_ 64 0 (nmI_l (by decide)) M hf _ _ _ hH hS (gLv_sub hl [1, 2, 0] rfl)
      · intro  M_17_86 hf H locs ls hH hS hl
        refine g_iinc X (a := x1) (lv' := [(1, .int (iI (wI (x1 + 1)))), (0, .ref (gAd G 29 0))]) dX12_opens_86 hl (k := 1) rfl (by decide) rfl (fun ls hl => ?_)
        refine lv_goto (tgt := 7) X.1 X.2.1 dX12_opens_89 (by decide) ?_
        exact ih (wI (x1 + 1)) (nmI_w _) M_17_86 hf _ _ _ hH hS (gLv_sub hl [1, 0] rfl)
theorem m_X12_opens (l : Launch) (G : gG)  (M : gM) (q : gM) (hf : f_X12_opens M = some q) : gMet l yX12_opens cX12_opens 4 none 5 123 G M [.ref (gAd G 29 0)] (gQv G q) := by
  refine gOfW (by decide) (by show _ ≤ 4; exact Nat.le_of_ble_eq_true rfl) rfl ?_
  intro p e s m below meth c X hH ls hl
  replace hl : gLv ls 4 [(0, .ref (gAd G 29 0))] := hl
  have hS : va_S (gA G) s.heap s.heap [] := va_S.rf
  generalize hargs : ([.ref (gAd G 29 0)] : List Value).toArray = args at X ⊢
  clear hargs
  unfold f_X12_opens at hf
  refine lv_aload_n X.1 X.2.1 dX12_opens_0 rfl (lv_at hl.1 0 rfl) ?_
  refine lv_iconst X.1 X.2.1 dX12_opens_1 (v := iI 0) rfl ?_
  refine g_putZ X cX12 hH hS (r := 29) (i := 0) (by decide) rfl 36 (by decide) k_1246 rfl rfl rfl (Nat.le_of_ble_eq_true rfl) (x := 0) (by decide) rfl dX12_opens_2 (fun H locs hH hS => ?_)
  refine lv_iconst X.1 X.2.1 dX12_opens_5 (v := iI 0) rfl ?_
  refine g_istore_n X (lv' := [(1, .int (iI 0)), (0, .ref (gAd G 29 0))]) dX12_opens_6 rfl hl (by decide) rfl (fun ls hl => ?_)
  refine w_X12_opens_L7 X _  q ?_ 64 0 (nmI_l (by decide)) (gU M 29 0 36 0) hf _ _ _ hH hS (gLv_sub hl [1, 0] rfl)
  · intro  M_7_92 hf H locs ls hH hS hl
    have hq := Option.some.inj hf; subst hq
    exact gRetV X hH hS dX12_opens_92
theorem w_X12_build_L69 {G : gG} {p : Program} {l : Launch} {e : Env} {s : State} {m : MethodId} {args : Array Value} {below : List Frame} {meth : Method} {c : Code} (X : gX G p s m args meth c RX12 cX12_build 6 (some .int) (gWs yX12_build cX12_build 6 (some .int))) (k140 : Int → gM → Option (Int × gM)) (z3 : Int) (nz3 : nmI z3) (q : (Int × gM)) (hk140 : ∀ (x2 : Int) (nx2 : nmI x2) (M : gM), k140 x2 M = some q → ∀ (H : Heap) (locs : List Loc) (ls : Array Slot), gH G M H → va_S (gA G) s.heap H locs → gLv ls 6 [(0, .ref (gAd G 29 0)), (2, .int (iI x2)), (3, .int (iI z3))] → W p l e { frames := 6, cells := 0, slots := 0, locals := 146 } s m args below meth c H locs 0 0 (MQ below (gQi G q.1 q.2) args s 0 0 (gA G)) (F0 m 140 ls [])) : ∀ (n : Nat) (x2 : Int) (nx2 : nmI x2) (x4 : Int) (nx4 : nmI x4) (M : gM), f_X12_build_L69 k140 z3 n x2 x4 M = some q → ∀ (H : Heap) (locs : List Loc) (ls : Array Slot), gH G M H → va_S (gA G) s.heap H locs → gLv ls 6 [(0, .ref (gAd G 29 0)), (2, .int (iI x2)), (3, .int (iI z3)), (4, .int (iI x4))] → W p l e { frames := 6, cells := 0, slots := 0, locals := 146 } s m args below meth c H locs 0 0 (MQ below (gQi G q.1 q.2) args s 0 0 (gA G)) (F0 m 69 ls []) := by
  intro n
  induction n with
  | zero =>
    intro x2 nx2 x4 nx4 M hf
    cases hf
  | succ n ih =>
    intro x2 nx2 x4 nx4 M hf H locs ls hH hS hl
    rw [f_X12_build_L69] at hf
    refine lv_iload X.1 X.2.1 dX12_build_69 (lv_at hl.1 3 rfl) ?_
    refine lv_iconst X.1 X.2.1 dX12_build_71 (v := iI 4) rfl ?_
    refine g_icmp_ge X nx4 (nmI_l (by decide)) (tgt := 140) dX12_build_72 (by decide) (fun hc72 => ?_) (fun hc72 => ?_)
    · replace hf := it_f hf hc72
      exact hk140 x2 nx2 M hf _ _ _ hH hS (gLv_sub hl [0, 1, 2] rfl)
    · replace hf := it_t hf hc72
      refine lv_iconst X.1 X.2.1 dX12_build_75 (v := iI 4) rfl ?_
      refine lv_iload_n X.1 X.2.1 dX12_build_76 rfl (lv_at hl.1 2 rfl) ?_
      refine g_imul X dX12_build_77 ?_
      refine lv_iload X.1 X.2.1 dX12_build_78 (lv_at hl.1 3 rfl) ?_
      refine g_iadd X dX12_build_80 ?_
      refine g_istore X (lv' := [(5, .int (iI (wI ((wI (4 * z3)) + x4)))), (0, .ref (gAd G 29 0)), (2, .int (iI x2)), (3, .int (iI z3)), (4, .int (iI x4))]) dX12_build_81 hl (by decide) rfl (fun ls hl => ?_)
      refine lv_aload_n X.1 X.2.1 dX12_build_83 rfl (lv_at hl.1 1 rfl) ?_
      refine g_get X cX12 hH (r := 29) (i := 0) (by decide) rfl 38 (by decide) k_1248 rfl (v := .ref (gAd G 60 0)) rfl dX12_build_84 ?_
      refine lv_iload X.1 X.2.1 dX12_build_87 (lv_at hl.1 0 rfl) ?_
      refine lv_iconst X.1 X.2.1 dX12_build_89 (v := iI 0) rfl ?_
      obtain ⟨hg, hf_⟩ := og_e hf; clear hf; have hf := hf_; clear hf_
      refine g_iast X hH hS (r := 60) (i := 0) (by decide) (fun _ => rfl) (nmI_w _) hg (nmI_l (by decide)) rfl (by decide) dX12_build_90 (fun H locs hH hS => ?_)
      refine lv_aload_n X.1 X.2.1 dX12_build_91 rfl (lv_at hl.1 1 rfl) ?_
      refine g_get X cX12 hH (r := 29) (i := 0) (by decide) rfl 41 (by decide) k_1251 rfl (v := .ref (gAd G 63 0)) rfl dX12_build_92 ?_
      refine lv_iload X.1 X.2.1 dX12_build_95 (lv_at hl.1 0 rfl) ?_
      refine lv_iconst X.1 X.2.1 dX12_build_97 (v := iI 0) rfl ?_
      obtain ⟨hg, hf_⟩ := og_e hf; clear hf; have hf := hf_; clear hf_
      refine g_iast X hH hS (r := 63) (i := 0) (by decide) (fun _ => rfl) (nmI_w _) hg (nmI_l (by decide)) rfl (by decide) dX12_build_98 (fun H locs hH hS => ?_)
      refine lv_aload_n X.1 X.2.1 dX12_build_99 rfl (lv_at hl.1 1 rfl) ?_
      refine g_get X cX12 hH (r := 29) (i := 0) (by decide) rfl 42 (by decide) k_1252 rfl (v := .ref (gAd G 64 0)) rfl dX12_build_100 ?_
      refine lv_iload X.1 X.2.1 dX12_build_103 (lv_at hl.1 0 rfl) ?_
      refine lv_iconst X.1 X.2.1 dX12_build_105 (v := iI 0) rfl ?_
      obtain ⟨hg, hf_⟩ := og_e hf; clear hf; have hf := hf_; clear hf_
      refine g_zast X hH hS (r := 64) (i := 0) (by decide) (fun _ => rfl) (nmI_w _) hg (by decide) dX12_build_106 (fun H locs hH hS => ?_)
      refine lv_iload_n X.1 X.2.1 dX12_build_107 rfl (lv_at hl.1 2 rfl) ?_
      refine lv_aload_n X.1 X.2.1 dX12_build_108 rfl (lv_at hl.1 1 rfl) ?_
      refine lv_iload_n X.1 X.2.1 dX12_build_109 rfl (lv_at hl.1 3 rfl) ?_
      refine gGoZ (gRunV X hH (As := [.int (iI z3)]) (m_X12_isNeeded l G z3 nz3 (gU (gU (gU M 60 0 (wI ((wI (4 * z3)) + x4)).toNat 0) 63 0 (wI ((wI (4 * z3)) + x4)).toNat 0) 64 0 (wI ((wI (4 * z3)) + x4)).toNat 0) _ rfl) calX12_isNeeded k_1487 k_40 k_1485 (by decide) cX12 rfl ⟨by decide, by decide⟩ rfl hl rfl (Nat.le_of_ble_eq_true rfl) ⟨Nat.le_of_ble_eq_true rfl, Nat.le_of_ble_eq_true rfl⟩ dX12_build_110) hS (fun H locs br110 hH hS => ?_)
      obtain ⟨k132, ek132, hf_⟩ := oj_e hf; clear hf; have hf := hf_; clear hf_
      have hk132 : ∀ (xs1_132 : Int) (bxs1_132 : xs1_132 = 0 ∨ xs1_132 = 1), k132 xs1_132 = some q → ∀ (H : Heap) (locs : List Loc) (ls : Array Slot), gH G (gU (gU (gU M 60 0 (wI ((wI (4 * z3)) + x4)).toNat 0) 63 0 (wI ((wI (4 * z3)) + x4)).toNat 0) 64 0 (wI ((wI (4 * z3)) + x4)).toNat 0) H → va_S (gA G) s.heap H locs → gLv ls 6 [(0, .ref (gAd G 29 0)), (3, .int (iI z3)), (4, .int (iI x4))] → W p l e { frames := 6, cells := 0, slots := 0, locals := 146 } s m args below meth c H locs 0 0 (MQ below (gQi G q.1 q.2) args s 0 0 (gA G)) (F0 m 132 ls [.int (iI xs1_132), .int (iI x2)]) := by
        intro xs1_132 bxs1_132 hf H locs ls hH hS hl
        subst ek132
        refine g_iadd X dX12_build_132 ?_
        refine g_istore_n X (lv' := [(2, .int (iI (wI (x2 + xs1_132)))), (0, .ref (gAd G 29 0)), (3, .int (iI z3)), (4, .int (iI x4))]) dX12_build_133 rfl hl (by decide) rfl (fun ls hl => ?_)
        refine g_iinc X (a := x4) (lv' := [(4, .int (iI (wI (x4 + 1)))), (2, .int (iI (wI (x2 + xs1_132)))), (0, .ref (gAd G 29 0)), (3, .int (iI z3))]) dX12_build_134 hl (k := 3) rfl (by decide) rfl (fun ls hl => ?_)
        refine lv_goto (tgt := 69) X.1 X.2.1 dX12_build_137 (by decide) ?_
        exact ih (wI (x2 + xs1_132)) (nmI_w _) (wI (x4 + 1)) (nmI_w _) (gU (gU (gU M 60 0 (wI ((wI (4 * z3)) + x4)).toNat 0) 63 0 (wI ((wI (4 * z3)) + x4)).toNat 0) 64 0 (wI ((wI (4 * z3)) + x4)).toNat 0) hf _ _ _ hH hS (gLv_sub hl [2, 1, 3, 0] rfl)
      clear ek132
      obtain ⟨k131, ek131, hf_⟩ := oj_e hf; clear hf; have hf := hf_; clear hf_
      have hk131 : k131 = some q → ∀ (H : Heap) (locs : List Loc) (ls : Array Slot), gH G (gU (gU (gU M 60 0 (wI ((wI (4 * z3)) + x4)).toNat 0) 63 0 (wI ((wI (4 * z3)) + x4)).toNat 0) 64 0 (wI ((wI (4 * z3)) + x4)).toNat 0) H → va_S (gA G) s.heap H locs → gLv ls 6 [(0, .ref (gAd G 29 0)), (3, .int (iI z3)), (4, .int (iI x4))] → W p l e { frames := 6, cells := 0, slots := 0, locals := 146 } s m args below meth c H locs 0 0 (MQ below (gQi G q.1 q.2) args s 0 0 (gA G)) (F0 m 131 ls [.int (iI x2)]) := by
        intro  hf H locs ls hH hS hl
        subst ek131
        refine lv_iconst X.1 X.2.1 dX12_build_131 (v := iI 0) rfl ?_
        exact hk132 0 (by decide) hf _ _ _ hH hS (gLv_sub hl [0, 1, 2] rfl)
      clear ek131
      refine g_if_eq X (nmI_b br110) (tgt := 131) dX12_build_113 (by decide) (fun hc113 => ?_) (fun hc113 => ?_)
      · replace hf := it_t hf hc113
        exact hk131  hf _ _ _ hH hS (gLv_sub hl [1, 3, 4] rfl)
      · replace hf := it_f hf hc113
        refine lv_iload X.1 X.2.1 dX12_build_116 (lv_at hl.1 4 rfl) ?_
        refine lv_aload_n X.1 X.2.1 dX12_build_118 rfl (lv_at hl.1 1 rfl) ?_
        refine g_get X cX12 hH (r := 29) (i := 0) (by decide) rfl 11 (by decide) k_1221 rfl (v := .ref (gAd G 38 0)) rfl dX12_build_119 ?_
        refine lv_iload_n X.1 X.2.1 dX12_build_122 rfl (lv_at hl.1 3 rfl) ?_
        obtain ⟨hg, hf_⟩ := og_e hf; clear hf; have hf := hf_; clear hf_
        have nd123 : nmI ((gU (gU (gU M 60 0 (wI ((wI (4 * z3)) + x4)).toNat 0) 63 0 (wI ((wI (4 * z3)) + x4)).toNat 0) 64 0 (wI ((wI (4 * z3)) + x4)).toNat 0) 38 0 z3.toNat) := hH.1.1 _ _ _
        refine g_iald X hH (r := 38) (i := 0) (by decide) rfl nz3 hg (v := (gU (gU (gU M 60 0 (wI ((wI (4 * z3)) + x4)).toNat 0) 63 0 (wI ((wI (4 * z3)) + x4)).toNat 0) 64 0 (wI ((wI (4 * z3)) + x4)).toNat 0) 38 0 z3.toNat) rfl dX12_build_123 ?_
        refine g_icmp_ge X nx4 nd123 (tgt := 131) dX12_build_124 (by decide) (fun hc124 => ?_) (fun hc124 => ?_)
        · replace hf := it_f hf hc124
          exact hk131  hf _ _ _ hH hS (gLv_sub hl [1, 3, 4] rfl)
        · replace hf := it_t hf hc124
          refine lv_iconst X.1 X.2.1 dX12_build_127 (v := iI 1) rfl ?_
          refine lv_goto (tgt := 132) X.1 X.2.1 dX12_build_128 (by decide) ?_
          exact hk132 1 (by decide) hf _ _ _ hH hS (gLv_sub hl [1, 3, 4] rfl)
theorem w_X12_build_L58 {G : gG} {p : Program} {l : Launch} {e : Env} {s : State} {m : MethodId} {args : Array Value} {below : List Frame} {meth : Method} {c : Code} (X : gX G p s m args meth c RX12 cX12_build 6 (some .int) (gWs yX12_build cX12_build 6 (some .int))) (k146 : Int → gM → Option (Int × gM)) (q : (Int × gM)) (hk146 : ∀ (x2 : Int) (nx2 : nmI x2) (M : gM), k146 x2 M = some q → ∀ (H : Heap) (locs : List Loc) (ls : Array Slot), gH G M H → va_S (gA G) s.heap H locs → gLv ls 6 [(0, .ref (gAd G 29 0)), (2, .int (iI x2))] → W p l e { frames := 6, cells := 0, slots := 0, locals := 146 } s m args below meth c H locs 0 0 (MQ below (gQi G q.1 q.2) args s 0 0 (gA G)) (F0 m 146 ls [])) : ∀ (n : Nat) (x2 : Int) (nx2 : nmI x2) (x3 : Int) (nx3 : nmI x3) (M : gM), f_X12_build_L58 k146 n x2 x3 M = some q → ∀ (H : Heap) (locs : List Loc) (ls : Array Slot), gH G M H → va_S (gA G) s.heap H locs → gLv ls 6 [(0, .ref (gAd G 29 0)), (2, .int (iI x2)), (3, .int (iI x3))] → W p l e { frames := 6, cells := 0, slots := 0, locals := 146 } s m args below meth c H locs 0 0 (MQ below (gQi G q.1 q.2) args s 0 0 (gA G)) (F0 m 58 ls []) := by
  intro n
  induction n with
  | zero =>
    intro x2 nx2 x3 nx3 M hf
    cases hf
  | succ n ih =>
    intro x2 nx2 x3 nx3 M hf H locs ls hH hS hl
    rw [f_X12_build_L58] at hf
    refine lv_iload_n X.1 X.2.1 dX12_build_58 rfl (lv_at hl.1 2 rfl) ?_
    refine lv_aload_n X.1 X.2.1 dX12_build_59 rfl (lv_at hl.1 0 rfl) ?_
    have nd60 : nmI (M 29 0 7) := hH.1.1 _ _ _
    refine g_get X cX12 hH (r := 29) (i := 0) (by decide) rfl 7 (by decide) k_1217 rfl (v := .int (iI (M 29 0 7))) rfl dX12_build_60 ?_
    refine g_icmp_ge X nx3 nd60 (tgt := 146) dX12_build_63 (by decide) (fun hc63 => ?_) (fun hc63 => ?_)
    · replace hf := it_f hf hc63
      exact hk146 x2 nx2 M hf _ _ _ hH hS (gLv_sub hl [0, 1] rfl)
    · replace hf := it_t hf hc63
      refine lv_iconst X.1 X.2.1 dX12_build_66 (v := iI 0) rfl ?_
      refine g_istore X (lv' := [(4, .int (iI 0)), (0, .ref (gAd G 29 0)), (2, .int (iI x2)), (3, .int (iI x3))]) dX12_build_67 hl (by decide) rfl (fun ls hl => ?_)
      refine w_X12_build_L69 X _ x3 nx3 q ?_ 64 x2 nx2 0 (nmI_l (by decide)) M hf _ _ _ hH hS (gLv_sub hl [1, 2, 3, 0] rfl)
      · intro y2_69_140 ny2_69_140 M_69_140 hf H locs ls hH hS hl
        refine g_iinc X (a := x3) (lv' := [(3, .int (iI (wI (x3 + 1)))), (0, .ref (gAd G 29 0)), (2, .int (iI y2_69_140))]) dX12_build_140 hl (k := 2) rfl (by decide) rfl (fun ls hl => ?_)
        refine lv_goto (tgt := 58) X.1 X.2.1 dX12_build_143 (by decide) ?_
        exact ih y2_69_140 ny2_69_140 (wI (x3 + 1)) (nmI_w _) M_69_140 hf _ _ _ hH hS (gLv_sub hl [1, 2, 0] rfl)
theorem m_X12_build (l : Launch) (G : gG) (v1 : Int) (nv1 : nmI v1) (M : gM) (q : (Int × gM)) (hf : f_X12_build v1 M = some q) : gMet l yX12_build cX12_build 6 (some .int) 6 146 G M [.ref (gAd G 29 0), .int (iI v1)] (gQi G q.1 q.2) := by
  refine gOfW (by decide) (by show _ ≤ 6; exact Nat.le_of_ble_eq_true rfl) rfl ?_
  intro p e s m below meth c X hH ls hl
  replace hl : gLv ls 6 [(0, .ref (gAd G 29 0)), (1, .int (iI v1))] := hl
  have hS : va_S (gA G) s.heap s.heap [] := va_S.rf
  generalize hargs : ([.ref (gAd G 29 0), .int (iI v1)] : List Value).toArray = args at X ⊢
  clear hargs
  unfold f_X12_build at hf
  refine lv_aload_n X.1 X.2.1 dX12_build_0 rfl (lv_at hl.1 0 rfl) ?_
  refine lv_iload_n X.1 X.2.1 dX12_build_1 rfl (lv_at hl.1 1 rfl) ?_
  obtain ⟨k20, ek20, hf_⟩ := oj_e hf; clear hf; have hf := hf_; clear hf_
  have hk20 : ∀ (xs1_20 : Int) (bxs1_20 : xs1_20 = 0 ∨ xs1_20 = 1), k20 xs1_20 = some q → ∀ (H : Heap) (locs : List Loc) (ls : Array Slot), gH G M H → va_S (gA G) s.heap H locs → gLv ls 6 [(0, .ref (gAd G 29 0)), (1, .int (iI v1))] → W p l e { frames := 6, cells := 0, slots := 0, locals := 146 } s m args below meth c H locs 0 0 (MQ below (gQi G q.1 q.2) args s 0 0 (gA G)) (F0 m 20 ls [.int (iI xs1_20), .ref (gAd G 29 0)]) := by
    intro xs1_20 bxs1_20 hf H locs ls hH hS hl
    subst ek20
    refine lv_aload_n X.1 X.2.1 dX12_build_20 rfl (lv_at hl.1 0 rfl) ?_
    have nd21 : nmI (M 29 0 36) := hH.1.1 _ _ _
    have bd21 := hH.1.2.1 29 0 36 rfl
    refine g_get X cX12 hH (r := 29) (i := 0) (by decide) rfl 36 (by decide) k_1246 rfl (v := .int (iI (M 29 0 36))) rfl dX12_build_21 ?_
    obtain ⟨k32, ek32, hf_⟩ := oj_e hf; clear hf; have hf := hf_; clear hf_
    have hk32 : ∀ (xs2_32 : Int) (bxs2_32 : xs2_32 = 0 ∨ xs2_32 = 1), k32 xs2_32 = some q → ∀ (H : Heap) (locs : List Loc) (ls : Array Slot), gH G M H → va_S (gA G) s.heap H locs → gLv ls 6 [(0, .ref (gAd G 29 0)), (1, .int (iI v1))] → W p l e { frames := 6, cells := 0, slots := 0, locals := 146 } s m args below meth c H locs 0 0 (MQ below (gQi G q.1 q.2) args s 0 0 (gA G)) (F0 m 32 ls [.int (iI xs2_32), .int (iI xs1_20), .ref (gAd G 29 0)]) := by
      intro xs2_32 bxs2_32 hf H locs ls hH hS hl
      subst ek32
      refine gGoZ (gRunV X hH (As := [.int (iI xs1_20), .int (iI xs2_32)]) (m_X12_asked_ l G xs1_20 bxs1_20 xs2_32 bxs2_32 M _ rfl) calX12_asked_ k_1401 k_31 k_1399 (by decide) cX12 rfl ⟨by decide, by decide⟩ rfl hl rfl (Nat.le_of_ble_eq_true rfl) ⟨Nat.le_of_ble_eq_true rfl, Nat.le_of_ble_eq_true rfl⟩ dX12_build_32) hS (fun H locs br32 hH hS => ?_)
      refine g_if_ne X (nmI_b br32) (tgt := 40) dX12_build_35 (by decide) (fun hc35 => ?_) (fun hc35 => ?_)
      · replace hf := it_f hf hc35
        refine lv_aload_n X.1 X.2.1 dX12_build_40 rfl (lv_at hl.1 0 rfl) ?_
        refine lv_aload_n X.1 X.2.1 dX12_build_41 rfl (lv_at hl.1 0 rfl) ?_
        refine lv_iload_n X.1 X.2.1 dX12_build_42 rfl (lv_at hl.1 1 rfl) ?_
        obtain ⟨r43, hq43, hf_⟩ := ob_e hf; clear hf; have hf := hf_; clear hf_
        refine gGoI (gRunV X hH (As := [.int (iI v1)]) (m_X12_neededBy l G v1 nv1 ((f_X12_asked_ xs1_20 xs2_32 M).2) _ hq43) calX12_neededBy k_1479 k_38 k_1477 (by decide) cX12 rfl ⟨by decide, by decide⟩ rfl hl rfl (Nat.le_of_ble_eq_true rfl) ⟨Nat.le_of_ble_eq_true rfl, Nat.le_of_ble_eq_true rfl⟩ dX12_build_43) hS (fun H locs nr43 hH hS => ?_)
        refine g_putI X cX12 hH hS (r := 29) (i := 0) (by decide) rfl 37 (by decide) k_1247 rfl rfl rfl (Nat.le_of_ble_eq_true rfl) (x := r43) nr43 rfl rfl rfl dX12_build_46 (fun H locs hH hS => ?_)
        refine lv_aload_n X.1 X.2.1 dX12_build_49 rfl (lv_at hl.1 0 rfl) ?_
        refine lv_iconst X.1 X.2.1 dX12_build_50 (v := iI 0) rfl ?_
        refine g_putI X cX12 hH hS (r := 29) (i := 0) (by decide) rfl 43 (by decide) k_1253 rfl rfl rfl (Nat.le_of_ble_eq_true rfl) (x := 0) (nmI_l (by decide)) rfl rfl rfl dX12_build_51 (fun H locs hH hS => ?_)
        refine lv_iconst X.1 X.2.1 dX12_build_54 (v := iI 0) rfl ?_
        refine g_istore_n X (lv' := [(2, .int (iI 0)), (0, .ref (gAd G 29 0)), (1, .int (iI v1))]) dX12_build_55 rfl hl (by decide) rfl (fun ls hl => ?_)
        refine lv_iconst X.1 X.2.1 dX12_build_56 (v := iI 0) rfl ?_
        refine g_istore_n X (lv' := [(3, .int (iI 0)), (2, .int (iI 0)), (0, .ref (gAd G 29 0)), (1, .int (iI v1))]) dX12_build_57 rfl hl (by decide) rfl (fun ls hl => ?_)
        refine w_X12_build_L58 X _  q ?_ 64 0 (nmI_l (by decide)) 0 (nmI_l (by decide)) (gU (gU ((f_X12_asked_ xs1_20 xs2_32 M).2) 29 0 37 r43) 29 0 43 0) hf _ _ _ hH hS (gLv_sub hl [2, 1, 0] rfl)
        · intro y2_58_146 ny2_58_146 M_58_146 hf H locs ls hH hS hl
          refine lv_aload_n X.1 X.2.1 dX12_build_146 rfl (lv_at hl.1 0 rfl) ?_
          refine lv_iconst X.1 X.2.1 dX12_build_147 (v := iI 1) rfl ?_
          refine g_putZ X cX12 hH hS (r := 29) (i := 0) (by decide) rfl 36 (by decide) k_1246 rfl rfl rfl (Nat.le_of_ble_eq_true rfl) (x := 1) (by decide) rfl dX12_build_148 (fun H locs hH hS => ?_)
          refine lv_aload_n X.1 X.2.1 dX12_build_151 rfl (lv_at hl.1 0 rfl) ?_
          obtain ⟨r152, hq152, hf_⟩ := ob_e hf; clear hf; have hf := hf_; clear hf_
          refine gGoV (gRunV X hH (As := []) (m_X12_opens l G  (gU M_58_146 29 0 36 1) _ hq152) calX12_opens k_1491 k_41 k_1489 (by decide) cX12 rfl ⟨by decide, by decide⟩ rfl hl rfl (Nat.le_of_ble_eq_true rfl) ⟨Nat.le_of_ble_eq_true rfl, Nat.le_of_ble_eq_true rfl⟩ dX12_build_152) hS (fun H locs hH hS => ?_)
          refine lv_iload_n X.1 X.2.1 dX12_build_155 rfl (lv_at hl.1 1 rfl) ?_
          have hq := Option.some.inj hf; subst hq
          exact gRetI X hH hS (res := y2_58_146) ny2_58_146 dX12_build_156
      · replace hf := it_t hf hc35
        refine lv_iconst X.1 X.2.1 dX12_build_38 (v := iI 0) rfl ?_
        have hq := Option.some.inj hf; subst hq
        exact gRetI X hH hS (res := 0) (nmI_l (by decide)) dX12_build_39
    clear ek32
    refine g_if_ne X nd21 (tgt := 31) dX12_build_24 (by decide) (fun hc24 => ?_) (fun hc24 => ?_)
    · replace hf := it_f hf hc24
      refine lv_iconst X.1 X.2.1 dX12_build_31 (v := iI 0) rfl ?_
      exact hk32 0 (by decide) hf _ _ _ hH hS (gLv_sub hl [0, 1] rfl)
    · replace hf := it_t hf hc24
      refine lv_iconst X.1 X.2.1 dX12_build_27 (v := iI 1) rfl ?_
      refine lv_goto (tgt := 32) X.1 X.2.1 dX12_build_28 (by decide) ?_
      exact hk32 1 (by decide) hf _ _ _ hH hS (gLv_sub hl [0, 1] rfl)
  clear ek20
  obtain ⟨k19, ek19, hf_⟩ := oj_e hf; clear hf; have hf := hf_; clear hf_
  have hk19 : k19 = some q → ∀ (H : Heap) (locs : List Loc) (ls : Array Slot), gH G M H → va_S (gA G) s.heap H locs → gLv ls 6 [(0, .ref (gAd G 29 0)), (1, .int (iI v1))] → W p l e { frames := 6, cells := 0, slots := 0, locals := 146 } s m args below meth c H locs 0 0 (MQ below (gQi G q.1 q.2) args s 0 0 (gA G)) (F0 m 19 ls [.ref (gAd G 29 0)]) := by
    intro  hf H locs ls hH hS hl
    subst ek19
    refine lv_iconst X.1 X.2.1 dX12_build_19 (v := iI 0) rfl ?_
    exact hk20 0 (by decide) hf _ _ _ hH hS (gLv_sub hl [0, 1] rfl)
  clear ek19
  refine g_if_le X nv1 (tgt := 19) dX12_build_2 (by decide) (fun hc2 => ?_) (fun hc2 => ?_)
  · replace hf := it_f hf hc2
    exact hk19  hf _ _ _ hH hS (gLv_sub hl [0, 1] rfl)
  · replace hf := it_t hf hc2
    refine lv_iload_n X.1 X.2.1 dX12_build_5 rfl (lv_at hl.1 1 rfl) ?_
    refine lv_iconst X.1 X.2.1 dX12_build_6 (v := iI 1) rfl ?_
    refine lv_aload_n X.1 X.2.1 dX12_build_7 rfl (lv_at hl.1 0 rfl) ?_
    have nd8 : nmI (M 29 0 7) := hH.1.1 _ _ _
    refine g_get X cX12 hH (r := 29) (i := 0) (by decide) rfl 7 (by decide) k_1217 rfl (v := .int (iI (M 29 0 7))) rfl dX12_build_8 ?_
    refine g_ishl X dX12_build_11 ?_
    refine g_icmp_ge X nv1 (nmI_shl _ _) (tgt := 19) dX12_build_12 (by decide) (fun hc12 => ?_) (fun hc12 => ?_)
    · replace hf := it_f hf hc12
      exact hk19  hf _ _ _ hH hS (gLv_sub hl [0, 1] rfl)
    · replace hf := it_t hf hc12
      refine lv_iconst X.1 X.2.1 dX12_build_15 (v := iI 1) rfl ?_
      refine lv_goto (tgt := 20) X.1 X.2.1 dX12_build_16 (by decide) ?_
      exact hk20 1 (by decide) hf _ _ _ hH hS (gLv_sub hl [0, 1] rfl)
