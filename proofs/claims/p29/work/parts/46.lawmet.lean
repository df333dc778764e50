set_option maxHeartbeats 4000000 in
theorem m_P_drawn (l : Launch) (hl0 : l.stackTraces = false) (G : gG) {b L : Nat} {xs : Nat → Int32} (hb9 : b < G.1) (nL9 : nmI (L : Int)) (v1 : Int) (nv1 : nmI v1) (M0 : gM) (q : Int) (hf : f_P_drawn xs L v1 = some q) : gSMet l yL_drawn cL_drawn 3 (some .int) 0 0 0 0 G M0 b L xs [.ref b, .int (iI v1)] (gXi G True q M0) := by
  have hbA : ¬ gA G b := fun z => absurd z.1 (Nat.not_le.mpr hb9)
  refine gOfS (by decide) (by show _ ≤ 3; exact Nat.le_of_ble_eq_true rfl) rfl ?_
  intro p e s m below meth c X Z hH hX hbl ls hl
  replace hl : gLv ls 3 [(0, .ref b), (1, .int (iI v1))] := hl
  have hS : va_S (gA G) s.heap s.heap [] := va_S.rf
  generalize hargs : ([.ref b, .int (iI v1)] : List Value).toArray = args at X ⊢
  clear hargs
  have hce : 0 + 0 ≤ 0 := by omega
  have hsl : 0 + 6 * 0 ≤ 0 := by omega
  unfold f_P_drawn at hf
  refine lv_iload_n X.1 X.2.1 dL_drawn_0 rfl (lv_at hl.1 1 rfl) ?_
  refine lv_aload_n X.1 X.2.1 dL_drawn_1 rfl (lv_at hl.1 0 rfl) ?_
  refine g_slen X hX hbl hbA hS dL_drawn_2 ?_
  obtain ⟨k21, ek21, hf_⟩ := oj_e hf; clear hf; have hf := hf_; clear hf_
  have hk21 : ∀ (xs0_21 : Int) (nxs0_21 : nmI xs0_21), k21 xs0_21 = some q → ∀ (H : Heap) (locs : List Loc) (ls : Array Slot) (ce sl : Nat), ce + (0) ≤ 0 → sl + 6 * (0) ≤ 0 → gH G M0 H → va_S (gA G) s.heap H locs → gLv ls 3 [] → W p l e { frames := 0, cells := 0, slots := 0, locals := 0 } s m args below meth c H locs ce sl (vx_MQ below (gXi G True q M0) (gXC G (fun _ => False) M0) args s 0 0 (gA G)) (F0 m 21 ls [.int (iI xs0_21)]) := by
    clear hce hsl
    intro xs0_21 nxs0_21 hf H locs ls ce sl hce hsl hH hS hl
    subst ek21
    refine g_istore_n X (lv' := [(2, .int (iI xs0_21))]) dL_drawn_21 rfl hl (by decide) rfl (fun ls hl => ?_)
    refine lv_iload_n X.1 X.2.1 dL_drawn_22 rfl (lv_at hl.1 0 rfl) ?_
    refine g_ldc X k_470 (a := 1073741823) (by decide) dL_drawn_23 ?_
    refine g_iand X dL_drawn_25 ?_
    have hq := Option.some.inj hf; subst hq
    exact gRetXI X hH hS trivial (res := gAnd xs0_21 1073741823) (nmI_and _ _) ⟨by omega, by omega⟩ dL_drawn_26
  clear ek21
  refine g_icmp_ge X nv1 nL9 (tgt := 12) dL_drawn_3 (by decide) (fun hc3 => ?_) (fun hc3 => ?_)
  · replace hf := it_f hf hc3
    refine lv_sipush X.1 X.2.1 dL_drawn_12 (v := iI 12437) (by decide) ?_
    refine lv_iload_n X.1 X.2.1 dL_drawn_15 rfl (lv_at hl.1 1 rfl) ?_
    refine g_imul X dL_drawn_16 ?_
    refine lv_sipush X.1 X.2.1 dL_drawn_17 (v := iI 7309) (by decide) ?_
    refine g_iadd X dL_drawn_20 ?_
    exact hk21 (wI ((wI (12437 * v1)) + 7309)) (nmI_w _) hf _ _ _ _ _ (by omega) (by omega) hH hS (gLv_sub hl [] rfl)
  · replace hf := it_t hf hc3
    refine lv_aload_n X.1 X.2.1 dL_drawn_6 rfl (lv_at hl.1 0 rfl) ?_
    refine lv_iload_n X.1 X.2.1 dL_drawn_7 rfl (lv_at hl.1 1 rfl) ?_
    obtain ⟨hg, hf_⟩ := og_e hf; clear hf; have hf := hf_; clear hf_
    refine g_sld X hX hbl hbA hS nv1 hg dL_drawn_8 ?_
    refine lv_goto (tgt := 21) X.1 X.2.1 dL_drawn_9 (by decide) ?_
    exact hk21 (gXs xs v1.toNat) (nmI_of _) hf _ _ _ _ _ (by omega) (by omega) hH hS (gLv_sub hl [] rfl)
set_option maxHeartbeats 4000000 in
theorem m_P_does (l : Launch) (hl0 : l.stackTraces = false) (G : gG) (v1 : Int) (nv1 : nmI v1) (v2 : Int) (nv2 : nmI v2) (v3 : Int) (nv3 : nmI v3) (M0 : gM) (q : (Int × gM)) (hf : f_P_does v1 v2 v3 M0 = some q) : gLMet l yL_does cL_does 5 (some .int) [(0, 232, 233, 63), (0, 232, 238, 65), (0, 232, 243, 67)] 9 195 3 18 G M0 [.ref (gAd G 0 0), .int (iI v1), .int (iI v2), .int (iI v3)] (gXi G True q.1 q.2) := by
  refine gOfL (by decide) (by show _ ≤ 5; exact Nat.le_of_ble_eq_true rfl) rfl ?_
  intro p e s m below meth c X Z hT hH ls hl
  replace hl : gLv ls 5 [(0, .ref (gAd G 0 0)), (1, .int (iI v1)), (2, .int (iI v2)), (3, .int (iI v3))] := hl
  have hS : va_S (gA G) s.heap s.heap [] := va_S.rf
  generalize hargs : ([.ref (gAd G 0 0), .int (iI v1), .int (iI v2), .int (iI v3)] : List Value).toArray = args at X ⊢
  clear hargs
  have hce : 0 + 3 ≤ 3 := by omega
  have hsl : 0 + 6 * 3 ≤ 18 := by omega
  unfold f_P_does at hf
  refine lv_iload_n X.1 X.2.1 dL_does_0 rfl (lv_at hl.1 1 rfl) ?_
  refine g_if_ne X nv1 (tgt := 13) dL_does_1 (by decide) (fun hc1 => ?_) (fun hc1 => ?_)
  · replace hf := it_f hf hc1
    refine lv_iload_n X.1 X.2.1 dL_does_13 rfl (lv_at hl.1 1 rfl) ?_
    refine lv_iconst X.1 X.2.1 dL_does_14 (v := iI 1) rfl ?_
    refine g_icmp_ne X nv1 (nmI_l (by decide)) (tgt := 27) dL_does_15 (by decide) (fun hc15 => ?_) (fun hc15 => ?_)
    · replace hf := it_f hf hc15
      refine lv_iload_n X.1 X.2.1 dL_does_27 rfl (lv_at hl.1 1 rfl) ?_
      refine lv_iconst X.1 X.2.1 dL_does_28 (v := iI 2) rfl ?_
      refine g_icmp_ne X nv1 (nmI_l (by decide)) (tgt := 41) dL_does_29 (by decide) (fun hc29 => ?_) (fun hc29 => ?_)
      · replace hf := it_f hf hc29
        refine lv_iload_n X.1 X.2.1 dL_does_41 rfl (lv_at hl.1 1 rfl) ?_
        refine lv_iconst X.1 X.2.1 dL_does_42 (v := iI 3) rfl ?_
        refine g_icmp_ne X nv1 (nmI_l (by decide)) (tgt := 55) dL_does_43 (by decide) (fun hc43 => ?_) (fun hc43 => ?_)
        · replace hf := it_f hf hc43
          refine lv_iload_n X.1 X.2.1 dL_does_55 rfl (lv_at hl.1 1 rfl) ?_
          refine lv_iconst X.1 X.2.1 dL_does_56 (v := iI 4) rfl ?_
          refine g_icmp_ne X nv1 (nmI_l (by decide)) (tgt := 69) dL_does_57 (by decide) (fun hc57 => ?_) (fun hc57 => ?_)
          · replace hf := it_f hf hc57
            refine lv_iload_n X.1 X.2.1 dL_does_69 rfl (lv_at hl.1 1 rfl) ?_
            refine lv_iconst X.1 X.2.1 dL_does_70 (v := iI 5) rfl ?_
            refine g_icmp_ne X nv1 (nmI_l (by decide)) (tgt := 83) dL_does_71 (by decide) (fun hc71 => ?_) (fun hc71 => ?_)
            · replace hf := it_f hf hc71
              refine lv_iload_n X.1 X.2.1 dL_does_83 rfl (lv_at hl.1 1 rfl) ?_
              refine lv_bipush X.1 X.2.1 dL_does_84 (v := iI 6) (by decide) ?_
              refine g_icmp_ne X nv1 (nmI_l (by decide)) (tgt := 97) dL_does_86 (by decide) (fun hc86 => ?_) (fun hc86 => ?_)
              · replace hf := it_f hf hc86
                refine lv_iload_n X.1 X.2.1 dL_does_97 rfl (lv_at hl.1 1 rfl) ?_
                refine lv_bipush X.1 X.2.1 dL_does_98 (v := iI 7) (by decide) ?_
                refine g_icmp_ne X nv1 (nmI_l (by decide)) (tgt := 111) dL_does_100 (by decide) (fun hc100 => ?_) (fun hc100 => ?_)
                · replace hf := it_f hf hc100
                  refine lv_iload_n X.1 X.2.1 dL_does_111 rfl (lv_at hl.1 1 rfl) ?_
                  refine lv_bipush X.1 X.2.1 dL_does_112 (v := iI 8) (by decide) ?_
                  refine g_icmp_ne X nv1 (nmI_l (by decide)) (tgt := 126) dL_does_114 (by decide) (fun hc114 => ?_) (fun hc114 => ?_)
                  · replace hf := it_f hf hc114
                    refine lv_iload_n X.1 X.2.1 dL_does_126 rfl (lv_at hl.1 1 rfl) ?_
                    refine lv_bipush X.1 X.2.1 dL_does_127 (v := iI 9) (by decide) ?_
                    refine g_icmp_ne X nv1 (nmI_l (by decide)) (tgt := 141) dL_does_129 (by decide) (fun hc129 => ?_) (fun hc129 => ?_)
                    · replace hf := it_f hf hc129
                      refine lv_iload_n X.1 X.2.1 dL_does_141 rfl (lv_at hl.1 1 rfl) ?_
                      refine lv_bipush X.1 X.2.1 dL_does_142 (v := iI 10) (by decide) ?_
                      refine g_icmp_ne X nv1 (nmI_l (by decide)) (tgt := 156) dL_does_144 (by decide) (fun hc144 => ?_) (fun hc144 => ?_)
                      · replace hf := it_f hf hc144
                        refine lv_iload_n X.1 X.2.1 dL_does_156 rfl (lv_at hl.1 1 rfl) ?_
                        refine lv_bipush X.1 X.2.1 dL_does_157 (v := iI 11) (by decide) ?_
                        refine g_icmp_ne X nv1 (nmI_l (by decide)) (tgt := 170) dL_does_159 (by decide) (fun hc159 => ?_) (fun hc159 => ?_)
                        · replace hf := it_f hf hc159
                          refine lv_iload_n X.1 X.2.1 dL_does_170 rfl (lv_at hl.1 1 rfl) ?_
                          refine lv_bipush X.1 X.2.1 dL_does_171 (v := iI 12) (by decide) ?_
                          refine g_icmp_ne X nv1 (nmI_l (by decide)) (tgt := 184) dL_does_173 (by decide) (fun hc173 => ?_) (fun hc173 => ?_)
                          · replace hf := it_f hf hc173
                            refine lv_iload_n X.1 X.2.1 dL_does_184 rfl (lv_at hl.1 1 rfl) ?_
                            refine lv_bipush X.1 X.2.1 dL_does_185 (v := iI 13) (by decide) ?_
                            refine g_icmp_ne X nv1 (nmI_l (by decide)) (tgt := 198) dL_does_187 (by decide) (fun hc187 => ?_) (fun hc187 => ?_)
                            · replace hf := it_f hf hc187
                              refine lv_iload_n X.1 X.2.1 dL_does_198 rfl (lv_at hl.1 1 rfl) ?_
                              refine lv_bipush X.1 X.2.1 dL_does_199 (v := iI 14) (by decide) ?_
                              refine g_icmp_ne X nv1 (nmI_l (by decide)) (tgt := 212) dL_does_201 (by decide) (fun hc201 => ?_) (fun hc201 => ?_)
                              · replace hf := it_f hf hc201
                                refine lv_iload_n X.1 X.2.1 dL_does_212 rfl (lv_at hl.1 1 rfl) ?_
                                refine lv_bipush X.1 X.2.1 dL_does_213 (v := iI 15) (by decide) ?_
                                refine g_icmp_ne X nv1 (nmI_l (by decide)) (tgt := 227) dL_does_215 (by decide) (fun hc215 => ?_) (fun hc215 => ?_)
                                · replace hf := it_f hf hc215
                                  refine lv_aload_n X.1 X.2.1 dL_does_227 rfl (lv_at hl.1 0 rfl) ?_
                                  refine lv_iload_n X.1 X.2.1 dL_does_228 rfl (lv_at hl.1 2 rfl) ?_
                                  obtain ⟨r229, hq229, hf_⟩ := ob_e hf; clear hf; have hf := hf_; clear hf_
                                  rcases r229 with e8 | v229_
                                  · replace hf := ol_l hf
                                    refine gGoXI (gRunVX X Z hH hS (As := [.int (iI v2)]) (m_X11_bisect l hl0 G v2 nv2 M0 _ hq229) calX11_bisect k_1068 k_1069 k_1067 (by decide) cX11 rfl ⟨by decide, by decide⟩ rfl hl rfl (Nat.le_of_ble_eq_true rfl) ⟨by show _ ≤ 3; omega, by show _ ≤ 18; omega⟩ dL_does_229) hS (fun E ce9 q9 H locs hE hH hS h1 h2 h3 => ?_) (fun H locs hok _ hH hS => ?_)
                                    · obtain ⟨e7, h7, h8⟩ := hE
                                      cases h7
                                      subst h8
                                      by_cases he2 : e8 = 2
                                      · replace hf := it_t hf he2
                                        subst he2
                                        refine gOutCatch X Z (e9 := 2) hT [] ⟨0, 232, 233, 63⟩ [⟨0, 232, 238, 65⟩, ⟨0, 232, 243, 67⟩] rfl (fun z hz => nomatch hz) (by decide) (by decide) (by decide) k_474 k_616 h1 h2 h3 ?_
                                        refine g_astore X (lv' := [(4, .ref q9), (0, .ref (gAd G 0 0)), (1, .int (iI v1)), (2, .int (iI v2)), (3, .int (iI v3))]) dL_does_233 hl (by decide) rfl (fun ls hl => ?_)
                                        refine lv_bipush X.1 X.2.1 dL_does_235 (v := iI (-8)) (by decide) ?_
                                        have hq := Option.some.inj hf; subst hq
                                        exact gRetXI X hH hS trivial (res := (-8)) (nmI_l (by decide)) ⟨by omega, by omega⟩ dL_does_237
                                      · replace hf := it_f hf he2
                                        by_cases he1 : e8 = 1
                                        · replace hf := it_t hf he1
                                          subst he1
                                          refine gOutCatch X Z (e9 := 1) hT [⟨0, 232, 233, 63⟩] ⟨0, 232, 238, 65⟩ [⟨0, 232, 243, 67⟩] rfl (fun z hz => by simp only [List.mem_cons, List.not_mem_nil, or_false] at hz; rcases hz with rfl <;> first | exact ⟨by decide, 2, k_474, by decide, by decide⟩) (by decide) (by decide) (by decide) k_475 k_489 h1 h2 h3 ?_
                                          refine g_astore X (lv' := [(4, .ref q9), (0, .ref (gAd G 0 0)), (1, .int (iI v1)), (2, .int (iI v2)), (3, .int (iI v3))]) dL_does_238 hl (by decide) rfl (fun ls hl => ?_)
                                          refine lv_bipush X.1 X.2.1 dL_does_240 (v := iI (-8)) (by decide) ?_
                                          have hq := Option.some.inj hf; subst hq
                                          exact gRetXI X hH hS trivial (res := (-8)) (nmI_l (by decide)) ⟨by omega, by omega⟩ dL_does_242
                                        · replace hf := it_f hf he1
                                          by_cases he3 : e8 = 3
                                          · replace hf := it_t hf he3
                                            subst he3
                                            refine gOutCatch X Z (e9 := 3) hT [⟨0, 232, 233, 63⟩, ⟨0, 232, 238, 65⟩] ⟨0, 232, 243, 67⟩ [] rfl (fun z hz => by simp only [List.mem_cons, List.not_mem_nil, or_false] at hz; rcases hz with rfl | rfl <;> first | exact ⟨by decide, 2, k_474, by decide, by decide⟩ | exact ⟨by decide, 1, k_475, by decide, by decide⟩) (by decide) (by decide) (by decide) k_476 k_587 h1 h2 h3 ?_
                                            refine g_astore X (lv' := [(4, .ref q9), (0, .ref (gAd G 0 0)), (1, .int (iI v1)), (2, .int (iI v2)), (3, .int (iI v3))]) dL_does_243 hl (by decide) rfl (fun ls hl => ?_)
                                            refine lv_bipush X.1 X.2.1 dL_does_245 (v := iI (-8)) (by decide) ?_
                                            have hq := Option.some.inj hf; subst hq
                                            exact gRetXI X hH hS trivial (res := (-8)) (nmI_l (by decide)) ⟨by omega, by omega⟩ dL_does_247
                                          · replace hf := it_f hf he3
                                            cases hf
                                    · obtain ⟨z, hz⟩ := hok; cases hz
                                  · replace hf := ol_r hf
                                    refine gGoXI (gRunVX X Z hH hS (As := [.int (iI v2)]) (m_X11_bisect l hl0 G v2 nv2 M0 _ hq229) calX11_bisect k_1068 k_1069 k_1067 (by decide) cX11 rfl ⟨by decide, by decide⟩ rfl hl rfl (Nat.le_of_ble_eq_true rfl) ⟨by show _ ≤ 3; omega, by show _ ≤ 18; omega⟩ dL_does_229) hS (fun E ce9 q9 H locs hE hH hS h1 h2 h3 => ?_) (fun H locs _ nv_ hH hS => ?_)
                                    · obtain ⟨e7, h7, h8⟩ := hE; cases h7
                                    · have hq := Option.some.inj hf; subst hq
                                      exact gRetXI X hH hS trivial (res := v229_.1) nv_ ⟨by omega, by omega⟩ dL_does_232
                                · replace hf := it_t hf hc215
                                  refine lv_aload_n X.1 X.2.1 dL_does_218 rfl (lv_at hl.1 0 rfl) ?_
                                  refine lv_iload_n X.1 X.2.1 dL_does_219 rfl (lv_at hl.1 2 rfl) ?_
                                  refine lv_iload_n X.1 X.2.1 dL_does_220 rfl (lv_at hl.1 3 rfl) ?_
                                  obtain ⟨r221, hq221, hf_⟩ := ob_e hf; clear hf; have hf := hf_; clear hf_
                                  rcases r221 with e8 | v221_
                                  · replace hf := ol_l hf
                                    refine gGoXI (gRunVX X Z hH hS (As := [.int (iI v2), .int (iI v3)]) (m_X11_steps l hl0 G v2 nv2 v3 nv3 M0 _ hq221) calX11_steps k_1056 k_1057 k_1055 (by decide) cX11 rfl ⟨by decide, by decide⟩ rfl hl rfl (Nat.le_of_ble_eq_true rfl) ⟨by show _ ≤ 3; omega, by show _ ≤ 18; omega⟩ dL_does_221) hS (fun E ce9 q9 H locs hE hH hS h1 h2 h3 => ?_) (fun H locs hok _ hH hS => ?_)
                                    · obtain ⟨e7, h7, h8⟩ := hE
                                      cases h7
                                      subst h8
                                      by_cases he2 : e8 = 2
                                      · replace hf := it_t hf he2
                                        subst he2
                                        refine gOutCatch X Z (e9 := 2) hT [] ⟨0, 232, 233, 63⟩ [⟨0, 232, 238, 65⟩, ⟨0, 232, 243, 67⟩] rfl (fun z hz => nomatch hz) (by decide) (by decide) (by decide) k_474 k_616 h1 h2 h3 ?_
                                        refine g_astore X (lv' := [(4, .ref q9), (0, .ref (gAd G 0 0)), (1, .int (iI v1)), (2, .int (iI v2)), (3, .int (iI v3))]) dL_does_233 hl (by decide) rfl (fun ls hl => ?_)
                                        refine lv_bipush X.1 X.2.1 dL_does_235 (v := iI (-8)) (by decide) ?_
                                        have hq := Option.some.inj hf; subst hq
                                        exact gRetXI X hH hS trivial (res := (-8)) (nmI_l (by decide)) ⟨by omega, by omega⟩ dL_does_237
                                      · replace hf := it_f hf he2
                                        by_cases he1 : e8 = 1
                                        · replace hf := it_t hf he1
                                          subst he1
                                          refine gOutCatch X Z (e9 := 1) hT [⟨0, 232, 233, 63⟩] ⟨0, 232, 238, 65⟩ [⟨0, 232, 243, 67⟩] rfl (fun z hz => by simp only [List.mem_cons, List.not_mem_nil, or_false] at hz; rcases hz with rfl <;> first | exact ⟨by decide, 2, k_474, by decide, by decide⟩) (by decide) (by decide) (by decide) k_475 k_489 h1 h2 h3 ?_
                                          refine g_astore X (lv' := [(4, .ref q9), (0, .ref (gAd G 0 0)), (1, .int (iI v1)), (2, .int (iI v2)), (3, .int (iI v3))]) dL_does_238 hl (by decide) rfl (fun ls hl => ?_)
                                          refine lv_bipush X.1 X.2.1 dL_does_240 (v := iI (-8)) (by decide) ?_
                                          have hq := Option.some.inj hf; subst hq
                                          exact gRetXI X hH hS trivial (res := (-8)) (nmI_l (by decide)) ⟨by omega, by omega⟩ dL_does_242
                                        · replace hf := it_f hf he1
                                          by_cases he3 : e8 = 3
                                          · replace hf := it_t hf he3
                                            subst he3
                                            refine gOutCatch X Z (e9 := 3) hT [⟨0, 232, 233, 63⟩, ⟨0, 232, 238, 65⟩] ⟨0, 232, 243, 67⟩ [] rfl (fun z hz => by simp only [List.mem_cons, List.not_mem_nil, or_false] at hz; rcases hz with rfl | rfl <;> first | exact ⟨by decide, 2, k_474, by decide, by decide⟩ | exact ⟨by decide, 1, k_475, by decide, by decide⟩) (by decide) (by decide) (by decide) k_476 k_587 h1 h2 h3 ?_
                                            refine g_astore X (lv' := [(4, .ref q9), (0, .ref (gAd G 0 0)), (1, .int (iI v1)), (2, .int (iI v2)), (3, .int (iI v3))]) dL_does_243 hl (by decide) rfl (fun ls hl => ?_)
                                            refine lv_bipush X.1 X.2.1 dL_does_245 (v := iI (-8)) (by decide) ?_
                                            have hq := Option.some.inj hf; subst hq
                                            exact gRetXI X hH hS trivial (res := (-8)) (nmI_l (by decide)) ⟨by omega, by omega⟩ dL_does_247
                                          · replace hf := it_f hf he3
                                            cases hf
                                    · obtain ⟨z, hz⟩ := hok; cases hz
                                  · replace hf := ol_r hf
                                    refine gGoXI (gRunVX X Z hH hS (As := [.int (iI v2), .int (iI v3)]) (m_X11_steps l hl0 G v2 nv2 v3 nv3 M0 _ hq221) calX11_steps k_1056 k_1057 k_1055 (by decide) cX11 rfl ⟨by decide, by decide⟩ rfl hl rfl (Nat.le_of_ble_eq_true rfl) ⟨by show _ ≤ 3; omega, by show _ ≤ 18; omega⟩ dL_does_221) hS (fun E ce9 q9 H locs hE hH hS h1 h2 h3 => ?_) (fun H locs _ nv_ hH hS => ?_)
                                    · obtain ⟨e7, h7, h8⟩ := hE; cases h7
                                    · refine lv_goto (tgt := 232) X.1 X.2.1 dL_does_224 (by decide) ?_
                                      have hq := Option.some.inj hf; subst hq
                                      exact gRetXI X hH hS trivial (res := v221_.1) nv_ ⟨by omega, by omega⟩ dL_does_232
                              · replace hf := it_t hf hc201
                                refine lv_aload_n X.1 X.2.1 dL_does_204 rfl (lv_at hl.1 0 rfl) ?_
                                refine lv_iload_n X.1 X.2.1 dL_does_205 rfl (lv_at hl.1 2 rfl) ?_
                                obtain ⟨r206, hq206, hf_⟩ := ob_e hf; clear hf; have hf := hf_; clear hf_
                                rcases r206 with e8 | v206_
                                · replace hf := ol_l hf
                                  refine gGoXI (gRunVX X Z hH hS (As := [.int (iI v2)]) (m_X11_needing l hl0 G v2 nv2 M0 _ hq206) calX11_needing k_1039 k_1040 k_1038 (by decide) cX11 rfl ⟨by decide, by decide⟩ rfl hl rfl (Nat.le_of_ble_eq_true rfl) ⟨by show _ ≤ 3; omega, by show _ ≤ 18; omega⟩ dL_does_206) hS (fun E ce9 q9 H locs hE hH hS h1 h2 h3 => ?_) (fun H locs hok _ hH hS => ?_)
                                  · obtain ⟨e7, h7, h8⟩ := hE
                                    cases h7
                                    subst h8
                                    by_cases he2 : e8 = 2
                                    · replace hf := it_t hf he2
                                      subst he2
                                      refine gOutCatch X Z (e9 := 2) hT [] ⟨0, 232, 233, 63⟩ [⟨0, 232, 238, 65⟩, ⟨0, 232, 243, 67⟩] rfl (fun z hz => nomatch hz) (by decide) (by decide) (by decide) k_474 k_616 h1 h2 h3 ?_
                                      refine g_astore X (lv' := [(4, .ref q9), (0, .ref (gAd G 0 0)), (1, .int (iI v1)), (2, .int (iI v2)), (3, .int (iI v3))]) dL_does_233 hl (by decide) rfl (fun ls hl => ?_)
                                      refine lv_bipush X.1 X.2.1 dL_does_235 (v := iI (-8)) (by decide) ?_
                                      have hq := Option.some.inj hf; subst hq
                                      exact gRetXI X hH hS trivial (res := (-8)) (nmI_l (by decide)) ⟨by omega, by omega⟩ dL_does_237
                                    · replace hf := it_f hf he2
                                      by_cases he1 : e8 = 1
                                      · replace hf := it_t hf he1
                                        subst he1
                                        refine gOutCatch X Z (e9 := 1) hT [⟨0, 232, 233, 63⟩] ⟨0, 232, 238, 65⟩ [⟨0, 232, 243, 67⟩] rfl (fun z hz => by simp only [List.mem_cons, List.not_mem_nil, or_false] at hz; rcases hz with rfl <;> first | exact ⟨by decide, 2, k_474, by decide, by decide⟩) (by decide) (by decide) (by decide) k_475 k_489 h1 h2 h3 ?_
                                        refine g_astore X (lv' := [(4, .ref q9), (0, .ref (gAd G 0 0)), (1, .int (iI v1)), (2, .int (iI v2)), (3, .int (iI v3))]) dL_does_238 hl (by decide) rfl (fun ls hl => ?_)
                                        refine lv_bipush X.1 X.2.1 dL_does_240 (v := iI (-8)) (by decide) ?_
                                        have hq := Option.some.inj hf; subst hq
                                        exact gRetXI X hH hS trivial (res := (-8)) (nmI_l (by decide)) ⟨by omega, by omega⟩ dL_does_242
                                      · replace hf := it_f hf he1
                                        by_cases he3 : e8 = 3
                                        · replace hf := it_t hf he3
                                          subst he3
                                          refine gOutCatch X Z (e9 := 3) hT [⟨0, 232, 233, 63⟩, ⟨0, 232, 238, 65⟩] ⟨0, 232, 243, 67⟩ [] rfl (fun z hz => by simp only [List.mem_cons, List.not_mem_nil, or_false] at hz; rcases hz with rfl | rfl <;> first | exact ⟨by decide, 2, k_474, by decide, by decide⟩ | exact ⟨by decide, 1, k_475, by decide, by decide⟩) (by decide) (by decide) (by decide) k_476 k_587 h1 h2 h3 ?_
                                          refine g_astore X (lv' := [(4, .ref q9), (0, .ref (gAd G 0 0)), (1, .int (iI v1)), (2, .int (iI v2)), (3, .int (iI v3))]) dL_does_243 hl (by decide) rfl (fun ls hl => ?_)
                                          refine lv_bipush X.1 X.2.1 dL_does_245 (v := iI (-8)) (by decide) ?_
                                          have hq := Option.some.inj hf; subst hq
                                          exact gRetXI X hH hS trivial (res := (-8)) (nmI_l (by decide)) ⟨by omega, by omega⟩ dL_does_247
                                        · replace hf := it_f hf he3
                                          cases hf
                                  · obtain ⟨z, hz⟩ := hok; cases hz
                                · replace hf := ol_r hf
                                  refine gGoXI (gRunVX X Z hH hS (As := [.int (iI v2)]) (m_X11_needing l hl0 G v2 nv2 M0 _ hq206) calX11_needing k_1039 k_1040 k_1038 (by decide) cX11 rfl ⟨by decide, by decide⟩ rfl hl rfl (Nat.le_of_ble_eq_true rfl) ⟨by show _ ≤ 3; omega, by show _ ≤ 18; omega⟩ dL_does_206) hS (fun E ce9 q9 H locs hE hH hS h1 h2 h3 => ?_) (fun H locs _ nv_ hH hS => ?_)
                                  · obtain ⟨e7, h7, h8⟩ := hE; cases h7
                                  · refine lv_goto (tgt := 232) X.1 X.2.1 dL_does_209 (by decide) ?_
                                    have hq := Option.some.inj hf; subst hq
                                    exact gRetXI X hH hS trivial (res := v206_) nv_ ⟨by omega, by omega⟩ dL_does_232
                            · replace hf := it_t hf hc187
                              refine lv_aload_n X.1 X.2.1 dL_does_190 rfl (lv_at hl.1 0 rfl) ?_
                              refine lv_iload_n X.1 X.2.1 dL_does_191 rfl (lv_at hl.1 2 rfl) ?_
                              obtain ⟨r192, hq192, hf_⟩ := ob_e hf; clear hf; have hf := hf_; clear hf_
                              rcases r192 with e8 | v192_
                              · replace hf := ol_l hf
                                refine gGoXI (gRunVX X Z hH hS (As := [.int (iI v2)]) (m_X11_needed l hl0 G v2 nv2 M0 _ hq192) calX11_needed k_1035 k_1036 k_1034 (by decide) cX11 rfl ⟨by decide, by decide⟩ rfl hl rfl (Nat.le_of_ble_eq_true rfl) ⟨by show _ ≤ 3; omega, by show _ ≤ 18; omega⟩ dL_does_192) hS (fun E ce9 q9 H locs hE hH hS h1 h2 h3 => ?_) (fun H locs hok _ hH hS => ?_)
                                · obtain ⟨e7, h7, h8⟩ := hE
                                  cases h7
                                  subst h8
                                  by_cases he2 : e8 = 2
                                  · replace hf := it_t hf he2
                                    subst he2
                                    refine gOutCatch X Z (e9 := 2) hT [] ⟨0, 232, 233, 63⟩ [⟨0, 232, 238, 65⟩, ⟨0, 232, 243, 67⟩] rfl (fun z hz => nomatch hz) (by decide) (by decide) (by decide) k_474 k_616 h1 h2 h3 ?_
                                    refine g_astore X (lv' := [(4, .ref q9), (0, .ref (gAd G 0 0)), (1, .int (iI v1)), (2, .int (iI v2)), (3, .int (iI v3))]) dL_does_233 hl (by decide) rfl (fun ls hl => ?_)
                                    refine lv_bipush X.1 X.2.1 dL_does_235 (v := iI (-8)) (by decide) ?_
                                    have hq := Option.some.inj hf; subst hq
                                    exact gRetXI X hH hS trivial (res := (-8)) (nmI_l (by decide)) ⟨by omega, by omega⟩ dL_does_237
                                  · replace hf := it_f hf he2
                                    by_cases he1 : e8 = 1
                                    · replace hf := it_t hf he1
                                      subst he1
                                      refine gOutCatch X Z (e9 := 1) hT [⟨0, 232, 233, 63⟩] ⟨0, 232, 238, 65⟩ [⟨0, 232, 243, 67⟩] rfl (fun z hz => by simp only [List.mem_cons, List.not_mem_nil, or_false] at hz; rcases hz with rfl <;> first | exact ⟨by decide, 2, k_474, by decide, by decide⟩) (by decide) (by decide) (by decide) k_475 k_489 h1 h2 h3 ?_
                                      refine g_astore X (lv' := [(4, .ref q9), (0, .ref (gAd G 0 0)), (1, .int (iI v1)), (2, .int (iI v2)), (3, .int (iI v3))]) dL_does_238 hl (by decide) rfl (fun ls hl => ?_)
                                      refine lv_bipush X.1 X.2.1 dL_does_240 (v := iI (-8)) (by decide) ?_
                                      have hq := Option.some.inj hf; subst hq
                                      exact gRetXI X hH hS trivial (res := (-8)) (nmI_l (by decide)) ⟨by omega, by omega⟩ dL_does_242
                                    · replace hf := it_f hf he1
                                      by_cases he3 : e8 = 3
                                      · replace hf := it_t hf he3
                                        subst he3
                                        refine gOutCatch X Z (e9 := 3) hT [⟨0, 232, 233, 63⟩, ⟨0, 232, 238, 65⟩] ⟨0, 232, 243, 67⟩ [] rfl (fun z hz => by simp only [List.mem_cons, List.not_mem_nil, or_false] at hz; rcases hz with rfl | rfl <;> first | exact ⟨by decide, 2, k_474, by decide, by decide⟩ | exact ⟨by decide, 1, k_475, by decide, by decide⟩) (by decide) (by decide) (by decide) k_476 k_587 h1 h2 h3 ?_
                                        refine g_astore X (lv' := [(4, .ref q9), (0, .ref (gAd G 0 0)), (1, .int (iI v1)), (2, .int (iI v2)), (3, .int (iI v3))]) dL_does_243 hl (by decide) rfl (fun ls hl => ?_)
                                        refine lv_bipush X.1 X.2.1 dL_does_245 (v := iI (-8)) (by decide) ?_
                                        have hq := Option.some.inj hf; subst hq
                                        exact gRetXI X hH hS trivial (res := (-8)) (nmI_l (by decide)) ⟨by omega, by omega⟩ dL_does_247
                                      · replace hf := it_f hf he3
                                        cases hf
                                · obtain ⟨z, hz⟩ := hok; cases hz
                              · replace hf := ol_r hf
                                refine gGoXI (gRunVX X Z hH hS (As := [.int (iI v2)]) (m_X11_needed l hl0 G v2 nv2 M0 _ hq192) calX11_needed k_1035 k_1036 k_1034 (by decide) cX11 rfl ⟨by decide, by decide⟩ rfl hl rfl (Nat.le_of_ble_eq_true rfl) ⟨by show _ ≤ 3; omega, by show _ ≤ 18; omega⟩ dL_does_192) hS (fun E ce9 q9 H locs hE hH hS h1 h2 h3 => ?_) (fun H locs _ nv_ hH hS => ?_)
                                · obtain ⟨e7, h7, h8⟩ := hE; cases h7
                                · refine lv_goto (tgt := 232) X.1 X.2.1 dL_does_195 (by decide) ?_
                                  have hq := Option.some.inj hf; subst hq
                                  exact gRetXI X hH hS trivial (res := v192_) nv_ ⟨by omega, by omega⟩ dL_does_232
                          · replace hf := it_t hf hc173
                            refine lv_aload_n X.1 X.2.1 dL_does_176 rfl (lv_at hl.1 0 rfl) ?_
                            refine lv_iload_n X.1 X.2.1 dL_does_177 rfl (lv_at hl.1 2 rfl) ?_
                            obtain ⟨r178, hq178, hf_⟩ := ob_e hf; clear hf; have hf := hf_; clear hf_
                            rcases r178 with e8 | v178_
                            · replace hf := ol_l hf
                              refine gGoXI (gRunVX X Z hH hS (As := [.int (iI v2)]) (m_X11_count l hl0 G v2 nv2 M0 _ hq178) calX11_count k_1031 k_1032 k_1030 (by decide) cX11 rfl ⟨by decide, by decide⟩ rfl hl rfl (Nat.le_of_ble_eq_true rfl) ⟨by show _ ≤ 3; omega, by show _ ≤ 18; omega⟩ dL_does_178) hS (fun E ce9 q9 H locs hE hH hS h1 h2 h3 => ?_) (fun H locs hok _ hH hS => ?_)
                              · obtain ⟨e7, h7, h8⟩ := hE
                                cases h7
                                subst h8
                                by_cases he2 : e8 = 2
                                · replace hf := it_t hf he2
                                  subst he2
                                  refine gOutCatch X Z (e9 := 2) hT [] ⟨0, 232, 233, 63⟩ [⟨0, 232, 238, 65⟩, ⟨0, 232, 243, 67⟩] rfl (fun z hz => nomatch hz) (by decide) (by decide) (by decide) k_474 k_616 h1 h2 h3 ?_
                                  refine g_astore X (lv' := [(4, .ref q9), (0, .ref (gAd G 0 0)), (1, .int (iI v1)), (2, .int (iI v2)), (3, .int (iI v3))]) dL_does_233 hl (by decide) rfl (fun ls hl => ?_)
                                  refine lv_bipush X.1 X.2.1 dL_does_235 (v := iI (-8)) (by decide) ?_
                                  have hq := Option.some.inj hf; subst hq
                                  exact gRetXI X hH hS trivial (res := (-8)) (nmI_l (by decide)) ⟨by omega, by omega⟩ dL_does_237
                                · replace hf := it_f hf he2
                                  by_cases he1 : e8 = 1
                                  · replace hf := it_t hf he1
                                    subst he1
                                    refine gOutCatch X Z (e9 := 1) hT [⟨0, 232, 233, 63⟩] ⟨0, 232, 238, 65⟩ [⟨0, 232, 243, 67⟩] rfl (fun z hz => by simp only [List.mem_cons, List.not_mem_nil, or_false] at hz; rcases hz with rfl <;> first | exact ⟨by decide, 2, k_474, by decide, by decide⟩) (by decide) (by decide) (by decide) k_475 k_489 h1 h2 h3 ?_
                                    refine g_astore X (lv' := [(4, .ref q9), (0, .ref (gAd G 0 0)), (1, .int (iI v1)), (2, .int (iI v2)), (3, .int (iI v3))]) dL_does_238 hl (by decide) rfl (fun ls hl => ?_)
                                    refine lv_bipush X.1 X.2.1 dL_does_240 (v := iI (-8)) (by decide) ?_
                                    have hq := Option.some.inj hf; subst hq
                                    exact gRetXI X hH hS trivial (res := (-8)) (nmI_l (by decide)) ⟨by omega, by omega⟩ dL_does_242
                                  · replace hf := it_f hf he1
                                    by_cases he3 : e8 = 3
                                    · replace hf := it_t hf he3
                                      subst he3
                                      refine gOutCatch X Z (e9 := 3) hT [⟨0, 232, 233, 63⟩, ⟨0, 232, 238, 65⟩] ⟨0, 232, 243, 67⟩ [] rfl (fun z hz => by simp only [List.mem_cons, List.not_mem_nil, or_false] at hz; rcases hz with rfl | rfl <;> first | exact ⟨by decide, 2, k_474, by decide, by decide⟩ | exact ⟨by decide, 1, k_475, by decide, by decide⟩) (by decide) (by decide) (by decide) k_476 k_587 h1 h2 h3 ?_
                                      refine g_astore X (lv' := [(4, .ref q9), (0, .ref (gAd G 0 0)), (1, .int (iI v1)), (2, .int (iI v2)), (3, .int (iI v3))]) dL_does_243 hl (by decide) rfl (fun ls hl => ?_)
                                      refine lv_bipush X.1 X.2.1 dL_does_245 (v := iI (-8)) (by decide) ?_
                                      have hq := Option.some.inj hf; subst hq
                                      exact gRetXI X hH hS trivial (res := (-8)) (nmI_l (by decide)) ⟨by omega, by omega⟩ dL_does_247
                                    · replace hf := it_f hf he3
                                      cases hf
                              · obtain ⟨z, hz⟩ := hok; cases hz
                            · replace hf := ol_r hf
                              refine gGoXI (gRunVX X Z hH hS (As := [.int (iI v2)]) (m_X11_count l hl0 G v2 nv2 M0 _ hq178) calX11_count k_1031 k_1032 k_1030 (by decide) cX11 rfl ⟨by decide, by decide⟩ rfl hl rfl (Nat.le_of_ble_eq_true rfl) ⟨by show _ ≤ 3; omega, by show _ ≤ 18; omega⟩ dL_does_178) hS (fun E ce9 q9 H locs hE hH hS h1 h2 h3 => ?_) (fun H locs _ nv_ hH hS => ?_)
                              · obtain ⟨e7, h7, h8⟩ := hE; cases h7
                              · refine lv_goto (tgt := 232) X.1 X.2.1 dL_does_181 (by decide) ?_
                                have hq := Option.some.inj hf; subst hq
                                exact gRetXI X hH hS trivial (res := v178_) nv_ ⟨by omega, by omega⟩ dL_does_232
                        · replace hf := it_t hf hc159
                          refine lv_aload_n X.1 X.2.1 dL_does_162 rfl (lv_at hl.1 0 rfl) ?_
                          refine lv_iload_n X.1 X.2.1 dL_does_163 rfl (lv_at hl.1 2 rfl) ?_
                          obtain ⟨r164, hq164, hf_⟩ := ob_e hf; clear hf; have hf := hf_; clear hf_
                          rcases r164 with e8 | v164_
                          · replace hf := ol_l hf
                            refine gGoXI (gRunVX X Z hH hS (As := [.int (iI v2)]) (m_X11_proof l hl0 G v2 nv2 M0 _ hq164) calX11_proof k_1009 k_1010 k_1008 (by decide) cX11 rfl ⟨by decide, by decide⟩ rfl hl rfl (Nat.le_of_ble_eq_true rfl) ⟨by show _ ≤ 3; omega, by show _ ≤ 18; omega⟩ dL_does_164) hS (fun E ce9 q9 H locs hE hH hS h1 h2 h3 => ?_) (fun H locs hok _ hH hS => ?_)
                            · obtain ⟨e7, h7, h8⟩ := hE
                              cases h7
                              subst h8
                              by_cases he2 : e8 = 2
                              · replace hf := it_t hf he2
                                subst he2
                                refine gOutCatch X Z (e9 := 2) hT [] ⟨0, 232, 233, 63⟩ [⟨0, 232, 238, 65⟩, ⟨0, 232, 243, 67⟩] rfl (fun z hz => nomatch hz) (by decide) (by decide) (by decide) k_474 k_616 h1 h2 h3 ?_
                                refine g_astore X (lv' := [(4, .ref q9), (0, .ref (gAd G 0 0)), (1, .int (iI v1)), (2, .int (iI v2)), (3, .int (iI v3))]) dL_does_233 hl (by decide) rfl (fun ls hl => ?_)
                                refine lv_bipush X.1 X.2.1 dL_does_235 (v := iI (-8)) (by decide) ?_
                                have hq := Option.some.inj hf; subst hq
                                exact gRetXI X hH hS trivial (res := (-8)) (nmI_l (by decide)) ⟨by omega, by omega⟩ dL_does_237
                              · replace hf := it_f hf he2
                                by_cases he1 : e8 = 1
                                · replace hf := it_t hf he1
                                  subst he1
                                  refine gOutCatch X Z (e9 := 1) hT [⟨0, 232, 233, 63⟩] ⟨0, 232, 238, 65⟩ [⟨0, 232, 243, 67⟩] rfl (fun z hz => by simp only [List.mem_cons, List.not_mem_nil, or_false] at hz; rcases hz with rfl <;> first | exact ⟨by decide, 2, k_474, by decide, by decide⟩) (by decide) (by decide) (by decide) k_475 k_489 h1 h2 h3 ?_
                                  refine g_astore X (lv' := [(4, .ref q9), (0, .ref (gAd G 0 0)), (1, .int (iI v1)), (2, .int (iI v2)), (3, .int (iI v3))]) dL_does_238 hl (by decide) rfl (fun ls hl => ?_)
                                  refine lv_bipush X.1 X.2.1 dL_does_240 (v := iI (-8)) (by decide) ?_
                                  have hq := Option.some.inj hf; subst hq
                                  exact gRetXI X hH hS trivial (res := (-8)) (nmI_l (by decide)) ⟨by omega, by omega⟩ dL_does_242
                                · replace hf := it_f hf he1
                                  by_cases he3 : e8 = 3
                                  · replace hf := it_t hf he3
                                    subst he3
                                    refine gOutCatch X Z (e9 := 3) hT [⟨0, 232, 233, 63⟩, ⟨0, 232, 238, 65⟩] ⟨0, 232, 243, 67⟩ [] rfl (fun z hz => by simp only [List.mem_cons, List.not_mem_nil, or_false] at hz; rcases hz with rfl | rfl <;> first | exact ⟨by decide, 2, k_474, by decide, by decide⟩ | exact ⟨by decide, 1, k_475, by decide, by decide⟩) (by decide) (by decide) (by decide) k_476 k_587 h1 h2 h3 ?_
                                    refine g_astore X (lv' := [(4, .ref q9), (0, .ref (gAd G 0 0)), (1, .int (iI v1)), (2, .int (iI v2)), (3, .int (iI v3))]) dL_does_243 hl (by decide) rfl (fun ls hl => ?_)
                                    refine lv_bipush X.1 X.2.1 dL_does_245 (v := iI (-8)) (by decide) ?_
                                    have hq := Option.some.inj hf; subst hq
                                    exact gRetXI X hH hS trivial (res := (-8)) (nmI_l (by decide)) ⟨by omega, by omega⟩ dL_does_247
                                  · replace hf := it_f hf he3
                                    cases hf
                            · obtain ⟨z, hz⟩ := hok; cases hz
                          · replace hf := ol_r hf
                            refine gGoXI (gRunVX X Z hH hS (As := [.int (iI v2)]) (m_X11_proof l hl0 G v2 nv2 M0 _ hq164) calX11_proof k_1009 k_1010 k_1008 (by decide) cX11 rfl ⟨by decide, by decide⟩ rfl hl rfl (Nat.le_of_ble_eq_true rfl) ⟨by show _ ≤ 3; omega, by show _ ≤ 18; omega⟩ dL_does_164) hS (fun E ce9 q9 H locs hE hH hS h1 h2 h3 => ?_) (fun H locs _ nv_ hH hS => ?_)
                            · obtain ⟨e7, h7, h8⟩ := hE; cases h7
                            · refine lv_goto (tgt := 232) X.1 X.2.1 dL_does_167 (by decide) ?_
                              have hq := Option.some.inj hf; subst hq
                              exact gRetXI X hH hS trivial (res := v164_.1) nv_ ⟨by omega, by omega⟩ dL_does_232
                      · replace hf := it_t hf hc144
                        refine lv_aload_n X.1 X.2.1 dL_does_147 rfl (lv_at hl.1 0 rfl) ?_
                        refine lv_iload_n X.1 X.2.1 dL_does_148 rfl (lv_at hl.1 2 rfl) ?_
                        refine lv_iload_n X.1 X.2.1 dL_does_149 rfl (lv_at hl.1 3 rfl) ?_
                        obtain ⟨r150, hq150, hf_⟩ := ob_e hf; clear hf; have hf := hf_; clear hf_
                        rcases r150 with e8 | v150_
                        · replace hf := ol_l hf
                          refine gGoXI (gRunVX X Z hH hS (As := [.int (iI v2), .int (iI v3)]) (m_X11_about l hl0 G v2 nv2 v3 nv3 M0 _ hq150) calX11_about k_948 k_949 k_947 (by decide) cX11 rfl ⟨by decide, by decide⟩ rfl hl rfl (Nat.le_of_ble_eq_true rfl) ⟨by show _ ≤ 3; omega, by show _ ≤ 18; omega⟩ dL_does_150) hS (fun E ce9 q9 H locs hE hH hS h1 h2 h3 => ?_) (fun H locs hok _ hH hS => ?_)
                          · obtain ⟨e7, h7, h8⟩ := hE
                            cases h7
                            subst h8
                            by_cases he2 : e8 = 2
                            · replace hf := it_t hf he2
                              subst he2
                              refine gOutCatch X Z (e9 := 2) hT [] ⟨0, 232, 233, 63⟩ [⟨0, 232, 238, 65⟩, ⟨0, 232, 243, 67⟩] rfl (fun z hz => nomatch hz) (by decide) (by decide) (by decide) k_474 k_616 h1 h2 h3 ?_
                              refine g_astore X (lv' := [(4, .ref q9), (0, .ref (gAd G 0 0)), (1, .int (iI v1)), (2, .int (iI v2)), (3, .int (iI v3))]) dL_does_233 hl (by decide) rfl (fun ls hl => ?_)
                              refine lv_bipush X.1 X.2.1 dL_does_235 (v := iI (-8)) (by decide) ?_
                              have hq := Option.some.inj hf; subst hq
                              exact gRetXI X hH hS trivial (res := (-8)) (nmI_l (by decide)) ⟨by omega, by omega⟩ dL_does_237
                            · replace hf := it_f hf he2
                              by_cases he1 : e8 = 1
                              · replace hf := it_t hf he1
                                subst he1
                                refine gOutCatch X Z (e9 := 1) hT [⟨0, 232, 233, 63⟩] ⟨0, 232, 238, 65⟩ [⟨0, 232, 243, 67⟩] rfl (fun z hz => by simp only [List.mem_cons, List.not_mem_nil, or_false] at hz; rcases hz with rfl <;> first | exact ⟨by decide, 2, k_474, by decide, by decide⟩) (by decide) (by decide) (by decide) k_475 k_489 h1 h2 h3 ?_
                                refine g_astore X (lv' := [(4, .ref q9), (0, .ref (gAd G 0 0)), (1, .int (iI v1)), (2, .int (iI v2)), (3, .int (iI v3))]) dL_does_238 hl (by decide) rfl (fun ls hl => ?_)
                                refine lv_bipush X.1 X.2.1 dL_does_240 (v := iI (-8)) (by decide) ?_
                                have hq := Option.some.inj hf; subst hq
                                exact gRetXI X hH hS trivial (res := (-8)) (nmI_l (by decide)) ⟨by omega, by omega⟩ dL_does_242
                              · replace hf := it_f hf he1
                                by_cases he3 : e8 = 3
                                · replace hf := it_t hf he3
                                  subst he3
                                  refine gOutCatch X Z (e9 := 3) hT [⟨0, 232, 233, 63⟩, ⟨0, 232, 238, 65⟩] ⟨0, 232, 243, 67⟩ [] rfl (fun z hz => by simp only [List.mem_cons, List.not_mem_nil, or_false] at hz; rcases hz with rfl | rfl <;> first | exact ⟨by decide, 2, k_474, by decide, by decide⟩ | exact ⟨by decide, 1, k_475, by decide, by decide⟩) (by decide) (by decide) (by decide) k_476 k_587 h1 h2 h3 ?_
                                  refine g_astore X (lv' := [(4, .ref q9), (0, .ref (gAd G 0 0)), (1, .int (iI v1)), (2, .int (iI v2)), (3, .int (iI v3))]) dL_does_243 hl (by decide) rfl (fun ls hl => ?_)
                                  refine lv_bipush X.1 X.2.1 dL_does_245 (v := iI (-8)) (by decide) ?_
                                  have hq := Option.some.inj hf; subst hq
                                  exact gRetXI X hH hS trivial (res := (-8)) (nmI_l (by decide)) ⟨by omega, by omega⟩ dL_does_247
                                · replace hf := it_f hf he3
                                  cases hf
                          · obtain ⟨z, hz⟩ := hok; cases hz
                        · replace hf := ol_r hf
                          refine gGoXI (gRunVX X Z hH hS (As := [.int (iI v2), .int (iI v3)]) (m_X11_about l hl0 G v2 nv2 v3 nv3 M0 _ hq150) calX11_about k_948 k_949 k_947 (by decide) cX11 rfl ⟨by decide, by decide⟩ rfl hl rfl (Nat.le_of_ble_eq_true rfl) ⟨by show _ ≤ 3; omega, by show _ ≤ 18; omega⟩ dL_does_150) hS (fun E ce9 q9 H locs hE hH hS h1 h2 h3 => ?_) (fun H locs _ nv_ hH hS => ?_)
                          · obtain ⟨e7, h7, h8⟩ := hE; cases h7
                          · refine lv_goto (tgt := 232) X.1 X.2.1 dL_does_153 (by decide) ?_
                            have hq := Option.some.inj hf; subst hq
                            exact gRetXI X hH hS trivial (res := v150_.1) nv_ ⟨by omega, by omega⟩ dL_does_232
                    · replace hf := it_t hf hc129
                      refine lv_aload_n X.1 X.2.1 dL_does_132 rfl (lv_at hl.1 0 rfl) ?_
                      refine lv_iload_n X.1 X.2.1 dL_does_133 rfl (lv_at hl.1 2 rfl) ?_
                      refine lv_iload_n X.1 X.2.1 dL_does_134 rfl (lv_at hl.1 3 rfl) ?_
                      obtain ⟨r135, hq135, hf_⟩ := ob_e hf; clear hf; have hf := hf_; clear hf_
                      rcases r135 with e8 | v135_
                      · replace hf := ol_l hf
                        refine gGoXI (gRunVX X Z hH hS (As := [.int (iI v2), .int (iI v3)]) (m_X11_result l hl0 G v2 nv2 v3 nv3 M0 _ hq135) calX11_result k_944 k_945 k_943 (by decide) cX11 rfl ⟨by decide, by decide⟩ rfl hl rfl (Nat.le_of_ble_eq_true rfl) ⟨by show _ ≤ 3; omega, by show _ ≤ 18; omega⟩ dL_does_135) hS (fun E ce9 q9 H locs hE hH hS h1 h2 h3 => ?_) (fun H locs hok _ hH hS => ?_)
                        · obtain ⟨e7, h7, h8⟩ := hE
                          cases h7
                          subst h8
                          by_cases he2 : e8 = 2
                          · replace hf := it_t hf he2
                            subst he2
                            refine gOutCatch X Z (e9 := 2) hT [] ⟨0, 232, 233, 63⟩ [⟨0, 232, 238, 65⟩, ⟨0, 232, 243, 67⟩] rfl (fun z hz => nomatch hz) (by decide) (by decide) (by decide) k_474 k_616 h1 h2 h3 ?_
                            refine g_astore X (lv' := [(4, .ref q9), (0, .ref (gAd G 0 0)), (1, .int (iI v1)), (2, .int (iI v2)), (3, .int (iI v3))]) dL_does_233 hl (by decide) rfl (fun ls hl => ?_)
                            refine lv_bipush X.1 X.2.1 dL_does_235 (v := iI (-8)) (by decide) ?_
                            have hq := Option.some.inj hf; subst hq
                            exact gRetXI X hH hS trivial (res := (-8)) (nmI_l (by decide)) ⟨by omega, by omega⟩ dL_does_237
                          · replace hf := it_f hf he2
                            by_cases he1 : e8 = 1
                            · replace hf := it_t hf he1
                              subst he1
                              refine gOutCatch X Z (e9 := 1) hT [⟨0, 232, 233, 63⟩] ⟨0, 232, 238, 65⟩ [⟨0, 232, 243, 67⟩] rfl (fun z hz => by simp only [List.mem_cons, List.not_mem_nil, or_false] at hz; rcases hz with rfl <;> first | exact ⟨by decide, 2, k_474, by decide, by decide⟩) (by decide) (by decide) (by decide) k_475 k_489 h1 h2 h3 ?_
                              refine g_astore X (lv' := [(4, .ref q9), (0, .ref (gAd G 0 0)), (1, .int (iI v1)), (2, .int (iI v2)), (3, .int (iI v3))]) dL_does_238 hl (by decide) rfl (fun ls hl => ?_)
                              refine lv_bipush X.1 X.2.1 dL_does_240 (v := iI (-8)) (by decide) ?_
                              have hq := Option.some.inj hf; subst hq
                              exact gRetXI X hH hS trivial (res := (-8)) (nmI_l (by decide)) ⟨by omega, by omega⟩ dL_does_242
                            · replace hf := it_f hf he1
                              by_cases he3 : e8 = 3
                              · replace hf := it_t hf he3
                                subst he3
                                refine gOutCatch X Z (e9 := 3) hT [⟨0, 232, 233, 63⟩, ⟨0, 232, 238, 65⟩] ⟨0, 232, 243, 67⟩ [] rfl (fun z hz => by simp only [List.mem_cons, List.not_mem_nil, or_false] at hz; rcases hz with rfl | rfl <;> first | exact ⟨by decide, 2, k_474, by decide, by decide⟩ | exact ⟨by decide, 1, k_475, by decide, by decide⟩) (by decide) (by decide) (by decide) k_476 k_587 h1 h2 h3 ?_
                                refine g_astore X (lv' := [(4, .ref q9), (0, .ref (gAd G 0 0)), (1, .int (iI v1)), (2, .int (iI v2)), (3, .int (iI v3))]) dL_does_243 hl (by decide) rfl (fun ls hl => ?_)
                                refine lv_bipush X.1 X.2.1 dL_does_245 (v := iI (-8)) (by decide) ?_
                                have hq := Option.some.inj hf; subst hq
                                exact gRetXI X hH hS trivial (res := (-8)) (nmI_l (by decide)) ⟨by omega, by omega⟩ dL_does_247
                              · replace hf := it_f hf he3
                                cases hf
                        · obtain ⟨z, hz⟩ := hok; cases hz
                      · replace hf := ol_r hf
                        refine gGoXI (gRunVX X Z hH hS (As := [.int (iI v2), .int (iI v3)]) (m_X11_result l hl0 G v2 nv2 v3 nv3 M0 _ hq135) calX11_result k_944 k_945 k_943 (by decide) cX11 rfl ⟨by decide, by decide⟩ rfl hl rfl (Nat.le_of_ble_eq_true rfl) ⟨by show _ ≤ 3; omega, by show _ ≤ 18; omega⟩ dL_does_135) hS (fun E ce9 q9 H locs hE hH hS h1 h2 h3 => ?_) (fun H locs _ nv_ hH hS => ?_)
                        · obtain ⟨e7, h7, h8⟩ := hE; cases h7
                        · refine lv_goto (tgt := 232) X.1 X.2.1 dL_does_138 (by decide) ?_
                          have hq := Option.some.inj hf; subst hq
                          exact gRetXI X hH hS trivial (res := v135_) nv_ ⟨by omega, by omega⟩ dL_does_232
                  · replace hf := it_t hf hc114
                    refine lv_aload_n X.1 X.2.1 dL_does_117 rfl (lv_at hl.1 0 rfl) ?_
                    refine lv_iload_n X.1 X.2.1 dL_does_118 rfl (lv_at hl.1 2 rfl) ?_
                    refine lv_iload_n X.1 X.2.1 dL_does_119 rfl (lv_at hl.1 3 rfl) ?_
                    obtain ⟨r120, hq120, hf_⟩ := ob_e hf; clear hf; have hf := hf_; clear hf_
                    rcases r120 with e8 | v120_
                    · replace hf := ol_l hf
                      refine gGoXI (gRunVX X Z hH hS (As := [.int (iI v2), .int (iI v3)]) (m_X11_state l hl0 G v2 nv2 v3 nv3 M0 _ hq120) calX11_state k_935 k_936 k_934 (by decide) cX11 rfl ⟨by decide, by decide⟩ rfl hl rfl (Nat.le_of_ble_eq_true rfl) ⟨by show _ ≤ 3; omega, by show _ ≤ 18; omega⟩ dL_does_120) hS (fun E ce9 q9 H locs hE hH hS h1 h2 h3 => ?_) (fun H locs hok _ hH hS => ?_)
                      · obtain ⟨e7, h7, h8⟩ := hE
                        cases h7
                        subst h8
                        by_cases he2 : e8 = 2
                        · replace hf := it_t hf he2
                          subst he2
                          refine gOutCatch X Z (e9 := 2) hT [] ⟨0, 232, 233, 63⟩ [⟨0, 232, 238, 65⟩, ⟨0, 232, 243, 67⟩] rfl (fun z hz => nomatch hz) (by decide) (by decide) (by decide) k_474 k_616 h1 h2 h3 ?_
                          refine g_astore X (lv' := [(4, .ref q9), (0, .ref (gAd G 0 0)), (1, .int (iI v1)), (2, .int (iI v2)), (3, .int (iI v3))]) dL_does_233 hl (by decide) rfl (fun ls hl => ?_)
                          refine lv_bipush X.1 X.2.1 dL_does_235 (v := iI (-8)) (by decide) ?_
                          have hq := Option.some.inj hf; subst hq
                          exact gRetXI X hH hS trivial (res := (-8)) (nmI_l (by decide)) ⟨by omega, by omega⟩ dL_does_237
                        · replace hf := it_f hf he2
                          by_cases he1 : e8 = 1
                          · replace hf := it_t hf he1
                            subst he1
                            refine gOutCatch X Z (e9 := 1) hT [⟨0, 232, 233, 63⟩] ⟨0, 232, 238, 65⟩ [⟨0, 232, 243, 67⟩] rfl (fun z hz => by simp only [List.mem_cons, List.not_mem_nil, or_false] at hz; rcases hz with rfl <;> first | exact ⟨by decide, 2, k_474, by decide, by decide⟩) (by decide) (by decide) (by decide) k_475 k_489 h1 h2 h3 ?_
                            refine g_astore X (lv' := [(4, .ref q9), (0, .ref (gAd G 0 0)), (1, .int (iI v1)), (2, .int (iI v2)), (3, .int (iI v3))]) dL_does_238 hl (by decide) rfl (fun ls hl => ?_)
                            refine lv_bipush X.1 X.2.1 dL_does_240 (v := iI (-8)) (by decide) ?_
                            have hq := Option.some.inj hf; subst hq
                            exact gRetXI X hH hS trivial (res := (-8)) (nmI_l (by decide)) ⟨by omega, by omega⟩ dL_does_242
                          · replace hf := it_f hf he1
                            by_cases he3 : e8 = 3
                            · replace hf := it_t hf he3
                              subst he3
                              refine gOutCatch X Z (e9 := 3) hT [⟨0, 232, 233, 63⟩, ⟨0, 232, 238, 65⟩] ⟨0, 232, 243, 67⟩ [] rfl (fun z hz => by simp only [List.mem_cons, List.not_mem_nil, or_false] at hz; rcases hz with rfl | rfl <;> first | exact ⟨by decide, 2, k_474, by decide, by decide⟩ | exact ⟨by decide, 1, k_475, by decide, by decide⟩) (by decide) (by decide) (by decide) k_476 k_587 h1 h2 h3 ?_
                              refine g_astore X (lv' := [(4, .ref q9), (0, .ref (gAd G 0 0)), (1, .int (iI v1)), (2, .int (iI v2)), (3, .int (iI v3))]) dL_does_243 hl (by decide) rfl (fun ls hl => ?_)
                              refine lv_bipush X.1 X.2.1 dL_does_245 (v := iI (-8)) (by decide) ?_
                              have hq := Option.some.inj hf; subst hq
                              exact gRetXI X hH hS trivial (res := (-8)) (nmI_l (by decide)) ⟨by omega, by omega⟩ dL_does_247
                            · replace hf := it_f hf he3
                              cases hf
                      · obtain ⟨z, hz⟩ := hok; cases hz
                    · replace hf := ol_r hf
                      refine gGoXI (gRunVX X Z hH hS (As := [.int (iI v2), .int (iI v3)]) (m_X11_state l hl0 G v2 nv2 v3 nv3 M0 _ hq120) calX11_state k_935 k_936 k_934 (by decide) cX11 rfl ⟨by decide, by decide⟩ rfl hl rfl (Nat.le_of_ble_eq_true rfl) ⟨by show _ ≤ 3; omega, by show _ ≤ 18; omega⟩ dL_does_120) hS (fun E ce9 q9 H locs hE hH hS h1 h2 h3 => ?_) (fun H locs _ nv_ hH hS => ?_)
                      · obtain ⟨e7, h7, h8⟩ := hE; cases h7
                      · refine lv_goto (tgt := 232) X.1 X.2.1 dL_does_123 (by decide) ?_
                        have hq := Option.some.inj hf; subst hq
                        exact gRetXI X hH hS trivial (res := v120_) nv_ ⟨by omega, by omega⟩ dL_does_232
                · replace hf := it_t hf hc100
                  refine lv_aload_n X.1 X.2.1 dL_does_103 rfl (lv_at hl.1 0 rfl) ?_
                  refine lv_iload_n X.1 X.2.1 dL_does_104 rfl (lv_at hl.1 2 rfl) ?_
                  obtain ⟨r105, hq105, hf_⟩ := ob_e hf; clear hf; have hf := hf_; clear hf_
                  rcases r105 with e8 | v105_
                  · replace hf := ol_l hf
                    refine gGoXI (gRunVX X Z hH hS (As := [.int (iI v2)]) (m_X11_pass l hl0 G v2 nv2 M0 _ hq105) calX11_pass k_810 k_811 k_809 (by decide) cX11 rfl ⟨by decide, by decide⟩ rfl hl rfl (Nat.le_of_ble_eq_true rfl) ⟨by show _ ≤ 3; omega, by show _ ≤ 18; omega⟩ dL_does_105) hS (fun E ce9 q9 H locs hE hH hS h1 h2 h3 => ?_) (fun H locs hok _ hH hS => ?_)
                    · obtain ⟨e7, h7, h8⟩ := hE
                      cases h7
                      subst h8
                      by_cases he2 : e8 = 2
                      · replace hf := it_t hf he2
                        subst he2
                        refine gOutCatch X Z (e9 := 2) hT [] ⟨0, 232, 233, 63⟩ [⟨0, 232, 238, 65⟩, ⟨0, 232, 243, 67⟩] rfl (fun z hz => nomatch hz) (by decide) (by decide) (by decide) k_474 k_616 h1 h2 h3 ?_
                        refine g_astore X (lv' := [(4, .ref q9), (0, .ref (gAd G 0 0)), (1, .int (iI v1)), (2, .int (iI v2)), (3, .int (iI v3))]) dL_does_233 hl (by decide) rfl (fun ls hl => ?_)
                        refine lv_bipush X.1 X.2.1 dL_does_235 (v := iI (-8)) (by decide) ?_
                        have hq := Option.some.inj hf; subst hq
                        exact gRetXI X hH hS trivial (res := (-8)) (nmI_l (by decide)) ⟨by omega, by omega⟩ dL_does_237
                      · replace hf := it_f hf he2
                        by_cases he1 : e8 = 1
                        · replace hf := it_t hf he1
                          subst he1
                          refine gOutCatch X Z (e9 := 1) hT [⟨0, 232, 233, 63⟩] ⟨0, 232, 238, 65⟩ [⟨0, 232, 243, 67⟩] rfl (fun z hz => by simp only [List.mem_cons, List.not_mem_nil, or_false] at hz; rcases hz with rfl <;> first | exact ⟨by decide, 2, k_474, by decide, by decide⟩) (by decide) (by decide) (by decide) k_475 k_489 h1 h2 h3 ?_
                          refine g_astore X (lv' := [(4, .ref q9), (0, .ref (gAd G 0 0)), (1, .int (iI v1)), (2, .int (iI v2)), (3, .int (iI v3))]) dL_does_238 hl (by decide) rfl (fun ls hl => ?_)
                          refine lv_bipush X.1 X.2.1 dL_does_240 (v := iI (-8)) (by decide) ?_
                          have hq := Option.some.inj hf; subst hq
                          exact gRetXI X hH hS trivial (res := (-8)) (nmI_l (by decide)) ⟨by omega, by omega⟩ dL_does_242
                        · replace hf := it_f hf he1
                          by_cases he3 : e8 = 3
                          · replace hf := it_t hf he3
                            subst he3
                            refine gOutCatch X Z (e9 := 3) hT [⟨0, 232, 233, 63⟩, ⟨0, 232, 238, 65⟩] ⟨0, 232, 243, 67⟩ [] rfl (fun z hz => by simp only [List.mem_cons, List.not_mem_nil, or_false] at hz; rcases hz with rfl | rfl <;> first | exact ⟨by decide, 2, k_474, by decide, by decide⟩ | exact ⟨by decide, 1, k_475, by decide, by decide⟩) (by decide) (by decide) (by decide) k_476 k_587 h1 h2 h3 ?_
                            refine g_astore X (lv' := [(4, .ref q9), (0, .ref (gAd G 0 0)), (1, .int (iI v1)), (2, .int (iI v2)), (3, .int (iI v3))]) dL_does_243 hl (by decide) rfl (fun ls hl => ?_)
                            refine lv_bipush X.1 X.2.1 dL_does_245 (v := iI (-8)) (by decide) ?_
                            have hq := Option.some.inj hf; subst hq
                            exact gRetXI X hH hS trivial (res := (-8)) (nmI_l (by decide)) ⟨by omega, by omega⟩ dL_does_247
                          · replace hf := it_f hf he3
                            cases hf
                    · obtain ⟨z, hz⟩ := hok; cases hz
                  · replace hf := ol_r hf
                    refine gGoXI (gRunVX X Z hH hS (As := [.int (iI v2)]) (m_X11_pass l hl0 G v2 nv2 M0 _ hq105) calX11_pass k_810 k_811 k_809 (by decide) cX11 rfl ⟨by decide, by decide⟩ rfl hl rfl (Nat.le_of_ble_eq_true rfl) ⟨by show _ ≤ 3; omega, by show _ ≤ 18; omega⟩ dL_does_105) hS (fun E ce9 q9 H locs hE hH hS h1 h2 h3 => ?_) (fun H locs _ nv_ hH hS => ?_)
                    · obtain ⟨e7, h7, h8⟩ := hE; cases h7
                    · refine lv_goto (tgt := 232) X.1 X.2.1 dL_does_108 (by decide) ?_
                      have hq := Option.some.inj hf; subst hq
                      exact gRetXI X hH hS trivial (res := v105_.1) nv_ ⟨by omega, by omega⟩ dL_does_232
              · replace hf := it_t hf hc86
                refine lv_aload_n X.1 X.2.1 dL_does_89 rfl (lv_at hl.1 0 rfl) ?_
                refine lv_iload_n X.1 X.2.1 dL_does_90 rfl (lv_at hl.1 2 rfl) ?_
                obtain ⟨r91, hq91, hf_⟩ := ob_e hf; clear hf; have hf := hf_; clear hf_
                rcases r91 with e8 | v91_
                · replace hf := ol_l hf
                  refine gGoXI (gRunVX X Z hH hS (As := [.int (iI v2)]) (m_X11_build l hl0 G v2 nv2 M0 _ hq91) calX11_build k_708 k_709 k_707 (by decide) cX11 rfl ⟨by decide, by decide⟩ rfl hl rfl (Nat.le_of_ble_eq_true rfl) ⟨by show _ ≤ 3; omega, by show _ ≤ 18; omega⟩ dL_does_91) hS (fun E ce9 q9 H locs hE hH hS h1 h2 h3 => ?_) (fun H locs hok _ hH hS => ?_)
                  · obtain ⟨e7, h7, h8⟩ := hE
                    cases h7
                    subst h8
                    by_cases he2 : e8 = 2
                    · replace hf := it_t hf he2
                      subst he2
                      refine gOutCatch X Z (e9 := 2) hT [] ⟨0, 232, 233, 63⟩ [⟨0, 232, 238, 65⟩, ⟨0, 232, 243, 67⟩] rfl (fun z hz => nomatch hz) (by decide) (by decide) (by decide) k_474 k_616 h1 h2 h3 ?_
                      refine g_astore X (lv' := [(4, .ref q9), (0, .ref (gAd G 0 0)), (1, .int (iI v1)), (2, .int (iI v2)), (3, .int (iI v3))]) dL_does_233 hl (by decide) rfl (fun ls hl => ?_)
                      refine lv_bipush X.1 X.2.1 dL_does_235 (v := iI (-8)) (by decide) ?_
                      have hq := Option.some.inj hf; subst hq
                      exact gRetXI X hH hS trivial (res := (-8)) (nmI_l (by decide)) ⟨by omega, by omega⟩ dL_does_237
                    · replace hf := it_f hf he2
                      by_cases he1 : e8 = 1
                      · replace hf := it_t hf he1
                        subst he1
                        refine gOutCatch X Z (e9 := 1) hT [⟨0, 232, 233, 63⟩] ⟨0, 232, 238, 65⟩ [⟨0, 232, 243, 67⟩] rfl (fun z hz => by simp only [List.mem_cons, List.not_mem_nil, or_false] at hz; rcases hz with rfl <;> first | exact ⟨by decide, 2, k_474, by decide, by decide⟩) (by decide) (by decide) (by decide) k_475 k_489 h1 h2 h3 ?_
                        refine g_astore X (lv' := [(4, .ref q9), (0, .ref (gAd G 0 0)), (1, .int (iI v1)), (2, .int (iI v2)), (3, .int (iI v3))]) dL_does_238 hl (by decide) rfl (fun ls hl => ?_)
                        refine lv_bipush X.1 X.2.1 dL_does_240 (v := iI (-8)) (by decide) ?_
                        have hq := Option.some.inj hf; subst hq
                        exact gRetXI X hH hS trivial (res := (-8)) (nmI_l (by decide)) ⟨by omega, by omega⟩ dL_does_242
                      · replace hf := it_f hf he1
                        by_cases he3 : e8 = 3
                        · replace hf := it_t hf he3
                          subst he3
                          refine gOutCatch X Z (e9 := 3) hT [⟨0, 232, 233, 63⟩, ⟨0, 232, 238, 65⟩] ⟨0, 232, 243, 67⟩ [] rfl (fun z hz => by simp only [List.mem_cons, List.not_mem_nil, or_false] at hz; rcases hz with rfl | rfl <;> first | exact ⟨by decide, 2, k_474, by decide, by decide⟩ | exact ⟨by decide, 1, k_475, by decide, by decide⟩) (by decide) (by decide) (by decide) k_476 k_587 h1 h2 h3 ?_
                          refine g_astore X (lv' := [(4, .ref q9), (0, .ref (gAd G 0 0)), (1, .int (iI v1)), (2, .int (iI v2)), (3, .int (iI v3))]) dL_does_243 hl (by decide) rfl (fun ls hl => ?_)
                          refine lv_bipush X.1 X.2.1 dL_does_245 (v := iI (-8)) (by decide) ?_
                          have hq := Option.some.inj hf; subst hq
                          exact gRetXI X hH hS trivial (res := (-8)) (nmI_l (by decide)) ⟨by omega, by omega⟩ dL_does_247
                        · replace hf := it_f hf he3
                          cases hf
                  · obtain ⟨z, hz⟩ := hok; cases hz
                · replace hf := ol_r hf
                  refine gGoXI (gRunVX X Z hH hS (As := [.int (iI v2)]) (m_X11_build l hl0 G v2 nv2 M0 _ hq91) calX11_build k_708 k_709 k_707 (by decide) cX11 rfl ⟨by decide, by decide⟩ rfl hl rfl (Nat.le_of_ble_eq_true rfl) ⟨by show _ ≤ 3; omega, by show _ ≤ 18; omega⟩ dL_does_91) hS (fun E ce9 q9 H locs hE hH hS h1 h2 h3 => ?_) (fun H locs _ nv_ hH hS => ?_)
                  · obtain ⟨e7, h7, h8⟩ := hE; cases h7
                  · refine lv_goto (tgt := 232) X.1 X.2.1 dL_does_94 (by decide) ?_
                    have hq := Option.some.inj hf; subst hq
                    exact gRetXI X hH hS trivial (res := v91_.1) nv_ ⟨by omega, by omega⟩ dL_does_232
            · replace hf := it_t hf hc71
              refine lv_aload_n X.1 X.2.1 dL_does_74 rfl (lv_at hl.1 0 rfl) ?_
              refine lv_iload_n X.1 X.2.1 dL_does_75 rfl (lv_at hl.1 2 rfl) ?_
              refine lv_iload_n X.1 X.2.1 dL_does_76 rfl (lv_at hl.1 3 rfl) ?_
              obtain ⟨r77, hq77, hf_⟩ := ob_e hf; clear hf; have hf := hf_; clear hf_
              rcases r77 with e8 | v77_
              · replace hf := ol_l hf
                refine gGoXI (gRunVX X Z hH hS (As := [.int (iI v2), .int (iI v3)]) (m_X11_entry l hl0 G v2 nv2 v3 nv3 M0 _ hq77) calX11_entry k_680 k_681 k_679 (by decide) cX11 rfl ⟨by decide, by decide⟩ rfl hl rfl (Nat.le_of_ble_eq_true rfl) ⟨by show _ ≤ 3; omega, by show _ ≤ 18; omega⟩ dL_does_77) hS (fun E ce9 q9 H locs hE hH hS h1 h2 h3 => ?_) (fun H locs hok _ hH hS => ?_)
                · obtain ⟨e7, h7, h8⟩ := hE
                  cases h7
                  subst h8
                  by_cases he2 : e8 = 2
                  · replace hf := it_t hf he2
                    subst he2
                    refine gOutCatch X Z (e9 := 2) hT [] ⟨0, 232, 233, 63⟩ [⟨0, 232, 238, 65⟩, ⟨0, 232, 243, 67⟩] rfl (fun z hz => nomatch hz) (by decide) (by decide) (by decide) k_474 k_616 h1 h2 h3 ?_
                    refine g_astore X (lv' := [(4, .ref q9), (0, .ref (gAd G 0 0)), (1, .int (iI v1)), (2, .int (iI v2)), (3, .int (iI v3))]) dL_does_233 hl (by decide) rfl (fun ls hl => ?_)
                    refine lv_bipush X.1 X.2.1 dL_does_235 (v := iI (-8)) (by decide) ?_
                    have hq := Option.some.inj hf; subst hq
                    exact gRetXI X hH hS trivial (res := (-8)) (nmI_l (by decide)) ⟨by omega, by omega⟩ dL_does_237
                  · replace hf := it_f hf he2
                    by_cases he1 : e8 = 1
                    · replace hf := it_t hf he1
                      subst he1
                      refine gOutCatch X Z (e9 := 1) hT [⟨0, 232, 233, 63⟩] ⟨0, 232, 238, 65⟩ [⟨0, 232, 243, 67⟩] rfl (fun z hz => by simp only [List.mem_cons, List.not_mem_nil, or_false] at hz; rcases hz with rfl <;> first | exact ⟨by decide, 2, k_474, by decide, by decide⟩) (by decide) (by decide) (by decide) k_475 k_489 h1 h2 h3 ?_
                      refine g_astore X (lv' := [(4, .ref q9), (0, .ref (gAd G 0 0)), (1, .int (iI v1)), (2, .int (iI v2)), (3, .int (iI v3))]) dL_does_238 hl (by decide) rfl (fun ls hl => ?_)
                      refine lv_bipush X.1 X.2.1 dL_does_240 (v := iI (-8)) (by decide) ?_
                      have hq := Option.some.inj hf; subst hq
                      exact gRetXI X hH hS trivial (res := (-8)) (nmI_l (by decide)) ⟨by omega, by omega⟩ dL_does_242
                    · replace hf := it_f hf he1
                      by_cases he3 : e8 = 3
                      · replace hf := it_t hf he3
                        subst he3
                        refine gOutCatch X Z (e9 := 3) hT [⟨0, 232, 233, 63⟩, ⟨0, 232, 238, 65⟩] ⟨0, 232, 243, 67⟩ [] rfl (fun z hz => by simp only [List.mem_cons, List.not_mem_nil, or_false] at hz; rcases hz with rfl | rfl <;> first | exact ⟨by decide, 2, k_474, by decide, by decide⟩ | exact ⟨by decide, 1, k_475, by decide, by decide⟩) (by decide) (by decide) (by decide) k_476 k_587 h1 h2 h3 ?_
                        refine g_astore X (lv' := [(4, .ref q9), (0, .ref (gAd G 0 0)), (1, .int (iI v1)), (2, .int (iI v2)), (3, .int (iI v3))]) dL_does_243 hl (by decide) rfl (fun ls hl => ?_)
                        refine lv_bipush X.1 X.2.1 dL_does_245 (v := iI (-8)) (by decide) ?_
                        have hq := Option.some.inj hf; subst hq
                        exact gRetXI X hH hS trivial (res := (-8)) (nmI_l (by decide)) ⟨by omega, by omega⟩ dL_does_247
                      · replace hf := it_f hf he3
                        cases hf
                · obtain ⟨z, hz⟩ := hok; cases hz
              · replace hf := ol_r hf
                refine gGoXI (gRunVX X Z hH hS (As := [.int (iI v2), .int (iI v3)]) (m_X11_entry l hl0 G v2 nv2 v3 nv3 M0 _ hq77) calX11_entry k_680 k_681 k_679 (by decide) cX11 rfl ⟨by decide, by decide⟩ rfl hl rfl (Nat.le_of_ble_eq_true rfl) ⟨by show _ ≤ 3; omega, by show _ ≤ 18; omega⟩ dL_does_77) hS (fun E ce9 q9 H locs hE hH hS h1 h2 h3 => ?_) (fun H locs _ nv_ hH hS => ?_)
                · obtain ⟨e7, h7, h8⟩ := hE; cases h7
                · refine lv_goto (tgt := 232) X.1 X.2.1 dL_does_80 (by decide) ?_
                  have hq := Option.some.inj hf; subst hq
                  exact gRetXI X hH hS trivial (res := v77_) nv_ ⟨by omega, by omega⟩ dL_does_232
          · replace hf := it_t hf hc57
            refine lv_aload_n X.1 X.2.1 dL_does_60 rfl (lv_at hl.1 0 rfl) ?_
            refine lv_iload_n X.1 X.2.1 dL_does_61 rfl (lv_at hl.1 2 rfl) ?_
            refine lv_iload_n X.1 X.2.1 dL_does_62 rfl (lv_at hl.1 3 rfl) ?_
            obtain ⟨r63, hq63, hf_⟩ := ob_e hf; clear hf; have hf := hf_; clear hf_
            rcases r63 with e8 | v63_
            · replace hf := ol_l hf
              refine gGoXI (gRunVX X Z hH hS (As := [.int (iI v2), .int (iI v3)]) (m_X11_setPower l hl0 G v2 nv2 v3 nv3 M0 _ hq63) calX11_setPower k_654 k_655 k_653 (by decide) cX11 rfl ⟨by decide, by decide⟩ rfl hl rfl (Nat.le_of_ble_eq_true rfl) ⟨by show _ ≤ 3; omega, by show _ ≤ 18; omega⟩ dL_does_63) hS (fun E ce9 q9 H locs hE hH hS h1 h2 h3 => ?_) (fun H locs hok _ hH hS => ?_)
              · obtain ⟨e7, h7, h8⟩ := hE
                cases h7
                subst h8
                by_cases he2 : e8 = 2
                · replace hf := it_t hf he2
                  subst he2
                  refine gOutCatch X Z (e9 := 2) hT [] ⟨0, 232, 233, 63⟩ [⟨0, 232, 238, 65⟩, ⟨0, 232, 243, 67⟩] rfl (fun z hz => nomatch hz) (by decide) (by decide) (by decide) k_474 k_616 h1 h2 h3 ?_
                  refine g_astore X (lv' := [(4, .ref q9), (0, .ref (gAd G 0 0)), (1, .int (iI v1)), (2, .int (iI v2)), (3, .int (iI v3))]) dL_does_233 hl (by decide) rfl (fun ls hl => ?_)
                  refine lv_bipush X.1 X.2.1 dL_does_235 (v := iI (-8)) (by decide) ?_
                  have hq := Option.some.inj hf; subst hq
                  exact gRetXI X hH hS trivial (res := (-8)) (nmI_l (by decide)) ⟨by omega, by omega⟩ dL_does_237
                · replace hf := it_f hf he2
                  by_cases he1 : e8 = 1
                  · replace hf := it_t hf he1
                    subst he1
                    refine gOutCatch X Z (e9 := 1) hT [⟨0, 232, 233, 63⟩] ⟨0, 232, 238, 65⟩ [⟨0, 232, 243, 67⟩] rfl (fun z hz => by simp only [List.mem_cons, List.not_mem_nil, or_false] at hz; rcases hz with rfl <;> first | exact ⟨by decide, 2, k_474, by decide, by decide⟩) (by decide) (by decide) (by decide) k_475 k_489 h1 h2 h3 ?_
                    refine g_astore X (lv' := [(4, .ref q9), (0, .ref (gAd G 0 0)), (1, .int (iI v1)), (2, .int (iI v2)), (3, .int (iI v3))]) dL_does_238 hl (by decide) rfl (fun ls hl => ?_)
                    refine lv_bipush X.1 X.2.1 dL_does_240 (v := iI (-8)) (by decide) ?_
                    have hq := Option.some.inj hf; subst hq
                    exact gRetXI X hH hS trivial (res := (-8)) (nmI_l (by decide)) ⟨by omega, by omega⟩ dL_does_242
                  · replace hf := it_f hf he1
                    by_cases he3 : e8 = 3
                    · replace hf := it_t hf he3
                      subst he3
                      refine gOutCatch X Z (e9 := 3) hT [⟨0, 232, 233, 63⟩, ⟨0, 232, 238, 65⟩] ⟨0, 232, 243, 67⟩ [] rfl (fun z hz => by simp only [List.mem_cons, List.not_mem_nil, or_false] at hz; rcases hz with rfl | rfl <;> first | exact ⟨by decide, 2, k_474, by decide, by decide⟩ | exact ⟨by decide, 1, k_475, by decide, by decide⟩) (by decide) (by decide) (by decide) k_476 k_587 h1 h2 h3 ?_
                      refine g_astore X (lv' := [(4, .ref q9), (0, .ref (gAd G 0 0)), (1, .int (iI v1)), (2, .int (iI v2)), (3, .int (iI v3))]) dL_does_243 hl (by decide) rfl (fun ls hl => ?_)
                      refine lv_bipush X.1 X.2.1 dL_does_245 (v := iI (-8)) (by decide) ?_
                      have hq := Option.some.inj hf; subst hq
                      exact gRetXI X hH hS trivial (res := (-8)) (nmI_l (by decide)) ⟨by omega, by omega⟩ dL_does_247
                    · replace hf := it_f hf he3
                      cases hf
              · obtain ⟨z, hz⟩ := hok; cases hz
            · replace hf := ol_r hf
              refine gGoXI (gRunVX X Z hH hS (As := [.int (iI v2), .int (iI v3)]) (m_X11_setPower l hl0 G v2 nv2 v3 nv3 M0 _ hq63) calX11_setPower k_654 k_655 k_653 (by decide) cX11 rfl ⟨by decide, by decide⟩ rfl hl rfl (Nat.le_of_ble_eq_true rfl) ⟨by show _ ≤ 3; omega, by show _ ≤ 18; omega⟩ dL_does_63) hS (fun E ce9 q9 H locs hE hH hS h1 h2 h3 => ?_) (fun H locs _ nv_ hH hS => ?_)
              · obtain ⟨e7, h7, h8⟩ := hE; cases h7
              · refine lv_goto (tgt := 232) X.1 X.2.1 dL_does_66 (by decide) ?_
                have hq := Option.some.inj hf; subst hq
                exact gRetXI X hH hS trivial (res := v63_.1) nv_ ⟨by omega, by omega⟩ dL_does_232
        · replace hf := it_t hf hc43
          refine lv_aload_n X.1 X.2.1 dL_does_46 rfl (lv_at hl.1 0 rfl) ?_
          refine lv_iload_n X.1 X.2.1 dL_does_47 rfl (lv_at hl.1 2 rfl) ?_
          refine lv_iload_n X.1 X.2.1 dL_does_48 rfl (lv_at hl.1 3 rfl) ?_
          obtain ⟨r49, hq49, hf_⟩ := ob_e hf; clear hf; have hf := hf_; clear hf_
          rcases r49 with e8 | v49_
          · replace hf := ol_l hf
            refine gGoXI (gRunVX X Z hH hS (As := [.int (iI v2), .int (iI v3)]) (m_X11_copy l hl0 G v2 nv2 v3 nv3 M0 _ hq49) calX11_copy k_607 k_608 k_606 (by decide) cX11 rfl ⟨by decide, by decide⟩ rfl hl rfl (Nat.le_of_ble_eq_true rfl) ⟨by show _ ≤ 3; omega, by show _ ≤ 18; omega⟩ dL_does_49) hS (fun E ce9 q9 H locs hE hH hS h1 h2 h3 => ?_) (fun H locs hok _ hH hS => ?_)
            · obtain ⟨e7, h7, h8⟩ := hE
              cases h7
              subst h8
              by_cases he2 : e8 = 2
              · replace hf := it_t hf he2
                subst he2
                refine gOutCatch X Z (e9 := 2) hT [] ⟨0, 232, 233, 63⟩ [⟨0, 232, 238, 65⟩, ⟨0, 232, 243, 67⟩] rfl (fun z hz => nomatch hz) (by decide) (by decide) (by decide) k_474 k_616 h1 h2 h3 ?_
                refine g_astore X (lv' := [(4, .ref q9), (0, .ref (gAd G 0 0)), (1, .int (iI v1)), (2, .int (iI v2)), (3, .int (iI v3))]) dL_does_233 hl (by decide) rfl (fun ls hl => ?_)
                refine lv_bipush X.1 X.2.1 dL_does_235 (v := iI (-8)) (by decide) ?_
                have hq := Option.some.inj hf; subst hq
                exact gRetXI X hH hS trivial (res := (-8)) (nmI_l (by decide)) ⟨by omega, by omega⟩ dL_does_237
              · replace hf := it_f hf he2
                by_cases he1 : e8 = 1
                · replace hf := it_t hf he1
                  subst he1
                  refine gOutCatch X Z (e9 := 1) hT [⟨0, 232, 233, 63⟩] ⟨0, 232, 238, 65⟩ [⟨0, 232, 243, 67⟩] rfl (fun z hz => by simp only [List.mem_cons, List.not_mem_nil, or_false] at hz; rcases hz with rfl <;> first | exact ⟨by decide, 2, k_474, by decide, by decide⟩) (by decide) (by decide) (by decide) k_475 k_489 h1 h2 h3 ?_
                  refine g_astore X (lv' := [(4, .ref q9), (0, .ref (gAd G 0 0)), (1, .int (iI v1)), (2, .int (iI v2)), (3, .int (iI v3))]) dL_does_238 hl (by decide) rfl (fun ls hl => ?_)
                  refine lv_bipush X.1 X.2.1 dL_does_240 (v := iI (-8)) (by decide) ?_
                  have hq := Option.some.inj hf; subst hq
                  exact gRetXI X hH hS trivial (res := (-8)) (nmI_l (by decide)) ⟨by omega, by omega⟩ dL_does_242
                · replace hf := it_f hf he1
                  by_cases he3 : e8 = 3
                  · replace hf := it_t hf he3
                    subst he3
                    refine gOutCatch X Z (e9 := 3) hT [⟨0, 232, 233, 63⟩, ⟨0, 232, 238, 65⟩] ⟨0, 232, 243, 67⟩ [] rfl (fun z hz => by simp only [List.mem_cons, List.not_mem_nil, or_false] at hz; rcases hz with rfl | rfl <;> first | exact ⟨by decide, 2, k_474, by decide, by decide⟩ | exact ⟨by decide, 1, k_475, by decide, by decide⟩) (by decide) (by decide) (by decide) k_476 k_587 h1 h2 h3 ?_
                    refine g_astore X (lv' := [(4, .ref q9), (0, .ref (gAd G 0 0)), (1, .int (iI v1)), (2, .int (iI v2)), (3, .int (iI v3))]) dL_does_243 hl (by decide) rfl (fun ls hl => ?_)
                    refine lv_bipush X.1 X.2.1 dL_does_245 (v := iI (-8)) (by decide) ?_
                    have hq := Option.some.inj hf; subst hq
                    exact gRetXI X hH hS trivial (res := (-8)) (nmI_l (by decide)) ⟨by omega, by omega⟩ dL_does_247
                  · replace hf := it_f hf he3
                    cases hf
            · obtain ⟨z, hz⟩ := hok; cases hz
          · replace hf := ol_r hf
            refine gGoXI (gRunVX X Z hH hS (As := [.int (iI v2), .int (iI v3)]) (m_X11_copy l hl0 G v2 nv2 v3 nv3 M0 _ hq49) calX11_copy k_607 k_608 k_606 (by decide) cX11 rfl ⟨by decide, by decide⟩ rfl hl rfl (Nat.le_of_ble_eq_true rfl) ⟨by show _ ≤ 3; omega, by show _ ≤ 18; omega⟩ dL_does_49) hS (fun E ce9 q9 H locs hE hH hS h1 h2 h3 => ?_) (fun H locs _ nv_ hH hS => ?_)
            · obtain ⟨e7, h7, h8⟩ := hE; cases h7
            · refine lv_goto (tgt := 232) X.1 X.2.1 dL_does_52 (by decide) ?_
              have hq := Option.some.inj hf; subst hq
              exact gRetXI X hH hS trivial (res := v49_.1) nv_ ⟨by omega, by omega⟩ dL_does_232
      · replace hf := it_t hf hc29
        refine lv_aload_n X.1 X.2.1 dL_does_32 rfl (lv_at hl.1 0 rfl) ?_
        refine lv_iload_n X.1 X.2.1 dL_does_33 rfl (lv_at hl.1 2 rfl) ?_
        refine lv_iload_n X.1 X.2.1 dL_does_34 rfl (lv_at hl.1 3 rfl) ?_
        obtain ⟨r35, hq35, hf_⟩ := ob_e hf; clear hf; have hf := hf_; clear hf_
        rcases r35 with e8 | v35_
        · replace hf := ol_l hf
          refine gGoXI (gRunVX X Z hH hS (As := [.int (iI v2), .int (iI v3)]) (m_X11_setTool l hl0 G v2 nv2 v3 nv3 M0 _ hq35) calX11_setTool k_603 k_604 k_602 (by decide) cX11 rfl ⟨by decide, by decide⟩ rfl hl rfl (Nat.le_of_ble_eq_true rfl) ⟨by show _ ≤ 3; omega, by show _ ≤ 18; omega⟩ dL_does_35) hS (fun E ce9 q9 H locs hE hH hS h1 h2 h3 => ?_) (fun H locs hok _ hH hS => ?_)
          · obtain ⟨e7, h7, h8⟩ := hE
            cases h7
            subst h8
            by_cases he2 : e8 = 2
            · replace hf := it_t hf he2
              subst he2
              refine gOutCatch X Z (e9 := 2) hT [] ⟨0, 232, 233, 63⟩ [⟨0, 232, 238, 65⟩, ⟨0, 232, 243, 67⟩] rfl (fun z hz => nomatch hz) (by decide) (by decide) (by decide) k_474 k_616 h1 h2 h3 ?_
              refine g_astore X (lv' := [(4, .ref q9), (0, .ref (gAd G 0 0)), (1, .int (iI v1)), (2, .int (iI v2)), (3, .int (iI v3))]) dL_does_233 hl (by decide) rfl (fun ls hl => ?_)
              refine lv_bipush X.1 X.2.1 dL_does_235 (v := iI (-8)) (by decide) ?_
              have hq := Option.some.inj hf; subst hq
              exact gRetXI X hH hS trivial (res := (-8)) (nmI_l (by decide)) ⟨by omega, by omega⟩ dL_does_237
            · replace hf := it_f hf he2
              by_cases he1 : e8 = 1
              · replace hf := it_t hf he1
                subst he1
                refine gOutCatch X Z (e9 := 1) hT [⟨0, 232, 233, 63⟩] ⟨0, 232, 238, 65⟩ [⟨0, 232, 243, 67⟩] rfl (fun z hz => by simp only [List.mem_cons, List.not_mem_nil, or_false] at hz; rcases hz with rfl <;> first | exact ⟨by decide, 2, k_474, by decide, by decide⟩) (by decide) (by decide) (by decide) k_475 k_489 h1 h2 h3 ?_
                refine g_astore X (lv' := [(4, .ref q9), (0, .ref (gAd G 0 0)), (1, .int (iI v1)), (2, .int (iI v2)), (3, .int (iI v3))]) dL_does_238 hl (by decide) rfl (fun ls hl => ?_)
                refine lv_bipush X.1 X.2.1 dL_does_240 (v := iI (-8)) (by decide) ?_
                have hq := Option.some.inj hf; subst hq
                exact gRetXI X hH hS trivial (res := (-8)) (nmI_l (by decide)) ⟨by omega, by omega⟩ dL_does_242
              · replace hf := it_f hf he1
                by_cases he3 : e8 = 3
                · replace hf := it_t hf he3
                  subst he3
                  refine gOutCatch X Z (e9 := 3) hT [⟨0, 232, 233, 63⟩, ⟨0, 232, 238, 65⟩] ⟨0, 232, 243, 67⟩ [] rfl (fun z hz => by simp only [List.mem_cons, List.not_mem_nil, or_false] at hz; rcases hz with rfl | rfl <;> first | exact ⟨by decide, 2, k_474, by decide, by decide⟩ | exact ⟨by decide, 1, k_475, by decide, by decide⟩) (by decide) (by decide) (by decide) k_476 k_587 h1 h2 h3 ?_
                  refine g_astore X (lv' := [(4, .ref q9), (0, .ref (gAd G 0 0)), (1, .int (iI v1)), (2, .int (iI v2)), (3, .int (iI v3))]) dL_does_243 hl (by decide) rfl (fun ls hl => ?_)
                  refine lv_bipush X.1 X.2.1 dL_does_245 (v := iI (-8)) (by decide) ?_
                  have hq := Option.some.inj hf; subst hq
                  exact gRetXI X hH hS trivial (res := (-8)) (nmI_l (by decide)) ⟨by omega, by omega⟩ dL_does_247
                · replace hf := it_f hf he3
                  cases hf
          · obtain ⟨z, hz⟩ := hok; cases hz
        · replace hf := ol_r hf
          refine gGoXI (gRunVX X Z hH hS (As := [.int (iI v2), .int (iI v3)]) (m_X11_setTool l hl0 G v2 nv2 v3 nv3 M0 _ hq35) calX11_setTool k_603 k_604 k_602 (by decide) cX11 rfl ⟨by decide, by decide⟩ rfl hl rfl (Nat.le_of_ble_eq_true rfl) ⟨by show _ ≤ 3; omega, by show _ ≤ 18; omega⟩ dL_does_35) hS (fun E ce9 q9 H locs hE hH hS h1 h2 h3 => ?_) (fun H locs _ nv_ hH hS => ?_)
          · obtain ⟨e7, h7, h8⟩ := hE; cases h7
          · refine lv_goto (tgt := 232) X.1 X.2.1 dL_does_38 (by decide) ?_
            have hq := Option.some.inj hf; subst hq
            exact gRetXI X hH hS trivial (res := v35_.1) nv_ ⟨by omega, by omega⟩ dL_does_232
    · replace hf := it_t hf hc15
      refine lv_aload_n X.1 X.2.1 dL_does_18 rfl (lv_at hl.1 0 rfl) ?_
      refine lv_iload_n X.1 X.2.1 dL_does_19 rfl (lv_at hl.1 2 rfl) ?_
      refine lv_iload_n X.1 X.2.1 dL_does_20 rfl (lv_at hl.1 3 rfl) ?_
      obtain ⟨r21, hq21, hf_⟩ := ob_e hf; clear hf; have hf := hf_; clear hf_
      rcases r21 with e8 | v21_
      · replace hf := ol_l hf
        refine gGoXI (gRunVX X Z hH hS (As := [.int (iI v2), .int (iI v3)]) (m_X11_set l hl0 G v2 nv2 v3 nv3 M0 _ hq21) calX11_set k_579 k_580 k_578 (by decide) cX11 rfl ⟨by decide, by decide⟩ rfl hl rfl (Nat.le_of_ble_eq_true rfl) ⟨by show _ ≤ 3; omega, by show _ ≤ 18; omega⟩ dL_does_21) hS (fun E ce9 q9 H locs hE hH hS h1 h2 h3 => ?_) (fun H locs hok _ hH hS => ?_)
        · obtain ⟨e7, h7, h8⟩ := hE
          cases h7
          subst h8
          by_cases he2 : e8 = 2
          · replace hf := it_t hf he2
            subst he2
            refine gOutCatch X Z (e9 := 2) hT [] ⟨0, 232, 233, 63⟩ [⟨0, 232, 238, 65⟩, ⟨0, 232, 243, 67⟩] rfl (fun z hz => nomatch hz) (by decide) (by decide) (by decide) k_474 k_616 h1 h2 h3 ?_
            refine g_astore X (lv' := [(4, .ref q9), (0, .ref (gAd G 0 0)), (1, .int (iI v1)), (2, .int (iI v2)), (3, .int (iI v3))]) dL_does_233 hl (by decide) rfl (fun ls hl => ?_)
            refine lv_bipush X.1 X.2.1 dL_does_235 (v := iI (-8)) (by decide) ?_
            have hq := Option.some.inj hf; subst hq
            exact gRetXI X hH hS trivial (res := (-8)) (nmI_l (by decide)) ⟨by omega, by omega⟩ dL_does_237
          · replace hf := it_f hf he2
            by_cases he1 : e8 = 1
            · replace hf := it_t hf he1
              subst he1
              refine gOutCatch X Z (e9 := 1) hT [⟨0, 232, 233, 63⟩] ⟨0, 232, 238, 65⟩ [⟨0, 232, 243, 67⟩] rfl (fun z hz => by simp only [List.mem_cons, List.not_mem_nil, or_false] at hz; rcases hz with rfl <;> first | exact ⟨by decide, 2, k_474, by decide, by decide⟩) (by decide) (by decide) (by decide) k_475 k_489 h1 h2 h3 ?_
              refine g_astore X (lv' := [(4, .ref q9), (0, .ref (gAd G 0 0)), (1, .int (iI v1)), (2, .int (iI v2)), (3, .int (iI v3))]) dL_does_238 hl (by decide) rfl (fun ls hl => ?_)
              refine lv_bipush X.1 X.2.1 dL_does_240 (v := iI (-8)) (by decide) ?_
              have hq := Option.some.inj hf; subst hq
              exact gRetXI X hH hS trivial (res := (-8)) (nmI_l (by decide)) ⟨by omega, by omega⟩ dL_does_242
            · replace hf := it_f hf he1
              by_cases he3 : e8 = 3
              · replace hf := it_t hf he3
                subst he3
                refine gOutCatch X Z (e9 := 3) hT [⟨0, 232, 233, 63⟩, ⟨0, 232, 238, 65⟩] ⟨0, 232, 243, 67⟩ [] rfl (fun z hz => by simp only [List.mem_cons, List.not_mem_nil, or_false] at hz; rcases hz with rfl | rfl <;> first | exact ⟨by decide, 2, k_474, by decide, by decide⟩ | exact ⟨by decide, 1, k_475, by decide, by decide⟩) (by decide) (by decide) (by decide) k_476 k_587 h1 h2 h3 ?_
                refine g_astore X (lv' := [(4, .ref q9), (0, .ref (gAd G 0 0)), (1, .int (iI v1)), (2, .int (iI v2)), (3, .int (iI v3))]) dL_does_243 hl (by decide) rfl (fun ls hl => ?_)
                refine lv_bipush X.1 X.2.1 dL_does_245 (v := iI (-8)) (by decide) ?_
                have hq := Option.some.inj hf; subst hq
                exact gRetXI X hH hS trivial (res := (-8)) (nmI_l (by decide)) ⟨by omega, by omega⟩ dL_does_247
              · replace hf := it_f hf he3
                cases hf
        · obtain ⟨z, hz⟩ := hok; cases hz
      · replace hf := ol_r hf
        refine gGoXI (gRunVX X Z hH hS (As := [.int (iI v2), .int (iI v3)]) (m_X11_set l hl0 G v2 nv2 v3 nv3 M0 _ hq21) calX11_set k_579 k_580 k_578 (by decide) cX11 rfl ⟨by decide, by decide⟩ rfl hl rfl (Nat.le_of_ble_eq_true rfl) ⟨by show _ ≤ 3; omega, by show _ ≤ 18; omega⟩ dL_does_21) hS (fun E ce9 q9 H locs hE hH hS h1 h2 h3 => ?_) (fun H locs _ nv_ hH hS => ?_)
        · obtain ⟨e7, h7, h8⟩ := hE; cases h7
        · refine lv_goto (tgt := 232) X.1 X.2.1 dL_does_24 (by decide) ?_
          have hq := Option.some.inj hf; subst hq
          exact gRetXI X hH hS trivial (res := v21_.1) nv_ ⟨by omega, by omega⟩ dL_does_232
  · replace hf := it_t hf hc1
    refine lv_aload_n X.1 X.2.1 dL_does_4 rfl (lv_at hl.1 0 rfl) ?_
    refine lv_iload_n X.1 X.2.1 dL_does_5 rfl (lv_at hl.1 2 rfl) ?_
    refine lv_iload_n X.1 X.2.1 dL_does_6 rfl (lv_at hl.1 3 rfl) ?_
    obtain ⟨r7, hq7, hf_⟩ := ob_e hf; clear hf; have hf := hf_; clear hf_
    rcases r7 with e8 | v7_
    · replace hf := ol_l hf
      refine gGoXI (gRunVX X Z hH hS (As := [.int (iI v2), .int (iI v3)]) (m_X11_write l hl0 G v2 nv2 v3 nv3 M0 _ hq7) calX11_write k_478 k_479 k_477 (by decide) cX11 rfl ⟨by decide, by decide⟩ rfl hl rfl (Nat.le_of_ble_eq_true rfl) ⟨by show _ ≤ 3; omega, by show _ ≤ 18; omega⟩ dL_does_7) hS (fun E ce9 q9 H locs hE hH hS h1 h2 h3 => ?_) (fun H locs hok _ hH hS => ?_)
      · obtain ⟨e7, h7, h8⟩ := hE
        cases h7
        subst h8
        by_cases he2 : e8 = 2
        · replace hf := it_t hf he2
          subst he2
          refine gOutCatch X Z (e9 := 2) hT [] ⟨0, 232, 233, 63⟩ [⟨0, 232, 238, 65⟩, ⟨0, 232, 243, 67⟩] rfl (fun z hz => nomatch hz) (by decide) (by decide) (by decide) k_474 k_616 h1 h2 h3 ?_
          refine g_astore X (lv' := [(4, .ref q9), (0, .ref (gAd G 0 0)), (1, .int (iI v1)), (2, .int (iI v2)), (3, .int (iI v3))]) dL_does_233 hl (by decide) rfl (fun ls hl => ?_)
          refine lv_bipush X.1 X.2.1 dL_does_235 (v := iI (-8)) (by decide) ?_
          have hq := Option.some.inj hf; subst hq
          exact gRetXI X hH hS trivial (res := (-8)) (nmI_l (by decide)) ⟨by omega, by omega⟩ dL_does_237
        · replace hf := it_f hf he2
          by_cases he1 : e8 = 1
          · replace hf := it_t hf he1
            subst he1
            refine gOutCatch X Z (e9 := 1) hT [⟨0, 232, 233, 63⟩] ⟨0, 232, 238, 65⟩ [⟨0, 232, 243, 67⟩] rfl (fun z hz => by simp only [List.mem_cons, List.not_mem_nil, or_false] at hz; rcases hz with rfl <;> first | exact ⟨by decide, 2, k_474, by decide, by decide⟩) (by decide) (by decide) (by decide) k_475 k_489 h1 h2 h3 ?_
            refine g_astore X (lv' := [(4, .ref q9), (0, .ref (gAd G 0 0)), (1, .int (iI v1)), (2, .int (iI v2)), (3, .int (iI v3))]) dL_does_238 hl (by decide) rfl (fun ls hl => ?_)
            refine lv_bipush X.1 X.2.1 dL_does_240 (v := iI (-8)) (by decide) ?_
            have hq := Option.some.inj hf; subst hq
            exact gRetXI X hH hS trivial (res := (-8)) (nmI_l (by decide)) ⟨by omega, by omega⟩ dL_does_242
          · replace hf := it_f hf he1
            by_cases he3 : e8 = 3
            · replace hf := it_t hf he3
              subst he3
              refine gOutCatch X Z (e9 := 3) hT [⟨0, 232, 233, 63⟩, ⟨0, 232, 238, 65⟩] ⟨0, 232, 243, 67⟩ [] rfl (fun z hz => by simp only [List.mem_cons, List.not_mem_nil, or_false] at hz; rcases hz with rfl | rfl <;> first | exact ⟨by decide, 2, k_474, by decide, by decide⟩ | exact ⟨by decide, 1, k_475, by decide, by decide⟩) (by decide) (by decide) (by decide) k_476 k_587 h1 h2 h3 ?_
              refine g_astore X (lv' := [(4, .ref q9), (0, .ref (gAd G 0 0)), (1, .int (iI v1)), (2, .int (iI v2)), (3, .int (iI v3))]) dL_does_243 hl (by decide) rfl (fun ls hl => ?_)
              refine lv_bipush X.1 X.2.1 dL_does_245 (v := iI (-8)) (by decide) ?_
              have hq := Option.some.inj hf; subst hq
              exact gRetXI X hH hS trivial (res := (-8)) (nmI_l (by decide)) ⟨by omega, by omega⟩ dL_does_247
            · replace hf := it_f hf he3
              cases hf
      · obtain ⟨z, hz⟩ := hok; cases hz
    · replace hf := ol_r hf
      refine gGoXI (gRunVX X Z hH hS (As := [.int (iI v2), .int (iI v3)]) (m_X11_write l hl0 G v2 nv2 v3 nv3 M0 _ hq7) calX11_write k_478 k_479 k_477 (by decide) cX11 rfl ⟨by decide, by decide⟩ rfl hl rfl (Nat.le_of_ble_eq_true rfl) ⟨by show _ ≤ 3; omega, by show _ ≤ 18; omega⟩ dL_does_7) hS (fun E ce9 q9 H locs hE hH hS h1 h2 h3 => ?_) (fun H locs _ nv_ hH hS => ?_)
      · obtain ⟨e7, h7, h8⟩ := hE; cases h7
      · refine lv_goto (tgt := 232) X.1 X.2.1 dL_does_10 (by decide) ?_
        have hq := Option.some.inj hf; subst hq
        exact gRetXI X hH hS trivial (res := v7_.1) nv_ ⟨by omega, by omega⟩ dL_does_232
set_option maxHeartbeats 4000000 in
theorem m_P_input (l : Launch) (hl0 : l.stackTraces = false) (G : gG) (v1 : Int) (nv1 : nmI v1) (v2 : Int) (nv2 : nmI v2) (v3 : Int) (nv3 : nmI v3) (v4 : Int) (nv4 : nmI v4) (M0 : gM) (q : (Int × gM)) (hf : f_P_input v1 v2 v3 v4 M0 = some q) : gLMet l yL_input cL_input 6 (some .int) [(0, 9, 10, 63), (0, 9, 15, 65), (0, 9, 20, 67)] 9 156 6 36 G M0 [.ref (gAd G 0 0), .int (iI v1), .int (iI v2), .int (iI v3), .int (iI v4)] (gXi G True q.1 q.2) := by
  refine gOfL (by decide) (by show _ ≤ 6; exact Nat.le_of_ble_eq_true rfl) rfl ?_
  intro p e s m below meth c X Z hT hH ls hl
  replace hl : gLv ls 6 [(0, .ref (gAd G 0 0)), (1, .int (iI v1)), (2, .int (iI v2)), (3, .int (iI v3)), (4, .int (iI v4))] := hl
  have hS : va_S (gA G) s.heap s.heap [] := va_S.rf
  generalize hargs : ([.ref (gAd G 0 0), .int (iI v1), .int (iI v2), .int (iI v3), .int (iI v4)] : List Value).toArray = args at X ⊢
  clear hargs
  have hce : 0 + 6 ≤ 6 := by omega
  have hsl : 0 + 6 * 6 ≤ 36 := by omega
  unfold f_P_input at hf
  refine lv_aload_n X.1 X.2.1 dL_input_0 rfl (lv_at hl.1 0 rfl) ?_
  refine lv_iload_n X.1 X.2.1 dL_input_1 rfl (lv_at hl.1 1 rfl) ?_
  refine lv_iload_n X.1 X.2.1 dL_input_2 rfl (lv_at hl.1 2 rfl) ?_
  refine lv_iload_n X.1 X.2.1 dL_input_3 rfl (lv_at hl.1 3 rfl) ?_
  refine lv_iload X.1 X.2.1 dL_input_4 (lv_at hl.1 4 rfl) ?_
  obtain ⟨r6, hq6, hf_⟩ := ob_e hf; clear hf; have hf := hf_; clear hf_
  rcases r6 with e8 | v6_
  · replace hf := ol_l hf
    refine gGoXI (gRunVX X Z hH hS (As := [.int (iI v1), .int (iI v2), .int (iI v3), .int (iI v4)]) (m_X11_input l hl0 G v1 nv1 v2 nv2 v3 nv3 v4 nv4 M0 _ hq6) calX11_input k_1079 k_1080 k_1078 (by decide) cX11 rfl ⟨by decide, by decide⟩ rfl hl rfl (Nat.le_of_ble_eq_true rfl) ⟨by show _ ≤ 6; omega, by show _ ≤ 36; omega⟩ dL_input_6) hS (fun E ce9 q9 H locs hE hH hS h1 h2 h3 => ?_) (fun H locs hok _ hH hS => ?_)
    · obtain ⟨e7, h7, h8⟩ := hE
      cases h7
      subst h8
      by_cases he2 : e8 = 2
      · replace hf := it_t hf he2
        subst he2
        refine gOutCatch X Z (e9 := 2) hT [] ⟨0, 9, 10, 63⟩ [⟨0, 9, 15, 65⟩, ⟨0, 9, 20, 67⟩] rfl (fun z hz => nomatch hz) (by decide) (by decide) (by decide) k_474 k_616 h1 h2 h3 ?_
        refine g_astore X (lv' := [(5, .ref q9), (0, .ref (gAd G 0 0)), (1, .int (iI v1)), (2, .int (iI v2)), (3, .int (iI v3)), (4, .int (iI v4))]) dL_input_10 hl (by decide) rfl (fun ls hl => ?_)
        refine lv_bipush X.1 X.2.1 dL_input_12 (v := iI (-8)) (by decide) ?_
        have hq := Option.some.inj hf; subst hq
        exact gRetXI X hH hS trivial (res := (-8)) (nmI_l (by decide)) ⟨by omega, by omega⟩ dL_input_14
      · replace hf := it_f hf he2
        by_cases he1 : e8 = 1
        · replace hf := it_t hf he1
          subst he1
          refine gOutCatch X Z (e9 := 1) hT [⟨0, 9, 10, 63⟩] ⟨0, 9, 15, 65⟩ [⟨0, 9, 20, 67⟩] rfl (fun z hz => by simp only [List.mem_cons, List.not_mem_nil, or_false] at hz; rcases hz with rfl <;> first | exact ⟨by decide, 2, k_474, by decide, by decide⟩) (by decide) (by decide) (by decide) k_475 k_489 h1 h2 h3 ?_
          refine g_astore X (lv' := [(5, .ref q9), (0, .ref (gAd G 0 0)), (1, .int (iI v1)), (2, .int (iI v2)), (3, .int (iI v3)), (4, .int (iI v4))]) dL_input_15 hl (by decide) rfl (fun ls hl => ?_)
          refine lv_bipush X.1 X.2.1 dL_input_17 (v := iI (-8)) (by decide) ?_
          have hq := Option.some.inj hf; subst hq
          exact gRetXI X hH hS trivial (res := (-8)) (nmI_l (by decide)) ⟨by omega, by omega⟩ dL_input_19
        · replace hf := it_f hf he1
          by_cases he3 : e8 = 3
          · replace hf := it_t hf he3
            subst he3
            refine gOutCatch X Z (e9 := 3) hT [⟨0, 9, 10, 63⟩, ⟨0, 9, 15, 65⟩] ⟨0, 9, 20, 67⟩ [] rfl (fun z hz => by simp only [List.mem_cons, List.not_mem_nil, or_false] at hz; rcases hz with rfl | rfl <;> first | exact ⟨by decide, 2, k_474, by decide, by decide⟩ | exact ⟨by decide, 1, k_475, by decide, by decide⟩) (by decide) (by decide) (by decide) k_476 k_587 h1 h2 h3 ?_
            refine g_astore X (lv' := [(5, .ref q9), (0, .ref (gAd G 0 0)), (1, .int (iI v1)), (2, .int (iI v2)), (3, .int (iI v3)), (4, .int (iI v4))]) dL_input_20 hl (by decide) rfl (fun ls hl => ?_)
            refine lv_bipush X.1 X.2.1 dL_input_22 (v := iI (-8)) (by decide) ?_
            have hq := Option.some.inj hf; subst hq
            exact gRetXI X hH hS trivial (res := (-8)) (nmI_l (by decide)) ⟨by omega, by omega⟩ dL_input_24
          · replace hf := it_f hf he3
            cases hf
    · obtain ⟨z, hz⟩ := hok; cases hz
  · replace hf := ol_r hf
    refine gGoXI (gRunVX X Z hH hS (As := [.int (iI v1), .int (iI v2), .int (iI v3), .int (iI v4)]) (m_X11_input l hl0 G v1 nv1 v2 nv2 v3 nv3 v4 nv4 M0 _ hq6) calX11_input k_1079 k_1080 k_1078 (by decide) cX11 rfl ⟨by decide, by decide⟩ rfl hl rfl (Nat.le_of_ble_eq_true rfl) ⟨by show _ ≤ 6; omega, by show _ ≤ 36; omega⟩ dL_input_6) hS (fun E ce9 q9 H locs hE hH hS h1 h2 h3 => ?_) (fun H locs _ nv_ hH hS => ?_)
    · obtain ⟨e7, h7, h8⟩ := hE; cases h7
    · have hq := Option.some.inj hf; subst hq
      exact gRetXI X hH hS trivial (res := v6_.1) nv_ ⟨by omega, by omega⟩ dL_input_9
set_option maxHeartbeats 4000000 in
theorem m_P_target (l : Launch) (hl0 : l.stackTraces = false) (G : gG) (v1 : Int) (nv1 : nmI v1) (v2 : Int) (nv2 : nmI v2) (v3 : Int) (nv3 : nmI v3) (v4 : Int) (nv4 : nmI v4) (v5 : Int) (nv5 : nmI v5) (v6 : Int) (nv6 : nmI v6) (M0 : gM) (q : (Int × gM)) (hf : f_P_target v1 v2 v3 v4 v5 v6 M0 = some q) : gLMet l yL_target cL_target 8 (some .int) [(0, 13, 14, 65), (0, 13, 19, 67)] 8 137 5 30 G M0 [.ref (gAd G 0 0), .int (iI v1), .int (iI v2), .int (iI v3), .int (iI v4), .int (iI v5), .int (iI v6)] (gXi G True q.1 q.2) := by
  refine gOfL (by decide) (by show _ ≤ 8; exact Nat.le_of_ble_eq_true rfl) rfl ?_
  intro p e s m below meth c X Z hT hH ls hl
  replace hl : gLv ls 8 [(0, .ref (gAd G 0 0)), (1, .int (iI v1)), (2, .int (iI v2)), (3, .int (iI v3)), (4, .int (iI v4)), (5, .int (iI v5)), (6, .int (iI v6))] := hl
  have hS : va_S (gA G) s.heap s.heap [] := va_S.rf
  generalize hargs : ([.ref (gAd G 0 0), .int (iI v1), .int (iI v2), .int (iI v3), .int (iI v4), .int (iI v5), .int (iI v6)] : List Value).toArray = args at X ⊢
  clear hargs
  have hce : 0 + 5 ≤ 5 := by omega
  have hsl : 0 + 6 * 5 ≤ 30 := by omega
  unfold f_P_target at hf
  refine lv_aload_n X.1 X.2.1 dL_target_0 rfl (lv_at hl.1 0 rfl) ?_
  refine lv_iload_n X.1 X.2.1 dL_target_1 rfl (lv_at hl.1 1 rfl) ?_
  refine lv_iload_n X.1 X.2.1 dL_target_2 rfl (lv_at hl.1 2 rfl) ?_
  refine lv_iload_n X.1 X.2.1 dL_target_3 rfl (lv_at hl.1 3 rfl) ?_
  refine lv_iload X.1 X.2.1 dL_target_4 (lv_at hl.1 4 rfl) ?_
  refine lv_iload X.1 X.2.1 dL_target_6 (lv_at hl.1 5 rfl) ?_
  refine lv_iload X.1 X.2.1 dL_target_8 (lv_at hl.1 6 rfl) ?_
  obtain ⟨r10, hq10, hf_⟩ := ob_e hf; clear hf; have hf := hf_; clear hf_
  rcases r10 with e8 | v10_
  · replace hf := ol_l hf
    refine gGoXI (gRunVX X Z hH hS (As := [.int (iI v1), .int (iI v2), .int (iI v3), .int (iI v4), .int (iI v5), .int (iI v6)]) (m_X11_target l hl0 G v1 nv1 v2 nv2 v3 nv3 v4 nv4 v5 nv5 v6 nv6 M0 _ hq10) calX11_target k_1087 k_1088 k_1086 (by decide) cX11 rfl ⟨by decide, by decide⟩ rfl hl rfl (Nat.le_of_ble_eq_true rfl) ⟨by show _ ≤ 5; omega, by show _ ≤ 30; omega⟩ dL_target_10) hS (fun E ce9 q9 H locs hE hH hS h1 h2 h3 => ?_) (fun H locs hok _ hH hS => ?_)
    · obtain ⟨e7, h7, h8⟩ := hE
      cases h7
      subst h8
      by_cases he1 : e8 = 1
      · replace hf := it_t hf he1
        subst he1
        refine gOutCatch X Z (e9 := 1) hT [] ⟨0, 13, 14, 65⟩ [⟨0, 13, 19, 67⟩] rfl (fun z hz => nomatch hz) (by decide) (by decide) (by decide) k_475 k_489 h1 h2 h3 ?_
        refine g_astore X (lv' := [(7, .ref q9), (0, .ref (gAd G 0 0)), (1, .int (iI v1)), (2, .int (iI v2)), (3, .int (iI v3)), (4, .int (iI v4)), (5, .int (iI v5)), (6, .int (iI v6))]) dL_target_14 hl (by decide) rfl (fun ls hl => ?_)
        refine lv_bipush X.1 X.2.1 dL_target_16 (v := iI (-8)) (by decide) ?_
        have hq := Option.some.inj hf; subst hq
        exact gRetXI X hH hS trivial (res := (-8)) (nmI_l (by decide)) ⟨by omega, by omega⟩ dL_target_18
      · replace hf := it_f hf he1
        by_cases he3 : e8 = 3
        · replace hf := it_t hf he3
          subst he3
          refine gOutCatch X Z (e9 := 3) hT [⟨0, 13, 14, 65⟩] ⟨0, 13, 19, 67⟩ [] rfl (fun z hz => by simp only [List.mem_cons, List.not_mem_nil, or_false] at hz; rcases hz with rfl <;> first | exact ⟨by decide, 1, k_475, by decide, by decide⟩) (by decide) (by decide) (by decide) k_476 k_587 h1 h2 h3 ?_
          refine g_astore X (lv' := [(7, .ref q9), (0, .ref (gAd G 0 0)), (1, .int (iI v1)), (2, .int (iI v2)), (3, .int (iI v3)), (4, .int (iI v4)), (5, .int (iI v5)), (6, .int (iI v6))]) dL_target_19 hl (by decide) rfl (fun ls hl => ?_)
          refine lv_bipush X.1 X.2.1 dL_target_21 (v := iI (-8)) (by decide) ?_
          have hq := Option.some.inj hf; subst hq
          exact gRetXI X hH hS trivial (res := (-8)) (nmI_l (by decide)) ⟨by omega, by omega⟩ dL_target_23
        · replace hf := it_f hf he3
          cases hf
    · obtain ⟨z, hz⟩ := hok; cases hz
  · replace hf := ol_r hf
    refine gGoXI (gRunVX X Z hH hS (As := [.int (iI v1), .int (iI v2), .int (iI v3), .int (iI v4), .int (iI v5), .int (iI v6)]) (m_X11_target l hl0 G v1 nv1 v2 nv2 v3 nv3 v4 nv4 v5 nv5 v6 nv6 M0 _ hq10) calX11_target k_1087 k_1088 k_1086 (by decide) cX11 rfl ⟨by decide, by decide⟩ rfl hl rfl (Nat.le_of_ble_eq_true rfl) ⟨by show _ ≤ 5; omega, by show _ ≤ 30; omega⟩ dL_target_10) hS (fun E ce9 q9 H locs hE hH hS h1 h2 h3 => ?_) (fun H locs _ nv_ hH hS => ?_)
    · obtain ⟨e7, h7, h8⟩ := hE; cases h7
    · have hq := Option.some.inj hf; subst hq
      exact gRetXI X hH hS trivial (res := v10_.1) nv_ ⟨by omega, by omega⟩ dL_target_13
set_option maxHeartbeats 4000000 in
theorem w_P_ends_L4 {G : gG} {p : Program} {l : Launch} {e : Env} {s : State} {m : MethodId} {args : Array Value} {below : List Frame} {meth : Method} {c : Code} (X : gX G p s m args meth c RL cL_ends 3 (some .boolean) (gWs yL_ends cL_ends 3 (some .boolean))) (hl0 : l.stackTraces = false) (Z : gS G s) (M0 : gM) (k45 : Int → gM → Option (Int × gM)) (zz : Nat) (q : (Int × gM)) (hk45 : ∀ (x1 : Int) (bx1 : x1 = 0 ∨ x1 = 1) (M : gM), k45 x1 M = some q → ∀ (H : Heap) (locs : List Loc) (ls : Array Slot) (ce sl : Nat), ce + (zz) ≤ 183 → sl + 6 * (zz) ≤ 1098 → gH G M H → va_S (gA G) s.heap H locs → gLv ls 3 [(0, .ref (gAd G 0 0)), (1, .int (iI x1))] → W p l e { frames := 10, cells := 183, slots := 1098, locals := 219 } s m args below meth c H locs ce sl (vx_MQ below (gXz G True q.1 q.2) (gXC G (fun _ => False) M0) args s 183 1098 (gA G)) (F0 m 45 ls [])) : ∀ (n : Nat) (x1 : Int) (bx1 : x1 = 0 ∨ x1 = 1) (x2 : Int) (nx2 : nmI x2) (M : gM), f_P_ends_L4 k45 n x1 x2 M = some q → ∀ (H : Heap) (locs : List Loc) (ls : Array Slot) (ce sl : Nat), ce + (n * 3 + zz) ≤ 183 → sl + 6 * (n * 3 + zz) ≤ 1098 → gH G M H → va_S (gA G) s.heap H locs → gLv ls 3 [(0, .ref (gAd G 0 0)), (1, .int (iI x1)), (2, .int (iI x2))] → W p l e { frames := 10, cells := 183, slots := 1098, locals := 219 } s m args below meth c H locs ce sl (vx_MQ below (gXz G True q.1 q.2) (gXC G (fun _ => False) M0) args s 183 1098 (gA G)) (F0 m 4 ls []) := by
  intro n
  induction n with
  | zero =>
    intro x1 bx1 x2 nx2 M hf
    cases hf
  | succ n ih =>
    intro x1 bx1 x2 nx2 M hf H locs ls ce sl hce hsl hH hS hl
    rw [f_P_ends_L4] at hf
    refine lv_iload_n X.1 X.2.1 dL_ends_4 rfl (lv_at hl.1 2 rfl) ?_
    refine lv_bipush X.1 X.2.1 dL_ends_5 (v := iI 60) (by decide) ?_
    refine g_icmp_ge X nx2 (nmI_l (by decide)) (tgt := 45) dL_ends_7 (by decide) (fun hc7 => ?_) (fun hc7 => ?_)
    · replace hf := it_f hf hc7
      exact hk45 x1 bx1 M hf _ _ _ _ _ (by omega) (by omega) hH hS (gLv_sub hl [0, 1] rfl)
    · replace hf := it_t hf hc7
      refine lv_iload_n X.1 X.2.1 dL_ends_10 rfl (lv_at hl.1 1 rfl) ?_
      refine g_if_eq X (nmI_b bx1) (tgt := 45) dL_ends_11 (by decide) (fun hc11 => ?_) (fun hc11 => ?_)
      · replace hf := it_t hf hc11
        exact hk45 x1 bx1 M hf _ _ _ _ _ (by omega) (by omega) hH hS (gLv_sub hl [0, 1] rfl)
      · replace hf := it_f hf hc11
        refine lv_aload_n X.1 X.2.1 dL_ends_14 rfl (lv_at hl.1 0 rfl) ?_
        refine gGoZ (gRunV X hH (As := []) (m_X11_goesOn l G  M _ rfl) calX11_goesOn k_1098 k_1099 k_1097 (by decide) cX11 rfl ⟨by decide, by decide⟩ rfl hl rfl (Nat.le_of_ble_eq_true rfl) ⟨by show _ ≤ 183; omega, by show _ ≤ 1098; omega⟩ dL_ends_15) hS (fun H locs br15 hH hS => ?_)
        refine g_if_eq X (nmI_b br15) (tgt := 45) dL_ends_18 (by decide) (fun hc18 => ?_) (fun hc18 => ?_)
        · replace hf := it_t hf hc18
          exact hk45 x1 bx1 M hf _ _ _ _ _ (by omega) (by omega) hH hS (gLv_sub hl [0, 1] rfl)
        · replace hf := it_f hf hc18
          refine lv_aload_n X.1 X.2.1 dL_ends_21 rfl (lv_at hl.1 0 rfl) ?_
          refine lv_bipush X.1 X.2.1 dL_ends_22 (v := iI 7) (by decide) ?_
          refine lv_bipush X.1 X.2.1 dL_ends_24 (v := iI 50) (by decide) ?_
          refine lv_iconst X.1 X.2.1 dL_ends_26 (v := iI 0) rfl ?_
          obtain ⟨r27, hq27, hf_⟩ := ob_e hf; clear hf; have hf := hf_; clear hf_
          refine gGoL (gRunLX X Z hH hS (a := 4) (As := [.ref (gAd G 0 0), .int (iI 7), .int (iI 50), .int (iI 0)]) (m_P_does l hl0 G 7 (nmI_l (by decide)) 50 (nmI_l (by decide)) 0 (nmI_l (by decide)) M _ hq27) k_473 k_30 ⟨by decide, by decide⟩ (by decide +kernel) k_472 k_471 ⟨by decide, by decide⟩ rfl hl rfl (Nat.le_of_ble_eq_true rfl) ⟨by show _ ≤ 183; omega, by show _ ≤ 1098; omega⟩ dL_ends_27) hS (fun H locs nr27 hH hS => ?_)
          obtain ⟨k38, ek38, hf_⟩ := oj_e hf; clear hf; have hf := hf_; clear hf_
          have hk38 : ∀ (xs0_38 : Int) (bxs0_38 : xs0_38 = 0 ∨ xs0_38 = 1), k38 xs0_38 = some q → ∀ (H : Heap) (locs : List Loc) (ls : Array Slot) (ce sl : Nat), ce + (0 + (n * 3 + zz)) ≤ 183 → sl + 6 * (0 + (n * 3 + zz)) ≤ 1098 → gH G r27.2 H → va_S (gA G) s.heap H locs → gLv ls 3 [(0, .ref (gAd G 0 0)), (2, .int (iI x2))] → W p l e { frames := 10, cells := 183, slots := 1098, locals := 219 } s m args below meth c H locs ce sl (vx_MQ below (gXz G True q.1 q.2) (gXC G (fun _ => False) M0) args s 183 1098 (gA G)) (F0 m 38 ls [.int (iI xs0_38)]) := by
            clear hce hsl
            intro xs0_38 bxs0_38 hf H locs ls ce sl hce hsl hH hS hl
            subst ek38
            refine g_istore_n X (lv' := [(1, .int (iI xs0_38)), (0, .ref (gAd G 0 0)), (2, .int (iI x2))]) dL_ends_38 rfl hl (by decide) rfl (fun ls hl => ?_)
            refine g_iinc X (a := x2) (lv' := [(2, .int (iI (wI (x2 + 1)))), (1, .int (iI xs0_38)), (0, .ref (gAd G 0 0))]) dL_ends_39 hl (k := 2) rfl (by decide) rfl (fun ls hl => ?_)
            refine lv_goto (tgt := 4) X.1 X.2.1 dL_ends_42 (by decide) ?_
            exact ih xs0_38 bxs0_38 (wI (x2 + 1)) (nmI_w _) r27.2 hf _ _ _ _ _ (by omega) (by omega) hH hS (gLv_sub hl [2, 1, 0] rfl)
          clear ek38
          refine g_if_le X nr27 (tgt := 37) dL_ends_30 (by decide) (fun hc30 => ?_) (fun hc30 => ?_)
          · replace hf := it_f hf hc30
            refine lv_iconst X.1 X.2.1 dL_ends_37 (v := iI 0) rfl ?_
            exact hk38 0 (by decide) hf _ _ _ _ _ (by omega) (by omega) hH hS (gLv_sub hl [0, 2] rfl)
          · replace hf := it_t hf hc30
            refine lv_iconst X.1 X.2.1 dL_ends_33 (v := iI 1) rfl ?_
            refine lv_goto (tgt := 38) X.1 X.2.1 dL_ends_34 (by decide) ?_
            exact hk38 1 (by decide) hf _ _ _ _ _ (by omega) (by omega) hH hS (gLv_sub hl [0, 2] rfl)
theorem m_P_ends (l : Launch) (hl0 : l.stackTraces = false) (G : gG)  (M0 : gM) (q : (Int × gM)) (hf : f_P_ends M0 = some q) : gXMet l yL_ends cL_ends 3 (some .boolean) 10 219 183 1098 G M0 [.ref (gAd G 0 0)] (gXz G True q.1 q.2) (fun _ => False) := by
  refine gOfX (by decide) (by show _ ≤ 3; exact Nat.le_of_ble_eq_true rfl) rfl ?_
  intro p e s m below meth c X Z hnt hH ls hl
  replace hl : gLv ls 3 [(0, .ref (gAd G 0 0))] := hl
  have hS : va_S (gA G) s.heap s.heap [] := va_S.rf
  generalize hargs : ([.ref (gAd G 0 0)] : List Value).toArray = args at X ⊢
  clear hargs
  have hce : 0 + 183 ≤ 183 := by omega
  have hsl : 0 + 6 * 183 ≤ 1098 := by omega
  unfold f_P_ends at hf
  refine lv_iconst X.1 X.2.1 dL_ends_0 (v := iI 1) rfl ?_
  refine g_istore_n X (lv' := [(1, .int (iI 1)), (0, .ref (gAd G 0 0))]) dL_ends_1 rfl hl (by decide) rfl (fun ls hl => ?_)
  refine lv_iconst X.1 X.2.1 dL_ends_2 (v := iI 0) rfl ?_
  refine g_istore_n X (lv' := [(2, .int (iI 0)), (1, .int (iI 1)), (0, .ref (gAd G 0 0))]) dL_ends_3 rfl hl (by decide) rfl (fun ls hl => ?_)
  refine w_P_ends_L4 X hl0 Z M0 _  0 q ?_ 61 1 (by decide) 0 (nmI_l (by decide)) M0 hf _ _ _ _ _ (by omega) (by omega) hH hS (gLv_sub hl [2, 1, 0] rfl)
  · clear hce hsl
    intro y1_4_45 by1_4_45 M_4_45 hf H locs ls ce sl hce hsl hH hS hl
    refine lv_iload_n X.1 X.2.1 dL_ends_45 rfl (lv_at hl.1 1 rfl) ?_
    refine g_if_eq X (nmI_b by1_4_45) (tgt := 60) dL_ends_46 (by decide) (fun hc46 => ?_) (fun hc46 => ?_)
    · replace hf := it_t hf hc46
      refine lv_iconst X.1 X.2.1 dL_ends_60 (v := iI 0) rfl ?_
      have hq := Option.some.inj hf; subst hq
      exact gRetXZ X hH hS trivial (res := 0) (by decide) ⟨by omega, by omega⟩ dL_ends_61
    · replace hf := it_f hf hc46
      refine lv_aload_n X.1 X.2.1 dL_ends_49 rfl (lv_at hl.1 0 rfl) ?_
      refine gGoZ (gRunV X hH (As := []) (m_X11_goesOn l G  M_4_45 _ rfl) calX11_goesOn k_1098 k_1099 k_1097 (by decide) cX11 rfl ⟨by decide, by decide⟩ rfl hl rfl (Nat.le_of_ble_eq_true rfl) ⟨by show _ ≤ 183; omega, by show _ ≤ 1098; omega⟩ dL_ends_50) hS (fun H locs br50 hH hS => ?_)
      refine g_if_ne X (nmI_b br50) (tgt := 60) dL_ends_53 (by decide) (fun hc53 => ?_) (fun hc53 => ?_)
      · replace hf := it_f hf hc53
        refine lv_iconst X.1 X.2.1 dL_ends_60 (v := iI 0) rfl ?_
        have hq := Option.some.inj hf; subst hq
        exact gRetXZ X hH hS trivial (res := 0) (by decide) ⟨by omega, by omega⟩ dL_ends_61
      · replace hf := it_t hf hc53
        refine lv_iconst X.1 X.2.1 dL_ends_56 (v := iI 1) rfl ?_
        refine lv_goto (tgt := 61) X.1 X.2.1 dL_ends_57 (by decide) ?_
        have hq := Option.some.inj hf; subst hq
        exact gRetXZ X hH hS trivial (res := 1) (by decide) ⟨by omega, by omega⟩ dL_ends_61
