set_option maxHeartbeats 4000000 in
theorem w_L_law {G : gG} {p : Program} {l : Launch} {e : Env} {s : State} {m : MethodId} {below : List Frame} {meth : Method} {c : Code} {b L : Nat} {xs : Nat → Int32} (X : gX G p s m #[Value.ref b] meth c RL code 7 ret lw_tbl) (hl0 : l.stackTraces = false) (Z : gS G s) (hG1 : G.1 = s.heap.size) (hX : va_X b L xs s s.heap) (hbl : b < s.heap.size) (nL9 : nmI (L : Int)) : ∀ (n : Nat) (x4 : Int) (nx4 : nmI x4) (M : gM), f_L_law_L23 xs L n x4 M = some () → ∀ (H : Heap) (locs : List Loc) (ls : Array Slot) (ce sl : Nat), ce + 6 * n ≤ 609025 → sl + 36 * n ≤ 7269029 → gH G M H → va_S (gA G) s.heap H locs → gLv ls 7 [(0, .ref b), (1, .ref (gAd G 0 0)), (2, .ref (gAd G 29 0)), (3, .ref (gAd G 75 0)), (4, .int (iI x4))] → W p l e room_1 s m #[Value.ref b] below meth c H locs ce sl (lw_Z below #[Value.ref b] s) (F0 m 23 ls []) := by
  have hbA : ¬ gA G b := by unfold gA; omega
  intro n
  induction n with
  | zero =>
    intro x4 nx4 M hf
    cases hf
  | succ n ih =>
    intro x4 nx4 M hf H locs ls ce sl hce hsl hH hS hl
    rw [f_L_law_L23] at hf
    refine lv_iload X.1 X.2.1 dL_law_23 (lv_at hl.1 4 rfl) ?_
    refine lv_aload_n X.1 X.2.1 dL_law_25 rfl (lv_at hl.1 0 rfl) ?_
    refine g_slen X hX hbl hbA hS dL_law_26 ?_
    refine lv_bipush X.1 X.2.1 dL_law_27 (v := iI 7) (by decide) ?_
    refine g_isub X dL_law_29 ?_
    refine g_icmp_gt X nx4 (nmI_w _) (tgt := 1678) dL_law_30 (by decide) (fun hc30 => ?_) (fun hc30 => ?_)
    · replace hf := it_t hf hc30
      refine lv_iconst X.1 X.2.1 dL_law_1678 (v := iI 1) rfl ?_
      exact gLawEnd X hG1 hS ⟨by omega, by omega⟩ dL_law_1679
    · replace hf := it_f hf hc30
      refine lv_aload_n X.1 X.2.1 dL_law_33 rfl (lv_at hl.1 0 rfl) ?_
      refine lv_iload X.1 X.2.1 dL_law_34 (lv_at hl.1 4 rfl) ?_
      obtain ⟨hg, hf_⟩ := og_e hf; clear hf; have hf := hf_; clear hf_
      refine g_sld X hX hbl hbA hS nx4 hg dL_law_36 ?_
      refine lv_bipush X.1 X.2.1 dL_law_37 (v := iI 31) (by decide) ?_
      refine g_iand X dL_law_39 ?_
      obtain ⟨k1672, ek1672, hf_⟩ := oj_e hf; clear hf; have hf := hf_; clear hf_
      have hk1672 : ∀  (M_1672 : gM), k1672 M_1672 = some () → ∀ (H : Heap) (locs : List Loc) (ls : Array Slot) (ce sl : Nat), ce + 6 * n ≤ 609025 → sl + 36 * n ≤ 7269029 → gH G M_1672 H → va_S (gA G) s.heap H locs → gLv ls 7 [(0, .ref b), (1, .ref (gAd G 0 0)), (2, .ref (gAd G 29 0)), (3, .ref (gAd G 75 0)), (4, .int (iI x4))] → W p l e room_1 s m #[Value.ref b] below meth c H locs ce sl (lw_Z below #[Value.ref b] s) (F0 m 1672 ls []) := by
        intro  M_1672 hf H locs ls ce sl hce hsl hH hS hl
        subst ek1672
        refine g_iinc X (a := x4) (lv' := [(4, .int (iI (wI (x4 + 7)))), (0, .ref b), (1, .ref (gAd G 0 0)), (2, .ref (gAd G 29 0)), (3, .ref (gAd G 75 0))]) dL_law_1672 hl (k := 4) rfl (by decide) rfl (fun ls hl => ?_)
        refine lv_goto (tgt := 23) X.1 X.2.1 dL_law_1675 (by decide) ?_
        exact ih (wI (x4 + 7)) (nmI_w _) M_1672 hf _ _ _ _ _ (by omega) (by omega) hH hS (gLv_sub hl [1, 2, 3, 4, 0] rfl)
      clear ek1672
      by_cases hs0 : gAnd (gXs xs x4.toNat) 31 = 0
      · replace hf := it_t hf hs0
        refine lv_tableIn (tgt := 160) X.1 X.2.1 dL_law_40 (by rw [iI_T (nmI_and _ _)]; omega) (by rw [iI_T (nmI_and _ _)]; omega) (by rw [iI_T (nmI_and _ _), hs0]; rfl) (by decide) ?_
        refine lv_aload_n X.1 X.2.1 dL_law_160 rfl (lv_at hl.1 1 rfl) ?_
        refine lv_aload_n X.1 X.2.1 dL_law_161 rfl (lv_at hl.1 0 rfl) ?_
        refine lv_iload X.1 X.2.1 dL_law_162 (lv_at hl.1 4 rfl) ?_
        refine lv_iconst X.1 X.2.1 dL_law_164 (v := iI 1) rfl ?_
        refine g_iadd X dL_law_165 ?_
        obtain ⟨hg, hf_⟩ := og_e hf; clear hf; have hf := hf_; clear hf_
        refine g_sld X hX hbl hbA hS (nmI_w _) hg dL_law_166 ?_
        refine lv_aload_n X.1 X.2.1 dL_law_167 rfl (lv_at hl.1 0 rfl) ?_
        refine lv_iload X.1 X.2.1 dL_law_168 (lv_at hl.1 4 rfl) ?_
        refine lv_iconst X.1 X.2.1 dL_law_170 (v := iI 2) rfl ?_
        refine g_iadd X dL_law_171 ?_
        obtain ⟨hg, hf_⟩ := og_e hf; clear hf; have hf := hf_; clear hf_
        refine g_sld X hX hbl hbA hS (nmI_w _) hg dL_law_172 ?_
        refine lv_aload_n X.1 X.2.1 dL_law_173 rfl (lv_at hl.1 3 rfl) ?_
        obtain ⟨r174, hq174, hf_⟩ := ob_e hf; clear hf; have hf := hf_; clear hf_
        refine gGoL (gRunLX X Z hH hS (a := 4) (As := [.ref (gAd G 0 0), .int (iI (gXs xs (wI (x4 + 1)).toNat)), .int (iI (gXs xs (wI (x4 + 2)).toNat)), .ref (gAd G 75 0)]) (m_L_write l hl0 G (gXs xs (wI (x4 + 1)).toNat) (nmI_of _) (gXs xs (wI (x4 + 2)).toNat) (nmI_of _) M _ hq174) k_522 k_64 ⟨by decide, by decide⟩ (by decide +kernel) k_521 k_520 ⟨by decide, by decide⟩ rfl hl rfl (Nat.le_of_ble_eq_true rfl) ⟨by show _ ≤ 609025; omega, by show _ ≤ 7269029; omega⟩ dL_law_174) hS (fun H locs nr174 hH hS => ?_)
        refine g_istore X (lv' := [(5, .int (iI r174.1)), (0, .ref b), (1, .ref (gAd G 0 0)), (2, .ref (gAd G 29 0)), (3, .ref (gAd G 75 0)), (4, .int (iI x4))]) dL_law_177 hl (by decide) rfl (fun ls hl => ?_)
        refine lv_aload_n X.1 X.2.1 dL_law_179 rfl (lv_at hl.1 3 rfl) ?_
        refine lv_aload_n X.1 X.2.1 dL_law_180 rfl (lv_at hl.1 1 rfl) ?_
        refine lv_iload X.1 X.2.1 dL_law_181 (lv_at hl.1 5 rfl) ?_
        refine lv_iconst X.1 X.2.1 dL_law_183 (v := iI 1) rfl ?_
        refine g_iadd X dL_law_184 ?_
        obtain ⟨hg, hf_⟩ := og_e hf; clear hf; have hf := hf_; clear hf_
        refine g_sld X hX hbl hbA hS (nmI_w _) hg dL_law_185 ?_
        refine lv_aload_n X.1 X.2.1 dL_law_186 rfl (lv_at hl.1 1 rfl) ?_
        refine lv_iload X.1 X.2.1 dL_law_187 (lv_at hl.1 5 rfl) ?_
        refine lv_iconst X.1 X.2.1 dL_law_189 (v := iI 2) rfl ?_
        refine g_iadd X dL_law_190 ?_
        obtain ⟨hg, hf_⟩ := og_e hf; clear hf; have hf := hf_; clear hf_
        refine g_sld X hX hbl hbA hS (nmI_w _) hg dL_law_191 ?_
        obtain ⟨r192, hq192, hf_⟩ := ob_e hf; clear hf; have hf := hf_; clear hf_
        refine gGoI (gRunV X hH (As := [.int (iI (gXs xs (wI (x4 + 1)).toNat)), .int (iI (gXs xs (wI (x4 + 2)).toNat))]) (m_X12_write l G (gXs xs (wI (x4 + 1)).toNat) (nmI_of _) (gXs xs (wI (x4 + 2)).toNat) (nmI_of _) r174.2 _ hq192) calX12_write k_1385 k_1386 k_1384 (by decide) cX12 rfl ⟨by decide, by decide⟩ rfl hl rfl (Nat.le_of_ble_eq_true rfl) ⟨by show _ ≤ 609025; omega, by show _ ≤ 7269029; omega⟩ dL_law_192) hS (fun H locs nr192 hH hS => ?_)
        refine g_istore X (lv' := [(6, .int (iI r192.1)), (5, .int (iI r174.1)), (0, .ref b), (1, .ref (gAd G 0 0)), (2, .ref (gAd G 29 0)), (3, .ref (gAd G 75 0)), (4, .int (iI x4))]) dL_law_195 hl (by decide) rfl (fun ls hl => ?_)
        refine lv_aload_n X.1 X.2.1 dL_law_197 rfl (lv_at hl.1 4 rfl) ?_
        refine gGoI (gRunV X hH (As := []) (m_X12_thrown l G  r192.2 _ rfl) calX12_thrown k_1381 k_1382 k_1380 (by decide) cX12 rfl ⟨by decide, by decide⟩ rfl hl rfl (Nat.le_of_ble_eq_true rfl) ⟨by show _ ≤ 609025; omega, by show _ ≤ 7269029; omega⟩ dL_law_198) hS (fun H locs nr198 hH hS => ?_)
        refine lv_iload X.1 X.2.1 dL_law_201 (lv_at hl.1 1 rfl) ?_
        refine g_icmp_eq X nr198 nr174 (tgt := 208) dL_law_203 (by decide) (fun hc203 => ?_) (fun hc203 => ?_)
        · replace hf := it_t hf hc203
          refine lv_iload X.1 X.2.1 dL_law_208 (lv_at hl.1 1 rfl) ?_
          obtain ⟨k225, ek225, hf_⟩ := oj_e hf; clear hf; have hf := hf_; clear hf_
          have hk225 : k225 = some () → ∀ (H : Heap) (locs : List Loc) (ls : Array Slot) (ce sl : Nat), ce + 6 * n ≤ 609025 → sl + 36 * n ≤ 7269029 → gH G r192.2 H → va_S (gA G) s.heap H locs → gLv ls 7 [(0, .ref b), (1, .ref (gAd G 0 0)), (2, .ref (gAd G 29 0)), (3, .ref (gAd G 75 0)), (4, .int (iI x4))] → W p l e room_1 s m #[Value.ref b] below meth c H locs ce sl (lw_Z below #[Value.ref b] s) (F0 m 225 ls []) := by
            intro  hf H locs ls ce sl hce hsl hH hS hl
            subst ek225
            refine lv_goto (tgt := 1672) X.1 X.2.1 dL_law_225 (by decide) ?_
            exact hk1672 r192.2 hf _ _ _ _ _ (by omega) (by omega) hH hS (gLv_sub hl [0, 1, 2, 3, 4] rfl)
          clear ek225
          refine g_if_ne X nr174 (tgt := 225) dL_law_210 (by decide) (fun hc210 => ?_) (fun hc210 => ?_)
          · replace hf := it_f hf hc210
            exact hk225  hf _ _ _ _ _ (by omega) (by omega) hH hS (gLv_sub hl [2, 3, 4, 5, 6] rfl)
          · replace hf := it_t hf hc210
            refine lv_aload_n X.1 X.2.1 dL_law_213 rfl (lv_at hl.1 5 rfl) ?_
            refine lv_iconst X.1 X.2.1 dL_law_214 (v := iI 0) rfl ?_
            refine g_lald X hH dL_law_215 ?_
            have nd215 : nmI (r192.2 75 0 0) := hH.1.1 _ _ _
            refine lv_iload X.1 X.2.1 dL_law_216 (lv_at hl.1 0 rfl) ?_
            refine g_i2l X nr192 dL_law_218 ?_
            refine g_lcmp X nd215 nr192 dL_law_219 ?_
            refine g_if_eq X (nmI_cmp _ _) (tgt := 225) dL_law_220 (by decide) (fun hc220 => ?_) (fun hc220 => ?_)
            · replace hf := it_t hf hc220
              exact hk225  hf _ _ _ _ _ (by omega) (by omega) hH hS (gLv_sub hl [2, 3, 4, 5, 6] rfl)
            · replace hf := it_f hf hc220
              refine lv_iconst X.1 X.2.1 dL_law_223 (v := iI 0) rfl ?_
              cases hf
        · replace hf := it_f hf hc203
          refine lv_iconst X.1 X.2.1 dL_law_206 (v := iI 0) rfl ?_
          cases hf
      replace hf := it_f hf hs0
      by_cases hs1 : gAnd (gXs xs x4.toNat) 31 = 1
      · replace hf := it_t hf hs1
        refine lv_tableIn (tgt := 228) X.1 X.2.1 dL_law_40 (by rw [iI_T (nmI_and _ _)]; omega) (by rw [iI_T (nmI_and _ _)]; omega) (by rw [iI_T (nmI_and _ _), hs1]; rfl) (by decide) ?_
        refine lv_aload_n X.1 X.2.1 dL_law_228 rfl (lv_at hl.1 1 rfl) ?_
        refine lv_aload_n X.1 X.2.1 dL_law_229 rfl (lv_at hl.1 0 rfl) ?_
        refine lv_iload X.1 X.2.1 dL_law_230 (lv_at hl.1 4 rfl) ?_
        refine lv_iconst X.1 X.2.1 dL_law_232 (v := iI 1) rfl ?_
        refine g_iadd X dL_law_233 ?_
        obtain ⟨hg, hf_⟩ := og_e hf; clear hf; have hf := hf_; clear hf_
        refine g_sld X hX hbl hbA hS (nmI_w _) hg dL_law_234 ?_
        refine lv_aload_n X.1 X.2.1 dL_law_235 rfl (lv_at hl.1 0 rfl) ?_
        refine lv_iload X.1 X.2.1 dL_law_236 (lv_at hl.1 4 rfl) ?_
        refine lv_iconst X.1 X.2.1 dL_law_238 (v := iI 2) rfl ?_
        refine g_iadd X dL_law_239 ?_
        obtain ⟨hg, hf_⟩ := og_e hf; clear hf; have hf := hf_; clear hf_
        refine g_sld X hX hbl hbA hS (nmI_w _) hg dL_law_240 ?_
        refine lv_aload_n X.1 X.2.1 dL_law_241 rfl (lv_at hl.1 3 rfl) ?_
        obtain ⟨r242, hq242, hf_⟩ := ob_e hf; clear hf; have hf := hf_; clear hf_
        refine gGoL (gRunLX X Z hH hS (a := 4) (As := [.ref (gAd G 0 0), .int (iI (gXs xs (wI (x4 + 1)).toNat)), .int (iI (gXs xs (wI (x4 + 2)).toNat)), .ref (gAd G 75 0)]) (m_L_set l hl0 G (gXs xs (wI (x4 + 1)).toNat) (nmI_of _) (gXs xs (wI (x4 + 2)).toNat) (nmI_of _) M _ hq242) k_627 k_64 ⟨by decide, by decide⟩ (by decide +kernel) k_626 k_625 ⟨by decide, by decide⟩ rfl hl rfl (Nat.le_of_ble_eq_true rfl) ⟨by show _ ≤ 609025; omega, by show _ ≤ 7269029; omega⟩ dL_law_242) hS (fun H locs nr242 hH hS => ?_)
        refine g_istore X (lv' := [(5, .int (iI r242.1)), (0, .ref b), (1, .ref (gAd G 0 0)), (2, .ref (gAd G 29 0)), (3, .ref (gAd G 75 0)), (4, .int (iI x4))]) dL_law_245 hl (by decide) rfl (fun ls hl => ?_)
        refine lv_aload_n X.1 X.2.1 dL_law_247 rfl (lv_at hl.1 3 rfl) ?_
        refine lv_aload_n X.1 X.2.1 dL_law_248 rfl (lv_at hl.1 1 rfl) ?_
        refine lv_iload X.1 X.2.1 dL_law_249 (lv_at hl.1 5 rfl) ?_
        refine lv_iconst X.1 X.2.1 dL_law_251 (v := iI 1) rfl ?_
        refine g_iadd X dL_law_252 ?_
        obtain ⟨hg, hf_⟩ := og_e hf; clear hf; have hf := hf_; clear hf_
        refine g_sld X hX hbl hbA hS (nmI_w _) hg dL_law_253 ?_
        refine lv_aload_n X.1 X.2.1 dL_law_254 rfl (lv_at hl.1 1 rfl) ?_
        refine lv_iload X.1 X.2.1 dL_law_255 (lv_at hl.1 5 rfl) ?_
        refine lv_iconst X.1 X.2.1 dL_law_257 (v := iI 2) rfl ?_
        refine g_iadd X dL_law_258 ?_
        obtain ⟨hg, hf_⟩ := og_e hf; clear hf; have hf := hf_; clear hf_
        refine g_sld X hX hbl hbA hS (nmI_w _) hg dL_law_259 ?_
        obtain ⟨r260, hq260, hf_⟩ := ob_e hf; clear hf; have hf := hf_; clear hf_
        refine gGoI (gRunV X hH (As := [.int (iI (gXs xs (wI (x4 + 1)).toNat)), .int (iI (gXs xs (wI (x4 + 2)).toNat))]) (m_X12_set l G (gXs xs (wI (x4 + 1)).toNat) (nmI_of _) (gXs xs (wI (x4 + 2)).toNat) (nmI_of _) r242.2 _ hq260) calX12_set k_1396 k_1397 k_1395 (by decide) cX12 rfl ⟨by decide, by decide⟩ rfl hl rfl (Nat.le_of_ble_eq_true rfl) ⟨by show _ ≤ 609025; omega, by show _ ≤ 7269029; omega⟩ dL_law_260) hS (fun H locs nr260 hH hS => ?_)
        refine g_istore X (lv' := [(6, .int (iI r260.1)), (5, .int (iI r242.1)), (0, .ref b), (1, .ref (gAd G 0 0)), (2, .ref (gAd G 29 0)), (3, .ref (gAd G 75 0)), (4, .int (iI x4))]) dL_law_263 hl (by decide) rfl (fun ls hl => ?_)
        refine lv_aload_n X.1 X.2.1 dL_law_265 rfl (lv_at hl.1 4 rfl) ?_
        refine gGoI (gRunV X hH (As := []) (m_X12_thrown l G  r260.2 _ rfl) calX12_thrown k_1381 k_1382 k_1380 (by decide) cX12 rfl ⟨by decide, by decide⟩ rfl hl rfl (Nat.le_of_ble_eq_true rfl) ⟨by show _ ≤ 609025; omega, by show _ ≤ 7269029; omega⟩ dL_law_266) hS (fun H locs nr266 hH hS => ?_)
        refine lv_iload X.1 X.2.1 dL_law_269 (lv_at hl.1 1 rfl) ?_
        refine g_icmp_eq X nr266 nr242 (tgt := 276) dL_law_271 (by decide) (fun hc271 => ?_) (fun hc271 => ?_)
        · replace hf := it_t hf hc271
          refine lv_iload X.1 X.2.1 dL_law_276 (lv_at hl.1 1 rfl) ?_
          obtain ⟨k293, ek293, hf_⟩ := oj_e hf; clear hf; have hf := hf_; clear hf_
          have hk293 : k293 = some () → ∀ (H : Heap) (locs : List Loc) (ls : Array Slot) (ce sl : Nat), ce + 6 * n ≤ 609025 → sl + 36 * n ≤ 7269029 → gH G r260.2 H → va_S (gA G) s.heap H locs → gLv ls 7 [(0, .ref b), (1, .ref (gAd G 0 0)), (2, .ref (gAd G 29 0)), (3, .ref (gAd G 75 0)), (4, .int (iI x4))] → W p l e room_1 s m #[Value.ref b] below meth c H locs ce sl (lw_Z below #[Value.ref b] s) (F0 m 293 ls []) := by
            intro  hf H locs ls ce sl hce hsl hH hS hl
            subst ek293
            refine lv_goto (tgt := 1672) X.1 X.2.1 dL_law_293 (by decide) ?_
            exact hk1672 r260.2 hf _ _ _ _ _ (by omega) (by omega) hH hS (gLv_sub hl [0, 1, 2, 3, 4] rfl)
          clear ek293
          refine g_if_ne X nr242 (tgt := 293) dL_law_278 (by decide) (fun hc278 => ?_) (fun hc278 => ?_)
          · replace hf := it_f hf hc278
            exact hk293  hf _ _ _ _ _ (by omega) (by omega) hH hS (gLv_sub hl [2, 3, 4, 5, 6] rfl)
          · replace hf := it_t hf hc278
            refine lv_aload_n X.1 X.2.1 dL_law_281 rfl (lv_at hl.1 5 rfl) ?_
            refine lv_iconst X.1 X.2.1 dL_law_282 (v := iI 0) rfl ?_
            refine g_lald X hH dL_law_283 ?_
            have nd283 : nmI (r260.2 75 0 0) := hH.1.1 _ _ _
            refine lv_iload X.1 X.2.1 dL_law_284 (lv_at hl.1 0 rfl) ?_
            refine g_i2l X nr260 dL_law_286 ?_
            refine g_lcmp X nd283 nr260 dL_law_287 ?_
            refine g_if_eq X (nmI_cmp _ _) (tgt := 293) dL_law_288 (by decide) (fun hc288 => ?_) (fun hc288 => ?_)
            · replace hf := it_t hf hc288
              exact hk293  hf _ _ _ _ _ (by omega) (by omega) hH hS (gLv_sub hl [2, 3, 4, 5, 6] rfl)
            · replace hf := it_f hf hc288
              refine lv_iconst X.1 X.2.1 dL_law_291 (v := iI 0) rfl ?_
              cases hf
        · replace hf := it_f hf hc271
          refine lv_iconst X.1 X.2.1 dL_law_274 (v := iI 0) rfl ?_
          cases hf
      replace hf := it_f hf hs1
      by_cases hs2 : gAnd (gXs xs x4.toNat) 31 = 2
      · replace hf := it_t hf hs2
        refine lv_tableIn (tgt := 296) X.1 X.2.1 dL_law_40 (by rw [iI_T (nmI_and _ _)]; omega) (by rw [iI_T (nmI_and _ _)]; omega) (by rw [iI_T (nmI_and _ _), hs2]; rfl) (by decide) ?_
        refine lv_aload_n X.1 X.2.1 dL_law_296 rfl (lv_at hl.1 1 rfl) ?_
        refine lv_aload_n X.1 X.2.1 dL_law_297 rfl (lv_at hl.1 0 rfl) ?_
        refine lv_iload X.1 X.2.1 dL_law_298 (lv_at hl.1 4 rfl) ?_
        refine lv_iconst X.1 X.2.1 dL_law_300 (v := iI 1) rfl ?_
        refine g_iadd X dL_law_301 ?_
        obtain ⟨hg, hf_⟩ := og_e hf; clear hf; have hf := hf_; clear hf_
        refine g_sld X hX hbl hbA hS (nmI_w _) hg dL_law_302 ?_
        refine lv_aload_n X.1 X.2.1 dL_law_303 rfl (lv_at hl.1 0 rfl) ?_
        refine lv_iload X.1 X.2.1 dL_law_304 (lv_at hl.1 4 rfl) ?_
        refine lv_iconst X.1 X.2.1 dL_law_306 (v := iI 2) rfl ?_
        refine g_iadd X dL_law_307 ?_
        obtain ⟨hg, hf_⟩ := og_e hf; clear hf; have hf := hf_; clear hf_
        refine g_sld X hX hbl hbA hS (nmI_w _) hg dL_law_308 ?_
        refine lv_aload_n X.1 X.2.1 dL_law_309 rfl (lv_at hl.1 3 rfl) ?_
        obtain ⟨r310, hq310, hf_⟩ := ob_e hf; clear hf; have hf := hf_; clear hf_
        refine gGoL (gRunLX X Z hH hS (a := 4) (As := [.ref (gAd G 0 0), .int (iI (gXs xs (wI (x4 + 1)).toNat)), .int (iI (gXs xs (wI (x4 + 2)).toNat)), .ref (gAd G 75 0)]) (m_L_setTool l hl0 G (gXs xs (wI (x4 + 1)).toNat) (nmI_of _) (gXs xs (wI (x4 + 2)).toNat) (nmI_of _) M _ hq310) k_655 k_64 ⟨by decide, by decide⟩ (by decide +kernel) k_654 k_653 ⟨by decide, by decide⟩ rfl hl rfl (Nat.le_of_ble_eq_true rfl) ⟨by show _ ≤ 609025; omega, by show _ ≤ 7269029; omega⟩ dL_law_310) hS (fun H locs nr310 hH hS => ?_)
        refine g_istore X (lv' := [(5, .int (iI r310.1)), (0, .ref b), (1, .ref (gAd G 0 0)), (2, .ref (gAd G 29 0)), (3, .ref (gAd G 75 0)), (4, .int (iI x4))]) dL_law_313 hl (by decide) rfl (fun ls hl => ?_)
        refine lv_aload_n X.1 X.2.1 dL_law_315 rfl (lv_at hl.1 3 rfl) ?_
        refine lv_aload_n X.1 X.2.1 dL_law_316 rfl (lv_at hl.1 1 rfl) ?_
        refine lv_iload X.1 X.2.1 dL_law_317 (lv_at hl.1 5 rfl) ?_
        refine lv_iconst X.1 X.2.1 dL_law_319 (v := iI 1) rfl ?_
        refine g_iadd X dL_law_320 ?_
        obtain ⟨hg, hf_⟩ := og_e hf; clear hf; have hf := hf_; clear hf_
        refine g_sld X hX hbl hbA hS (nmI_w _) hg dL_law_321 ?_
        refine lv_aload_n X.1 X.2.1 dL_law_322 rfl (lv_at hl.1 1 rfl) ?_
        refine lv_iload X.1 X.2.1 dL_law_323 (lv_at hl.1 5 rfl) ?_
        refine lv_iconst X.1 X.2.1 dL_law_325 (v := iI 2) rfl ?_
        refine g_iadd X dL_law_326 ?_
        obtain ⟨hg, hf_⟩ := og_e hf; clear hf; have hf := hf_; clear hf_
        refine g_sld X hX hbl hbA hS (nmI_w _) hg dL_law_327 ?_
        obtain ⟨r328, hq328, hf_⟩ := ob_e hf; clear hf; have hf := hf_; clear hf_
        refine gGoI (gRunV X hH (As := [.int (iI (gXs xs (wI (x4 + 1)).toNat)), .int (iI (gXs xs (wI (x4 + 2)).toNat))]) (m_X12_setTool l G (gXs xs (wI (x4 + 1)).toNat) (nmI_of _) (gXs xs (wI (x4 + 2)).toNat) (nmI_of _) r310.2 _ hq328) calX12_setTool k_1404 k_1405 k_1403 (by decide) cX12 rfl ⟨by decide, by decide⟩ rfl hl rfl (Nat.le_of_ble_eq_true rfl) ⟨by show _ ≤ 609025; omega, by show _ ≤ 7269029; omega⟩ dL_law_328) hS (fun H locs nr328 hH hS => ?_)
        refine g_istore X (lv' := [(6, .int (iI r328.1)), (5, .int (iI r310.1)), (0, .ref b), (1, .ref (gAd G 0 0)), (2, .ref (gAd G 29 0)), (3, .ref (gAd G 75 0)), (4, .int (iI x4))]) dL_law_331 hl (by decide) rfl (fun ls hl => ?_)
        refine lv_aload_n X.1 X.2.1 dL_law_333 rfl (lv_at hl.1 4 rfl) ?_
        refine gGoI (gRunV X hH (As := []) (m_X12_thrown l G  r328.2 _ rfl) calX12_thrown k_1381 k_1382 k_1380 (by decide) cX12 rfl ⟨by decide, by decide⟩ rfl hl rfl (Nat.le_of_ble_eq_true rfl) ⟨by show _ ≤ 609025; omega, by show _ ≤ 7269029; omega⟩ dL_law_334) hS (fun H locs nr334 hH hS => ?_)
        refine lv_iload X.1 X.2.1 dL_law_337 (lv_at hl.1 1 rfl) ?_
        refine g_icmp_eq X nr334 nr310 (tgt := 344) dL_law_339 (by decide) (fun hc339 => ?_) (fun hc339 => ?_)
        · replace hf := it_t hf hc339
          refine lv_iload X.1 X.2.1 dL_law_344 (lv_at hl.1 1 rfl) ?_
          obtain ⟨k361, ek361, hf_⟩ := oj_e hf; clear hf; have hf := hf_; clear hf_
          have hk361 : k361 = some () → ∀ (H : Heap) (locs : List Loc) (ls : Array Slot) (ce sl : Nat), ce + 6 * n ≤ 609025 → sl + 36 * n ≤ 7269029 → gH G r328.2 H → va_S (gA G) s.heap H locs → gLv ls 7 [(0, .ref b), (1, .ref (gAd G 0 0)), (2, .ref (gAd G 29 0)), (3, .ref (gAd G 75 0)), (4, .int (iI x4))] → W p l e room_1 s m #[Value.ref b] below meth c H locs ce sl (lw_Z below #[Value.ref b] s) (F0 m 361 ls []) := by
            intro  hf H locs ls ce sl hce hsl hH hS hl
            subst ek361
            refine lv_goto (tgt := 1672) X.1 X.2.1 dL_law_361 (by decide) ?_
            exact hk1672 r328.2 hf _ _ _ _ _ (by omega) (by omega) hH hS (gLv_sub hl [0, 1, 2, 3, 4] rfl)
          clear ek361
          refine g_if_ne X nr310 (tgt := 361) dL_law_346 (by decide) (fun hc346 => ?_) (fun hc346 => ?_)
          · replace hf := it_f hf hc346
            exact hk361  hf _ _ _ _ _ (by omega) (by omega) hH hS (gLv_sub hl [2, 3, 4, 5, 6] rfl)
          · replace hf := it_t hf hc346
            refine lv_aload_n X.1 X.2.1 dL_law_349 rfl (lv_at hl.1 5 rfl) ?_
            refine lv_iconst X.1 X.2.1 dL_law_350 (v := iI 0) rfl ?_
            refine g_lald X hH dL_law_351 ?_
            have nd351 : nmI (r328.2 75 0 0) := hH.1.1 _ _ _
            refine lv_iload X.1 X.2.1 dL_law_352 (lv_at hl.1 0 rfl) ?_
            refine g_i2l X nr328 dL_law_354 ?_
            refine g_lcmp X nd351 nr328 dL_law_355 ?_
            refine g_if_eq X (nmI_cmp _ _) (tgt := 361) dL_law_356 (by decide) (fun hc356 => ?_) (fun hc356 => ?_)
            · replace hf := it_t hf hc356
              exact hk361  hf _ _ _ _ _ (by omega) (by omega) hH hS (gLv_sub hl [2, 3, 4, 5, 6] rfl)
            · replace hf := it_f hf hc356
              refine lv_iconst X.1 X.2.1 dL_law_359 (v := iI 0) rfl ?_
              cases hf
        · replace hf := it_f hf hc339
          refine lv_iconst X.1 X.2.1 dL_law_342 (v := iI 0) rfl ?_
          cases hf
      replace hf := it_f hf hs2
      by_cases hs3 : gAnd (gXs xs x4.toNat) 31 = 3
      · replace hf := it_t hf hs3
        refine lv_tableIn (tgt := 364) X.1 X.2.1 dL_law_40 (by rw [iI_T (nmI_and _ _)]; omega) (by rw [iI_T (nmI_and _ _)]; omega) (by rw [iI_T (nmI_and _ _), hs3]; rfl) (by decide) ?_
        refine lv_aload_n X.1 X.2.1 dL_law_364 rfl (lv_at hl.1 1 rfl) ?_
        refine lv_aload_n X.1 X.2.1 dL_law_365 rfl (lv_at hl.1 0 rfl) ?_
        refine lv_iload X.1 X.2.1 dL_law_366 (lv_at hl.1 4 rfl) ?_
        refine lv_iconst X.1 X.2.1 dL_law_368 (v := iI 1) rfl ?_
        refine g_iadd X dL_law_369 ?_
        obtain ⟨hg, hf_⟩ := og_e hf; clear hf; have hf := hf_; clear hf_
        refine g_sld X hX hbl hbA hS (nmI_w _) hg dL_law_370 ?_
        refine lv_aload_n X.1 X.2.1 dL_law_371 rfl (lv_at hl.1 0 rfl) ?_
        refine lv_iload X.1 X.2.1 dL_law_372 (lv_at hl.1 4 rfl) ?_
        refine lv_iconst X.1 X.2.1 dL_law_374 (v := iI 2) rfl ?_
        refine g_iadd X dL_law_375 ?_
        obtain ⟨hg, hf_⟩ := og_e hf; clear hf; have hf := hf_; clear hf_
        refine g_sld X hX hbl hbA hS (nmI_w _) hg dL_law_376 ?_
        refine lv_aload_n X.1 X.2.1 dL_law_377 rfl (lv_at hl.1 0 rfl) ?_
        refine lv_iload X.1 X.2.1 dL_law_378 (lv_at hl.1 4 rfl) ?_
        refine lv_iconst X.1 X.2.1 dL_law_380 (v := iI 3) rfl ?_
        refine g_iadd X dL_law_381 ?_
        obtain ⟨hg, hf_⟩ := og_e hf; clear hf; have hf := hf_; clear hf_
        refine g_sld X hX hbl hbA hS (nmI_w _) hg dL_law_382 ?_
        refine lv_aload_n X.1 X.2.1 dL_law_383 rfl (lv_at hl.1 0 rfl) ?_
        refine lv_iload X.1 X.2.1 dL_law_384 (lv_at hl.1 4 rfl) ?_
        refine lv_iconst X.1 X.2.1 dL_law_386 (v := iI 4) rfl ?_
        refine g_iadd X dL_law_387 ?_
        obtain ⟨hg, hf_⟩ := og_e hf; clear hf; have hf := hf_; clear hf_
        refine g_sld X hX hbl hbA hS (nmI_w _) hg dL_law_388 ?_
        refine lv_aload_n X.1 X.2.1 dL_law_389 rfl (lv_at hl.1 3 rfl) ?_
        obtain ⟨r390, hq390, hf_⟩ := ob_e hf; clear hf; have hf := hf_; clear hf_
        refine gGoL (gRunLX X Z hH hS (a := 6) (As := [.ref (gAd G 0 0), .int (iI (gXs xs (wI (x4 + 1)).toNat)), .int (iI (gXs xs (wI (x4 + 2)).toNat)), .int (iI (gXs xs (wI (x4 + 3)).toNat)), .int (iI (gXs xs (wI (x4 + 4)).toNat)), .ref (gAd G 75 0)]) (m_L_input l hl0 G (gXs xs (wI (x4 + 1)).toNat) (nmI_of _) (gXs xs (wI (x4 + 2)).toNat) (nmI_of _) (gXs xs (wI (x4 + 3)).toNat) (nmI_of _) (gXs xs (wI (x4 + 4)).toNat) (nmI_of _) M _ hq390) k_662 k_64 ⟨by decide, by decide⟩ (by decide +kernel) k_661 k_660 ⟨by decide, by decide⟩ rfl hl rfl (Nat.le_of_ble_eq_true rfl) ⟨by show _ ≤ 609025; omega, by show _ ≤ 7269029; omega⟩ dL_law_390) hS (fun H locs nr390 hH hS => ?_)
        refine g_istore X (lv' := [(5, .int (iI r390.1)), (0, .ref b), (1, .ref (gAd G 0 0)), (2, .ref (gAd G 29 0)), (3, .ref (gAd G 75 0)), (4, .int (iI x4))]) dL_law_393 hl (by decide) rfl (fun ls hl => ?_)
        refine lv_aload_n X.1 X.2.1 dL_law_395 rfl (lv_at hl.1 3 rfl) ?_
        refine lv_aload_n X.1 X.2.1 dL_law_396 rfl (lv_at hl.1 1 rfl) ?_
        refine lv_iload X.1 X.2.1 dL_law_397 (lv_at hl.1 5 rfl) ?_
        refine lv_iconst X.1 X.2.1 dL_law_399 (v := iI 1) rfl ?_
        refine g_iadd X dL_law_400 ?_
        obtain ⟨hg, hf_⟩ := og_e hf; clear hf; have hf := hf_; clear hf_
        refine g_sld X hX hbl hbA hS (nmI_w _) hg dL_law_401 ?_
        refine lv_aload_n X.1 X.2.1 dL_law_402 rfl (lv_at hl.1 1 rfl) ?_
        refine lv_iload X.1 X.2.1 dL_law_403 (lv_at hl.1 5 rfl) ?_
        refine lv_iconst X.1 X.2.1 dL_law_405 (v := iI 2) rfl ?_
        refine g_iadd X dL_law_406 ?_
        obtain ⟨hg, hf_⟩ := og_e hf; clear hf; have hf := hf_; clear hf_
        refine g_sld X hX hbl hbA hS (nmI_w _) hg dL_law_407 ?_
        refine lv_aload_n X.1 X.2.1 dL_law_408 rfl (lv_at hl.1 1 rfl) ?_
        refine lv_iload X.1 X.2.1 dL_law_409 (lv_at hl.1 5 rfl) ?_
        refine lv_iconst X.1 X.2.1 dL_law_411 (v := iI 3) rfl ?_
        refine g_iadd X dL_law_412 ?_
        obtain ⟨hg, hf_⟩ := og_e hf; clear hf; have hf := hf_; clear hf_
        refine g_sld X hX hbl hbA hS (nmI_w _) hg dL_law_413 ?_
        refine lv_aload_n X.1 X.2.1 dL_law_414 rfl (lv_at hl.1 1 rfl) ?_
        refine lv_iload X.1 X.2.1 dL_law_415 (lv_at hl.1 5 rfl) ?_
        refine lv_iconst X.1 X.2.1 dL_law_417 (v := iI 4) rfl ?_
        refine g_iadd X dL_law_418 ?_
        obtain ⟨hg, hf_⟩ := og_e hf; clear hf; have hf := hf_; clear hf_
        refine g_sld X hX hbl hbA hS (nmI_w _) hg dL_law_419 ?_
        obtain ⟨r420, hq420, hf_⟩ := ob_e hf; clear hf; have hf := hf_; clear hf_
        refine gGoI (gRunV X hH (As := [.int (iI (gXs xs (wI (x4 + 1)).toNat)), .int (iI (gXs xs (wI (x4 + 2)).toNat)), .int (iI (gXs xs (wI (x4 + 3)).toNat)), .int (iI (gXs xs (wI (x4 + 4)).toNat))]) (m_X12_input l G (gXs xs (wI (x4 + 1)).toNat) (nmI_of _) (gXs xs (wI (x4 + 2)).toNat) (nmI_of _) (gXs xs (wI (x4 + 3)).toNat) (nmI_of _) (gXs xs (wI (x4 + 4)).toNat) (nmI_of _) r390.2 _ hq420) calX12_input k_1408 k_1409 k_1407 (by decide) cX12 rfl ⟨by decide, by decide⟩ rfl hl rfl (Nat.le_of_ble_eq_true rfl) ⟨by show _ ≤ 609025; omega, by show _ ≤ 7269029; omega⟩ dL_law_420) hS (fun H locs nr420 hH hS => ?_)
        refine g_istore X (lv' := [(6, .int (iI r420.1)), (5, .int (iI r390.1)), (0, .ref b), (1, .ref (gAd G 0 0)), (2, .ref (gAd G 29 0)), (3, .ref (gAd G 75 0)), (4, .int (iI x4))]) dL_law_423 hl (by decide) rfl (fun ls hl => ?_)
        refine lv_aload_n X.1 X.2.1 dL_law_425 rfl (lv_at hl.1 4 rfl) ?_
        refine gGoI (gRunV X hH (As := []) (m_X12_thrown l G  r420.2 _ rfl) calX12_thrown k_1381 k_1382 k_1380 (by decide) cX12 rfl ⟨by decide, by decide⟩ rfl hl rfl (Nat.le_of_ble_eq_true rfl) ⟨by show _ ≤ 609025; omega, by show _ ≤ 7269029; omega⟩ dL_law_426) hS (fun H locs nr426 hH hS => ?_)
        refine lv_iload X.1 X.2.1 dL_law_429 (lv_at hl.1 1 rfl) ?_
        refine g_icmp_eq X nr426 nr390 (tgt := 436) dL_law_431 (by decide) (fun hc431 => ?_) (fun hc431 => ?_)
        · replace hf := it_t hf hc431
          refine lv_iload X.1 X.2.1 dL_law_436 (lv_at hl.1 1 rfl) ?_
          obtain ⟨k453, ek453, hf_⟩ := oj_e hf; clear hf; have hf := hf_; clear hf_
          have hk453 : k453 = some () → ∀ (H : Heap) (locs : List Loc) (ls : Array Slot) (ce sl : Nat), ce + 6 * n ≤ 609025 → sl + 36 * n ≤ 7269029 → gH G r420.2 H → va_S (gA G) s.heap H locs → gLv ls 7 [(0, .ref b), (1, .ref (gAd G 0 0)), (2, .ref (gAd G 29 0)), (3, .ref (gAd G 75 0)), (4, .int (iI x4))] → W p l e room_1 s m #[Value.ref b] below meth c H locs ce sl (lw_Z below #[Value.ref b] s) (F0 m 453 ls []) := by
            intro  hf H locs ls ce sl hce hsl hH hS hl
            subst ek453
            refine lv_goto (tgt := 1672) X.1 X.2.1 dL_law_453 (by decide) ?_
            exact hk1672 r420.2 hf _ _ _ _ _ (by omega) (by omega) hH hS (gLv_sub hl [0, 1, 2, 3, 4] rfl)
          clear ek453
          refine g_if_ne X nr390 (tgt := 453) dL_law_438 (by decide) (fun hc438 => ?_) (fun hc438 => ?_)
          · replace hf := it_f hf hc438
            exact hk453  hf _ _ _ _ _ (by omega) (by omega) hH hS (gLv_sub hl [2, 3, 4, 5, 6] rfl)
          · replace hf := it_t hf hc438
            refine lv_aload_n X.1 X.2.1 dL_law_441 rfl (lv_at hl.1 5 rfl) ?_
            refine lv_iconst X.1 X.2.1 dL_law_442 (v := iI 0) rfl ?_
            refine g_lald X hH dL_law_443 ?_
            have nd443 : nmI (r420.2 75 0 0) := hH.1.1 _ _ _
            refine lv_iload X.1 X.2.1 dL_law_444 (lv_at hl.1 0 rfl) ?_
            refine g_i2l X nr420 dL_law_446 ?_
            refine g_lcmp X nd443 nr420 dL_law_447 ?_
            refine g_if_eq X (nmI_cmp _ _) (tgt := 453) dL_law_448 (by decide) (fun hc448 => ?_) (fun hc448 => ?_)
            · replace hf := it_t hf hc448
              exact hk453  hf _ _ _ _ _ (by omega) (by omega) hH hS (gLv_sub hl [2, 3, 4, 5, 6] rfl)
            · replace hf := it_f hf hc448
              refine lv_iconst X.1 X.2.1 dL_law_451 (v := iI 0) rfl ?_
              cases hf
        · replace hf := it_f hf hc431
          refine lv_iconst X.1 X.2.1 dL_law_434 (v := iI 0) rfl ?_
          cases hf
      replace hf := it_f hf hs3
      by_cases hs4 : gAnd (gXs xs x4.toNat) 31 = 4
      · replace hf := it_t hf hs4
        refine lv_tableIn (tgt := 456) X.1 X.2.1 dL_law_40 (by rw [iI_T (nmI_and _ _)]; omega) (by rw [iI_T (nmI_and _ _)]; omega) (by rw [iI_T (nmI_and _ _), hs4]; rfl) (by decide) ?_
        refine lv_aload_n X.1 X.2.1 dL_law_456 rfl (lv_at hl.1 1 rfl) ?_
        refine lv_aload_n X.1 X.2.1 dL_law_457 rfl (lv_at hl.1 0 rfl) ?_
        refine lv_iload X.1 X.2.1 dL_law_458 (lv_at hl.1 4 rfl) ?_
        refine lv_iconst X.1 X.2.1 dL_law_460 (v := iI 1) rfl ?_
        refine g_iadd X dL_law_461 ?_
        obtain ⟨hg, hf_⟩ := og_e hf; clear hf; have hf := hf_; clear hf_
        refine g_sld X hX hbl hbA hS (nmI_w _) hg dL_law_462 ?_
        refine lv_aload_n X.1 X.2.1 dL_law_463 rfl (lv_at hl.1 0 rfl) ?_
        refine lv_iload X.1 X.2.1 dL_law_464 (lv_at hl.1 4 rfl) ?_
        refine lv_iconst X.1 X.2.1 dL_law_466 (v := iI 2) rfl ?_
        refine g_iadd X dL_law_467 ?_
        obtain ⟨hg, hf_⟩ := og_e hf; clear hf; have hf := hf_; clear hf_
        refine g_sld X hX hbl hbA hS (nmI_w _) hg dL_law_468 ?_
        refine lv_aload_n X.1 X.2.1 dL_law_469 rfl (lv_at hl.1 0 rfl) ?_
        refine lv_iload X.1 X.2.1 dL_law_470 (lv_at hl.1 4 rfl) ?_
        refine lv_iconst X.1 X.2.1 dL_law_472 (v := iI 3) rfl ?_
        refine g_iadd X dL_law_473 ?_
        obtain ⟨hg, hf_⟩ := og_e hf; clear hf; have hf := hf_; clear hf_
        refine g_sld X hX hbl hbA hS (nmI_w _) hg dL_law_474 ?_
        refine lv_aload_n X.1 X.2.1 dL_law_475 rfl (lv_at hl.1 0 rfl) ?_
        refine lv_iload X.1 X.2.1 dL_law_476 (lv_at hl.1 4 rfl) ?_
        refine lv_iconst X.1 X.2.1 dL_law_478 (v := iI 4) rfl ?_
        refine g_iadd X dL_law_479 ?_
        obtain ⟨hg, hf_⟩ := og_e hf; clear hf; have hf := hf_; clear hf_
        refine g_sld X hX hbl hbA hS (nmI_w _) hg dL_law_480 ?_
        refine lv_aload_n X.1 X.2.1 dL_law_481 rfl (lv_at hl.1 0 rfl) ?_
        refine lv_iload X.1 X.2.1 dL_law_482 (lv_at hl.1 4 rfl) ?_
        refine lv_iconst X.1 X.2.1 dL_law_484 (v := iI 5) rfl ?_
        refine g_iadd X dL_law_485 ?_
        obtain ⟨hg, hf_⟩ := og_e hf; clear hf; have hf := hf_; clear hf_
        refine g_sld X hX hbl hbA hS (nmI_w _) hg dL_law_486 ?_
        refine lv_aload_n X.1 X.2.1 dL_law_487 rfl (lv_at hl.1 0 rfl) ?_
        refine lv_iload X.1 X.2.1 dL_law_488 (lv_at hl.1 4 rfl) ?_
        refine lv_bipush X.1 X.2.1 dL_law_490 (v := iI 6) (by decide) ?_
        refine g_iadd X dL_law_492 ?_
        obtain ⟨hg, hf_⟩ := og_e hf; clear hf; have hf := hf_; clear hf_
        refine g_sld X hX hbl hbA hS (nmI_w _) hg dL_law_493 ?_
        refine lv_aload_n X.1 X.2.1 dL_law_494 rfl (lv_at hl.1 3 rfl) ?_
        obtain ⟨r495, hq495, hf_⟩ := ob_e hf; clear hf; have hf := hf_; clear hf_
        refine gGoL (gRunLX X Z hH hS (a := 8) (As := [.ref (gAd G 0 0), .int (iI (gXs xs (wI (x4 + 1)).toNat)), .int (iI (gXs xs (wI (x4 + 2)).toNat)), .int (iI (gXs xs (wI (x4 + 3)).toNat)), .int (iI (gXs xs (wI (x4 + 4)).toNat)), .int (iI (gXs xs (wI (x4 + 5)).toNat)), .int (iI (gXs xs (wI (x4 + 6)).toNat)), .ref (gAd G 75 0)]) (m_L_target l hl0 G (gXs xs (wI (x4 + 1)).toNat) (nmI_of _) (gXs xs (wI (x4 + 2)).toNat) (nmI_of _) (gXs xs (wI (x4 + 3)).toNat) (nmI_of _) (gXs xs (wI (x4 + 4)).toNat) (nmI_of _) (gXs xs (wI (x4 + 5)).toNat) (nmI_of _) (gXs xs (wI (x4 + 6)).toNat) (nmI_of _) M _ hq495) k_702 k_64 ⟨by decide, by decide⟩ (by decide +kernel) k_701 k_700 ⟨by decide, by decide⟩ rfl hl rfl (Nat.le_of_ble_eq_true rfl) ⟨by show _ ≤ 609025; omega, by show _ ≤ 7269029; omega⟩ dL_law_495) hS (fun H locs nr495 hH hS => ?_)
        refine g_istore X (lv' := [(5, .int (iI r495.1)), (0, .ref b), (1, .ref (gAd G 0 0)), (2, .ref (gAd G 29 0)), (3, .ref (gAd G 75 0)), (4, .int (iI x4))]) dL_law_498 hl (by decide) rfl (fun ls hl => ?_)
        refine lv_aload_n X.1 X.2.1 dL_law_500 rfl (lv_at hl.1 3 rfl) ?_
        refine lv_aload_n X.1 X.2.1 dL_law_501 rfl (lv_at hl.1 1 rfl) ?_
        refine lv_iload X.1 X.2.1 dL_law_502 (lv_at hl.1 5 rfl) ?_
        refine lv_iconst X.1 X.2.1 dL_law_504 (v := iI 1) rfl ?_
        refine g_iadd X dL_law_505 ?_
        obtain ⟨hg, hf_⟩ := og_e hf; clear hf; have hf := hf_; clear hf_
        refine g_sld X hX hbl hbA hS (nmI_w _) hg dL_law_506 ?_
        refine lv_aload_n X.1 X.2.1 dL_law_507 rfl (lv_at hl.1 1 rfl) ?_
        refine lv_iload X.1 X.2.1 dL_law_508 (lv_at hl.1 5 rfl) ?_
        refine lv_iconst X.1 X.2.1 dL_law_510 (v := iI 2) rfl ?_
        refine g_iadd X dL_law_511 ?_
        obtain ⟨hg, hf_⟩ := og_e hf; clear hf; have hf := hf_; clear hf_
        refine g_sld X hX hbl hbA hS (nmI_w _) hg dL_law_512 ?_
        refine lv_aload_n X.1 X.2.1 dL_law_513 rfl (lv_at hl.1 1 rfl) ?_
        refine lv_iload X.1 X.2.1 dL_law_514 (lv_at hl.1 5 rfl) ?_
        refine lv_iconst X.1 X.2.1 dL_law_516 (v := iI 3) rfl ?_
        refine g_iadd X dL_law_517 ?_
        obtain ⟨hg, hf_⟩ := og_e hf; clear hf; have hf := hf_; clear hf_
        refine g_sld X hX hbl hbA hS (nmI_w _) hg dL_law_518 ?_
        refine lv_aload_n X.1 X.2.1 dL_law_519 rfl (lv_at hl.1 1 rfl) ?_
        refine lv_iload X.1 X.2.1 dL_law_520 (lv_at hl.1 5 rfl) ?_
        refine lv_iconst X.1 X.2.1 dL_law_522 (v := iI 4) rfl ?_
        refine g_iadd X dL_law_523 ?_
        obtain ⟨hg, hf_⟩ := og_e hf; clear hf; have hf := hf_; clear hf_
        refine g_sld X hX hbl hbA hS (nmI_w _) hg dL_law_524 ?_
        refine lv_aload_n X.1 X.2.1 dL_law_525 rfl (lv_at hl.1 1 rfl) ?_
        refine lv_iload X.1 X.2.1 dL_law_526 (lv_at hl.1 5 rfl) ?_
        refine lv_iconst X.1 X.2.1 dL_law_528 (v := iI 5) rfl ?_
        refine g_iadd X dL_law_529 ?_
        obtain ⟨hg, hf_⟩ := og_e hf; clear hf; have hf := hf_; clear hf_
        refine g_sld X hX hbl hbA hS (nmI_w _) hg dL_law_530 ?_
        refine lv_aload_n X.1 X.2.1 dL_law_531 rfl (lv_at hl.1 1 rfl) ?_
        refine lv_iload X.1 X.2.1 dL_law_532 (lv_at hl.1 5 rfl) ?_
        refine lv_bipush X.1 X.2.1 dL_law_534 (v := iI 6) (by decide) ?_
        refine g_iadd X dL_law_536 ?_
        obtain ⟨hg, hf_⟩ := og_e hf; clear hf; have hf := hf_; clear hf_
        refine g_sld X hX hbl hbA hS (nmI_w _) hg dL_law_537 ?_
        obtain ⟨r538, hq538, hf_⟩ := ob_e hf; clear hf; have hf := hf_; clear hf_
        refine gGoI (gRunV X hH (As := [.int (iI (gXs xs (wI (x4 + 1)).toNat)), .int (iI (gXs xs (wI (x4 + 2)).toNat)), .int (iI (gXs xs (wI (x4 + 3)).toNat)), .int (iI (gXs xs (wI (x4 + 4)).toNat)), .int (iI (gXs xs (wI (x4 + 5)).toNat)), .int (iI (gXs xs (wI (x4 + 6)).toNat))]) (m_X12_target l G (gXs xs (wI (x4 + 1)).toNat) (nmI_of _) (gXs xs (wI (x4 + 2)).toNat) (nmI_of _) (gXs xs (wI (x4 + 3)).toNat) (nmI_of _) (gXs xs (wI (x4 + 4)).toNat) (nmI_of _) (gXs xs (wI (x4 + 5)).toNat) (nmI_of _) (gXs xs (wI (x4 + 6)).toNat) (nmI_of _) r495.2 _ hq538) calX12_target k_1420 k_1421 k_1419 (by decide) cX12 rfl ⟨by decide, by decide⟩ rfl hl rfl (Nat.le_of_ble_eq_true rfl) ⟨by show _ ≤ 609025; omega, by show _ ≤ 7269029; omega⟩ dL_law_538) hS (fun H locs nr538 hH hS => ?_)
        refine g_istore X (lv' := [(6, .int (iI r538.1)), (5, .int (iI r495.1)), (0, .ref b), (1, .ref (gAd G 0 0)), (2, .ref (gAd G 29 0)), (3, .ref (gAd G 75 0)), (4, .int (iI x4))]) dL_law_541 hl (by decide) rfl (fun ls hl => ?_)
        refine lv_aload_n X.1 X.2.1 dL_law_543 rfl (lv_at hl.1 4 rfl) ?_
        refine gGoI (gRunV X hH (As := []) (m_X12_thrown l G  r538.2 _ rfl) calX12_thrown k_1381 k_1382 k_1380 (by decide) cX12 rfl ⟨by decide, by decide⟩ rfl hl rfl (Nat.le_of_ble_eq_true rfl) ⟨by show _ ≤ 609025; omega, by show _ ≤ 7269029; omega⟩ dL_law_544) hS (fun H locs nr544 hH hS => ?_)
        refine lv_iload X.1 X.2.1 dL_law_547 (lv_at hl.1 1 rfl) ?_
        refine g_icmp_eq X nr544 nr495 (tgt := 554) dL_law_549 (by decide) (fun hc549 => ?_) (fun hc549 => ?_)
        · replace hf := it_t hf hc549
          refine lv_iload X.1 X.2.1 dL_law_554 (lv_at hl.1 1 rfl) ?_
          obtain ⟨k571, ek571, hf_⟩ := oj_e hf; clear hf; have hf := hf_; clear hf_
          have hk571 : k571 = some () → ∀ (H : Heap) (locs : List Loc) (ls : Array Slot) (ce sl : Nat), ce + 6 * n ≤ 609025 → sl + 36 * n ≤ 7269029 → gH G r538.2 H → va_S (gA G) s.heap H locs → gLv ls 7 [(0, .ref b), (1, .ref (gAd G 0 0)), (2, .ref (gAd G 29 0)), (3, .ref (gAd G 75 0)), (4, .int (iI x4))] → W p l e room_1 s m #[Value.ref b] below meth c H locs ce sl (lw_Z below #[Value.ref b] s) (F0 m 571 ls []) := by
            intro  hf H locs ls ce sl hce hsl hH hS hl
            subst ek571
            refine lv_goto (tgt := 1672) X.1 X.2.1 dL_law_571 (by decide) ?_
            exact hk1672 r538.2 hf _ _ _ _ _ (by omega) (by omega) hH hS (gLv_sub hl [0, 1, 2, 3, 4] rfl)
          clear ek571
          refine g_if_ne X nr495 (tgt := 571) dL_law_556 (by decide) (fun hc556 => ?_) (fun hc556 => ?_)
          · replace hf := it_f hf hc556
            exact hk571  hf _ _ _ _ _ (by omega) (by omega) hH hS (gLv_sub hl [2, 3, 4, 5, 6] rfl)
          · replace hf := it_t hf hc556
            refine lv_aload_n X.1 X.2.1 dL_law_559 rfl (lv_at hl.1 5 rfl) ?_
            refine lv_iconst X.1 X.2.1 dL_law_560 (v := iI 0) rfl ?_
            refine g_lald X hH dL_law_561 ?_
            have nd561 : nmI (r538.2 75 0 0) := hH.1.1 _ _ _
            refine lv_iload X.1 X.2.1 dL_law_562 (lv_at hl.1 0 rfl) ?_
            refine g_i2l X nr538 dL_law_564 ?_
            refine g_lcmp X nd561 nr538 dL_law_565 ?_
            refine g_if_eq X (nmI_cmp _ _) (tgt := 571) dL_law_566 (by decide) (fun hc566 => ?_) (fun hc566 => ?_)
            · replace hf := it_t hf hc566
              exact hk571  hf _ _ _ _ _ (by omega) (by omega) hH hS (gLv_sub hl [2, 3, 4, 5, 6] rfl)
            · replace hf := it_f hf hc566
              refine lv_iconst X.1 X.2.1 dL_law_569 (v := iI 0) rfl ?_
              cases hf
        · replace hf := it_f hf hc549
          refine lv_iconst X.1 X.2.1 dL_law_552 (v := iI 0) rfl ?_
          cases hf
      replace hf := it_f hf hs4
      by_cases hs5 : gAnd (gXs xs x4.toNat) 31 = 5
      · replace hf := it_t hf hs5
        refine lv_tableIn (tgt := 574) X.1 X.2.1 dL_law_40 (by rw [iI_T (nmI_and _ _)]; omega) (by rw [iI_T (nmI_and _ _)]; omega) (by rw [iI_T (nmI_and _ _), hs5]; rfl) (by decide) ?_
        refine lv_aload_n X.1 X.2.1 dL_law_574 rfl (lv_at hl.1 1 rfl) ?_
        refine lv_aload_n X.1 X.2.1 dL_law_575 rfl (lv_at hl.1 0 rfl) ?_
        refine lv_iload X.1 X.2.1 dL_law_576 (lv_at hl.1 4 rfl) ?_
        refine lv_iconst X.1 X.2.1 dL_law_578 (v := iI 1) rfl ?_
        refine g_iadd X dL_law_579 ?_
        obtain ⟨hg, hf_⟩ := og_e hf; clear hf; have hf := hf_; clear hf_
        refine g_sld X hX hbl hbA hS (nmI_w _) hg dL_law_580 ?_
        refine lv_aload_n X.1 X.2.1 dL_law_581 rfl (lv_at hl.1 0 rfl) ?_
        refine lv_iload X.1 X.2.1 dL_law_582 (lv_at hl.1 4 rfl) ?_
        refine lv_iconst X.1 X.2.1 dL_law_584 (v := iI 2) rfl ?_
        refine g_iadd X dL_law_585 ?_
        obtain ⟨hg, hf_⟩ := og_e hf; clear hf; have hf := hf_; clear hf_
        refine g_sld X hX hbl hbA hS (nmI_w _) hg dL_law_586 ?_
        refine lv_aload_n X.1 X.2.1 dL_law_587 rfl (lv_at hl.1 3 rfl) ?_
        obtain ⟨r588, hq588, hf_⟩ := ob_e hf; clear hf; have hf := hf_; clear hf_
        refine gGoL (gRunLX X Z hH hS (a := 4) (As := [.ref (gAd G 0 0), .int (iI (gXs xs (wI (x4 + 1)).toNat)), .int (iI (gXs xs (wI (x4 + 2)).toNat)), .ref (gAd G 75 0)]) (m_L_copy l hl0 G (gXs xs (wI (x4 + 1)).toNat) (nmI_of _) (gXs xs (wI (x4 + 2)).toNat) (nmI_of _) M _ hq588) k_728 k_64 ⟨by decide, by decide⟩ (by decide +kernel) k_727 k_726 ⟨by decide, by decide⟩ rfl hl rfl (Nat.le_of_ble_eq_true rfl) ⟨by show _ ≤ 609025; omega, by show _ ≤ 7269029; omega⟩ dL_law_588) hS (fun H locs nr588 hH hS => ?_)
        refine g_istore X (lv' := [(5, .int (iI r588.1)), (0, .ref b), (1, .ref (gAd G 0 0)), (2, .ref (gAd G 29 0)), (3, .ref (gAd G 75 0)), (4, .int (iI x4))]) dL_law_591 hl (by decide) rfl (fun ls hl => ?_)
        refine lv_aload_n X.1 X.2.1 dL_law_593 rfl (lv_at hl.1 3 rfl) ?_
        refine lv_aload_n X.1 X.2.1 dL_law_594 rfl (lv_at hl.1 1 rfl) ?_
        refine lv_iload X.1 X.2.1 dL_law_595 (lv_at hl.1 5 rfl) ?_
        refine lv_iconst X.1 X.2.1 dL_law_597 (v := iI 1) rfl ?_
        refine g_iadd X dL_law_598 ?_
        obtain ⟨hg, hf_⟩ := og_e hf; clear hf; have hf := hf_; clear hf_
        refine g_sld X hX hbl hbA hS (nmI_w _) hg dL_law_599 ?_
        refine lv_aload_n X.1 X.2.1 dL_law_600 rfl (lv_at hl.1 1 rfl) ?_
        refine lv_iload X.1 X.2.1 dL_law_601 (lv_at hl.1 5 rfl) ?_
        refine lv_iconst X.1 X.2.1 dL_law_603 (v := iI 2) rfl ?_
        refine g_iadd X dL_law_604 ?_
        obtain ⟨hg, hf_⟩ := og_e hf; clear hf; have hf := hf_; clear hf_
        refine g_sld X hX hbl hbA hS (nmI_w _) hg dL_law_605 ?_
        obtain ⟨r606, hq606, hf_⟩ := ob_e hf; clear hf; have hf := hf_; clear hf_
        refine gGoI (gRunV X hH (As := [.int (iI (gXs xs (wI (x4 + 1)).toNat)), .int (iI (gXs xs (wI (x4 + 2)).toNat))]) (m_X12_copy l G (gXs xs (wI (x4 + 1)).toNat) (nmI_of _) (gXs xs (wI (x4 + 2)).toNat) (nmI_of _) r588.2 _ hq606) calX12_copy k_1429 k_1430 k_1428 (by decide) cX12 rfl ⟨by decide, by decide⟩ rfl hl rfl (Nat.le_of_ble_eq_true rfl) ⟨by show _ ≤ 609025; omega, by show _ ≤ 7269029; omega⟩ dL_law_606) hS (fun H locs nr606 hH hS => ?_)
        refine g_istore X (lv' := [(6, .int (iI r606.1)), (5, .int (iI r588.1)), (0, .ref b), (1, .ref (gAd G 0 0)), (2, .ref (gAd G 29 0)), (3, .ref (gAd G 75 0)), (4, .int (iI x4))]) dL_law_609 hl (by decide) rfl (fun ls hl => ?_)
        refine lv_aload_n X.1 X.2.1 dL_law_611 rfl (lv_at hl.1 4 rfl) ?_
        refine gGoI (gRunV X hH (As := []) (m_X12_thrown l G  r606.2 _ rfl) calX12_thrown k_1381 k_1382 k_1380 (by decide) cX12 rfl ⟨by decide, by decide⟩ rfl hl rfl (Nat.le_of_ble_eq_true rfl) ⟨by show _ ≤ 609025; omega, by show _ ≤ 7269029; omega⟩ dL_law_612) hS (fun H locs nr612 hH hS => ?_)
        refine lv_iload X.1 X.2.1 dL_law_615 (lv_at hl.1 1 rfl) ?_
        refine g_icmp_eq X nr612 nr588 (tgt := 622) dL_law_617 (by decide) (fun hc617 => ?_) (fun hc617 => ?_)
        · replace hf := it_t hf hc617
          refine lv_iload X.1 X.2.1 dL_law_622 (lv_at hl.1 1 rfl) ?_
          obtain ⟨k639, ek639, hf_⟩ := oj_e hf; clear hf; have hf := hf_; clear hf_
          have hk639 : k639 = some () → ∀ (H : Heap) (locs : List Loc) (ls : Array Slot) (ce sl : Nat), ce + 6 * n ≤ 609025 → sl + 36 * n ≤ 7269029 → gH G r606.2 H → va_S (gA G) s.heap H locs → gLv ls 7 [(0, .ref b), (1, .ref (gAd G 0 0)), (2, .ref (gAd G 29 0)), (3, .ref (gAd G 75 0)), (4, .int (iI x4))] → W p l e room_1 s m #[Value.ref b] below meth c H locs ce sl (lw_Z below #[Value.ref b] s) (F0 m 639 ls []) := by
            intro  hf H locs ls ce sl hce hsl hH hS hl
            subst ek639
            refine lv_goto (tgt := 1672) X.1 X.2.1 dL_law_639 (by decide) ?_
            exact hk1672 r606.2 hf _ _ _ _ _ (by omega) (by omega) hH hS (gLv_sub hl [0, 1, 2, 3, 4] rfl)
          clear ek639
          refine g_if_ne X nr588 (tgt := 639) dL_law_624 (by decide) (fun hc624 => ?_) (fun hc624 => ?_)
          · replace hf := it_f hf hc624
            exact hk639  hf _ _ _ _ _ (by omega) (by omega) hH hS (gLv_sub hl [2, 3, 4, 5, 6] rfl)
          · replace hf := it_t hf hc624
            refine lv_aload_n X.1 X.2.1 dL_law_627 rfl (lv_at hl.1 5 rfl) ?_
            refine lv_iconst X.1 X.2.1 dL_law_628 (v := iI 0) rfl ?_
            refine g_lald X hH dL_law_629 ?_
            have nd629 : nmI (r606.2 75 0 0) := hH.1.1 _ _ _
            refine lv_iload X.1 X.2.1 dL_law_630 (lv_at hl.1 0 rfl) ?_
            refine g_i2l X nr606 dL_law_632 ?_
            refine g_lcmp X nd629 nr606 dL_law_633 ?_
            refine g_if_eq X (nmI_cmp _ _) (tgt := 639) dL_law_634 (by decide) (fun hc634 => ?_) (fun hc634 => ?_)
            · replace hf := it_t hf hc634
              exact hk639  hf _ _ _ _ _ (by omega) (by omega) hH hS (gLv_sub hl [2, 3, 4, 5, 6] rfl)
            · replace hf := it_f hf hc634
              refine lv_iconst X.1 X.2.1 dL_law_637 (v := iI 0) rfl ?_
              cases hf
        · replace hf := it_f hf hc617
          refine lv_iconst X.1 X.2.1 dL_law_620 (v := iI 0) rfl ?_
          cases hf
      replace hf := it_f hf hs5
      by_cases hs6 : gAnd (gXs xs x4.toNat) 31 = 6
      · replace hf := it_t hf hs6
        refine lv_tableIn (tgt := 642) X.1 X.2.1 dL_law_40 (by rw [iI_T (nmI_and _ _)]; omega) (by rw [iI_T (nmI_and _ _)]; omega) (by rw [iI_T (nmI_and _ _), hs6]; rfl) (by decide) ?_
        refine lv_aload_n X.1 X.2.1 dL_law_642 rfl (lv_at hl.1 1 rfl) ?_
        refine lv_aload_n X.1 X.2.1 dL_law_643 rfl (lv_at hl.1 0 rfl) ?_
        refine lv_iload X.1 X.2.1 dL_law_644 (lv_at hl.1 4 rfl) ?_
        refine lv_iconst X.1 X.2.1 dL_law_646 (v := iI 1) rfl ?_
        refine g_iadd X dL_law_647 ?_
        obtain ⟨hg, hf_⟩ := og_e hf; clear hf; have hf := hf_; clear hf_
        refine g_sld X hX hbl hbA hS (nmI_w _) hg dL_law_648 ?_
        refine lv_aload_n X.1 X.2.1 dL_law_649 rfl (lv_at hl.1 0 rfl) ?_
        refine lv_iload X.1 X.2.1 dL_law_650 (lv_at hl.1 4 rfl) ?_
        refine lv_iconst X.1 X.2.1 dL_law_652 (v := iI 2) rfl ?_
        refine g_iadd X dL_law_653 ?_
        obtain ⟨hg, hf_⟩ := og_e hf; clear hf; have hf := hf_; clear hf_
        refine g_sld X hX hbl hbA hS (nmI_w _) hg dL_law_654 ?_
        refine lv_aload_n X.1 X.2.1 dL_law_655 rfl (lv_at hl.1 3 rfl) ?_
        obtain ⟨r656, hq656, hf_⟩ := ob_e hf; clear hf; have hf := hf_; clear hf_
        refine gGoL (gRunLX X Z hH hS (a := 4) (As := [.ref (gAd G 0 0), .int (iI (gXs xs (wI (x4 + 1)).toNat)), .int (iI (gXs xs (wI (x4 + 2)).toNat)), .ref (gAd G 75 0)]) (m_L_setPower l hl0 G (gXs xs (wI (x4 + 1)).toNat) (nmI_of _) (gXs xs (wI (x4 + 2)).toNat) (nmI_of _) M _ hq656) k_736 k_64 ⟨by decide, by decide⟩ (by decide +kernel) k_735 k_734 ⟨by decide, by decide⟩ rfl hl rfl (Nat.le_of_ble_eq_true rfl) ⟨by show _ ≤ 609025; omega, by show _ ≤ 7269029; omega⟩ dL_law_656) hS (fun H locs nr656 hH hS => ?_)
        refine g_istore X (lv' := [(5, .int (iI r656.1)), (0, .ref b), (1, .ref (gAd G 0 0)), (2, .ref (gAd G 29 0)), (3, .ref (gAd G 75 0)), (4, .int (iI x4))]) dL_law_659 hl (by decide) rfl (fun ls hl => ?_)
        refine lv_aload_n X.1 X.2.1 dL_law_661 rfl (lv_at hl.1 3 rfl) ?_
        refine lv_aload_n X.1 X.2.1 dL_law_662 rfl (lv_at hl.1 1 rfl) ?_
        refine lv_iload X.1 X.2.1 dL_law_663 (lv_at hl.1 5 rfl) ?_
        refine lv_iconst X.1 X.2.1 dL_law_665 (v := iI 1) rfl ?_
        refine g_iadd X dL_law_666 ?_
        obtain ⟨hg, hf_⟩ := og_e hf; clear hf; have hf := hf_; clear hf_
        refine g_sld X hX hbl hbA hS (nmI_w _) hg dL_law_667 ?_
        refine lv_aload_n X.1 X.2.1 dL_law_668 rfl (lv_at hl.1 1 rfl) ?_
        refine lv_iload X.1 X.2.1 dL_law_669 (lv_at hl.1 5 rfl) ?_
        refine lv_iconst X.1 X.2.1 dL_law_671 (v := iI 2) rfl ?_
        refine g_iadd X dL_law_672 ?_
        obtain ⟨hg, hf_⟩ := og_e hf; clear hf; have hf := hf_; clear hf_
        refine g_sld X hX hbl hbA hS (nmI_w _) hg dL_law_673 ?_
        obtain ⟨r674, hq674, hf_⟩ := ob_e hf; clear hf; have hf := hf_; clear hf_
        refine gGoI (gRunV X hH (As := [.int (iI (gXs xs (wI (x4 + 1)).toNat)), .int (iI (gXs xs (wI (x4 + 2)).toNat))]) (m_X12_setPower l G (gXs xs (wI (x4 + 1)).toNat) (nmI_of _) (gXs xs (wI (x4 + 2)).toNat) (nmI_of _) r656.2 _ hq674) calX12_setPower k_1462 k_1463 k_1461 (by decide) cX12 rfl ⟨by decide, by decide⟩ rfl hl rfl (Nat.le_of_ble_eq_true rfl) ⟨by show _ ≤ 609025; omega, by show _ ≤ 7269029; omega⟩ dL_law_674) hS (fun H locs nr674 hH hS => ?_)
        refine g_istore X (lv' := [(6, .int (iI r674.1)), (5, .int (iI r656.1)), (0, .ref b), (1, .ref (gAd G 0 0)), (2, .ref (gAd G 29 0)), (3, .ref (gAd G 75 0)), (4, .int (iI x4))]) dL_law_677 hl (by decide) rfl (fun ls hl => ?_)
        refine lv_aload_n X.1 X.2.1 dL_law_679 rfl (lv_at hl.1 4 rfl) ?_
        refine gGoI (gRunV X hH (As := []) (m_X12_thrown l G  r674.2 _ rfl) calX12_thrown k_1381 k_1382 k_1380 (by decide) cX12 rfl ⟨by decide, by decide⟩ rfl hl rfl (Nat.le_of_ble_eq_true rfl) ⟨by show _ ≤ 609025; omega, by show _ ≤ 7269029; omega⟩ dL_law_680) hS (fun H locs nr680 hH hS => ?_)
        refine lv_iload X.1 X.2.1 dL_law_683 (lv_at hl.1 1 rfl) ?_
        refine g_icmp_eq X nr680 nr656 (tgt := 690) dL_law_685 (by decide) (fun hc685 => ?_) (fun hc685 => ?_)
        · replace hf := it_t hf hc685
          refine lv_iload X.1 X.2.1 dL_law_690 (lv_at hl.1 1 rfl) ?_
          obtain ⟨k707, ek707, hf_⟩ := oj_e hf; clear hf; have hf := hf_; clear hf_
          have hk707 : k707 = some () → ∀ (H : Heap) (locs : List Loc) (ls : Array Slot) (ce sl : Nat), ce + 6 * n ≤ 609025 → sl + 36 * n ≤ 7269029 → gH G r674.2 H → va_S (gA G) s.heap H locs → gLv ls 7 [(0, .ref b), (1, .ref (gAd G 0 0)), (2, .ref (gAd G 29 0)), (3, .ref (gAd G 75 0)), (4, .int (iI x4))] → W p l e room_1 s m #[Value.ref b] below meth c H locs ce sl (lw_Z below #[Value.ref b] s) (F0 m 707 ls []) := by
            intro  hf H locs ls ce sl hce hsl hH hS hl
            subst ek707
            refine lv_goto (tgt := 1672) X.1 X.2.1 dL_law_707 (by decide) ?_
            exact hk1672 r674.2 hf _ _ _ _ _ (by omega) (by omega) hH hS (gLv_sub hl [0, 1, 2, 3, 4] rfl)
          clear ek707
          refine g_if_ne X nr656 (tgt := 707) dL_law_692 (by decide) (fun hc692 => ?_) (fun hc692 => ?_)
          · replace hf := it_f hf hc692
            exact hk707  hf _ _ _ _ _ (by omega) (by omega) hH hS (gLv_sub hl [2, 3, 4, 5, 6] rfl)
          · replace hf := it_t hf hc692
            refine lv_aload_n X.1 X.2.1 dL_law_695 rfl (lv_at hl.1 5 rfl) ?_
            refine lv_iconst X.1 X.2.1 dL_law_696 (v := iI 0) rfl ?_
            refine g_lald X hH dL_law_697 ?_
            have nd697 : nmI (r674.2 75 0 0) := hH.1.1 _ _ _
            refine lv_iload X.1 X.2.1 dL_law_698 (lv_at hl.1 0 rfl) ?_
            refine g_i2l X nr674 dL_law_700 ?_
            refine g_lcmp X nd697 nr674 dL_law_701 ?_
            refine g_if_eq X (nmI_cmp _ _) (tgt := 707) dL_law_702 (by decide) (fun hc702 => ?_) (fun hc702 => ?_)
            · replace hf := it_t hf hc702
              exact hk707  hf _ _ _ _ _ (by omega) (by omega) hH hS (gLv_sub hl [2, 3, 4, 5, 6] rfl)
            · replace hf := it_f hf hc702
              refine lv_iconst X.1 X.2.1 dL_law_705 (v := iI 0) rfl ?_
              cases hf
        · replace hf := it_f hf hc685
          refine lv_iconst X.1 X.2.1 dL_law_688 (v := iI 0) rfl ?_
          cases hf
      replace hf := it_f hf hs6
      by_cases hs7 : gAnd (gXs xs x4.toNat) 31 = 7
      · replace hf := it_t hf hs7
        refine lv_tableIn (tgt := 710) X.1 X.2.1 dL_law_40 (by rw [iI_T (nmI_and _ _)]; omega) (by rw [iI_T (nmI_and _ _)]; omega) (by rw [iI_T (nmI_and _ _), hs7]; rfl) (by decide) ?_
        refine lv_aload_n X.1 X.2.1 dL_law_710 rfl (lv_at hl.1 1 rfl) ?_
        refine lv_aload_n X.1 X.2.1 dL_law_711 rfl (lv_at hl.1 0 rfl) ?_
        refine lv_iload X.1 X.2.1 dL_law_712 (lv_at hl.1 4 rfl) ?_
        refine lv_iconst X.1 X.2.1 dL_law_714 (v := iI 1) rfl ?_
        refine g_iadd X dL_law_715 ?_
        obtain ⟨hg, hf_⟩ := og_e hf; clear hf; have hf := hf_; clear hf_
        refine g_sld X hX hbl hbA hS (nmI_w _) hg dL_law_716 ?_
        obtain ⟨k725, ek725, hf_⟩ := oj_e hf; clear hf; have hf := hf_; clear hf_
        have hk725 : ∀ (xs1_725 : Int) (bxs1_725 : xs1_725 = 0 ∨ xs1_725 = 1), k725 xs1_725 = some () → ∀ (H : Heap) (locs : List Loc) (ls : Array Slot) (ce sl : Nat), ce + 6 * n ≤ 609025 → sl + 36 * n ≤ 7269029 → gH G M H → va_S (gA G) s.heap H locs → gLv ls 7 [(0, .ref b), (1, .ref (gAd G 0 0)), (2, .ref (gAd G 29 0)), (3, .ref (gAd G 75 0)), (4, .int (iI x4))] → W p l e room_1 s m #[Value.ref b] below meth c H locs ce sl (lw_Z below #[Value.ref b] s) (F0 m 725 ls [.int (iI xs1_725), .ref (gAd G 0 0)]) := by
          intro xs1_725 bxs1_725 hf H locs ls ce sl hce hsl hH hS hl
          subst ek725
          refine lv_aload_n X.1 X.2.1 dL_law_725 rfl (lv_at hl.1 0 rfl) ?_
          refine lv_iload X.1 X.2.1 dL_law_726 (lv_at hl.1 4 rfl) ?_
          refine lv_iconst X.1 X.2.1 dL_law_728 (v := iI 2) rfl ?_
          refine g_iadd X dL_law_729 ?_
          obtain ⟨hg, hf_⟩ := og_e hf; clear hf; have hf := hf_; clear hf_
          refine g_sld X hX hbl hbA hS (nmI_w _) hg dL_law_730 ?_
          obtain ⟨k739, ek739, hf_⟩ := oj_e hf; clear hf; have hf := hf_; clear hf_
          have hk739 : ∀ (xs2_739 : Int) (bxs2_739 : xs2_739 = 0 ∨ xs2_739 = 1), k739 xs2_739 = some () → ∀ (H : Heap) (locs : List Loc) (ls : Array Slot) (ce sl : Nat), ce + 6 * n ≤ 609025 → sl + 36 * n ≤ 7269029 → gH G M H → va_S (gA G) s.heap H locs → gLv ls 7 [(0, .ref b), (1, .ref (gAd G 0 0)), (2, .ref (gAd G 29 0)), (3, .ref (gAd G 75 0)), (4, .int (iI x4))] → W p l e room_1 s m #[Value.ref b] below meth c H locs ce sl (lw_Z below #[Value.ref b] s) (F0 m 739 ls [.int (iI xs2_739), .int (iI xs1_725), .ref (gAd G 0 0)]) := by
            intro xs2_739 bxs2_739 hf H locs ls ce sl hce hsl hH hS hl
            subst ek739
            refine gGoV (gRunV X hH (As := [.int (iI xs1_725), .int (iI xs2_739)]) (m_X11_setWays l G xs1_725 bxs1_725 xs2_739 bxs2_739 M _ rfl) calX11_setWays k_501 k_502 k_500 (by decide) cX11 rfl ⟨by decide, by decide⟩ rfl hl rfl (Nat.le_of_ble_eq_true rfl) ⟨by show _ ≤ 609025; omega, by show _ ≤ 7269029; omega⟩ dL_law_739) hS (fun H locs hH hS => ?_)
            refine lv_aload_n X.1 X.2.1 dL_law_742 rfl (lv_at hl.1 2 rfl) ?_
            refine lv_aload_n X.1 X.2.1 dL_law_743 rfl (lv_at hl.1 0 rfl) ?_
            refine lv_iload X.1 X.2.1 dL_law_744 (lv_at hl.1 4 rfl) ?_
            refine lv_iconst X.1 X.2.1 dL_law_746 (v := iI 1) rfl ?_
            refine g_iadd X dL_law_747 ?_
            obtain ⟨hg, hf_⟩ := og_e hf; clear hf; have hf := hf_; clear hf_
            refine g_sld X hX hbl hbA hS (nmI_w _) hg dL_law_748 ?_
            obtain ⟨k757, ek757, hf_⟩ := oj_e hf; clear hf; have hf := hf_; clear hf_
            have hk757 : ∀ (xs1_757 : Int) (bxs1_757 : xs1_757 = 0 ∨ xs1_757 = 1), k757 xs1_757 = some () → ∀ (H : Heap) (locs : List Loc) (ls : Array Slot) (ce sl : Nat), ce + 6 * n ≤ 609025 → sl + 36 * n ≤ 7269029 → gH G ((f_X11_setWays xs1_725 xs2_739 M)) H → va_S (gA G) s.heap H locs → gLv ls 7 [(0, .ref b), (1, .ref (gAd G 0 0)), (2, .ref (gAd G 29 0)), (3, .ref (gAd G 75 0)), (4, .int (iI x4))] → W p l e room_1 s m #[Value.ref b] below meth c H locs ce sl (lw_Z below #[Value.ref b] s) (F0 m 757 ls [.int (iI xs1_757), .ref (gAd G 29 0)]) := by
              intro xs1_757 bxs1_757 hf H locs ls ce sl hce hsl hH hS hl
              subst ek757
              refine lv_aload_n X.1 X.2.1 dL_law_757 rfl (lv_at hl.1 0 rfl) ?_
              refine lv_iload X.1 X.2.1 dL_law_758 (lv_at hl.1 4 rfl) ?_
              refine lv_iconst X.1 X.2.1 dL_law_760 (v := iI 2) rfl ?_
              refine g_iadd X dL_law_761 ?_
              obtain ⟨hg, hf_⟩ := og_e hf; clear hf; have hf := hf_; clear hf_
              refine g_sld X hX hbl hbA hS (nmI_w _) hg dL_law_762 ?_
              obtain ⟨k771, ek771, hf_⟩ := oj_e hf; clear hf; have hf := hf_; clear hf_
              have hk771 : ∀ (xs2_771 : Int) (bxs2_771 : xs2_771 = 0 ∨ xs2_771 = 1), k771 xs2_771 = some () → ∀ (H : Heap) (locs : List Loc) (ls : Array Slot) (ce sl : Nat), ce + 6 * n ≤ 609025 → sl + 36 * n ≤ 7269029 → gH G ((f_X11_setWays xs1_725 xs2_739 M)) H → va_S (gA G) s.heap H locs → gLv ls 7 [(0, .ref b), (1, .ref (gAd G 0 0)), (2, .ref (gAd G 29 0)), (3, .ref (gAd G 75 0)), (4, .int (iI x4))] → W p l e room_1 s m #[Value.ref b] below meth c H locs ce sl (lw_Z below #[Value.ref b] s) (F0 m 771 ls [.int (iI xs2_771), .int (iI xs1_757), .ref (gAd G 29 0)]) := by
                intro xs2_771 bxs2_771 hf H locs ls ce sl hce hsl hH hS hl
                subst ek771
                refine gGoV (gRunV X hH (As := [.int (iI xs1_757), .int (iI xs2_771)]) (m_X12_setWays l G xs1_757 bxs1_757 xs2_771 bxs2_771 ((f_X11_setWays xs1_725 xs2_739 M)) _ rfl) calX12_setWays k_1470 k_1471 k_1469 (by decide) cX12 rfl ⟨by decide, by decide⟩ rfl hl rfl (Nat.le_of_ble_eq_true rfl) ⟨by show _ ≤ 609025; omega, by show _ ≤ 7269029; omega⟩ dL_law_771) hS (fun H locs hH hS => ?_)
                refine lv_goto (tgt := 1672) X.1 X.2.1 dL_law_774 (by decide) ?_
                exact hk1672 ((f_X12_setWays xs1_757 xs2_771 ((f_X11_setWays xs1_725 xs2_739 M)))) hf _ _ _ _ _ (by omega) (by omega) hH hS (gLv_sub hl [0, 1, 2, 3, 4] rfl)
              clear ek771
              refine g_if_eq X (nmI_of _) (tgt := 770) dL_law_763 (by decide) (fun hc763 => ?_) (fun hc763 => ?_)
              · replace hf := it_t hf hc763
                refine lv_iconst X.1 X.2.1 dL_law_770 (v := iI 0) rfl ?_
                exact hk771 0 (by decide) hf _ _ _ _ _ (by omega) (by omega) hH hS (gLv_sub hl [0, 1, 2, 3, 4] rfl)
              · replace hf := it_f hf hc763
                refine lv_iconst X.1 X.2.1 dL_law_766 (v := iI 1) rfl ?_
                refine lv_goto (tgt := 771) X.1 X.2.1 dL_law_767 (by decide) ?_
                exact hk771 1 (by decide) hf _ _ _ _ _ (by omega) (by omega) hH hS (gLv_sub hl [0, 1, 2, 3, 4] rfl)
            clear ek757
            refine g_if_eq X (nmI_of _) (tgt := 756) dL_law_749 (by decide) (fun hc749 => ?_) (fun hc749 => ?_)
            · replace hf := it_t hf hc749
              refine lv_iconst X.1 X.2.1 dL_law_756 (v := iI 0) rfl ?_
              exact hk757 0 (by decide) hf _ _ _ _ _ (by omega) (by omega) hH hS (gLv_sub hl [0, 1, 2, 3, 4] rfl)
            · replace hf := it_f hf hc749
              refine lv_iconst X.1 X.2.1 dL_law_752 (v := iI 1) rfl ?_
              refine lv_goto (tgt := 757) X.1 X.2.1 dL_law_753 (by decide) ?_
              exact hk757 1 (by decide) hf _ _ _ _ _ (by omega) (by omega) hH hS (gLv_sub hl [0, 1, 2, 3, 4] rfl)
          clear ek739
          refine g_if_eq X (nmI_of _) (tgt := 738) dL_law_731 (by decide) (fun hc731 => ?_) (fun hc731 => ?_)
          · replace hf := it_t hf hc731
            refine lv_iconst X.1 X.2.1 dL_law_738 (v := iI 0) rfl ?_
            exact hk739 0 (by decide) hf _ _ _ _ _ (by omega) (by omega) hH hS (gLv_sub hl [0, 1, 2, 3, 4] rfl)
          · replace hf := it_f hf hc731
            refine lv_iconst X.1 X.2.1 dL_law_734 (v := iI 1) rfl ?_
            refine lv_goto (tgt := 739) X.1 X.2.1 dL_law_735 (by decide) ?_
            exact hk739 1 (by decide) hf _ _ _ _ _ (by omega) (by omega) hH hS (gLv_sub hl [0, 1, 2, 3, 4] rfl)
        clear ek725
        refine g_if_eq X (nmI_of _) (tgt := 724) dL_law_717 (by decide) (fun hc717 => ?_) (fun hc717 => ?_)
        · replace hf := it_t hf hc717
          refine lv_iconst X.1 X.2.1 dL_law_724 (v := iI 0) rfl ?_
          exact hk725 0 (by decide) hf _ _ _ _ _ (by omega) (by omega) hH hS (gLv_sub hl [0, 1, 2, 3, 4] rfl)
        · replace hf := it_f hf hc717
          refine lv_iconst X.1 X.2.1 dL_law_720 (v := iI 1) rfl ?_
          refine lv_goto (tgt := 725) X.1 X.2.1 dL_law_721 (by decide) ?_
          exact hk725 1 (by decide) hf _ _ _ _ _ (by omega) (by omega) hH hS (gLv_sub hl [0, 1, 2, 3, 4] rfl)
      replace hf := it_f hf hs7
      by_cases hs8 : gAnd (gXs xs x4.toNat) 31 = 8
      · replace hf := it_t hf hs8
        refine lv_tableIn (tgt := 777) X.1 X.2.1 dL_law_40 (by rw [iI_T (nmI_and _ _)]; omega) (by rw [iI_T (nmI_and _ _)]; omega) (by rw [iI_T (nmI_and _ _), hs8]; rfl) (by decide) ?_
        refine lv_aload_n X.1 X.2.1 dL_law_777 rfl (lv_at hl.1 1 rfl) ?_
        refine gGoI (gRunV X hH (As := []) (m_X11_entries l G  M _ rfl) calX11_entries k_505 k_506 k_504 (by decide) cX11 rfl ⟨by decide, by decide⟩ rfl hl rfl (Nat.le_of_ble_eq_true rfl) ⟨by show _ ≤ 609025; omega, by show _ ≤ 7269029; omega⟩ dL_law_778) hS (fun H locs nr778 hH hS => ?_)
        refine lv_aload_n X.1 X.2.1 dL_law_781 rfl (lv_at hl.1 2 rfl) ?_
        refine gGoI (gRunV X hH (As := []) (m_X12_entries l G  M _ rfl) calX12_entries k_1433 k_1434 k_1432 (by decide) cX12 rfl ⟨by decide, by decide⟩ rfl hl rfl (Nat.le_of_ble_eq_true rfl) ⟨by show _ ≤ 609025; omega, by show _ ≤ 7269029; omega⟩ dL_law_782) hS (fun H locs nr782 hH hS => ?_)
        refine g_icmp_eq X nr778 nr782 (tgt := 1672) dL_law_785 (by decide) (fun hc785 => ?_) (fun hc785 => ?_)
        · replace hf := it_t hf hc785
          exact hk1672 ((f_X12_entries M).2) hf _ _ _ _ _ (by omega) (by omega) hH hS (gLv_sub hl [0, 1, 2, 3, 4] rfl)
        · replace hf := it_f hf hc785
          refine lv_iconst X.1 X.2.1 dL_law_788 (v := iI 0) rfl ?_
          cases hf
      replace hf := it_f hf hs8
      by_cases hs9 : gAnd (gXs xs x4.toNat) 31 = 9
      · replace hf := it_t hf hs9
        refine lv_tableIn (tgt := 790) X.1 X.2.1 dL_law_40 (by rw [iI_T (nmI_and _ _)]; omega) (by rw [iI_T (nmI_and _ _)]; omega) (by rw [iI_T (nmI_and _ _), hs9]; rfl) (by decide) ?_
        refine lv_aload_n X.1 X.2.1 dL_law_790 rfl (lv_at hl.1 1 rfl) ?_
        refine lv_aload_n X.1 X.2.1 dL_law_791 rfl (lv_at hl.1 0 rfl) ?_
        refine lv_iload X.1 X.2.1 dL_law_792 (lv_at hl.1 4 rfl) ?_
        refine lv_iconst X.1 X.2.1 dL_law_794 (v := iI 1) rfl ?_
        refine g_iadd X dL_law_795 ?_
        obtain ⟨hg, hf_⟩ := og_e hf; clear hf; have hf := hf_; clear hf_
        refine g_sld X hX hbl hbA hS (nmI_w _) hg dL_law_796 ?_
        refine lv_aload_n X.1 X.2.1 dL_law_797 rfl (lv_at hl.1 0 rfl) ?_
        refine lv_iload X.1 X.2.1 dL_law_798 (lv_at hl.1 4 rfl) ?_
        refine lv_iconst X.1 X.2.1 dL_law_800 (v := iI 2) rfl ?_
        refine g_iadd X dL_law_801 ?_
        obtain ⟨hg, hf_⟩ := og_e hf; clear hf; have hf := hf_; clear hf_
        refine g_sld X hX hbl hbA hS (nmI_w _) hg dL_law_802 ?_
        refine lv_aload_n X.1 X.2.1 dL_law_803 rfl (lv_at hl.1 3 rfl) ?_
        obtain ⟨r804, hq804, hf_⟩ := ob_e hf; clear hf; have hf := hf_; clear hf_
        refine gGoL (gRunLX X Z hH hS (a := 4) (As := [.ref (gAd G 0 0), .int (iI (gXs xs (wI (x4 + 1)).toNat)), .int (iI (gXs xs (wI (x4 + 2)).toNat)), .ref (gAd G 75 0)]) (m_L_entry l hl0 G (gXs xs (wI (x4 + 1)).toNat) (nmI_of _) (gXs xs (wI (x4 + 2)).toNat) (nmI_of _) M _ hq804) k_765 k_64 ⟨by decide, by decide⟩ (by decide +kernel) k_764 k_763 ⟨by decide, by decide⟩ rfl hl rfl (Nat.le_of_ble_eq_true rfl) ⟨by show _ ≤ 609025; omega, by show _ ≤ 7269029; omega⟩ dL_law_804) hS (fun H locs nr804 hH hS => ?_)
        refine g_istore X (lv' := [(5, .int (iI r804.1)), (0, .ref b), (1, .ref (gAd G 0 0)), (2, .ref (gAd G 29 0)), (3, .ref (gAd G 75 0)), (4, .int (iI x4))]) dL_law_807 hl (by decide) rfl (fun ls hl => ?_)
        refine lv_aload_n X.1 X.2.1 dL_law_809 rfl (lv_at hl.1 3 rfl) ?_
        refine lv_aload_n X.1 X.2.1 dL_law_810 rfl (lv_at hl.1 1 rfl) ?_
        refine lv_iload X.1 X.2.1 dL_law_811 (lv_at hl.1 5 rfl) ?_
        refine lv_iconst X.1 X.2.1 dL_law_813 (v := iI 1) rfl ?_
        refine g_iadd X dL_law_814 ?_
        obtain ⟨hg, hf_⟩ := og_e hf; clear hf; have hf := hf_; clear hf_
        refine g_sld X hX hbl hbA hS (nmI_w _) hg dL_law_815 ?_
        refine lv_aload_n X.1 X.2.1 dL_law_816 rfl (lv_at hl.1 1 rfl) ?_
        refine lv_iload X.1 X.2.1 dL_law_817 (lv_at hl.1 5 rfl) ?_
        refine lv_iconst X.1 X.2.1 dL_law_819 (v := iI 2) rfl ?_
        refine g_iadd X dL_law_820 ?_
        obtain ⟨hg, hf_⟩ := og_e hf; clear hf; have hf := hf_; clear hf_
        refine g_sld X hX hbl hbA hS (nmI_w _) hg dL_law_821 ?_
        obtain ⟨r822, hq822, hf_⟩ := ob_e hf; clear hf; have hf := hf_; clear hf_
        refine gGoI (gRunV X hH (As := [.int (iI (gXs xs (wI (x4 + 1)).toNat)), .int (iI (gXs xs (wI (x4 + 2)).toNat))]) (m_X12_entry l G (gXs xs (wI (x4 + 1)).toNat) (nmI_of _) (gXs xs (wI (x4 + 2)).toNat) (nmI_of _) r804.2 _ hq822) calX12_entry k_1437 k_1438 k_1436 (by decide) cX12 rfl ⟨by decide, by decide⟩ rfl hl rfl (Nat.le_of_ble_eq_true rfl) ⟨by show _ ≤ 609025; omega, by show _ ≤ 7269029; omega⟩ dL_law_822) hS (fun H locs nr822 hH hS => ?_)
        refine g_istore X (lv' := [(6, .int (iI r822.1)), (5, .int (iI r804.1)), (0, .ref b), (1, .ref (gAd G 0 0)), (2, .ref (gAd G 29 0)), (3, .ref (gAd G 75 0)), (4, .int (iI x4))]) dL_law_825 hl (by decide) rfl (fun ls hl => ?_)
        refine lv_aload_n X.1 X.2.1 dL_law_827 rfl (lv_at hl.1 4 rfl) ?_
        refine gGoI (gRunV X hH (As := []) (m_X12_thrown l G  r822.2 _ rfl) calX12_thrown k_1381 k_1382 k_1380 (by decide) cX12 rfl ⟨by decide, by decide⟩ rfl hl rfl (Nat.le_of_ble_eq_true rfl) ⟨by show _ ≤ 609025; omega, by show _ ≤ 7269029; omega⟩ dL_law_828) hS (fun H locs nr828 hH hS => ?_)
        refine lv_iload X.1 X.2.1 dL_law_831 (lv_at hl.1 1 rfl) ?_
        refine g_icmp_eq X nr828 nr804 (tgt := 838) dL_law_833 (by decide) (fun hc833 => ?_) (fun hc833 => ?_)
        · replace hf := it_t hf hc833
          refine lv_iload X.1 X.2.1 dL_law_838 (lv_at hl.1 1 rfl) ?_
          obtain ⟨k855, ek855, hf_⟩ := oj_e hf; clear hf; have hf := hf_; clear hf_
          have hk855 : k855 = some () → ∀ (H : Heap) (locs : List Loc) (ls : Array Slot) (ce sl : Nat), ce + 6 * n ≤ 609025 → sl + 36 * n ≤ 7269029 → gH G r822.2 H → va_S (gA G) s.heap H locs → gLv ls 7 [(0, .ref b), (1, .ref (gAd G 0 0)), (2, .ref (gAd G 29 0)), (3, .ref (gAd G 75 0)), (4, .int (iI x4))] → W p l e room_1 s m #[Value.ref b] below meth c H locs ce sl (lw_Z below #[Value.ref b] s) (F0 m 855 ls []) := by
            intro  hf H locs ls ce sl hce hsl hH hS hl
            subst ek855
            refine lv_goto (tgt := 1672) X.1 X.2.1 dL_law_855 (by decide) ?_
            exact hk1672 r822.2 hf _ _ _ _ _ (by omega) (by omega) hH hS (gLv_sub hl [0, 1, 2, 3, 4] rfl)
          clear ek855
          refine g_if_ne X nr804 (tgt := 855) dL_law_840 (by decide) (fun hc840 => ?_) (fun hc840 => ?_)
          · replace hf := it_f hf hc840
            exact hk855  hf _ _ _ _ _ (by omega) (by omega) hH hS (gLv_sub hl [2, 3, 4, 5, 6] rfl)
          · replace hf := it_t hf hc840
            refine lv_aload_n X.1 X.2.1 dL_law_843 rfl (lv_at hl.1 5 rfl) ?_
            refine lv_iconst X.1 X.2.1 dL_law_844 (v := iI 0) rfl ?_
            refine g_lald X hH dL_law_845 ?_
            have nd845 : nmI (r822.2 75 0 0) := hH.1.1 _ _ _
            refine lv_iload X.1 X.2.1 dL_law_846 (lv_at hl.1 0 rfl) ?_
            refine g_i2l X nr822 dL_law_848 ?_
            refine g_lcmp X nd845 nr822 dL_law_849 ?_
            refine g_if_eq X (nmI_cmp _ _) (tgt := 855) dL_law_850 (by decide) (fun hc850 => ?_) (fun hc850 => ?_)
            · replace hf := it_t hf hc850
              exact hk855  hf _ _ _ _ _ (by omega) (by omega) hH hS (gLv_sub hl [2, 3, 4, 5, 6] rfl)
            · replace hf := it_f hf hc850
              refine lv_iconst X.1 X.2.1 dL_law_853 (v := iI 0) rfl ?_
              cases hf
        · replace hf := it_f hf hc833
          refine lv_iconst X.1 X.2.1 dL_law_836 (v := iI 0) rfl ?_
          cases hf
      replace hf := it_f hf hs9
      by_cases hs10 : gAnd (gXs xs x4.toNat) 31 = 10
      · replace hf := it_t hf hs10
        refine lv_tableIn (tgt := 858) X.1 X.2.1 dL_law_40 (by rw [iI_T (nmI_and _ _)]; omega) (by rw [iI_T (nmI_and _ _)]; omega) (by rw [iI_T (nmI_and _ _), hs10]; rfl) (by decide) ?_
        refine lv_aload_n X.1 X.2.1 dL_law_858 rfl (lv_at hl.1 1 rfl) ?_
        refine lv_aload_n X.1 X.2.1 dL_law_859 rfl (lv_at hl.1 0 rfl) ?_
        refine lv_iload X.1 X.2.1 dL_law_860 (lv_at hl.1 4 rfl) ?_
        refine lv_iconst X.1 X.2.1 dL_law_862 (v := iI 1) rfl ?_
        refine g_iadd X dL_law_863 ?_
        obtain ⟨hg, hf_⟩ := og_e hf; clear hf; have hf := hf_; clear hf_
        refine g_sld X hX hbl hbA hS (nmI_w _) hg dL_law_864 ?_
        refine lv_aload_n X.1 X.2.1 dL_law_865 rfl (lv_at hl.1 0 rfl) ?_
        refine lv_iload X.1 X.2.1 dL_law_866 (lv_at hl.1 4 rfl) ?_
        refine lv_iconst X.1 X.2.1 dL_law_868 (v := iI 2) rfl ?_
        refine g_iadd X dL_law_869 ?_
        obtain ⟨hg, hf_⟩ := og_e hf; clear hf; have hf := hf_; clear hf_
        refine g_sld X hX hbl hbA hS (nmI_w _) hg dL_law_870 ?_
        obtain ⟨r871, hq871, hf_⟩ := ob_e hf; clear hf; have hf := hf_; clear hf_
        refine gGoL (gRunLX X Z hH hS (a := 3) (As := [.ref (gAd G 0 0), .int (iI (gXs xs (wI (x4 + 1)).toNat)), .int (iI (gXs xs (wI (x4 + 2)).toNat))]) (m_L_lie l hl0 G (gXs xs (wI (x4 + 1)).toNat) (nmI_of _) (gXs xs (wI (x4 + 2)).toNat) (nmI_of _) M _ hq871) k_796 k_64 ⟨by decide, by decide⟩ (by decide +kernel) k_795 k_794 ⟨by decide, by decide⟩ rfl hl rfl (Nat.le_of_ble_eq_true rfl) ⟨by show _ ≤ 609025; omega, by show _ ≤ 7269029; omega⟩ dL_law_871) hS (fun H locs nr871 hH hS => ?_)
        refine g_istore X (lv' := [(5, .int (iI r871.1)), (0, .ref b), (1, .ref (gAd G 0 0)), (2, .ref (gAd G 29 0)), (3, .ref (gAd G 75 0)), (4, .int (iI x4))]) dL_law_874 hl (by decide) rfl (fun ls hl => ?_)
        refine lv_aload_n X.1 X.2.1 dL_law_876 rfl (lv_at hl.1 3 rfl) ?_
        refine lv_aload_n X.1 X.2.1 dL_law_877 rfl (lv_at hl.1 1 rfl) ?_
        refine lv_iload X.1 X.2.1 dL_law_878 (lv_at hl.1 5 rfl) ?_
        refine lv_iconst X.1 X.2.1 dL_law_880 (v := iI 1) rfl ?_
        refine g_iadd X dL_law_881 ?_
        obtain ⟨hg, hf_⟩ := og_e hf; clear hf; have hf := hf_; clear hf_
        refine g_sld X hX hbl hbA hS (nmI_w _) hg dL_law_882 ?_
        refine lv_aload_n X.1 X.2.1 dL_law_883 rfl (lv_at hl.1 1 rfl) ?_
        refine lv_iload X.1 X.2.1 dL_law_884 (lv_at hl.1 5 rfl) ?_
        refine lv_iconst X.1 X.2.1 dL_law_886 (v := iI 2) rfl ?_
        refine g_iadd X dL_law_887 ?_
        obtain ⟨hg, hf_⟩ := og_e hf; clear hf; have hf := hf_; clear hf_
        refine g_sld X hX hbl hbA hS (nmI_w _) hg dL_law_888 ?_
        obtain ⟨r889, hq889, hf_⟩ := ob_e hf; clear hf; have hf := hf_; clear hf_
        refine gGoV (gRunV X hH (As := [.int (iI (gXs xs (wI (x4 + 1)).toNat)), .int (iI (gXs xs (wI (x4 + 2)).toNat))]) (m_X12_lie l G (gXs xs (wI (x4 + 1)).toNat) (nmI_of _) (gXs xs (wI (x4 + 2)).toNat) (nmI_of _) r871.2 _ hq889) calX12_lie k_1453 k_1454 k_1452 (by decide) cX12 rfl ⟨by decide, by decide⟩ rfl hl rfl (Nat.le_of_ble_eq_true rfl) ⟨by show _ ≤ 609025; omega, by show _ ≤ 7269029; omega⟩ dL_law_889) hS (fun H locs hH hS => ?_)
        refine lv_aload_n X.1 X.2.1 dL_law_892 rfl (lv_at hl.1 3 rfl) ?_
        refine gGoI (gRunV X hH (As := []) (m_X12_thrown l G  r889 _ rfl) calX12_thrown k_1381 k_1382 k_1380 (by decide) cX12 rfl ⟨by decide, by decide⟩ rfl hl rfl (Nat.le_of_ble_eq_true rfl) ⟨by show _ ≤ 609025; omega, by show _ ≤ 7269029; omega⟩ dL_law_893) hS (fun H locs nr893 hH hS => ?_)
        refine lv_iload X.1 X.2.1 dL_law_896 (lv_at hl.1 0 rfl) ?_
        refine g_icmp_eq X nr893 nr871 (tgt := 903) dL_law_898 (by decide) (fun hc898 => ?_) (fun hc898 => ?_)
        · replace hf := it_t hf hc898
          refine lv_goto (tgt := 1672) X.1 X.2.1 dL_law_903 (by decide) ?_
          exact hk1672 r889 hf _ _ _ _ _ (by omega) (by omega) hH hS (gLv_sub hl [1, 2, 3, 4, 5] rfl)
        · replace hf := it_f hf hc898
          refine lv_iconst X.1 X.2.1 dL_law_901 (v := iI 0) rfl ?_
          cases hf
      replace hf := it_f hf hs10
      by_cases hs11 : gAnd (gXs xs x4.toNat) 31 = 11
      · replace hf := it_t hf hs11
        refine lv_tableIn (tgt := 906) X.1 X.2.1 dL_law_40 (by rw [iI_T (nmI_and _ _)]; omega) (by rw [iI_T (nmI_and _ _)]; omega) (by rw [iI_T (nmI_and _ _), hs11]; rfl) (by decide) ?_
        refine lv_aload_n X.1 X.2.1 dL_law_906 rfl (lv_at hl.1 1 rfl) ?_
        refine lv_aload_n X.1 X.2.1 dL_law_907 rfl (lv_at hl.1 0 rfl) ?_
        refine lv_iload X.1 X.2.1 dL_law_908 (lv_at hl.1 4 rfl) ?_
        refine lv_iconst X.1 X.2.1 dL_law_910 (v := iI 1) rfl ?_
        refine g_iadd X dL_law_911 ?_
        obtain ⟨hg, hf_⟩ := og_e hf; clear hf; have hf := hf_; clear hf_
        refine g_sld X hX hbl hbA hS (nmI_w _) hg dL_law_912 ?_
        refine lv_aload_n X.1 X.2.1 dL_law_913 rfl (lv_at hl.1 3 rfl) ?_
        obtain ⟨r914, hq914, hf_⟩ := ob_e hf; clear hf; have hf := hf_; clear hf_
        refine gGoL (gRunLX X Z hH hS (a := 3) (As := [.ref (gAd G 0 0), .int (iI (gXs xs (wI (x4 + 1)).toNat)), .ref (gAd G 75 0)]) (m_L_lose l hl0 G (gXs xs (wI (x4 + 1)).toNat) (nmI_of _) M _ hq914) k_804 k_64 ⟨by decide, by decide⟩ (by decide +kernel) k_803 k_802 ⟨by decide, by decide⟩ rfl hl rfl (Nat.le_of_ble_eq_true rfl) ⟨by show _ ≤ 609025; omega, by show _ ≤ 7269029; omega⟩ dL_law_914) hS (fun H locs nr914 hH hS => ?_)
        refine g_istore X (lv' := [(5, .int (iI r914.1)), (0, .ref b), (1, .ref (gAd G 0 0)), (2, .ref (gAd G 29 0)), (3, .ref (gAd G 75 0)), (4, .int (iI x4))]) dL_law_917 hl (by decide) rfl (fun ls hl => ?_)
        refine lv_aload_n X.1 X.2.1 dL_law_919 rfl (lv_at hl.1 3 rfl) ?_
        refine lv_aload_n X.1 X.2.1 dL_law_920 rfl (lv_at hl.1 1 rfl) ?_
        refine lv_iload X.1 X.2.1 dL_law_921 (lv_at hl.1 5 rfl) ?_
        refine lv_iconst X.1 X.2.1 dL_law_923 (v := iI 1) rfl ?_
        refine g_iadd X dL_law_924 ?_
        obtain ⟨hg, hf_⟩ := og_e hf; clear hf; have hf := hf_; clear hf_
        refine g_sld X hX hbl hbA hS (nmI_w _) hg dL_law_925 ?_
        obtain ⟨r926, hq926, hf_⟩ := ob_e hf; clear hf; have hf := hf_; clear hf_
        refine gGoZ (gRunV X hH (As := [.int (iI (gXs xs (wI (x4 + 1)).toNat))]) (m_X12_lose l G (gXs xs (wI (x4 + 1)).toNat) (nmI_of _) r914.2 _ hq926) calX12_lose k_1458 k_1459 k_1457 (by decide) cX12 rfl ⟨by decide, by decide⟩ rfl hl rfl (Nat.le_of_ble_eq_true rfl) ⟨by show _ ≤ 609025; omega, by show _ ≤ 7269029; omega⟩ dL_law_926) hS (fun H locs br926 hH hS => ?_)
        refine g_istore X (lv' := [(6, .int (iI r926.1)), (5, .int (iI r914.1)), (0, .ref b), (1, .ref (gAd G 0 0)), (2, .ref (gAd G 29 0)), (3, .ref (gAd G 75 0)), (4, .int (iI x4))]) dL_law_929 hl (by decide) rfl (fun ls hl => ?_)
        refine lv_aload_n X.1 X.2.1 dL_law_931 rfl (lv_at hl.1 4 rfl) ?_
        refine gGoI (gRunV X hH (As := []) (m_X12_thrown l G  r926.2 _ rfl) calX12_thrown k_1381 k_1382 k_1380 (by decide) cX12 rfl ⟨by decide, by decide⟩ rfl hl rfl (Nat.le_of_ble_eq_true rfl) ⟨by show _ ≤ 609025; omega, by show _ ≤ 7269029; omega⟩ dL_law_932) hS (fun H locs nr932 hH hS => ?_)
        refine lv_iload X.1 X.2.1 dL_law_935 (lv_at hl.1 1 rfl) ?_
        refine g_icmp_eq X nr932 nr914 (tgt := 942) dL_law_937 (by decide) (fun hc937 => ?_) (fun hc937 => ?_)
        · replace hf := it_t hf hc937
          refine lv_iload X.1 X.2.1 dL_law_942 (lv_at hl.1 1 rfl) ?_
          obtain ⟨k966, ek966, hf_⟩ := oj_e hf; clear hf; have hf := hf_; clear hf_
          have hk966 : k966 = some () → ∀ (H : Heap) (locs : List Loc) (ls : Array Slot) (ce sl : Nat), ce + 6 * n ≤ 609025 → sl + 36 * n ≤ 7269029 → gH G r926.2 H → va_S (gA G) s.heap H locs → gLv ls 7 [(0, .ref b), (1, .ref (gAd G 0 0)), (2, .ref (gAd G 29 0)), (3, .ref (gAd G 75 0)), (4, .int (iI x4))] → W p l e room_1 s m #[Value.ref b] below meth c H locs ce sl (lw_Z below #[Value.ref b] s) (F0 m 966 ls []) := by
            intro  hf H locs ls ce sl hce hsl hH hS hl
            subst ek966
            refine lv_goto (tgt := 1672) X.1 X.2.1 dL_law_966 (by decide) ?_
            exact hk1672 r926.2 hf _ _ _ _ _ (by omega) (by omega) hH hS (gLv_sub hl [0, 1, 2, 3, 4] rfl)
          clear ek966
          refine g_if_ne X nr914 (tgt := 966) dL_law_944 (by decide) (fun hc944 => ?_) (fun hc944 => ?_)
          · replace hf := it_f hf hc944
            exact hk966  hf _ _ _ _ _ (by omega) (by omega) hH hS (gLv_sub hl [2, 3, 4, 5, 6] rfl)
          · replace hf := it_t hf hc944
            refine lv_aload_n X.1 X.2.1 dL_law_947 rfl (lv_at hl.1 5 rfl) ?_
            refine lv_iconst X.1 X.2.1 dL_law_948 (v := iI 0) rfl ?_
            refine g_lald X hH dL_law_949 ?_
            have nd949 : nmI (r926.2 75 0 0) := hH.1.1 _ _ _
            refine lv_iload X.1 X.2.1 dL_law_950 (lv_at hl.1 0 rfl) ?_
            obtain ⟨k960, ek960, hf_⟩ := oj_e hf; clear hf; have hf := hf_; clear hf_
            have hk960 : ∀ (xs1_960 : Int) (nxs1_960 : nmI xs1_960), k960 xs1_960 = some () → ∀ (H : Heap) (locs : List Loc) (ls : Array Slot) (ce sl : Nat), ce + 6 * n ≤ 609025 → sl + 36 * n ≤ 7269029 → gH G r926.2 H → va_S (gA G) s.heap H locs → gLv ls 7 [(0, .ref b), (1, .ref (gAd G 0 0)), (2, .ref (gAd G 29 0)), (3, .ref (gAd G 75 0)), (4, .int (iI x4))] → W p l e room_1 s m #[Value.ref b] below meth c H locs ce sl (lw_Z below #[Value.ref b] s) (F0 m 960 ls [.long (Int64.ofInt xs1_960), .long (Int64.ofInt (r926.2 75 0 0))]) := by
              intro xs1_960 nxs1_960 hf H locs ls ce sl hce hsl hH hS hl
              subst ek960
              refine g_lcmp X nd949 nxs1_960 dL_law_960 ?_
              refine g_if_eq X (nmI_cmp _ _) (tgt := 966) dL_law_961 (by decide) (fun hc961 => ?_) (fun hc961 => ?_)
              · replace hf := it_t hf hc961
                exact hk966  hf _ _ _ _ _ (by omega) (by omega) hH hS (gLv_sub hl [0, 1, 2, 3, 4] rfl)
              · replace hf := it_f hf hc961
                refine lv_iconst X.1 X.2.1 dL_law_964 (v := iI 0) rfl ?_
                cases hf
            clear ek960
            refine g_if_eq X (nmI_b br926) (tgt := 959) dL_law_952 (by decide) (fun hc952 => ?_) (fun hc952 => ?_)
            · replace hf := it_t hf hc952
              refine lv_lconst X.1 X.2.1 dL_law_959 (v := Int64.ofInt 0) rfl ?_
              exact hk960 0 (nmI_l (by decide)) hf _ _ _ _ _ (by omega) (by omega) hH hS (gLv_sub hl [2, 3, 4, 5, 6] rfl)
            · replace hf := it_f hf hc952
              refine lv_lconst X.1 X.2.1 dL_law_955 (v := Int64.ofInt 1) rfl ?_
              refine lv_goto (tgt := 960) X.1 X.2.1 dL_law_956 (by decide) ?_
              exact hk960 1 (nmI_l (by decide)) hf _ _ _ _ _ (by omega) (by omega) hH hS (gLv_sub hl [2, 3, 4, 5, 6] rfl)
        · replace hf := it_f hf hc937
          refine lv_iconst X.1 X.2.1 dL_law_940 (v := iI 0) rfl ?_
          cases hf
      replace hf := it_f hf hs11
      by_cases hs12 : gAnd (gXs xs x4.toNat) 31 = 12
      · replace hf := it_t hf hs12
        refine lv_tableIn (tgt := 969) X.1 X.2.1 dL_law_40 (by rw [iI_T (nmI_and _ _)]; omega) (by rw [iI_T (nmI_and _ _)]; omega) (by rw [iI_T (nmI_and _ _), hs12]; rfl) (by decide) ?_
        refine lv_aload_n X.1 X.2.1 dL_law_969 rfl (lv_at hl.1 1 rfl) ?_
        refine lv_aload_n X.1 X.2.1 dL_law_970 rfl (lv_at hl.1 0 rfl) ?_
        refine lv_iload X.1 X.2.1 dL_law_971 (lv_at hl.1 4 rfl) ?_
        refine lv_iconst X.1 X.2.1 dL_law_973 (v := iI 1) rfl ?_
        refine g_iadd X dL_law_974 ?_
        obtain ⟨hg, hf_⟩ := og_e hf; clear hf; have hf := hf_; clear hf_
        refine g_sld X hX hbl hbA hS (nmI_w _) hg dL_law_975 ?_
        refine lv_aload_n X.1 X.2.1 dL_law_976 rfl (lv_at hl.1 3 rfl) ?_
        obtain ⟨r977, hq977, hf_⟩ := ob_e hf; clear hf; have hf := hf_; clear hf_
        refine gGoL (gRunLX X Z hH hS (a := 3) (As := [.ref (gAd G 0 0), .int (iI (gXs xs (wI (x4 + 1)).toNat)), .ref (gAd G 75 0)]) (m_L_build l hl0 G (gXs xs (wI (x4 + 1)).toNat) (nmI_of _) M _ hq977) k_812 k_64 ⟨by decide, by decide⟩ (by decide +kernel) k_811 k_810 ⟨by decide, by decide⟩ rfl hl rfl (Nat.le_of_ble_eq_true rfl) ⟨by show _ ≤ 609025; omega, by show _ ≤ 7269029; omega⟩ dL_law_977) hS (fun H locs nr977 hH hS => ?_)
        refine g_istore X (lv' := [(5, .int (iI r977.1)), (0, .ref b), (1, .ref (gAd G 0 0)), (2, .ref (gAd G 29 0)), (3, .ref (gAd G 75 0)), (4, .int (iI x4))]) dL_law_980 hl (by decide) rfl (fun ls hl => ?_)
        refine lv_aload_n X.1 X.2.1 dL_law_982 rfl (lv_at hl.1 3 rfl) ?_
        refine lv_aload_n X.1 X.2.1 dL_law_983 rfl (lv_at hl.1 1 rfl) ?_
        refine lv_iload X.1 X.2.1 dL_law_984 (lv_at hl.1 5 rfl) ?_
        refine lv_iconst X.1 X.2.1 dL_law_986 (v := iI 1) rfl ?_
        refine g_iadd X dL_law_987 ?_
        obtain ⟨hg, hf_⟩ := og_e hf; clear hf; have hf := hf_; clear hf_
        refine g_sld X hX hbl hbA hS (nmI_w _) hg dL_law_988 ?_
        obtain ⟨r989, hq989, hf_⟩ := ob_e hf; clear hf; have hf := hf_; clear hf_
        refine gGoI (gRunV X hH (As := [.int (iI (gXs xs (wI (x4 + 1)).toNat))]) (m_X12_build l G (gXs xs (wI (x4 + 1)).toNat) (nmI_of _) r977.2 _ hq989) calX12_build k_1474 k_1475 k_1473 (by decide) cX12 rfl ⟨by decide, by decide⟩ rfl hl rfl (Nat.le_of_ble_eq_true rfl) ⟨by show _ ≤ 609025; omega, by show _ ≤ 7269029; omega⟩ dL_law_989) hS (fun H locs nr989 hH hS => ?_)
        refine g_istore X (lv' := [(6, .int (iI r989.1)), (5, .int (iI r977.1)), (0, .ref b), (1, .ref (gAd G 0 0)), (2, .ref (gAd G 29 0)), (3, .ref (gAd G 75 0)), (4, .int (iI x4))]) dL_law_992 hl (by decide) rfl (fun ls hl => ?_)
        refine lv_aload_n X.1 X.2.1 dL_law_994 rfl (lv_at hl.1 4 rfl) ?_
        refine gGoI (gRunV X hH (As := []) (m_X12_thrown l G  r989.2 _ rfl) calX12_thrown k_1381 k_1382 k_1380 (by decide) cX12 rfl ⟨by decide, by decide⟩ rfl hl rfl (Nat.le_of_ble_eq_true rfl) ⟨by show _ ≤ 609025; omega, by show _ ≤ 7269029; omega⟩ dL_law_995) hS (fun H locs nr995 hH hS => ?_)
        refine lv_iload X.1 X.2.1 dL_law_998 (lv_at hl.1 1 rfl) ?_
        refine g_icmp_eq X nr995 nr977 (tgt := 1005) dL_law_1000 (by decide) (fun hc1000 => ?_) (fun hc1000 => ?_)
        · replace hf := it_t hf hc1000
          refine lv_iload X.1 X.2.1 dL_law_1005 (lv_at hl.1 1 rfl) ?_
          obtain ⟨k1022, ek1022, hf_⟩ := oj_e hf; clear hf; have hf := hf_; clear hf_
          have hk1022 : k1022 = some () → ∀ (H : Heap) (locs : List Loc) (ls : Array Slot) (ce sl : Nat), ce + 6 * n ≤ 609025 → sl + 36 * n ≤ 7269029 → gH G r989.2 H → va_S (gA G) s.heap H locs → gLv ls 7 [(0, .ref b), (1, .ref (gAd G 0 0)), (2, .ref (gAd G 29 0)), (3, .ref (gAd G 75 0)), (4, .int (iI x4))] → W p l e room_1 s m #[Value.ref b] below meth c H locs ce sl (lw_Z below #[Value.ref b] s) (F0 m 1022 ls []) := by
            intro  hf H locs ls ce sl hce hsl hH hS hl
            subst ek1022
            refine lv_goto (tgt := 1672) X.1 X.2.1 dL_law_1022 (by decide) ?_
            exact hk1672 r989.2 hf _ _ _ _ _ (by omega) (by omega) hH hS (gLv_sub hl [0, 1, 2, 3, 4] rfl)
          clear ek1022
          refine g_if_ne X nr977 (tgt := 1022) dL_law_1007 (by decide) (fun hc1007 => ?_) (fun hc1007 => ?_)
          · replace hf := it_f hf hc1007
            exact hk1022  hf _ _ _ _ _ (by omega) (by omega) hH hS (gLv_sub hl [2, 3, 4, 5, 6] rfl)
          · replace hf := it_t hf hc1007
            refine lv_aload_n X.1 X.2.1 dL_law_1010 rfl (lv_at hl.1 5 rfl) ?_
            refine lv_iconst X.1 X.2.1 dL_law_1011 (v := iI 0) rfl ?_
            refine g_lald X hH dL_law_1012 ?_
            have nd1012 : nmI (r989.2 75 0 0) := hH.1.1 _ _ _
            refine lv_iload X.1 X.2.1 dL_law_1013 (lv_at hl.1 0 rfl) ?_
            refine g_i2l X nr989 dL_law_1015 ?_
            refine g_lcmp X nd1012 nr989 dL_law_1016 ?_
            refine g_if_eq X (nmI_cmp _ _) (tgt := 1022) dL_law_1017 (by decide) (fun hc1017 => ?_) (fun hc1017 => ?_)
            · replace hf := it_t hf hc1017
              exact hk1022  hf _ _ _ _ _ (by omega) (by omega) hH hS (gLv_sub hl [2, 3, 4, 5, 6] rfl)
            · replace hf := it_f hf hc1017
              refine lv_iconst X.1 X.2.1 dL_law_1020 (v := iI 0) rfl ?_
              cases hf
        · replace hf := it_f hf hc1000
          refine lv_iconst X.1 X.2.1 dL_law_1003 (v := iI 0) rfl ?_
          cases hf
      replace hf := it_f hf hs12
      by_cases hs13 : gAnd (gXs xs x4.toNat) 31 = 13
      · replace hf := it_t hf hs13
        refine lv_tableIn (tgt := 1025) X.1 X.2.1 dL_law_40 (by rw [iI_T (nmI_and _ _)]; omega) (by rw [iI_T (nmI_and _ _)]; omega) (by rw [iI_T (nmI_and _ _), hs13]; rfl) (by decide) ?_
        refine lv_aload_n X.1 X.2.1 dL_law_1025 rfl (lv_at hl.1 1 rfl) ?_
        refine lv_aload_n X.1 X.2.1 dL_law_1026 rfl (lv_at hl.1 0 rfl) ?_
        refine lv_iload X.1 X.2.1 dL_law_1027 (lv_at hl.1 4 rfl) ?_
        refine lv_iconst X.1 X.2.1 dL_law_1029 (v := iI 1) rfl ?_
        refine g_iadd X dL_law_1030 ?_
        obtain ⟨hg, hf_⟩ := og_e hf; clear hf; have hf := hf_; clear hf_
        refine g_sld X hX hbl hbA hS (nmI_w _) hg dL_law_1031 ?_
        refine lv_aload_n X.1 X.2.1 dL_law_1032 rfl (lv_at hl.1 3 rfl) ?_
        obtain ⟨r1033, hq1033, hf_⟩ := ob_e hf; clear hf; have hf := hf_; clear hf_
        refine gGoL (gRunLX X Z hH hS (a := 3) (As := [.ref (gAd G 0 0), .int (iI (gXs xs (wI (x4 + 1)).toNat)), .ref (gAd G 75 0)]) (m_L_pass l hl0 G (gXs xs (wI (x4 + 1)).toNat) (nmI_of _) M _ hq1033) k_915 k_64 ⟨by decide, by decide⟩ (by decide +kernel) k_914 k_913 ⟨by decide, by decide⟩ rfl hl rfl (Nat.le_of_ble_eq_true rfl) ⟨by show _ ≤ 609025; omega, by show _ ≤ 7269029; omega⟩ dL_law_1033) hS (fun H locs nr1033 hH hS => ?_)
        refine g_istore X (lv' := [(5, .int (iI r1033.1)), (0, .ref b), (1, .ref (gAd G 0 0)), (2, .ref (gAd G 29 0)), (3, .ref (gAd G 75 0)), (4, .int (iI x4))]) dL_law_1036 hl (by decide) rfl (fun ls hl => ?_)
        refine lv_aload_n X.1 X.2.1 dL_law_1038 rfl (lv_at hl.1 3 rfl) ?_
        refine lv_aload_n X.1 X.2.1 dL_law_1039 rfl (lv_at hl.1 1 rfl) ?_
        refine lv_iload X.1 X.2.1 dL_law_1040 (lv_at hl.1 5 rfl) ?_
        refine lv_iconst X.1 X.2.1 dL_law_1042 (v := iI 1) rfl ?_
        refine g_iadd X dL_law_1043 ?_
        obtain ⟨hg, hf_⟩ := og_e hf; clear hf; have hf := hf_; clear hf_
        refine g_sld X hX hbl hbA hS (nmI_w _) hg dL_law_1044 ?_
        obtain ⟨r1045, hq1045, hf_⟩ := ob_e hf; clear hf; have hf := hf_; clear hf_
        refine gGoI (gRunV X hH (As := [.int (iI (gXs xs (wI (x4 + 1)).toNat))]) (m_X12_pass l G (gXs xs (wI (x4 + 1)).toNat) (nmI_of _) r1033.2 _ hq1045) calX12_pass k_1522 k_1523 k_1521 (by decide) cX12 rfl ⟨by decide, by decide⟩ rfl hl rfl (Nat.le_of_ble_eq_true rfl) ⟨by show _ ≤ 609025; omega, by show _ ≤ 7269029; omega⟩ dL_law_1045) hS (fun H locs nr1045 hH hS => ?_)
        refine g_istore X (lv' := [(6, .int (iI r1045.1)), (5, .int (iI r1033.1)), (0, .ref b), (1, .ref (gAd G 0 0)), (2, .ref (gAd G 29 0)), (3, .ref (gAd G 75 0)), (4, .int (iI x4))]) dL_law_1048 hl (by decide) rfl (fun ls hl => ?_)
        refine lv_aload_n X.1 X.2.1 dL_law_1050 rfl (lv_at hl.1 4 rfl) ?_
        refine gGoI (gRunV X hH (As := []) (m_X12_thrown l G  r1045.2 _ rfl) calX12_thrown k_1381 k_1382 k_1380 (by decide) cX12 rfl ⟨by decide, by decide⟩ rfl hl rfl (Nat.le_of_ble_eq_true rfl) ⟨by show _ ≤ 609025; omega, by show _ ≤ 7269029; omega⟩ dL_law_1051) hS (fun H locs nr1051 hH hS => ?_)
        refine lv_iload X.1 X.2.1 dL_law_1054 (lv_at hl.1 1 rfl) ?_
        refine g_icmp_eq X nr1051 nr1033 (tgt := 1061) dL_law_1056 (by decide) (fun hc1056 => ?_) (fun hc1056 => ?_)
        · replace hf := it_t hf hc1056
          refine lv_iload X.1 X.2.1 dL_law_1061 (lv_at hl.1 1 rfl) ?_
          obtain ⟨k1078, ek1078, hf_⟩ := oj_e hf; clear hf; have hf := hf_; clear hf_
          have hk1078 : k1078 = some () → ∀ (H : Heap) (locs : List Loc) (ls : Array Slot) (ce sl : Nat), ce + 6 * n ≤ 609025 → sl + 36 * n ≤ 7269029 → gH G r1045.2 H → va_S (gA G) s.heap H locs → gLv ls 7 [(0, .ref b), (1, .ref (gAd G 0 0)), (2, .ref (gAd G 29 0)), (3, .ref (gAd G 75 0)), (4, .int (iI x4))] → W p l e room_1 s m #[Value.ref b] below meth c H locs ce sl (lw_Z below #[Value.ref b] s) (F0 m 1078 ls []) := by
            intro  hf H locs ls ce sl hce hsl hH hS hl
            subst ek1078
            refine lv_goto (tgt := 1672) X.1 X.2.1 dL_law_1078 (by decide) ?_
            exact hk1672 r1045.2 hf _ _ _ _ _ (by omega) (by omega) hH hS (gLv_sub hl [0, 1, 2, 3, 4] rfl)
          clear ek1078
          refine g_if_ne X nr1033 (tgt := 1078) dL_law_1063 (by decide) (fun hc1063 => ?_) (fun hc1063 => ?_)
          · replace hf := it_f hf hc1063
            exact hk1078  hf _ _ _ _ _ (by omega) (by omega) hH hS (gLv_sub hl [2, 3, 4, 5, 6] rfl)
          · replace hf := it_t hf hc1063
            refine lv_aload_n X.1 X.2.1 dL_law_1066 rfl (lv_at hl.1 5 rfl) ?_
            refine lv_iconst X.1 X.2.1 dL_law_1067 (v := iI 0) rfl ?_
            refine g_lald X hH dL_law_1068 ?_
            have nd1068 : nmI (r1045.2 75 0 0) := hH.1.1 _ _ _
            refine lv_iload X.1 X.2.1 dL_law_1069 (lv_at hl.1 0 rfl) ?_
            refine g_i2l X nr1045 dL_law_1071 ?_
            refine g_lcmp X nd1068 nr1045 dL_law_1072 ?_
            refine g_if_eq X (nmI_cmp _ _) (tgt := 1078) dL_law_1073 (by decide) (fun hc1073 => ?_) (fun hc1073 => ?_)
            · replace hf := it_t hf hc1073
              exact hk1078  hf _ _ _ _ _ (by omega) (by omega) hH hS (gLv_sub hl [2, 3, 4, 5, 6] rfl)
            · replace hf := it_f hf hc1073
              refine lv_iconst X.1 X.2.1 dL_law_1076 (v := iI 0) rfl ?_
              cases hf
        · replace hf := it_f hf hc1056
          refine lv_iconst X.1 X.2.1 dL_law_1059 (v := iI 0) rfl ?_
          cases hf
      replace hf := it_f hf hs13
      by_cases hs14 : gAnd (gXs xs x4.toNat) 31 = 14
      · replace hf := it_t hf hs14
        refine lv_tableIn (tgt := 1081) X.1 X.2.1 dL_law_40 (by rw [iI_T (nmI_and _ _)]; omega) (by rw [iI_T (nmI_and _ _)]; omega) (by rw [iI_T (nmI_and _ _), hs14]; rfl) (by decide) ?_
        refine lv_aload_n X.1 X.2.1 dL_law_1081 rfl (lv_at hl.1 1 rfl) ?_
        refine gGoZ (gRunV X hH (As := []) (m_X11_goesOn l G  M _ rfl) calX11_goesOn k_509 k_510 k_508 (by decide) cX11 rfl ⟨by decide, by decide⟩ rfl hl rfl (Nat.le_of_ble_eq_true rfl) ⟨by show _ ≤ 609025; omega, by show _ ≤ 7269029; omega⟩ dL_law_1082) hS (fun H locs br1082 hH hS => ?_)
        refine lv_aload_n X.1 X.2.1 dL_law_1085 rfl (lv_at hl.1 2 rfl) ?_
        refine gGoZ (gRunV X hH (As := []) (m_X12_goesOn l G  M _ rfl) calX12_goesOn k_1562 k_1563 k_1561 (by decide) cX12 rfl ⟨by decide, by decide⟩ rfl hl rfl (Nat.le_of_ble_eq_true rfl) ⟨by show _ ≤ 609025; omega, by show _ ≤ 7269029; omega⟩ dL_law_1086) hS (fun H locs br1086 hH hS => ?_)
        refine g_icmp_eq X (nmI_b br1082) (nmI_b br1086) (tgt := 1672) dL_law_1089 (by decide) (fun hc1089 => ?_) (fun hc1089 => ?_)
        · replace hf := it_t hf hc1089
          exact hk1672 ((f_X12_goesOn M).2) hf _ _ _ _ _ (by omega) (by omega) hH hS (gLv_sub hl [0, 1, 2, 3, 4] rfl)
        · replace hf := it_f hf hc1089
          refine lv_iconst X.1 X.2.1 dL_law_1092 (v := iI 0) rfl ?_
          cases hf
      replace hf := it_f hf hs14
      by_cases hs15 : gAnd (gXs xs x4.toNat) 31 = 15
      · replace hf := it_t hf hs15
        refine lv_tableIn (tgt := 1094) X.1 X.2.1 dL_law_40 (by rw [iI_T (nmI_and _ _)]; omega) (by rw [iI_T (nmI_and _ _)]; omega) (by rw [iI_T (nmI_and _ _), hs15]; rfl) (by decide) ?_
        refine lv_aload_n X.1 X.2.1 dL_law_1094 rfl (lv_at hl.1 1 rfl) ?_
        refine lv_aload_n X.1 X.2.1 dL_law_1095 rfl (lv_at hl.1 0 rfl) ?_
        refine lv_iload X.1 X.2.1 dL_law_1096 (lv_at hl.1 4 rfl) ?_
        refine lv_iconst X.1 X.2.1 dL_law_1098 (v := iI 1) rfl ?_
        refine g_iadd X dL_law_1099 ?_
        obtain ⟨hg, hf_⟩ := og_e hf; clear hf; have hf := hf_; clear hf_
        refine g_sld X hX hbl hbA hS (nmI_w _) hg dL_law_1100 ?_
        refine lv_aload_n X.1 X.2.1 dL_law_1101 rfl (lv_at hl.1 0 rfl) ?_
        refine lv_iload X.1 X.2.1 dL_law_1102 (lv_at hl.1 4 rfl) ?_
        refine lv_iconst X.1 X.2.1 dL_law_1104 (v := iI 2) rfl ?_
        refine g_iadd X dL_law_1105 ?_
        obtain ⟨hg, hf_⟩ := og_e hf; clear hf; have hf := hf_; clear hf_
        refine g_sld X hX hbl hbA hS (nmI_w _) hg dL_law_1106 ?_
        refine lv_aload_n X.1 X.2.1 dL_law_1107 rfl (lv_at hl.1 3 rfl) ?_
        obtain ⟨r1108, hq1108, hf_⟩ := ob_e hf; clear hf; have hf := hf_; clear hf_
        refine gGoL (gRunLX X Z hH hS (a := 4) (As := [.ref (gAd G 0 0), .int (iI (gXs xs (wI (x4 + 1)).toNat)), .int (iI (gXs xs (wI (x4 + 2)).toNat)), .ref (gAd G 75 0)]) (m_L_state l hl0 G (gXs xs (wI (x4 + 1)).toNat) (nmI_of _) (gXs xs (wI (x4 + 2)).toNat) (nmI_of _) M _ hq1108) k_1043 k_64 ⟨by decide, by decide⟩ (by decide +kernel) k_1042 k_1041 ⟨by decide, by decide⟩ rfl hl rfl (Nat.le_of_ble_eq_true rfl) ⟨by show _ ≤ 609025; omega, by show _ ≤ 7269029; omega⟩ dL_law_1108) hS (fun H locs nr1108 hH hS => ?_)
        refine g_istore X (lv' := [(5, .int (iI r1108.1)), (0, .ref b), (1, .ref (gAd G 0 0)), (2, .ref (gAd G 29 0)), (3, .ref (gAd G 75 0)), (4, .int (iI x4))]) dL_law_1111 hl (by decide) rfl (fun ls hl => ?_)
        refine lv_aload_n X.1 X.2.1 dL_law_1113 rfl (lv_at hl.1 3 rfl) ?_
        refine lv_aload_n X.1 X.2.1 dL_law_1114 rfl (lv_at hl.1 1 rfl) ?_
        refine lv_iload X.1 X.2.1 dL_law_1115 (lv_at hl.1 5 rfl) ?_
        refine lv_iconst X.1 X.2.1 dL_law_1117 (v := iI 1) rfl ?_
        refine g_iadd X dL_law_1118 ?_
        obtain ⟨hg, hf_⟩ := og_e hf; clear hf; have hf := hf_; clear hf_
        refine g_sld X hX hbl hbA hS (nmI_w _) hg dL_law_1119 ?_
        refine lv_aload_n X.1 X.2.1 dL_law_1120 rfl (lv_at hl.1 1 rfl) ?_
        refine lv_iload X.1 X.2.1 dL_law_1121 (lv_at hl.1 5 rfl) ?_
        refine lv_iconst X.1 X.2.1 dL_law_1123 (v := iI 2) rfl ?_
        refine g_iadd X dL_law_1124 ?_
        obtain ⟨hg, hf_⟩ := og_e hf; clear hf; have hf := hf_; clear hf_
        refine g_sld X hX hbl hbA hS (nmI_w _) hg dL_law_1125 ?_
        obtain ⟨r1126, hq1126, hf_⟩ := ob_e hf; clear hf; have hf := hf_; clear hf_
        refine gGoI (gRunV X hH (As := [.int (iI (gXs xs (wI (x4 + 1)).toNat)), .int (iI (gXs xs (wI (x4 + 2)).toNat))]) (m_X12_state l G (gXs xs (wI (x4 + 1)).toNat) (nmI_of _) (gXs xs (wI (x4 + 2)).toNat) (nmI_of _) r1108.2 _ hq1126) calX12_state k_1566 k_1567 k_1565 (by decide) cX12 rfl ⟨by decide, by decide⟩ rfl hl rfl (Nat.le_of_ble_eq_true rfl) ⟨by show _ ≤ 609025; omega, by show _ ≤ 7269029; omega⟩ dL_law_1126) hS (fun H locs nr1126 hH hS => ?_)
        refine g_istore X (lv' := [(6, .int (iI r1126.1)), (5, .int (iI r1108.1)), (0, .ref b), (1, .ref (gAd G 0 0)), (2, .ref (gAd G 29 0)), (3, .ref (gAd G 75 0)), (4, .int (iI x4))]) dL_law_1129 hl (by decide) rfl (fun ls hl => ?_)
        refine lv_aload_n X.1 X.2.1 dL_law_1131 rfl (lv_at hl.1 4 rfl) ?_
        refine gGoI (gRunV X hH (As := []) (m_X12_thrown l G  r1126.2 _ rfl) calX12_thrown k_1381 k_1382 k_1380 (by decide) cX12 rfl ⟨by decide, by decide⟩ rfl hl rfl (Nat.le_of_ble_eq_true rfl) ⟨by show _ ≤ 609025; omega, by show _ ≤ 7269029; omega⟩ dL_law_1132) hS (fun H locs nr1132 hH hS => ?_)
        refine lv_iload X.1 X.2.1 dL_law_1135 (lv_at hl.1 1 rfl) ?_
        refine g_icmp_eq X nr1132 nr1108 (tgt := 1142) dL_law_1137 (by decide) (fun hc1137 => ?_) (fun hc1137 => ?_)
        · replace hf := it_t hf hc1137
          refine lv_iload X.1 X.2.1 dL_law_1142 (lv_at hl.1 1 rfl) ?_
          obtain ⟨k1159, ek1159, hf_⟩ := oj_e hf; clear hf; have hf := hf_; clear hf_
          have hk1159 : k1159 = some () → ∀ (H : Heap) (locs : List Loc) (ls : Array Slot) (ce sl : Nat), ce + 6 * n ≤ 609025 → sl + 36 * n ≤ 7269029 → gH G r1126.2 H → va_S (gA G) s.heap H locs → gLv ls 7 [(0, .ref b), (1, .ref (gAd G 0 0)), (2, .ref (gAd G 29 0)), (3, .ref (gAd G 75 0)), (4, .int (iI x4))] → W p l e room_1 s m #[Value.ref b] below meth c H locs ce sl (lw_Z below #[Value.ref b] s) (F0 m 1159 ls []) := by
            intro  hf H locs ls ce sl hce hsl hH hS hl
            subst ek1159
            refine lv_goto (tgt := 1672) X.1 X.2.1 dL_law_1159 (by decide) ?_
            exact hk1672 r1126.2 hf _ _ _ _ _ (by omega) (by omega) hH hS (gLv_sub hl [0, 1, 2, 3, 4] rfl)
          clear ek1159
          refine g_if_ne X nr1108 (tgt := 1159) dL_law_1144 (by decide) (fun hc1144 => ?_) (fun hc1144 => ?_)
          · replace hf := it_f hf hc1144
            exact hk1159  hf _ _ _ _ _ (by omega) (by omega) hH hS (gLv_sub hl [2, 3, 4, 5, 6] rfl)
          · replace hf := it_t hf hc1144
            refine lv_aload_n X.1 X.2.1 dL_law_1147 rfl (lv_at hl.1 5 rfl) ?_
            refine lv_iconst X.1 X.2.1 dL_law_1148 (v := iI 0) rfl ?_
            refine g_lald X hH dL_law_1149 ?_
            have nd1149 : nmI (r1126.2 75 0 0) := hH.1.1 _ _ _
            refine lv_iload X.1 X.2.1 dL_law_1150 (lv_at hl.1 0 rfl) ?_
            refine g_i2l X nr1126 dL_law_1152 ?_
            refine g_lcmp X nd1149 nr1126 dL_law_1153 ?_
            refine g_if_eq X (nmI_cmp _ _) (tgt := 1159) dL_law_1154 (by decide) (fun hc1154 => ?_) (fun hc1154 => ?_)
            · replace hf := it_t hf hc1154
              exact hk1159  hf _ _ _ _ _ (by omega) (by omega) hH hS (gLv_sub hl [2, 3, 4, 5, 6] rfl)
            · replace hf := it_f hf hc1154
              refine lv_iconst X.1 X.2.1 dL_law_1157 (v := iI 0) rfl ?_
              cases hf
        · replace hf := it_f hf hc1137
          refine lv_iconst X.1 X.2.1 dL_law_1140 (v := iI 0) rfl ?_
          cases hf
      replace hf := it_f hf hs15
      by_cases hs16 : gAnd (gXs xs x4.toNat) 31 = 16
      · replace hf := it_t hf hs16
        refine lv_tableIn (tgt := 1162) X.1 X.2.1 dL_law_40 (by rw [iI_T (nmI_and _ _)]; omega) (by rw [iI_T (nmI_and _ _)]; omega) (by rw [iI_T (nmI_and _ _), hs16]; rfl) (by decide) ?_
        refine lv_aload_n X.1 X.2.1 dL_law_1162 rfl (lv_at hl.1 1 rfl) ?_
        refine lv_aload_n X.1 X.2.1 dL_law_1163 rfl (lv_at hl.1 0 rfl) ?_
        refine lv_iload X.1 X.2.1 dL_law_1164 (lv_at hl.1 4 rfl) ?_
        refine lv_iconst X.1 X.2.1 dL_law_1166 (v := iI 1) rfl ?_
        refine g_iadd X dL_law_1167 ?_
        obtain ⟨hg, hf_⟩ := og_e hf; clear hf; have hf := hf_; clear hf_
        refine g_sld X hX hbl hbA hS (nmI_w _) hg dL_law_1168 ?_
        refine lv_aload_n X.1 X.2.1 dL_law_1169 rfl (lv_at hl.1 0 rfl) ?_
        refine lv_iload X.1 X.2.1 dL_law_1170 (lv_at hl.1 4 rfl) ?_
        refine lv_iconst X.1 X.2.1 dL_law_1172 (v := iI 2) rfl ?_
        refine g_iadd X dL_law_1173 ?_
        obtain ⟨hg, hf_⟩ := og_e hf; clear hf; have hf := hf_; clear hf_
        refine g_sld X hX hbl hbA hS (nmI_w _) hg dL_law_1174 ?_
        refine lv_aload_n X.1 X.2.1 dL_law_1175 rfl (lv_at hl.1 3 rfl) ?_
        obtain ⟨r1176, hq1176, hf_⟩ := ob_e hf; clear hf; have hf := hf_; clear hf_
        refine gGoL (gRunLX X Z hH hS (a := 4) (As := [.ref (gAd G 0 0), .int (iI (gXs xs (wI (x4 + 1)).toNat)), .int (iI (gXs xs (wI (x4 + 2)).toNat)), .ref (gAd G 75 0)]) (m_L_result l hl0 G (gXs xs (wI (x4 + 1)).toNat) (nmI_of _) (gXs xs (wI (x4 + 2)).toNat) (nmI_of _) M _ hq1176) k_1055 k_64 ⟨by decide, by decide⟩ (by decide +kernel) k_1054 k_1053 ⟨by decide, by decide⟩ rfl hl rfl (Nat.le_of_ble_eq_true rfl) ⟨by show _ ≤ 609025; omega, by show _ ≤ 7269029; omega⟩ dL_law_1176) hS (fun H locs nr1176 hH hS => ?_)
        refine g_istore X (lv' := [(5, .int (iI r1176.1)), (0, .ref b), (1, .ref (gAd G 0 0)), (2, .ref (gAd G 29 0)), (3, .ref (gAd G 75 0)), (4, .int (iI x4))]) dL_law_1179 hl (by decide) rfl (fun ls hl => ?_)
        refine lv_aload_n X.1 X.2.1 dL_law_1181 rfl (lv_at hl.1 3 rfl) ?_
        refine lv_aload_n X.1 X.2.1 dL_law_1182 rfl (lv_at hl.1 1 rfl) ?_
        refine lv_iload X.1 X.2.1 dL_law_1183 (lv_at hl.1 5 rfl) ?_
        refine lv_iconst X.1 X.2.1 dL_law_1185 (v := iI 1) rfl ?_
        refine g_iadd X dL_law_1186 ?_
        obtain ⟨hg, hf_⟩ := og_e hf; clear hf; have hf := hf_; clear hf_
        refine g_sld X hX hbl hbA hS (nmI_w _) hg dL_law_1187 ?_
        refine lv_aload_n X.1 X.2.1 dL_law_1188 rfl (lv_at hl.1 1 rfl) ?_
        refine lv_iload X.1 X.2.1 dL_law_1189 (lv_at hl.1 5 rfl) ?_
        refine lv_iconst X.1 X.2.1 dL_law_1191 (v := iI 2) rfl ?_
        refine g_iadd X dL_law_1192 ?_
        obtain ⟨hg, hf_⟩ := og_e hf; clear hf; have hf := hf_; clear hf_
        refine g_sld X hX hbl hbA hS (nmI_w _) hg dL_law_1193 ?_
        obtain ⟨r1194, hq1194, hf_⟩ := ob_e hf; clear hf; have hf := hf_; clear hf_
        refine gGoI (gRunV X hH (As := [.int (iI (gXs xs (wI (x4 + 1)).toNat)), .int (iI (gXs xs (wI (x4 + 2)).toNat))]) (m_X12_result l G (gXs xs (wI (x4 + 1)).toNat) (nmI_of _) (gXs xs (wI (x4 + 2)).toNat) (nmI_of _) r1176.2 _ hq1194) calX12_result k_1570 k_1571 k_1569 (by decide) cX12 rfl ⟨by decide, by decide⟩ rfl hl rfl (Nat.le_of_ble_eq_true rfl) ⟨by show _ ≤ 609025; omega, by show _ ≤ 7269029; omega⟩ dL_law_1194) hS (fun H locs nr1194 hH hS => ?_)
        refine g_istore X (lv' := [(6, .int (iI r1194.1)), (5, .int (iI r1176.1)), (0, .ref b), (1, .ref (gAd G 0 0)), (2, .ref (gAd G 29 0)), (3, .ref (gAd G 75 0)), (4, .int (iI x4))]) dL_law_1197 hl (by decide) rfl (fun ls hl => ?_)
        refine lv_aload_n X.1 X.2.1 dL_law_1199 rfl (lv_at hl.1 4 rfl) ?_
        refine gGoI (gRunV X hH (As := []) (m_X12_thrown l G  r1194.2 _ rfl) calX12_thrown k_1381 k_1382 k_1380 (by decide) cX12 rfl ⟨by decide, by decide⟩ rfl hl rfl (Nat.le_of_ble_eq_true rfl) ⟨by show _ ≤ 609025; omega, by show _ ≤ 7269029; omega⟩ dL_law_1200) hS (fun H locs nr1200 hH hS => ?_)
        refine lv_iload X.1 X.2.1 dL_law_1203 (lv_at hl.1 1 rfl) ?_
        refine g_icmp_eq X nr1200 nr1176 (tgt := 1210) dL_law_1205 (by decide) (fun hc1205 => ?_) (fun hc1205 => ?_)
        · replace hf := it_t hf hc1205
          refine lv_iload X.1 X.2.1 dL_law_1210 (lv_at hl.1 1 rfl) ?_
          obtain ⟨k1227, ek1227, hf_⟩ := oj_e hf; clear hf; have hf := hf_; clear hf_
          have hk1227 : k1227 = some () → ∀ (H : Heap) (locs : List Loc) (ls : Array Slot) (ce sl : Nat), ce + 6 * n ≤ 609025 → sl + 36 * n ≤ 7269029 → gH G r1194.2 H → va_S (gA G) s.heap H locs → gLv ls 7 [(0, .ref b), (1, .ref (gAd G 0 0)), (2, .ref (gAd G 29 0)), (3, .ref (gAd G 75 0)), (4, .int (iI x4))] → W p l e room_1 s m #[Value.ref b] below meth c H locs ce sl (lw_Z below #[Value.ref b] s) (F0 m 1227 ls []) := by
            intro  hf H locs ls ce sl hce hsl hH hS hl
            subst ek1227
            refine lv_goto (tgt := 1672) X.1 X.2.1 dL_law_1227 (by decide) ?_
            exact hk1672 r1194.2 hf _ _ _ _ _ (by omega) (by omega) hH hS (gLv_sub hl [0, 1, 2, 3, 4] rfl)
          clear ek1227
          refine g_if_ne X nr1176 (tgt := 1227) dL_law_1212 (by decide) (fun hc1212 => ?_) (fun hc1212 => ?_)
          · replace hf := it_f hf hc1212
            exact hk1227  hf _ _ _ _ _ (by omega) (by omega) hH hS (gLv_sub hl [2, 3, 4, 5, 6] rfl)
          · replace hf := it_t hf hc1212
            refine lv_aload_n X.1 X.2.1 dL_law_1215 rfl (lv_at hl.1 5 rfl) ?_
            refine lv_iconst X.1 X.2.1 dL_law_1216 (v := iI 0) rfl ?_
            refine g_lald X hH dL_law_1217 ?_
            have nd1217 : nmI (r1194.2 75 0 0) := hH.1.1 _ _ _
            refine lv_iload X.1 X.2.1 dL_law_1218 (lv_at hl.1 0 rfl) ?_
            refine g_i2l X nr1194 dL_law_1220 ?_
            refine g_lcmp X nd1217 nr1194 dL_law_1221 ?_
            refine g_if_eq X (nmI_cmp _ _) (tgt := 1227) dL_law_1222 (by decide) (fun hc1222 => ?_) (fun hc1222 => ?_)
            · replace hf := it_t hf hc1222
              exact hk1227  hf _ _ _ _ _ (by omega) (by omega) hH hS (gLv_sub hl [2, 3, 4, 5, 6] rfl)
            · replace hf := it_f hf hc1222
              refine lv_iconst X.1 X.2.1 dL_law_1225 (v := iI 0) rfl ?_
              cases hf
        · replace hf := it_f hf hc1205
          refine lv_iconst X.1 X.2.1 dL_law_1208 (v := iI 0) rfl ?_
          cases hf
      replace hf := it_f hf hs16
      by_cases hs17 : gAnd (gXs xs x4.toNat) 31 = 17
      · replace hf := it_t hf hs17
        refine lv_tableIn (tgt := 1230) X.1 X.2.1 dL_law_40 (by rw [iI_T (nmI_and _ _)]; omega) (by rw [iI_T (nmI_and _ _)]; omega) (by rw [iI_T (nmI_and _ _), hs17]; rfl) (by decide) ?_
        refine lv_aload_n X.1 X.2.1 dL_law_1230 rfl (lv_at hl.1 1 rfl) ?_
        refine lv_aload_n X.1 X.2.1 dL_law_1231 rfl (lv_at hl.1 0 rfl) ?_
        refine lv_iload X.1 X.2.1 dL_law_1232 (lv_at hl.1 4 rfl) ?_
        refine lv_iconst X.1 X.2.1 dL_law_1234 (v := iI 1) rfl ?_
        refine g_iadd X dL_law_1235 ?_
        obtain ⟨hg, hf_⟩ := og_e hf; clear hf; have hf := hf_; clear hf_
        refine g_sld X hX hbl hbA hS (nmI_w _) hg dL_law_1236 ?_
        refine lv_aload_n X.1 X.2.1 dL_law_1237 rfl (lv_at hl.1 0 rfl) ?_
        refine lv_iload X.1 X.2.1 dL_law_1238 (lv_at hl.1 4 rfl) ?_
        refine lv_iconst X.1 X.2.1 dL_law_1240 (v := iI 2) rfl ?_
        refine g_iadd X dL_law_1241 ?_
        obtain ⟨hg, hf_⟩ := og_e hf; clear hf; have hf := hf_; clear hf_
        refine g_sld X hX hbl hbA hS (nmI_w _) hg dL_law_1242 ?_
        refine lv_aload_n X.1 X.2.1 dL_law_1243 rfl (lv_at hl.1 3 rfl) ?_
        obtain ⟨r1244, hq1244, hf_⟩ := ob_e hf; clear hf; have hf := hf_; clear hf_
        refine gGoL (gRunLX X Z hH hS (a := 4) (As := [.ref (gAd G 0 0), .int (iI (gXs xs (wI (x4 + 1)).toNat)), .int (iI (gXs xs (wI (x4 + 2)).toNat)), .ref (gAd G 75 0)]) (m_L_about l hl0 G (gXs xs (wI (x4 + 1)).toNat) (nmI_of _) (gXs xs (wI (x4 + 2)).toNat) (nmI_of _) M _ hq1244) k_1062 k_64 ⟨by decide, by decide⟩ (by decide +kernel) k_1061 k_1060 ⟨by decide, by decide⟩ rfl hl rfl (Nat.le_of_ble_eq_true rfl) ⟨by show _ ≤ 609025; omega, by show _ ≤ 7269029; omega⟩ dL_law_1244) hS (fun H locs nr1244 hH hS => ?_)
        refine g_istore X (lv' := [(5, .int (iI r1244.1)), (0, .ref b), (1, .ref (gAd G 0 0)), (2, .ref (gAd G 29 0)), (3, .ref (gAd G 75 0)), (4, .int (iI x4))]) dL_law_1247 hl (by decide) rfl (fun ls hl => ?_)
        refine lv_aload_n X.1 X.2.1 dL_law_1249 rfl (lv_at hl.1 3 rfl) ?_
        refine lv_aload_n X.1 X.2.1 dL_law_1250 rfl (lv_at hl.1 1 rfl) ?_
        refine lv_iload X.1 X.2.1 dL_law_1251 (lv_at hl.1 5 rfl) ?_
        refine lv_iconst X.1 X.2.1 dL_law_1253 (v := iI 1) rfl ?_
        refine g_iadd X dL_law_1254 ?_
        obtain ⟨hg, hf_⟩ := og_e hf; clear hf; have hf := hf_; clear hf_
        refine g_sld X hX hbl hbA hS (nmI_w _) hg dL_law_1255 ?_
        refine lv_aload_n X.1 X.2.1 dL_law_1256 rfl (lv_at hl.1 1 rfl) ?_
        refine lv_iload X.1 X.2.1 dL_law_1257 (lv_at hl.1 5 rfl) ?_
        refine lv_iconst X.1 X.2.1 dL_law_1259 (v := iI 2) rfl ?_
        refine g_iadd X dL_law_1260 ?_
        obtain ⟨hg, hf_⟩ := og_e hf; clear hf; have hf := hf_; clear hf_
        refine g_sld X hX hbl hbA hS (nmI_w _) hg dL_law_1261 ?_
        obtain ⟨r1262, hq1262, hf_⟩ := ob_e hf; clear hf; have hf := hf_; clear hf_
        refine gGoI (gRunV X hH (As := [.int (iI (gXs xs (wI (x4 + 1)).toNat)), .int (iI (gXs xs (wI (x4 + 2)).toNat))]) (m_X12_about l G (gXs xs (wI (x4 + 1)).toNat) (nmI_of _) (gXs xs (wI (x4 + 2)).toNat) (nmI_of _) r1244.2 _ hq1262) calX12_about k_1574 k_1575 k_1573 (by decide) cX12 rfl ⟨by decide, by decide⟩ rfl hl rfl (Nat.le_of_ble_eq_true rfl) ⟨by show _ ≤ 609025; omega, by show _ ≤ 7269029; omega⟩ dL_law_1262) hS (fun H locs nr1262 hH hS => ?_)
        refine g_istore X (lv' := [(6, .int (iI r1262.1)), (5, .int (iI r1244.1)), (0, .ref b), (1, .ref (gAd G 0 0)), (2, .ref (gAd G 29 0)), (3, .ref (gAd G 75 0)), (4, .int (iI x4))]) dL_law_1265 hl (by decide) rfl (fun ls hl => ?_)
        refine lv_aload_n X.1 X.2.1 dL_law_1267 rfl (lv_at hl.1 4 rfl) ?_
        refine gGoI (gRunV X hH (As := []) (m_X12_thrown l G  r1262.2 _ rfl) calX12_thrown k_1381 k_1382 k_1380 (by decide) cX12 rfl ⟨by decide, by decide⟩ rfl hl rfl (Nat.le_of_ble_eq_true rfl) ⟨by show _ ≤ 609025; omega, by show _ ≤ 7269029; omega⟩ dL_law_1268) hS (fun H locs nr1268 hH hS => ?_)
        refine lv_iload X.1 X.2.1 dL_law_1271 (lv_at hl.1 1 rfl) ?_
        refine g_icmp_eq X nr1268 nr1244 (tgt := 1278) dL_law_1273 (by decide) (fun hc1273 => ?_) (fun hc1273 => ?_)
        · replace hf := it_t hf hc1273
          refine lv_iload X.1 X.2.1 dL_law_1278 (lv_at hl.1 1 rfl) ?_
          obtain ⟨k1295, ek1295, hf_⟩ := oj_e hf; clear hf; have hf := hf_; clear hf_
          have hk1295 : k1295 = some () → ∀ (H : Heap) (locs : List Loc) (ls : Array Slot) (ce sl : Nat), ce + 6 * n ≤ 609025 → sl + 36 * n ≤ 7269029 → gH G r1262.2 H → va_S (gA G) s.heap H locs → gLv ls 7 [(0, .ref b), (1, .ref (gAd G 0 0)), (2, .ref (gAd G 29 0)), (3, .ref (gAd G 75 0)), (4, .int (iI x4))] → W p l e room_1 s m #[Value.ref b] below meth c H locs ce sl (lw_Z below #[Value.ref b] s) (F0 m 1295 ls []) := by
            intro  hf H locs ls ce sl hce hsl hH hS hl
            subst ek1295
            refine lv_goto (tgt := 1672) X.1 X.2.1 dL_law_1295 (by decide) ?_
            exact hk1672 r1262.2 hf _ _ _ _ _ (by omega) (by omega) hH hS (gLv_sub hl [0, 1, 2, 3, 4] rfl)
          clear ek1295
          refine g_if_ne X nr1244 (tgt := 1295) dL_law_1280 (by decide) (fun hc1280 => ?_) (fun hc1280 => ?_)
          · replace hf := it_f hf hc1280
            exact hk1295  hf _ _ _ _ _ (by omega) (by omega) hH hS (gLv_sub hl [2, 3, 4, 5, 6] rfl)
          · replace hf := it_t hf hc1280
            refine lv_aload_n X.1 X.2.1 dL_law_1283 rfl (lv_at hl.1 5 rfl) ?_
            refine lv_iconst X.1 X.2.1 dL_law_1284 (v := iI 0) rfl ?_
            refine g_lald X hH dL_law_1285 ?_
            have nd1285 : nmI (r1262.2 75 0 0) := hH.1.1 _ _ _
            refine lv_iload X.1 X.2.1 dL_law_1286 (lv_at hl.1 0 rfl) ?_
            refine g_i2l X nr1262 dL_law_1288 ?_
            refine g_lcmp X nd1285 nr1262 dL_law_1289 ?_
            refine g_if_eq X (nmI_cmp _ _) (tgt := 1295) dL_law_1290 (by decide) (fun hc1290 => ?_) (fun hc1290 => ?_)
            · replace hf := it_t hf hc1290
              exact hk1295  hf _ _ _ _ _ (by omega) (by omega) hH hS (gLv_sub hl [2, 3, 4, 5, 6] rfl)
            · replace hf := it_f hf hc1290
              refine lv_iconst X.1 X.2.1 dL_law_1293 (v := iI 0) rfl ?_
              cases hf
        · replace hf := it_f hf hc1273
          refine lv_iconst X.1 X.2.1 dL_law_1276 (v := iI 0) rfl ?_
          cases hf
      replace hf := it_f hf hs17
      by_cases hs18 : gAnd (gXs xs x4.toNat) 31 = 18
      · replace hf := it_t hf hs18
        refine lv_tableIn (tgt := 1298) X.1 X.2.1 dL_law_40 (by rw [iI_T (nmI_and _ _)]; omega) (by rw [iI_T (nmI_and _ _)]; omega) (by rw [iI_T (nmI_and _ _), hs18]; rfl) (by decide) ?_
        refine lv_aload_n X.1 X.2.1 dL_law_1298 rfl (lv_at hl.1 1 rfl) ?_
        refine lv_aload_n X.1 X.2.1 dL_law_1299 rfl (lv_at hl.1 0 rfl) ?_
        refine lv_iload X.1 X.2.1 dL_law_1300 (lv_at hl.1 4 rfl) ?_
        refine lv_iconst X.1 X.2.1 dL_law_1302 (v := iI 1) rfl ?_
        refine g_iadd X dL_law_1303 ?_
        obtain ⟨hg, hf_⟩ := og_e hf; clear hf; have hf := hf_; clear hf_
        refine g_sld X hX hbl hbA hS (nmI_w _) hg dL_law_1304 ?_
        refine lv_aload_n X.1 X.2.1 dL_law_1305 rfl (lv_at hl.1 3 rfl) ?_
        obtain ⟨r1306, hq1306, hf_⟩ := ob_e hf; clear hf; have hf := hf_; clear hf_
        refine gGoL (gRunLX X Z hH hS (a := 3) (As := [.ref (gAd G 0 0), .int (iI (gXs xs (wI (x4 + 1)).toNat)), .ref (gAd G 75 0)]) (m_L_proof l hl0 G (gXs xs (wI (x4 + 1)).toNat) (nmI_of _) M _ hq1306) k_1126 k_64 ⟨by decide, by decide⟩ (by decide +kernel) k_1125 k_1124 ⟨by decide, by decide⟩ rfl hl rfl (Nat.le_of_ble_eq_true rfl) ⟨by show _ ≤ 609025; omega, by show _ ≤ 7269029; omega⟩ dL_law_1306) hS (fun H locs nr1306 hH hS => ?_)
        refine g_istore X (lv' := [(5, .int (iI r1306.1)), (0, .ref b), (1, .ref (gAd G 0 0)), (2, .ref (gAd G 29 0)), (3, .ref (gAd G 75 0)), (4, .int (iI x4))]) dL_law_1309 hl (by decide) rfl (fun ls hl => ?_)
        refine lv_aload_n X.1 X.2.1 dL_law_1311 rfl (lv_at hl.1 3 rfl) ?_
        refine lv_aload_n X.1 X.2.1 dL_law_1312 rfl (lv_at hl.1 1 rfl) ?_
        refine lv_iload X.1 X.2.1 dL_law_1313 (lv_at hl.1 5 rfl) ?_
        refine lv_iconst X.1 X.2.1 dL_law_1315 (v := iI 1) rfl ?_
        refine g_iadd X dL_law_1316 ?_
        obtain ⟨hg, hf_⟩ := og_e hf; clear hf; have hf := hf_; clear hf_
        refine g_sld X hX hbl hbA hS (nmI_w _) hg dL_law_1317 ?_
        obtain ⟨r1318, hq1318, hf_⟩ := ob_e hf; clear hf; have hf := hf_; clear hf_
        refine gGoI (gRunV X hH (As := [.int (iI (gXs xs (wI (x4 + 1)).toNat))]) (m_X12_proof l G (gXs xs (wI (x4 + 1)).toNat) (nmI_of _) r1306.2 _ hq1318) calX12_proof k_1598 k_1599 k_1597 (by decide) cX12 rfl ⟨by decide, by decide⟩ rfl hl rfl (Nat.le_of_ble_eq_true rfl) ⟨by show _ ≤ 609025; omega, by show _ ≤ 7269029; omega⟩ dL_law_1318) hS (fun H locs nr1318 hH hS => ?_)
        refine g_istore X (lv' := [(6, .int (iI r1318.1)), (5, .int (iI r1306.1)), (0, .ref b), (1, .ref (gAd G 0 0)), (2, .ref (gAd G 29 0)), (3, .ref (gAd G 75 0)), (4, .int (iI x4))]) dL_law_1321 hl (by decide) rfl (fun ls hl => ?_)
        refine lv_aload_n X.1 X.2.1 dL_law_1323 rfl (lv_at hl.1 4 rfl) ?_
        refine gGoI (gRunV X hH (As := []) (m_X12_thrown l G  r1318.2 _ rfl) calX12_thrown k_1381 k_1382 k_1380 (by decide) cX12 rfl ⟨by decide, by decide⟩ rfl hl rfl (Nat.le_of_ble_eq_true rfl) ⟨by show _ ≤ 609025; omega, by show _ ≤ 7269029; omega⟩ dL_law_1324) hS (fun H locs nr1324 hH hS => ?_)
        refine lv_iload X.1 X.2.1 dL_law_1327 (lv_at hl.1 1 rfl) ?_
        refine g_icmp_eq X nr1324 nr1306 (tgt := 1334) dL_law_1329 (by decide) (fun hc1329 => ?_) (fun hc1329 => ?_)
        · replace hf := it_t hf hc1329
          refine lv_iload X.1 X.2.1 dL_law_1334 (lv_at hl.1 1 rfl) ?_
          obtain ⟨k1351, ek1351, hf_⟩ := oj_e hf; clear hf; have hf := hf_; clear hf_
          have hk1351 : k1351 = some () → ∀ (H : Heap) (locs : List Loc) (ls : Array Slot) (ce sl : Nat), ce + 6 * n ≤ 609025 → sl + 36 * n ≤ 7269029 → gH G r1318.2 H → va_S (gA G) s.heap H locs → gLv ls 7 [(0, .ref b), (1, .ref (gAd G 0 0)), (2, .ref (gAd G 29 0)), (3, .ref (gAd G 75 0)), (4, .int (iI x4))] → W p l e room_1 s m #[Value.ref b] below meth c H locs ce sl (lw_Z below #[Value.ref b] s) (F0 m 1351 ls []) := by
            intro  hf H locs ls ce sl hce hsl hH hS hl
            subst ek1351
            refine lv_goto (tgt := 1672) X.1 X.2.1 dL_law_1351 (by decide) ?_
            exact hk1672 r1318.2 hf _ _ _ _ _ (by omega) (by omega) hH hS (gLv_sub hl [0, 1, 2, 3, 4] rfl)
          clear ek1351
          refine g_if_ne X nr1306 (tgt := 1351) dL_law_1336 (by decide) (fun hc1336 => ?_) (fun hc1336 => ?_)
          · replace hf := it_f hf hc1336
            exact hk1351  hf _ _ _ _ _ (by omega) (by omega) hH hS (gLv_sub hl [2, 3, 4, 5, 6] rfl)
          · replace hf := it_t hf hc1336
            refine lv_aload_n X.1 X.2.1 dL_law_1339 rfl (lv_at hl.1 5 rfl) ?_
            refine lv_iconst X.1 X.2.1 dL_law_1340 (v := iI 0) rfl ?_
            refine g_lald X hH dL_law_1341 ?_
            have nd1341 : nmI (r1318.2 75 0 0) := hH.1.1 _ _ _
            refine lv_iload X.1 X.2.1 dL_law_1342 (lv_at hl.1 0 rfl) ?_
            refine g_i2l X nr1318 dL_law_1344 ?_
            refine g_lcmp X nd1341 nr1318 dL_law_1345 ?_
            refine g_if_eq X (nmI_cmp _ _) (tgt := 1351) dL_law_1346 (by decide) (fun hc1346 => ?_) (fun hc1346 => ?_)
            · replace hf := it_t hf hc1346
              exact hk1351  hf _ _ _ _ _ (by omega) (by omega) hH hS (gLv_sub hl [2, 3, 4, 5, 6] rfl)
            · replace hf := it_f hf hc1346
              refine lv_iconst X.1 X.2.1 dL_law_1349 (v := iI 0) rfl ?_
              cases hf
        · replace hf := it_f hf hc1329
          refine lv_iconst X.1 X.2.1 dL_law_1332 (v := iI 0) rfl ?_
          cases hf
      replace hf := it_f hf hs18
      by_cases hs19 : gAnd (gXs xs x4.toNat) 31 = 19
      · replace hf := it_t hf hs19
        refine lv_tableIn (tgt := 1354) X.1 X.2.1 dL_law_40 (by rw [iI_T (nmI_and _ _)]; omega) (by rw [iI_T (nmI_and _ _)]; omega) (by rw [iI_T (nmI_and _ _), hs19]; rfl) (by decide) ?_
        refine lv_aload_n X.1 X.2.1 dL_law_1354 rfl (lv_at hl.1 1 rfl) ?_
        refine lv_aload_n X.1 X.2.1 dL_law_1355 rfl (lv_at hl.1 0 rfl) ?_
        refine lv_iload X.1 X.2.1 dL_law_1356 (lv_at hl.1 4 rfl) ?_
        refine lv_iconst X.1 X.2.1 dL_law_1358 (v := iI 1) rfl ?_
        refine g_iadd X dL_law_1359 ?_
        obtain ⟨hg, hf_⟩ := og_e hf; clear hf; have hf := hf_; clear hf_
        refine g_sld X hX hbl hbA hS (nmI_w _) hg dL_law_1360 ?_
        refine lv_aload_n X.1 X.2.1 dL_law_1361 rfl (lv_at hl.1 3 rfl) ?_
        obtain ⟨r1362, hq1362, hf_⟩ := ob_e hf; clear hf; have hf := hf_; clear hf_
        refine gGoL (gRunLX X Z hH hS (a := 3) (As := [.ref (gAd G 0 0), .int (iI (gXs xs (wI (x4 + 1)).toNat)), .ref (gAd G 75 0)]) (m_L_count l hl0 G (gXs xs (wI (x4 + 1)).toNat) (nmI_of _) M _ hq1362) k_1151 k_64 ⟨by decide, by decide⟩ (by decide +kernel) k_1150 k_1149 ⟨by decide, by decide⟩ rfl hl rfl (Nat.le_of_ble_eq_true rfl) ⟨by show _ ≤ 609025; omega, by show _ ≤ 7269029; omega⟩ dL_law_1362) hS (fun H locs nr1362 hH hS => ?_)
        refine g_istore X (lv' := [(5, .int (iI r1362.1)), (0, .ref b), (1, .ref (gAd G 0 0)), (2, .ref (gAd G 29 0)), (3, .ref (gAd G 75 0)), (4, .int (iI x4))]) dL_law_1365 hl (by decide) rfl (fun ls hl => ?_)
        refine lv_aload_n X.1 X.2.1 dL_law_1367 rfl (lv_at hl.1 3 rfl) ?_
        refine lv_aload_n X.1 X.2.1 dL_law_1368 rfl (lv_at hl.1 1 rfl) ?_
        refine lv_iload X.1 X.2.1 dL_law_1369 (lv_at hl.1 5 rfl) ?_
        refine lv_iconst X.1 X.2.1 dL_law_1371 (v := iI 1) rfl ?_
        refine g_iadd X dL_law_1372 ?_
        obtain ⟨hg, hf_⟩ := og_e hf; clear hf; have hf := hf_; clear hf_
        refine g_sld X hX hbl hbA hS (nmI_w _) hg dL_law_1373 ?_
        obtain ⟨r1374, hq1374, hf_⟩ := ob_e hf; clear hf; have hf := hf_; clear hf_
        refine gGoI (gRunV X hH (As := [.int (iI (gXs xs (wI (x4 + 1)).toNat))]) (m_X12_count l G (gXs xs (wI (x4 + 1)).toNat) (nmI_of _) r1362.2 _ hq1374) calX12_count k_1602 k_1603 k_1601 (by decide) cX12 rfl ⟨by decide, by decide⟩ rfl hl rfl (Nat.le_of_ble_eq_true rfl) ⟨by show _ ≤ 609025; omega, by show _ ≤ 7269029; omega⟩ dL_law_1374) hS (fun H locs nr1374 hH hS => ?_)
        refine g_istore X (lv' := [(6, .int (iI r1374.1)), (5, .int (iI r1362.1)), (0, .ref b), (1, .ref (gAd G 0 0)), (2, .ref (gAd G 29 0)), (3, .ref (gAd G 75 0)), (4, .int (iI x4))]) dL_law_1377 hl (by decide) rfl (fun ls hl => ?_)
        refine lv_aload_n X.1 X.2.1 dL_law_1379 rfl (lv_at hl.1 4 rfl) ?_
        refine gGoI (gRunV X hH (As := []) (m_X12_thrown l G  r1374.2 _ rfl) calX12_thrown k_1381 k_1382 k_1380 (by decide) cX12 rfl ⟨by decide, by decide⟩ rfl hl rfl (Nat.le_of_ble_eq_true rfl) ⟨by show _ ≤ 609025; omega, by show _ ≤ 7269029; omega⟩ dL_law_1380) hS (fun H locs nr1380 hH hS => ?_)
        refine lv_iload X.1 X.2.1 dL_law_1383 (lv_at hl.1 1 rfl) ?_
        refine g_icmp_eq X nr1380 nr1362 (tgt := 1390) dL_law_1385 (by decide) (fun hc1385 => ?_) (fun hc1385 => ?_)
        · replace hf := it_t hf hc1385
          refine lv_iload X.1 X.2.1 dL_law_1390 (lv_at hl.1 1 rfl) ?_
          obtain ⟨k1407, ek1407, hf_⟩ := oj_e hf; clear hf; have hf := hf_; clear hf_
          have hk1407 : k1407 = some () → ∀ (H : Heap) (locs : List Loc) (ls : Array Slot) (ce sl : Nat), ce + 6 * n ≤ 609025 → sl + 36 * n ≤ 7269029 → gH G r1374.2 H → va_S (gA G) s.heap H locs → gLv ls 7 [(0, .ref b), (1, .ref (gAd G 0 0)), (2, .ref (gAd G 29 0)), (3, .ref (gAd G 75 0)), (4, .int (iI x4))] → W p l e room_1 s m #[Value.ref b] below meth c H locs ce sl (lw_Z below #[Value.ref b] s) (F0 m 1407 ls []) := by
            intro  hf H locs ls ce sl hce hsl hH hS hl
            subst ek1407
            refine lv_goto (tgt := 1672) X.1 X.2.1 dL_law_1407 (by decide) ?_
            exact hk1672 r1374.2 hf _ _ _ _ _ (by omega) (by omega) hH hS (gLv_sub hl [0, 1, 2, 3, 4] rfl)
          clear ek1407
          refine g_if_ne X nr1362 (tgt := 1407) dL_law_1392 (by decide) (fun hc1392 => ?_) (fun hc1392 => ?_)
          · replace hf := it_f hf hc1392
            exact hk1407  hf _ _ _ _ _ (by omega) (by omega) hH hS (gLv_sub hl [2, 3, 4, 5, 6] rfl)
          · replace hf := it_t hf hc1392
            refine lv_aload_n X.1 X.2.1 dL_law_1395 rfl (lv_at hl.1 5 rfl) ?_
            refine lv_iconst X.1 X.2.1 dL_law_1396 (v := iI 0) rfl ?_
            refine g_lald X hH dL_law_1397 ?_
            have nd1397 : nmI (r1374.2 75 0 0) := hH.1.1 _ _ _
            refine lv_iload X.1 X.2.1 dL_law_1398 (lv_at hl.1 0 rfl) ?_
            refine g_i2l X nr1374 dL_law_1400 ?_
            refine g_lcmp X nd1397 nr1374 dL_law_1401 ?_
            refine g_if_eq X (nmI_cmp _ _) (tgt := 1407) dL_law_1402 (by decide) (fun hc1402 => ?_) (fun hc1402 => ?_)
            · replace hf := it_t hf hc1402
              exact hk1407  hf _ _ _ _ _ (by omega) (by omega) hH hS (gLv_sub hl [2, 3, 4, 5, 6] rfl)
            · replace hf := it_f hf hc1402
              refine lv_iconst X.1 X.2.1 dL_law_1405 (v := iI 0) rfl ?_
              cases hf
        · replace hf := it_f hf hc1385
          refine lv_iconst X.1 X.2.1 dL_law_1388 (v := iI 0) rfl ?_
          cases hf
      replace hf := it_f hf hs19
      by_cases hs20 : gAnd (gXs xs x4.toNat) 31 = 20
      · replace hf := it_t hf hs20
        refine lv_tableIn (tgt := 1410) X.1 X.2.1 dL_law_40 (by rw [iI_T (nmI_and _ _)]; omega) (by rw [iI_T (nmI_and _ _)]; omega) (by rw [iI_T (nmI_and _ _), hs20]; rfl) (by decide) ?_
        refine lv_aload_n X.1 X.2.1 dL_law_1410 rfl (lv_at hl.1 1 rfl) ?_
        refine lv_aload_n X.1 X.2.1 dL_law_1411 rfl (lv_at hl.1 0 rfl) ?_
        refine lv_iload X.1 X.2.1 dL_law_1412 (lv_at hl.1 4 rfl) ?_
        refine lv_iconst X.1 X.2.1 dL_law_1414 (v := iI 1) rfl ?_
        refine g_iadd X dL_law_1415 ?_
        obtain ⟨hg, hf_⟩ := og_e hf; clear hf; have hf := hf_; clear hf_
        refine g_sld X hX hbl hbA hS (nmI_w _) hg dL_law_1416 ?_
        refine lv_aload_n X.1 X.2.1 dL_law_1417 rfl (lv_at hl.1 3 rfl) ?_
        obtain ⟨r1418, hq1418, hf_⟩ := ob_e hf; clear hf; have hf := hf_; clear hf_
        refine gGoL (gRunLX X Z hH hS (a := 3) (As := [.ref (gAd G 0 0), .int (iI (gXs xs (wI (x4 + 1)).toNat)), .ref (gAd G 75 0)]) (m_L_needed l hl0 G (gXs xs (wI (x4 + 1)).toNat) (nmI_of _) M _ hq1418) k_1158 k_64 ⟨by decide, by decide⟩ (by decide +kernel) k_1157 k_1156 ⟨by decide, by decide⟩ rfl hl rfl (Nat.le_of_ble_eq_true rfl) ⟨by show _ ≤ 609025; omega, by show _ ≤ 7269029; omega⟩ dL_law_1418) hS (fun H locs nr1418 hH hS => ?_)
        refine g_istore X (lv' := [(5, .int (iI r1418.1)), (0, .ref b), (1, .ref (gAd G 0 0)), (2, .ref (gAd G 29 0)), (3, .ref (gAd G 75 0)), (4, .int (iI x4))]) dL_law_1421 hl (by decide) rfl (fun ls hl => ?_)
        refine lv_aload_n X.1 X.2.1 dL_law_1423 rfl (lv_at hl.1 3 rfl) ?_
        refine lv_aload_n X.1 X.2.1 dL_law_1424 rfl (lv_at hl.1 1 rfl) ?_
        refine lv_iload X.1 X.2.1 dL_law_1425 (lv_at hl.1 5 rfl) ?_
        refine lv_iconst X.1 X.2.1 dL_law_1427 (v := iI 1) rfl ?_
        refine g_iadd X dL_law_1428 ?_
        obtain ⟨hg, hf_⟩ := og_e hf; clear hf; have hf := hf_; clear hf_
        refine g_sld X hX hbl hbA hS (nmI_w _) hg dL_law_1429 ?_
        obtain ⟨r1430, hq1430, hf_⟩ := ob_e hf; clear hf; have hf := hf_; clear hf_
        refine gGoI (gRunV X hH (As := [.int (iI (gXs xs (wI (x4 + 1)).toNat))]) (m_X12_needed l G (gXs xs (wI (x4 + 1)).toNat) (nmI_of _) r1418.2 _ hq1430) calX12_needed k_1606 k_1607 k_1605 (by decide) cX12 rfl ⟨by decide, by decide⟩ rfl hl rfl (Nat.le_of_ble_eq_true rfl) ⟨by show _ ≤ 609025; omega, by show _ ≤ 7269029; omega⟩ dL_law_1430) hS (fun H locs nr1430 hH hS => ?_)
        refine g_istore X (lv' := [(6, .int (iI r1430.1)), (5, .int (iI r1418.1)), (0, .ref b), (1, .ref (gAd G 0 0)), (2, .ref (gAd G 29 0)), (3, .ref (gAd G 75 0)), (4, .int (iI x4))]) dL_law_1433 hl (by decide) rfl (fun ls hl => ?_)
        refine lv_aload_n X.1 X.2.1 dL_law_1435 rfl (lv_at hl.1 4 rfl) ?_
        refine gGoI (gRunV X hH (As := []) (m_X12_thrown l G  r1430.2 _ rfl) calX12_thrown k_1381 k_1382 k_1380 (by decide) cX12 rfl ⟨by decide, by decide⟩ rfl hl rfl (Nat.le_of_ble_eq_true rfl) ⟨by show _ ≤ 609025; omega, by show _ ≤ 7269029; omega⟩ dL_law_1436) hS (fun H locs nr1436 hH hS => ?_)
        refine lv_iload X.1 X.2.1 dL_law_1439 (lv_at hl.1 1 rfl) ?_
        refine g_icmp_eq X nr1436 nr1418 (tgt := 1446) dL_law_1441 (by decide) (fun hc1441 => ?_) (fun hc1441 => ?_)
        · replace hf := it_t hf hc1441
          refine lv_iload X.1 X.2.1 dL_law_1446 (lv_at hl.1 1 rfl) ?_
          obtain ⟨k1463, ek1463, hf_⟩ := oj_e hf; clear hf; have hf := hf_; clear hf_
          have hk1463 : k1463 = some () → ∀ (H : Heap) (locs : List Loc) (ls : Array Slot) (ce sl : Nat), ce + 6 * n ≤ 609025 → sl + 36 * n ≤ 7269029 → gH G r1430.2 H → va_S (gA G) s.heap H locs → gLv ls 7 [(0, .ref b), (1, .ref (gAd G 0 0)), (2, .ref (gAd G 29 0)), (3, .ref (gAd G 75 0)), (4, .int (iI x4))] → W p l e room_1 s m #[Value.ref b] below meth c H locs ce sl (lw_Z below #[Value.ref b] s) (F0 m 1463 ls []) := by
            intro  hf H locs ls ce sl hce hsl hH hS hl
            subst ek1463
            refine lv_goto (tgt := 1672) X.1 X.2.1 dL_law_1463 (by decide) ?_
            exact hk1672 r1430.2 hf _ _ _ _ _ (by omega) (by omega) hH hS (gLv_sub hl [0, 1, 2, 3, 4] rfl)
          clear ek1463
          refine g_if_ne X nr1418 (tgt := 1463) dL_law_1448 (by decide) (fun hc1448 => ?_) (fun hc1448 => ?_)
          · replace hf := it_f hf hc1448
            exact hk1463  hf _ _ _ _ _ (by omega) (by omega) hH hS (gLv_sub hl [2, 3, 4, 5, 6] rfl)
          · replace hf := it_t hf hc1448
            refine lv_aload_n X.1 X.2.1 dL_law_1451 rfl (lv_at hl.1 5 rfl) ?_
            refine lv_iconst X.1 X.2.1 dL_law_1452 (v := iI 0) rfl ?_
            refine g_lald X hH dL_law_1453 ?_
            have nd1453 : nmI (r1430.2 75 0 0) := hH.1.1 _ _ _
            refine lv_iload X.1 X.2.1 dL_law_1454 (lv_at hl.1 0 rfl) ?_
            refine g_i2l X nr1430 dL_law_1456 ?_
            refine g_lcmp X nd1453 nr1430 dL_law_1457 ?_
            refine g_if_eq X (nmI_cmp _ _) (tgt := 1463) dL_law_1458 (by decide) (fun hc1458 => ?_) (fun hc1458 => ?_)
            · replace hf := it_t hf hc1458
              exact hk1463  hf _ _ _ _ _ (by omega) (by omega) hH hS (gLv_sub hl [2, 3, 4, 5, 6] rfl)
            · replace hf := it_f hf hc1458
              refine lv_iconst X.1 X.2.1 dL_law_1461 (v := iI 0) rfl ?_
              cases hf
        · replace hf := it_f hf hc1441
          refine lv_iconst X.1 X.2.1 dL_law_1444 (v := iI 0) rfl ?_
          cases hf
      replace hf := it_f hf hs20
      by_cases hs21 : gAnd (gXs xs x4.toNat) 31 = 21
      · replace hf := it_t hf hs21
        refine lv_tableIn (tgt := 1466) X.1 X.2.1 dL_law_40 (by rw [iI_T (nmI_and _ _)]; omega) (by rw [iI_T (nmI_and _ _)]; omega) (by rw [iI_T (nmI_and _ _), hs21]; rfl) (by decide) ?_
        refine lv_aload_n X.1 X.2.1 dL_law_1466 rfl (lv_at hl.1 1 rfl) ?_
        refine lv_aload_n X.1 X.2.1 dL_law_1467 rfl (lv_at hl.1 0 rfl) ?_
        refine lv_iload X.1 X.2.1 dL_law_1468 (lv_at hl.1 4 rfl) ?_
        refine lv_iconst X.1 X.2.1 dL_law_1470 (v := iI 1) rfl ?_
        refine g_iadd X dL_law_1471 ?_
        obtain ⟨hg, hf_⟩ := og_e hf; clear hf; have hf := hf_; clear hf_
        refine g_sld X hX hbl hbA hS (nmI_w _) hg dL_law_1472 ?_
        refine lv_aload_n X.1 X.2.1 dL_law_1473 rfl (lv_at hl.1 3 rfl) ?_
        obtain ⟨r1474, hq1474, hf_⟩ := ob_e hf; clear hf; have hf := hf_; clear hf_
        refine gGoL (gRunLX X Z hH hS (a := 3) (As := [.ref (gAd G 0 0), .int (iI (gXs xs (wI (x4 + 1)).toNat)), .ref (gAd G 75 0)]) (m_L_needing l hl0 G (gXs xs (wI (x4 + 1)).toNat) (nmI_of _) M _ hq1474) k_1165 k_64 ⟨by decide, by decide⟩ (by decide +kernel) k_1164 k_1163 ⟨by decide, by decide⟩ rfl hl rfl (Nat.le_of_ble_eq_true rfl) ⟨by show _ ≤ 609025; omega, by show _ ≤ 7269029; omega⟩ dL_law_1474) hS (fun H locs nr1474 hH hS => ?_)
        refine g_istore X (lv' := [(5, .int (iI r1474.1)), (0, .ref b), (1, .ref (gAd G 0 0)), (2, .ref (gAd G 29 0)), (3, .ref (gAd G 75 0)), (4, .int (iI x4))]) dL_law_1477 hl (by decide) rfl (fun ls hl => ?_)
        refine lv_aload_n X.1 X.2.1 dL_law_1479 rfl (lv_at hl.1 3 rfl) ?_
        refine lv_aload_n X.1 X.2.1 dL_law_1480 rfl (lv_at hl.1 1 rfl) ?_
        refine lv_iload X.1 X.2.1 dL_law_1481 (lv_at hl.1 5 rfl) ?_
        refine lv_iconst X.1 X.2.1 dL_law_1483 (v := iI 1) rfl ?_
        refine g_iadd X dL_law_1484 ?_
        obtain ⟨hg, hf_⟩ := og_e hf; clear hf; have hf := hf_; clear hf_
        refine g_sld X hX hbl hbA hS (nmI_w _) hg dL_law_1485 ?_
        obtain ⟨r1486, hq1486, hf_⟩ := ob_e hf; clear hf; have hf := hf_; clear hf_
        refine gGoI (gRunV X hH (As := [.int (iI (gXs xs (wI (x4 + 1)).toNat))]) (m_X12_needing l G (gXs xs (wI (x4 + 1)).toNat) (nmI_of _) r1474.2 _ hq1486) calX12_needing k_1610 k_1611 k_1609 (by decide) cX12 rfl ⟨by decide, by decide⟩ rfl hl rfl (Nat.le_of_ble_eq_true rfl) ⟨by show _ ≤ 609025; omega, by show _ ≤ 7269029; omega⟩ dL_law_1486) hS (fun H locs nr1486 hH hS => ?_)
        refine g_istore X (lv' := [(6, .int (iI r1486.1)), (5, .int (iI r1474.1)), (0, .ref b), (1, .ref (gAd G 0 0)), (2, .ref (gAd G 29 0)), (3, .ref (gAd G 75 0)), (4, .int (iI x4))]) dL_law_1489 hl (by decide) rfl (fun ls hl => ?_)
        refine lv_aload_n X.1 X.2.1 dL_law_1491 rfl (lv_at hl.1 4 rfl) ?_
        refine gGoI (gRunV X hH (As := []) (m_X12_thrown l G  r1486.2 _ rfl) calX12_thrown k_1381 k_1382 k_1380 (by decide) cX12 rfl ⟨by decide, by decide⟩ rfl hl rfl (Nat.le_of_ble_eq_true rfl) ⟨by show _ ≤ 609025; omega, by show _ ≤ 7269029; omega⟩ dL_law_1492) hS (fun H locs nr1492 hH hS => ?_)
        refine lv_iload X.1 X.2.1 dL_law_1495 (lv_at hl.1 1 rfl) ?_
        refine g_icmp_eq X nr1492 nr1474 (tgt := 1502) dL_law_1497 (by decide) (fun hc1497 => ?_) (fun hc1497 => ?_)
        · replace hf := it_t hf hc1497
          refine lv_iload X.1 X.2.1 dL_law_1502 (lv_at hl.1 1 rfl) ?_
          obtain ⟨k1519, ek1519, hf_⟩ := oj_e hf; clear hf; have hf := hf_; clear hf_
          have hk1519 : k1519 = some () → ∀ (H : Heap) (locs : List Loc) (ls : Array Slot) (ce sl : Nat), ce + 6 * n ≤ 609025 → sl + 36 * n ≤ 7269029 → gH G r1486.2 H → va_S (gA G) s.heap H locs → gLv ls 7 [(0, .ref b), (1, .ref (gAd G 0 0)), (2, .ref (gAd G 29 0)), (3, .ref (gAd G 75 0)), (4, .int (iI x4))] → W p l e room_1 s m #[Value.ref b] below meth c H locs ce sl (lw_Z below #[Value.ref b] s) (F0 m 1519 ls []) := by
            intro  hf H locs ls ce sl hce hsl hH hS hl
            subst ek1519
            refine lv_goto (tgt := 1672) X.1 X.2.1 dL_law_1519 (by decide) ?_
            exact hk1672 r1486.2 hf _ _ _ _ _ (by omega) (by omega) hH hS (gLv_sub hl [0, 1, 2, 3, 4] rfl)
          clear ek1519
          refine g_if_ne X nr1474 (tgt := 1519) dL_law_1504 (by decide) (fun hc1504 => ?_) (fun hc1504 => ?_)
          · replace hf := it_f hf hc1504
            exact hk1519  hf _ _ _ _ _ (by omega) (by omega) hH hS (gLv_sub hl [2, 3, 4, 5, 6] rfl)
          · replace hf := it_t hf hc1504
            refine lv_aload_n X.1 X.2.1 dL_law_1507 rfl (lv_at hl.1 5 rfl) ?_
            refine lv_iconst X.1 X.2.1 dL_law_1508 (v := iI 0) rfl ?_
            refine g_lald X hH dL_law_1509 ?_
            have nd1509 : nmI (r1486.2 75 0 0) := hH.1.1 _ _ _
            refine lv_iload X.1 X.2.1 dL_law_1510 (lv_at hl.1 0 rfl) ?_
            refine g_i2l X nr1486 dL_law_1512 ?_
            refine g_lcmp X nd1509 nr1486 dL_law_1513 ?_
            refine g_if_eq X (nmI_cmp _ _) (tgt := 1519) dL_law_1514 (by decide) (fun hc1514 => ?_) (fun hc1514 => ?_)
            · replace hf := it_t hf hc1514
              exact hk1519  hf _ _ _ _ _ (by omega) (by omega) hH hS (gLv_sub hl [2, 3, 4, 5, 6] rfl)
            · replace hf := it_f hf hc1514
              refine lv_iconst X.1 X.2.1 dL_law_1517 (v := iI 0) rfl ?_
              cases hf
        · replace hf := it_f hf hc1497
          refine lv_iconst X.1 X.2.1 dL_law_1500 (v := iI 0) rfl ?_
          cases hf
      replace hf := it_f hf hs21
      by_cases hs22 : gAnd (gXs xs x4.toNat) 31 = 22
      · replace hf := it_t hf hs22
        refine lv_tableIn (tgt := 1522) X.1 X.2.1 dL_law_40 (by rw [iI_T (nmI_and _ _)]; omega) (by rw [iI_T (nmI_and _ _)]; omega) (by rw [iI_T (nmI_and _ _), hs22]; rfl) (by decide) ?_
        refine lv_aload_n X.1 X.2.1 dL_law_1522 rfl (lv_at hl.1 1 rfl) ?_
        refine lv_aload_n X.1 X.2.1 dL_law_1523 rfl (lv_at hl.1 0 rfl) ?_
        refine lv_iload X.1 X.2.1 dL_law_1524 (lv_at hl.1 4 rfl) ?_
        refine lv_iconst X.1 X.2.1 dL_law_1526 (v := iI 1) rfl ?_
        refine g_iadd X dL_law_1527 ?_
        obtain ⟨hg, hf_⟩ := og_e hf; clear hf; have hf := hf_; clear hf_
        refine g_sld X hX hbl hbA hS (nmI_w _) hg dL_law_1528 ?_
        refine lv_aload_n X.1 X.2.1 dL_law_1529 rfl (lv_at hl.1 0 rfl) ?_
        refine lv_iload X.1 X.2.1 dL_law_1530 (lv_at hl.1 4 rfl) ?_
        refine lv_iconst X.1 X.2.1 dL_law_1532 (v := iI 2) rfl ?_
        refine g_iadd X dL_law_1533 ?_
        obtain ⟨hg, hf_⟩ := og_e hf; clear hf; have hf := hf_; clear hf_
        refine g_sld X hX hbl hbA hS (nmI_w _) hg dL_law_1534 ?_
        refine lv_aload_n X.1 X.2.1 dL_law_1535 rfl (lv_at hl.1 3 rfl) ?_
        obtain ⟨r1536, hq1536, hf_⟩ := ob_e hf; clear hf; have hf := hf_; clear hf_
        refine gGoL (gRunLX X Z hH hS (a := 4) (As := [.ref (gAd G 0 0), .int (iI (gXs xs (wI (x4 + 1)).toNat)), .int (iI (gXs xs (wI (x4 + 2)).toNat)), .ref (gAd G 75 0)]) (m_L_steps l hl0 G (gXs xs (wI (x4 + 1)).toNat) (nmI_of _) (gXs xs (wI (x4 + 2)).toNat) (nmI_of _) M _ hq1536) k_1180 k_64 ⟨by decide, by decide⟩ (by decide +kernel) k_1179 k_1178 ⟨by decide, by decide⟩ rfl hl rfl (Nat.le_of_ble_eq_true rfl) ⟨by show _ ≤ 609025; omega, by show _ ≤ 7269029; omega⟩ dL_law_1536) hS (fun H locs nr1536 hH hS => ?_)
        refine g_istore X (lv' := [(5, .int (iI r1536.1)), (0, .ref b), (1, .ref (gAd G 0 0)), (2, .ref (gAd G 29 0)), (3, .ref (gAd G 75 0)), (4, .int (iI x4))]) dL_law_1539 hl (by decide) rfl (fun ls hl => ?_)
        refine lv_aload_n X.1 X.2.1 dL_law_1541 rfl (lv_at hl.1 3 rfl) ?_
        refine lv_aload_n X.1 X.2.1 dL_law_1542 rfl (lv_at hl.1 1 rfl) ?_
        refine lv_iload X.1 X.2.1 dL_law_1543 (lv_at hl.1 5 rfl) ?_
        refine lv_iconst X.1 X.2.1 dL_law_1545 (v := iI 1) rfl ?_
        refine g_iadd X dL_law_1546 ?_
        obtain ⟨hg, hf_⟩ := og_e hf; clear hf; have hf := hf_; clear hf_
        refine g_sld X hX hbl hbA hS (nmI_w _) hg dL_law_1547 ?_
        refine lv_aload_n X.1 X.2.1 dL_law_1548 rfl (lv_at hl.1 1 rfl) ?_
        refine lv_iload X.1 X.2.1 dL_law_1549 (lv_at hl.1 5 rfl) ?_
        refine lv_iconst X.1 X.2.1 dL_law_1551 (v := iI 2) rfl ?_
        refine g_iadd X dL_law_1552 ?_
        obtain ⟨hg, hf_⟩ := og_e hf; clear hf; have hf := hf_; clear hf_
        refine g_sld X hX hbl hbA hS (nmI_w _) hg dL_law_1553 ?_
        obtain ⟨r1554, hq1554, hf_⟩ := ob_e hf; clear hf; have hf := hf_; clear hf_
        refine gGoI (gRunV X hH (As := [.int (iI (gXs xs (wI (x4 + 1)).toNat)), .int (iI (gXs xs (wI (x4 + 2)).toNat))]) (m_X12_steps l G (gXs xs (wI (x4 + 1)).toNat) (nmI_of _) (gXs xs (wI (x4 + 2)).toNat) (nmI_of _) r1536.2 _ hq1554) calX12_steps k_1614 k_1615 k_1613 (by decide) cX12 rfl ⟨by decide, by decide⟩ rfl hl rfl (Nat.le_of_ble_eq_true rfl) ⟨by show _ ≤ 609025; omega, by show _ ≤ 7269029; omega⟩ dL_law_1554) hS (fun H locs nr1554 hH hS => ?_)
        refine g_istore X (lv' := [(6, .int (iI r1554.1)), (5, .int (iI r1536.1)), (0, .ref b), (1, .ref (gAd G 0 0)), (2, .ref (gAd G 29 0)), (3, .ref (gAd G 75 0)), (4, .int (iI x4))]) dL_law_1557 hl (by decide) rfl (fun ls hl => ?_)
        refine lv_aload_n X.1 X.2.1 dL_law_1559 rfl (lv_at hl.1 4 rfl) ?_
        refine gGoI (gRunV X hH (As := []) (m_X12_thrown l G  r1554.2 _ rfl) calX12_thrown k_1381 k_1382 k_1380 (by decide) cX12 rfl ⟨by decide, by decide⟩ rfl hl rfl (Nat.le_of_ble_eq_true rfl) ⟨by show _ ≤ 609025; omega, by show _ ≤ 7269029; omega⟩ dL_law_1560) hS (fun H locs nr1560 hH hS => ?_)
        refine lv_iload X.1 X.2.1 dL_law_1563 (lv_at hl.1 1 rfl) ?_
        refine g_icmp_eq X nr1560 nr1536 (tgt := 1570) dL_law_1565 (by decide) (fun hc1565 => ?_) (fun hc1565 => ?_)
        · replace hf := it_t hf hc1565
          refine lv_iload X.1 X.2.1 dL_law_1570 (lv_at hl.1 1 rfl) ?_
          obtain ⟨k1587, ek1587, hf_⟩ := oj_e hf; clear hf; have hf := hf_; clear hf_
          have hk1587 : k1587 = some () → ∀ (H : Heap) (locs : List Loc) (ls : Array Slot) (ce sl : Nat), ce + 6 * n ≤ 609025 → sl + 36 * n ≤ 7269029 → gH G r1554.2 H → va_S (gA G) s.heap H locs → gLv ls 7 [(0, .ref b), (1, .ref (gAd G 0 0)), (2, .ref (gAd G 29 0)), (3, .ref (gAd G 75 0)), (4, .int (iI x4))] → W p l e room_1 s m #[Value.ref b] below meth c H locs ce sl (lw_Z below #[Value.ref b] s) (F0 m 1587 ls []) := by
            intro  hf H locs ls ce sl hce hsl hH hS hl
            subst ek1587
            refine lv_goto (tgt := 1672) X.1 X.2.1 dL_law_1587 (by decide) ?_
            exact hk1672 r1554.2 hf _ _ _ _ _ (by omega) (by omega) hH hS (gLv_sub hl [0, 1, 2, 3, 4] rfl)
          clear ek1587
          refine g_if_ne X nr1536 (tgt := 1587) dL_law_1572 (by decide) (fun hc1572 => ?_) (fun hc1572 => ?_)
          · replace hf := it_f hf hc1572
            exact hk1587  hf _ _ _ _ _ (by omega) (by omega) hH hS (gLv_sub hl [2, 3, 4, 5, 6] rfl)
          · replace hf := it_t hf hc1572
            refine lv_aload_n X.1 X.2.1 dL_law_1575 rfl (lv_at hl.1 5 rfl) ?_
            refine lv_iconst X.1 X.2.1 dL_law_1576 (v := iI 0) rfl ?_
            refine g_lald X hH dL_law_1577 ?_
            have nd1577 : nmI (r1554.2 75 0 0) := hH.1.1 _ _ _
            refine lv_iload X.1 X.2.1 dL_law_1578 (lv_at hl.1 0 rfl) ?_
            refine g_i2l X nr1554 dL_law_1580 ?_
            refine g_lcmp X nd1577 nr1554 dL_law_1581 ?_
            refine g_if_eq X (nmI_cmp _ _) (tgt := 1587) dL_law_1582 (by decide) (fun hc1582 => ?_) (fun hc1582 => ?_)
            · replace hf := it_t hf hc1582
              exact hk1587  hf _ _ _ _ _ (by omega) (by omega) hH hS (gLv_sub hl [2, 3, 4, 5, 6] rfl)
            · replace hf := it_f hf hc1582
              refine lv_iconst X.1 X.2.1 dL_law_1585 (v := iI 0) rfl ?_
              cases hf
        · replace hf := it_f hf hc1565
          refine lv_iconst X.1 X.2.1 dL_law_1568 (v := iI 0) rfl ?_
          cases hf
      replace hf := it_f hf hs22
      by_cases hs23 : gAnd (gXs xs x4.toNat) 31 = 23
      · replace hf := it_t hf hs23
        refine lv_tableIn (tgt := 1590) X.1 X.2.1 dL_law_40 (by rw [iI_T (nmI_and _ _)]; omega) (by rw [iI_T (nmI_and _ _)]; omega) (by rw [iI_T (nmI_and _ _), hs23]; rfl) (by decide) ?_
        refine lv_aload_n X.1 X.2.1 dL_law_1590 rfl (lv_at hl.1 1 rfl) ?_
        refine gGoI (gRunV X hH (As := []) (m_X11_changes l G  M _ rfl) calX11_changes k_513 k_514 k_512 (by decide) cX11 rfl ⟨by decide, by decide⟩ rfl hl rfl (Nat.le_of_ble_eq_true rfl) ⟨by show _ ≤ 609025; omega, by show _ ≤ 7269029; omega⟩ dL_law_1591) hS (fun H locs nr1591 hH hS => ?_)
        refine lv_aload_n X.1 X.2.1 dL_law_1594 rfl (lv_at hl.1 2 rfl) ?_
        refine gGoI (gRunV X hH (As := []) (m_X12_changes l G  M _ rfl) calX12_changes k_1618 k_1619 k_1617 (by decide) cX12 rfl ⟨by decide, by decide⟩ rfl hl rfl (Nat.le_of_ble_eq_true rfl) ⟨by show _ ≤ 609025; omega, by show _ ≤ 7269029; omega⟩ dL_law_1595) hS (fun H locs nr1595 hH hS => ?_)
        refine g_icmp_eq X nr1591 nr1595 (tgt := 1672) dL_law_1598 (by decide) (fun hc1598 => ?_) (fun hc1598 => ?_)
        · replace hf := it_t hf hc1598
          exact hk1672 ((f_X12_changes M).2) hf _ _ _ _ _ (by omega) (by omega) hH hS (gLv_sub hl [0, 1, 2, 3, 4] rfl)
        · replace hf := it_f hf hc1598
          refine lv_iconst X.1 X.2.1 dL_law_1601 (v := iI 0) rfl ?_
          cases hf
      replace hf := it_f hf hs23
      by_cases hs24 : gAnd (gXs xs x4.toNat) 31 = 24
      · replace hf := it_t hf hs24
        refine lv_tableIn (tgt := 1603) X.1 X.2.1 dL_law_40 (by rw [iI_T (nmI_and _ _)]; omega) (by rw [iI_T (nmI_and _ _)]; omega) (by rw [iI_T (nmI_and _ _), hs24]; rfl) (by decide) ?_
        refine lv_aload_n X.1 X.2.1 dL_law_1603 rfl (lv_at hl.1 1 rfl) ?_
        refine lv_aload_n X.1 X.2.1 dL_law_1604 rfl (lv_at hl.1 0 rfl) ?_
        refine lv_iload X.1 X.2.1 dL_law_1605 (lv_at hl.1 4 rfl) ?_
        refine lv_iconst X.1 X.2.1 dL_law_1607 (v := iI 1) rfl ?_
        refine g_iadd X dL_law_1608 ?_
        obtain ⟨hg, hf_⟩ := og_e hf; clear hf; have hf := hf_; clear hf_
        refine g_sld X hX hbl hbA hS (nmI_w _) hg dL_law_1609 ?_
        refine lv_aload_n X.1 X.2.1 dL_law_1610 rfl (lv_at hl.1 3 rfl) ?_
        obtain ⟨r1611, hq1611, hf_⟩ := ob_e hf; clear hf; have hf := hf_; clear hf_
        refine gGoL (gRunLX X Z hH hS (a := 3) (As := [.ref (gAd G 0 0), .int (iI (gXs xs (wI (x4 + 1)).toNat)), .ref (gAd G 75 0)]) (m_L_bisect l hl0 G (gXs xs (wI (x4 + 1)).toNat) (nmI_of _) M _ hq1611) k_1195 k_64 ⟨by decide, by decide⟩ (by decide +kernel) k_1194 k_1193 ⟨by decide, by decide⟩ rfl hl rfl (Nat.le_of_ble_eq_true rfl) ⟨by show _ ≤ 609025; omega, by show _ ≤ 7269029; omega⟩ dL_law_1611) hS (fun H locs nr1611 hH hS => ?_)
        refine g_istore X (lv' := [(5, .int (iI r1611.1)), (0, .ref b), (1, .ref (gAd G 0 0)), (2, .ref (gAd G 29 0)), (3, .ref (gAd G 75 0)), (4, .int (iI x4))]) dL_law_1614 hl (by decide) rfl (fun ls hl => ?_)
        refine lv_aload_n X.1 X.2.1 dL_law_1616 rfl (lv_at hl.1 3 rfl) ?_
        refine lv_aload_n X.1 X.2.1 dL_law_1617 rfl (lv_at hl.1 1 rfl) ?_
        refine lv_iload X.1 X.2.1 dL_law_1618 (lv_at hl.1 5 rfl) ?_
        refine lv_iconst X.1 X.2.1 dL_law_1620 (v := iI 1) rfl ?_
        refine g_iadd X dL_law_1621 ?_
        obtain ⟨hg, hf_⟩ := og_e hf; clear hf; have hf := hf_; clear hf_
        refine g_sld X hX hbl hbA hS (nmI_w _) hg dL_law_1622 ?_
        obtain ⟨r1623, hq1623, hf_⟩ := ob_e hf; clear hf; have hf := hf_; clear hf_
        refine gGoI (gRunV X hH (As := [.int (iI (gXs xs (wI (x4 + 1)).toNat))]) (m_X12_bisect l G (gXs xs (wI (x4 + 1)).toNat) (nmI_of _) r1611.2 _ hq1623) calX12_bisect k_1622 k_1623 k_1621 (by decide) cX12 rfl ⟨by decide, by decide⟩ rfl hl rfl (Nat.le_of_ble_eq_true rfl) ⟨by show _ ≤ 609025; omega, by show _ ≤ 7269029; omega⟩ dL_law_1623) hS (fun H locs nr1623 hH hS => ?_)
        refine g_istore X (lv' := [(6, .int (iI r1623.1)), (5, .int (iI r1611.1)), (0, .ref b), (1, .ref (gAd G 0 0)), (2, .ref (gAd G 29 0)), (3, .ref (gAd G 75 0)), (4, .int (iI x4))]) dL_law_1626 hl (by decide) rfl (fun ls hl => ?_)
        refine lv_aload_n X.1 X.2.1 dL_law_1628 rfl (lv_at hl.1 4 rfl) ?_
        refine gGoI (gRunV X hH (As := []) (m_X12_thrown l G  r1623.2 _ rfl) calX12_thrown k_1381 k_1382 k_1380 (by decide) cX12 rfl ⟨by decide, by decide⟩ rfl hl rfl (Nat.le_of_ble_eq_true rfl) ⟨by show _ ≤ 609025; omega, by show _ ≤ 7269029; omega⟩ dL_law_1629) hS (fun H locs nr1629 hH hS => ?_)
        refine lv_iload X.1 X.2.1 dL_law_1632 (lv_at hl.1 1 rfl) ?_
        refine g_icmp_eq X nr1629 nr1611 (tgt := 1639) dL_law_1634 (by decide) (fun hc1634 => ?_) (fun hc1634 => ?_)
        · replace hf := it_t hf hc1634
          refine lv_iload X.1 X.2.1 dL_law_1639 (lv_at hl.1 1 rfl) ?_
          obtain ⟨k1656, ek1656, hf_⟩ := oj_e hf; clear hf; have hf := hf_; clear hf_
          have hk1656 : k1656 = some () → ∀ (H : Heap) (locs : List Loc) (ls : Array Slot) (ce sl : Nat), ce + 6 * n ≤ 609025 → sl + 36 * n ≤ 7269029 → gH G r1623.2 H → va_S (gA G) s.heap H locs → gLv ls 7 [(0, .ref b), (1, .ref (gAd G 0 0)), (2, .ref (gAd G 29 0)), (3, .ref (gAd G 75 0)), (4, .int (iI x4))] → W p l e room_1 s m #[Value.ref b] below meth c H locs ce sl (lw_Z below #[Value.ref b] s) (F0 m 1656 ls []) := by
            intro  hf H locs ls ce sl hce hsl hH hS hl
            subst ek1656
            refine lv_goto (tgt := 1672) X.1 X.2.1 dL_law_1656 (by decide) ?_
            exact hk1672 r1623.2 hf _ _ _ _ _ (by omega) (by omega) hH hS (gLv_sub hl [0, 1, 2, 3, 4] rfl)
          clear ek1656
          refine g_if_ne X nr1611 (tgt := 1656) dL_law_1641 (by decide) (fun hc1641 => ?_) (fun hc1641 => ?_)
          · replace hf := it_f hf hc1641
            exact hk1656  hf _ _ _ _ _ (by omega) (by omega) hH hS (gLv_sub hl [2, 3, 4, 5, 6] rfl)
          · replace hf := it_t hf hc1641
            refine lv_aload_n X.1 X.2.1 dL_law_1644 rfl (lv_at hl.1 5 rfl) ?_
            refine lv_iconst X.1 X.2.1 dL_law_1645 (v := iI 0) rfl ?_
            refine g_lald X hH dL_law_1646 ?_
            have nd1646 : nmI (r1623.2 75 0 0) := hH.1.1 _ _ _
            refine lv_iload X.1 X.2.1 dL_law_1647 (lv_at hl.1 0 rfl) ?_
            refine g_i2l X nr1623 dL_law_1649 ?_
            refine g_lcmp X nd1646 nr1623 dL_law_1650 ?_
            refine g_if_eq X (nmI_cmp _ _) (tgt := 1656) dL_law_1651 (by decide) (fun hc1651 => ?_) (fun hc1651 => ?_)
            · replace hf := it_t hf hc1651
              exact hk1656  hf _ _ _ _ _ (by omega) (by omega) hH hS (gLv_sub hl [2, 3, 4, 5, 6] rfl)
            · replace hf := it_f hf hc1651
              refine lv_iconst X.1 X.2.1 dL_law_1654 (v := iI 0) rfl ?_
              cases hf
        · replace hf := it_f hf hc1634
          refine lv_iconst X.1 X.2.1 dL_law_1637 (v := iI 0) rfl ?_
          cases hf
      replace hf := it_f hf hs24
      by_cases hs25 : gAnd (gXs xs x4.toNat) 31 = 25
      · replace hf := it_t hf hs25
        refine lv_tableIn (tgt := 1659) X.1 X.2.1 dL_law_40 (by rw [iI_T (nmI_and _ _)]; omega) (by rw [iI_T (nmI_and _ _)]; omega) (by rw [iI_T (nmI_and _ _), hs25]; rfl) (by decide) ?_
        refine lv_aload_n X.1 X.2.1 dL_law_1659 rfl (lv_at hl.1 1 rfl) ?_
        refine gGoI (gRunV X hH (As := []) (m_X11_looks l G  M _ rfl) calX11_looks k_517 k_518 k_516 (by decide) cX11 rfl ⟨by decide, by decide⟩ rfl hl rfl (Nat.le_of_ble_eq_true rfl) ⟨by show _ ≤ 609025; omega, by show _ ≤ 7269029; omega⟩ dL_law_1660) hS (fun H locs nr1660 hH hS => ?_)
        refine lv_aload_n X.1 X.2.1 dL_law_1663 rfl (lv_at hl.1 2 rfl) ?_
        refine gGoI (gRunV X hH (As := []) (m_X12_looks l G  M _ rfl) calX12_looks k_1630 k_1631 k_1629 (by decide) cX12 rfl ⟨by decide, by decide⟩ rfl hl rfl (Nat.le_of_ble_eq_true rfl) ⟨by show _ ≤ 609025; omega, by show _ ≤ 7269029; omega⟩ dL_law_1664) hS (fun H locs nr1664 hH hS => ?_)
        refine g_icmp_eq X nr1660 nr1664 (tgt := 1672) dL_law_1667 (by decide) (fun hc1667 => ?_) (fun hc1667 => ?_)
        · replace hf := it_t hf hc1667
          exact hk1672 ((f_X12_looks M).2) hf _ _ _ _ _ (by omega) (by omega) hH hS (gLv_sub hl [0, 1, 2, 3, 4] rfl)
        · replace hf := it_f hf hc1667
          refine lv_iconst X.1 X.2.1 dL_law_1670 (v := iI 0) rfl ?_
          cases hf
      replace hf := it_f hf hs25
      refine lv_tableOut (tgt := 1672) X.1 X.2.1 dL_law_40 (by rw [iI_T (nmI_and _ _)]; omega) (by decide) ?_
      exact hk1672 M hf _ _ _ _ _ (by omega) (by omega) hH hS (gLv_sub hl [0, 1, 2, 3, 4] rfl)
