set_option maxHeartbeats 4000000 in
theorem w_P_law_L58 {G : gG} {p : Program} {l : Launch} {e : Env} {s : State} {m : MethodId} {below : List Frame} {meth : Method} {c : Code} {b L : Nat} {xs : Nat → Int32} (X : gX G p s m #[Value.ref b] meth c RL code 9 ret lw_tbl) (hl0 : l.stackTraces = false) (Z : gS G s) (h0 : gBan G = 0) (hG1 : G.1 = s.heap.size) (hX : va_X b L xs s s.heap) (hbl : b < s.heap.size) (hb9 : b < G.1) (hbA : ¬ gA G b) (nL9 : nmI (L : Int)) (k189 : Int → gM → Option Unit) (z3 : Int) (nz3 : nmI z3) (z4 : Int) (nz4 : nmI z4) (z5 : Int) (nz5 : nmI z5) (zz : Nat) (q : Unit) (hk189 : ∀ (x2 : Int) (bx2 : x2 = 0 ∨ x2 = 1) (M : gM), k189 x2 M = some q → ∀ (H : Heap) (locs : List Loc) (ls : Array Slot) (ce sl : Nat), ce + (zz) ≤ 608946 → sl + 6 * (zz) ≤ 7274932 → gH G M H → va_S (gA G) s.heap H locs → gLv ls 9 [(0, .ref b), (1, .ref (gAd G 0 0)), (2, .int (iI x2)), (3, .int (iI z3)), (4, .int (iI z4)), (5, .int (iI z5))] → W p l e room_1 s m #[Value.ref b] below meth c H locs ce sl (lw_Z below #[Value.ref b] s) (F0 m 189 ls [])) : ∀ (n : Nat) (x2 : Int) (bx2 : x2 = 0 ∨ x2 = 1) (x6 : Int) (nx6 : nmI x6) (M : gM), f_P_law_L58 k189 xs L z3 z4 z5 n x2 x6 M = some q → ∀ (H : Heap) (locs : List Loc) (ls : Array Slot) (ce sl : Nat), ce + (n * 6 + zz) ≤ 608946 → sl + 6 * (n * 6 + zz) ≤ 7274932 → gH G M H → va_S (gA G) s.heap H locs → gLv ls 9 [(0, .ref b), (1, .ref (gAd G 0 0)), (2, .int (iI x2)), (3, .int (iI z3)), (4, .int (iI z4)), (5, .int (iI z5)), (6, .int (iI x6))] → W p l e room_1 s m #[Value.ref b] below meth c H locs ce sl (lw_Z below #[Value.ref b] s) (F0 m 58 ls []) := by
  intro n
  induction n with
  | zero =>
    intro x2 bx2 x6 nx6 M hf
    cases hf
  | succ n ih =>
    intro x2 bx2 x6 nx6 M hf H locs ls ce sl hce hsl hH hS hl
    rw [f_P_law_L58] at hf
    refine lv_iload X.1 X.2.1 dL_law_58 (lv_at hl.1 6 rfl) ?_
    refine lv_iload X.1 X.2.1 dL_law_60 (lv_at hl.1 5 rfl) ?_
    refine lv_iconst X.1 X.2.1 dL_law_62 (v := iI 2) rfl ?_
    refine g_irem X nz5 (nmI_l (by decide)) (by decide) dL_law_63 ?_
    refine g_icmp_gt X nx6 (nmI_rem _ _) (tgt := 189) dL_law_64 (by decide) (fun hc64 => ?_) (fun hc64 => ?_)
    · replace hf := it_t hf hc64
      exact hk189 x2 bx2 M hf _ _ _ _ _ (by omega) (by omega) hH hS (gLv_sub hl [0, 1, 2, 3, 4, 5] rfl)
    · replace hf := it_f hf hc64
      refine lv_iload_n X.1 X.2.1 dL_law_67 rfl (lv_at hl.1 2 rfl) ?_
      refine g_if_eq X (nmI_b bx2) (tgt := 189) dL_law_68 (by decide) (fun hc68 => ?_) (fun hc68 => ?_)
      · replace hf := it_t hf hc68
        exact hk189 x2 bx2 M hf _ _ _ _ _ (by omega) (by omega) hH hS (gLv_sub hl [0, 1, 2, 3, 4, 5] rfl)
      · replace hf := it_f hf hc68
        refine lv_iload X.1 X.2.1 dL_law_71 (lv_at hl.1 5 rfl) ?_
        refine lv_iconst X.1 X.2.1 dL_law_73 (v := iI 2) rfl ?_
        refine g_idiv X nz5 (nmI_l (by decide)) (by decide) dL_law_74 ?_
        refine lv_bipush X.1 X.2.1 dL_law_75 (v := iI 37) (by decide) ?_
        refine lv_iload X.1 X.2.1 dL_law_77 (lv_at hl.1 6 rfl) ?_
        refine g_imul X dL_law_79 ?_
        refine g_iadd X dL_law_80 ?_
        refine g_istore X (lv' := [(7, .int (iI (wI ((wI (z5.tdiv 2)) + (wI (37 * x6)))))), (0, .ref b), (1, .ref (gAd G 0 0)), (2, .int (iI x2)), (3, .int (iI z3)), (4, .int (iI z4)), (5, .int (iI z5)), (6, .int (iI x6))]) dL_law_81 hl (by decide) rfl (fun ls hl => ?_)
        refine lv_iload X.1 X.2.1 dL_law_83 (lv_at hl.1 0 rfl) ?_
        refine lv_iconst X.1 X.2.1 dL_law_85 (v := iI 2) rfl ?_
        refine g_irem X (nmI_w _) (nmI_l (by decide)) (by decide) dL_law_86 ?_
        obtain ⟨k115, ek115, hf_⟩ := oj_e hf; clear hf; have hf := hf_; clear hf_
        have hk115 : ∀ (xs0_115 : Int) (nxs0_115 : nmI xs0_115), k115 xs0_115 = some q → ∀ (H : Heap) (locs : List Loc) (ls : Array Slot) (ce sl : Nat), ce + (6 + (n * 6 + zz)) ≤ 608946 → sl + 6 * (6 + (n * 6 + zz)) ≤ 7274932 → gH G M H → va_S (gA G) s.heap H locs → gLv ls 9 [(0, .ref b), (1, .ref (gAd G 0 0)), (3, .int (iI z3)), (4, .int (iI z4)), (5, .int (iI z5)), (6, .int (iI x6)), (7, .int (iI (wI ((wI (z5.tdiv 2)) + (wI (37 * x6))))))] → W p l e room_1 s m #[Value.ref b] below meth c H locs ce sl (lw_Z below #[Value.ref b] s) (F0 m 115 ls [.int (iI xs0_115)]) := by
          clear hce hsl
          intro xs0_115 nxs0_115 hf H locs ls ce sl hce hsl hH hS hl
          subst ek115
          refine g_istore X (lv' := [(8, .int (iI xs0_115)), (0, .ref b), (1, .ref (gAd G 0 0)), (3, .int (iI z3)), (4, .int (iI z4)), (5, .int (iI z5)), (6, .int (iI x6)), (7, .int (iI (wI ((wI (z5.tdiv 2)) + (wI (37 * x6))))))]) dL_law_115 hl (by decide) rfl (fun ls hl => ?_)
          refine lv_aload_n X.1 X.2.1 dL_law_117 rfl (lv_at hl.1 2 rfl) ?_
          refine lv_iload X.1 X.2.1 dL_law_118 (lv_at hl.1 0 rfl) ?_
          refine lv_iload X.1 X.2.1 dL_law_120 (lv_at hl.1 7 rfl) ?_
          refine lv_iconst X.1 X.2.1 dL_law_122 (v := iI 3) rfl ?_
          refine g_irem X (nmI_w _) (nmI_l (by decide)) (by decide) dL_law_123 ?_
          obtain ⟨k138, ek138, hf_⟩ := oj_e hf; clear hf; have hf := hf_; clear hf_
          have hk138 : ∀ (xs2_138 : Int) (nxs2_138 : nmI xs2_138), k138 xs2_138 = some q → ∀ (H : Heap) (locs : List Loc) (ls : Array Slot) (ce sl : Nat), ce + (6 + (n * 6 + zz)) ≤ 608946 → sl + 6 * (6 + (n * 6 + zz)) ≤ 7274932 → gH G M H → va_S (gA G) s.heap H locs → gLv ls 9 [(0, .ref b), (1, .ref (gAd G 0 0)), (3, .int (iI z3)), (4, .int (iI z4)), (5, .int (iI z5)), (6, .int (iI x6)), (7, .int (iI (wI ((wI (z5.tdiv 2)) + (wI (37 * x6))))))] → W p l e room_1 s m #[Value.ref b] below meth c H locs ce sl (lw_Z below #[Value.ref b] s) (F0 m 138 ls [.int (iI xs2_138), .int (iI xs0_115), .ref (gAd G 0 0)]) := by
            clear hce hsl
            intro xs2_138 nxs2_138 hf H locs ls ce sl hce hsl hH hS hl
            subst ek138
            refine lv_iload X.1 X.2.1 dL_law_138 (lv_at hl.1 6 rfl) ?_
            refine lv_iconst X.1 X.2.1 dL_law_140 (v := iI 3) rfl ?_
            refine g_irem X (nmI_w _) (nmI_l (by decide)) (by decide) dL_law_141 ?_
            obtain ⟨k155, ek155, hf_⟩ := oj_e hf; clear hf; have hf := hf_; clear hf_
            have hk155 : ∀ (xs3_155 : Int) (nxs3_155 : nmI xs3_155), k155 xs3_155 = some q → ∀ (H : Heap) (locs : List Loc) (ls : Array Slot) (ce sl : Nat), ce + (6 + (n * 6 + zz)) ≤ 608946 → sl + 6 * (6 + (n * 6 + zz)) ≤ 7274932 → gH G M H → va_S (gA G) s.heap H locs → gLv ls 9 [(0, .ref b), (1, .ref (gAd G 0 0)), (3, .int (iI z3)), (4, .int (iI z4)), (5, .int (iI z5)), (6, .int (iI x6)), (7, .int (iI (wI ((wI (z5.tdiv 2)) + (wI (37 * x6))))))] → W p l e room_1 s m #[Value.ref b] below meth c H locs ce sl (lw_Z below #[Value.ref b] s) (F0 m 155 ls [.int (iI xs3_155), .int (iI xs2_138), .int (iI xs0_115), .ref (gAd G 0 0)]) := by
              clear hce hsl
              intro xs3_155 nxs3_155 hf H locs ls ce sl hce hsl hH hS hl
              subst ek155
              refine lv_iload X.1 X.2.1 dL_law_155 (lv_at hl.1 6 rfl) ?_
              refine lv_iconst X.1 X.2.1 dL_law_157 (v := iI 3) rfl ?_
              refine g_irem X (nmI_w _) (nmI_l (by decide)) (by decide) dL_law_158 ?_
              obtain ⟨k167, ek167, hf_⟩ := oj_e hf; clear hf; have hf := hf_; clear hf_
              have hk167 : ∀ (xs4_167 : Int) (bxs4_167 : xs4_167 = 0 ∨ xs4_167 = 1), k167 xs4_167 = some q → ∀ (H : Heap) (locs : List Loc) (ls : Array Slot) (ce sl : Nat), ce + (6 + (n * 6 + zz)) ≤ 608946 → sl + 6 * (6 + (n * 6 + zz)) ≤ 7274932 → gH G M H → va_S (gA G) s.heap H locs → gLv ls 9 [(0, .ref b), (1, .ref (gAd G 0 0)), (3, .int (iI z3)), (4, .int (iI z4)), (5, .int (iI z5)), (6, .int (iI x6))] → W p l e room_1 s m #[Value.ref b] below meth c H locs ce sl (lw_Z below #[Value.ref b] s) (F0 m 167 ls [.int (iI xs4_167), .int (iI xs3_155), .int (iI xs2_138), .int (iI xs0_115), .ref (gAd G 0 0)]) := by
                clear hce hsl
                intro xs4_167 bxs4_167 hf H locs ls ce sl hce hsl hH hS hl
                subst ek167
                obtain ⟨r167, hq167, hf_⟩ := ob_e hf; clear hf; have hf := hf_; clear hf_
                refine gGoL (gRunLX X Z hH hS (a := 5) (As := [.ref (gAd G 0 0), .int (iI xs0_115), .int (iI xs2_138), .int (iI xs3_155), .int (iI xs4_167)]) (m_P_input l hl0 G xs0_115 nxs0_115 xs2_138 nxs2_138 xs3_155 nxs3_155 xs4_167 (nmI_b bxs4_167) M _ hq167) k_1077 k_30 ⟨by decide, by decide⟩ (by decide +kernel) k_1076 k_1075 ⟨by decide, by decide⟩ rfl hl rfl (Nat.le_of_ble_eq_true rfl) ⟨by show _ ≤ 608946; omega, by show _ ≤ 7274932; omega⟩ dL_law_167) hS (fun H locs nr167 hH hS => ?_)
                refine lv_iload X.1 X.2.1 dL_law_170 (lv_at hl.1 5 rfl) ?_
                refine lv_iconst X.1 X.2.1 dL_law_172 (v := iI 1) rfl ?_
                refine g_iadd X dL_law_173 ?_
                obtain ⟨k182, ek182, hf_⟩ := oj_e hf; clear hf; have hf := hf_; clear hf_
                have hk182 : ∀ (xs0_182 : Int) (bxs0_182 : xs0_182 = 0 ∨ xs0_182 = 1), k182 xs0_182 = some q → ∀ (H : Heap) (locs : List Loc) (ls : Array Slot) (ce sl : Nat), ce + (0 + (n * 6 + zz)) ≤ 608946 → sl + 6 * (0 + (n * 6 + zz)) ≤ 7274932 → gH G r167.2 H → va_S (gA G) s.heap H locs → gLv ls 9 [(0, .ref b), (1, .ref (gAd G 0 0)), (3, .int (iI z3)), (4, .int (iI z4)), (5, .int (iI z5)), (6, .int (iI x6))] → W p l e room_1 s m #[Value.ref b] below meth c H locs ce sl (lw_Z below #[Value.ref b] s) (F0 m 182 ls [.int (iI xs0_182)]) := by
                  clear hce hsl
                  intro xs0_182 bxs0_182 hf H locs ls ce sl hce hsl hH hS hl
                  subst ek182
                  refine g_istore_n X (lv' := [(2, .int (iI xs0_182)), (0, .ref b), (1, .ref (gAd G 0 0)), (3, .int (iI z3)), (4, .int (iI z4)), (5, .int (iI z5)), (6, .int (iI x6))]) dL_law_182 rfl hl (by decide) rfl (fun ls hl => ?_)
                  refine g_iinc X (a := x6) (lv' := [(6, .int (iI (wI (x6 + 1)))), (2, .int (iI xs0_182)), (0, .ref b), (1, .ref (gAd G 0 0)), (3, .int (iI z3)), (4, .int (iI z4)), (5, .int (iI z5))]) dL_law_183 hl (k := 6) rfl (by decide) rfl (fun ls hl => ?_)
                  refine lv_goto (tgt := 58) X.1 X.2.1 dL_law_186 (by decide) ?_
                  exact ih xs0_182 bxs0_182 (wI (x6 + 1)) (nmI_w _) r167.2 hf _ _ _ _ _ (by omega) (by omega) hH hS (gLv_sub hl [2, 3, 1, 4, 5, 6, 0] rfl)
                clear ek182
                refine g_icmp_ne X nr167 (nmI_w _) (tgt := 181) dL_law_174 (by decide) (fun hc174 => ?_) (fun hc174 => ?_)
                · replace hf := it_f hf hc174
                  refine lv_iconst X.1 X.2.1 dL_law_181 (v := iI 0) rfl ?_
                  exact hk182 0 (by decide) hf _ _ _ _ _ (by omega) (by omega) hH hS (gLv_sub hl [0, 1, 2, 3, 4, 5] rfl)
                · replace hf := it_t hf hc174
                  refine lv_iconst X.1 X.2.1 dL_law_177 (v := iI 1) rfl ?_
                  refine lv_goto (tgt := 182) X.1 X.2.1 dL_law_178 (by decide) ?_
                  exact hk182 1 (by decide) hf _ _ _ _ _ (by omega) (by omega) hH hS (gLv_sub hl [0, 1, 2, 3, 4, 5] rfl)
              clear ek167
              refine g_if_ne X (nmI_rem _ _) (tgt := 166) dL_law_159 (by decide) (fun hc159 => ?_) (fun hc159 => ?_)
              · replace hf := it_f hf hc159
                refine lv_iconst X.1 X.2.1 dL_law_166 (v := iI 0) rfl ?_
                exact hk167 0 (by decide) hf _ _ _ _ _ (by omega) (by omega) hH hS (gLv_sub hl [0, 1, 2, 3, 4, 5] rfl)
              · replace hf := it_t hf hc159
                refine lv_iconst X.1 X.2.1 dL_law_162 (v := iI 1) rfl ?_
                refine lv_goto (tgt := 167) X.1 X.2.1 dL_law_163 (by decide) ?_
                exact hk167 1 (by decide) hf _ _ _ _ _ (by omega) (by omega) hH hS (gLv_sub hl [0, 1, 2, 3, 4, 5] rfl)
            clear ek155
            refine g_if_ne X (nmI_rem _ _) (tgt := 154) dL_law_142 (by decide) (fun hc142 => ?_) (fun hc142 => ?_)
            · replace hf := it_f hf hc142
              refine lv_iconst X.1 X.2.1 dL_law_154 (v := iI 0) rfl ?_
              exact hk155 0 (nmI_l (by decide)) hf _ _ _ _ _ (by omega) (by omega) hH hS (gLv_sub hl [0, 1, 2, 3, 4, 5, 6] rfl)
            · replace hf := it_t hf hc142
              refine lv_iload X.1 X.2.1 dL_law_145 (lv_at hl.1 6 rfl) ?_
              refine lv_iconst X.1 X.2.1 dL_law_147 (v := iI 5) rfl ?_
              refine g_idiv X (nmI_w _) (nmI_l (by decide)) (by decide) dL_law_148 ?_
              refine lv_iconst X.1 X.2.1 dL_law_149 (v := iI 4) rfl ?_
              refine g_irem X (nmI_w _) (nmI_l (by decide)) (by decide) dL_law_150 ?_
              refine lv_goto (tgt := 155) X.1 X.2.1 dL_law_151 (by decide) ?_
              exact hk155 (gRem (wI ((wI ((wI (z5.tdiv 2)) + (wI (37 * x6)))).tdiv 5)) 4) (nmI_rem _ _) hf _ _ _ _ _ (by omega) (by omega) hH hS (gLv_sub hl [0, 1, 2, 3, 4, 5, 6] rfl)
          clear ek138
          refine g_if_ne X (nmI_rem _ _) (tgt := 137) dL_law_124 (by decide) (fun hc124 => ?_) (fun hc124 => ?_)
          · replace hf := it_f hf hc124
            refine lv_iconst X.1 X.2.1 dL_law_137 (v := iI (-1)) rfl ?_
            exact hk138 ((-1)) (nmI_l (by decide)) hf _ _ _ _ _ (by omega) (by omega) hH hS (gLv_sub hl [1, 2, 3, 4, 5, 6, 7] rfl)
          · replace hf := it_t hf hc124
            refine lv_iload X.1 X.2.1 dL_law_127 (lv_at hl.1 7 rfl) ?_
            refine lv_iconst X.1 X.2.1 dL_law_129 (v := iI 3) rfl ?_
            refine g_idiv X (nmI_w _) (nmI_l (by decide)) (by decide) dL_law_130 ?_
            refine lv_bipush X.1 X.2.1 dL_law_131 (v := iI 16) (by decide) ?_
            refine g_irem X (nmI_w _) (nmI_l (by decide)) (by decide) dL_law_133 ?_
            refine lv_goto (tgt := 138) X.1 X.2.1 dL_law_134 (by decide) ?_
            exact hk138 (gRem (wI ((wI ((wI (z5.tdiv 2)) + (wI (37 * x6)))).tdiv 3)) 16) (nmI_rem _ _) hf _ _ _ _ _ (by omega) (by omega) hH hS (gLv_sub hl [1, 2, 3, 4, 5, 6, 7] rfl)
        clear ek115
        obtain ⟨k108, ek108, hf_⟩ := oj_e hf; clear hf; have hf := hf_; clear hf_
        have hk108 : k108 = some q → ∀ (H : Heap) (locs : List Loc) (ls : Array Slot) (ce sl : Nat), ce + (6 + (n * 6 + zz)) ≤ 608946 → sl + 6 * (6 + (n * 6 + zz)) ≤ 7274932 → gH G M H → va_S (gA G) s.heap H locs → gLv ls 9 [(0, .ref b), (1, .ref (gAd G 0 0)), (3, .int (iI z3)), (4, .int (iI z4)), (5, .int (iI z5)), (6, .int (iI x6)), (7, .int (iI (wI ((wI (z5.tdiv 2)) + (wI (37 * x6))))))] → W p l e room_1 s m #[Value.ref b] below meth c H locs ce sl (lw_Z below #[Value.ref b] s) (F0 m 108 ls []) := by
          clear hce hsl
          intro  hf H locs ls ce sl hce hsl hH hS hl
          subst ek108
          refine lv_iload X.1 X.2.1 dL_law_108 (lv_at hl.1 6 rfl) ?_
          refine lv_iconst X.1 X.2.1 dL_law_110 (v := iI 2) rfl ?_
          refine g_idiv X (nmI_w _) (nmI_l (by decide)) (by decide) dL_law_111 ?_
          refine lv_bipush X.1 X.2.1 dL_law_112 (v := iI 16) (by decide) ?_
          refine g_irem X (nmI_w _) (nmI_l (by decide)) (by decide) dL_law_114 ?_
          exact hk115 (gRem (wI ((wI ((wI (z5.tdiv 2)) + (wI (37 * x6)))).tdiv 2)) 16) (nmI_rem _ _) hf _ _ _ _ _ (by omega) (by omega) hH hS (gLv_sub hl [0, 1, 2, 3, 4, 5, 6] rfl)
        clear ek108
        refine g_if_ne X (nmI_rem _ _) (tgt := 108) dL_law_87 (by decide) (fun hc87 => ?_) (fun hc87 => ?_)
        · replace hf := it_f hf hc87
          exact hk108  hf _ _ _ _ _ (by omega) (by omega) hH hS (gLv_sub hl [1, 2, 4, 5, 6, 7, 0] rfl)
        · replace hf := it_t hf hc87
          refine lv_iload X.1 X.2.1 dL_law_90 (lv_at hl.1 5 rfl) ?_
          refine g_if_le X nz4 (tgt := 108) dL_law_92 (by decide) (fun hc92 => ?_) (fun hc92 => ?_)
          · replace hf := it_f hf hc92
            exact hk108  hf _ _ _ _ _ (by omega) (by omega) hH hS (gLv_sub hl [1, 2, 4, 5, 6, 7, 0] rfl)
          · replace hf := it_t hf hc92
            refine lv_bipush X.1 X.2.1 dL_law_95 (v := iI 16) (by decide) ?_
            refine lv_iload X.1 X.2.1 dL_law_97 (lv_at hl.1 0 rfl) ?_
            refine lv_iconst X.1 X.2.1 dL_law_99 (v := iI 2) rfl ?_
            refine g_idiv X (nmI_w _) (nmI_l (by decide)) (by decide) dL_law_100 ?_
            refine lv_iload X.1 X.2.1 dL_law_101 (lv_at hl.1 5 rfl) ?_
            obtain ⟨hz, hf_⟩ := og_e hf; clear hf; have hf := hf_; clear hf_
            refine g_irem X (nmI_w _) nz4 hz dL_law_103 ?_
            refine g_iadd X dL_law_104 ?_
            refine lv_goto (tgt := 115) X.1 X.2.1 dL_law_105 (by decide) ?_
            exact hk115 (wI (16 + (gRem (wI ((wI ((wI (z5.tdiv 2)) + (wI (37 * x6)))).tdiv 2)) z4))) (nmI_w _) hf _ _ _ _ _ (by omega) (by omega) hH hS (gLv_sub hl [1, 2, 4, 5, 6, 7, 0] rfl)
set_option maxHeartbeats 4000000 in
theorem w_P_law_L15 {G : gG} {p : Program} {l : Launch} {e : Env} {s : State} {m : MethodId} {below : List Frame} {meth : Method} {c : Code} {b L : Nat} {xs : Nat → Int32} (X : gX G p s m #[Value.ref b] meth c RL code 9 ret lw_tbl) (hl0 : l.stackTraces = false) (Z : gS G s) (h0 : gBan G = 0) (hG1 : G.1 = s.heap.size) (hX : va_X b L xs s s.heap) (hbl : b < s.heap.size) (hb9 : b < G.1) (hbA : ¬ gA G b) (nL9 : nmI (L : Int)) (k308 : Int → Int → gM → Option Unit) (zz : Nat) (q : Unit) (hk308 : ∀ (x2 : Int) (bx2 : x2 = 0 ∨ x2 = 1) (x3 : Int) (nx3 : nmI x3) (M : gM), k308 x2 x3 M = some q → ∀ (H : Heap) (locs : List Loc) (ls : Array Slot) (ce sl : Nat), ce + (zz) ≤ 608946 → sl + 6 * (zz) ≤ 7274932 → gH G M H → va_S (gA G) s.heap H locs → gLv ls 9 [(0, .ref b), (1, .ref (gAd G 0 0)), (2, .int (iI x2)), (3, .int (iI x3))] → W p l e room_1 s m #[Value.ref b] below meth c H locs ce sl (lw_Z below #[Value.ref b] s) (F0 m 308 ls [])) : ∀ (n : Nat) (x2 : Int) (bx2 : x2 = 0 ∨ x2 = 1) (x3 : Int) (nx3 : nmI x3) (x4 : Int) (nx4 : nmI x4) (M : gM), f_P_law_L15 k308 xs L n x2 x3 x4 M = some q → ∀ (H : Heap) (locs : List Loc) (ls : Array Slot) (ce sl : Nat), ce + (n * 23 + zz) ≤ 608946 → sl + 6 * (n * 23 + zz) ≤ 7274932 → gH G M H → va_S (gA G) s.heap H locs → gLv ls 9 [(0, .ref b), (1, .ref (gAd G 0 0)), (2, .int (iI x2)), (3, .int (iI x3)), (4, .int (iI x4))] → W p l e room_1 s m #[Value.ref b] below meth c H locs ce sl (lw_Z below #[Value.ref b] s) (F0 m 15 ls []) := by
  intro n
  induction n with
  | zero =>
    intro x2 bx2 x3 nx3 x4 nx4 M hf
    cases hf
  | succ n ih =>
    intro x2 bx2 x3 nx3 x4 nx4 M hf H locs ls ce sl hce hsl hH hS hl
    rw [f_P_law_L15] at hf
    refine lv_iload X.1 X.2.1 dL_law_15 (lv_at hl.1 4 rfl) ?_
    refine lv_bipush X.1 X.2.1 dL_law_17 (v := iI 6) (by decide) ?_
    refine g_icmp_ge X nx4 (nmI_l (by decide)) (tgt := 308) dL_law_19 (by decide) (fun hc19 => ?_) (fun hc19 => ?_)
    · replace hf := it_f hf hc19
      exact hk308 x2 bx2 x3 nx3 M hf _ _ _ _ _ (by omega) (by omega) hH hS (gLv_sub hl [0, 1, 2, 3] rfl)
    · replace hf := it_t hf hc19
      refine lv_iload_n X.1 X.2.1 dL_law_22 rfl (lv_at hl.1 2 rfl) ?_
      refine g_if_eq X (nmI_b bx2) (tgt := 308) dL_law_23 (by decide) (fun hc23 => ?_) (fun hc23 => ?_)
      · replace hf := it_t hf hc23
        exact hk308 x2 bx2 x3 nx3 M hf _ _ _ _ _ (by omega) (by omega) hH hS (gLv_sub hl [0, 1, 2, 3] rfl)
      · replace hf := it_f hf hc23
        refine lv_aload_n X.1 X.2.1 dL_law_26 rfl (lv_at hl.1 0 rfl) ?_
        refine lv_iload X.1 X.2.1 dL_law_27 (lv_at hl.1 4 rfl) ?_
        obtain ⟨r29, hq29, hf_⟩ := ob_e hf; clear hf; have hf := hf_; clear hf_
        refine gGoXI (gRunSS X Z hH hS hX hbl hbA (As := [.ref b, .int (iI x4)]) (m_P_drawn l hl0 G hb9 nL9 x4 nx4 M _ hq29) calL_drawn k_468 k_467 ⟨by decide, by decide⟩ rfl hl rfl (Nat.le_of_ble_eq_true rfl) ⟨by show _ ≤ 608946; omega, by show _ ≤ 7274932; omega⟩ dL_law_29) hS (fun E ce9 q9 H locs hE _ _ _ _ _ => by obtain ⟨_, h, _⟩ := hE; exact absurd h id) (fun H locs _ nr29 hH hS => ?_)
        refine g_istore X (lv' := [(5, .int (iI r29)), (0, .ref b), (1, .ref (gAd G 0 0)), (2, .int (iI x2)), (3, .int (iI x3)), (4, .int (iI x4))]) dL_law_32 hl (by decide) rfl (fun ls hl => ?_)
        refine lv_iload_n X.1 X.2.1 dL_law_34 rfl (lv_at hl.1 4 rfl) ?_
        refine lv_iload X.1 X.2.1 dL_law_35 (lv_at hl.1 0 rfl) ?_
        refine lv_iconst X.1 X.2.1 dL_law_37 (v := iI 4) rfl ?_
        refine g_idiv X nr29 (nmI_l (by decide)) (by decide) dL_law_38 ?_
        refine lv_iconst X.1 X.2.1 dL_law_39 (v := iI 3) rfl ?_
        refine g_irem X (nmI_w _) (nmI_l (by decide)) (by decide) dL_law_40 ?_
        refine lv_iconst X.1 X.2.1 dL_law_41 (v := iI 2) rfl ?_
        obtain ⟨k53, ek53, hf_⟩ := oj_e hf; clear hf; have hf := hf_; clear hf_
        have hk53 : ∀ (xs1_53 : Int) (nxs1_53 : nmI xs1_53), k53 xs1_53 = some q → ∀ (H : Heap) (locs : List Loc) (ls : Array Slot) (ce sl : Nat), ce + (23 + (n * 23 + zz)) ≤ 608946 → sl + 6 * (23 + (n * 23 + zz)) ≤ 7274932 → gH G M H → va_S (gA G) s.heap H locs → gLv ls 9 [(0, .ref b), (1, .ref (gAd G 0 0)), (2, .int (iI x2)), (4, .int (iI x4)), (5, .int (iI r29))] → W p l e room_1 s m #[Value.ref b] below meth c H locs ce sl (lw_Z below #[Value.ref b] s) (F0 m 53 ls [.int (iI xs1_53), .int (iI x3)]) := by
          clear hce hsl
          intro xs1_53 nxs1_53 hf H locs ls ce sl hce hsl hH hS hl
          subst ek53
          refine g_ior X dL_law_53 ?_
          refine g_istore_n X (lv' := [(3, .int (iI (gOr x3 xs1_53))), (0, .ref b), (1, .ref (gAd G 0 0)), (2, .int (iI x2)), (4, .int (iI x4)), (5, .int (iI r29))]) dL_law_54 rfl hl (by decide) rfl (fun ls hl => ?_)
          refine lv_iconst X.1 X.2.1 dL_law_55 (v := iI 0) rfl ?_
          refine g_istore X (lv' := [(6, .int (iI 0)), (3, .int (iI (gOr x3 xs1_53))), (0, .ref b), (1, .ref (gAd G 0 0)), (2, .int (iI x2)), (4, .int (iI x4)), (5, .int (iI r29))]) dL_law_56 hl (by decide) rfl (fun ls hl => ?_)
          refine w_P_law_L58 X hl0 Z h0 hG1 hX hbl hb9 hbA nL9 _ (gOr x3 xs1_53) (nmI_or _ _) x4 nx4 r29 nr29 (5 + (n * 23 + zz)) q ?_ 3 x2 bx2 0 (nmI_l (by decide)) M hf _ _ _ _ _ (by omega) (by omega) hH hS (gLv_sub hl [2, 3, 4, 1, 5, 6, 0] rfl)
          · clear hce hsl
            intro y2_58_189 by2_58_189 M_58_189 hf H locs ls ce sl hce hsl hH hS hl
            refine lv_iload_n X.1 X.2.1 dL_law_189 rfl (lv_at hl.1 2 rfl) ?_
            obtain ⟨k301, ek301, hf_⟩ := oj_e hf; clear hf; have hf := hf_; clear hf_
            have hk301 : ∀ (xs0_301 : Int) (bxs0_301 : xs0_301 = 0 ∨ xs0_301 = 1) (M_301 : gM), k301 xs0_301 M_301 = some q → ∀ (H : Heap) (locs : List Loc) (ls : Array Slot) (ce sl : Nat), ce + (0 + (n * 23 + zz)) ≤ 608946 → sl + 6 * (0 + (n * 23 + zz)) ≤ 7274932 → gH G M_301 H → va_S (gA G) s.heap H locs → gLv ls 9 [(0, .ref b), (1, .ref (gAd G 0 0)), (3, .int (iI (gOr x3 xs1_53))), (4, .int (iI x4))] → W p l e room_1 s m #[Value.ref b] below meth c H locs ce sl (lw_Z below #[Value.ref b] s) (F0 m 301 ls [.int (iI xs0_301)]) := by
              clear hce hsl
              intro xs0_301 bxs0_301 M_301 hf H locs ls ce sl hce hsl hH hS hl
              subst ek301
              refine g_istore_n X (lv' := [(2, .int (iI xs0_301)), (0, .ref b), (1, .ref (gAd G 0 0)), (3, .int (iI (gOr x3 xs1_53))), (4, .int (iI x4))]) dL_law_301 rfl hl (by decide) rfl (fun ls hl => ?_)
              refine g_iinc X (a := x4) (lv' := [(4, .int (iI (wI (x4 + 1)))), (2, .int (iI xs0_301)), (0, .ref b), (1, .ref (gAd G 0 0)), (3, .int (iI (gOr x3 xs1_53)))]) dL_law_302 hl (k := 4) rfl (by decide) rfl (fun ls hl => ?_)
              refine lv_goto (tgt := 15) X.1 X.2.1 dL_law_305 (by decide) ?_
              exact ih xs0_301 bxs0_301 (gOr x3 xs1_53) (nmI_or _ _) (wI (x4 + 1)) (nmI_w _) M_301 hf _ _ _ _ _ (by omega) (by omega) hH hS (gLv_sub hl [2, 3, 1, 4, 0] rfl)
            clear ek301
            obtain ⟨k300, ek300, hf_⟩ := oj_e hf; clear hf; have hf := hf_; clear hf_
            have hk300 : ∀  (M_300 : gM), k300 M_300 = some q → ∀ (H : Heap) (locs : List Loc) (ls : Array Slot) (ce sl : Nat), ce + (0 + (n * 23 + zz)) ≤ 608946 → sl + 6 * (0 + (n * 23 + zz)) ≤ 7274932 → gH G M_300 H → va_S (gA G) s.heap H locs → gLv ls 9 [(0, .ref b), (1, .ref (gAd G 0 0)), (3, .int (iI (gOr x3 xs1_53))), (4, .int (iI x4))] → W p l e room_1 s m #[Value.ref b] below meth c H locs ce sl (lw_Z below #[Value.ref b] s) (F0 m 300 ls []) := by
              clear hce hsl
              intro  M_300 hf H locs ls ce sl hce hsl hH hS hl
              subst ek300
              refine lv_iconst X.1 X.2.1 dL_law_300 (v := iI 0) rfl ?_
              exact hk301 0 (by decide) M_300 hf _ _ _ _ _ (by omega) (by omega) hH hS (gLv_sub hl [0, 1, 2, 3] rfl)
            clear ek300
            refine g_if_eq X (nmI_b by2_58_189) (tgt := 300) dL_law_190 (by decide) (fun hc190 => ?_) (fun hc190 => ?_)
            · replace hf := it_t hf hc190
              exact hk300 M_58_189 hf _ _ _ _ _ (by omega) (by omega) hH hS (gLv_sub hl [0, 1, 3, 4] rfl)
            · replace hf := it_f hf hc190
              refine lv_aload_n X.1 X.2.1 dL_law_193 rfl (lv_at hl.1 1 rfl) ?_
              refine lv_iload X.1 X.2.1 dL_law_194 (lv_at hl.1 5 rfl) ?_
              refine lv_iconst X.1 X.2.1 dL_law_196 (v := iI 4) rfl ?_
              refine g_idiv X nr29 (nmI_l (by decide)) (by decide) dL_law_197 ?_
              refine lv_iconst X.1 X.2.1 dL_law_198 (v := iI 3) rfl ?_
              refine g_irem X (nmI_w _) (nmI_l (by decide)) (by decide) dL_law_199 ?_
              refine lv_iload X.1 X.2.1 dL_law_200 (lv_at hl.1 5 rfl) ?_
              refine lv_bipush X.1 X.2.1 dL_law_202 (v := iI 12) (by decide) ?_
              refine g_idiv X nr29 (nmI_l (by decide)) (by decide) dL_law_204 ?_
              refine lv_iconst X.1 X.2.1 dL_law_205 (v := iI 4) rfl ?_
              refine g_irem X (nmI_w _) (nmI_l (by decide)) (by decide) dL_law_206 ?_
              refine lv_iload X.1 X.2.1 dL_law_207 (lv_at hl.1 5 rfl) ?_
              refine lv_bipush X.1 X.2.1 dL_law_209 (v := iI 48) (by decide) ?_
              refine g_idiv X nr29 (nmI_l (by decide)) (by decide) dL_law_211 ?_
              refine lv_bipush X.1 X.2.1 dL_law_212 (v := iI 10) (by decide) ?_
              refine g_irem X (nmI_w _) (nmI_l (by decide)) (by decide) dL_law_214 ?_
              refine lv_iload X.1 X.2.1 dL_law_215 (lv_at hl.1 5 rfl) ?_
              refine lv_iconst X.1 X.2.1 dL_law_217 (v := iI 4) rfl ?_
              refine g_idiv X nr29 (nmI_l (by decide)) (by decide) dL_law_218 ?_
              refine lv_iconst X.1 X.2.1 dL_law_219 (v := iI 3) rfl ?_
              refine g_irem X (nmI_w _) (nmI_l (by decide)) (by decide) dL_law_220 ?_
              refine lv_iconst X.1 X.2.1 dL_law_221 (v := iI 2) rfl ?_
              obtain ⟨k239, ek239, hf_⟩ := oj_e hf; clear hf; have hf := hf_; clear hf_
              have hk239 : ∀ (xs4_239 : Int) (nxs4_239 : nmI xs4_239), k239 xs4_239 = some q → ∀ (H : Heap) (locs : List Loc) (ls : Array Slot) (ce sl : Nat), ce + (5 + (n * 23 + zz)) ≤ 608946 → sl + 6 * (5 + (n * 23 + zz)) ≤ 7274932 → gH G M_58_189 H → va_S (gA G) s.heap H locs → gLv ls 9 [(0, .ref b), (1, .ref (gAd G 0 0)), (3, .int (iI (gOr x3 xs1_53))), (4, .int (iI x4)), (5, .int (iI r29))] → W p l e room_1 s m #[Value.ref b] below meth c H locs ce sl (lw_Z below #[Value.ref b] s) (F0 m 239 ls [.int (iI xs4_239), .int (iI (gRem (wI (r29.tdiv 48)) 10)), .int (iI (gRem (wI (r29.tdiv 12)) 4)), .int (iI (gRem (wI (r29.tdiv 4)) 3)), .ref (gAd G 0 0)]) := by
                clear hce hsl
                intro xs4_239 nxs4_239 hf H locs ls ce sl hce hsl hH hS hl
                subst ek239
                refine lv_iload X.1 X.2.1 dL_law_239 (lv_at hl.1 4 rfl) ?_
                refine lv_sipush X.1 X.2.1 dL_law_241 (v := iI 960) (by decide) ?_
                refine g_idiv X nr29 (nmI_l (by decide)) (by decide) dL_law_244 ?_
                refine lv_iconst X.1 X.2.1 dL_law_245 (v := iI 3) rfl ?_
                refine g_irem X (nmI_w _) (nmI_l (by decide)) (by decide) dL_law_246 ?_
                obtain ⟨k267, ek267, hf_⟩ := oj_e hf; clear hf; have hf := hf_; clear hf_
                have hk267 : ∀ (xs5_267 : Int) (nxs5_267 : nmI xs5_267), k267 xs5_267 = some q → ∀ (H : Heap) (locs : List Loc) (ls : Array Slot) (ce sl : Nat), ce + (5 + (n * 23 + zz)) ≤ 608946 → sl + 6 * (5 + (n * 23 + zz)) ≤ 7274932 → gH G M_58_189 H → va_S (gA G) s.heap H locs → gLv ls 9 [(0, .ref b), (1, .ref (gAd G 0 0)), (3, .int (iI (gOr x3 xs1_53))), (4, .int (iI x4)), (5, .int (iI r29))] → W p l e room_1 s m #[Value.ref b] below meth c H locs ce sl (lw_Z below #[Value.ref b] s) (F0 m 267 ls [.int (iI xs5_267), .int (iI xs4_239), .int (iI (gRem (wI (r29.tdiv 48)) 10)), .int (iI (gRem (wI (r29.tdiv 12)) 4)), .int (iI (gRem (wI (r29.tdiv 4)) 3)), .ref (gAd G 0 0)]) := by
                  clear hce hsl
                  intro xs5_267 nxs5_267 hf H locs ls ce sl hce hsl hH hS hl
                  subst ek267
                  refine lv_iload X.1 X.2.1 dL_law_267 (lv_at hl.1 4 rfl) ?_
                  refine lv_iconst X.1 X.2.1 dL_law_269 (v := iI 4) rfl ?_
                  refine g_idiv X nr29 (nmI_l (by decide)) (by decide) dL_law_270 ?_
                  refine lv_iconst X.1 X.2.1 dL_law_271 (v := iI 3) rfl ?_
                  refine g_irem X (nmI_w _) (nmI_l (by decide)) (by decide) dL_law_272 ?_
                  refine lv_iconst X.1 X.2.1 dL_law_273 (v := iI 2) rfl ?_
                  obtain ⟨k288, ek288, hf_⟩ := oj_e hf; clear hf; have hf := hf_; clear hf_
                  have hk288 : ∀ (xs6_288 : Int) (nxs6_288 : nmI xs6_288), k288 xs6_288 = some q → ∀ (H : Heap) (locs : List Loc) (ls : Array Slot) (ce sl : Nat), ce + (5 + (n * 23 + zz)) ≤ 608946 → sl + 6 * (5 + (n * 23 + zz)) ≤ 7274932 → gH G M_58_189 H → va_S (gA G) s.heap H locs → gLv ls 9 [(0, .ref b), (1, .ref (gAd G 0 0)), (3, .int (iI (gOr x3 xs1_53))), (4, .int (iI x4))] → W p l e room_1 s m #[Value.ref b] below meth c H locs ce sl (lw_Z below #[Value.ref b] s) (F0 m 288 ls [.int (iI xs6_288), .int (iI xs5_267), .int (iI xs4_239), .int (iI (gRem (wI (r29.tdiv 48)) 10)), .int (iI (gRem (wI (r29.tdiv 12)) 4)), .int (iI (gRem (wI (r29.tdiv 4)) 3)), .ref (gAd G 0 0)]) := by
                    clear hce hsl
                    intro xs6_288 nxs6_288 hf H locs ls ce sl hce hsl hH hS hl
                    subst ek288
                    obtain ⟨r288, hq288, hf_⟩ := ob_e hf; clear hf; have hf := hf_; clear hf_
                    refine gGoL (gRunLX X Z hH hS (a := 7) (As := [.ref (gAd G 0 0), .int (iI (gRem (wI (r29.tdiv 4)) 3)), .int (iI (gRem (wI (r29.tdiv 12)) 4)), .int (iI (gRem (wI (r29.tdiv 48)) 10)), .int (iI xs4_239), .int (iI xs5_267), .int (iI xs6_288)]) (m_P_target l hl0 G (gRem (wI (r29.tdiv 4)) 3) (nmI_rem _ _) (gRem (wI (r29.tdiv 12)) 4) (nmI_rem _ _) (gRem (wI (r29.tdiv 48)) 10) (nmI_rem _ _) xs4_239 nxs4_239 xs5_267 nxs5_267 xs6_288 nxs6_288 M_58_189 _ hq288) k_1085 k_30 ⟨by decide, by decide⟩ (by decide +kernel) k_1084 k_1083 ⟨by decide, by decide⟩ rfl hl rfl (Nat.le_of_ble_eq_true rfl) ⟨by show _ ≤ 608946; omega, by show _ ≤ 7274932; omega⟩ dL_law_288) hS (fun H locs nr288 hH hS => ?_)
                    refine lv_iload X.1 X.2.1 dL_law_291 (lv_at hl.1 3 rfl) ?_
                    refine g_icmp_ne X nr288 nx4 (tgt := 300) dL_law_293 (by decide) (fun hc293 => ?_) (fun hc293 => ?_)
                    · replace hf := it_f hf hc293
                      exact hk300 r288.2 hf _ _ _ _ _ (by omega) (by omega) hH hS (gLv_sub hl [0, 1, 2, 3] rfl)
                    · replace hf := it_t hf hc293
                      refine lv_iconst X.1 X.2.1 dL_law_296 (v := iI 1) rfl ?_
                      refine lv_goto (tgt := 301) X.1 X.2.1 dL_law_297 (by decide) ?_
                      exact hk301 1 (by decide) r288.2 hf _ _ _ _ _ (by omega) (by omega) hH hS (gLv_sub hl [0, 1, 2, 3] rfl)
                  clear ek288
                  refine g_icmp_ne X (nmI_rem _ _) (nmI_l (by decide)) (tgt := 287) dL_law_274 (by decide) (fun hc274 => ?_) (fun hc274 => ?_)
                  · replace hf := it_f hf hc274
                    refine lv_iconst X.1 X.2.1 dL_law_287 (v := iI 0) rfl ?_
                    exact hk288 0 (nmI_l (by decide)) hf _ _ _ _ _ (by omega) (by omega) hH hS (gLv_sub hl [0, 1, 2, 3] rfl)
                  · replace hf := it_t hf hc274
                    refine lv_iload X.1 X.2.1 dL_law_277 (lv_at hl.1 4 rfl) ?_
                    refine lv_bipush X.1 X.2.1 dL_law_279 (v := iI 11) (by decide) ?_
                    refine g_idiv X nr29 (nmI_l (by decide)) (by decide) dL_law_281 ?_
                    refine lv_iconst X.1 X.2.1 dL_law_282 (v := iI 3) rfl ?_
                    refine g_irem X (nmI_w _) (nmI_l (by decide)) (by decide) dL_law_283 ?_
                    refine lv_goto (tgt := 288) X.1 X.2.1 dL_law_284 (by decide) ?_
                    exact hk288 (gRem (wI (r29.tdiv 11)) 3) (nmI_rem _ _) hf _ _ _ _ _ (by omega) (by omega) hH hS (gLv_sub hl [0, 1, 2, 3] rfl)
                clear ek267
                refine g_if_ne X (nmI_rem _ _) (tgt := 266) dL_law_247 (by decide) (fun hc247 => ?_) (fun hc247 => ?_)
                · replace hf := it_f hf hc247
                  refine lv_iconst X.1 X.2.1 dL_law_266 (v := iI (-1)) rfl ?_
                  exact hk267 ((-1)) (nmI_l (by decide)) hf _ _ _ _ _ (by omega) (by omega) hH hS (gLv_sub hl [0, 1, 2, 3, 4] rfl)
                · replace hf := it_t hf hc247
                  refine g_ldc X k_1105 (a := 65535) (by decide) dL_law_250 ?_
                  refine lv_iconst X.1 X.2.1 dL_law_252 (v := iI 1) rfl ?_
                  refine lv_iload X.1 X.2.1 dL_law_253 (lv_at hl.1 4 rfl) ?_
                  refine lv_bipush X.1 X.2.1 dL_law_255 (v := iI 7) (by decide) ?_
                  refine g_idiv X nr29 (nmI_l (by decide)) (by decide) dL_law_257 ?_
                  refine lv_bipush X.1 X.2.1 dL_law_258 (v := iI 16) (by decide) ?_
                  refine g_irem X (nmI_w _) (nmI_l (by decide)) (by decide) dL_law_260 ?_
                  refine g_ishl X dL_law_261 ?_
                  refine g_isub X dL_law_262 ?_
                  refine lv_goto (tgt := 267) X.1 X.2.1 dL_law_263 (by decide) ?_
                  exact hk267 (wI (65535 - (gShl 1 (gRem (wI (r29.tdiv 7)) 16)))) (nmI_w _) hf _ _ _ _ _ (by omega) (by omega) hH hS (gLv_sub hl [0, 1, 2, 3, 4] rfl)
              clear ek239
              refine g_icmp_ne X (nmI_rem _ _) (nmI_l (by decide)) (tgt := 238) dL_law_222 (by decide) (fun hc222 => ?_) (fun hc222 => ?_)
              · replace hf := it_f hf hc222
                refine lv_iconst X.1 X.2.1 dL_law_238 (v := iI 1) rfl ?_
                exact hk239 1 (nmI_l (by decide)) hf _ _ _ _ _ (by omega) (by omega) hH hS (gLv_sub hl [0, 1, 3, 4, 5] rfl)
              · replace hf := it_t hf hc222
                refine lv_iconst X.1 X.2.1 dL_law_225 (v := iI 1) rfl ?_
                refine lv_iload X.1 X.2.1 dL_law_226 (lv_at hl.1 5 rfl) ?_
                refine lv_sipush X.1 X.2.1 dL_law_228 (v := iI 480) (by decide) ?_
                refine g_idiv X nr29 (nmI_l (by decide)) (by decide) dL_law_231 ?_
                refine lv_iconst X.1 X.2.1 dL_law_232 (v := iI 2) rfl ?_
                refine g_irem X (nmI_w _) (nmI_l (by decide)) (by decide) dL_law_233 ?_
                refine g_iadd X dL_law_234 ?_
                refine lv_goto (tgt := 239) X.1 X.2.1 dL_law_235 (by decide) ?_
                exact hk239 (wI (1 + (gRem (wI (r29.tdiv 480)) 2))) (nmI_w _) hf _ _ _ _ _ (by omega) (by omega) hH hS (gLv_sub hl [0, 1, 3, 4, 5] rfl)
        clear ek53
        refine g_icmp_ne X (nmI_rem _ _) (nmI_l (by decide)) (tgt := 52) dL_law_42 (by decide) (fun hc42 => ?_) (fun hc42 => ?_)
        · replace hf := it_f hf hc42
          refine lv_iconst X.1 X.2.1 dL_law_52 (v := iI 0) rfl ?_
          exact hk53 0 (nmI_l (by decide)) hf _ _ _ _ _ (by omega) (by omega) hH hS (gLv_sub hl [1, 2, 3, 5, 0] rfl)
        · replace hf := it_t hf hc42
          refine lv_iconst X.1 X.2.1 dL_law_45 (v := iI 1) rfl ?_
          refine lv_iload X.1 X.2.1 dL_law_46 (lv_at hl.1 5 rfl) ?_
          refine g_ishl X dL_law_48 ?_
          refine lv_goto (tgt := 53) X.1 X.2.1 dL_law_49 (by decide) ?_
          exact hk53 (gShl 1 x4) (nmI_shl _ _) hf _ _ _ _ _ (by omega) (by omega) hH hS (gLv_sub hl [1, 2, 3, 5, 0] rfl)
set_option maxHeartbeats 4000000 in
theorem w_P_law_L336 {G : gG} {p : Program} {l : Launch} {e : Env} {s : State} {m : MethodId} {below : List Frame} {meth : Method} {c : Code} {b L : Nat} {xs : Nat → Int32} (X : gX G p s m #[Value.ref b] meth c RL code 9 ret lw_tbl) (hl0 : l.stackTraces = false) (Z : gS G s) (h0 : gBan G = 0) (hG1 : G.1 = s.heap.size) (hX : va_X b L xs s s.heap) (hbl : b < s.heap.size) (hb9 : b < G.1) (hbA : ¬ gA G b) (nL9 : nmI (L : Int)) (k396 : Int → gM → Option Unit) (z3 : Int) (nz3 : nmI z3) (z4 : Int) (nz4 : nmI z4) (z5 : Int) (nz5 : nmI z5) (zz : Nat) (q : Unit) (hk396 : ∀ (x2 : Int) (bx2 : x2 = 0 ∨ x2 = 1) (M : gM), k396 x2 M = some q → ∀ (H : Heap) (locs : List Loc) (ls : Array Slot) (ce sl : Nat), ce + (zz) ≤ 608946 → sl + 6 * (zz) ≤ 7274932 → gH G M H → va_S (gA G) s.heap H locs → gLv ls 9 [(0, .ref b), (1, .ref (gAd G 0 0)), (2, .int (iI x2)), (3, .int (iI z3)), (4, .int (iI z4)), (5, .int (iI z5))] → W p l e room_1 s m #[Value.ref b] below meth c H locs ce sl (lw_Z below #[Value.ref b] s) (F0 m 396 ls [])) : ∀ (n : Nat) (x2 : Int) (bx2 : x2 = 0 ∨ x2 = 1) (x6 : Int) (nx6 : nmI x6) (M : gM), f_P_law_L336 k396 xs L z3 z4 z5 n x2 x6 M = some q → ∀ (H : Heap) (locs : List Loc) (ls : Array Slot) (ce sl : Nat), ce + (n * 3 + zz) ≤ 608946 → sl + 6 * (n * 3 + zz) ≤ 7274932 → gH G M H → va_S (gA G) s.heap H locs → gLv ls 9 [(0, .ref b), (1, .ref (gAd G 0 0)), (2, .int (iI x2)), (3, .int (iI z3)), (4, .int (iI z4)), (5, .int (iI z5)), (6, .int (iI x6))] → W p l e room_1 s m #[Value.ref b] below meth c H locs ce sl (lw_Z below #[Value.ref b] s) (F0 m 336 ls []) := by
  intro n
  induction n with
  | zero =>
    intro x2 bx2 x6 nx6 M hf
    cases hf
  | succ n ih =>
    intro x2 bx2 x6 nx6 M hf H locs ls ce sl hce hsl hH hS hl
    rw [f_P_law_L336] at hf
    refine lv_iload X.1 X.2.1 dL_law_336 (lv_at hl.1 6 rfl) ?_
    refine lv_iconst X.1 X.2.1 dL_law_338 (v := iI 4) rfl ?_
    refine g_icmp_ge X nx6 (nmI_l (by decide)) (tgt := 396) dL_law_339 (by decide) (fun hc339 => ?_) (fun hc339 => ?_)
    · replace hf := it_f hf hc339
      exact hk396 x2 bx2 M hf _ _ _ _ _ (by omega) (by omega) hH hS (gLv_sub hl [0, 1, 2, 3, 4, 5] rfl)
    · replace hf := it_t hf hc339
      refine lv_iload_n X.1 X.2.1 dL_law_342 rfl (lv_at hl.1 2 rfl) ?_
      refine g_if_eq X (nmI_b bx2) (tgt := 396) dL_law_343 (by decide) (fun hc343 => ?_) (fun hc343 => ?_)
      · replace hf := it_t hf hc343
        exact hk396 x2 bx2 M hf _ _ _ _ _ (by omega) (by omega) hH hS (gLv_sub hl [0, 1, 2, 3, 4, 5] rfl)
      · replace hf := it_f hf hc343
        refine lv_aload_n X.1 X.2.1 dL_law_346 rfl (lv_at hl.1 1 rfl) ?_
        refine lv_iconst X.1 X.2.1 dL_law_347 (v := iI 4) rfl ?_
        refine lv_iload X.1 X.2.1 dL_law_348 (lv_at hl.1 6 rfl) ?_
        refine lv_iload X.1 X.2.1 dL_law_350 (lv_at hl.1 6 rfl) ?_
        refine lv_iload X.1 X.2.1 dL_law_352 (lv_at hl.1 5 rfl) ?_
        refine lv_iconst X.1 X.2.1 dL_law_354 (v := iI 4) rfl ?_
        refine g_irem X nz5 (nmI_l (by decide)) (by decide) dL_law_355 ?_
        obtain ⟨k378, ek378, hf_⟩ := oj_e hf; clear hf; have hf := hf_; clear hf_
        have hk378 : ∀ (xs3_378 : Int) (nxs3_378 : nmI xs3_378), k378 xs3_378 = some q → ∀ (H : Heap) (locs : List Loc) (ls : Array Slot) (ce sl : Nat), ce + (3 + (n * 3 + zz)) ≤ 608946 → sl + 6 * (3 + (n * 3 + zz)) ≤ 7274932 → gH G M H → va_S (gA G) s.heap H locs → gLv ls 9 [(0, .ref b), (1, .ref (gAd G 0 0)), (3, .int (iI z3)), (4, .int (iI z4)), (5, .int (iI z5)), (6, .int (iI x6))] → W p l e room_1 s m #[Value.ref b] below meth c H locs ce sl (lw_Z below #[Value.ref b] s) (F0 m 378 ls [.int (iI xs3_378), .int (iI x6), .int (iI 4), .ref (gAd G 0 0)]) := by
          clear hce hsl
          intro xs3_378 nxs3_378 hf H locs ls ce sl hce hsl hH hS hl
          subst ek378
          obtain ⟨r378, hq378, hf_⟩ := ob_e hf; clear hf; have hf := hf_; clear hf_
          refine gGoL (gRunLX X Z hH hS (a := 4) (As := [.ref (gAd G 0 0), .int (iI 4), .int (iI x6), .int (iI xs3_378)]) (m_P_does l hl0 G 4 (nmI_l (by decide)) x6 nx6 xs3_378 nxs3_378 M _ hq378) k_473 k_30 ⟨by decide, by decide⟩ (by decide +kernel) k_472 k_471 ⟨by decide, by decide⟩ rfl hl rfl (Nat.le_of_ble_eq_true rfl) ⟨by show _ ≤ 608946; omega, by show _ ≤ 7274932; omega⟩ dL_law_378) hS (fun H locs nr378 hH hS => ?_)
          obtain ⟨k389, ek389, hf_⟩ := oj_e hf; clear hf; have hf := hf_; clear hf_
          have hk389 : ∀ (xs0_389 : Int) (bxs0_389 : xs0_389 = 0 ∨ xs0_389 = 1), k389 xs0_389 = some q → ∀ (H : Heap) (locs : List Loc) (ls : Array Slot) (ce sl : Nat), ce + (0 + (n * 3 + zz)) ≤ 608946 → sl + 6 * (0 + (n * 3 + zz)) ≤ 7274932 → gH G r378.2 H → va_S (gA G) s.heap H locs → gLv ls 9 [(0, .ref b), (1, .ref (gAd G 0 0)), (3, .int (iI z3)), (4, .int (iI z4)), (5, .int (iI z5)), (6, .int (iI x6))] → W p l e room_1 s m #[Value.ref b] below meth c H locs ce sl (lw_Z below #[Value.ref b] s) (F0 m 389 ls [.int (iI xs0_389)]) := by
            clear hce hsl
            intro xs0_389 bxs0_389 hf H locs ls ce sl hce hsl hH hS hl
            subst ek389
            refine g_istore_n X (lv' := [(2, .int (iI xs0_389)), (0, .ref b), (1, .ref (gAd G 0 0)), (3, .int (iI z3)), (4, .int (iI z4)), (5, .int (iI z5)), (6, .int (iI x6))]) dL_law_389 rfl hl (by decide) rfl (fun ls hl => ?_)
            refine g_iinc X (a := x6) (lv' := [(6, .int (iI (wI (x6 + 1)))), (2, .int (iI xs0_389)), (0, .ref b), (1, .ref (gAd G 0 0)), (3, .int (iI z3)), (4, .int (iI z4)), (5, .int (iI z5))]) dL_law_390 hl (k := 6) rfl (by decide) rfl (fun ls hl => ?_)
            refine lv_goto (tgt := 336) X.1 X.2.1 dL_law_393 (by decide) ?_
            exact ih xs0_389 bxs0_389 (wI (x6 + 1)) (nmI_w _) r378.2 hf _ _ _ _ _ (by omega) (by omega) hH hS (gLv_sub hl [2, 3, 1, 4, 5, 6, 0] rfl)
          clear ek389
          refine g_if_lt X nr378 (tgt := 388) dL_law_381 (by decide) (fun hc381 => ?_) (fun hc381 => ?_)
          · replace hf := it_t hf hc381
            refine lv_iconst X.1 X.2.1 dL_law_388 (v := iI 0) rfl ?_
            exact hk389 0 (by decide) hf _ _ _ _ _ (by omega) (by omega) hH hS (gLv_sub hl [0, 1, 2, 3, 4, 5] rfl)
          · replace hf := it_f hf hc381
            refine lv_iconst X.1 X.2.1 dL_law_384 (v := iI 1) rfl ?_
            refine lv_goto (tgt := 389) X.1 X.2.1 dL_law_385 (by decide) ?_
            exact hk389 1 (by decide) hf _ _ _ _ _ (by omega) (by omega) hH hS (gLv_sub hl [0, 1, 2, 3, 4, 5] rfl)
        clear ek378
        refine g_icmp_ne X nx6 (nmI_rem _ _) (tgt := 371) dL_law_356 (by decide) (fun hc356 => ?_) (fun hc356 => ?_)
        · replace hf := it_f hf hc356
          refine lv_iload X.1 X.2.1 dL_law_371 (lv_at hl.1 5 rfl) ?_
          refine lv_bipush X.1 X.2.1 dL_law_373 (v := iI 36) (by decide) ?_
          refine g_idiv X nz5 (nmI_l (by decide)) (by decide) dL_law_375 ?_
          refine lv_iconst X.1 X.2.1 dL_law_376 (v := iI 3) rfl ?_
          refine g_irem X (nmI_w _) (nmI_l (by decide)) (by decide) dL_law_377 ?_
          exact hk378 (gRem (wI (z5.tdiv 36)) 3) (nmI_rem _ _) hf _ _ _ _ _ (by omega) (by omega) hH hS (gLv_sub hl [0, 1, 3, 4, 5, 6] rfl)
        · replace hf := it_t hf hc356
          refine lv_iconst X.1 X.2.1 dL_law_359 (v := iI 1) rfl ?_
          refine lv_iload X.1 X.2.1 dL_law_360 (lv_at hl.1 5 rfl) ?_
          refine lv_iconst X.1 X.2.1 dL_law_362 (v := iI 4) rfl ?_
          refine g_idiv X nz5 (nmI_l (by decide)) (by decide) dL_law_363 ?_
          refine lv_bipush X.1 X.2.1 dL_law_364 (v := iI 9) (by decide) ?_
          refine g_irem X (nmI_w _) (nmI_l (by decide)) (by decide) dL_law_366 ?_
          refine g_iadd X dL_law_367 ?_
          refine lv_goto (tgt := 378) X.1 X.2.1 dL_law_368 (by decide) ?_
          exact hk378 (wI (1 + (gRem (wI (z5.tdiv 4)) 9))) (nmI_w _) hf _ _ _ _ _ (by omega) (by omega) hH hS (gLv_sub hl [0, 1, 3, 4, 5, 6] rfl)
set_option maxHeartbeats 4000000 in
theorem w_P_law_L311 {G : gG} {p : Program} {l : Launch} {e : Env} {s : State} {m : MethodId} {below : List Frame} {meth : Method} {c : Code} {b L : Nat} {xs : Nat → Int32} (X : gX G p s m #[Value.ref b] meth c RL code 9 ret lw_tbl) (hl0 : l.stackTraces = false) (Z : gS G s) (h0 : gBan G = 0) (hG1 : G.1 = s.heap.size) (hX : va_X b L xs s s.heap) (hbl : b < s.heap.size) (hb9 : b < G.1) (hbA : ¬ gA G b) (nL9 : nmI (L : Int)) (k556 : Int → gM → Option Unit) (z3 : Int) (nz3 : nmI z3) (zz : Nat) (q : Unit) (hk556 : ∀ (x2 : Int) (bx2 : x2 = 0 ∨ x2 = 1) (M : gM), k556 x2 M = some q → ∀ (H : Heap) (locs : List Loc) (ls : Array Slot) (ce sl : Nat), ce + (zz) ≤ 608946 → sl + 6 * (zz) ≤ 7274932 → gH G M H → va_S (gA G) s.heap H locs → gLv ls 9 [(2, .int (iI x2))] → W p l e room_1 s m #[Value.ref b] below meth c H locs ce sl (lw_Z below #[Value.ref b] s) (F0 m 556 ls [])) : ∀ (n : Nat) (x2 : Int) (bx2 : x2 = 0 ∨ x2 = 1) (x4 : Int) (nx4 : nmI x4) (M : gM), f_P_law_L311 k556 xs L z3 n x2 x4 M = some q → ∀ (H : Heap) (locs : List Loc) (ls : Array Slot) (ce sl : Nat), ce + (n * 622 + zz) ≤ 608946 → sl + 6 * (n * 622 + zz) ≤ 7274932 → gH G M H → va_S (gA G) s.heap H locs → gLv ls 9 [(0, .ref b), (1, .ref (gAd G 0 0)), (2, .int (iI x2)), (3, .int (iI z3)), (4, .int (iI x4))] → W p l e room_1 s m #[Value.ref b] below meth c H locs ce sl (lw_Z below #[Value.ref b] s) (F0 m 311 ls []) := by
  intro n
  induction n with
  | zero =>
    intro x2 bx2 x4 nx4 M hf
    cases hf
  | succ n ih =>
    intro x2 bx2 x4 nx4 M hf H locs ls ce sl hce hsl hH hS hl
    rw [f_P_law_L311] at hf
    refine lv_iload X.1 X.2.1 dL_law_311 (lv_at hl.1 4 rfl) ?_
    refine lv_bipush X.1 X.2.1 dL_law_313 (v := iI 9) (by decide) ?_
    refine g_icmp_ge X nx4 (nmI_l (by decide)) (tgt := 556) dL_law_315 (by decide) (fun hc315 => ?_) (fun hc315 => ?_)
    · replace hf := it_f hf hc315
      exact hk556 x2 bx2 M hf _ _ _ _ _ (by omega) (by omega) hH hS (gLv_sub hl [2] rfl)
    · replace hf := it_t hf hc315
      refine lv_iload_n X.1 X.2.1 dL_law_318 rfl (lv_at hl.1 2 rfl) ?_
      refine g_if_eq X (nmI_b bx2) (tgt := 556) dL_law_319 (by decide) (fun hc319 => ?_) (fun hc319 => ?_)
      · replace hf := it_t hf hc319
        exact hk556 x2 bx2 M hf _ _ _ _ _ (by omega) (by omega) hH hS (gLv_sub hl [2] rfl)
      · replace hf := it_f hf hc319
        refine lv_aload_n X.1 X.2.1 dL_law_322 rfl (lv_at hl.1 0 rfl) ?_
        refine lv_bipush X.1 X.2.1 dL_law_323 (v := iI 6) (by decide) ?_
        refine lv_iload X.1 X.2.1 dL_law_325 (lv_at hl.1 4 rfl) ?_
        refine g_iadd X dL_law_327 ?_
        obtain ⟨r328, hq328, hf_⟩ := ob_e hf; clear hf; have hf := hf_; clear hf_
        refine gGoXI (gRunSS X Z hH hS hX hbl hbA (As := [.ref b, .int (iI (wI (6 + x4)))]) (m_P_drawn l hl0 G hb9 nL9 (wI (6 + x4)) (nmI_w _) M _ hq328) calL_drawn k_468 k_467 ⟨by decide, by decide⟩ rfl hl rfl (Nat.le_of_ble_eq_true rfl) ⟨by show _ ≤ 608946; omega, by show _ ≤ 7274932; omega⟩ dL_law_328) hS (fun E ce9 q9 H locs hE _ _ _ _ _ => by obtain ⟨_, h, _⟩ := hE; exact absurd h id) (fun H locs _ nr328 hH hS => ?_)
        refine g_istore X (lv' := [(5, .int (iI r328)), (0, .ref b), (1, .ref (gAd G 0 0)), (2, .int (iI x2)), (3, .int (iI z3)), (4, .int (iI x4))]) dL_law_331 hl (by decide) rfl (fun ls hl => ?_)
        refine lv_iconst X.1 X.2.1 dL_law_333 (v := iI 0) rfl ?_
        refine g_istore X (lv' := [(6, .int (iI 0)), (5, .int (iI r328)), (0, .ref b), (1, .ref (gAd G 0 0)), (2, .int (iI x2)), (3, .int (iI z3)), (4, .int (iI x4))]) dL_law_334 hl (by decide) rfl (fun ls hl => ?_)
        refine w_P_law_L336 X hl0 Z h0 hG1 hX hbl hb9 hbA nL9 _ z3 nz3 x4 nx4 r328 nr328 (607 + (n * 622 + zz)) q ?_ 5 x2 bx2 0 (nmI_l (by decide)) M hf _ _ _ _ _ (by omega) (by omega) hH hS (gLv_sub hl [2, 3, 4, 5, 6, 1, 0] rfl)
        · clear hce hsl
          intro y2_336_396 by2_336_396 M_336_396 hf H locs ls ce sl hce hsl hH hS hl
          refine lv_aload_n X.1 X.2.1 dL_law_396 rfl (lv_at hl.1 1 rfl) ?_
          refine lv_iload X.1 X.2.1 dL_law_397 (lv_at hl.1 5 rfl) ?_
          refine lv_iconst X.1 X.2.1 dL_law_399 (v := iI 3) rfl ?_
          refine g_irem X nr328 (nmI_l (by decide)) (by decide) dL_law_400 ?_
          obtain ⟨k409, ek409, hf_⟩ := oj_e hf; clear hf; have hf := hf_; clear hf_
          have hk409 : ∀ (xs1_409 : Int) (bxs1_409 : xs1_409 = 0 ∨ xs1_409 = 1), k409 xs1_409 = some q → ∀ (H : Heap) (locs : List Loc) (ls : Array Slot) (ce sl : Nat), ce + (607 + (n * 622 + zz)) ≤ 608946 → sl + 6 * (607 + (n * 622 + zz)) ≤ 7274932 → gH G M_336_396 H → va_S (gA G) s.heap H locs → gLv ls 9 [(0, .ref b), (1, .ref (gAd G 0 0)), (2, .int (iI y2_336_396)), (3, .int (iI z3)), (4, .int (iI x4)), (5, .int (iI r328))] → W p l e room_1 s m #[Value.ref b] below meth c H locs ce sl (lw_Z below #[Value.ref b] s) (F0 m 409 ls [.int (iI xs1_409), .ref (gAd G 0 0)]) := by
            clear hce hsl
            intro xs1_409 bxs1_409 hf H locs ls ce sl hce hsl hH hS hl
            subst ek409
            refine lv_iload X.1 X.2.1 dL_law_409 (lv_at hl.1 5 rfl) ?_
            refine lv_iconst X.1 X.2.1 dL_law_411 (v := iI 2) rfl ?_
            refine g_irem X nr328 (nmI_l (by decide)) (by decide) dL_law_412 ?_
            obtain ⟨k421, ek421, hf_⟩ := oj_e hf; clear hf; have hf := hf_; clear hf_
            have hk421 : ∀ (xs2_421 : Int) (bxs2_421 : xs2_421 = 0 ∨ xs2_421 = 1), k421 xs2_421 = some q → ∀ (H : Heap) (locs : List Loc) (ls : Array Slot) (ce sl : Nat), ce + (607 + (n * 622 + zz)) ≤ 608946 → sl + 6 * (607 + (n * 622 + zz)) ≤ 7274932 → gH G M_336_396 H → va_S (gA G) s.heap H locs → gLv ls 9 [(0, .ref b), (1, .ref (gAd G 0 0)), (2, .int (iI y2_336_396)), (3, .int (iI z3)), (4, .int (iI x4)), (5, .int (iI r328))] → W p l e room_1 s m #[Value.ref b] below meth c H locs ce sl (lw_Z below #[Value.ref b] s) (F0 m 421 ls [.int (iI xs2_421), .int (iI xs1_409), .ref (gAd G 0 0)]) := by
              clear hce hsl
              intro xs2_421 bxs2_421 hf H locs ls ce sl hce hsl hH hS hl
              subst ek421
              refine gGoV (gRunV X hH (As := [.int (iI xs1_409), .int (iI xs2_421)]) (m_X11_setWays l G xs1_409 bxs1_409 xs2_421 bxs2_421 M_336_396 _ rfl) calX11_setWays k_464 k_465 k_463 (by decide) cX11 rfl ⟨by decide, by decide⟩ rfl hl rfl (Nat.le_of_ble_eq_true rfl) ⟨by show _ ≤ 608946; omega, by show _ ≤ 7274932; omega⟩ dL_law_421) hS (fun H locs hH hS => ?_)
              refine lv_iload X.1 X.2.1 dL_law_424 (lv_at hl.1 5 rfl) ?_
              refine lv_bipush X.1 X.2.1 dL_law_426 (v := iI 108) (by decide) ?_
              refine g_idiv X nr328 (nmI_l (by decide)) (by decide) dL_law_428 ?_
              refine lv_iconst X.1 X.2.1 dL_law_429 (v := iI 3) rfl ?_
              refine g_irem X (nmI_w _) (nmI_l (by decide)) (by decide) dL_law_430 ?_
              refine g_istore X (lv' := [(6, .int (iI (gRem (wI (r328.tdiv 108)) 3))), (0, .ref b), (1, .ref (gAd G 0 0)), (2, .int (iI y2_336_396)), (3, .int (iI z3)), (4, .int (iI x4)), (5, .int (iI r328))]) dL_law_431 hl (by decide) rfl (fun ls hl => ?_)
              refine lv_iload X.1 X.2.1 dL_law_433 (lv_at hl.1 0 rfl) ?_
              obtain ⟨k515, ek515, hf_⟩ := oj_e hf; clear hf; have hf := hf_; clear hf_
              have hk515 : ∀ (xs0_515 : Int) (nxs0_515 : nmI xs0_515) (M_515 : gM), k515 xs0_515 M_515 = some q → ∀ (H : Heap) (locs : List Loc) (ls : Array Slot) (ce sl : Nat), ce + (604 + (n * 622 + zz)) ≤ 608946 → sl + 6 * (604 + (n * 622 + zz)) ≤ 7274932 → gH G M_515 H → va_S (gA G) s.heap H locs → gLv ls 9 [(0, .ref b), (1, .ref (gAd G 0 0)), (2, .int (iI y2_336_396)), (3, .int (iI z3)), (4, .int (iI x4)), (5, .int (iI r328))] → W p l e room_1 s m #[Value.ref b] below meth c H locs ce sl (lw_Z below #[Value.ref b] s) (F0 m 515 ls [.int (iI xs0_515)]) := by
                clear hce hsl
                intro xs0_515 nxs0_515 M_515 hf H locs ls ce sl hce hsl hH hS hl
                subst ek515
                refine g_istore X (lv' := [(7, .int (iI xs0_515)), (0, .ref b), (1, .ref (gAd G 0 0)), (2, .int (iI y2_336_396)), (3, .int (iI z3)), (4, .int (iI x4)), (5, .int (iI r328))]) dL_law_515 hl (by decide) rfl (fun ls hl => ?_)
                refine lv_iload_n X.1 X.2.1 dL_law_517 rfl (lv_at hl.1 3 rfl) ?_
                obtain ⟨k549, ek549, hf_⟩ := oj_e hf; clear hf; have hf := hf_; clear hf_
                have hk549 : ∀ (xs0_549 : Int) (bxs0_549 : xs0_549 = 0 ∨ xs0_549 = 1) (M_549 : gM), k549 xs0_549 M_549 = some q → ∀ (H : Heap) (locs : List Loc) (ls : Array Slot) (ce sl : Nat), ce + (0 + (n * 622 + zz)) ≤ 608946 → sl + 6 * (0 + (n * 622 + zz)) ≤ 7274932 → gH G M_549 H → va_S (gA G) s.heap H locs → gLv ls 9 [(0, .ref b), (1, .ref (gAd G 0 0)), (3, .int (iI z3)), (4, .int (iI x4))] → W p l e room_1 s m #[Value.ref b] below meth c H locs ce sl (lw_Z below #[Value.ref b] s) (F0 m 549 ls [.int (iI xs0_549)]) := by
                  clear hce hsl
                  intro xs0_549 bxs0_549 M_549 hf H locs ls ce sl hce hsl hH hS hl
                  subst ek549
                  refine g_istore_n X (lv' := [(2, .int (iI xs0_549)), (0, .ref b), (1, .ref (gAd G 0 0)), (3, .int (iI z3)), (4, .int (iI x4))]) dL_law_549 rfl hl (by decide) rfl (fun ls hl => ?_)
                  refine g_iinc X (a := x4) (lv' := [(4, .int (iI (wI (x4 + 1)))), (2, .int (iI xs0_549)), (0, .ref b), (1, .ref (gAd G 0 0)), (3, .int (iI z3))]) dL_law_550 hl (k := 4) rfl (by decide) rfl (fun ls hl => ?_)
                  refine lv_goto (tgt := 311) X.1 X.2.1 dL_law_553 (by decide) ?_
                  exact ih xs0_549 bxs0_549 (wI (x4 + 1)) (nmI_w _) M_549 hf _ _ _ _ _ (by omega) (by omega) hH hS (gLv_sub hl [2, 3, 1, 4, 0] rfl)
                clear ek549
                obtain ⟨k548, ek548, hf_⟩ := oj_e hf; clear hf; have hf := hf_; clear hf_
                have hk548 : ∀  (M_548 : gM), k548 M_548 = some q → ∀ (H : Heap) (locs : List Loc) (ls : Array Slot) (ce sl : Nat), ce + (0 + (n * 622 + zz)) ≤ 608946 → sl + 6 * (0 + (n * 622 + zz)) ≤ 7274932 → gH G M_548 H → va_S (gA G) s.heap H locs → gLv ls 9 [(0, .ref b), (1, .ref (gAd G 0 0)), (3, .int (iI z3)), (4, .int (iI x4))] → W p l e room_1 s m #[Value.ref b] below meth c H locs ce sl (lw_Z below #[Value.ref b] s) (F0 m 548 ls []) := by
                  clear hce hsl
                  intro  M_548 hf H locs ls ce sl hce hsl hH hS hl
                  subst ek548
                  refine lv_iconst X.1 X.2.1 dL_law_548 (v := iI 0) rfl ?_
                  exact hk549 0 (by decide) M_548 hf _ _ _ _ _ (by omega) (by omega) hH hS (gLv_sub hl [0, 1, 2, 3] rfl)
                clear ek548
                refine g_if_eq X (nmI_b by2_336_396) (tgt := 548) dL_law_518 (by decide) (fun hc518 => ?_) (fun hc518 => ?_)
                · replace hf := it_t hf hc518
                  exact hk548 M_515 hf _ _ _ _ _ (by omega) (by omega) hH hS (gLv_sub hl [1, 2, 4, 5] rfl)
                · replace hf := it_f hf hc518
                  refine lv_iload X.1 X.2.1 dL_law_521 (lv_at hl.1 0 rfl) ?_
                  refine g_if_lt X nxs0_515 (tgt := 548) dL_law_523 (by decide) (fun hc523 => ?_) (fun hc523 => ?_)
                  · replace hf := it_t hf hc523
                    exact hk548 M_515 hf _ _ _ _ _ (by omega) (by omega) hH hS (gLv_sub hl [1, 2, 4, 5] rfl)
                  · replace hf := it_f hf hc523
                    refine lv_aload_n X.1 X.2.1 dL_law_526 rfl (lv_at hl.1 2 rfl) ?_
                    refine lv_iconst X.1 X.2.1 dL_law_527 (v := iI 1) rfl ?_
                    refine lv_iload X.1 X.2.1 dL_law_528 (lv_at hl.1 6 rfl) ?_
                    refine lv_bipush X.1 X.2.1 dL_law_530 (v := iI 31) (by decide) ?_
                    refine g_idiv X nr328 (nmI_l (by decide)) (by decide) dL_law_532 ?_
                    refine lv_bipush X.1 X.2.1 dL_law_533 (v := iI 63) (by decide) ?_
                    refine g_irem X (nmI_w _) (nmI_l (by decide)) (by decide) dL_law_535 ?_
                    refine g_iadd X dL_law_536 ?_
                    refine lv_iload_n X.1 X.2.1 dL_law_537 rfl (lv_at hl.1 4 rfl) ?_
                    obtain ⟨r538, hq538, hf_⟩ := ob_e hf; clear hf; have hf := hf_; clear hf_
                    refine gGoXZ (gRunSX X Z hH hS (As := [.ref (gAd G 0 0), .int (iI (wI (1 + (gRem (wI (r328.tdiv 31)) 63)))), .int (iI z3)]) (m_P_isKept l hl0 G h0 (wI (1 + (gRem (wI (r328.tdiv 31)) 63))) (nmI_w _) z3 nz3 M_515 _ hq538) calL_isKept k_1092 k_1091 ⟨by decide, by decide⟩ rfl hl rfl (Nat.le_of_ble_eq_true rfl) ⟨by show _ ≤ 608946; omega, by show _ ≤ 7274932; omega⟩ dL_law_538) hS (fun E ce9 q9 H locs hE _ _ _ _ _ => by obtain ⟨_, h, _⟩ := hE; exact absurd h id) (fun H locs _ br538 hH hS => ?_)
                    refine g_if_eq X (nmI_b br538) (tgt := 548) dL_law_541 (by decide) (fun hc541 => ?_) (fun hc541 => ?_)
                    · replace hf := it_t hf hc541
                      exact hk548 r538.2 hf _ _ _ _ _ (by omega) (by omega) hH hS (gLv_sub hl [1, 2, 4, 5] rfl)
                    · replace hf := it_f hf hc541
                      refine lv_iconst X.1 X.2.1 dL_law_544 (v := iI 1) rfl ?_
                      refine lv_goto (tgt := 549) X.1 X.2.1 dL_law_545 (by decide) ?_
                      exact hk549 1 (by decide) r538.2 hf _ _ _ _ _ (by omega) (by omega) hH hS (gLv_sub hl [1, 2, 4, 5] rfl)
              clear ek515
              refine g_if_ne X (nmI_rem _ _) (tgt := 464) dL_law_435 (by decide) (fun hc435 => ?_) (fun hc435 => ?_)
              · replace hf := it_f hf hc435
                refine lv_iload X.1 X.2.1 dL_law_464 (lv_at hl.1 0 rfl) ?_
                refine lv_iconst X.1 X.2.1 dL_law_466 (v := iI 1) rfl ?_
                refine g_icmp_ne X (nmI_rem _ _) (nmI_l (by decide)) (tgt := 494) dL_law_467 (by decide) (fun hc467 => ?_) (fun hc467 => ?_)
                · replace hf := it_f hf hc467
                  refine lv_aload_n X.1 X.2.1 dL_law_494 rfl (lv_at hl.1 2 rfl) ?_
                  refine lv_iconst X.1 X.2.1 dL_law_495 (v := iI 2) rfl ?_
                  refine lv_iload X.1 X.2.1 dL_law_496 (lv_at hl.1 6 rfl) ?_
                  refine lv_sipush X.1 X.2.1 dL_law_498 (v := iI 324) (by decide) ?_
                  refine g_idiv X nr328 (nmI_l (by decide)) (by decide) dL_law_501 ?_
                  refine lv_iconst X.1 X.2.1 dL_law_502 (v := iI 4) rfl ?_
                  refine g_irem X (nmI_w _) (nmI_l (by decide)) (by decide) dL_law_503 ?_
                  refine lv_iload X.1 X.2.1 dL_law_504 (lv_at hl.1 6 rfl) ?_
                  refine lv_sipush X.1 X.2.1 dL_law_506 (v := iI 1296) (by decide) ?_
                  refine g_idiv X nr328 (nmI_l (by decide)) (by decide) dL_law_509 ?_
                  refine lv_iconst X.1 X.2.1 dL_law_510 (v := iI 3) rfl ?_
                  refine g_irem X (nmI_w _) (nmI_l (by decide)) (by decide) dL_law_511 ?_
                  obtain ⟨r512, hq512, hf_⟩ := ob_e hf; clear hf; have hf := hf_; clear hf_
                  refine gGoL (gRunLX X Z hH hS (a := 4) (As := [.ref (gAd G 0 0), .int (iI 2), .int (iI (gRem (wI (r328.tdiv 324)) 4)), .int (iI (gRem (wI (r328.tdiv 1296)) 3))]) (m_P_does l hl0 G 2 (nmI_l (by decide)) (gRem (wI (r328.tdiv 324)) 4) (nmI_rem _ _) (gRem (wI (r328.tdiv 1296)) 3) (nmI_rem _ _) ((f_X11_setWays xs1_409 xs2_421 M_336_396)) _ hq512) k_473 k_30 ⟨by decide, by decide⟩ (by decide +kernel) k_472 k_471 ⟨by decide, by decide⟩ rfl hl rfl (Nat.le_of_ble_eq_true rfl) ⟨by show _ ≤ 608946; omega, by show _ ≤ 7274932; omega⟩ dL_law_512) hS (fun H locs nr512 hH hS => ?_)
                  exact hk515 r512.1 nr512 r512.2 hf _ _ _ _ _ (by omega) (by omega) hH hS (gLv_sub hl [1, 2, 3, 4, 5, 6] rfl)
                · replace hf := it_t hf hc467
                  refine lv_aload_n X.1 X.2.1 dL_law_470 rfl (lv_at hl.1 2 rfl) ?_
                  refine lv_iconst X.1 X.2.1 dL_law_471 (v := iI 1) rfl ?_
                  refine lv_iload X.1 X.2.1 dL_law_472 (lv_at hl.1 6 rfl) ?_
                  refine lv_sipush X.1 X.2.1 dL_law_474 (v := iI 324) (by decide) ?_
                  refine g_idiv X nr328 (nmI_l (by decide)) (by decide) dL_law_477 ?_
                  refine lv_iconst X.1 X.2.1 dL_law_478 (v := iI 4) rfl ?_
                  refine g_irem X (nmI_w _) (nmI_l (by decide)) (by decide) dL_law_479 ?_
                  refine lv_iload X.1 X.2.1 dL_law_480 (lv_at hl.1 6 rfl) ?_
                  refine lv_sipush X.1 X.2.1 dL_law_482 (v := iI 1296) (by decide) ?_
                  refine g_idiv X nr328 (nmI_l (by decide)) (by decide) dL_law_485 ?_
                  refine lv_iconst X.1 X.2.1 dL_law_486 (v := iI 2) rfl ?_
                  refine g_irem X (nmI_w _) (nmI_l (by decide)) (by decide) dL_law_487 ?_
                  obtain ⟨r488, hq488, hf_⟩ := ob_e hf; clear hf; have hf := hf_; clear hf_
                  refine gGoL (gRunLX X Z hH hS (a := 4) (As := [.ref (gAd G 0 0), .int (iI 1), .int (iI (gRem (wI (r328.tdiv 324)) 4)), .int (iI (gRem (wI (r328.tdiv 1296)) 2))]) (m_P_does l hl0 G 1 (nmI_l (by decide)) (gRem (wI (r328.tdiv 324)) 4) (nmI_rem _ _) (gRem (wI (r328.tdiv 1296)) 2) (nmI_rem _ _) ((f_X11_setWays xs1_409 xs2_421 M_336_396)) _ hq488) k_473 k_30 ⟨by decide, by decide⟩ (by decide +kernel) k_472 k_471 ⟨by decide, by decide⟩ rfl hl rfl (Nat.le_of_ble_eq_true rfl) ⟨by show _ ≤ 608946; omega, by show _ ≤ 7274932; omega⟩ dL_law_488) hS (fun H locs nr488 hH hS => ?_)
                  refine lv_goto (tgt := 515) X.1 X.2.1 dL_law_491 (by decide) ?_
                  exact hk515 r488.1 nr488 r488.2 hf _ _ _ _ _ (by omega) (by omega) hH hS (gLv_sub hl [1, 2, 3, 4, 5, 6] rfl)
              · replace hf := it_t hf hc435
                refine lv_aload_n X.1 X.2.1 dL_law_438 rfl (lv_at hl.1 2 rfl) ?_
                refine lv_iconst X.1 X.2.1 dL_law_439 (v := iI 0) rfl ?_
                refine lv_iload X.1 X.2.1 dL_law_440 (lv_at hl.1 6 rfl) ?_
                refine lv_sipush X.1 X.2.1 dL_law_442 (v := iI 324) (by decide) ?_
                refine g_idiv X nr328 (nmI_l (by decide)) (by decide) dL_law_445 ?_
                refine lv_bipush X.1 X.2.1 dL_law_446 (v := iI 16) (by decide) ?_
                refine g_irem X (nmI_w _) (nmI_l (by decide)) (by decide) dL_law_448 ?_
                refine lv_iload X.1 X.2.1 dL_law_449 (lv_at hl.1 6 rfl) ?_
                refine lv_sipush X.1 X.2.1 dL_law_451 (v := iI 5184) (by decide) ?_
                refine g_idiv X nr328 (nmI_l (by decide)) (by decide) dL_law_454 ?_
                refine lv_bipush X.1 X.2.1 dL_law_455 (v := iI 20) (by decide) ?_
                refine g_irem X (nmI_w _) (nmI_l (by decide)) (by decide) dL_law_457 ?_
                obtain ⟨r458, hq458, hf_⟩ := ob_e hf; clear hf; have hf := hf_; clear hf_
                refine gGoL (gRunLX X Z hH hS (a := 4) (As := [.ref (gAd G 0 0), .int (iI 0), .int (iI (gRem (wI (r328.tdiv 324)) 16)), .int (iI (gRem (wI (r328.tdiv 5184)) 20))]) (m_P_does l hl0 G 0 (nmI_l (by decide)) (gRem (wI (r328.tdiv 324)) 16) (nmI_rem _ _) (gRem (wI (r328.tdiv 5184)) 20) (nmI_rem _ _) ((f_X11_setWays xs1_409 xs2_421 M_336_396)) _ hq458) k_473 k_30 ⟨by decide, by decide⟩ (by decide +kernel) k_472 k_471 ⟨by decide, by decide⟩ rfl hl rfl (Nat.le_of_ble_eq_true rfl) ⟨by show _ ≤ 608946; omega, by show _ ≤ 7274932; omega⟩ dL_law_458) hS (fun H locs nr458 hH hS => ?_)
                refine lv_goto (tgt := 515) X.1 X.2.1 dL_law_461 (by decide) ?_
                exact hk515 r458.1 nr458 r458.2 hf _ _ _ _ _ (by omega) (by omega) hH hS (gLv_sub hl [1, 2, 3, 4, 5, 6] rfl)
            clear ek421
            refine g_if_ne X (nmI_rem _ _) (tgt := 420) dL_law_413 (by decide) (fun hc413 => ?_) (fun hc413 => ?_)
            · replace hf := it_f hf hc413
              refine lv_iconst X.1 X.2.1 dL_law_420 (v := iI 0) rfl ?_
              exact hk421 0 (by decide) hf _ _ _ _ _ (by omega) (by omega) hH hS (gLv_sub hl [0, 1, 2, 3, 4, 5] rfl)
            · replace hf := it_t hf hc413
              refine lv_iconst X.1 X.2.1 dL_law_416 (v := iI 1) rfl ?_
              refine lv_goto (tgt := 421) X.1 X.2.1 dL_law_417 (by decide) ?_
              exact hk421 1 (by decide) hf _ _ _ _ _ (by omega) (by omega) hH hS (gLv_sub hl [0, 1, 2, 3, 4, 5] rfl)
          clear ek409
          refine g_if_le X (nmI_rem _ _) (tgt := 408) dL_law_401 (by decide) (fun hc401 => ?_) (fun hc401 => ?_)
          · replace hf := it_f hf hc401
            refine lv_iconst X.1 X.2.1 dL_law_408 (v := iI 0) rfl ?_
            exact hk409 0 (by decide) hf _ _ _ _ _ (by omega) (by omega) hH hS (gLv_sub hl [0, 1, 2, 3, 4, 5] rfl)
          · replace hf := it_t hf hc401
            refine lv_iconst X.1 X.2.1 dL_law_404 (v := iI 1) rfl ?_
            refine lv_goto (tgt := 409) X.1 X.2.1 dL_law_405 (by decide) ?_
            exact hk409 1 (by decide) hf _ _ _ _ _ (by omega) (by omega) hH hS (gLv_sub hl [0, 1, 2, 3, 4, 5] rfl)
set_option maxHeartbeats 4000000 in
theorem w_P_law {G : gG} {p : Program} {l : Launch} {e : Env} {s : State} {m : MethodId} {below : List Frame} {meth : Method} {c : Code} {b L : Nat} {xs : Nat → Int32} (X : gX G p s m #[Value.ref b] meth c RL code 9 ret lw_tbl) (hl0 : l.stackTraces = false) (Z : gS G s) (h0 : gBan G = 0) (hG1 : G.1 = s.heap.size) (hX : va_X b L xs s s.heap) (hbl : b < s.heap.size) (hb9 : b < G.1) (hbA : ¬ gA G b) (nL9 : nmI (L : Int)) (M : gM) (hf : f_P_law xs L M = some ()) : ∀ (H : Heap) (locs : List Loc) (ls : Array Slot) (ce sl : Nat), ce + (6381) ≤ 608946 → sl + 6 * (6381) ≤ 7274932 → gH G M H → va_S (gA G) s.heap H locs → gLv ls 9 [(1, .ref (gAd G 0 0)), (0, .ref b)] → W p l e room_1 s m #[Value.ref b] below meth c H locs ce sl (lw_Z below #[Value.ref b] s) (F0 m 8 ls []) := by
  intro H locs ls ce sl hce hsl hH hS hl
  unfold f_P_law at hf
  generalize hq9 : () = q at hf
  refine lv_iconst X.1 X.2.1 dL_law_8 (v := iI 1) rfl ?_
  refine g_istore_n X (lv' := [(2, .int (iI 1)), (1, .ref (gAd G 0 0)), (0, .ref b)]) dL_law_9 rfl hl (by decide) rfl (fun ls hl => ?_)
  refine lv_iconst X.1 X.2.1 dL_law_10 (v := iI 0) rfl ?_
  refine g_istore_n X (lv' := [(3, .int (iI 0)), (2, .int (iI 1)), (1, .ref (gAd G 0 0)), (0, .ref b)]) dL_law_11 rfl hl (by decide) rfl (fun ls hl => ?_)
  refine lv_iconst X.1 X.2.1 dL_law_12 (v := iI 0) rfl ?_
  refine g_istore X (lv' := [(4, .int (iI 0)), (3, .int (iI 0)), (2, .int (iI 1)), (1, .ref (gAd G 0 0)), (0, .ref b)]) dL_law_13 hl (by decide) rfl (fun ls hl => ?_)
  refine w_P_law_L15 X hl0 Z h0 hG1 hX hbl hb9 hbA nL9 _  6220 q ?_ 7 1 (by decide) 0 (nmI_l (by decide)) 0 (nmI_l (by decide)) M hf _ _ _ _ _ (by omega) (by omega) hH hS (gLv_sub hl [4, 3, 2, 1, 0] rfl)
  · clear hce hsl
    intro y2_15_308 by2_15_308 y3_15_308 ny3_15_308 M_15_308 hf H locs ls ce sl hce hsl hH hS hl
    refine lv_iconst X.1 X.2.1 dL_law_308 (v := iI 0) rfl ?_
    refine g_istore X (lv' := [(4, .int (iI 0)), (0, .ref b), (1, .ref (gAd G 0 0)), (2, .int (iI y2_15_308)), (3, .int (iI y3_15_308))]) dL_law_309 hl (by decide) rfl (fun ls hl => ?_)
    refine w_P_law_L311 X hl0 Z h0 hG1 hX hbl hb9 hbA nL9 _ y3_15_308 ny3_15_308 0 q ?_ 10 y2_15_308 by2_15_308 0 (nmI_l (by decide)) M_15_308 hf _ _ _ _ _ (by omega) (by omega) hH hS (gLv_sub hl [1, 2, 3, 4, 0] rfl)
    · clear hce hsl
      intro y2_311_556 by2_311_556 M_311_556 hf H locs ls ce sl hce hsl hH hS hl
      refine lv_iload_n X.1 X.2.1 dL_law_556 rfl (lv_at hl.1 0 rfl) ?_
      obtain ⟨h1, -⟩ := og_e hf
      rw [h1]
      exact gLawEnd X hG1 hS ⟨by omega, by omega⟩ dL_law_557
