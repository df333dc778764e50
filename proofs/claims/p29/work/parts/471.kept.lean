set_option maxHeartbeats 4000000 in
theorem w_P_isKept_L148 {G : gG} {p : Program} {l : Launch} {e : Env} {s : State} {m : MethodId} {args : Array Value} {below : List Frame} {meth : Method} {c : Code} (X : gX G p s m args meth c RL cL_isKept 14 (some .boolean) (gWs yL_isKept cL_isKept 14 (some .boolean))) (hl0 : l.stackTraces = false) (Z : gS G s) (M0 : gM) (h0 : gBan G = 0) {a9 : Nat} (ha : gN ≤ a9) (has : s.heap.size ≤ G.1 + a9) (k180 : (Nat → Int) → gM → Option (Int × gM)) (z1 : Int) (nz1 : nmI z1) (z2 : Int) (nz2 : nmI z2) (z3 : Int) (bz3 : z3 = 0 ∨ z3 = 1) (z4 : Int) (nz4 : nmI z4) (z6 : Int) (nz6 : nmI z6) (zz : Nat) (q : (Int × gM)) (hk180 : ∀ (x5 : Nat → Int) (M : gM), k180 x5 M = some q → ∀ (H : Heap) (locs : List Loc) (ls : Array Slot) (ce sl : Nat), ce + (zz) ≤ 604 → sl + 6 * (zz) ≤ 3624 → gH G M H → gR G a9 x5 H → va_S (gA G) s.heap H locs → gLv ls 14 [(0, .ref (gAd G 0 0)), (1, .int (iI z1)), (2, .int (iI z2)), (3, .int (iI z3)), (4, .int (iI z4)), (5, .ref (G.1 + a9)), (6, .int (iI z6))] → W p l e { frames := 11, cells := 604, slots := 3624, locals := 241 } s m args below meth c H locs ce sl (vx_MQ below (gXz G True q.1 q.2) (gXC G (fun _ => False) M0) args s 604 3624 (gA G)) (F0 m 180 ls [])) : ∀ (n : Nat) (x5 : Nat → Int) (x8 : Int) (nx8 : nmI x8) (M : gM), f_P_isKept_L148 k180 z1 z2 z3 z4 z6 n x5 x8 M = some q → ∀ (H : Heap) (locs : List Loc) (ls : Array Slot) (ce sl : Nat), ce + (n * 3 + zz) ≤ 604 → sl + 6 * (n * 3 + zz) ≤ 3624 → gH G M H → gR G a9 x5 H → va_S (gA G) s.heap H locs → gLv ls 14 [(0, .ref (gAd G 0 0)), (1, .int (iI z1)), (2, .int (iI z2)), (3, .int (iI z3)), (4, .int (iI z4)), (5, .ref (G.1 + a9)), (6, .int (iI z6)), (8, .int (iI x8))] → W p l e { frames := 11, cells := 604, slots := 3624, locals := 241 } s m args below meth c H locs ce sl (vx_MQ below (gXz G True q.1 q.2) (gXC G (fun _ => False) M0) args s 604 3624 (gA G)) (F0 m 148 ls []) := by
  intro n
  induction n with
  | zero =>
    intro x5 x8 nx8 M hf
    cases hf
  | succ n ih =>
    intro x5 x8 nx8 M hf H locs ls ce sl hce hsl hH hR hS hl
    rw [f_P_isKept_L148] at hf
    refine lv_iload X.1 X.2.1 dL_isKept_148 (lv_at hl.1 7 rfl) ?_
    refine lv_iconst X.1 X.2.1 dL_isKept_150 (v := iI 4) rfl ?_
    refine g_icmp_ge X nx8 (nmI_l (by decide)) (tgt := 180) dL_isKept_151 (by decide) (fun hc151 => ?_) (fun hc151 => ?_)
    · replace hf := it_f hf hc151
      exact hk180 x5 M hf _ _ _ _ _ (by omega) (by omega) hH hR hS (gLv_sub hl [0, 1, 2, 3, 4, 5, 6] rfl)
    · replace hf := it_t hf hc151
      refine lv_aload X.1 X.2.1 dL_isKept_154 (lv_at hl.1 5 rfl) ?_
      refine lv_iconst X.1 X.2.1 dL_isKept_156 (v := iI 4) rfl ?_
      refine lv_iload X.1 X.2.1 dL_isKept_157 (lv_at hl.1 6 rfl) ?_
      refine g_imul X dL_isKept_159 ?_
      refine lv_iload X.1 X.2.1 dL_isKept_160 (lv_at hl.1 7 rfl) ?_
      refine g_iadd X dL_isKept_162 ?_
      refine lv_aload_n X.1 X.2.1 dL_isKept_163 rfl (lv_at hl.1 0 rfl) ?_
      refine lv_bipush X.1 X.2.1 dL_isKept_164 (v := iI 9) (by decide) ?_
      refine lv_iload X.1 X.2.1 dL_isKept_166 (lv_at hl.1 6 rfl) ?_
      refine lv_iload X.1 X.2.1 dL_isKept_168 (lv_at hl.1 7 rfl) ?_
      obtain ⟨r170, hq170, hf_⟩ := ob_e hf; clear hf; have hf := hf_; clear hf_
      refine gBL X Z h0 ha has hH hR hS (a := 4) (As := [.ref (gAd G 0 0), .int (iI 9), .int (iI z6), .int (iI x8)]) (m_P_does l hl0 (gBn G (G.1 + a9)) 9 (nmI_l (by decide)) z6 nz6 x8 nx8 M _ hq170) k_473 k_30 ⟨by decide, by decide⟩ (by decide +kernel) k_472 k_471 ⟨by decide, by decide⟩ rfl hl rfl (Nat.le_of_ble_eq_true rfl) ⟨by show _ ≤ 604; omega, by show _ ≤ 3624; omega⟩ dL_isKept_170 (fun H locs nr170 hH hR hS => ?_)
      obtain ⟨hg, hf_⟩ := og_e hf; clear hf; have hf := hf_; clear hf_
      refine gRast X h0 ha hH hR hS (nmI_w _) hg nr170 dL_isKept_173 (fun H locs hH hR hS => ?_)
      refine g_iinc X (a := x8) (lv' := [(8, .int (iI (wI (x8 + 1)))), (0, .ref (gAd G 0 0)), (1, .int (iI z1)), (2, .int (iI z2)), (3, .int (iI z3)), (4, .int (iI z4)), (5, .ref (G.1 + a9)), (6, .int (iI z6))]) dL_isKept_174 hl (k := 7) rfl (by decide) rfl (fun ls hl => ?_)
      refine lv_goto (tgt := 148) X.1 X.2.1 dL_isKept_177 (by decide) ?_
      exact ih (g1 x5 (wI ((wI (4 * z6)) + x8)).toNat r170.1) (wI (x8 + 1)) (nmI_w _) r170.2 hf _ _ _ _ _ (by omega) (by omega) hH hR hS (gLv_sub hl [1, 2, 3, 4, 5, 6, 7, 0] rfl)
set_option maxHeartbeats 4000000 in
theorem w_P_isKept_L36 {G : gG} {p : Program} {l : Launch} {e : Env} {s : State} {m : MethodId} {args : Array Value} {below : List Frame} {meth : Method} {c : Code} (X : gX G p s m args meth c RL cL_isKept 14 (some .boolean) (gWs yL_isKept cL_isKept 14 (some .boolean))) (hl0 : l.stackTraces = false) (Z : gS G s) (M0 : gM) (h0 : gBan G = 0) {a9 : Nat} (ha : gN ≤ a9) (has : s.heap.size ≤ G.1 + a9) (k186 : Int → Int → (Nat → Int) → gM → Option (Int × gM)) (z1 : Int) (nz1 : nmI z1) (z2 : Int) (nz2 : nmI z2) (zz : Nat) (q : (Int × gM)) (hk186 : ∀ (x3 : Int) (bx3 : x3 = 0 ∨ x3 = 1) (x4 : Int) (nx4 : nmI x4) (x5 : Nat → Int) (M : gM), k186 x3 x4 x5 M = some q → ∀ (H : Heap) (locs : List Loc) (ls : Array Slot) (ce sl : Nat), ce + (zz) ≤ 604 → sl + 6 * (zz) ≤ 3624 → gH G M H → gR G a9 x5 H → va_S (gA G) s.heap H locs → gLv ls 14 [(0, .ref (gAd G 0 0)), (3, .int (iI x3)), (4, .int (iI x4)), (5, .ref (G.1 + a9))] → W p l e { frames := 11, cells := 604, slots := 3624, locals := 241 } s m args below meth c H locs ce sl (vx_MQ below (gXz G True q.1 q.2) (gXC G (fun _ => False) M0) args s 604 3624 (gA G)) (F0 m 186 ls [])) : ∀ (n : Nat) (x3 : Int) (bx3 : x3 = 0 ∨ x3 = 1) (x4 : Int) (nx4 : nmI x4) (x5 : Nat → Int) (x6 : Int) (nx6 : nmI x6) (M : gM), f_P_isKept_L36 k186 z1 z2 n x3 x4 x5 x6 M = some q → ∀ (H : Heap) (locs : List Loc) (ls : Array Slot) (ce sl : Nat), ce + (n * 27 + zz) ≤ 604 → sl + 6 * (n * 27 + zz) ≤ 3624 → gH G M H → gR G a9 x5 H → va_S (gA G) s.heap H locs → gLv ls 14 [(0, .ref (gAd G 0 0)), (1, .int (iI z1)), (2, .int (iI z2)), (3, .int (iI x3)), (4, .int (iI x4)), (5, .ref (G.1 + a9)), (6, .int (iI x6))] → W p l e { frames := 11, cells := 604, slots := 3624, locals := 241 } s m args below meth c H locs ce sl (vx_MQ below (gXz G True q.1 q.2) (gXC G (fun _ => False) M0) args s 604 3624 (gA G)) (F0 m 36 ls []) := by
  intro n
  induction n with
  | zero =>
    intro x3 bx3 x4 nx4 x5 x6 nx6 M hf
    cases hf
  | succ n ih =>
    intro x3 bx3 x4 nx4 x5 x6 nx6 M hf H locs ls ce sl hce hsl hH hR hS hl
    rw [f_P_isKept_L36] at hf
    refine lv_iload X.1 X.2.1 dL_isKept_36 (lv_at hl.1 6 rfl) ?_
    refine lv_bipush X.1 X.2.1 dL_isKept_38 (v := iI 6) (by decide) ?_
    refine g_icmp_ge X nx6 (nmI_l (by decide)) (tgt := 186) dL_isKept_40 (by decide) (fun hc40 => ?_) (fun hc40 => ?_)
    · replace hf := it_f hf hc40
      exact hk186 x3 bx3 x4 nx4 x5 M hf _ _ _ _ _ (by omega) (by omega) hH hR hS (gLv_sub hl [0, 3, 4, 5] rfl)
    · replace hf := it_t hf hc40
      refine lv_iload_n X.1 X.2.1 dL_isKept_43 rfl (lv_at hl.1 3 rfl) ?_
      refine g_if_eq X (nmI_b bx3) (tgt := 186) dL_isKept_44 (by decide) (fun hc44 => ?_) (fun hc44 => ?_)
      · replace hf := it_t hf hc44
        exact hk186 x3 bx3 x4 nx4 x5 M hf _ _ _ _ _ (by omega) (by omega) hH hR hS (gLv_sub hl [0, 3, 4, 5] rfl)
      · replace hf := it_f hf hc44
        refine lv_iload_n X.1 X.2.1 dL_isKept_47 rfl (lv_at hl.1 1 rfl) ?_
        refine lv_iload X.1 X.2.1 dL_isKept_48 (lv_at hl.1 6 rfl) ?_
        refine g_ishr X dL_isKept_50 ?_
        refine lv_iconst X.1 X.2.1 dL_isKept_51 (v := iI 1) rfl ?_
        refine g_iand X dL_isKept_52 ?_
        refine lv_iconst X.1 X.2.1 dL_isKept_53 (v := iI 1) rfl ?_
        obtain ⟨k75, ek75, hf_⟩ := oj_e hf; clear hf; have hf := hf_; clear hf_
        have hk75 : ∀ (xs0_75 : Int) (bxs0_75 : xs0_75 = 0 ∨ xs0_75 = 1) (M_75 : gM), k75 xs0_75 M_75 = some q → ∀ (H : Heap) (locs : List Loc) (ls : Array Slot) (ce sl : Nat), ce + (24 + (n * 27 + zz)) ≤ 604 → sl + 6 * (24 + (n * 27 + zz)) ≤ 3624 → gH G M_75 H → gR G a9 x5 H → va_S (gA G) s.heap H locs → gLv ls 14 [(0, .ref (gAd G 0 0)), (1, .int (iI z1)), (2, .int (iI z2)), (4, .int (iI x4)), (5, .ref (G.1 + a9)), (6, .int (iI x6))] → W p l e { frames := 11, cells := 604, slots := 3624, locals := 241 } s m args below meth c H locs ce sl (vx_MQ below (gXz G True q.1 q.2) (gXC G (fun _ => False) M0) args s 604 3624 (gA G)) (F0 m 75 ls [.int (iI xs0_75)]) := by
          clear hce hsl
          intro xs0_75 bxs0_75 M_75 hf H locs ls ce sl hce hsl hH hR hS hl
          subst ek75
          refine g_istore X (lv' := [(7, .int (iI xs0_75)), (0, .ref (gAd G 0 0)), (1, .int (iI z1)), (2, .int (iI z2)), (4, .int (iI x4)), (5, .ref (G.1 + a9)), (6, .int (iI x6))]) dL_isKept_75 hl (by decide) rfl (fun ls hl => ?_)
          refine lv_iload X.1 X.2.1 dL_isKept_77 (lv_at hl.1 4 rfl) ?_
          refine lv_iload X.1 X.2.1 dL_isKept_79 (lv_at hl.1 0 rfl) ?_
          obtain ⟨k92, ek92, hf_⟩ := oj_e hf; clear hf; have hf := hf_; clear hf_
          have hk92 : ∀ (xs1_92 : Int) (nxs1_92 : nmI xs1_92), k92 xs1_92 = some q → ∀ (H : Heap) (locs : List Loc) (ls : Array Slot) (ce sl : Nat), ce + (24 + (n * 27 + zz)) ≤ 604 → sl + 6 * (24 + (n * 27 + zz)) ≤ 3624 → gH G M_75 H → gR G a9 x5 H → va_S (gA G) s.heap H locs → gLv ls 14 [(0, .ref (gAd G 0 0)), (1, .int (iI z1)), (2, .int (iI z2)), (5, .ref (G.1 + a9)), (6, .int (iI x6)), (7, .int (iI xs0_75))] → W p l e { frames := 11, cells := 604, slots := 3624, locals := 241 } s m args below meth c H locs ce sl (vx_MQ below (gXz G True q.1 q.2) (gXC G (fun _ => False) M0) args s 604 3624 (gA G)) (F0 m 92 ls [.int (iI xs1_92), .int (iI x4)]) := by
            clear hce hsl
            intro xs1_92 nxs1_92 hf H locs ls ce sl hce hsl hH hR hS hl
            subst ek92
            refine g_ior X dL_isKept_92 ?_
            refine g_istore X (lv' := [(4, .int (iI (gOr x4 xs1_92))), (0, .ref (gAd G 0 0)), (1, .int (iI z1)), (2, .int (iI z2)), (5, .ref (G.1 + a9)), (6, .int (iI x6)), (7, .int (iI xs0_75))]) dL_isKept_93 hl (by decide) rfl (fun ls hl => ?_)
            refine lv_aload_n X.1 X.2.1 dL_isKept_95 rfl (lv_at hl.1 1 rfl) ?_
            refine lv_bipush X.1 X.2.1 dL_isKept_96 (v := iI 10) (by decide) ?_
            refine lv_iload X.1 X.2.1 dL_isKept_98 (lv_at hl.1 5 rfl) ?_
            refine lv_iconst X.1 X.2.1 dL_isKept_100 (v := iI 1) rfl ?_
            obtain ⟨r101, hq101, hf_⟩ := ob_e hf; clear hf; have hf := hf_; clear hf_
            refine gBL X Z h0 ha has hH hR hS (a := 4) (As := [.ref (gAd G 0 0), .int (iI 10), .int (iI x6), .int (iI 1)]) (m_P_does l hl0 (gBn G (G.1 + a9)) 10 (nmI_l (by decide)) x6 nx6 1 (nmI_l (by decide)) M_75 _ hq101) k_473 k_30 ⟨by decide, by decide⟩ (by decide +kernel) k_472 k_471 ⟨by decide, by decide⟩ rfl hl rfl (Nat.le_of_ble_eq_true rfl) ⟨by show _ ≤ 604; omega, by show _ ≤ 3624; omega⟩ dL_isKept_101 (fun H locs nr101 hH hR hS => ?_)
            obtain ⟨k144, ek144, hf_⟩ := oj_e hf; clear hf; have hf := hf_; clear hf_
            have hk144 : ∀ (xs0_144 : Int) (bxs0_144 : xs0_144 = 0 ∨ xs0_144 = 1) (M_144 : gM), k144 xs0_144 M_144 = some q → ∀ (H : Heap) (locs : List Loc) (ls : Array Slot) (ce sl : Nat), ce + (15 + (n * 27 + zz)) ≤ 604 → sl + 6 * (15 + (n * 27 + zz)) ≤ 3624 → gH G M_144 H → gR G a9 x5 H → va_S (gA G) s.heap H locs → gLv ls 14 [(0, .ref (gAd G 0 0)), (1, .int (iI z1)), (2, .int (iI z2)), (4, .int (iI (gOr x4 xs1_92))), (5, .ref (G.1 + a9)), (6, .int (iI x6))] → W p l e { frames := 11, cells := 604, slots := 3624, locals := 241 } s m args below meth c H locs ce sl (vx_MQ below (gXz G True q.1 q.2) (gXC G (fun _ => False) M0) args s 604 3624 (gA G)) (F0 m 144 ls [.int (iI xs0_144)]) := by
              clear hce hsl
              intro xs0_144 bxs0_144 M_144 hf H locs ls ce sl hce hsl hH hR hS hl
              subst ek144
              refine g_istore_n X (lv' := [(3, .int (iI xs0_144)), (0, .ref (gAd G 0 0)), (1, .int (iI z1)), (2, .int (iI z2)), (4, .int (iI (gOr x4 xs1_92))), (5, .ref (G.1 + a9)), (6, .int (iI x6))]) dL_isKept_144 rfl hl (by decide) rfl (fun ls hl => ?_)
              refine lv_iconst X.1 X.2.1 dL_isKept_145 (v := iI 0) rfl ?_
              refine g_istore X (lv' := [(8, .int (iI 0)), (3, .int (iI xs0_144)), (0, .ref (gAd G 0 0)), (1, .int (iI z1)), (2, .int (iI z2)), (4, .int (iI (gOr x4 xs1_92))), (5, .ref (G.1 + a9)), (6, .int (iI x6))]) dL_isKept_146 hl (by decide) rfl (fun ls hl => ?_)
              refine w_P_isKept_L148 X hl0 Z M0 h0 ha has _ z1 nz1 z2 nz2 xs0_144 bxs0_144 (gOr x4 xs1_92) (nmI_or _ _) x6 nx6 (0 + (n * 27 + zz)) q ?_ 5 x5 0 (nmI_l (by decide)) M_144 hf _ _ _ _ _ (by omega) (by omega) hH hR hS (gLv_sub hl [2, 3, 4, 1, 5, 6, 7, 0] rfl)
              · clear hce hsl
                intro y5_148_180 M_148_180 hf H locs ls ce sl hce hsl hH hR hS hl
                refine g_iinc X (a := x6) (lv' := [(6, .int (iI (wI (x6 + 1)))), (0, .ref (gAd G 0 0)), (1, .int (iI z1)), (2, .int (iI z2)), (3, .int (iI xs0_144)), (4, .int (iI (gOr x4 xs1_92))), (5, .ref (G.1 + a9))]) dL_isKept_180 hl (k := 6) rfl (by decide) rfl (fun ls hl => ?_)
                refine lv_goto (tgt := 36) X.1 X.2.1 dL_isKept_183 (by decide) ?_
                exact ih xs0_144 bxs0_144 (gOr x4 xs1_92) (nmI_or _ _) y5_148_180 (wI (x6 + 1)) (nmI_w _) M_148_180 hf _ _ _ _ _ (by omega) (by omega) hH hR hS (gLv_sub hl [1, 2, 3, 4, 5, 6, 0] rfl)
            clear ek144
            obtain ⟨k143, ek143, hf_⟩ := oj_e hf; clear hf; have hf := hf_; clear hf_
            have hk143 : ∀  (M_143 : gM), k143 M_143 = some q → ∀ (H : Heap) (locs : List Loc) (ls : Array Slot) (ce sl : Nat), ce + (15 + (n * 27 + zz)) ≤ 604 → sl + 6 * (15 + (n * 27 + zz)) ≤ 3624 → gH G M_143 H → gR G a9 x5 H → va_S (gA G) s.heap H locs → gLv ls 14 [(0, .ref (gAd G 0 0)), (1, .int (iI z1)), (2, .int (iI z2)), (4, .int (iI (gOr x4 xs1_92))), (5, .ref (G.1 + a9)), (6, .int (iI x6))] → W p l e { frames := 11, cells := 604, slots := 3624, locals := 241 } s m args below meth c H locs ce sl (vx_MQ below (gXz G True q.1 q.2) (gXC G (fun _ => False) M0) args s 604 3624 (gA G)) (F0 m 143 ls []) := by
              clear hce hsl
              intro  M_143 hf H locs ls ce sl hce hsl hH hR hS hl
              subst ek143
              refine lv_iconst X.1 X.2.1 dL_isKept_143 (v := iI 0) rfl ?_
              exact hk144 0 (by decide) M_143 hf _ _ _ _ _ (by omega) (by omega) hH hR hS (gLv_sub hl [0, 1, 2, 3, 4, 5] rfl)
            clear ek143
            refine g_if_ne X nr101 (tgt := 143) dL_isKept_104 (by decide) (fun hc104 => ?_) (fun hc104 => ?_)
            · replace hf := it_f hf hc104
              exact hk143 r101.2 hf _ _ _ _ _ (by omega) (by omega) hH hR hS (gLv_sub hl [1, 2, 3, 0, 4, 5] rfl)
            · replace hf := it_t hf hc104
              refine lv_iload X.1 X.2.1 dL_isKept_107 (lv_at hl.1 6 rfl) ?_
              obtain ⟨k139, ek139, hf_⟩ := oj_e hf; clear hf; have hf := hf_; clear hf_
              have hk139 : ∀  (M_139 : gM), k139 M_139 = some q → ∀ (H : Heap) (locs : List Loc) (ls : Array Slot) (ce sl : Nat), ce + (15 + (n * 27 + zz)) ≤ 604 → sl + 6 * (15 + (n * 27 + zz)) ≤ 3624 → gH G M_139 H → gR G a9 x5 H → va_S (gA G) s.heap H locs → gLv ls 14 [(0, .ref (gAd G 0 0)), (1, .int (iI z1)), (2, .int (iI z2)), (4, .int (iI (gOr x4 xs1_92))), (5, .ref (G.1 + a9)), (6, .int (iI x6))] → W p l e { frames := 11, cells := 604, slots := 3624, locals := 241 } s m args below meth c H locs ce sl (vx_MQ below (gXz G True q.1 q.2) (gXC G (fun _ => False) M0) args s 604 3624 (gA G)) (F0 m 139 ls []) := by
                clear hce hsl
                intro  M_139 hf H locs ls ce sl hce hsl hH hR hS hl
                subst ek139
                refine lv_iconst X.1 X.2.1 dL_isKept_139 (v := iI 1) rfl ?_
                refine lv_goto (tgt := 144) X.1 X.2.1 dL_isKept_140 (by decide) ?_
                exact hk144 1 (by decide) M_139 hf _ _ _ _ _ (by omega) (by omega) hH hR hS (gLv_sub hl [0, 1, 2, 3, 4, 5] rfl)
              clear ek139
              refine g_if_eq X (nmI_b bxs0_75) (tgt := 139) dL_isKept_109 (by decide) (fun hc109 => ?_) (fun hc109 => ?_)
              · replace hf := it_t hf hc109
                exact hk139 r101.2 hf _ _ _ _ _ (by omega) (by omega) hH hR hS (gLv_sub hl [1, 2, 3, 0, 4, 5] rfl)
              · replace hf := it_f hf hc109
                refine lv_aload_n X.1 X.2.1 dL_isKept_112 rfl (lv_at hl.1 1 rfl) ?_
                refine lv_bipush X.1 X.2.1 dL_isKept_113 (v := iI 13) (by decide) ?_
                refine lv_iload X.1 X.2.1 dL_isKept_115 (lv_at hl.1 5 rfl) ?_
                refine lv_iconst X.1 X.2.1 dL_isKept_117 (v := iI 0) rfl ?_
                obtain ⟨r118, hq118, hf_⟩ := ob_e hf; clear hf; have hf := hf_; clear hf_
                refine gBL X Z h0 ha has hH hR hS (a := 4) (As := [.ref (gAd G 0 0), .int (iI 13), .int (iI x6), .int (iI 0)]) (m_P_does l hl0 (gBn G (G.1 + a9)) 13 (nmI_l (by decide)) x6 nx6 0 (nmI_l (by decide)) r101.2 _ hq118) k_473 k_30 ⟨by decide, by decide⟩ (by decide +kernel) k_472 k_471 ⟨by decide, by decide⟩ rfl hl rfl (Nat.le_of_ble_eq_true rfl) ⟨by show _ ≤ 604; omega, by show _ ≤ 3624; omega⟩ dL_isKept_118 (fun H locs nr118 hH hR hS => ?_)
                refine lv_iload_n X.1 X.2.1 dL_isKept_121 rfl (lv_at hl.1 3 rfl) ?_
                refine g_iand X dL_isKept_122 ?_
                refine g_if_ne X (nmI_and _ _) (tgt := 139) dL_isKept_123 (by decide) (fun hc123 => ?_) (fun hc123 => ?_)
                · replace hf := it_f hf hc123
                  exact hk139 r118.2 hf _ _ _ _ _ (by omega) (by omega) hH hR hS (gLv_sub hl [1, 2, 3, 0, 4, 5] rfl)
                · replace hf := it_t hf hc123
                  refine lv_aload_n X.1 X.2.1 dL_isKept_126 rfl (lv_at hl.1 1 rfl) ?_
                  refine lv_bipush X.1 X.2.1 dL_isKept_127 (v := iI 10) (by decide) ?_
                  refine lv_iload X.1 X.2.1 dL_isKept_129 (lv_at hl.1 5 rfl) ?_
                  refine lv_iconst X.1 X.2.1 dL_isKept_131 (v := iI 3) rfl ?_
                  obtain ⟨r132, hq132, hf_⟩ := ob_e hf; clear hf; have hf := hf_; clear hf_
                  refine gBL X Z h0 ha has hH hR hS (a := 4) (As := [.ref (gAd G 0 0), .int (iI 10), .int (iI x6), .int (iI 3)]) (m_P_does l hl0 (gBn G (G.1 + a9)) 10 (nmI_l (by decide)) x6 nx6 3 (nmI_l (by decide)) r118.2 _ hq132) k_473 k_30 ⟨by decide, by decide⟩ (by decide +kernel) k_472 k_471 ⟨by decide, by decide⟩ rfl hl rfl (Nat.le_of_ble_eq_true rfl) ⟨by show _ ≤ 604; omega, by show _ ≤ 3624; omega⟩ dL_isKept_132 (fun H locs nr132 hH hR hS => ?_)
                  refine lv_iconst X.1 X.2.1 dL_isKept_135 (v := iI 1) rfl ?_
                  refine g_icmp_ne X nr132 (nmI_l (by decide)) (tgt := 143) dL_isKept_136 (by decide) (fun hc136 => ?_) (fun hc136 => ?_)
                  · replace hf := it_f hf hc136
                    exact hk143 r132.2 hf _ _ _ _ _ (by omega) (by omega) hH hR hS (gLv_sub hl [1, 2, 3, 0, 4, 5] rfl)
                  · replace hf := it_t hf hc136
                    exact hk139 r132.2 hf _ _ _ _ _ (by omega) (by omega) hH hR hS (gLv_sub hl [1, 2, 3, 0, 4, 5] rfl)
          clear ek92
          refine g_if_eq X (nmI_b bxs0_75) (tgt := 91) dL_isKept_81 (by decide) (fun hc81 => ?_) (fun hc81 => ?_)
          · replace hf := it_t hf hc81
            refine lv_iconst X.1 X.2.1 dL_isKept_91 (v := iI 0) rfl ?_
            exact hk92 0 (nmI_l (by decide)) hf _ _ _ _ _ (by omega) (by omega) hH hR hS (gLv_sub hl [1, 2, 3, 5, 6, 0] rfl)
          · replace hf := it_f hf hc81
            refine lv_iconst X.1 X.2.1 dL_isKept_84 (v := iI 1) rfl ?_
            refine lv_iload X.1 X.2.1 dL_isKept_85 (lv_at hl.1 6 rfl) ?_
            refine g_ishl X dL_isKept_87 ?_
            refine lv_goto (tgt := 92) X.1 X.2.1 dL_isKept_88 (by decide) ?_
            exact hk92 (gShl 1 x6) (nmI_shl _ _) hf _ _ _ _ _ (by omega) (by omega) hH hR hS (gLv_sub hl [1, 2, 3, 5, 6, 0] rfl)
        clear ek75
        obtain ⟨k74, ek74, hf_⟩ := oj_e hf; clear hf; have hf := hf_; clear hf_
        have hk74 : ∀  (M_74 : gM), k74 M_74 = some q → ∀ (H : Heap) (locs : List Loc) (ls : Array Slot) (ce sl : Nat), ce + (24 + (n * 27 + zz)) ≤ 604 → sl + 6 * (24 + (n * 27 + zz)) ≤ 3624 → gH G M_74 H → gR G a9 x5 H → va_S (gA G) s.heap H locs → gLv ls 14 [(0, .ref (gAd G 0 0)), (1, .int (iI z1)), (2, .int (iI z2)), (4, .int (iI x4)), (5, .ref (G.1 + a9)), (6, .int (iI x6))] → W p l e { frames := 11, cells := 604, slots := 3624, locals := 241 } s m args below meth c H locs ce sl (vx_MQ below (gXz G True q.1 q.2) (gXC G (fun _ => False) M0) args s 604 3624 (gA G)) (F0 m 74 ls []) := by
          clear hce hsl
          intro  M_74 hf H locs ls ce sl hce hsl hH hR hS hl
          subst ek74
          refine lv_iconst X.1 X.2.1 dL_isKept_74 (v := iI 0) rfl ?_
          exact hk75 0 (by decide) M_74 hf _ _ _ _ _ (by omega) (by omega) hH hR hS (gLv_sub hl [0, 1, 2, 3, 4, 5] rfl)
        clear ek74
        refine g_icmp_ne X (nmI_and _ _) (nmI_l (by decide)) (tgt := 74) dL_isKept_54 (by decide) (fun hc54 => ?_) (fun hc54 => ?_)
        · replace hf := it_f hf hc54
          exact hk74 M hf _ _ _ _ _ (by omega) (by omega) hH hR hS (gLv_sub hl [0, 1, 2, 4, 5, 6] rfl)
        · replace hf := it_t hf hc54
          refine lv_aload_n X.1 X.2.1 dL_isKept_57 rfl (lv_at hl.1 0 rfl) ?_
          refine lv_bipush X.1 X.2.1 dL_isKept_58 (v := iI 10) (by decide) ?_
          refine lv_iload X.1 X.2.1 dL_isKept_60 (lv_at hl.1 6 rfl) ?_
          refine lv_iconst X.1 X.2.1 dL_isKept_62 (v := iI 0) rfl ?_
          obtain ⟨r63, hq63, hf_⟩ := ob_e hf; clear hf; have hf := hf_; clear hf_
          refine gBL X Z h0 ha has hH hR hS (a := 4) (As := [.ref (gAd G 0 0), .int (iI 10), .int (iI x6), .int (iI 0)]) (m_P_does l hl0 (gBn G (G.1 + a9)) 10 (nmI_l (by decide)) x6 nx6 0 (nmI_l (by decide)) M _ hq63) k_473 k_30 ⟨by decide, by decide⟩ (by decide +kernel) k_472 k_471 ⟨by decide, by decide⟩ rfl hl rfl (Nat.le_of_ble_eq_true rfl) ⟨by show _ ≤ 604; omega, by show _ ≤ 3624; omega⟩ dL_isKept_63 (fun H locs nr63 hH hR hS => ?_)
          refine lv_iconst X.1 X.2.1 dL_isKept_66 (v := iI 1) rfl ?_
          refine g_icmp_ne X nr63 (nmI_l (by decide)) (tgt := 74) dL_isKept_67 (by decide) (fun hc67 => ?_) (fun hc67 => ?_)
          · replace hf := it_f hf hc67
            exact hk74 r63.2 hf _ _ _ _ _ (by omega) (by omega) hH hR hS (gLv_sub hl [0, 1, 2, 4, 5, 6] rfl)
          · replace hf := it_t hf hc67
            refine lv_iconst X.1 X.2.1 dL_isKept_70 (v := iI 1) rfl ?_
            refine lv_goto (tgt := 75) X.1 X.2.1 dL_isKept_71 (by decide) ?_
            exact hk75 1 (by decide) r63.2 hf _ _ _ _ _ (by omega) (by omega) hH hR hS (gLv_sub hl [0, 1, 2, 4, 5, 6] rfl)
set_option maxHeartbeats 4000000 in
theorem w_P_isKept_L212 {G : gG} {p : Program} {l : Launch} {e : Env} {s : State} {m : MethodId} {args : Array Value} {below : List Frame} {meth : Method} {c : Code} (X : gX G p s m args meth c RL cL_isKept 14 (some .boolean) (gWs yL_isKept cL_isKept 14 (some .boolean))) (hl0 : l.stackTraces = false) (Z : gS G s) (M0 : gM) (h0 : gBan G = 0) {a9 : Nat} (ha : gN ≤ a9) (has : s.heap.size ≤ G.1 + a9) (k254 : Int → gM → Option (Int × gM)) (z4 : Int) (nz4 : nmI z4) (z5 : Nat → Int) (zz : Nat) (q : (Int × gM)) (hk254 : ∀ (x6 : Int) (nx6 : nmI x6) (M : gM), k254 x6 M = some q → ∀ (H : Heap) (locs : List Loc) (ls : Array Slot) (ce sl : Nat), ce + (zz) ≤ 604 → sl + 6 * (zz) ≤ 3624 → gH G M H → gR G a9 z5 H → va_S (gA G) s.heap H locs → gLv ls 14 [(0, .ref (gAd G 0 0)), (4, .int (iI z4)), (5, .ref (G.1 + a9)), (6, .int (iI x6))] → W p l e { frames := 11, cells := 604, slots := 3624, locals := 241 } s m args below meth c H locs ce sl (vx_MQ below (gXz G True q.1 q.2) (gXC G (fun _ => False) M0) args s 604 3624 (gA G)) (F0 m 254 ls [])) : ∀ (n : Nat) (x6 : Int) (nx6 : nmI x6) (x7 : Int) (nx7 : nmI x7) (M : gM), f_P_isKept_L212 k254 z4 z5 n x6 x7 M = some q → ∀ (H : Heap) (locs : List Loc) (ls : Array Slot) (ce sl : Nat), ce + (n * 3 + zz) ≤ 604 → sl + 6 * (n * 3 + zz) ≤ 3624 → gH G M H → gR G a9 z5 H → va_S (gA G) s.heap H locs → gLv ls 14 [(0, .ref (gAd G 0 0)), (4, .int (iI z4)), (5, .ref (G.1 + a9)), (6, .int (iI x6)), (7, .int (iI x7))] → W p l e { frames := 11, cells := 604, slots := 3624, locals := 241 } s m args below meth c H locs ce sl (vx_MQ below (gXz G True q.1 q.2) (gXC G (fun _ => False) M0) args s 604 3624 (gA G)) (F0 m 212 ls []) := by
  intro n
  induction n with
  | zero =>
    intro x6 nx6 x7 nx7 M hf
    cases hf
  | succ n ih =>
    intro x6 nx6 x7 nx7 M hf H locs ls ce sl hce hsl hH hR hS hl
    rw [f_P_isKept_L212] at hf
    refine lv_iload X.1 X.2.1 dL_isKept_212 (lv_at hl.1 4 rfl) ?_
    refine lv_bipush X.1 X.2.1 dL_isKept_214 (v := iI 6) (by decide) ?_
    refine g_icmp_ge X nx7 (nmI_l (by decide)) (tgt := 254) dL_isKept_216 (by decide) (fun hc216 => ?_) (fun hc216 => ?_)
    · replace hf := it_f hf hc216
      exact hk254 x6 nx6 M hf _ _ _ _ _ (by omega) (by omega) hH hR hS (gLv_sub hl [0, 1, 2, 3] rfl)
    · replace hf := it_t hf hc216
      refine lv_iload X.1 X.2.1 dL_isKept_219 (lv_at hl.1 3 rfl) ?_
      refine lv_iload X.1 X.2.1 dL_isKept_221 (lv_at hl.1 1 rfl) ?_
      refine lv_iload X.1 X.2.1 dL_isKept_223 (lv_at hl.1 4 rfl) ?_
      refine g_ishr X dL_isKept_225 ?_
      refine lv_iconst X.1 X.2.1 dL_isKept_226 (v := iI 1) rfl ?_
      refine g_iand X dL_isKept_227 ?_
      refine lv_iconst X.1 X.2.1 dL_isKept_228 (v := iI 1) rfl ?_
      obtain ⟨k245, ek245, hf_⟩ := oj_e hf; clear hf; have hf := hf_; clear hf_
      have hk245 : ∀ (xs1_245 : Int) (nxs1_245 : nmI xs1_245) (M_245 : gM), k245 xs1_245 M_245 = some q → ∀ (H : Heap) (locs : List Loc) (ls : Array Slot) (ce sl : Nat), ce + (0 + (n * 3 + zz)) ≤ 604 → sl + 6 * (0 + (n * 3 + zz)) ≤ 3624 → gH G M_245 H → gR G a9 z5 H → va_S (gA G) s.heap H locs → gLv ls 14 [(0, .ref (gAd G 0 0)), (4, .int (iI z4)), (5, .ref (G.1 + a9)), (7, .int (iI x7))] → W p l e { frames := 11, cells := 604, slots := 3624, locals := 241 } s m args below meth c H locs ce sl (vx_MQ below (gXz G True q.1 q.2) (gXC G (fun _ => False) M0) args s 604 3624 (gA G)) (F0 m 245 ls [.int (iI xs1_245), .int (iI x6)]) := by
        clear hce hsl
        intro xs1_245 nxs1_245 M_245 hf H locs ls ce sl hce hsl hH hR hS hl
        subst ek245
        refine g_ior X dL_isKept_245 ?_
        refine g_istore X (lv' := [(6, .int (iI (gOr x6 xs1_245))), (0, .ref (gAd G 0 0)), (4, .int (iI z4)), (5, .ref (G.1 + a9)), (7, .int (iI x7))]) dL_isKept_246 hl (by decide) rfl (fun ls hl => ?_)
        refine g_iinc X (a := x7) (lv' := [(7, .int (iI (wI (x7 + 1)))), (6, .int (iI (gOr x6 xs1_245))), (0, .ref (gAd G 0 0)), (4, .int (iI z4)), (5, .ref (G.1 + a9))]) dL_isKept_248 hl (k := 4) rfl (by decide) rfl (fun ls hl => ?_)
        refine lv_goto (tgt := 212) X.1 X.2.1 dL_isKept_251 (by decide) ?_
        exact ih (gOr x6 xs1_245) (nmI_or _ _) (wI (x7 + 1)) (nmI_w _) M_245 hf _ _ _ _ _ (by omega) (by omega) hH hR hS (gLv_sub hl [2, 3, 4, 1, 0] rfl)
      clear ek245
      refine g_icmp_ne X (nmI_and _ _) (nmI_l (by decide)) (tgt := 244) dL_isKept_229 (by decide) (fun hc229 => ?_) (fun hc229 => ?_)
      · replace hf := it_f hf hc229
        refine lv_iconst X.1 X.2.1 dL_isKept_244 (v := iI 0) rfl ?_
        exact hk245 0 (nmI_l (by decide)) M hf _ _ _ _ _ (by omega) (by omega) hH hR hS (gLv_sub hl [0, 1, 2, 4] rfl)
      · replace hf := it_t hf hc229
        refine lv_aload_n X.1 X.2.1 dL_isKept_232 rfl (lv_at hl.1 0 rfl) ?_
        refine lv_bipush X.1 X.2.1 dL_isKept_233 (v := iI 13) (by decide) ?_
        refine lv_iload X.1 X.2.1 dL_isKept_235 (lv_at hl.1 4 rfl) ?_
        refine lv_iconst X.1 X.2.1 dL_isKept_237 (v := iI 0) rfl ?_
        obtain ⟨r238, hq238, hf_⟩ := ob_e hf; clear hf; have hf := hf_; clear hf_
        refine gBL X Z h0 ha has hH hR hS (a := 4) (As := [.ref (gAd G 0 0), .int (iI 13), .int (iI x7), .int (iI 0)]) (m_P_does l hl0 (gBn G (G.1 + a9)) 13 (nmI_l (by decide)) x7 nx7 0 (nmI_l (by decide)) M _ hq238) k_473 k_30 ⟨by decide, by decide⟩ (by decide +kernel) k_472 k_471 ⟨by decide, by decide⟩ rfl hl rfl (Nat.le_of_ble_eq_true rfl) ⟨by show _ ≤ 604; omega, by show _ ≤ 3624; omega⟩ dL_isKept_238 (fun H locs nr238 hH hR hS => ?_)
        refine lv_goto (tgt := 245) X.1 X.2.1 dL_isKept_241 (by decide) ?_
        exact hk245 r238.1 nr238 r238.2 hf _ _ _ _ _ (by omega) (by omega) hH hR hS (gLv_sub hl [0, 1, 2, 4] rfl)
set_option maxHeartbeats 4000000 in
theorem w_P_isKept_L453 {G : gG} {p : Program} {l : Launch} {e : Env} {s : State} {m : MethodId} {args : Array Value} {below : List Frame} {meth : Method} {c : Code} (X : gX G p s m args meth c RL cL_isKept 14 (some .boolean) (gWs yL_isKept cL_isKept 14 (some .boolean))) (hl0 : l.stackTraces = false) (Z : gS G s) (M0 : gM) (h0 : gBan G = 0) {a9 : Nat} (ha : gN ≤ a9) (has : s.heap.size ≤ G.1 + a9) (k503 : Int → gM → Option (Int × gM)) (z5 : Nat → Int) (z6 : Int) (nz6 : nmI z6) (z11 : Int) (nz11 : nmI z11) (z12 : Int) (bz12 : z12 = 0 ∨ z12 = 1) (zz : Nat) (q : (Int × gM)) (hk503 : ∀ (x3 : Int) (bx3 : x3 = 0 ∨ x3 = 1) (M : gM), k503 x3 M = some q → ∀ (H : Heap) (locs : List Loc) (ls : Array Slot) (ce sl : Nat), ce + (zz) ≤ 604 → sl + 6 * (zz) ≤ 3624 → gH G M H → gR G a9 z5 H → va_S (gA G) s.heap H locs → gLv ls 14 [(0, .ref (gAd G 0 0)), (3, .int (iI x3)), (5, .ref (G.1 + a9)), (6, .int (iI z6)), (11, .int (iI z11))] → W p l e { frames := 11, cells := 604, slots := 3624, locals := 241 } s m args below meth c H locs ce sl (vx_MQ below (gXz G True q.1 q.2) (gXC G (fun _ => False) M0) args s 604 3624 (gA G)) (F0 m 503 ls [])) : ∀ (n : Nat) (x3 : Int) (bx3 : x3 = 0 ∨ x3 = 1) (x13 : Int) (nx13 : nmI x13) (M : gM), f_P_isKept_L453 k503 z5 z6 z11 z12 n x3 x13 M = some q → ∀ (H : Heap) (locs : List Loc) (ls : Array Slot) (ce sl : Nat), ce + (n * 3 + zz) ≤ 604 → sl + 6 * (n * 3 + zz) ≤ 3624 → gH G M H → gR G a9 z5 H → va_S (gA G) s.heap H locs → gLv ls 14 [(0, .ref (gAd G 0 0)), (3, .int (iI x3)), (5, .ref (G.1 + a9)), (6, .int (iI z6)), (11, .int (iI z11)), (12, .int (iI z12)), (13, .int (iI x13))] → W p l e { frames := 11, cells := 604, slots := 3624, locals := 241 } s m args below meth c H locs ce sl (vx_MQ below (gXz G True q.1 q.2) (gXC G (fun _ => False) M0) args s 604 3624 (gA G)) (F0 m 453 ls []) := by
  intro n
  induction n with
  | zero =>
    intro x3 bx3 x13 nx13 M hf
    cases hf
  | succ n ih =>
    intro x3 bx3 x13 nx13 M hf H locs ls ce sl hce hsl hH hR hS hl
    rw [f_P_isKept_L453] at hf
    refine lv_iload X.1 X.2.1 dL_isKept_453 (lv_at hl.1 6 rfl) ?_
    refine lv_iconst X.1 X.2.1 dL_isKept_455 (v := iI 4) rfl ?_
    refine g_icmp_ge X nx13 (nmI_l (by decide)) (tgt := 503) dL_isKept_456 (by decide) (fun hc456 => ?_) (fun hc456 => ?_)
    · replace hf := it_f hf hc456
      exact hk503 x3 bx3 M hf _ _ _ _ _ (by omega) (by omega) hH hR hS (gLv_sub hl [0, 1, 2, 3, 4] rfl)
    · replace hf := it_t hf hc456
      refine lv_iload_n X.1 X.2.1 dL_isKept_459 rfl (lv_at hl.1 1 rfl) ?_
      refine g_if_eq X (nmI_b bx3) (tgt := 503) dL_isKept_460 (by decide) (fun hc460 => ?_) (fun hc460 => ?_)
      · replace hf := it_t hf hc460
        exact hk503 x3 bx3 M hf _ _ _ _ _ (by omega) (by omega) hH hR hS (gLv_sub hl [0, 1, 2, 3, 4] rfl)
      · replace hf := it_f hf hc460
        refine lv_iload X.1 X.2.1 dL_isKept_463 (lv_at hl.1 5 rfl) ?_
        refine g_if_eq X (nmI_b bz12) (tgt := 503) dL_isKept_465 (by decide) (fun hc465 => ?_) (fun hc465 => ?_)
        · replace hf := it_t hf hc465
          exact hk503 x3 bx3 M hf _ _ _ _ _ (by omega) (by omega) hH hR hS (gLv_sub hl [0, 1, 2, 3, 4] rfl)
        · replace hf := it_f hf hc465
          refine lv_aload_n X.1 X.2.1 dL_isKept_468 rfl (lv_at hl.1 0 rfl) ?_
          refine lv_bipush X.1 X.2.1 dL_isKept_469 (v := iI 9) (by decide) ?_
          refine lv_iload X.1 X.2.1 dL_isKept_471 (lv_at hl.1 4 rfl) ?_
          refine lv_iload X.1 X.2.1 dL_isKept_473 (lv_at hl.1 6 rfl) ?_
          obtain ⟨r475, hq475, hf_⟩ := ob_e hf; clear hf; have hf := hf_; clear hf_
          refine gBL X Z h0 ha has hH hR hS (a := 4) (As := [.ref (gAd G 0 0), .int (iI 9), .int (iI z11), .int (iI x13)]) (m_P_does l hl0 (gBn G (G.1 + a9)) 9 (nmI_l (by decide)) z11 nz11 x13 nx13 M _ hq475) k_473 k_30 ⟨by decide, by decide⟩ (by decide +kernel) k_472 k_471 ⟨by decide, by decide⟩ rfl hl rfl (Nat.le_of_ble_eq_true rfl) ⟨by show _ ≤ 604; omega, by show _ ≤ 3624; omega⟩ dL_isKept_475 (fun H locs nr475 hH hR hS => ?_)
          refine lv_aload X.1 X.2.1 dL_isKept_478 (lv_at hl.1 2 rfl) ?_
          refine lv_iconst X.1 X.2.1 dL_isKept_480 (v := iI 4) rfl ?_
          refine lv_iload X.1 X.2.1 dL_isKept_481 (lv_at hl.1 4 rfl) ?_
          refine g_imul X dL_isKept_483 ?_
          refine lv_iload X.1 X.2.1 dL_isKept_484 (lv_at hl.1 6 rfl) ?_
          refine g_iadd X dL_isKept_486 ?_
          obtain ⟨hg, hf_⟩ := og_e hf; clear hf; have hf := hf_; clear hf_
          refine gRald X hR (nmI_w _) hg dL_isKept_487 ?_
          obtain ⟨k496, ek496, hf_⟩ := oj_e hf; clear hf; have hf := hf_; clear hf_
          have hk496 : ∀ (xs0_496 : Int) (bxs0_496 : xs0_496 = 0 ∨ xs0_496 = 1), k496 xs0_496 = some q → ∀ (H : Heap) (locs : List Loc) (ls : Array Slot) (ce sl : Nat), ce + (0 + (n * 3 + zz)) ≤ 604 → sl + 6 * (0 + (n * 3 + zz)) ≤ 3624 → gH G r475.2 H → gR G a9 z5 H → va_S (gA G) s.heap H locs → gLv ls 14 [(0, .ref (gAd G 0 0)), (5, .ref (G.1 + a9)), (6, .int (iI z6)), (11, .int (iI z11)), (12, .int (iI z12)), (13, .int (iI x13))] → W p l e { frames := 11, cells := 604, slots := 3624, locals := 241 } s m args below meth c H locs ce sl (vx_MQ below (gXz G True q.1 q.2) (gXC G (fun _ => False) M0) args s 604 3624 (gA G)) (F0 m 496 ls [.int (iI xs0_496)]) := by
            clear hce hsl
            intro xs0_496 bxs0_496 hf H locs ls ce sl hce hsl hH hR hS hl
            subst ek496
            refine g_istore_n X (lv' := [(3, .int (iI xs0_496)), (0, .ref (gAd G 0 0)), (5, .ref (G.1 + a9)), (6, .int (iI z6)), (11, .int (iI z11)), (12, .int (iI z12)), (13, .int (iI x13))]) dL_isKept_496 rfl hl (by decide) rfl (fun ls hl => ?_)
            refine g_iinc X (a := x13) (lv' := [(13, .int (iI (wI (x13 + 1)))), (3, .int (iI xs0_496)), (0, .ref (gAd G 0 0)), (5, .ref (G.1 + a9)), (6, .int (iI z6)), (11, .int (iI z11)), (12, .int (iI z12))]) dL_isKept_497 hl (k := 6) rfl (by decide) rfl (fun ls hl => ?_)
            refine lv_goto (tgt := 453) X.1 X.2.1 dL_isKept_500 (by decide) ?_
            exact ih xs0_496 bxs0_496 (wI (x13 + 1)) (nmI_w _) r475.2 hf _ _ _ _ _ (by omega) (by omega) hH hR hS (gLv_sub hl [2, 1, 3, 4, 5, 6, 0] rfl)
          clear ek496
          refine g_icmp_ne X nr475 (hR.2 _) (tgt := 495) dL_isKept_488 (by decide) (fun hc488 => ?_) (fun hc488 => ?_)
          · replace hf := it_f hf hc488
            refine lv_iconst X.1 X.2.1 dL_isKept_495 (v := iI 0) rfl ?_
            exact hk496 0 (by decide) hf _ _ _ _ _ (by omega) (by omega) hH hR hS (gLv_sub hl [0, 2, 3, 4, 5, 6] rfl)
          · replace hf := it_t hf hc488
            refine lv_iconst X.1 X.2.1 dL_isKept_491 (v := iI 1) rfl ?_
            refine lv_goto (tgt := 496) X.1 X.2.1 dL_isKept_492 (by decide) ?_
            exact hk496 1 (by decide) hf _ _ _ _ _ (by omega) (by omega) hH hR hS (gLv_sub hl [0, 2, 3, 4, 5, 6] rfl)
set_option maxHeartbeats 4000000 in
theorem w_P_isKept_L350 {G : gG} {p : Program} {l : Launch} {e : Env} {s : State} {m : MethodId} {args : Array Value} {below : List Frame} {meth : Method} {c : Code} (X : gX G p s m args meth c RL cL_isKept 14 (some .boolean) (gWs yL_isKept cL_isKept 14 (some .boolean))) (hl0 : l.stackTraces = false) (Z : gS G s) (M0 : gM) (h0 : gBan G = 0) {a9 : Nat} (ha : gN ≤ a9) (has : s.heap.size ≤ G.1 + a9) (k509 : Int → gM → Option (Int × gM)) (z5 : Nat → Int) (z6 : Int) (nz6 : nmI z6) (zz : Nat) (q : (Int × gM)) (hk509 : ∀ (x3 : Int) (bx3 : x3 = 0 ∨ x3 = 1) (M : gM), k509 x3 M = some q → ∀ (H : Heap) (locs : List Loc) (ls : Array Slot) (ce sl : Nat), ce + (zz) ≤ 604 → sl + 6 * (zz) ≤ 3624 → gH G M H → va_S (gA G) s.heap H locs → gLv ls 14 [(3, .int (iI x3))] → W p l e { frames := 11, cells := 604, slots := 3624, locals := 241 } s m args below meth c H locs ce sl (vx_MQ below (gXz G True q.1 q.2) (gXC G (fun _ => False) M0) args s 604 3624 (gA G)) (F0 m 509 ls [])) : ∀ (n : Nat) (x3 : Int) (bx3 : x3 = 0 ∨ x3 = 1) (x11 : Int) (nx11 : nmI x11) (M : gM), f_P_isKept_L350 k509 z5 z6 n x3 x11 M = some q → ∀ (H : Heap) (locs : List Loc) (ls : Array Slot) (ce sl : Nat), ce + (n * 27 + zz) ≤ 604 → sl + 6 * (n * 27 + zz) ≤ 3624 → gH G M H → gR G a9 z5 H → va_S (gA G) s.heap H locs → gLv ls 14 [(0, .ref (gAd G 0 0)), (3, .int (iI x3)), (5, .ref (G.1 + a9)), (6, .int (iI z6)), (11, .int (iI x11))] → W p l e { frames := 11, cells := 604, slots := 3624, locals := 241 } s m args below meth c H locs ce sl (vx_MQ below (gXz G True q.1 q.2) (gXC G (fun _ => False) M0) args s 604 3624 (gA G)) (F0 m 350 ls []) := by
  intro n
  induction n with
  | zero =>
    intro x3 bx3 x11 nx11 M hf
    cases hf
  | succ n ih =>
    intro x3 bx3 x11 nx11 M hf H locs ls ce sl hce hsl hH hR hS hl
    rw [f_P_isKept_L350] at hf
    refine lv_iload X.1 X.2.1 dL_isKept_350 (lv_at hl.1 4 rfl) ?_
    refine lv_bipush X.1 X.2.1 dL_isKept_352 (v := iI 6) (by decide) ?_
    refine g_icmp_ge X nx11 (nmI_l (by decide)) (tgt := 509) dL_isKept_354 (by decide) (fun hc354 => ?_) (fun hc354 => ?_)
    · replace hf := it_f hf hc354
      exact hk509 x3 bx3 M hf _ _ _ _ _ (by omega) (by omega) hH hS (gLv_sub hl [1] rfl)
    · replace hf := it_t hf hc354
      refine lv_iload_n X.1 X.2.1 dL_isKept_357 rfl (lv_at hl.1 1 rfl) ?_
      refine g_if_eq X (nmI_b bx3) (tgt := 509) dL_isKept_358 (by decide) (fun hc358 => ?_) (fun hc358 => ?_)
      · replace hf := it_t hf hc358
        exact hk509 x3 bx3 M hf _ _ _ _ _ (by omega) (by omega) hH hS (gLv_sub hl [1] rfl)
      · replace hf := it_f hf hc358
        refine lv_iload X.1 X.2.1 dL_isKept_361 (lv_at hl.1 3 rfl) ?_
        refine lv_iload X.1 X.2.1 dL_isKept_363 (lv_at hl.1 4 rfl) ?_
        refine g_ishr X dL_isKept_365 ?_
        refine lv_iconst X.1 X.2.1 dL_isKept_366 (v := iI 1) rfl ?_
        refine g_iand X dL_isKept_367 ?_
        refine lv_iconst X.1 X.2.1 dL_isKept_368 (v := iI 1) rfl ?_
        obtain ⟨k377, ek377, hf_⟩ := oj_e hf; clear hf; have hf := hf_; clear hf_
        have hk377 : ∀ (xs0_377 : Int) (bxs0_377 : xs0_377 = 0 ∨ xs0_377 = 1), k377 xs0_377 = some q → ∀ (H : Heap) (locs : List Loc) (ls : Array Slot) (ce sl : Nat), ce + (27 + (n * 27 + zz)) ≤ 604 → sl + 6 * (27 + (n * 27 + zz)) ≤ 3624 → gH G M H → gR G a9 z5 H → va_S (gA G) s.heap H locs → gLv ls 14 [(0, .ref (gAd G 0 0)), (5, .ref (G.1 + a9)), (6, .int (iI z6)), (11, .int (iI x11))] → W p l e { frames := 11, cells := 604, slots := 3624, locals := 241 } s m args below meth c H locs ce sl (vx_MQ below (gXz G True q.1 q.2) (gXC G (fun _ => False) M0) args s 604 3624 (gA G)) (F0 m 377 ls [.int (iI xs0_377)]) := by
          clear hce hsl
          intro xs0_377 bxs0_377 hf H locs ls ce sl hce hsl hH hR hS hl
          subst ek377
          refine g_istore X (lv' := [(12, .int (iI xs0_377)), (0, .ref (gAd G 0 0)), (5, .ref (G.1 + a9)), (6, .int (iI z6)), (11, .int (iI x11))]) dL_isKept_377 hl (by decide) rfl (fun ls hl => ?_)
          refine lv_aload_n X.1 X.2.1 dL_isKept_379 rfl (lv_at hl.1 1 rfl) ?_
          refine lv_bipush X.1 X.2.1 dL_isKept_380 (v := iI 8) (by decide) ?_
          refine lv_iload X.1 X.2.1 dL_isKept_382 (lv_at hl.1 4 rfl) ?_
          refine lv_iconst X.1 X.2.1 dL_isKept_384 (v := iI 0) rfl ?_
          obtain ⟨r385, hq385, hf_⟩ := ob_e hf; clear hf; have hf := hf_; clear hf_
          refine gBL X Z h0 ha has hH hR hS (a := 4) (As := [.ref (gAd G 0 0), .int (iI 8), .int (iI x11), .int (iI 0)]) (m_P_does l hl0 (gBn G (G.1 + a9)) 8 (nmI_l (by decide)) x11 nx11 0 (nmI_l (by decide)) M _ hq385) k_473 k_30 ⟨by decide, by decide⟩ (by decide +kernel) k_472 k_471 ⟨by decide, by decide⟩ rfl hl rfl (Nat.le_of_ble_eq_true rfl) ⟨by show _ ≤ 604; omega, by show _ ≤ 3624; omega⟩ dL_isKept_385 (fun H locs nr385 hH hR hS => ?_)
          refine lv_iconst X.1 X.2.1 dL_isKept_388 (v := iI 3) rfl ?_
          obtain ⟨k397, ek397, hf_⟩ := oj_e hf; clear hf; have hf := hf_; clear hf_
          have hk397 : ∀ (xs0_397 : Int) (bxs0_397 : xs0_397 = 0 ∨ xs0_397 = 1), k397 xs0_397 = some q → ∀ (H : Heap) (locs : List Loc) (ls : Array Slot) (ce sl : Nat), ce + (24 + (n * 27 + zz)) ≤ 604 → sl + 6 * (24 + (n * 27 + zz)) ≤ 3624 → gH G r385.2 H → gR G a9 z5 H → va_S (gA G) s.heap H locs → gLv ls 14 [(0, .ref (gAd G 0 0)), (5, .ref (G.1 + a9)), (6, .int (iI z6)), (11, .int (iI x11)), (12, .int (iI xs0_377))] → W p l e { frames := 11, cells := 604, slots := 3624, locals := 241 } s m args below meth c H locs ce sl (vx_MQ below (gXz G True q.1 q.2) (gXC G (fun _ => False) M0) args s 604 3624 (gA G)) (F0 m 397 ls [.int (iI xs0_397)]) := by
            clear hce hsl
            intro xs0_397 bxs0_397 hf H locs ls ce sl hce hsl hH hR hS hl
            subst ek397
            refine lv_iload X.1 X.2.1 dL_isKept_397 (lv_at hl.1 4 rfl) ?_
            obtain ⟨k449, ek449, hf_⟩ := oj_e hf; clear hf; have hf := hf_; clear hf_
            have hk449 : ∀ (xs0_449 : Int) (bxs0_449 : xs0_449 = 0 ∨ xs0_449 = 1) (M_449 : gM), k449 xs0_449 M_449 = some q → ∀ (H : Heap) (locs : List Loc) (ls : Array Slot) (ce sl : Nat), ce + (15 + (n * 27 + zz)) ≤ 604 → sl + 6 * (15 + (n * 27 + zz)) ≤ 3624 → gH G M_449 H → gR G a9 z5 H → va_S (gA G) s.heap H locs → gLv ls 14 [(0, .ref (gAd G 0 0)), (5, .ref (G.1 + a9)), (6, .int (iI z6)), (11, .int (iI x11)), (12, .int (iI xs0_377))] → W p l e { frames := 11, cells := 604, slots := 3624, locals := 241 } s m args below meth c H locs ce sl (vx_MQ below (gXz G True q.1 q.2) (gXC G (fun _ => False) M0) args s 604 3624 (gA G)) (F0 m 449 ls [.int (iI xs0_449)]) := by
              clear hce hsl
              intro xs0_449 bxs0_449 M_449 hf H locs ls ce sl hce hsl hH hR hS hl
              subst ek449
              refine g_istore_n X (lv' := [(3, .int (iI xs0_449)), (0, .ref (gAd G 0 0)), (5, .ref (G.1 + a9)), (6, .int (iI z6)), (11, .int (iI x11)), (12, .int (iI xs0_377))]) dL_isKept_449 rfl hl (by decide) rfl (fun ls hl => ?_)
              refine lv_iconst X.1 X.2.1 dL_isKept_450 (v := iI 0) rfl ?_
              refine g_istore X (lv' := [(13, .int (iI 0)), (3, .int (iI xs0_449)), (0, .ref (gAd G 0 0)), (5, .ref (G.1 + a9)), (6, .int (iI z6)), (11, .int (iI x11)), (12, .int (iI xs0_377))]) dL_isKept_451 hl (by decide) rfl (fun ls hl => ?_)
              refine w_P_isKept_L453 X hl0 Z M0 h0 ha has _ z5 z6 nz6 x11 nx11 xs0_377 bxs0_377 (0 + (n * 27 + zz)) q ?_ 5 xs0_449 bxs0_449 0 (nmI_l (by decide)) M_449 hf _ _ _ _ _ (by omega) (by omega) hH hR hS (gLv_sub hl [2, 1, 3, 4, 5, 6, 0] rfl)
              · clear hce hsl
                intro y3_453_503 by3_453_503 M_453_503 hf H locs ls ce sl hce hsl hH hR hS hl
                refine g_iinc X (a := x11) (lv' := [(11, .int (iI (wI (x11 + 1)))), (0, .ref (gAd G 0 0)), (3, .int (iI y3_453_503)), (5, .ref (G.1 + a9)), (6, .int (iI z6))]) dL_isKept_503 hl (k := 4) rfl (by decide) rfl (fun ls hl => ?_)
                refine lv_goto (tgt := 350) X.1 X.2.1 dL_isKept_506 (by decide) ?_
                exact ih y3_453_503 by3_453_503 (wI (x11 + 1)) (nmI_w _) M_453_503 hf _ _ _ _ _ (by omega) (by omega) hH hR hS (gLv_sub hl [1, 2, 3, 4, 0] rfl)
            clear ek449
            obtain ⟨k448, ek448, hf_⟩ := oj_e hf; clear hf; have hf := hf_; clear hf_
            have hk448 : ∀  (M_448 : gM), k448 M_448 = some q → ∀ (H : Heap) (locs : List Loc) (ls : Array Slot) (ce sl : Nat), ce + (15 + (n * 27 + zz)) ≤ 604 → sl + 6 * (15 + (n * 27 + zz)) ≤ 3624 → gH G M_448 H → gR G a9 z5 H → va_S (gA G) s.heap H locs → gLv ls 14 [(0, .ref (gAd G 0 0)), (5, .ref (G.1 + a9)), (6, .int (iI z6)), (11, .int (iI x11)), (12, .int (iI xs0_377))] → W p l e { frames := 11, cells := 604, slots := 3624, locals := 241 } s m args below meth c H locs ce sl (vx_MQ below (gXz G True q.1 q.2) (gXC G (fun _ => False) M0) args s 604 3624 (gA G)) (F0 m 448 ls []) := by
              clear hce hsl
              intro  M_448 hf H locs ls ce sl hce hsl hH hR hS hl
              subst ek448
              refine lv_iconst X.1 X.2.1 dL_isKept_448 (v := iI 0) rfl ?_
              exact hk449 0 (by decide) M_448 hf _ _ _ _ _ (by omega) (by omega) hH hR hS (gLv_sub hl [0, 1, 2, 3, 4] rfl)
            clear ek448
            refine g_icmp_ne X (nmI_b bxs0_397) (nmI_b bxs0_377) (tgt := 448) dL_isKept_399 (by decide) (fun hc399 => ?_) (fun hc399 => ?_)
            · replace hf := it_f hf hc399
              exact hk448 r385.2 hf _ _ _ _ _ (by omega) (by omega) hH hR hS (gLv_sub hl [0, 1, 2, 3, 4] rfl)
            · replace hf := it_t hf hc399
              refine lv_iload X.1 X.2.1 dL_isKept_402 (lv_at hl.1 4 rfl) ?_
              obtain ⟨k444, ek444, hf_⟩ := oj_e hf; clear hf; have hf := hf_; clear hf_
              have hk444 : ∀  (M_444 : gM), k444 M_444 = some q → ∀ (H : Heap) (locs : List Loc) (ls : Array Slot) (ce sl : Nat), ce + (15 + (n * 27 + zz)) ≤ 604 → sl + 6 * (15 + (n * 27 + zz)) ≤ 3624 → gH G M_444 H → gR G a9 z5 H → va_S (gA G) s.heap H locs → gLv ls 14 [(0, .ref (gAd G 0 0)), (5, .ref (G.1 + a9)), (6, .int (iI z6)), (11, .int (iI x11)), (12, .int (iI xs0_377))] → W p l e { frames := 11, cells := 604, slots := 3624, locals := 241 } s m args below meth c H locs ce sl (vx_MQ below (gXz G True q.1 q.2) (gXC G (fun _ => False) M0) args s 604 3624 (gA G)) (F0 m 444 ls []) := by
                clear hce hsl
                intro  M_444 hf H locs ls ce sl hce hsl hH hR hS hl
                subst ek444
                refine lv_iconst X.1 X.2.1 dL_isKept_444 (v := iI 1) rfl ?_
                refine lv_goto (tgt := 449) X.1 X.2.1 dL_isKept_445 (by decide) ?_
                exact hk449 1 (by decide) M_444 hf _ _ _ _ _ (by omega) (by omega) hH hR hS (gLv_sub hl [0, 1, 2, 3, 4] rfl)
              clear ek444
              refine g_if_eq X (nmI_b bxs0_377) (tgt := 444) dL_isKept_404 (by decide) (fun hc404 => ?_) (fun hc404 => ?_)
              · replace hf := it_t hf hc404
                exact hk444 r385.2 hf _ _ _ _ _ (by omega) (by omega) hH hR hS (gLv_sub hl [0, 1, 2, 3, 4] rfl)
              · replace hf := it_f hf hc404
                refine lv_aload_n X.1 X.2.1 dL_isKept_407 rfl (lv_at hl.1 0 rfl) ?_
                refine lv_bipush X.1 X.2.1 dL_isKept_408 (v := iI 10) (by decide) ?_
                refine lv_iload X.1 X.2.1 dL_isKept_410 (lv_at hl.1 3 rfl) ?_
                refine lv_iconst X.1 X.2.1 dL_isKept_412 (v := iI 0) rfl ?_
                obtain ⟨r413, hq413, hf_⟩ := ob_e hf; clear hf; have hf := hf_; clear hf_
                refine gBL X Z h0 ha has hH hR hS (a := 4) (As := [.ref (gAd G 0 0), .int (iI 10), .int (iI x11), .int (iI 0)]) (m_P_does l hl0 (gBn G (G.1 + a9)) 10 (nmI_l (by decide)) x11 nx11 0 (nmI_l (by decide)) r385.2 _ hq413) k_473 k_30 ⟨by decide, by decide⟩ (by decide +kernel) k_472 k_471 ⟨by decide, by decide⟩ rfl hl rfl (Nat.le_of_ble_eq_true rfl) ⟨by show _ ≤ 604; omega, by show _ ≤ 3624; omega⟩ dL_isKept_413 (fun H locs nr413 hH hR hS => ?_)
                refine lv_iconst X.1 X.2.1 dL_isKept_416 (v := iI 1) rfl ?_
                refine g_icmp_ne X nr413 (nmI_l (by decide)) (tgt := 448) dL_isKept_417 (by decide) (fun hc417 => ?_) (fun hc417 => ?_)
                · replace hf := it_f hf hc417
                  exact hk448 r413.2 hf _ _ _ _ _ (by omega) (by omega) hH hR hS (gLv_sub hl [0, 1, 2, 3, 4] rfl)
                · replace hf := it_t hf hc417
                  refine lv_aload_n X.1 X.2.1 dL_isKept_420 rfl (lv_at hl.1 0 rfl) ?_
                  refine lv_bipush X.1 X.2.1 dL_isKept_421 (v := iI 10) (by decide) ?_
                  refine lv_iload X.1 X.2.1 dL_isKept_423 (lv_at hl.1 3 rfl) ?_
                  refine lv_iconst X.1 X.2.1 dL_isKept_425 (v := iI 1) rfl ?_
                  obtain ⟨r426, hq426, hf_⟩ := ob_e hf; clear hf; have hf := hf_; clear hf_
                  refine gBL X Z h0 ha has hH hR hS (a := 4) (As := [.ref (gAd G 0 0), .int (iI 10), .int (iI x11), .int (iI 1)]) (m_P_does l hl0 (gBn G (G.1 + a9)) 10 (nmI_l (by decide)) x11 nx11 1 (nmI_l (by decide)) r413.2 _ hq426) k_473 k_30 ⟨by decide, by decide⟩ (by decide +kernel) k_472 k_471 ⟨by decide, by decide⟩ rfl hl rfl (Nat.le_of_ble_eq_true rfl) ⟨by show _ ≤ 604; omega, by show _ ≤ 3624; omega⟩ dL_isKept_426 (fun H locs nr426 hH hR hS => ?_)
                  refine g_if_ne X nr426 (tgt := 448) dL_isKept_429 (by decide) (fun hc429 => ?_) (fun hc429 => ?_)
                  · replace hf := it_f hf hc429
                    exact hk448 r426.2 hf _ _ _ _ _ (by omega) (by omega) hH hR hS (gLv_sub hl [0, 1, 2, 3, 4] rfl)
                  · replace hf := it_t hf hc429
                    refine lv_aload_n X.1 X.2.1 dL_isKept_432 rfl (lv_at hl.1 0 rfl) ?_
                    refine lv_bipush X.1 X.2.1 dL_isKept_433 (v := iI 11) (by decide) ?_
                    refine lv_iload X.1 X.2.1 dL_isKept_435 (lv_at hl.1 3 rfl) ?_
                    refine lv_iconst X.1 X.2.1 dL_isKept_437 (v := iI 0) rfl ?_
                    obtain ⟨r438, hq438, hf_⟩ := ob_e hf; clear hf; have hf := hf_; clear hf_
                    refine gBL X Z h0 ha has hH hR hS (a := 4) (As := [.ref (gAd G 0 0), .int (iI 11), .int (iI x11), .int (iI 0)]) (m_P_does l hl0 (gBn G (G.1 + a9)) 11 (nmI_l (by decide)) x11 nx11 0 (nmI_l (by decide)) r426.2 _ hq438) k_473 k_30 ⟨by decide, by decide⟩ (by decide +kernel) k_472 k_471 ⟨by decide, by decide⟩ rfl hl rfl (Nat.le_of_ble_eq_true rfl) ⟨by show _ ≤ 604; omega, by show _ ≤ 3624; omega⟩ dL_isKept_438 (fun H locs nr438 hH hR hS => ?_)
                    refine g_if_lt X nr438 (tgt := 448) dL_isKept_441 (by decide) (fun hc441 => ?_) (fun hc441 => ?_)
                    · replace hf := it_t hf hc441
                      exact hk448 r438.2 hf _ _ _ _ _ (by omega) (by omega) hH hR hS (gLv_sub hl [0, 1, 2, 3, 4] rfl)
                    · replace hf := it_f hf hc441
                      exact hk444 r438.2 hf _ _ _ _ _ (by omega) (by omega) hH hR hS (gLv_sub hl [0, 1, 2, 3, 4] rfl)
          clear ek397
          refine g_icmp_ne X nr385 (nmI_l (by decide)) (tgt := 396) dL_isKept_389 (by decide) (fun hc389 => ?_) (fun hc389 => ?_)
          · replace hf := it_f hf hc389
            refine lv_iconst X.1 X.2.1 dL_isKept_396 (v := iI 0) rfl ?_
            exact hk397 0 (by decide) hf _ _ _ _ _ (by omega) (by omega) hH hR hS (gLv_sub hl [1, 2, 3, 4, 0] rfl)
          · replace hf := it_t hf hc389
            refine lv_iconst X.1 X.2.1 dL_isKept_392 (v := iI 1) rfl ?_
            refine lv_goto (tgt := 397) X.1 X.2.1 dL_isKept_393 (by decide) ?_
            exact hk397 1 (by decide) hf _ _ _ _ _ (by omega) (by omega) hH hR hS (gLv_sub hl [1, 2, 3, 4, 0] rfl)
        clear ek377
        refine g_icmp_ne X (nmI_and _ _) (nmI_l (by decide)) (tgt := 376) dL_isKept_369 (by decide) (fun hc369 => ?_) (fun hc369 => ?_)
        · replace hf := it_f hf hc369
          refine lv_iconst X.1 X.2.1 dL_isKept_376 (v := iI 0) rfl ?_
          exact hk377 0 (by decide) hf _ _ _ _ _ (by omega) (by omega) hH hR hS (gLv_sub hl [0, 2, 3, 4] rfl)
        · replace hf := it_t hf hc369
          refine lv_iconst X.1 X.2.1 dL_isKept_372 (v := iI 1) rfl ?_
          refine lv_goto (tgt := 377) X.1 X.2.1 dL_isKept_373 (by decide) ?_
          exact hk377 1 (by decide) hf _ _ _ _ _ (by omega) (by omega) hH hR hS (gLv_sub hl [0, 2, 3, 4] rfl)
set_option maxHeartbeats 4000000 in
theorem m_P_isKept (l : Launch) (hl0 : l.stackTraces = false) (G : gG) (h0 : gBan G = 0) (v1 : Int) (nv1 : nmI v1) (v2 : Int) (nv2 : nmI v2) (M0 : gM) (q : (Int × gM)) (hf : f_P_isKept v1 v2 M0 = some q) : gXMet l yL_isKept cL_isKept 14 (some .boolean) 11 241 604 3624 G M0 [.ref (gAd G 0 0), .int (iI v1), .int (iI v2)] (gXz G True q.1 q.2) (fun _ => False) := by
  refine gOfX (by decide) (by show _ ≤ 14; exact Nat.le_of_ble_eq_true rfl) rfl ?_
  intro p e s m below meth c X Z hnt hH ls hl
  replace hl : gLv ls 14 [(0, .ref (gAd G 0 0)), (1, .int (iI v1)), (2, .int (iI v2))] := hl
  have hS : va_S (gA G) s.heap s.heap [] := va_S.rf
  generalize hargs : ([.ref (gAd G 0 0), .int (iI v1), .int (iI v2)] : List Value).toArray = args at X ⊢
  clear hargs
  have hce : 0 + 604 ≤ 604 := by omega
  have hsl : 0 + 6 * 604 ≤ 3624 := by omega
  unfold f_P_isKept at hf
  refine lv_aload_n X.1 X.2.1 dL_isKept_0 rfl (lv_at hl.1 0 rfl) ?_
  refine lv_bipush X.1 X.2.1 dL_isKept_1 (v := iI 6) (by decide) ?_
  refine lv_iload_n X.1 X.2.1 dL_isKept_3 rfl (lv_at hl.1 1 rfl) ?_
  refine lv_iconst X.1 X.2.1 dL_isKept_4 (v := iI 0) rfl ?_
  obtain ⟨r5, hq5, hf_⟩ := ob_e hf; clear hf; have hf := hf_; clear hf_
  refine gGoL (gRunLX X Z hH hS (a := 4) (As := [.ref (gAd G 0 0), .int (iI 6), .int (iI v1), .int (iI 0)]) (m_P_does l hl0 G 6 (nmI_l (by decide)) v1 nv1 0 (nmI_l (by decide)) M0 _ hq5) k_473 k_30 ⟨by decide, by decide⟩ (by decide +kernel) k_472 k_471 ⟨by decide, by decide⟩ rfl hl rfl (Nat.le_of_ble_eq_true rfl) ⟨by show _ ≤ 604; omega, by show _ ≤ 3624; omega⟩ dL_isKept_5) hS (fun H locs nr5 hH hS => ?_)
  obtain ⟨k23, ek23, hf_⟩ := oj_e hf; clear hf; have hf := hf_; clear hf_
  have hk23 : ∀ (xs0_23 : Int) (bxs0_23 : xs0_23 = 0 ∨ xs0_23 = 1) (M_23 : gM), k23 xs0_23 M_23 = some q → ∀ (H : Heap) (locs : List Loc) (ls : Array Slot) (ce sl : Nat), ce + (418) ≤ 604 → sl + 6 * (418) ≤ 3624 → gH G M_23 H → va_S (gA G) s.heap H locs → gLv ls 14 [(0, .ref (gAd G 0 0)), (1, .int (iI v1)), (2, .int (iI v2))] → W p l e { frames := 11, cells := 604, slots := 3624, locals := 241 } s m args below meth c H locs ce sl (vx_MQ below (gXz G True q.1 q.2) (gXC G (fun _ => False) M0) args s 604 3624 (gA G)) (F0 m 23 ls [.int (iI xs0_23)]) := by
    clear hce hsl
    intro xs0_23 bxs0_23 M_23 hf H locs ls ce sl hce hsl hH hS hl
    subst ek23
    refine g_istore_n X (lv' := [(3, .int (iI xs0_23)), (0, .ref (gAd G 0 0)), (1, .int (iI v1)), (2, .int (iI v2))]) dL_isKept_23 rfl hl (by decide) rfl (fun ls hl => ?_)
    refine lv_iconst X.1 X.2.1 dL_isKept_24 (v := iI 0) rfl ?_
    refine g_istore X (lv' := [(4, .int (iI 0)), (3, .int (iI xs0_23)), (0, .ref (gAd G 0 0)), (1, .int (iI v1)), (2, .int (iI v2))]) dL_isKept_25 hl (by decide) rfl (fun ls hl => ?_)
    refine lv_bipush X.1 X.2.1 dL_isKept_27 (v := iI 24) (by decide) ?_
    refine gNewR X hH hS (by show _ ≤ 604; omega) (by show _ ≤ 3624; omega) k_89 dL_isKept_29 (fun a9 H ha has hH hR hS => ?_)
    refine g_astore X (lv' := [(5, .ref (G.1 + a9)), (4, .int (iI 0)), (3, .int (iI xs0_23)), (0, .ref (gAd G 0 0)), (1, .int (iI v1)), (2, .int (iI v2))]) dL_isKept_31 hl (by decide) rfl (fun ls hl => ?_)
    refine lv_iconst X.1 X.2.1 dL_isKept_33 (v := iI 0) rfl ?_
    refine g_istore X (lv' := [(6, .int (iI 0)), (5, .ref (G.1 + a9)), (4, .int (iI 0)), (3, .int (iI xs0_23)), (0, .ref (gAd G 0 0)), (1, .int (iI v1)), (2, .int (iI v2))]) dL_isKept_34 hl (by decide) rfl (fun ls hl => ?_)
    refine w_P_isKept_L36 X hl0 Z M0 h0 ha has _ v1 nv1 v2 nv2 225 q ?_ 7 xs0_23 bxs0_23 0 (nmI_l (by decide)) ((fun _ => 0)) 0 (nmI_l (by decide)) M_23 hf _ _ _ _ _ (by omega) (by omega) hH hR hS (gLv_sub hl [4, 5, 6, 3, 2, 1, 0] rfl)
    · clear hce hsl
      intro y3_36_186 by3_36_186 y4_36_186 ny4_36_186 y5_36_186 M_36_186 hf H locs ls ce sl hce hsl hH hR hS hl
      refine lv_iload_n X.1 X.2.1 dL_isKept_186 rfl (lv_at hl.1 1 rfl) ?_
      refine g_if_eq X (nmI_b by3_36_186) (tgt := 204) dL_isKept_187 (by decide) (fun hc187 => ?_) (fun hc187 => ?_)
      · replace hf := it_t hf hc187
        refine lv_iload_n X.1 X.2.1 dL_isKept_204 rfl (lv_at hl.1 1 rfl) ?_
        have hq := Option.some.inj hf; subst hq
        exact gRetXZ X hH hS trivial (res := y3_36_186) by3_36_186 ⟨by omega, by omega⟩ dL_isKept_205
      · replace hf := it_f hf hc187
        refine lv_iload X.1 X.2.1 dL_isKept_190 (lv_at hl.1 2 rfl) ?_
        refine g_if_eq X ny4_36_186 (tgt := 204) dL_isKept_192 (by decide) (fun hc192 => ?_) (fun hc192 => ?_)
        · replace hf := it_t hf hc192
          refine lv_iload_n X.1 X.2.1 dL_isKept_204 rfl (lv_at hl.1 1 rfl) ?_
          have hq := Option.some.inj hf; subst hq
          exact gRetXZ X hH hS trivial (res := y3_36_186) by3_36_186 ⟨by omega, by omega⟩ dL_isKept_205
        · replace hf := it_f hf hc192
          refine lv_aload_n X.1 X.2.1 dL_isKept_195 rfl (lv_at hl.1 0 rfl) ?_
          refine gBI X h0 ha has hH hR hS (As := []) (m_X11_entries l (gBn G (G.1 + a9)) M_36_186 _ rfl) calX11_entries k_1102 k_1103 k_1101 (by decide) cX11 rfl ⟨by decide, by decide⟩ rfl hl rfl (Nat.le_of_ble_eq_true rfl) ⟨by show _ ≤ 604; omega, by show _ ≤ 3624; omega⟩ dL_isKept_196 (fun H locs nr196 hH hR hS => ?_)
          refine lv_bipush X.1 X.2.1 dL_isKept_199 (v := iI 40) (by decide) ?_
          refine g_icmp_ne X nr196 (nmI_l (by decide)) (tgt := 206) dL_isKept_201 (by decide) (fun hc201 => ?_) (fun hc201 => ?_)
          · replace hf := it_f hf hc201
            refine lv_iconst X.1 X.2.1 dL_isKept_206 (v := iI 0) rfl ?_
            refine g_istore X (lv' := [(6, .int (iI 0)), (0, .ref (gAd G 0 0)), (3, .int (iI y3_36_186)), (4, .int (iI y4_36_186)), (5, .ref (G.1 + a9))]) dL_isKept_207 hl (by decide) rfl (fun ls hl => ?_)
            refine lv_iconst X.1 X.2.1 dL_isKept_209 (v := iI 0) rfl ?_
            refine g_istore X (lv' := [(7, .int (iI 0)), (6, .int (iI 0)), (0, .ref (gAd G 0 0)), (3, .int (iI y3_36_186)), (4, .int (iI y4_36_186)), (5, .ref (G.1 + a9))]) dL_isKept_210 hl (by decide) rfl (fun ls hl => ?_)
            refine w_P_isKept_L212 X hl0 Z M0 h0 ha has _ y4_36_186 ny4_36_186 y5_36_186 204 q ?_ 7 0 (nmI_l (by decide)) 0 (nmI_l (by decide)) M_36_186 hf _ _ _ _ _ (by omega) (by omega) hH hR hS (gLv_sub hl [2, 4, 5, 1, 0] rfl)
            · clear hce hsl
              intro y6_212_254 ny6_212_254 M_212_254 hf H locs ls ce sl hce hsl hH hR hS hl
              refine lv_aload_n X.1 X.2.1 dL_isKept_254 rfl (lv_at hl.1 0 rfl) ?_
              refine gBI X h0 ha has hH hR hS (As := []) (m_X11_entries l (gBn G (G.1 + a9)) M_212_254 _ rfl) calX11_entries k_1102 k_1103 k_1101 (by decide) cX11 rfl ⟨by decide, by decide⟩ rfl hl rfl (Nat.le_of_ble_eq_true rfl) ⟨by show _ ≤ 604; omega, by show _ ≤ 3624; omega⟩ dL_isKept_255 (fun H locs nr255 hH hR hS => ?_)
              refine g_istore X (lv' := [(7, .int (iI ((f_X11_entries M_212_254)))), (0, .ref (gAd G 0 0)), (4, .int (iI y4_36_186)), (5, .ref (G.1 + a9)), (6, .int (iI y6_212_254))]) dL_isKept_258 hl (by decide) rfl (fun ls hl => ?_)
              refine lv_aload_n X.1 X.2.1 dL_isKept_260 rfl (lv_at hl.1 1 rfl) ?_
              refine lv_bipush X.1 X.2.1 dL_isKept_261 (v := iI 12) (by decide) ?_
              refine lv_iconst X.1 X.2.1 dL_isKept_263 (v := iI 0) rfl ?_
              refine lv_iconst X.1 X.2.1 dL_isKept_264 (v := iI 0) rfl ?_
              obtain ⟨r265, hq265, hf_⟩ := ob_e hf; clear hf; have hf := hf_; clear hf_
              refine gBL X Z h0 ha has hH hR hS (a := 4) (As := [.ref (gAd G 0 0), .int (iI 12), .int (iI 0), .int (iI 0)]) (m_P_does l hl0 (gBn G (G.1 + a9)) 12 (nmI_l (by decide)) 0 (nmI_l (by decide)) 0 (nmI_l (by decide)) M_212_254 _ hq265) k_473 k_30 ⟨by decide, by decide⟩ (by decide +kernel) k_472 k_471 ⟨by decide, by decide⟩ rfl hl rfl (Nat.le_of_ble_eq_true rfl) ⟨by show _ ≤ 604; omega, by show _ ≤ 3624; omega⟩ dL_isKept_265 (fun H locs nr265 hH hR hS => ?_)
              refine g_istore X (lv' := [(8, .int (iI r265.1)), (7, .int (iI ((f_X11_entries M_212_254)))), (0, .ref (gAd G 0 0)), (4, .int (iI y4_36_186)), (5, .ref (G.1 + a9)), (6, .int (iI y6_212_254))]) dL_isKept_268 hl (by decide) rfl (fun ls hl => ?_)
              refine lv_aload_n X.1 X.2.1 dL_isKept_270 rfl (lv_at hl.1 2 rfl) ?_
              refine lv_bipush X.1 X.2.1 dL_isKept_271 (v := iI 12) (by decide) ?_
              refine lv_iconst X.1 X.2.1 dL_isKept_273 (v := iI 1) rfl ?_
              refine lv_iconst X.1 X.2.1 dL_isKept_274 (v := iI 0) rfl ?_
              obtain ⟨r275, hq275, hf_⟩ := ob_e hf; clear hf; have hf := hf_; clear hf_
              refine gBL X Z h0 ha has hH hR hS (a := 4) (As := [.ref (gAd G 0 0), .int (iI 12), .int (iI 1), .int (iI 0)]) (m_P_does l hl0 (gBn G (G.1 + a9)) 12 (nmI_l (by decide)) 1 (nmI_l (by decide)) 0 (nmI_l (by decide)) r265.2 _ hq275) k_473 k_30 ⟨by decide, by decide⟩ (by decide +kernel) k_472 k_471 ⟨by decide, by decide⟩ rfl hl rfl (Nat.le_of_ble_eq_true rfl) ⟨by show _ ≤ 604; omega, by show _ ≤ 3624; omega⟩ dL_isKept_275 (fun H locs nr275 hH hR hS => ?_)
              refine g_istore X (lv' := [(9, .int (iI r275.1)), (8, .int (iI r265.1)), (7, .int (iI ((f_X11_entries M_212_254)))), (0, .ref (gAd G 0 0)), (4, .int (iI y4_36_186)), (5, .ref (G.1 + a9)), (6, .int (iI y6_212_254))]) dL_isKept_278 hl (by decide) rfl (fun ls hl => ?_)
              refine lv_aload_n X.1 X.2.1 dL_isKept_280 rfl (lv_at hl.1 3 rfl) ?_
              refine lv_bipush X.1 X.2.1 dL_isKept_281 (v := iI 6) (by decide) ?_
              refine lv_iload X.1 X.2.1 dL_isKept_283 (lv_at hl.1 4 rfl) ?_
              refine lv_iconst X.1 X.2.1 dL_isKept_285 (v := iI 0) rfl ?_
              obtain ⟨r286, hq286, hf_⟩ := ob_e hf; clear hf; have hf := hf_; clear hf_
              refine gBL X Z h0 ha has hH hR hS (a := 4) (As := [.ref (gAd G 0 0), .int (iI 6), .int (iI y4_36_186), .int (iI 0)]) (m_P_does l hl0 (gBn G (G.1 + a9)) 6 (nmI_l (by decide)) y4_36_186 ny4_36_186 0 (nmI_l (by decide)) r275.2 _ hq286) k_473 k_30 ⟨by decide, by decide⟩ (by decide +kernel) k_472 k_471 ⟨by decide, by decide⟩ rfl hl rfl (Nat.le_of_ble_eq_true rfl) ⟨by show _ ≤ 604; omega, by show _ ≤ 3624; omega⟩ dL_isKept_286 (fun H locs nr286 hH hR hS => ?_)
              refine g_istore X (lv' := [(10, .int (iI r286.1)), (9, .int (iI r275.1)), (8, .int (iI r265.1)), (7, .int (iI ((f_X11_entries M_212_254)))), (0, .ref (gAd G 0 0)), (4, .int (iI y4_36_186)), (5, .ref (G.1 + a9)), (6, .int (iI y6_212_254))]) dL_isKept_289 hl (by decide) rfl (fun ls hl => ?_)
              refine lv_iload X.1 X.2.1 dL_isKept_291 (lv_at hl.1 0 rfl) ?_
              obtain ⟨k346, ek346, hf_⟩ := oj_e hf; clear hf; have hf := hf_; clear hf_
              have hk346 : ∀ (xs0_346 : Int) (bxs0_346 : xs0_346 = 0 ∨ xs0_346 = 1) (M_346 : gM), k346 xs0_346 M_346 = some q → ∀ (H : Heap) (locs : List Loc) (ls : Array Slot) (ce sl : Nat), ce + (189) ≤ 604 → sl + 6 * (189) ≤ 3624 → gH G M_346 H → gR G a9 y5_36_186 H → va_S (gA G) s.heap H locs → gLv ls 14 [(0, .ref (gAd G 0 0)), (5, .ref (G.1 + a9)), (6, .int (iI y6_212_254))] → W p l e { frames := 11, cells := 604, slots := 3624, locals := 241 } s m args below meth c H locs ce sl (vx_MQ below (gXz G True q.1 q.2) (gXC G (fun _ => False) M0) args s 604 3624 (gA G)) (F0 m 346 ls [.int (iI xs0_346)]) := by
                clear hce hsl
                intro xs0_346 bxs0_346 M_346 hf H locs ls ce sl hce hsl hH hR hS hl
                subst ek346
                refine g_istore_n X (lv' := [(3, .int (iI xs0_346)), (0, .ref (gAd G 0 0)), (5, .ref (G.1 + a9)), (6, .int (iI y6_212_254))]) dL_isKept_346 rfl hl (by decide) rfl (fun ls hl => ?_)
                refine lv_iconst X.1 X.2.1 dL_isKept_347 (v := iI 0) rfl ?_
                refine g_istore X (lv' := [(11, .int (iI 0)), (3, .int (iI xs0_346)), (0, .ref (gAd G 0 0)), (5, .ref (G.1 + a9)), (6, .int (iI y6_212_254))]) dL_isKept_348 hl (by decide) rfl (fun ls hl => ?_)
                refine w_P_isKept_L350 X hl0 Z M0 h0 ha has _ y5_36_186 y6_212_254 ny6_212_254 0 q ?_ 7 xs0_346 bxs0_346 0 (nmI_l (by decide)) M_346 hf _ _ _ _ _ (by omega) (by omega) hH hR hS (gLv_sub hl [2, 1, 3, 4, 0] rfl)
                · clear hce hsl
                  intro y3_350_509 by3_350_509 M_350_509 hf H locs ls ce sl hce hsl hH hS hl
                  refine lv_iload_n X.1 X.2.1 dL_isKept_509 rfl (lv_at hl.1 0 rfl) ?_
                  have hq := Option.some.inj hf; subst hq
                  exact gRetXZ X hH hS trivial (res := y3_350_509) by3_350_509 ⟨by omega, by omega⟩ dL_isKept_510
              clear ek346
              obtain ⟨k345, ek345, hf_⟩ := oj_e hf; clear hf; have hf := hf_; clear hf_
              have hk345 : ∀  (M_345 : gM), k345 M_345 = some q → ∀ (H : Heap) (locs : List Loc) (ls : Array Slot) (ce sl : Nat), ce + (189) ≤ 604 → sl + 6 * (189) ≤ 3624 → gH G M_345 H → gR G a9 y5_36_186 H → va_S (gA G) s.heap H locs → gLv ls 14 [(0, .ref (gAd G 0 0)), (5, .ref (G.1 + a9)), (6, .int (iI y6_212_254))] → W p l e { frames := 11, cells := 604, slots := 3624, locals := 241 } s m args below meth c H locs ce sl (vx_MQ below (gXz G True q.1 q.2) (gXC G (fun _ => False) M0) args s 604 3624 (gA G)) (F0 m 345 ls []) := by
                clear hce hsl
                intro  M_345 hf H locs ls ce sl hce hsl hH hR hS hl
                subst ek345
                refine lv_iconst X.1 X.2.1 dL_isKept_345 (v := iI 0) rfl ?_
                exact hk346 0 (by decide) M_345 hf _ _ _ _ _ (by omega) (by omega) hH hR hS (gLv_sub hl [0, 1, 2] rfl)
              clear ek345
              refine g_if_le X nr286 (tgt := 345) dL_isKept_293 (by decide) (fun hc293 => ?_) (fun hc293 => ?_)
              · replace hf := it_f hf hc293
                exact hk345 r286.2 hf _ _ _ _ _ (by omega) (by omega) hH hR hS (gLv_sub hl [4, 6, 7] rfl)
              · replace hf := it_t hf hc293
                refine lv_aload_n X.1 X.2.1 dL_isKept_296 rfl (lv_at hl.1 4 rfl) ?_
                refine gBZ X h0 ha has hH hR hS (As := []) (m_X11_goesOn l (gBn G (G.1 + a9)) r286.2 _ rfl) calX11_goesOn k_1098 k_1099 k_1097 (by decide) cX11 rfl ⟨by decide, by decide⟩ rfl hl rfl (Nat.le_of_ble_eq_true rfl) ⟨by show _ ≤ 604; omega, by show _ ≤ 3624; omega⟩ dL_isKept_297 (fun H locs br297 hH hR hS => ?_)
                refine g_if_ne X (nmI_b br297) (tgt := 345) dL_isKept_300 (by decide) (fun hc300 => ?_) (fun hc300 => ?_)
                · replace hf := it_f hf hc300
                  exact hk345 r286.2 hf _ _ _ _ _ (by omega) (by omega) hH hR hS (gLv_sub hl [4, 6, 7] rfl)
                · replace hf := it_t hf hc300
                  refine lv_aload_n X.1 X.2.1 dL_isKept_303 rfl (lv_at hl.1 4 rfl) ?_
                  refine gBI X h0 ha has hH hR hS (As := []) (m_X11_entries l (gBn G (G.1 + a9)) r286.2 _ rfl) calX11_entries k_1102 k_1103 k_1101 (by decide) cX11 rfl ⟨by decide, by decide⟩ rfl hl rfl (Nat.le_of_ble_eq_true rfl) ⟨by show _ ≤ 604; omega, by show _ ≤ 3624; omega⟩ dL_isKept_304 (fun H locs nr304 hH hR hS => ?_)
                  refine lv_iload X.1 X.2.1 dL_isKept_307 (lv_at hl.1 3 rfl) ?_
                  refine g_icmp_ne X nr304 nr255 (tgt := 345) dL_isKept_309 (by decide) (fun hc309 => ?_) (fun hc309 => ?_)
                  · replace hf := it_f hf hc309
                    exact hk345 r286.2 hf _ _ _ _ _ (by omega) (by omega) hH hR hS (gLv_sub hl [4, 6, 7] rfl)
                  · replace hf := it_t hf hc309
                    refine lv_aload_n X.1 X.2.1 dL_isKept_312 rfl (lv_at hl.1 4 rfl) ?_
                    refine lv_bipush X.1 X.2.1 dL_isKept_313 (v := iI 12) (by decide) ?_
                    refine lv_iconst X.1 X.2.1 dL_isKept_315 (v := iI 0) rfl ?_
                    refine lv_iconst X.1 X.2.1 dL_isKept_316 (v := iI 0) rfl ?_
                    obtain ⟨r317, hq317, hf_⟩ := ob_e hf; clear hf; have hf := hf_; clear hf_
                    refine gBL X Z h0 ha has hH hR hS (a := 4) (As := [.ref (gAd G 0 0), .int (iI 12), .int (iI 0), .int (iI 0)]) (m_P_does l hl0 (gBn G (G.1 + a9)) 12 (nmI_l (by decide)) 0 (nmI_l (by decide)) 0 (nmI_l (by decide)) r286.2 _ hq317) k_473 k_30 ⟨by decide, by decide⟩ (by decide +kernel) k_472 k_471 ⟨by decide, by decide⟩ rfl hl rfl (Nat.le_of_ble_eq_true rfl) ⟨by show _ ≤ 604; omega, by show _ ≤ 3624; omega⟩ dL_isKept_317 (fun H locs nr317 hH hR hS => ?_)
                    refine lv_iload X.1 X.2.1 dL_isKept_320 (lv_at hl.1 2 rfl) ?_
                    refine g_icmp_ne X nr317 nr265 (tgt := 345) dL_isKept_322 (by decide) (fun hc322 => ?_) (fun hc322 => ?_)
                    · replace hf := it_f hf hc322
                      exact hk345 r317.2 hf _ _ _ _ _ (by omega) (by omega) hH hR hS (gLv_sub hl [4, 6, 7] rfl)
                    · replace hf := it_t hf hc322
                      refine lv_aload_n X.1 X.2.1 dL_isKept_325 rfl (lv_at hl.1 4 rfl) ?_
                      refine lv_bipush X.1 X.2.1 dL_isKept_326 (v := iI 12) (by decide) ?_
                      refine lv_iconst X.1 X.2.1 dL_isKept_328 (v := iI 1) rfl ?_
                      refine lv_iconst X.1 X.2.1 dL_isKept_329 (v := iI 0) rfl ?_
                      obtain ⟨r330, hq330, hf_⟩ := ob_e hf; clear hf; have hf := hf_; clear hf_
                      refine gBL X Z h0 ha has hH hR hS (a := 4) (As := [.ref (gAd G 0 0), .int (iI 12), .int (iI 1), .int (iI 0)]) (m_P_does l hl0 (gBn G (G.1 + a9)) 12 (nmI_l (by decide)) 1 (nmI_l (by decide)) 0 (nmI_l (by decide)) r317.2 _ hq330) k_473 k_30 ⟨by decide, by decide⟩ (by decide +kernel) k_472 k_471 ⟨by decide, by decide⟩ rfl hl rfl (Nat.le_of_ble_eq_true rfl) ⟨by show _ ≤ 604; omega, by show _ ≤ 3624; omega⟩ dL_isKept_330 (fun H locs nr330 hH hR hS => ?_)
                      refine lv_iload X.1 X.2.1 dL_isKept_333 (lv_at hl.1 1 rfl) ?_
                      refine lv_iload X.1 X.2.1 dL_isKept_335 (lv_at hl.1 0 rfl) ?_
                      refine g_iadd X dL_isKept_337 ?_
                      refine g_icmp_ne X nr330 (nmI_w _) (tgt := 345) dL_isKept_338 (by decide) (fun hc338 => ?_) (fun hc338 => ?_)
                      · replace hf := it_f hf hc338
                        exact hk345 r330.2 hf _ _ _ _ _ (by omega) (by omega) hH hR hS (gLv_sub hl [4, 6, 7] rfl)
                      · replace hf := it_t hf hc338
                        refine lv_iconst X.1 X.2.1 dL_isKept_341 (v := iI 1) rfl ?_
                        refine lv_goto (tgt := 346) X.1 X.2.1 dL_isKept_342 (by decide) ?_
                        exact hk346 1 (by decide) r330.2 hf _ _ _ _ _ (by omega) (by omega) hH hR hS (gLv_sub hl [4, 6, 7] rfl)
          · replace hf := it_t hf hc201
            refine lv_iload_n X.1 X.2.1 dL_isKept_204 rfl (lv_at hl.1 1 rfl) ?_
            have hq := Option.some.inj hf; subst hq
            exact gRetXZ X hH hS trivial (res := y3_36_186) by3_36_186 ⟨by omega, by omega⟩ dL_isKept_205
  clear ek23
  obtain ⟨k22, ek22, hf_⟩ := oj_e hf; clear hf; have hf := hf_; clear hf_
  have hk22 : ∀  (M_22 : gM), k22 M_22 = some q → ∀ (H : Heap) (locs : List Loc) (ls : Array Slot) (ce sl : Nat), ce + (418) ≤ 604 → sl + 6 * (418) ≤ 3624 → gH G M_22 H → va_S (gA G) s.heap H locs → gLv ls 14 [(0, .ref (gAd G 0 0)), (1, .int (iI v1)), (2, .int (iI v2))] → W p l e { frames := 11, cells := 604, slots := 3624, locals := 241 } s m args below meth c H locs ce sl (vx_MQ below (gXz G True q.1 q.2) (gXC G (fun _ => False) M0) args s 604 3624 (gA G)) (F0 m 22 ls []) := by
    clear hce hsl
    intro  M_22 hf H locs ls ce sl hce hsl hH hS hl
    subst ek22
    refine lv_iconst X.1 X.2.1 dL_isKept_22 (v := iI 0) rfl ?_
    exact hk23 0 (by decide) M_22 hf _ _ _ _ _ (by omega) (by omega) hH hS (gLv_sub hl [0, 1, 2] rfl)
  clear ek22
  refine g_if_le X nr5 (tgt := 22) dL_isKept_8 (by decide) (fun hc8 => ?_) (fun hc8 => ?_)
  · replace hf := it_f hf hc8
    exact hk22 r5.2 hf _ _ _ _ _ (by omega) (by omega) hH hS (gLv_sub hl [0, 1, 2] rfl)
  · replace hf := it_t hf hc8
    refine lv_aload_n X.1 X.2.1 dL_isKept_11 rfl (lv_at hl.1 0 rfl) ?_
    obtain ⟨r12, hq12, hf_⟩ := ob_e hf; clear hf; have hf := hf_; clear hf_
    refine gGoXZ (gRunSX X Z hH hS (As := [.ref (gAd G 0 0)]) (m_P_ends l hl0 G  r5.2 _ hq12) calL_ends k_1095 k_1094 ⟨by decide, by decide⟩ rfl hl rfl (Nat.le_of_ble_eq_true rfl) ⟨by show _ ≤ 604; omega, by show _ ≤ 3624; omega⟩ dL_isKept_12) hS (fun E ce9 q9 H locs hE _ _ _ _ _ => by obtain ⟨_, h, _⟩ := hE; exact absurd h id) (fun H locs _ br12 hH hS => ?_)
    refine g_if_eq X (nmI_b br12) (tgt := 22) dL_isKept_15 (by decide) (fun hc15 => ?_) (fun hc15 => ?_)
    · replace hf := it_t hf hc15
      exact hk22 r12.2 hf _ _ _ _ _ (by omega) (by omega) hH hS (gLv_sub hl [0, 1, 2] rfl)
    · replace hf := it_f hf hc15
      refine lv_iconst X.1 X.2.1 dL_isKept_18 (v := iI 1) rfl ?_
      refine lv_goto (tgt := 23) X.1 X.2.1 dL_isKept_19 (by decide) ?_
      exact hk23 1 (by decide) r12.2 hf _ _ _ _ _ (by omega) (by omega) hH hS (gLv_sub hl [0, 1, 2] rfl)
