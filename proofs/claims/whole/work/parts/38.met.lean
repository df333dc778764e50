theorem w_X12_builds_L10 {G : gG} {p : Program} {l : Launch} {e : Env} {s : State} {m : MethodId} {args : Array Value} {below : List Frame} {meth : Method} {c : Code} (X : gX G p s m args meth c RX12 cX12_builds 5 none (gWs yX12_builds cX12_builds 5 none)) (k49 : gM → Option gM) (q : gM) (hk49 : ∀  (M : gM), k49 M = some q → ∀ (H : Heap) (locs : List Loc) (ls : Array Slot), gH G M H → va_S (gA G) s.heap H locs → gLv ls 5 [(0, .ref (gAd G 29 0))] → W p l e { frames := 4, cells := 0, slots := 0, locals := 97 } s m args below meth c H locs 0 0 (MQ below (gQv G q) args s 0 0 (gA G)) (F0 m 49 ls [])) : ∀ (n : Nat) (x1 : Int) (nx1 : nmI x1) (x2 : Int) (nx2 : nmI x2) (M : gM), f_X12_builds_L10 k49 n x1 x2 M = some q → ∀ (H : Heap) (locs : List Loc) (ls : Array Slot), gH G M H → va_S (gA G) s.heap H locs → gLv ls 5 [(0, .ref (gAd G 29 0)), (1, .int (iI x1)), (2, .int (iI x2))] → W p l e { frames := 4, cells := 0, slots := 0, locals := 97 } s m args below meth c H locs 0 0 (MQ below (gQv G q) args s 0 0 (gA G)) (F0 m 10 ls []) := by
  intro n
  induction n with
  | zero =>
    intro x1 nx1 x2 nx2 M hf
    cases hf
  | succ n ih =>
    intro x1 nx1 x2 nx2 M hf H locs ls hH hS hl
    rw [f_X12_builds_L10] at hf
    refine lv_iload_n X.1 X.2.1 dX12_builds_10 rfl (lv_at hl.1 1 rfl) ?_
    refine lv_iconst X.1 X.2.1 dX12_builds_11 (v := iI (-1)) rfl ?_
    refine g_icmp_eq X nx1 (nmI_l (by decide)) (tgt := 49) dX12_builds_12 (by decide) (fun hc12 => ?_) (fun hc12 => ?_)
    · replace hf := it_t hf hc12
      exact hk49 M hf _ _ _ hH hS (gLv_sub hl [0] rfl)
    · replace hf := it_f hf hc12
      refine lv_iload_n X.1 X.2.1 dX12_builds_15 rfl (lv_at hl.1 2 rfl) ?_
      refine lv_iconst X.1 X.2.1 dX12_builds_16 (v := iI (-1)) rfl ?_
      refine g_icmp_eq X nx2 (nmI_l (by decide)) (tgt := 49) dX12_builds_17 (by decide) (fun hc17 => ?_) (fun hc17 => ?_)
      · replace hf := it_t hf hc17
        exact hk49 M hf _ _ _ hH hS (gLv_sub hl [0] rfl)
      · replace hf := it_f hf hc17
        refine lv_aload_n X.1 X.2.1 dX12_builds_20 rfl (lv_at hl.1 0 rfl) ?_
        refine g_get X cX12 hH (r := 29) (i := 0) (by decide) rfl 44 (by decide) k_1254 rfl (v := .ref (gAd G 65 0)) rfl dX12_builds_21 ?_
        refine lv_iload_n X.1 X.2.1 dX12_builds_24 rfl (lv_at hl.1 1 rfl) ?_
        refine lv_dup2_11 X.1 X.2.1 dX12_builds_25 rfl rfl ?_
        obtain ⟨hg, hf_⟩ := og_e hf; clear hf; have hf := hf_; clear hf_
        have nd26 : nmI (M 65 0 x1.toNat) := hH.1.1 _ _ _
        refine g_iald X hH (r := 65) (i := 0) (by decide) rfl nx1 hg (v := M 65 0 x1.toNat) rfl dX12_builds_26 ?_
        refine lv_iconst X.1 X.2.1 dX12_builds_27 (v := iI 1) rfl ?_
        refine g_iadd X dX12_builds_28 ?_
        obtain ⟨hg, hf_⟩ := og_e hf; clear hf; have hf := hf_; clear hf_
        refine g_iast X hH hS (r := 65) (i := 0) (by decide) (fun _ => rfl) nx1 hg (nmI_w _) rfl (by decide) dX12_builds_29 (fun H locs hH hS => ?_)
        refine lv_aload_n X.1 X.2.1 dX12_builds_30 rfl (lv_at hl.1 0 rfl) ?_
        refine lv_iload_n X.1 X.2.1 dX12_builds_31 rfl (lv_at hl.1 1 rfl) ?_
        refine lv_iload_n X.1 X.2.1 dX12_builds_32 rfl (lv_at hl.1 2 rfl) ?_
        obtain ⟨r33, hq33, hf_⟩ := ob_e hf; clear hf; have hf := hf_; clear hf_
        refine gGoV (gRunV X hH (As := [.int (iI x1), .int (iI x2)]) (m_X12_begins l G x1 nx1 x2 nx2 (gU M 65 0 x1.toNat (wI ((M 65 0 x1.toNat) + 1))) _ hq33) calX12_begins k_1547 k_54 k_1545 (by decide) cX12 rfl ⟨by decide, by decide⟩ rfl hl rfl (Nat.le_of_ble_eq_true rfl) ⟨Nat.le_of_ble_eq_true rfl, Nat.le_of_ble_eq_true rfl⟩ dX12_builds_33) hS (fun H locs hH hS => ?_)
        refine lv_aload_n X.1 X.2.1 dX12_builds_36 rfl (lv_at hl.1 0 rfl) ?_
        obtain ⟨r37, hq37, hf_⟩ := ob_e hf; clear hf; have hf := hf_; clear hf_
        refine gGoI (gRunV X hH (As := []) (m_X12_next l G  r33 _ hq37) calX12_next k_1531 k_50 k_1529 (by decide) cX12 rfl ⟨by decide, by decide⟩ rfl hl rfl (Nat.le_of_ble_eq_true rfl) ⟨Nat.le_of_ble_eq_true rfl, Nat.le_of_ble_eq_true rfl⟩ dX12_builds_37) hS (fun H locs nr37 hH hS => ?_)
        refine g_istore_n X (lv' := [(1, .int (iI r37.1)), (0, .ref (gAd G 29 0)), (2, .int (iI x2))]) dX12_builds_40 rfl hl (by decide) rfl (fun ls hl => ?_)
        refine lv_aload_n X.1 X.2.1 dX12_builds_41 rfl (lv_at hl.1 1 rfl) ?_
        obtain ⟨r42, hq42, hf_⟩ := ob_e hf; clear hf; have hf := hf_; clear hf_
        refine gGoI (gRunV X hH (As := []) (m_X12_idle l G  r37.2 _ hq42) calX12_idle k_1543 k_53 k_1541 (by decide) cX12 rfl ⟨by decide, by decide⟩ rfl hl rfl (Nat.le_of_ble_eq_true rfl) ⟨Nat.le_of_ble_eq_true rfl, Nat.le_of_ble_eq_true rfl⟩ dX12_builds_42) hS (fun H locs nr42 hH hS => ?_)
        refine g_istore_n X (lv' := [(2, .int (iI r42)), (1, .int (iI r37.1)), (0, .ref (gAd G 29 0))]) dX12_builds_45 rfl hl (by decide) rfl (fun ls hl => ?_)
        refine lv_goto (tgt := 10) X.1 X.2.1 dX12_builds_46 (by decide) ?_
        exact ih r37.1 nr37 r42 nr42 r37.2 hf _ _ _ hH hS (gLv_sub hl [2, 1, 0] rfl)
theorem w_X12_builds_L149 {G : gG} {p : Program} {l : Launch} {e : Env} {s : State} {m : MethodId} {args : Array Value} {below : List Frame} {meth : Method} {c : Code} (X : gX G p s m args meth c RX12 cX12_builds 5 none (gWs yX12_builds cX12_builds 5 none)) (k184 : gM → Option gM) (q : gM) (hk184 : ∀  (M : gM), k184 M = some q → ∀ (H : Heap) (locs : List Loc) (ls : Array Slot), gH G M H → va_S (gA G) s.heap H locs → gLv ls 5 [(0, .ref (gAd G 29 0))] → W p l e { frames := 4, cells := 0, slots := 0, locals := 97 } s m args below meth c H locs 0 0 (MQ below (gQv G q) args s 0 0 (gA G)) (F0 m 184 ls [])) : ∀ (n : Nat) (x3 : Int) (nx3 : nmI x3) (M : gM), f_X12_builds_L149 k184 n x3 M = some q → ∀ (H : Heap) (locs : List Loc) (ls : Array Slot), gH G M H → va_S (gA G) s.heap H locs → gLv ls 5 [(0, .ref (gAd G 29 0)), (3, .int (iI x3))] → W p l e { frames := 4, cells := 0, slots := 0, locals := 97 } s m args below meth c H locs 0 0 (MQ below (gQv G q) args s 0 0 (gA G)) (F0 m 149 ls []) := by
  intro n
  induction n with
  | zero =>
    intro x3 nx3 M hf
    cases hf
  | succ n ih =>
    intro x3 nx3 M hf H locs ls hH hS hl
    rw [f_X12_builds_L149] at hf
    refine lv_iload_n X.1 X.2.1 dX12_builds_149 rfl (lv_at hl.1 1 rfl) ?_
    refine lv_iconst X.1 X.2.1 dX12_builds_150 (v := iI 4) rfl ?_
    refine g_icmp_ge X nx3 (nmI_l (by decide)) (tgt := 184) dX12_builds_151 (by decide) (fun hc151 => ?_) (fun hc151 => ?_)
    · replace hf := it_f hf hc151
      exact hk184 M hf _ _ _ hH hS (gLv_sub hl [0] rfl)
    · replace hf := it_t hf hc151
      refine lv_aload_n X.1 X.2.1 dX12_builds_154 rfl (lv_at hl.1 0 rfl) ?_
      refine g_get X cX12 hH (r := 29) (i := 0) (by decide) rfl 31 (by decide) k_1241 rfl (v := .ref (gAd G 55 0)) rfl dX12_builds_155 ?_
      refine lv_iload_n X.1 X.2.1 dX12_builds_158 rfl (lv_at hl.1 1 rfl) ?_
      refine lv_dup2_11 X.1 X.2.1 dX12_builds_159 rfl rfl ?_
      obtain ⟨hg, hf_⟩ := og_e hf; clear hf; have hf := hf_; clear hf_
      have nd160 : nmI (M 55 0 x3.toNat) := hH.1.1 _ _ _
      refine g_iald X hH (r := 55) (i := 0) (by decide) rfl nx3 hg (v := M 55 0 x3.toNat) rfl dX12_builds_160 ?_
      refine lv_aload_n X.1 X.2.1 dX12_builds_161 rfl (lv_at hl.1 0 rfl) ?_
      refine g_get X cX12 hH (r := 29) (i := 0) (by decide) rfl 30 (by decide) k_1240 rfl (v := .ref (gAd G 54 0)) rfl dX12_builds_162 ?_
      refine lv_iload_n X.1 X.2.1 dX12_builds_165 rfl (lv_at hl.1 1 rfl) ?_
      obtain ⟨hg, hf_⟩ := og_e hf; clear hf; have hf := hf_; clear hf_
      have nd166 : nmI (M 54 0 x3.toNat) := hH.1.1 _ _ _
      refine g_iald X hH (r := 54) (i := 0) (by decide) rfl nx3 hg (v := M 54 0 x3.toNat) rfl dX12_builds_166 ?_
      refine lv_iconst X.1 X.2.1 dX12_builds_167 (v := iI (-1)) rfl ?_
      obtain ⟨k176, ek176, hf_⟩ := oj_e hf; clear hf; have hf := hf_; clear hf_
      have hk176 : ∀ (xs3_176 : Int) (bxs3_176 : xs3_176 = 0 ∨ xs3_176 = 1), k176 xs3_176 = some q → ∀ (H : Heap) (locs : List Loc) (ls : Array Slot), gH G M H → va_S (gA G) s.heap H locs → gLv ls 5 [(0, .ref (gAd G 29 0)), (3, .int (iI x3))] → W p l e { frames := 4, cells := 0, slots := 0, locals := 97 } s m args below meth c H locs 0 0 (MQ below (gQv G q) args s 0 0 (gA G)) (F0 m 176 ls [.int (iI xs3_176), .int (iI (M 55 0 x3.toNat)), .int (iI x3), .ref (gAd G 55 0)]) := by
        intro xs3_176 bxs3_176 hf H locs ls hH hS hl
        subst ek176
        refine g_isub X dX12_builds_176 ?_
        obtain ⟨hg, hf_⟩ := og_e hf; clear hf; have hf := hf_; clear hf_
        refine g_iast X hH hS (r := 55) (i := 0) (by decide) (fun _ => rfl) nx3 hg (nmI_w _) rfl (by decide) dX12_builds_177 (fun H locs hH hS => ?_)
        refine g_iinc X (a := x3) (lv' := [(3, .int (iI (wI (x3 + 1)))), (0, .ref (gAd G 29 0))]) dX12_builds_178 hl (k := 1) rfl (by decide) rfl (fun ls hl => ?_)
        refine lv_goto (tgt := 149) X.1 X.2.1 dX12_builds_181 (by decide) ?_
        exact ih (wI (x3 + 1)) (nmI_w _) (gU M 55 0 x3.toNat (wI ((M 55 0 x3.toNat) - xs3_176))) hf _ _ _ hH hS (gLv_sub hl [1, 0] rfl)
      clear ek176
      refine g_icmp_ne X nd166 (nmI_l (by decide)) (tgt := 175) dX12_builds_168 (by decide) (fun hc168 => ?_) (fun hc168 => ?_)
      · replace hf := it_f hf hc168
        refine lv_iconst X.1 X.2.1 dX12_builds_175 (v := iI 1) rfl ?_
        exact hk176 1 (by decide) hf _ _ _ hH hS (gLv_sub hl [0, 1] rfl)
      · replace hf := it_t hf hc168
        refine lv_iconst X.1 X.2.1 dX12_builds_171 (v := iI 0) rfl ?_
        refine lv_goto (tgt := 176) X.1 X.2.1 dX12_builds_172 (by decide) ?_
        exact hk176 0 (by decide) hf _ _ _ hH hS (gLv_sub hl [0, 1] rfl)
theorem w_X12_builds_L186 {G : gG} {p : Program} {l : Launch} {e : Env} {s : State} {m : MethodId} {args : Array Value} {below : List Frame} {meth : Method} {c : Code} (X : gX G p s m args meth c RX12 cX12_builds 5 none (gWs yX12_builds cX12_builds 5 none)) (k221 : gM → Option gM) (q : gM) (hk221 : ∀  (M : gM), k221 M = some q → ∀ (H : Heap) (locs : List Loc) (ls : Array Slot), gH G M H → va_S (gA G) s.heap H locs → gLv ls 5 [] → W p l e { frames := 4, cells := 0, slots := 0, locals := 97 } s m args below meth c H locs 0 0 (MQ below (gQv G q) args s 0 0 (gA G)) (F0 m 221 ls [])) : ∀ (n : Nat) (x3 : Int) (nx3 : nmI x3) (M : gM), f_X12_builds_L186 k221 n x3 M = some q → ∀ (H : Heap) (locs : List Loc) (ls : Array Slot), gH G M H → va_S (gA G) s.heap H locs → gLv ls 5 [(0, .ref (gAd G 29 0)), (3, .int (iI x3))] → W p l e { frames := 4, cells := 0, slots := 0, locals := 97 } s m args below meth c H locs 0 0 (MQ below (gQv G q) args s 0 0 (gA G)) (F0 m 186 ls []) := by
  intro n
  induction n with
  | zero =>
    intro x3 nx3 M hf
    cases hf
  | succ n ih =>
    intro x3 nx3 M hf H locs ls hH hS hl
    rw [f_X12_builds_L186] at hf
    refine lv_iload_n X.1 X.2.1 dX12_builds_186 rfl (lv_at hl.1 1 rfl) ?_
    refine lv_iconst X.1 X.2.1 dX12_builds_187 (v := iI 4) rfl ?_
    refine g_icmp_ge X nx3 (nmI_l (by decide)) (tgt := 221) dX12_builds_188 (by decide) (fun hc188 => ?_) (fun hc188 => ?_)
    · replace hf := it_f hf hc188
      exact hk221 M hf _ _ _ hH hS (gLv_sub hl [] rfl)
    · replace hf := it_t hf hc188
      refine lv_aload_n X.1 X.2.1 dX12_builds_191 rfl (lv_at hl.1 0 rfl) ?_
      refine g_get X cX12 hH (r := 29) (i := 0) (by decide) rfl 30 (by decide) k_1240 rfl (v := .ref (gAd G 54 0)) rfl dX12_builds_192 ?_
      refine lv_iload_n X.1 X.2.1 dX12_builds_195 rfl (lv_at hl.1 1 rfl) ?_
      obtain ⟨hg, hf_⟩ := og_e hf; clear hf; have hf := hf_; clear hf_
      have nd196 : nmI (M 54 0 x3.toNat) := hH.1.1 _ _ _
      refine g_iald X hH (r := 54) (i := 0) (by decide) rfl nx3 hg (v := M 54 0 x3.toNat) rfl dX12_builds_196 ?_
      refine lv_iconst X.1 X.2.1 dX12_builds_197 (v := iI (-1)) rfl ?_
      obtain ⟨k215, ek215, hf_⟩ := oj_e hf; clear hf; have hf := hf_; clear hf_
      have hk215 : ∀  (M_215 : gM), k215 M_215 = some q → ∀ (H : Heap) (locs : List Loc) (ls : Array Slot), gH G M_215 H → va_S (gA G) s.heap H locs → gLv ls 5 [(0, .ref (gAd G 29 0)), (3, .int (iI x3))] → W p l e { frames := 4, cells := 0, slots := 0, locals := 97 } s m args below meth c H locs 0 0 (MQ below (gQv G q) args s 0 0 (gA G)) (F0 m 215 ls []) := by
        intro  M_215 hf H locs ls hH hS hl
        subst ek215
        refine g_iinc X (a := x3) (lv' := [(3, .int (iI (wI (x3 + 1)))), (0, .ref (gAd G 29 0))]) dX12_builds_215 hl (k := 1) rfl (by decide) rfl (fun ls hl => ?_)
        refine lv_goto (tgt := 186) X.1 X.2.1 dX12_builds_218 (by decide) ?_
        exact ih (wI (x3 + 1)) (nmI_w _) M_215 hf _ _ _ hH hS (gLv_sub hl [1, 0] rfl)
      clear ek215
      refine g_icmp_eq X nd196 (nmI_l (by decide)) (tgt := 215) dX12_builds_198 (by decide) (fun hc198 => ?_) (fun hc198 => ?_)
      · replace hf := it_t hf hc198
        exact hk215 M hf _ _ _ hH hS (gLv_sub hl [0, 1] rfl)
      · replace hf := it_f hf hc198
        refine lv_aload_n X.1 X.2.1 dX12_builds_201 rfl (lv_at hl.1 0 rfl) ?_
        refine g_get X cX12 hH (r := 29) (i := 0) (by decide) rfl 31 (by decide) k_1241 rfl (v := .ref (gAd G 55 0)) rfl dX12_builds_202 ?_
        refine lv_iload_n X.1 X.2.1 dX12_builds_205 rfl (lv_at hl.1 1 rfl) ?_
        obtain ⟨hg, hf_⟩ := og_e hf; clear hf; have hf := hf_; clear hf_
        have nd206 : nmI (M 55 0 x3.toNat) := hH.1.1 _ _ _
        refine g_iald X hH (r := 55) (i := 0) (by decide) rfl nx3 hg (v := M 55 0 x3.toNat) rfl dX12_builds_206 ?_
        refine g_if_ne X nd206 (tgt := 215) dX12_builds_207 (by decide) (fun hc207 => ?_) (fun hc207 => ?_)
        · replace hf := it_f hf hc207
          exact hk215 M hf _ _ _ hH hS (gLv_sub hl [0, 1] rfl)
        · replace hf := it_t hf hc207
          refine lv_aload_n X.1 X.2.1 dX12_builds_210 rfl (lv_at hl.1 0 rfl) ?_
          refine lv_iload_n X.1 X.2.1 dX12_builds_211 rfl (lv_at hl.1 1 rfl) ?_
          obtain ⟨r212, hq212, hf_⟩ := ob_e hf; clear hf; have hf := hf_; clear hf_
          refine gGoV (gRunV X hH (As := [.int (iI x3)]) (m_X12_ends l G x3 nx3 M _ hq212) calX12_ends k_1555 k_56 k_1553 (by decide) cX12 rfl ⟨by decide, by decide⟩ rfl hl rfl (Nat.le_of_ble_eq_true rfl) ⟨Nat.le_of_ble_eq_true rfl, Nat.le_of_ble_eq_true rfl⟩ dX12_builds_212) hS (fun H locs hH hS => ?_)
          exact hk215 r212 hf _ _ _ hH hS (gLv_sub hl [0, 1] rfl)
theorem w_X12_builds_L80 {G : gG} {p : Program} {l : Launch} {e : Env} {s : State} {m : MethodId} {args : Array Value} {below : List Frame} {meth : Method} {c : Code} (X : gX G p s m args meth c RX12 cX12_builds 5 none (gWs yX12_builds cX12_builds 5 none)) (k131 : Int → Option gM) (M : gM) (q : gM) (hk131 : ∀ (x3 : Int) (nx3 : nmI x3), k131 x3 = some q → ∀ (H : Heap) (locs : List Loc) (ls : Array Slot), gH G M H → va_S (gA G) s.heap H locs → gLv ls 5 [(0, .ref (gAd G 29 0)), (3, .int (iI x3))] → W p l e { frames := 4, cells := 0, slots := 0, locals := 97 } s m args below meth c H locs 0 0 (MQ below (gQv G q) args s 0 0 (gA G)) (F0 m 131 ls [])) : ∀ (n : Nat) (x3 : Int) (nx3 : nmI x3) (x4 : Int) (nx4 : nmI x4), f_X12_builds_L80 k131 M n x3 x4 = some q → ∀ (H : Heap) (locs : List Loc) (ls : Array Slot), gH G M H → va_S (gA G) s.heap H locs → gLv ls 5 [(0, .ref (gAd G 29 0)), (3, .int (iI x3)), (4, .int (iI x4))] → W p l e { frames := 4, cells := 0, slots := 0, locals := 97 } s m args below meth c H locs 0 0 (MQ below (gQv G q) args s 0 0 (gA G)) (F0 m 80 ls []) := by
  intro n
  induction n with
  | zero =>
    intro x3 nx3 x4 nx4 hf
    cases hf
  | succ n ih =>
    intro x3 nx3 x4 nx4 hf H locs ls hH hS hl
    rw [f_X12_builds_L80] at hf
    refine lv_iload X.1 X.2.1 dX12_builds_80 (lv_at hl.1 2 rfl) ?_
    refine lv_iconst X.1 X.2.1 dX12_builds_82 (v := iI 4) rfl ?_
    refine g_icmp_ge X nx4 (nmI_l (by decide)) (tgt := 131) dX12_builds_83 (by decide) (fun hc83 => ?_) (fun hc83 => ?_)
    · replace hf := it_f hf hc83
      exact hk131 x3 nx3 hf _ _ _ hH hS (gLv_sub hl [0, 1] rfl)
    · replace hf := it_t hf hc83
      refine lv_aload_n X.1 X.2.1 dX12_builds_86 rfl (lv_at hl.1 0 rfl) ?_
      refine g_get X cX12 hH (r := 29) (i := 0) (by decide) rfl 30 (by decide) k_1240 rfl (v := .ref (gAd G 54 0)) rfl dX12_builds_87 ?_
      refine lv_iload X.1 X.2.1 dX12_builds_90 (lv_at hl.1 2 rfl) ?_
      obtain ⟨hg, hf_⟩ := og_e hf; clear hf; have hf := hf_; clear hf_
      have nd92 : nmI (M 54 0 x4.toNat) := hH.1.1 _ _ _
      refine g_iald X hH (r := 54) (i := 0) (by decide) rfl nx4 hg (v := M 54 0 x4.toNat) rfl dX12_builds_92 ?_
      refine lv_iconst X.1 X.2.1 dX12_builds_93 (v := iI (-1)) rfl ?_
      obtain ⟨k124, ek124, hf_⟩ := oj_e hf; clear hf; have hf := hf_; clear hf_
      have hk124 : ∀ (xs0_124 : Int) (nxs0_124 : nmI xs0_124), k124 xs0_124 = some q → ∀ (H : Heap) (locs : List Loc) (ls : Array Slot), gH G M H → va_S (gA G) s.heap H locs → gLv ls 5 [(0, .ref (gAd G 29 0)), (4, .int (iI x4))] → W p l e { frames := 4, cells := 0, slots := 0, locals := 97 } s m args below meth c H locs 0 0 (MQ below (gQv G q) args s 0 0 (gA G)) (F0 m 124 ls [.int (iI xs0_124)]) := by
        intro xs0_124 nxs0_124 hf H locs ls hH hS hl
        subst ek124
        refine g_istore_n X (lv' := [(3, .int (iI xs0_124)), (0, .ref (gAd G 29 0)), (4, .int (iI x4))]) dX12_builds_124 rfl hl (by decide) rfl (fun ls hl => ?_)
        refine g_iinc X (a := x4) (lv' := [(4, .int (iI (wI (x4 + 1)))), (3, .int (iI xs0_124)), (0, .ref (gAd G 29 0))]) dX12_builds_125 hl (k := 2) rfl (by decide) rfl (fun ls hl => ?_)
        refine lv_goto (tgt := 80) X.1 X.2.1 dX12_builds_128 (by decide) ?_
        exact ih xs0_124 nxs0_124 (wI (x4 + 1)) (nmI_w _) hf _ _ _ hH hS (gLv_sub hl [2, 1, 0] rfl)
      clear ek124
      obtain ⟨k123, ek123, hf_⟩ := oj_e hf; clear hf; have hf := hf_; clear hf_
      have hk123 : k123 = some q → ∀ (H : Heap) (locs : List Loc) (ls : Array Slot), gH G M H → va_S (gA G) s.heap H locs → gLv ls 5 [(0, .ref (gAd G 29 0)), (3, .int (iI x3)), (4, .int (iI x4))] → W p l e { frames := 4, cells := 0, slots := 0, locals := 97 } s m args below meth c H locs 0 0 (MQ below (gQv G q) args s 0 0 (gA G)) (F0 m 123 ls []) := by
        intro  hf H locs ls hH hS hl
        subst ek123
        refine lv_iload_n X.1 X.2.1 dX12_builds_123 rfl (lv_at hl.1 1 rfl) ?_
        exact hk124 x3 nx3 hf _ _ _ hH hS (gLv_sub hl [0, 2] rfl)
      clear ek123
      refine g_icmp_eq X nd92 (nmI_l (by decide)) (tgt := 123) dX12_builds_94 (by decide) (fun hc94 => ?_) (fun hc94 => ?_)
      · replace hf := it_t hf hc94
        exact hk123  hf _ _ _ hH hS (gLv_sub hl [0, 1, 2] rfl)
      · replace hf := it_f hf hc94
        refine lv_iload_n X.1 X.2.1 dX12_builds_97 rfl (lv_at hl.1 1 rfl) ?_
        refine lv_iconst X.1 X.2.1 dX12_builds_98 (v := iI (-1)) rfl ?_
        obtain ⟨k118, ek118, hf_⟩ := oj_e hf; clear hf; have hf := hf_; clear hf_
        have hk118 : k118 = some q → ∀ (H : Heap) (locs : List Loc) (ls : Array Slot), gH G M H → va_S (gA G) s.heap H locs → gLv ls 5 [(0, .ref (gAd G 29 0)), (4, .int (iI x4))] → W p l e { frames := 4, cells := 0, slots := 0, locals := 97 } s m args below meth c H locs 0 0 (MQ below (gQv G q) args s 0 0 (gA G)) (F0 m 118 ls []) := by
          intro  hf H locs ls hH hS hl
          subst ek118
          refine lv_iload X.1 X.2.1 dX12_builds_118 (lv_at hl.1 1 rfl) ?_
          refine lv_goto (tgt := 124) X.1 X.2.1 dX12_builds_120 (by decide) ?_
          exact hk124 x4 nx4 hf _ _ _ hH hS (gLv_sub hl [0, 1] rfl)
        clear ek118
        refine g_icmp_eq X nx3 (nmI_l (by decide)) (tgt := 118) dX12_builds_99 (by decide) (fun hc99 => ?_) (fun hc99 => ?_)
        · replace hf := it_t hf hc99
          exact hk118  hf _ _ _ hH hS (gLv_sub hl [0, 2] rfl)
        · replace hf := it_f hf hc99
          refine lv_aload_n X.1 X.2.1 dX12_builds_102 rfl (lv_at hl.1 0 rfl) ?_
          refine g_get X cX12 hH (r := 29) (i := 0) (by decide) rfl 31 (by decide) k_1241 rfl (v := .ref (gAd G 55 0)) rfl dX12_builds_103 ?_
          refine lv_iload X.1 X.2.1 dX12_builds_106 (lv_at hl.1 2 rfl) ?_
          obtain ⟨hg, hf_⟩ := og_e hf; clear hf; have hf := hf_; clear hf_
          have nd108 : nmI (M 55 0 x4.toNat) := hH.1.1 _ _ _
          refine g_iald X hH (r := 55) (i := 0) (by decide) rfl nx4 hg (v := M 55 0 x4.toNat) rfl dX12_builds_108 ?_
          refine lv_aload_n X.1 X.2.1 dX12_builds_109 rfl (lv_at hl.1 0 rfl) ?_
          refine g_get X cX12 hH (r := 29) (i := 0) (by decide) rfl 31 (by decide) k_1241 rfl (v := .ref (gAd G 55 0)) rfl dX12_builds_110 ?_
          refine lv_iload_n X.1 X.2.1 dX12_builds_113 rfl (lv_at hl.1 1 rfl) ?_
          obtain ⟨hg, hf_⟩ := og_e hf; clear hf; have hf := hf_; clear hf_
          have nd114 : nmI (M 55 0 x3.toNat) := hH.1.1 _ _ _
          refine g_iald X hH (r := 55) (i := 0) (by decide) rfl nx3 hg (v := M 55 0 x3.toNat) rfl dX12_builds_114 ?_
          refine g_icmp_le X nd108 nd114 (tgt := 123) dX12_builds_115 (by decide) (fun hc115 => ?_) (fun hc115 => ?_)
          · replace hf := it_f hf hc115
            exact hk123  hf _ _ _ hH hS (gLv_sub hl [0, 1, 2] rfl)
          · replace hf := it_t hf hc115
            exact hk118  hf _ _ _ hH hS (gLv_sub hl [0, 2] rfl)
theorem m_X12_builds (l : Launch) (G : gG)  (M : gM) (q : gM) (hf : f_X12_builds M = some q) : gMet l yX12_builds cX12_builds 5 none 4 97 G M [.ref (gAd G 29 0)] (gQv G q) := by
  refine gOfW (by decide) (by show _ ≤ 5; exact Nat.le_of_ble_eq_true rfl) rfl ?_
  intro p e s m below meth c X hH ls hl
  replace hl : gLv ls 5 [(0, .ref (gAd G 29 0))] := hl
  have hS : va_S (gA G) s.heap s.heap [] := va_S.rf
  generalize hargs : ([.ref (gAd G 29 0)] : List Value).toArray = args at X ⊢
  clear hargs
  unfold f_X12_builds at hf
  refine lv_aload_n X.1 X.2.1 dX12_builds_0 rfl (lv_at hl.1 0 rfl) ?_
  obtain ⟨r1, hq1, hf_⟩ := ob_e hf; clear hf; have hf := hf_; clear hf_
  refine gGoI (gRunV X hH (As := []) (m_X12_next l G  M _ hq1) calX12_next k_1531 k_50 k_1529 (by decide) cX12 rfl ⟨by decide, by decide⟩ rfl hl rfl (Nat.le_of_ble_eq_true rfl) ⟨Nat.le_of_ble_eq_true rfl, Nat.le_of_ble_eq_true rfl⟩ dX12_builds_1) hS (fun H locs nr1 hH hS => ?_)
  refine g_istore_n X (lv' := [(1, .int (iI r1.1)), (0, .ref (gAd G 29 0))]) dX12_builds_4 rfl hl (by decide) rfl (fun ls hl => ?_)
  refine lv_aload_n X.1 X.2.1 dX12_builds_5 rfl (lv_at hl.1 1 rfl) ?_
  obtain ⟨r6, hq6, hf_⟩ := ob_e hf; clear hf; have hf := hf_; clear hf_
  refine gGoI (gRunV X hH (As := []) (m_X12_idle l G  r1.2 _ hq6) calX12_idle k_1543 k_53 k_1541 (by decide) cX12 rfl ⟨by decide, by decide⟩ rfl hl rfl (Nat.le_of_ble_eq_true rfl) ⟨Nat.le_of_ble_eq_true rfl, Nat.le_of_ble_eq_true rfl⟩ dX12_builds_6) hS (fun H locs nr6 hH hS => ?_)
  refine g_istore_n X (lv' := [(2, .int (iI r6)), (1, .int (iI r1.1)), (0, .ref (gAd G 29 0))]) dX12_builds_9 rfl hl (by decide) rfl (fun ls hl => ?_)
  refine w_X12_builds_L10 X _  q ?_ 64 r1.1 nr1 r6 nr6 r1.2 hf _ _ _ hH hS (gLv_sub hl [2, 1, 0] rfl)
  · intro  M_10_49 hf H locs ls hH hS hl
    refine lv_aload_n X.1 X.2.1 dX12_builds_49 rfl (lv_at hl.1 0 rfl) ?_
    have nd50 : nmI (M_10_49 29 0 20) := hH.1.1 _ _ _
    have bd50 := hH.1.2.1 29 0 20 rfl
    refine g_get X cX12 hH (r := 29) (i := 0) (by decide) rfl 20 (by decide) k_1230 rfl (v := .int (iI (M_10_49 29 0 20))) rfl dX12_builds_50 ?_
    obtain ⟨k147, ek147, hf_⟩ := oj_e hf; clear hf; have hf := hf_; clear hf_
    have hk147 : ∀  (M_147 : gM), k147 M_147 = some q → ∀ (H : Heap) (locs : List Loc) (ls : Array Slot), gH G M_147 H → va_S (gA G) s.heap H locs → gLv ls 5 [(0, .ref (gAd G 29 0))] → W p l e { frames := 4, cells := 0, slots := 0, locals := 97 } s m args below meth c H locs 0 0 (MQ below (gQv G q) args s 0 0 (gA G)) (F0 m 147 ls []) := by
      intro  M_147 hf H locs ls hH hS hl
      subst ek147
      refine lv_iconst X.1 X.2.1 dX12_builds_147 (v := iI 0) rfl ?_
      refine g_istore_n X (lv' := [(3, .int (iI 0)), (0, .ref (gAd G 29 0))]) dX12_builds_148 rfl hl (by decide) rfl (fun ls hl => ?_)
      refine w_X12_builds_L149 X _  q ?_ 64 0 (nmI_l (by decide)) M_147 hf _ _ _ hH hS (gLv_sub hl [1, 0] rfl)
      · intro  M_149_184 hf H locs ls hH hS hl
        refine lv_iconst X.1 X.2.1 dX12_builds_184 (v := iI 0) rfl ?_
        refine g_istore_n X (lv' := [(3, .int (iI 0)), (0, .ref (gAd G 29 0))]) dX12_builds_185 rfl hl (by decide) rfl (fun ls hl => ?_)
        refine w_X12_builds_L186 X _  q ?_ 64 0 (nmI_l (by decide)) M_149_184 hf _ _ _ hH hS (gLv_sub hl [1, 0] rfl)
        · intro  M_186_221 hf H locs ls hH hS hl
          have hq := Option.some.inj hf; subst hq
          exact gRetV X hH hS dX12_builds_221
    clear ek147
    refine g_if_eq X nd50 (tgt := 147) dX12_builds_53 (by decide) (fun hc53 => ?_) (fun hc53 => ?_)
    · replace hf := it_t hf hc53
      exact hk147 M_10_49 hf _ _ _ hH hS (gLv_sub hl [0] rfl)
    · replace hf := it_f hf hc53
      refine lv_aload_n X.1 X.2.1 dX12_builds_56 rfl (lv_at hl.1 0 rfl) ?_
      refine g_get X cX12 hH (r := 29) (i := 0) (by decide) rfl 29 (by decide) k_1239 rfl (v := .ref (gAd G 53 0)) rfl dX12_builds_57 ?_
      refine lv_iconst X.1 X.2.1 dX12_builds_60 (v := iI 0) rfl ?_
      obtain ⟨hg, hf_⟩ := og_e hf; clear hf; have hf := hf_; clear hf_
      have nd61 : nmI (M_10_49 53 0 0) := hH.1.1 _ _ _
      refine g_iald X hH (r := 53) (i := 0) (by decide) rfl (nmI_l (by decide)) hg (v := M_10_49 53 0 0) rfl dX12_builds_61 ?_
      refine g_if_le X nd61 (tgt := 147) dX12_builds_62 (by decide) (fun hc62 => ?_) (fun hc62 => ?_)
      · replace hf := it_f hf hc62
        exact hk147 M_10_49 hf _ _ _ hH hS (gLv_sub hl [0] rfl)
      · replace hf := it_t hf hc62
        refine lv_aload_n X.1 X.2.1 dX12_builds_65 rfl (lv_at hl.1 0 rfl) ?_
        refine g_get X cX12 hH (r := 29) (i := 0) (by decide) rfl 30 (by decide) k_1240 rfl (v := .ref (gAd G 54 0)) rfl dX12_builds_66 ?_
        refine lv_iconst X.1 X.2.1 dX12_builds_69 (v := iI 0) rfl ?_
        obtain ⟨hg, hf_⟩ := og_e hf; clear hf; have hf := hf_; clear hf_
        have nd70 : nmI (M_10_49 54 0 0) := hH.1.1 _ _ _
        refine g_iald X hH (r := 54) (i := 0) (by decide) rfl (nmI_l (by decide)) hg (v := M_10_49 54 0 0) rfl dX12_builds_70 ?_
        refine lv_iconst X.1 X.2.1 dX12_builds_71 (v := iI (-1)) rfl ?_
        refine g_icmp_ne X nd70 (nmI_l (by decide)) (tgt := 147) dX12_builds_72 (by decide) (fun hc72 => ?_) (fun hc72 => ?_)
        · replace hf := it_f hf hc72
          exact hk147 M_10_49 hf _ _ _ hH hS (gLv_sub hl [0] rfl)
        · replace hf := it_t hf hc72
          refine lv_iconst X.1 X.2.1 dX12_builds_75 (v := iI (-1)) rfl ?_
          refine g_istore_n X (lv' := [(3, .int (iI ((-1)))), (0, .ref (gAd G 29 0))]) dX12_builds_76 rfl hl (by decide) rfl (fun ls hl => ?_)
          refine lv_iconst X.1 X.2.1 dX12_builds_77 (v := iI 1) rfl ?_
          refine g_istore X (lv' := [(4, .int (iI 1)), (3, .int (iI ((-1)))), (0, .ref (gAd G 29 0))]) dX12_builds_78 hl (by decide) rfl (fun ls hl => ?_)
          refine w_X12_builds_L80 X _ M_10_49 q ?_ 64 ((-1)) (nmI_l (by decide)) 1 (nmI_l (by decide)) hf _ _ _ hH hS (gLv_sub hl [2, 1, 0] rfl)
          · intro y3_80_131 ny3_80_131 hf H locs ls hH hS hl
            refine lv_iload_n X.1 X.2.1 dX12_builds_131 rfl (lv_at hl.1 1 rfl) ?_
            refine lv_iconst X.1 X.2.1 dX12_builds_132 (v := iI (-1)) rfl ?_
            refine g_icmp_eq X ny3_80_131 (nmI_l (by decide)) (tgt := 147) dX12_builds_133 (by decide) (fun hc133 => ?_) (fun hc133 => ?_)
            · replace hf := it_t hf hc133
              exact hk147 M_10_49 hf _ _ _ hH hS (gLv_sub hl [0] rfl)
            · replace hf := it_f hf hc133
              refine lv_aload_n X.1 X.2.1 dX12_builds_136 rfl (lv_at hl.1 0 rfl) ?_
              refine lv_aload_n X.1 X.2.1 dX12_builds_137 rfl (lv_at hl.1 0 rfl) ?_
              refine g_get X cX12 hH (r := 29) (i := 0) (by decide) rfl 30 (by decide) k_1240 rfl (v := .ref (gAd G 54 0)) rfl dX12_builds_138 ?_
              refine lv_iload_n X.1 X.2.1 dX12_builds_141 rfl (lv_at hl.1 1 rfl) ?_
              obtain ⟨hg, hf_⟩ := og_e hf; clear hf; have hf := hf_; clear hf_
              have nd142 : nmI (M_10_49 54 0 y3_80_131.toNat) := hH.1.1 _ _ _
              refine g_iald X hH (r := 54) (i := 0) (by decide) rfl ny3_80_131 hg (v := M_10_49 54 0 y3_80_131.toNat) rfl dX12_builds_142 ?_
              refine lv_iconst X.1 X.2.1 dX12_builds_143 (v := iI 0) rfl ?_
              obtain ⟨r144, hq144, hf_⟩ := ob_e hf; clear hf; have hf := hf_; clear hf_
              refine gGoV (gRunV X hH (As := [.int (iI (M_10_49 54 0 y3_80_131.toNat)), .int (iI 0)]) (m_X12_begins l G (M_10_49 54 0 y3_80_131.toNat) nd142 0 (nmI_l (by decide)) M_10_49 _ hq144) calX12_begins k_1547 k_54 k_1545 (by decide) cX12 rfl ⟨by decide, by decide⟩ rfl hl rfl (Nat.le_of_ble_eq_true rfl) ⟨Nat.le_of_ble_eq_true rfl, Nat.le_of_ble_eq_true rfl⟩ dX12_builds_144) hS (fun H locs hH hS => ?_)
              exact hk147 r144 hf _ _ _ hH hS (gLv_sub hl [0] rfl)
theorem w_X12_pass_L18 {G : gG} {p : Program} {l : Launch} {e : Env} {s : State} {m : MethodId} {args : Array Value} {below : List Frame} {meth : Method} {c : Code} (X : gX G p s m args meth c RX12 cX12_pass 3 (some .int) (gWs yX12_pass cX12_pass 3 (some .int))) (k67 : gM → Option (Int × gM)) (z1 : Int) (nz1 : nmI z1) (q : (Int × gM)) (hk67 : ∀  (M : gM), k67 M = some q → ∀ (H : Heap) (locs : List Loc) (ls : Array Slot), gH G M H → va_S (gA G) s.heap H locs → gLv ls 3 [(0, .ref (gAd G 29 0))] → W p l e { frames := 6, cells := 0, slots := 0, locals := 146 } s m args below meth c H locs 0 0 (MQ below (gQi G q.1 q.2) args s 0 0 (gA G)) (F0 m 67 ls [])) : ∀ (n : Nat) (x2 : Int) (nx2 : nmI x2) (M : gM), f_X12_pass_L18 k67 z1 n x2 M = some q → ∀ (H : Heap) (locs : List Loc) (ls : Array Slot), gH G M H → va_S (gA G) s.heap H locs → gLv ls 3 [(0, .ref (gAd G 29 0)), (1, .int (iI z1)), (2, .int (iI x2))] → W p l e { frames := 6, cells := 0, slots := 0, locals := 146 } s m args below meth c H locs 0 0 (MQ below (gQi G q.1 q.2) args s 0 0 (gA G)) (F0 m 18 ls []) := by
  intro n
  induction n with
  | zero =>
    intro x2 nx2 M hf
    cases hf
  | succ n ih =>
    intro x2 nx2 M hf H locs ls hH hS hl
    rw [f_X12_pass_L18] at hf
    refine lv_iload_n X.1 X.2.1 dX12_pass_18 rfl (lv_at hl.1 2 rfl) ?_
    refine lv_iload_n X.1 X.2.1 dX12_pass_19 rfl (lv_at hl.1 1 rfl) ?_
    refine g_icmp_ge X nx2 nz1 (tgt := 67) dX12_pass_20 (by decide) (fun hc20 => ?_) (fun hc20 => ?_)
    · replace hf := it_f hf hc20
      exact hk67 M hf _ _ _ hH hS (gLv_sub hl [0] rfl)
    · replace hf := it_t hf hc20
      refine lv_aload_n X.1 X.2.1 dX12_pass_23 rfl (lv_at hl.1 0 rfl) ?_
      have nd24 : nmI (M 29 0 36) := hH.1.1 _ _ _
      have bd24 := hH.1.2.1 29 0 36 rfl
      refine g_get X cX12 hH (r := 29) (i := 0) (by decide) rfl 36 (by decide) k_1246 rfl (v := .int (iI (M 29 0 36))) rfl dX12_pass_24 ?_
      obtain ⟨k61, ek61, hf_⟩ := oj_e hf; clear hf; have hf := hf_; clear hf_
      have hk61 : ∀  (M_61 : gM), k61 M_61 = some q → ∀ (H : Heap) (locs : List Loc) (ls : Array Slot), gH G M_61 H → va_S (gA G) s.heap H locs → gLv ls 3 [(0, .ref (gAd G 29 0)), (1, .int (iI z1)), (2, .int (iI x2))] → W p l e { frames := 6, cells := 0, slots := 0, locals := 146 } s m args below meth c H locs 0 0 (MQ below (gQi G q.1 q.2) args s 0 0 (gA G)) (F0 m 61 ls []) := by
        intro  M_61 hf H locs ls hH hS hl
        subst ek61
        refine g_iinc X (a := x2) (lv' := [(2, .int (iI (wI (x2 + 1)))), (0, .ref (gAd G 29 0)), (1, .int (iI z1))]) dX12_pass_61 hl (k := 2) rfl (by decide) rfl (fun ls hl => ?_)
        refine lv_goto (tgt := 18) X.1 X.2.1 dX12_pass_64 (by decide) ?_
        exact ih (wI (x2 + 1)) (nmI_w _) M_61 hf _ _ _ hH hS (gLv_sub hl [1, 2, 0] rfl)
      clear ek61
      refine g_if_eq X nd24 (tgt := 51) dX12_pass_27 (by decide) (fun hc27 => ?_) (fun hc27 => ?_)
      · replace hf := it_t hf hc27
        refine lv_aload_n X.1 X.2.1 dX12_pass_51 rfl (lv_at hl.1 0 rfl) ?_
        refine lv_dup X.1 X.2.1 dX12_pass_52 rfl ?_
        have nd53 : nmI (M 29 0 48) := hH.1.1 _ _ _
        refine g_get X cX12 hH (r := 29) (i := 0) (by decide) rfl 48 (by decide) k_1258 rfl (v := .int (iI (M 29 0 48))) rfl dX12_pass_53 ?_
        refine lv_iconst X.1 X.2.1 dX12_pass_56 (v := iI 1) rfl ?_
        refine g_iadd X dX12_pass_57 ?_
        refine g_putI X cX12 hH hS (r := 29) (i := 0) (by decide) rfl 48 (by decide) k_1258 rfl rfl rfl (Nat.le_of_ble_eq_true rfl) (x := wI ((M 29 0 48) + 1)) (nmI_w _) rfl rfl rfl dX12_pass_58 (fun H locs hH hS => ?_)
        exact hk61 (gU M 29 0 48 (wI ((M 29 0 48) + 1))) hf _ _ _ hH hS (gLv_sub hl [0, 1, 2] rfl)
      · replace hf := it_f hf hc27
        refine lv_aload_n X.1 X.2.1 dX12_pass_30 rfl (lv_at hl.1 0 rfl) ?_
        obtain ⟨r31, hq31, hf_⟩ := ob_e hf; clear hf; have hf := hf_; clear hf_
        refine gGoV (gRunV X hH (As := []) (m_X12_builds l G  M _ hq31) calX12_builds k_1527 k_49 k_1525 (by decide) cX12 rfl ⟨by decide, by decide⟩ rfl hl rfl (Nat.le_of_ble_eq_true rfl) ⟨Nat.le_of_ble_eq_true rfl, Nat.le_of_ble_eq_true rfl⟩ dX12_pass_31) hS (fun H locs hH hS => ?_)
        refine lv_aload_n X.1 X.2.1 dX12_pass_34 rfl (lv_at hl.1 0 rfl) ?_
        refine lv_dup X.1 X.2.1 dX12_pass_35 rfl ?_
        have nd36 : nmI (r31 29 0 48) := hH.1.1 _ _ _
        refine g_get X cX12 hH (r := 29) (i := 0) (by decide) rfl 48 (by decide) k_1258 rfl (v := .int (iI (r31 29 0 48))) rfl dX12_pass_36 ?_
        refine lv_iconst X.1 X.2.1 dX12_pass_39 (v := iI 1) rfl ?_
        refine g_iadd X dX12_pass_40 ?_
        refine g_putI X cX12 hH hS (r := 29) (i := 0) (by decide) rfl 48 (by decide) k_1258 rfl rfl rfl (Nat.le_of_ble_eq_true rfl) (x := wI ((r31 29 0 48) + 1)) (nmI_w _) rfl rfl rfl dX12_pass_41 (fun H locs hH hS => ?_)
        refine lv_aload_n X.1 X.2.1 dX12_pass_44 rfl (lv_at hl.1 0 rfl) ?_
        obtain ⟨r45, hq45, hf_⟩ := ob_e hf; clear hf; have hf := hf_; clear hf_
        refine gGoV (gRunV X hH (As := []) (m_X12_opens l G  (gU r31 29 0 48 (wI ((r31 29 0 48) + 1))) _ hq45) calX12_opens k_1491 k_41 k_1489 (by decide) cX12 rfl ⟨by decide, by decide⟩ rfl hl rfl (Nat.le_of_ble_eq_true rfl) ⟨Nat.le_of_ble_eq_true rfl, Nat.le_of_ble_eq_true rfl⟩ dX12_pass_45) hS (fun H locs hH hS => ?_)
        refine lv_goto (tgt := 61) X.1 X.2.1 dX12_pass_48 (by decide) ?_
        exact hk61 r45 hf _ _ _ hH hS (gLv_sub hl [0, 1, 2] rfl)
theorem m_X12_pass (l : Launch) (G : gG) (v1 : Int) (nv1 : nmI v1) (M : gM) (q : (Int × gM)) (hf : f_X12_pass v1 M = some q) : gMet l yX12_pass cX12_pass 3 (some .int) 6 146 G M [.ref (gAd G 29 0), .int (iI v1)] (gQi G q.1 q.2) := by
  refine gOfW (by decide) (by show _ ≤ 3; exact Nat.le_of_ble_eq_true rfl) rfl ?_
  intro p e s m below meth c X hH ls hl
  replace hl : gLv ls 3 [(0, .ref (gAd G 29 0)), (1, .int (iI v1))] := hl
  have hS : va_S (gA G) s.heap s.heap [] := va_S.rf
  generalize hargs : ([.ref (gAd G 29 0), .int (iI v1)] : List Value).toArray = args at X ⊢
  clear hargs
  unfold f_X12_pass at hf
  refine lv_aload_n X.1 X.2.1 dX12_pass_0 rfl (lv_at hl.1 0 rfl) ?_
  refine lv_iload_n X.1 X.2.1 dX12_pass_1 rfl (lv_at hl.1 1 rfl) ?_
  refine lv_iconst X.1 X.2.1 dX12_pass_2 (v := iI 1) rfl ?_
  refine lv_bipush X.1 X.2.1 dX12_pass_3 (v := iI 50) (by decide) ?_
  refine gGoZ (gRunS X hH (As := [.int (iI v1), .int (iI 1), .int (iI 50)]) (m_X12_in l G v1 nv1 1 (nmI_l (by decide)) 50 (nmI_l (by decide)) M _ rfl) calX12_in k_1389 k_1388 ⟨by decide, by decide⟩ rfl hl rfl (Nat.le_of_ble_eq_true rfl) ⟨Nat.le_of_ble_eq_true rfl, Nat.le_of_ble_eq_true rfl⟩ dX12_pass_5) hS (fun H locs br5 hH hS => ?_)
  refine gGoZ (gRunV X hH (As := [.int (iI ((f_X12_in v1 1 50 M)))]) (m_X12_asked l G ((f_X12_in v1 1 50 M)) br5 M _ rfl) calX12_asked k_1393 k_30 k_1391 (by decide) cX12 rfl ⟨by decide, by decide⟩ rfl hl rfl (Nat.le_of_ble_eq_true rfl) ⟨Nat.le_of_ble_eq_true rfl, Nat.le_of_ble_eq_true rfl⟩ dX12_pass_8) hS (fun H locs br8 hH hS => ?_)
  refine g_if_ne X (nmI_b br8) (tgt := 16) dX12_pass_11 (by decide) (fun hc11 => ?_) (fun hc11 => ?_)
  · replace hf := it_f hf hc11
    refine lv_iconst X.1 X.2.1 dX12_pass_16 (v := iI 0) rfl ?_
    refine g_istore_n X (lv' := [(2, .int (iI 0)), (0, .ref (gAd G 29 0)), (1, .int (iI v1))]) dX12_pass_17 rfl hl (by decide) rfl (fun ls hl => ?_)
    refine w_X12_pass_L18 X _ v1 nv1 q ?_ 64 0 (nmI_l (by decide)) ((f_X12_asked ((f_X12_in v1 1 50 M)) M).2) hf _ _ _ hH hS (gLv_sub hl [1, 2, 0] rfl)
    · intro  M_18_67 hf H locs ls hH hS hl
      refine lv_aload_n X.1 X.2.1 dX12_pass_67 rfl (lv_at hl.1 0 rfl) ?_
      have nd68 : nmI (M_18_67 29 0 48) := hH.1.1 _ _ _
      refine g_get X cX12 hH (r := 29) (i := 0) (by decide) rfl 48 (by decide) k_1258 rfl (v := .int (iI (M_18_67 29 0 48))) rfl dX12_pass_68 ?_
      have hq := Option.some.inj hf; subst hq
      exact gRetI X hH hS (res := M_18_67 29 0 48) nd68 dX12_pass_71
  · replace hf := it_t hf hc11
    refine lv_iconst X.1 X.2.1 dX12_pass_14 (v := iI 0) rfl ?_
    have hq := Option.some.inj hf; subst hq
    exact gRetI X hH hS (res := 0) (nmI_l (by decide)) dX12_pass_15
theorem m_X12_goesOn (l : Launch) (G : gG)  (M : gM) (q : (Int × gM)) (hf : f_X12_goesOn M = q) : gMet l yX12_goesOn cX12_goesOn 1 (some .boolean) 0 0 G M [.ref (gAd G 29 0)] (gQz G q.1 q.2) := by
  refine gOfW (by decide) (by show _ ≤ 1; exact Nat.le_of_ble_eq_true rfl) rfl ?_
  intro p e s m below meth c X hH ls hl
  replace hl : gLv ls 1 [(0, .ref (gAd G 29 0))] := hl
  have hS : va_S (gA G) s.heap s.heap [] := va_S.rf
  generalize hargs : ([.ref (gAd G 29 0)] : List Value).toArray = args at X ⊢
  clear hargs
  unfold f_X12_goesOn at hf
  refine lv_aload_n X.1 X.2.1 dX12_goesOn_0 rfl (lv_at hl.1 0 rfl) ?_
  refine lv_iconst X.1 X.2.1 dX12_goesOn_1 (v := iI 0) rfl ?_
  refine g_putI X cX12 hH hS (r := 29) (i := 0) (by decide) rfl 0 (by decide) k_1210 rfl rfl rfl (Nat.le_of_ble_eq_true rfl) (x := 0) (nmI_l (by decide)) rfl rfl rfl dX12_goesOn_2 (fun H locs hH hS => ?_)
  refine lv_aload_n X.1 X.2.1 dX12_goesOn_5 rfl (lv_at hl.1 0 rfl) ?_
  have nd6 : nmI ((gU M 29 0 0 0) 29 0 36) := hH.1.1 _ _ _
  have bd6 := hH.1.2.1 29 0 36 rfl
  refine g_get X cX12 hH (r := 29) (i := 0) (by decide) rfl 36 (by decide) k_1246 rfl (v := .int (iI ((gU M 29 0 0 0) 29 0 36))) rfl dX12_goesOn_6 ?_
  subst hf
  exact gRetZ X hH hS (res := (gU M 29 0 0 0) 29 0 36) bd6 dX12_goesOn_9
theorem m_X12_state (l : Launch) (G : gG) (v1 : Int) (nv1 : nmI v1) (v2 : Int) (nv2 : nmI v2) (M : gM) (q : (Int × gM)) (hf : f_X12_state v1 v2 M = some q) : gMet l yX12_state cX12_state 3 (some .int) 2 43 G M [.ref (gAd G 29 0), .int (iI v1), .int (iI v2)] (gQi G q.1 q.2) := by
  refine gOfW (by decide) (by show _ ≤ 3; exact Nat.le_of_ble_eq_true rfl) rfl ?_
  intro p e s m below meth c X hH ls hl
  replace hl : gLv ls 3 [(0, .ref (gAd G 29 0)), (1, .int (iI v1)), (2, .int (iI v2))] := hl
  have hS : va_S (gA G) s.heap s.heap [] := va_S.rf
  generalize hargs : ([.ref (gAd G 29 0), .int (iI v1), .int (iI v2)] : List Value).toArray = args at X ⊢
  clear hargs
  unfold f_X12_state at hf
  refine lv_aload_n X.1 X.2.1 dX12_state_0 rfl (lv_at hl.1 0 rfl) ?_
  refine lv_aload_n X.1 X.2.1 dX12_state_1 rfl (lv_at hl.1 0 rfl) ?_
  refine lv_iload_n X.1 X.2.1 dX12_state_2 rfl (lv_at hl.1 1 rfl) ?_
  refine gGoZ (gRunV X hH (As := [.int (iI v1)]) (m_X12_isTarget l G v1 nv1 M _ rfl) calX12_isTarget k_1417 k_33 k_1415 (by decide) cX12 rfl ⟨by decide, by decide⟩ rfl hl rfl (Nat.le_of_ble_eq_true rfl) ⟨Nat.le_of_ble_eq_true rfl, Nat.le_of_ble_eq_true rfl⟩ dX12_state_3) hS (fun H locs br3 hH hS => ?_)
  refine lv_aload_n X.1 X.2.1 dX12_state_6 rfl (lv_at hl.1 0 rfl) ?_
  refine lv_iload_n X.1 X.2.1 dX12_state_7 rfl (lv_at hl.1 1 rfl) ?_
  refine gGoZ (gRunV X hH (As := [.int (iI v1)]) (m_X12_isTarget l G v1 nv1 M _ rfl) calX12_isTarget k_1417 k_33 k_1415 (by decide) cX12 rfl ⟨by decide, by decide⟩ rfl hl rfl (Nat.le_of_ble_eq_true rfl) ⟨Nat.le_of_ble_eq_true rfl, Nat.le_of_ble_eq_true rfl⟩ dX12_state_8) hS (fun H locs br8 hH hS => ?_)
  obtain ⟨k35, ek35, hf_⟩ := oj_e hf; clear hf; have hf := hf_; clear hf_
  have hk35 : ∀ (xs2_35 : Int) (bxs2_35 : xs2_35 = 0 ∨ xs2_35 = 1), k35 xs2_35 = some q → ∀ (H : Heap) (locs : List Loc) (ls : Array Slot), gH G M H → va_S (gA G) s.heap H locs → gLv ls 3 [(0, .ref (gAd G 29 0)), (1, .int (iI v1)), (2, .int (iI v2))] → W p l e { frames := 2, cells := 0, slots := 0, locals := 43 } s m args below meth c H locs 0 0 (MQ below (gQi G q.1 q.2) args s 0 0 (gA G)) (F0 m 35 ls [.int (iI xs2_35), .int (iI ((f_X12_isTarget v1 M))), .ref (gAd G 29 0)]) := by
    intro xs2_35 bxs2_35 hf H locs ls hH hS hl
    subst ek35
    refine gGoZ (gRunV X hH (As := [.int (iI ((f_X12_isTarget v1 M))), .int (iI xs2_35)]) (m_X12_asked_ l G ((f_X12_isTarget v1 M)) br3 xs2_35 bxs2_35 M _ rfl) calX12_asked_ k_1401 k_31 k_1399 (by decide) cX12 rfl ⟨by decide, by decide⟩ rfl hl rfl (Nat.le_of_ble_eq_true rfl) ⟨Nat.le_of_ble_eq_true rfl, Nat.le_of_ble_eq_true rfl⟩ dX12_state_35) hS (fun H locs br35 hH hS => ?_)
    refine g_if_ne X (nmI_b br35) (tgt := 43) dX12_state_38 (by decide) (fun hc38 => ?_) (fun hc38 => ?_)
    · replace hf := it_f hf hc38
      refine lv_aload_n X.1 X.2.1 dX12_state_43 rfl (lv_at hl.1 0 rfl) ?_
      refine lv_iload_n X.1 X.2.1 dX12_state_44 rfl (lv_at hl.1 1 rfl) ?_
      refine gGoZ (gRunV X hH (As := [.int (iI v1)]) (m_X12_isNeeded l G v1 nv1 ((f_X12_asked_ ((f_X12_isTarget v1 M)) xs2_35 M).2) _ rfl) calX12_isNeeded k_1487 k_40 k_1485 (by decide) cX12 rfl ⟨by decide, by decide⟩ rfl hl rfl (Nat.le_of_ble_eq_true rfl) ⟨Nat.le_of_ble_eq_true rfl, Nat.le_of_ble_eq_true rfl⟩ dX12_state_45) hS (fun H locs br45 hH hS => ?_)
      refine g_if_eq X (nmI_b br45) (tgt := 64) dX12_state_48 (by decide) (fun hc48 => ?_) (fun hc48 => ?_)
      · replace hf := it_t hf hc48
        refine lv_iconst X.1 X.2.1 dX12_state_64 (v := iI (-1)) rfl ?_
        have hq := Option.some.inj hf; subst hq
        exact gRetI X hH hS (res := (-1)) (nmI_l (by decide)) dX12_state_65
      · replace hf := it_f hf hc48
        refine lv_aload_n X.1 X.2.1 dX12_state_51 rfl (lv_at hl.1 0 rfl) ?_
        refine g_get X cX12 hH (r := 29) (i := 0) (by decide) rfl 38 (by decide) k_1248 rfl (v := .ref (gAd G 60 0)) rfl dX12_state_52 ?_
        refine lv_iconst X.1 X.2.1 dX12_state_55 (v := iI 4) rfl ?_
        refine lv_iload_n X.1 X.2.1 dX12_state_56 rfl (lv_at hl.1 1 rfl) ?_
        refine g_imul X dX12_state_57 ?_
        refine lv_iload_n X.1 X.2.1 dX12_state_58 rfl (lv_at hl.1 2 rfl) ?_
        refine g_iadd X dX12_state_59 ?_
        obtain ⟨hg, hf_⟩ := og_e hf; clear hf; have hf := hf_; clear hf_
        have nd60 : nmI (((f_X12_asked_ ((f_X12_isTarget v1 M)) xs2_35 M).2) 60 0 (wI ((wI (4 * v1)) + v2)).toNat) := hH.1.1 _ _ _
        refine g_iald X hH (r := 60) (i := 0) (by decide) rfl (nmI_w _) hg (v := ((f_X12_asked_ ((f_X12_isTarget v1 M)) xs2_35 M).2) 60 0 (wI ((wI (4 * v1)) + v2)).toNat) rfl dX12_state_60 ?_
        refine lv_goto (tgt := 65) X.1 X.2.1 dX12_state_61 (by decide) ?_
        have hq := Option.some.inj hf; subst hq
        exact gRetI X hH hS (res := ((f_X12_asked_ ((f_X12_isTarget v1 M)) xs2_35 M).2) 60 0 (wI ((wI (4 * v1)) + v2)).toNat) nd60 dX12_state_65
    · replace hf := it_t hf hc38
      refine lv_iconst X.1 X.2.1 dX12_state_41 (v := iI 0) rfl ?_
      have hq := Option.some.inj hf; subst hq
      exact gRetI X hH hS (res := 0) (nmI_l (by decide)) dX12_state_42
  clear ek35
  obtain ⟨k34, ek34, hf_⟩ := oj_e hf; clear hf; have hf := hf_; clear hf_
  have hk34 : k34 = some q → ∀ (H : Heap) (locs : List Loc) (ls : Array Slot), gH G M H → va_S (gA G) s.heap H locs → gLv ls 3 [(0, .ref (gAd G 29 0)), (1, .int (iI v1)), (2, .int (iI v2))] → W p l e { frames := 2, cells := 0, slots := 0, locals := 43 } s m args below meth c H locs 0 0 (MQ below (gQi G q.1 q.2) args s 0 0 (gA G)) (F0 m 34 ls [.int (iI ((f_X12_isTarget v1 M))), .ref (gAd G 29 0)]) := by
    intro  hf H locs ls hH hS hl
    subst ek34
    refine lv_iconst X.1 X.2.1 dX12_state_34 (v := iI 0) rfl ?_
    exact hk35 0 (by decide) hf _ _ _ hH hS (gLv_sub hl [0, 1, 2] rfl)
  clear ek34
  refine g_if_eq X (nmI_b br8) (tgt := 34) dX12_state_11 (by decide) (fun hc11 => ?_) (fun hc11 => ?_)
  · replace hf := it_t hf hc11
    exact hk34  hf _ _ _ hH hS (gLv_sub hl [0, 1, 2] rfl)
  · replace hf := it_f hf hc11
    refine lv_iload_n X.1 X.2.1 dX12_state_14 rfl (lv_at hl.1 2 rfl) ?_
    refine lv_iconst X.1 X.2.1 dX12_state_15 (v := iI 0) rfl ?_
    refine lv_aload_n X.1 X.2.1 dX12_state_16 rfl (lv_at hl.1 0 rfl) ?_
    refine g_get X cX12 hH (r := 29) (i := 0) (by decide) rfl 11 (by decide) k_1221 rfl (v := .ref (gAd G 38 0)) rfl dX12_state_17 ?_
    refine lv_iload_n X.1 X.2.1 dX12_state_20 rfl (lv_at hl.1 1 rfl) ?_
    obtain ⟨hg, hf_⟩ := og_e hf; clear hf; have hf := hf_; clear hf_
    have nd21 : nmI (M 38 0 v1.toNat) := hH.1.1 _ _ _
    refine g_iald X hH (r := 38) (i := 0) (by decide) rfl nv1 hg (v := M 38 0 v1.toNat) rfl dX12_state_21 ?_
    refine lv_iconst X.1 X.2.1 dX12_state_22 (v := iI 1) rfl ?_
    refine g_isub X dX12_state_23 ?_
    refine gGoZ (gRunS X hH (As := [.int (iI v2), .int (iI 0), .int (iI (wI ((M 38 0 v1.toNat) - 1)))]) (m_X12_in l G v2 nv2 0 (nmI_l (by decide)) (wI ((M 38 0 v1.toNat) - 1)) (nmI_w _) M _ rfl) calX12_in k_1389 k_1388 ⟨by decide, by decide⟩ rfl hl rfl (Nat.le_of_ble_eq_true rfl) ⟨Nat.le_of_ble_eq_true rfl, Nat.le_of_ble_eq_true rfl⟩ dX12_state_24) hS (fun H locs br24 hH hS => ?_)
    refine g_if_eq X (nmI_b br24) (tgt := 34) dX12_state_27 (by decide) (fun hc27 => ?_) (fun hc27 => ?_)
    · replace hf := it_t hf hc27
      exact hk34  hf _ _ _ hH hS (gLv_sub hl [0, 1, 2] rfl)
    · replace hf := it_f hf hc27
      refine lv_iconst X.1 X.2.1 dX12_state_30 (v := iI 1) rfl ?_
      refine lv_goto (tgt := 35) X.1 X.2.1 dX12_state_31 (by decide) ?_
      exact hk35 1 (by decide) hf _ _ _ hH hS (gLv_sub hl [0, 1, 2] rfl)
theorem m_X12_result (l : Launch) (G : gG) (v1 : Int) (nv1 : nmI v1) (v2 : Int) (nv2 : nmI v2) (M : gM) (q : (Int × gM)) (hf : f_X12_result v1 v2 M = some q) : gMet l yX12_result cX12_result 3 (some .int) 2 43 G M [.ref (gAd G 29 0), .int (iI v1), .int (iI v2)] (gQi G q.1 q.2) := by
  refine gOfW (by decide) (by show _ ≤ 3; exact Nat.le_of_ble_eq_true rfl) rfl ?_
  intro p e s m below meth c X hH ls hl
  replace hl : gLv ls 3 [(0, .ref (gAd G 29 0)), (1, .int (iI v1)), (2, .int (iI v2))] := hl
  have hS : va_S (gA G) s.heap s.heap [] := va_S.rf
  generalize hargs : ([.ref (gAd G 29 0), .int (iI v1), .int (iI v2)] : List Value).toArray = args at X ⊢
  clear hargs
  unfold f_X12_result at hf
  refine lv_aload_n X.1 X.2.1 dX12_result_0 rfl (lv_at hl.1 0 rfl) ?_
  refine lv_aload_n X.1 X.2.1 dX12_result_1 rfl (lv_at hl.1 0 rfl) ?_
  refine lv_iload_n X.1 X.2.1 dX12_result_2 rfl (lv_at hl.1 1 rfl) ?_
  refine gGoZ (gRunV X hH (As := [.int (iI v1)]) (m_X12_isTarget l G v1 nv1 M _ rfl) calX12_isTarget k_1417 k_33 k_1415 (by decide) cX12 rfl ⟨by decide, by decide⟩ rfl hl rfl (Nat.le_of_ble_eq_true rfl) ⟨Nat.le_of_ble_eq_true rfl, Nat.le_of_ble_eq_true rfl⟩ dX12_result_3) hS (fun H locs br3 hH hS => ?_)
  refine lv_aload_n X.1 X.2.1 dX12_result_6 rfl (lv_at hl.1 0 rfl) ?_
  refine lv_iload_n X.1 X.2.1 dX12_result_7 rfl (lv_at hl.1 1 rfl) ?_
  refine gGoZ (gRunV X hH (As := [.int (iI v1)]) (m_X12_isTarget l G v1 nv1 M _ rfl) calX12_isTarget k_1417 k_33 k_1415 (by decide) cX12 rfl ⟨by decide, by decide⟩ rfl hl rfl (Nat.le_of_ble_eq_true rfl) ⟨Nat.le_of_ble_eq_true rfl, Nat.le_of_ble_eq_true rfl⟩ dX12_result_8) hS (fun H locs br8 hH hS => ?_)
  obtain ⟨k35, ek35, hf_⟩ := oj_e hf; clear hf; have hf := hf_; clear hf_
  have hk35 : ∀ (xs2_35 : Int) (bxs2_35 : xs2_35 = 0 ∨ xs2_35 = 1), k35 xs2_35 = some q → ∀ (H : Heap) (locs : List Loc) (ls : Array Slot), gH G M H → va_S (gA G) s.heap H locs → gLv ls 3 [(0, .ref (gAd G 29 0)), (1, .int (iI v1)), (2, .int (iI v2))] → W p l e { frames := 2, cells := 0, slots := 0, locals := 43 } s m args below meth c H locs 0 0 (MQ below (gQi G q.1 q.2) args s 0 0 (gA G)) (F0 m 35 ls [.int (iI xs2_35), .int (iI ((f_X12_isTarget v1 M))), .ref (gAd G 29 0)]) := by
    intro xs2_35 bxs2_35 hf H locs ls hH hS hl
    subst ek35
    refine gGoZ (gRunV X hH (As := [.int (iI ((f_X12_isTarget v1 M))), .int (iI xs2_35)]) (m_X12_asked_ l G ((f_X12_isTarget v1 M)) br3 xs2_35 bxs2_35 M _ rfl) calX12_asked_ k_1401 k_31 k_1399 (by decide) cX12 rfl ⟨by decide, by decide⟩ rfl hl rfl (Nat.le_of_ble_eq_true rfl) ⟨Nat.le_of_ble_eq_true rfl, Nat.le_of_ble_eq_true rfl⟩ dX12_result_35) hS (fun H locs br35 hH hS => ?_)
    refine g_if_ne X (nmI_b br35) (tgt := 43) dX12_result_38 (by decide) (fun hc38 => ?_) (fun hc38 => ?_)
    · replace hf := it_f hf hc38
      refine lv_aload_n X.1 X.2.1 dX12_result_43 rfl (lv_at hl.1 0 rfl) ?_
      refine lv_iload_n X.1 X.2.1 dX12_result_44 rfl (lv_at hl.1 1 rfl) ?_
      refine gGoZ (gRunV X hH (As := [.int (iI v1)]) (m_X12_isNeeded l G v1 nv1 ((f_X12_asked_ ((f_X12_isTarget v1 M)) xs2_35 M).2) _ rfl) calX12_isNeeded k_1487 k_40 k_1485 (by decide) cX12 rfl ⟨by decide, by decide⟩ rfl hl rfl (Nat.le_of_ble_eq_true rfl) ⟨Nat.le_of_ble_eq_true rfl, Nat.le_of_ble_eq_true rfl⟩ dX12_result_45) hS (fun H locs br45 hH hS => ?_)
      refine g_if_eq X (nmI_b br45) (tgt := 78) dX12_result_48 (by decide) (fun hc48 => ?_) (fun hc48 => ?_)
      · replace hf := it_t hf hc48
        refine lv_iconst X.1 X.2.1 dX12_result_78 (v := iI (-1)) rfl ?_
        have hq := Option.some.inj hf; subst hq
        exact gRetI X hH hS (res := (-1)) (nmI_l (by decide)) dX12_result_79
      · replace hf := it_f hf hc48
        refine lv_aload_n X.1 X.2.1 dX12_result_51 rfl (lv_at hl.1 0 rfl) ?_
        refine g_get X cX12 hH (r := 29) (i := 0) (by decide) rfl 38 (by decide) k_1248 rfl (v := .ref (gAd G 60 0)) rfl dX12_result_52 ?_
        refine lv_iconst X.1 X.2.1 dX12_result_55 (v := iI 4) rfl ?_
        refine lv_iload_n X.1 X.2.1 dX12_result_56 rfl (lv_at hl.1 1 rfl) ?_
        refine g_imul X dX12_result_57 ?_
        refine lv_iload_n X.1 X.2.1 dX12_result_58 rfl (lv_at hl.1 2 rfl) ?_
        refine g_iadd X dX12_result_59 ?_
        obtain ⟨hg, hf_⟩ := og_e hf; clear hf; have hf := hf_; clear hf_
        have nd60 : nmI (((f_X12_asked_ ((f_X12_isTarget v1 M)) xs2_35 M).2) 60 0 (wI ((wI (4 * v1)) + v2)).toNat) := hH.1.1 _ _ _
        refine g_iald X hH (r := 60) (i := 0) (by decide) rfl (nmI_w _) hg (v := ((f_X12_asked_ ((f_X12_isTarget v1 M)) xs2_35 M).2) 60 0 (wI ((wI (4 * v1)) + v2)).toNat) rfl dX12_result_60 ?_
        refine lv_iconst X.1 X.2.1 dX12_result_61 (v := iI 3) rfl ?_
        refine g_icmp_ne X nd60 (nmI_l (by decide)) (tgt := 78) dX12_result_62 (by decide) (fun hc62 => ?_) (fun hc62 => ?_)
        · replace hf := it_f hf hc62
          refine lv_iconst X.1 X.2.1 dX12_result_78 (v := iI (-1)) rfl ?_
          have hq := Option.some.inj hf; subst hq
          exact gRetI X hH hS (res := (-1)) (nmI_l (by decide)) dX12_result_79
        · replace hf := it_t hf hc62
          refine lv_aload_n X.1 X.2.1 dX12_result_65 rfl (lv_at hl.1 0 rfl) ?_
          refine g_get X cX12 hH (r := 29) (i := 0) (by decide) rfl 39 (by decide) k_1249 rfl (v := .ref (gAd G 61 0)) rfl dX12_result_66 ?_
          refine lv_iconst X.1 X.2.1 dX12_result_69 (v := iI 4) rfl ?_
          refine lv_iload_n X.1 X.2.1 dX12_result_70 rfl (lv_at hl.1 1 rfl) ?_
          refine g_imul X dX12_result_71 ?_
          refine lv_iload_n X.1 X.2.1 dX12_result_72 rfl (lv_at hl.1 2 rfl) ?_
          refine g_iadd X dX12_result_73 ?_
          obtain ⟨hg, hf_⟩ := og_e hf; clear hf; have hf := hf_; clear hf_
          have nd74 : nmI (((f_X12_asked_ ((f_X12_isTarget v1 M)) xs2_35 M).2) 61 0 (wI ((wI (4 * v1)) + v2)).toNat) := hH.1.1 _ _ _
          refine g_iald X hH (r := 61) (i := 0) (by decide) rfl (nmI_w _) hg (v := ((f_X12_asked_ ((f_X12_isTarget v1 M)) xs2_35 M).2) 61 0 (wI ((wI (4 * v1)) + v2)).toNat) rfl dX12_result_74 ?_
          refine lv_goto (tgt := 79) X.1 X.2.1 dX12_result_75 (by decide) ?_
          have hq := Option.some.inj hf; subst hq
          exact gRetI X hH hS (res := ((f_X12_asked_ ((f_X12_isTarget v1 M)) xs2_35 M).2) 61 0 (wI ((wI (4 * v1)) + v2)).toNat) nd74 dX12_result_79
    · replace hf := it_t hf hc38
      refine lv_iconst X.1 X.2.1 dX12_result_41 (v := iI 0) rfl ?_
      have hq := Option.some.inj hf; subst hq
      exact gRetI X hH hS (res := 0) (nmI_l (by decide)) dX12_result_42
  clear ek35
  obtain ⟨k34, ek34, hf_⟩ := oj_e hf; clear hf; have hf := hf_; clear hf_
  have hk34 : k34 = some q → ∀ (H : Heap) (locs : List Loc) (ls : Array Slot), gH G M H → va_S (gA G) s.heap H locs → gLv ls 3 [(0, .ref (gAd G 29 0)), (1, .int (iI v1)), (2, .int (iI v2))] → W p l e { frames := 2, cells := 0, slots := 0, locals := 43 } s m args below meth c H locs 0 0 (MQ below (gQi G q.1 q.2) args s 0 0 (gA G)) (F0 m 34 ls [.int (iI ((f_X12_isTarget v1 M))), .ref (gAd G 29 0)]) := by
    intro  hf H locs ls hH hS hl
    subst ek34
    refine lv_iconst X.1 X.2.1 dX12_result_34 (v := iI 0) rfl ?_
    exact hk35 0 (by decide) hf _ _ _ hH hS (gLv_sub hl [0, 1, 2] rfl)
  clear ek34
  refine g_if_eq X (nmI_b br8) (tgt := 34) dX12_result_11 (by decide) (fun hc11 => ?_) (fun hc11 => ?_)
  · replace hf := it_t hf hc11
    exact hk34  hf _ _ _ hH hS (gLv_sub hl [0, 1, 2] rfl)
  · replace hf := it_f hf hc11
    refine lv_iload_n X.1 X.2.1 dX12_result_14 rfl (lv_at hl.1 2 rfl) ?_
    refine lv_iconst X.1 X.2.1 dX12_result_15 (v := iI 0) rfl ?_
    refine lv_aload_n X.1 X.2.1 dX12_result_16 rfl (lv_at hl.1 0 rfl) ?_
    refine g_get X cX12 hH (r := 29) (i := 0) (by decide) rfl 11 (by decide) k_1221 rfl (v := .ref (gAd G 38 0)) rfl dX12_result_17 ?_
    refine lv_iload_n X.1 X.2.1 dX12_result_20 rfl (lv_at hl.1 1 rfl) ?_
    obtain ⟨hg, hf_⟩ := og_e hf; clear hf; have hf := hf_; clear hf_
    have nd21 : nmI (M 38 0 v1.toNat) := hH.1.1 _ _ _
    refine g_iald X hH (r := 38) (i := 0) (by decide) rfl nv1 hg (v := M 38 0 v1.toNat) rfl dX12_result_21 ?_
    refine lv_iconst X.1 X.2.1 dX12_result_22 (v := iI 1) rfl ?_
    refine g_isub X dX12_result_23 ?_
    refine gGoZ (gRunS X hH (As := [.int (iI v2), .int (iI 0), .int (iI (wI ((M 38 0 v1.toNat) - 1)))]) (m_X12_in l G v2 nv2 0 (nmI_l (by decide)) (wI ((M 38 0 v1.toNat) - 1)) (nmI_w _) M _ rfl) calX12_in k_1389 k_1388 ⟨by decide, by decide⟩ rfl hl rfl (Nat.le_of_ble_eq_true rfl) ⟨Nat.le_of_ble_eq_true rfl, Nat.le_of_ble_eq_true rfl⟩ dX12_result_24) hS (fun H locs br24 hH hS => ?_)
    refine g_if_eq X (nmI_b br24) (tgt := 34) dX12_result_27 (by decide) (fun hc27 => ?_) (fun hc27 => ?_)
    · replace hf := it_t hf hc27
      exact hk34  hf _ _ _ hH hS (gLv_sub hl [0, 1, 2] rfl)
    · replace hf := it_f hf hc27
      refine lv_iconst X.1 X.2.1 dX12_result_30 (v := iI 1) rfl ?_
      refine lv_goto (tgt := 35) X.1 X.2.1 dX12_result_31 (by decide) ?_
      exact hk35 1 (by decide) hf _ _ _ hH hS (gLv_sub hl [0, 1, 2] rfl)
theorem w_X12_freshen_L47 {G : gG} {p : Program} {l : Launch} {e : Env} {s : State} {m : MethodId} {args : Array Value} {below : List Frame} {meth : Method} {c : Code} (X : gX G p s m args meth c RX12 cX12_freshen 6 none (gWs yX12_freshen cX12_freshen 6 none)) (k139 : Int → gM → Option gM) (z1 : Int) (nz1 : nmI z1) (z2 : Int) (nz2 : nmI z2) (q : gM) (hk139 : ∀ (x3 : Int) (nx3 : nmI x3) (M : gM), k139 x3 M = some q → ∀ (H : Heap) (locs : List Loc) (ls : Array Slot), gH G M H → va_S (gA G) s.heap H locs → gLv ls 6 [(0, .ref (gAd G 29 0)), (1, .int (iI z1)), (2, .int (iI z2)), (3, .int (iI x3))] → W p l e { frames := 2, cells := 0, slots := 0, locals := 44 } s m args below meth c H locs 0 0 (MQ below (gQv G q) args s 0 0 (gA G)) (F0 m 139 ls [])) : ∀ (n : Nat) (x3 : Int) (nx3 : nmI x3) (x4 : Int) (nx4 : nmI x4) (M : gM), f_X12_freshen_L47 k139 z1 z2 n x3 x4 M = some q → ∀ (H : Heap) (locs : List Loc) (ls : Array Slot), gH G M H → va_S (gA G) s.heap H locs → gLv ls 6 [(0, .ref (gAd G 29 0)), (1, .int (iI z1)), (2, .int (iI z2)), (3, .int (iI x3)), (4, .int (iI x4))] → W p l e { frames := 2, cells := 0, slots := 0, locals := 44 } s m args below meth c H locs 0 0 (MQ below (gQv G q) args s 0 0 (gA G)) (F0 m 47 ls []) := by
  intro n
  induction n with
  | zero =>
    intro x3 nx3 x4 nx4 M hf
    cases hf
  | succ n ih =>
    intro x3 nx3 x4 nx4 M hf H locs ls hH hS hl
    rw [f_X12_freshen_L47] at hf
    refine lv_iload X.1 X.2.1 dX12_freshen_47 (lv_at hl.1 4 rfl) ?_
    refine lv_aload_n X.1 X.2.1 dX12_freshen_49 rfl (lv_at hl.1 0 rfl) ?_
    refine g_get X cX12 hH (r := 29) (i := 0) (by decide) rfl 14 (by decide) k_1224 rfl (v := .ref (gAd G 41 0)) rfl dX12_freshen_50 ?_
    refine lv_iload_n X.1 X.2.1 dX12_freshen_53 rfl (lv_at hl.1 1 rfl) ?_
    obtain ⟨hg, hf_⟩ := og_e hf; clear hf; have hf := hf_; clear hf_
    have nd54 : nmI (M 41 0 z1.toNat) := hH.1.1 _ _ _
    refine g_iald X hH (r := 41) (i := 0) (by decide) rfl nz1 hg (v := M 41 0 z1.toNat) rfl dX12_freshen_54 ?_
    refine g_icmp_ge X nx4 nd54 (tgt := 139) dX12_freshen_55 (by decide) (fun hc55 => ?_) (fun hc55 => ?_)
    · replace hf := it_f hf hc55
      exact hk139 x3 nx3 M hf _ _ _ hH hS (gLv_sub hl [0, 1, 2, 3] rfl)
    · replace hf := it_t hf hc55
      refine lv_aload_n X.1 X.2.1 dX12_freshen_58 rfl (lv_at hl.1 0 rfl) ?_
      refine lv_iload_n X.1 X.2.1 dX12_freshen_59 rfl (lv_at hl.1 1 rfl) ?_
      refine lv_iload X.1 X.2.1 dX12_freshen_60 (lv_at hl.1 4 rfl) ?_
      obtain ⟨r62, hq62, hf_⟩ := ob_e hf; clear hf; have hf := hf_; clear hf_
      refine gGoI (gRunV X hH (As := [.int (iI z1), .int (iI x4)]) (m_X12_inputOf l G z1 nz1 x4 nx4 M _ hq62) calX12_inputOf k_1483 k_39 k_1481 (by decide) cX12 rfl ⟨by decide, by decide⟩ rfl hl rfl (Nat.le_of_ble_eq_true rfl) ⟨Nat.le_of_ble_eq_true rfl, Nat.le_of_ble_eq_true rfl⟩ dX12_freshen_62) hS (fun H locs nr62 hH hS => ?_)
      refine g_istore X (lv' := [(5, .int (iI r62)), (0, .ref (gAd G 29 0)), (1, .int (iI z1)), (2, .int (iI z2)), (3, .int (iI x3)), (4, .int (iI x4))]) dX12_freshen_65 hl (by decide) rfl (fun ls hl => ?_)
      refine lv_iload_n X.1 X.2.1 dX12_freshen_67 rfl (lv_at hl.1 4 rfl) ?_
      refine lv_iload X.1 X.2.1 dX12_freshen_68 (lv_at hl.1 0 rfl) ?_
      refine lv_bipush X.1 X.2.1 dX12_freshen_70 (v := iI 16) (by decide) ?_
      obtain ⟨k95, ek95, hf_⟩ := oj_e hf; clear hf; have hf := hf_; clear hf_
      have hk95 : ∀ (xs1_95 : Int) (nxs1_95 : nmI xs1_95), k95 xs1_95 = some q → ∀ (H : Heap) (locs : List Loc) (ls : Array Slot), gH G M H → va_S (gA G) s.heap H locs → gLv ls 6 [(0, .ref (gAd G 29 0)), (1, .int (iI z1)), (2, .int (iI z2)), (4, .int (iI x4)), (5, .int (iI r62))] → W p l e { frames := 2, cells := 0, slots := 0, locals := 44 } s m args below meth c H locs 0 0 (MQ below (gQv G q) args s 0 0 (gA G)) (F0 m 95 ls [.int (iI xs1_95), .int (iI x3)]) := by
        intro xs1_95 nxs1_95 hf H locs ls hH hS hl
        subst ek95
        refine gGoI (gRunS X hH (As := [.int (iI x3), .int (iI xs1_95)]) (m_X12_put l G x3 nx3 xs1_95 nxs1_95 M _ rfl) calX12_put k_1449 k_1448 ⟨by decide, by decide⟩ rfl hl rfl (Nat.le_of_ble_eq_true rfl) ⟨Nat.le_of_ble_eq_true rfl, Nat.le_of_ble_eq_true rfl⟩ dX12_freshen_95) hS (fun H locs nr95 hH hS => ?_)
        refine g_istore_n X (lv' := [(3, .int (iI ((f_X12_put x3 xs1_95 M)))), (0, .ref (gAd G 29 0)), (1, .int (iI z1)), (2, .int (iI z2)), (4, .int (iI x4)), (5, .int (iI r62))]) dX12_freshen_98 rfl hl (by decide) rfl (fun ls hl => ?_)
        refine lv_aload_n X.1 X.2.1 dX12_freshen_99 rfl (lv_at hl.1 1 rfl) ?_
        refine g_get X cX12 hH (r := 29) (i := 0) (by decide) rfl 53 (by decide) k_1263 rfl (v := .ref (gAd G 72 0)) rfl dX12_freshen_100 ?_
        refine lv_iload_n X.1 X.2.1 dX12_freshen_103 rfl (lv_at hl.1 2 rfl) ?_
        refine lv_dup2_11 X.1 X.2.1 dX12_freshen_104 rfl rfl ?_
        obtain ⟨hg, hf_⟩ := og_e hf; clear hf; have hf := hf_; clear hf_
        have nd105 : nmI (M 72 0 z1.toNat) := hH.1.1 _ _ _
        have bd105 := hH.1.2.1 72 0 z1.toNat rfl
        refine g_zald X hH (r := 72) (i := 0) (by decide) rfl nz1 hg (v := M 72 0 z1.toNat) rfl dX12_freshen_105 ?_
        refine lv_iload X.1 X.2.1 dX12_freshen_106 (lv_at hl.1 5 rfl) ?_
        refine lv_bipush X.1 X.2.1 dX12_freshen_108 (v := iI 16) (by decide) ?_
        obtain ⟨k131, ek131, hf_⟩ := oj_e hf; clear hf; have hf := hf_; clear hf_
        have hk131 : ∀ (xs3_131 : Int) (bxs3_131 : xs3_131 = 0 ∨ xs3_131 = 1), k131 xs3_131 = some q → ∀ (H : Heap) (locs : List Loc) (ls : Array Slot), gH G M H → va_S (gA G) s.heap H locs → gLv ls 6 [(0, .ref (gAd G 29 0)), (1, .int (iI z1)), (2, .int (iI z2)), (3, .int (iI ((f_X12_put x3 xs1_95 M)))), (4, .int (iI x4))] → W p l e { frames := 2, cells := 0, slots := 0, locals := 44 } s m args below meth c H locs 0 0 (MQ below (gQv G q) args s 0 0 (gA G)) (F0 m 131 ls [.int (iI xs3_131), .int (iI (M 72 0 z1.toNat)), .int (iI z1), .ref (gAd G 72 0)]) := by
          intro xs3_131 bxs3_131 hf H locs ls hH hS hl
          subst ek131
          refine g_iand X dX12_freshen_131 ?_
          obtain ⟨hg, hf_⟩ := og_e hf; clear hf; have hf := hf_; clear hf_
          refine g_zast X hH hS (r := 72) (i := 0) (by decide) (fun _ => rfl) nz1 hg (b01_and bd105 bxs3_131) dX12_freshen_132 (fun H locs hH hS => ?_)
          refine g_iinc X (a := x4) (lv' := [(4, .int (iI (wI (x4 + 1)))), (0, .ref (gAd G 29 0)), (1, .int (iI z1)), (2, .int (iI z2)), (3, .int (iI ((f_X12_put x3 xs1_95 M))))]) dX12_freshen_133 hl (k := 4) rfl (by decide) rfl (fun ls hl => ?_)
          refine lv_goto (tgt := 47) X.1 X.2.1 dX12_freshen_136 (by decide) ?_
          exact ih ((f_X12_put x3 xs1_95 M)) nr95 (wI (x4 + 1)) (nmI_w _) (gU M 72 0 z1.toNat (gAnd (M 72 0 z1.toNat) xs3_131)) hf _ _ _ hH hS (gLv_sub hl [1, 2, 3, 4, 0] rfl)
        clear ek131
        obtain ⟨k126, ek126, hf_⟩ := oj_e hf; clear hf; have hf := hf_; clear hf_
        have hk126 : k126 = some q → ∀ (H : Heap) (locs : List Loc) (ls : Array Slot), gH G M H → va_S (gA G) s.heap H locs → gLv ls 6 [(0, .ref (gAd G 29 0)), (1, .int (iI z1)), (2, .int (iI z2)), (3, .int (iI ((f_X12_put x3 xs1_95 M)))), (4, .int (iI x4))] → W p l e { frames := 2, cells := 0, slots := 0, locals := 44 } s m args below meth c H locs 0 0 (MQ below (gQv G q) args s 0 0 (gA G)) (F0 m 126 ls [.int (iI (M 72 0 z1.toNat)), .int (iI z1), .ref (gAd G 72 0)]) := by
          intro  hf H locs ls hH hS hl
          subst ek126
          refine lv_iconst X.1 X.2.1 dX12_freshen_126 (v := iI 1) rfl ?_
          refine lv_goto (tgt := 131) X.1 X.2.1 dX12_freshen_127 (by decide) ?_
          exact hk131 1 (by decide) hf _ _ _ hH hS (gLv_sub hl [0, 1, 2, 3, 4] rfl)
        clear ek126
        refine g_icmp_lt X nr62 (nmI_l (by decide)) (tgt := 126) dX12_freshen_110 (by decide) (fun hc110 => ?_) (fun hc110 => ?_)
        · replace hf := it_t hf hc110
          exact hk126  hf _ _ _ hH hS (gLv_sub hl [1, 2, 3, 0, 4] rfl)
        · replace hf := it_f hf hc110
          refine lv_aload_n X.1 X.2.1 dX12_freshen_113 rfl (lv_at hl.1 1 rfl) ?_
          refine g_get X cX12 hH (r := 29) (i := 0) (by decide) rfl 53 (by decide) k_1263 rfl (v := .ref (gAd G 72 0)) rfl dX12_freshen_114 ?_
          refine lv_iload X.1 X.2.1 dX12_freshen_117 (lv_at hl.1 5 rfl) ?_
          refine lv_bipush X.1 X.2.1 dX12_freshen_119 (v := iI 16) (by decide) ?_
          refine g_isub X dX12_freshen_121 ?_
          obtain ⟨hg, hf_⟩ := og_e hf; clear hf; have hf := hf_; clear hf_
          have nd122 : nmI (M 72 0 (wI (r62 - 16)).toNat) := hH.1.1 _ _ _
          have bd122 := hH.1.2.1 72 0 ((wI (r62 - 16)).toNat) rfl
          refine g_zald X hH (r := 72) (i := 0) (by decide) rfl (nmI_w _) hg (v := M 72 0 (wI (r62 - 16)).toNat) rfl dX12_freshen_122 ?_
          refine g_if_eq X nd122 (tgt := 130) dX12_freshen_123 (by decide) (fun hc123 => ?_) (fun hc123 => ?_)
          · replace hf := it_t hf hc123
            refine lv_iconst X.1 X.2.1 dX12_freshen_130 (v := iI 0) rfl ?_
            exact hk131 0 (by decide) hf _ _ _ hH hS (gLv_sub hl [1, 2, 3, 0, 4] rfl)
          · replace hf := it_f hf hc123
            exact hk126  hf _ _ _ hH hS (gLv_sub hl [1, 2, 3, 0, 4] rfl)
      clear ek95
      refine g_icmp_ge X nr62 (nmI_l (by decide)) (tgt := 85) dX12_freshen_72 (by decide) (fun hc72 => ?_) (fun hc72 => ?_)
      · replace hf := it_f hf hc72
        refine lv_aload_n X.1 X.2.1 dX12_freshen_85 rfl (lv_at hl.1 1 rfl) ?_
        refine g_get X cX12 hH (r := 29) (i := 0) (by decide) rfl 52 (by decide) k_1262 rfl (v := .ref (gAd G 71 0)) rfl dX12_freshen_86 ?_
        refine lv_iload X.1 X.2.1 dX12_freshen_89 (lv_at hl.1 0 rfl) ?_
        refine lv_bipush X.1 X.2.1 dX12_freshen_91 (v := iI 16) (by decide) ?_
        refine g_isub X dX12_freshen_93 ?_
        obtain ⟨hg, hf_⟩ := og_e hf; clear hf; have hf := hf_; clear hf_
        have nd94 : nmI (M 71 0 (wI (r62 - 16)).toNat) := hH.1.1 _ _ _
        refine g_iald X hH (r := 71) (i := 0) (by decide) rfl (nmI_w _) hg (v := M 71 0 (wI (r62 - 16)).toNat) rfl dX12_freshen_94 ?_
        exact hk95 (M 71 0 (wI (r62 - 16)).toNat) nd94 hf _ _ _ hH hS (gLv_sub hl [1, 2, 3, 5, 0] rfl)
      · replace hf := it_t hf hc72
        refine lv_aload_n X.1 X.2.1 dX12_freshen_75 rfl (lv_at hl.1 1 rfl) ?_
        refine g_get X cX12 hH (r := 29) (i := 0) (by decide) rfl 50 (by decide) k_1260 rfl (v := .ref (gAd G 69 0)) rfl dX12_freshen_76 ?_
        refine lv_iload X.1 X.2.1 dX12_freshen_79 (lv_at hl.1 0 rfl) ?_
        obtain ⟨hg, hf_⟩ := og_e hf; clear hf; have hf := hf_; clear hf_
        have nd81 : nmI (M 69 0 r62.toNat) := hH.1.1 _ _ _
        refine g_iald X hH (r := 69) (i := 0) (by decide) rfl nr62 hg (v := M 69 0 r62.toNat) rfl dX12_freshen_81 ?_
        refine lv_goto (tgt := 95) X.1 X.2.1 dX12_freshen_82 (by decide) ?_
        exact hk95 (M 69 0 r62.toNat) nd81 hf _ _ _ hH hS (gLv_sub hl [1, 2, 3, 5, 0] rfl)
theorem w_X12_freshen_L27 {G : gG} {p : Program} {l : Launch} {e : Env} {s : State} {m : MethodId} {args : Array Value} {below : List Frame} {meth : Method} {c : Code} (X : gX G p s m args meth c RX12 cX12_freshen 6 none (gWs yX12_freshen cX12_freshen 6 none)) (k257 : gM → Option gM) (z1 : Int) (nz1 : nmI z1) (q : gM) (hk257 : ∀  (M : gM), k257 M = some q → ∀ (H : Heap) (locs : List Loc) (ls : Array Slot), gH G M H → va_S (gA G) s.heap H locs → gLv ls 6 [(0, .ref (gAd G 29 0)), (1, .int (iI z1))] → W p l e { frames := 2, cells := 0, slots := 0, locals := 44 } s m args below meth c H locs 0 0 (MQ below (gQv G q) args s 0 0 (gA G)) (F0 m 257 ls [])) : ∀ (n : Nat) (x2 : Int) (nx2 : nmI x2) (M : gM), f_X12_freshen_L27 k257 z1 n x2 M = some q → ∀ (H : Heap) (locs : List Loc) (ls : Array Slot), gH G M H → va_S (gA G) s.heap H locs → gLv ls 6 [(0, .ref (gAd G 29 0)), (1, .int (iI z1)), (2, .int (iI x2))] → W p l e { frames := 2, cells := 0, slots := 0, locals := 44 } s m args below meth c H locs 0 0 (MQ below (gQv G q) args s 0 0 (gA G)) (F0 m 27 ls []) := by
  intro n
  induction n with
  | zero =>
    intro x2 nx2 M hf
    cases hf
  | succ n ih =>
    intro x2 nx2 M hf H locs ls hH hS hl
    rw [f_X12_freshen_L27] at hf
    refine lv_iload_n X.1 X.2.1 dX12_freshen_27 rfl (lv_at hl.1 2 rfl) ?_
    refine lv_aload_n X.1 X.2.1 dX12_freshen_28 rfl (lv_at hl.1 0 rfl) ?_
    refine g_get X cX12 hH (r := 29) (i := 0) (by decide) rfl 11 (by decide) k_1221 rfl (v := .ref (gAd G 38 0)) rfl dX12_freshen_29 ?_
    refine lv_iload_n X.1 X.2.1 dX12_freshen_32 rfl (lv_at hl.1 1 rfl) ?_
    obtain ⟨hg, hf_⟩ := og_e hf; clear hf; have hf := hf_; clear hf_
    have nd33 : nmI (M 38 0 z1.toNat) := hH.1.1 _ _ _
    refine g_iald X hH (r := 38) (i := 0) (by decide) rfl nz1 hg (v := M 38 0 z1.toNat) rfl dX12_freshen_33 ?_
    refine g_icmp_ge X nx2 nd33 (tgt := 257) dX12_freshen_34 (by decide) (fun hc34 => ?_) (fun hc34 => ?_)
    · replace hf := it_f hf hc34
      exact hk257 M hf _ _ _ hH hS (gLv_sub hl [0, 1] rfl)
    · replace hf := it_t hf hc34
      refine lv_aload_n X.1 X.2.1 dX12_freshen_37 rfl (lv_at hl.1 0 rfl) ?_
      refine lv_iload_n X.1 X.2.1 dX12_freshen_38 rfl (lv_at hl.1 1 rfl) ?_
      refine lv_iload_n X.1 X.2.1 dX12_freshen_39 rfl (lv_at hl.1 2 rfl) ?_
      obtain ⟨r40, hq40, hf_⟩ := ob_e hf; clear hf; have hf := hf_; clear hf_
      refine gGoI (gRunV X hH (As := [.int (iI z1), .int (iI x2)]) (m_X12_keyBegin l G z1 nz1 x2 nx2 M _ hq40) calX12_keyBegin k_1507 k_45 k_1505 (by decide) cX12 rfl ⟨by decide, by decide⟩ rfl hl rfl (Nat.le_of_ble_eq_true rfl) ⟨Nat.le_of_ble_eq_true rfl, Nat.le_of_ble_eq_true rfl⟩ dX12_freshen_40) hS (fun H locs nr40 hH hS => ?_)
      refine g_istore_n X (lv' := [(3, .int (iI r40)), (0, .ref (gAd G 29 0)), (1, .int (iI z1)), (2, .int (iI x2))]) dX12_freshen_43 rfl hl (by decide) rfl (fun ls hl => ?_)
      refine lv_iconst X.1 X.2.1 dX12_freshen_44 (v := iI 0) rfl ?_
      refine g_istore X (lv' := [(4, .int (iI 0)), (3, .int (iI r40)), (0, .ref (gAd G 29 0)), (1, .int (iI z1)), (2, .int (iI x2))]) dX12_freshen_45 hl (by decide) rfl (fun ls hl => ?_)
      refine w_X12_freshen_L47 X _ z1 nz1 x2 nx2 q ?_ 64 r40 nr40 0 (nmI_l (by decide)) M hf _ _ _ hH hS (gLv_sub hl [2, 3, 4, 1, 0] rfl)
      · intro y3_47_139 ny3_47_139 M_47_139 hf H locs ls hH hS hl
        refine lv_aload_n X.1 X.2.1 dX12_freshen_139 rfl (lv_at hl.1 0 rfl) ?_
        refine lv_iload_n X.1 X.2.1 dX12_freshen_140 rfl (lv_at hl.1 1 rfl) ?_
        refine lv_iload_n X.1 X.2.1 dX12_freshen_141 rfl (lv_at hl.1 3 rfl) ?_
        obtain ⟨r142, hq142, hf_⟩ := ob_e hf; clear hf; have hf := hf_; clear hf_
        refine gGoI (gRunV X hH (As := [.int (iI z1), .int (iI y3_47_139)]) (m_X12_foundBy l G z1 nz1 y3_47_139 ny3_47_139 M_47_139 _ hq142) calX12_foundBy k_1515 k_47 k_1513 (by decide) cX12 rfl ⟨by decide, by decide⟩ rfl hl rfl (Nat.le_of_ble_eq_true rfl) ⟨Nat.le_of_ble_eq_true rfl, Nat.le_of_ble_eq_true rfl⟩ dX12_freshen_142) hS (fun H locs nr142 hH hS => ?_)
        refine g_istore X (lv' := [(4, .int (iI r142)), (0, .ref (gAd G 29 0)), (1, .int (iI z1)), (2, .int (iI x2)), (3, .int (iI y3_47_139))]) dX12_freshen_145 hl (by decide) rfl (fun ls hl => ?_)
        refine lv_aload_n X.1 X.2.1 dX12_freshen_147 rfl (lv_at hl.1 1 rfl) ?_
        refine g_get X cX12 hH (r := 29) (i := 0) (by decide) rfl 51 (by decide) k_1261 rfl (v := .ref (gAd G 70 0)) rfl dX12_freshen_148 ?_
        refine lv_iconst X.1 X.2.1 dX12_freshen_151 (v := iI 4) rfl ?_
        refine lv_iload_n X.1 X.2.1 dX12_freshen_152 rfl (lv_at hl.1 2 rfl) ?_
        refine g_imul X dX12_freshen_153 ?_
        refine lv_iload_n X.1 X.2.1 dX12_freshen_154 rfl (lv_at hl.1 3 rfl) ?_
        refine g_iadd X dX12_freshen_155 ?_
        refine lv_iload X.1 X.2.1 dX12_freshen_156 (lv_at hl.1 0 rfl) ?_
        refine lv_iconst X.1 X.2.1 dX12_freshen_158 (v := iI (-1)) rfl ?_
        obtain ⟨k177, ek177, hf_⟩ := oj_e hf; clear hf; have hf := hf_; clear hf_
        have hk177 : ∀ (xs2_177 : Int) (nxs2_177 : nmI xs2_177), k177 xs2_177 = some q → ∀ (H : Heap) (locs : List Loc) (ls : Array Slot), gH G M_47_139 H → va_S (gA G) s.heap H locs → gLv ls 6 [(0, .ref (gAd G 29 0)), (1, .int (iI z1)), (2, .int (iI x2)), (3, .int (iI y3_47_139))] → W p l e { frames := 2, cells := 0, slots := 0, locals := 44 } s m args below meth c H locs 0 0 (MQ below (gQv G q) args s 0 0 (gA G)) (F0 m 177 ls [.int (iI xs2_177), .int (iI (wI ((wI (4 * z1)) + x2))), .ref (gAd G 70 0)]) := by
          intro xs2_177 nxs2_177 hf H locs ls hH hS hl
          subst ek177
          obtain ⟨hg, hf_⟩ := og_e hf; clear hf; have hf := hf_; clear hf_
          refine g_iast X hH hS (r := 70) (i := 0) (by decide) (fun _ => rfl) (nmI_w _) hg nxs2_177 rfl (by decide) dX12_freshen_177 (fun H locs hH hS => ?_)
          refine lv_aload_n X.1 X.2.1 dX12_freshen_178 rfl (lv_at hl.1 0 rfl) ?_
          refine g_get X cX12 hH (r := 29) (i := 0) (by decide) rfl 53 (by decide) k_1263 rfl (v := .ref (gAd G 72 0)) rfl dX12_freshen_179 ?_
          refine lv_iload_n X.1 X.2.1 dX12_freshen_182 rfl (lv_at hl.1 1 rfl) ?_
          refine lv_dup2_11 X.1 X.2.1 dX12_freshen_183 rfl rfl ?_
          obtain ⟨hg, hf_⟩ := og_e hf; clear hf; have hf := hf_; clear hf_
          have nd184 : nmI ((gU M_47_139 70 0 (wI ((wI (4 * z1)) + x2)).toNat xs2_177) 72 0 z1.toNat) := hH.1.1 _ _ _
          have bd184 := hH.1.2.1 72 0 z1.toNat rfl
          refine g_zald X hH (r := 72) (i := 0) (by decide) rfl nz1 hg (v := (gU M_47_139 70 0 (wI ((wI (4 * z1)) + x2)).toNat xs2_177) 72 0 z1.toNat) rfl dX12_freshen_184 ?_
          refine lv_aload_n X.1 X.2.1 dX12_freshen_185 rfl (lv_at hl.1 0 rfl) ?_
          refine lv_iload_n X.1 X.2.1 dX12_freshen_186 rfl (lv_at hl.1 1 rfl) ?_
          refine lv_iload_n X.1 X.2.1 dX12_freshen_187 rfl (lv_at hl.1 3 rfl) ?_
          obtain ⟨r188, hq188, hf_⟩ := ob_e hf; clear hf; have hf := hf_; clear hf_
          refine gGoZ (gRunV X hH (As := [.int (iI z1), .int (iI y3_47_139)]) (m_X12_breaks l G z1 nz1 y3_47_139 ny3_47_139 (gU M_47_139 70 0 (wI ((wI (4 * z1)) + x2)).toNat xs2_177) _ hq188) calX12_breaks k_1519 k_48 k_1517 (by decide) cX12 rfl ⟨by decide, by decide⟩ rfl hl rfl (Nat.le_of_ble_eq_true rfl) ⟨Nat.le_of_ble_eq_true rfl, Nat.le_of_ble_eq_true rfl⟩ dX12_freshen_188) hS (fun H locs br188 hH hS => ?_)
          obtain ⟨k224, ek224, hf_⟩ := oj_e hf; clear hf; have hf := hf_; clear hf_
          have hk224 : ∀ (xs3_224 : Int) (bxs3_224 : xs3_224 = 0 ∨ xs3_224 = 1), k224 xs3_224 = some q → ∀ (H : Heap) (locs : List Loc) (ls : Array Slot), gH G (gU M_47_139 70 0 (wI ((wI (4 * z1)) + x2)).toNat xs2_177) H → va_S (gA G) s.heap H locs → gLv ls 6 [(0, .ref (gAd G 29 0)), (1, .int (iI z1)), (2, .int (iI x2))] → W p l e { frames := 2, cells := 0, slots := 0, locals := 44 } s m args below meth c H locs 0 0 (MQ below (gQv G q) args s 0 0 (gA G)) (F0 m 224 ls [.int (iI xs3_224), .int (iI ((gU M_47_139 70 0 (wI ((wI (4 * z1)) + x2)).toNat xs2_177) 72 0 z1.toNat)), .int (iI z1), .ref (gAd G 72 0)]) := by
            intro xs3_224 bxs3_224 hf H locs ls hH hS hl
            subst ek224
            refine g_iand X dX12_freshen_224 ?_
            obtain ⟨hg, hf_⟩ := og_e hf; clear hf; have hf := hf_; clear hf_
            refine g_zast X hH hS (r := 72) (i := 0) (by decide) (fun _ => rfl) nz1 hg (b01_and bd184 bxs3_224) dX12_freshen_225 (fun H locs hH hS => ?_)
            refine lv_aload_n X.1 X.2.1 dX12_freshen_226 rfl (lv_at hl.1 0 rfl) ?_
            refine g_get X cX12 hH (r := 29) (i := 0) (by decide) rfl 52 (by decide) k_1262 rfl (v := .ref (gAd G 71 0)) rfl dX12_freshen_227 ?_
            refine lv_iload_n X.1 X.2.1 dX12_freshen_230 rfl (lv_at hl.1 1 rfl) ?_
            refine lv_aload_n X.1 X.2.1 dX12_freshen_231 rfl (lv_at hl.1 0 rfl) ?_
            refine g_get X cX12 hH (r := 29) (i := 0) (by decide) rfl 52 (by decide) k_1262 rfl (v := .ref (gAd G 71 0)) rfl dX12_freshen_232 ?_
            refine lv_iload_n X.1 X.2.1 dX12_freshen_235 rfl (lv_at hl.1 1 rfl) ?_
            obtain ⟨hg, hf_⟩ := og_e hf; clear hf; have hf := hf_; clear hf_
            have nd236 : nmI ((gU (gU M_47_139 70 0 (wI ((wI (4 * z1)) + x2)).toNat xs2_177) 72 0 z1.toNat (gAnd ((gU M_47_139 70 0 (wI ((wI (4 * z1)) + x2)).toNat xs2_177) 72 0 z1.toNat) xs3_224)) 71 0 z1.toNat) := hH.1.1 _ _ _
            refine g_iald X hH (r := 71) (i := 0) (by decide) rfl nz1 hg (v := (gU (gU M_47_139 70 0 (wI ((wI (4 * z1)) + x2)).toNat xs2_177) 72 0 z1.toNat (gAnd ((gU M_47_139 70 0 (wI ((wI (4 * z1)) + x2)).toNat xs2_177) 72 0 z1.toNat) xs3_224)) 71 0 z1.toNat) rfl dX12_freshen_236 ?_
            refine lv_aload_n X.1 X.2.1 dX12_freshen_237 rfl (lv_at hl.1 0 rfl) ?_
            refine g_get X cX12 hH (r := 29) (i := 0) (by decide) rfl 51 (by decide) k_1261 rfl (v := .ref (gAd G 70 0)) rfl dX12_freshen_238 ?_
            refine lv_iconst X.1 X.2.1 dX12_freshen_241 (v := iI 4) rfl ?_
            refine lv_iload_n X.1 X.2.1 dX12_freshen_242 rfl (lv_at hl.1 1 rfl) ?_
            refine g_imul X dX12_freshen_243 ?_
            refine lv_iload_n X.1 X.2.1 dX12_freshen_244 rfl (lv_at hl.1 2 rfl) ?_
            refine g_iadd X dX12_freshen_245 ?_
            obtain ⟨hg, hf_⟩ := og_e hf; clear hf; have hf := hf_; clear hf_
            have nd246 : nmI ((gU (gU M_47_139 70 0 (wI ((wI (4 * z1)) + x2)).toNat xs2_177) 72 0 z1.toNat (gAnd ((gU M_47_139 70 0 (wI ((wI (4 * z1)) + x2)).toNat xs2_177) 72 0 z1.toNat) xs3_224)) 70 0 (wI ((wI (4 * z1)) + x2)).toNat) := hH.1.1 _ _ _
            refine g_iald X hH (r := 70) (i := 0) (by decide) rfl (nmI_w _) hg (v := (gU (gU M_47_139 70 0 (wI ((wI (4 * z1)) + x2)).toNat xs2_177) 72 0 z1.toNat (gAnd ((gU M_47_139 70 0 (wI ((wI (4 * z1)) + x2)).toNat xs2_177) 72 0 z1.toNat) xs3_224)) 70 0 (wI ((wI (4 * z1)) + x2)).toNat) rfl dX12_freshen_246 ?_
            refine gGoI (gRunS X hH (As := [.int (iI ((gU (gU M_47_139 70 0 (wI ((wI (4 * z1)) + x2)).toNat xs2_177) 72 0 z1.toNat (gAnd ((gU M_47_139 70 0 (wI ((wI (4 * z1)) + x2)).toNat xs2_177) 72 0 z1.toNat) xs3_224)) 71 0 z1.toNat)), .int (iI ((gU (gU M_47_139 70 0 (wI ((wI (4 * z1)) + x2)).toNat xs2_177) 72 0 z1.toNat (gAnd ((gU M_47_139 70 0 (wI ((wI (4 * z1)) + x2)).toNat xs2_177) 72 0 z1.toNat) xs3_224)) 70 0 (wI ((wI (4 * z1)) + x2)).toNat))]) (m_X12_put l G ((gU (gU M_47_139 70 0 (wI ((wI (4 * z1)) + x2)).toNat xs2_177) 72 0 z1.toNat (gAnd ((gU M_47_139 70 0 (wI ((wI (4 * z1)) + x2)).toNat xs2_177) 72 0 z1.toNat) xs3_224)) 71 0 z1.toNat) nd236 ((gU (gU M_47_139 70 0 (wI ((wI (4 * z1)) + x2)).toNat xs2_177) 72 0 z1.toNat (gAnd ((gU M_47_139 70 0 (wI ((wI (4 * z1)) + x2)).toNat xs2_177) 72 0 z1.toNat) xs3_224)) 70 0 (wI ((wI (4 * z1)) + x2)).toNat) nd246 (gU (gU M_47_139 70 0 (wI ((wI (4 * z1)) + x2)).toNat xs2_177) 72 0 z1.toNat (gAnd ((gU M_47_139 70 0 (wI ((wI (4 * z1)) + x2)).toNat xs2_177) 72 0 z1.toNat) xs3_224)) _ rfl) calX12_put k_1449 k_1448 ⟨by decide, by decide⟩ rfl hl rfl (Nat.le_of_ble_eq_true rfl) ⟨Nat.le_of_ble_eq_true rfl, Nat.le_of_ble_eq_true rfl⟩ dX12_freshen_247) hS (fun H locs nr247 hH hS => ?_)
            obtain ⟨hg, hf_⟩ := og_e hf; clear hf; have hf := hf_; clear hf_
            refine g_iast X hH hS (r := 71) (i := 0) (by decide) (fun _ => rfl) nz1 hg nr247 rfl (by decide) dX12_freshen_250 (fun H locs hH hS => ?_)
            refine g_iinc X (a := x2) (lv' := [(2, .int (iI (wI (x2 + 1)))), (0, .ref (gAd G 29 0)), (1, .int (iI z1))]) dX12_freshen_251 hl (k := 2) rfl (by decide) rfl (fun ls hl => ?_)
            refine lv_goto (tgt := 27) X.1 X.2.1 dX12_freshen_254 (by decide) ?_
            exact ih (wI (x2 + 1)) (nmI_w _) (gU (gU (gU M_47_139 70 0 (wI ((wI (4 * z1)) + x2)).toNat xs2_177) 72 0 z1.toNat (gAnd ((gU M_47_139 70 0 (wI ((wI (4 * z1)) + x2)).toNat xs2_177) 72 0 z1.toNat) xs3_224)) 71 0 z1.toNat ((f_X12_put ((gU (gU M_47_139 70 0 (wI ((wI (4 * z1)) + x2)).toNat xs2_177) 72 0 z1.toNat (gAnd ((gU M_47_139 70 0 (wI ((wI (4 * z1)) + x2)).toNat xs2_177) 72 0 z1.toNat) xs3_224)) 71 0 z1.toNat) ((gU (gU M_47_139 70 0 (wI ((wI (4 * z1)) + x2)).toNat xs2_177) 72 0 z1.toNat (gAnd ((gU M_47_139 70 0 (wI ((wI (4 * z1)) + x2)).toNat xs2_177) 72 0 z1.toNat) xs3_224)) 70 0 (wI ((wI (4 * z1)) + x2)).toNat) (gU (gU M_47_139 70 0 (wI ((wI (4 * z1)) + x2)).toNat xs2_177) 72 0 z1.toNat (gAnd ((gU M_47_139 70 0 (wI ((wI (4 * z1)) + x2)).toNat xs2_177) 72 0 z1.toNat) xs3_224))))) hf _ _ _ hH hS (gLv_sub hl [1, 2, 0] rfl)
          clear ek224
          obtain ⟨k223, ek223, hf_⟩ := oj_e hf; clear hf; have hf := hf_; clear hf_
          have hk223 : k223 = some q → ∀ (H : Heap) (locs : List Loc) (ls : Array Slot), gH G (gU M_47_139 70 0 (wI ((wI (4 * z1)) + x2)).toNat xs2_177) H → va_S (gA G) s.heap H locs → gLv ls 6 [(0, .ref (gAd G 29 0)), (1, .int (iI z1)), (2, .int (iI x2))] → W p l e { frames := 2, cells := 0, slots := 0, locals := 44 } s m args below meth c H locs 0 0 (MQ below (gQv G q) args s 0 0 (gA G)) (F0 m 223 ls [.int (iI ((gU M_47_139 70 0 (wI ((wI (4 * z1)) + x2)).toNat xs2_177) 72 0 z1.toNat)), .int (iI z1), .ref (gAd G 72 0)]) := by
            intro  hf H locs ls hH hS hl
            subst ek223
            refine lv_iconst X.1 X.2.1 dX12_freshen_223 (v := iI 0) rfl ?_
            exact hk224 0 (by decide) hf _ _ _ hH hS (gLv_sub hl [0, 1, 2] rfl)
          clear ek223
          refine g_if_ne X (nmI_b br188) (tgt := 223) dX12_freshen_191 (by decide) (fun hc191 => ?_) (fun hc191 => ?_)
          · replace hf := it_f hf hc191
            exact hk223  hf _ _ _ hH hS (gLv_sub hl [0, 1, 2] rfl)
          · replace hf := it_t hf hc191
            refine lv_aload_n X.1 X.2.1 dX12_freshen_194 rfl (lv_at hl.1 0 rfl) ?_
            refine g_get X cX12 hH (r := 29) (i := 0) (by decide) rfl 8 (by decide) k_1218 rfl (v := .ref (gAd G 35 0)) rfl dX12_freshen_195 ?_
            refine lv_iload_n X.1 X.2.1 dX12_freshen_198 rfl (lv_at hl.1 1 rfl) ?_
            obtain ⟨hg, hf_⟩ := og_e hf; clear hf; have hf := hf_; clear hf_
            have nd199 : nmI ((gU M_47_139 70 0 (wI ((wI (4 * z1)) + x2)).toNat xs2_177) 35 0 z1.toNat) := hH.1.1 _ _ _
            refine g_iald X hH (r := 35) (i := 0) (by decide) rfl nz1 hg (v := (gU M_47_139 70 0 (wI ((wI (4 * z1)) + x2)).toNat xs2_177) 35 0 z1.toNat) rfl dX12_freshen_199 ?_
            refine lv_iconst X.1 X.2.1 dX12_freshen_200 (v := iI 2) rfl ?_
            obtain ⟨k219, ek219, hf_⟩ := oj_e hf; clear hf; have hf := hf_; clear hf_
            have hk219 : k219 = some q → ∀ (H : Heap) (locs : List Loc) (ls : Array Slot), gH G (gU M_47_139 70 0 (wI ((wI (4 * z1)) + x2)).toNat xs2_177) H → va_S (gA G) s.heap H locs → gLv ls 6 [(0, .ref (gAd G 29 0)), (1, .int (iI z1)), (2, .int (iI x2))] → W p l e { frames := 2, cells := 0, slots := 0, locals := 44 } s m args below meth c H locs 0 0 (MQ below (gQv G q) args s 0 0 (gA G)) (F0 m 219 ls [.int (iI ((gU M_47_139 70 0 (wI ((wI (4 * z1)) + x2)).toNat xs2_177) 72 0 z1.toNat)), .int (iI z1), .ref (gAd G 72 0)]) := by
              intro  hf H locs ls hH hS hl
              subst ek219
              refine lv_iconst X.1 X.2.1 dX12_freshen_219 (v := iI 1) rfl ?_
              refine lv_goto (tgt := 224) X.1 X.2.1 dX12_freshen_220 (by decide) ?_
              exact hk224 1 (by decide) hf _ _ _ hH hS (gLv_sub hl [0, 1, 2] rfl)
            clear ek219
            refine g_icmp_ne X nd199 (nmI_l (by decide)) (tgt := 219) dX12_freshen_201 (by decide) (fun hc201 => ?_) (fun hc201 => ?_)
            · replace hf := it_f hf hc201
              exact hk219  hf _ _ _ hH hS (gLv_sub hl [0, 1, 2] rfl)
            · replace hf := it_t hf hc201
              refine lv_aload_n X.1 X.2.1 dX12_freshen_204 rfl (lv_at hl.1 0 rfl) ?_
              refine g_get X cX12 hH (r := 29) (i := 0) (by decide) rfl 51 (by decide) k_1261 rfl (v := .ref (gAd G 70 0)) rfl dX12_freshen_205 ?_
              refine lv_iconst X.1 X.2.1 dX12_freshen_208 (v := iI 4) rfl ?_
              refine lv_iload_n X.1 X.2.1 dX12_freshen_209 rfl (lv_at hl.1 1 rfl) ?_
              refine g_imul X dX12_freshen_210 ?_
              refine lv_iload_n X.1 X.2.1 dX12_freshen_211 rfl (lv_at hl.1 2 rfl) ?_
              refine g_iadd X dX12_freshen_212 ?_
              obtain ⟨hg, hf_⟩ := og_e hf; clear hf; have hf := hf_; clear hf_
              have nd213 : nmI ((gU M_47_139 70 0 (wI ((wI (4 * z1)) + x2)).toNat xs2_177) 70 0 (wI ((wI (4 * z1)) + x2)).toNat) := hH.1.1 _ _ _
              refine g_iald X hH (r := 70) (i := 0) (by decide) rfl (nmI_w _) hg (v := (gU M_47_139 70 0 (wI ((wI (4 * z1)) + x2)).toNat xs2_177) 70 0 (wI ((wI (4 * z1)) + x2)).toNat) rfl dX12_freshen_213 ?_
              refine lv_iconst X.1 X.2.1 dX12_freshen_214 (v := iI 4) rfl ?_
              refine g_irem X nd213 (nmI_l (by decide)) (by decide) dX12_freshen_215 ?_
              refine g_if_eq X (nmI_rem _ _) (tgt := 223) dX12_freshen_216 (by decide) (fun hc216 => ?_) (fun hc216 => ?_)
              · replace hf := it_t hf hc216
                exact hk223  hf _ _ _ hH hS (gLv_sub hl [0, 1, 2] rfl)
              · replace hf := it_f hf hc216
                exact hk219  hf _ _ _ hH hS (gLv_sub hl [0, 1, 2] rfl)
        clear ek177
        refine g_icmp_ne X nr142 (nmI_l (by decide)) (tgt := 166) dX12_freshen_159 (by decide) (fun hc159 => ?_) (fun hc159 => ?_)
        · replace hf := it_f hf hc159
          refine lv_iload_n X.1 X.2.1 dX12_freshen_166 rfl (lv_at hl.1 4 rfl) ?_
          refine lv_aload_n X.1 X.2.1 dX12_freshen_167 rfl (lv_at hl.1 1 rfl) ?_
          refine g_get X cX12 hH (r := 29) (i := 0) (by decide) rfl 50 (by decide) k_1260 rfl (v := .ref (gAd G 69 0)) rfl dX12_freshen_168 ?_
          refine lv_iload X.1 X.2.1 dX12_freshen_171 (lv_at hl.1 0 rfl) ?_
          obtain ⟨hg, hf_⟩ := og_e hf; clear hf; have hf := hf_; clear hf_
          have nd173 : nmI (M_47_139 69 0 r142.toNat) := hH.1.1 _ _ _
          refine g_iald X hH (r := 69) (i := 0) (by decide) rfl nr142 hg (v := M_47_139 69 0 r142.toNat) rfl dX12_freshen_173 ?_
          refine gGoI (gRunS X hH (As := [.int (iI y3_47_139), .int (iI (M_47_139 69 0 r142.toNat))]) (m_X12_put l G y3_47_139 ny3_47_139 (M_47_139 69 0 r142.toNat) nd173 M_47_139 _ rfl) calX12_put k_1449 k_1448 ⟨by decide, by decide⟩ rfl hl rfl (Nat.le_of_ble_eq_true rfl) ⟨Nat.le_of_ble_eq_true rfl, Nat.le_of_ble_eq_true rfl⟩ dX12_freshen_174) hS (fun H locs nr174 hH hS => ?_)
          exact hk177 ((f_X12_put y3_47_139 (M_47_139 69 0 r142.toNat) M_47_139)) nr174 hf _ _ _ hH hS (gLv_sub hl [1, 2, 3, 4] rfl)
        · replace hf := it_t hf hc159
          refine lv_iload_n X.1 X.2.1 dX12_freshen_162 rfl (lv_at hl.1 4 rfl) ?_
          refine lv_goto (tgt := 177) X.1 X.2.1 dX12_freshen_163 (by decide) ?_
          exact hk177 y3_47_139 ny3_47_139 hf _ _ _ hH hS (gLv_sub hl [1, 2, 3, 4] rfl)
theorem w_X12_freshen_L2 {G : gG} {p : Program} {l : Launch} {e : Env} {s : State} {m : MethodId} {args : Array Value} {below : List Frame} {meth : Method} {c : Code} (X : gX G p s m args meth c RX12 cX12_freshen 6 none (gWs yX12_freshen cX12_freshen 6 none)) (k263 : gM → Option gM) (q : gM) (hk263 : ∀  (M : gM), k263 M = some q → ∀ (H : Heap) (locs : List Loc) (ls : Array Slot), gH G M H → va_S (gA G) s.heap H locs → gLv ls 6 [] → W p l e { frames := 2, cells := 0, slots := 0, locals := 44 } s m args below meth c H locs 0 0 (MQ below (gQv G q) args s 0 0 (gA G)) (F0 m 263 ls [])) : ∀ (n : Nat) (x1 : Int) (nx1 : nmI x1) (M : gM), f_X12_freshen_L2 k263 n x1 M = some q → ∀ (H : Heap) (locs : List Loc) (ls : Array Slot), gH G M H → va_S (gA G) s.heap H locs → gLv ls 6 [(0, .ref (gAd G 29 0)), (1, .int (iI x1))] → W p l e { frames := 2, cells := 0, slots := 0, locals := 44 } s m args below meth c H locs 0 0 (MQ below (gQv G q) args s 0 0 (gA G)) (F0 m 2 ls []) := by
  intro n
  induction n with
  | zero =>
    intro x1 nx1 M hf
    cases hf
  | succ n ih =>
    intro x1 nx1 M hf H locs ls hH hS hl
    rw [f_X12_freshen_L2] at hf
    refine lv_iload_n X.1 X.2.1 dX12_freshen_2 rfl (lv_at hl.1 1 rfl) ?_
    refine lv_aload_n X.1 X.2.1 dX12_freshen_3 rfl (lv_at hl.1 0 rfl) ?_
    have nd4 : nmI (M 29 0 7) := hH.1.1 _ _ _
    refine g_get X cX12 hH (r := 29) (i := 0) (by decide) rfl 7 (by decide) k_1217 rfl (v := .int (iI (M 29 0 7))) rfl dX12_freshen_4 ?_
    refine g_icmp_ge X nx1 nd4 (tgt := 263) dX12_freshen_7 (by decide) (fun hc7 => ?_) (fun hc7 => ?_)
    · replace hf := it_f hf hc7
      exact hk263 M hf _ _ _ hH hS (gLv_sub hl [] rfl)
    · replace hf := it_t hf hc7
      refine lv_aload_n X.1 X.2.1 dX12_freshen_10 rfl (lv_at hl.1 0 rfl) ?_
      refine g_get X cX12 hH (r := 29) (i := 0) (by decide) rfl 53 (by decide) k_1263 rfl (v := .ref (gAd G 72 0)) rfl dX12_freshen_11 ?_
      refine lv_iload_n X.1 X.2.1 dX12_freshen_14 rfl (lv_at hl.1 1 rfl) ?_
      refine lv_iconst X.1 X.2.1 dX12_freshen_15 (v := iI 1) rfl ?_
      obtain ⟨hg, hf_⟩ := og_e hf; clear hf; have hf := hf_; clear hf_
      refine g_zast X hH hS (r := 72) (i := 0) (by decide) (fun _ => rfl) nx1 hg (by decide) dX12_freshen_16 (fun H locs hH hS => ?_)
      refine lv_aload_n X.1 X.2.1 dX12_freshen_17 rfl (lv_at hl.1 0 rfl) ?_
      refine g_get X cX12 hH (r := 29) (i := 0) (by decide) rfl 52 (by decide) k_1262 rfl (v := .ref (gAd G 71 0)) rfl dX12_freshen_18 ?_
      refine lv_iload_n X.1 X.2.1 dX12_freshen_21 rfl (lv_at hl.1 1 rfl) ?_
      refine lv_bipush X.1 X.2.1 dX12_freshen_22 (v := iI 7) (by decide) ?_
      obtain ⟨hg, hf_⟩ := og_e hf; clear hf; have hf := hf_; clear hf_
      refine g_iast X hH hS (r := 71) (i := 0) (by decide) (fun _ => rfl) nx1 hg (nmI_l (by decide)) rfl (by decide) dX12_freshen_24 (fun H locs hH hS => ?_)
      refine lv_iconst X.1 X.2.1 dX12_freshen_25 (v := iI 0) rfl ?_
      refine g_istore_n X (lv' := [(2, .int (iI 0)), (0, .ref (gAd G 29 0)), (1, .int (iI x1))]) dX12_freshen_26 rfl hl (by decide) rfl (fun ls hl => ?_)
      refine w_X12_freshen_L27 X _ x1 nx1 q ?_ 64 0 (nmI_l (by decide)) (gU (gU M 72 0 x1.toNat 1) 71 0 x1.toNat 7) hf _ _ _ hH hS (gLv_sub hl [1, 2, 0] rfl)
      · intro  M_27_257 hf H locs ls hH hS hl
        refine g_iinc X (a := x1) (lv' := [(1, .int (iI (wI (x1 + 1)))), (0, .ref (gAd G 29 0))]) dX12_freshen_257 hl (k := 1) rfl (by decide) rfl (fun ls hl => ?_)
        refine lv_goto (tgt := 2) X.1 X.2.1 dX12_freshen_260 (by decide) ?_
        exact ih (wI (x1 + 1)) (nmI_w _) M_27_257 hf _ _ _ hH hS (gLv_sub hl [1, 0] rfl)
theorem m_X12_freshen (l : Launch) (G : gG)  (M : gM) (q : gM) (hf : f_X12_freshen M = some q) : gMet l yX12_freshen cX12_freshen 6 none 2 44 G M [.ref (gAd G 29 0)] (gQv G q) := by
  refine gOfW (by decide) (by show _ ≤ 6; exact Nat.le_of_ble_eq_true rfl) rfl ?_
  intro p e s m below meth c X hH ls hl
  replace hl : gLv ls 6 [(0, .ref (gAd G 29 0))] := hl
  have hS : va_S (gA G) s.heap s.heap [] := va_S.rf
  generalize hargs : ([.ref (gAd G 29 0)] : List Value).toArray = args at X ⊢
  clear hargs
  unfold f_X12_freshen at hf
  refine lv_iconst X.1 X.2.1 dX12_freshen_0 (v := iI 0) rfl ?_
  refine g_istore_n X (lv' := [(1, .int (iI 0)), (0, .ref (gAd G 29 0))]) dX12_freshen_1 rfl hl (by decide) rfl (fun ls hl => ?_)
  refine w_X12_freshen_L2 X _  q ?_ 64 0 (nmI_l (by decide)) M hf _ _ _ hH hS (gLv_sub hl [1, 0] rfl)
  · intro  M_2_263 hf H locs ls hH hS hl
    have hq := Option.some.inj hf; subst hq
    exact gRetV X hH hS dX12_freshen_263
theorem w_X12_freshenNow_L2 {G : gG} {p : Program} {l : Launch} {e : Env} {s : State} {m : MethodId} {args : Array Value} {below : List Frame} {meth : Method} {c : Code} (X : gX G p s m args meth c RX12 cX12_freshenNow 2 none (gWs yX12_freshenNow cX12_freshenNow 2 none)) (k26 : gM → Option gM) (q : gM) (hk26 : ∀  (M : gM), k26 M = some q → ∀ (H : Heap) (locs : List Loc) (ls : Array Slot), gH G M H → va_S (gA G) s.heap H locs → gLv ls 2 [(0, .ref (gAd G 29 0))] → W p l e { frames := 3, cells := 0, slots := 0, locals := 69 } s m args below meth c H locs 0 0 (MQ below (gQv G q) args s 0 0 (gA G)) (F0 m 26 ls [])) : ∀ (n : Nat) (x1 : Int) (nx1 : nmI x1) (M : gM), f_X12_freshenNow_L2 k26 n x1 M = some q → ∀ (H : Heap) (locs : List Loc) (ls : Array Slot), gH G M H → va_S (gA G) s.heap H locs → gLv ls 2 [(0, .ref (gAd G 29 0)), (1, .int (iI x1))] → W p l e { frames := 3, cells := 0, slots := 0, locals := 69 } s m args below meth c H locs 0 0 (MQ below (gQv G q) args s 0 0 (gA G)) (F0 m 2 ls []) := by
  intro n
  induction n with
  | zero =>
    intro x1 nx1 M hf
    cases hf
  | succ n ih =>
    intro x1 nx1 M hf H locs ls hH hS hl
    rw [f_X12_freshenNow_L2] at hf
    refine lv_iload_n X.1 X.2.1 dX12_freshenNow_2 rfl (lv_at hl.1 1 rfl) ?_
    refine lv_bipush X.1 X.2.1 dX12_freshenNow_3 (v := iI 16) (by decide) ?_
    refine g_icmp_ge X nx1 (nmI_l (by decide)) (tgt := 26) dX12_freshenNow_5 (by decide) (fun hc5 => ?_) (fun hc5 => ?_)
    · replace hf := it_f hf hc5
      exact hk26 M hf _ _ _ hH hS (gLv_sub hl [0] rfl)
    · replace hf := it_t hf hc5
      refine lv_aload_n X.1 X.2.1 dX12_freshenNow_8 rfl (lv_at hl.1 0 rfl) ?_
      refine g_get X cX12 hH (r := 29) (i := 0) (by decide) rfl 50 (by decide) k_1260 rfl (v := .ref (gAd G 69 0)) rfl dX12_freshenNow_9 ?_
      refine lv_iload_n X.1 X.2.1 dX12_freshenNow_12 rfl (lv_at hl.1 1 rfl) ?_
      refine lv_aload_n X.1 X.2.1 dX12_freshenNow_13 rfl (lv_at hl.1 0 rfl) ?_
      refine g_get X cX12 hH (r := 29) (i := 0) (by decide) rfl 1 (by decide) k_1211 rfl (v := .ref (gAd G 30 0)) rfl dX12_freshenNow_14 ?_
      refine lv_iload_n X.1 X.2.1 dX12_freshenNow_17 rfl (lv_at hl.1 1 rfl) ?_
      obtain ⟨hg, hf_⟩ := og_e hf; clear hf; have hf := hf_; clear hf_
      have nd18 : nmI (M 30 0 x1.toNat) := hH.1.1 _ _ _
      refine g_iald X hH (r := 30) (i := 0) (by decide) rfl nx1 hg (v := M 30 0 x1.toNat) rfl dX12_freshenNow_18 ?_
      obtain ⟨hg, hf_⟩ := og_e hf; clear hf; have hf := hf_; clear hf_
      refine g_iast X hH hS (r := 69) (i := 0) (by decide) (fun _ => rfl) nx1 hg nd18 rfl (by decide) dX12_freshenNow_19 (fun H locs hH hS => ?_)
      refine g_iinc X (a := x1) (lv' := [(1, .int (iI (wI (x1 + 1)))), (0, .ref (gAd G 29 0))]) dX12_freshenNow_20 hl (k := 1) rfl (by decide) rfl (fun ls hl => ?_)
      refine lv_goto (tgt := 2) X.1 X.2.1 dX12_freshenNow_23 (by decide) ?_
      exact ih (wI (x1 + 1)) (nmI_w _) (gU M 69 0 x1.toNat (M 30 0 x1.toNat)) hf _ _ _ hH hS (gLv_sub hl [1, 0] rfl)
theorem m_X12_freshenNow (l : Launch) (G : gG)  (M : gM) (q : gM) (hf : f_X12_freshenNow M = some q) : gMet l yX12_freshenNow cX12_freshenNow 2 none 3 69 G M [.ref (gAd G 29 0)] (gQv G q) := by
  refine gOfW (by decide) (by show _ ≤ 2; exact Nat.le_of_ble_eq_true rfl) rfl ?_
  intro p e s m below meth c X hH ls hl
  replace hl : gLv ls 2 [(0, .ref (gAd G 29 0))] := hl
  have hS : va_S (gA G) s.heap s.heap [] := va_S.rf
  generalize hargs : ([.ref (gAd G 29 0)] : List Value).toArray = args at X ⊢
  clear hargs
  unfold f_X12_freshenNow at hf
  refine lv_iconst X.1 X.2.1 dX12_freshenNow_0 (v := iI 0) rfl ?_
  refine g_istore_n X (lv' := [(1, .int (iI 0)), (0, .ref (gAd G 29 0))]) dX12_freshenNow_1 rfl hl (by decide) rfl (fun ls hl => ?_)
  refine w_X12_freshenNow_L2 X _  q ?_ 64 0 (nmI_l (by decide)) M hf _ _ _ hH hS (gLv_sub hl [1, 0] rfl)
  · intro  M_2_26 hf H locs ls hH hS hl
    refine lv_aload_n X.1 X.2.1 dX12_freshenNow_26 rfl (lv_at hl.1 0 rfl) ?_
    obtain ⟨r27, hq27, hf_⟩ := ob_e hf; clear hf; have hf := hf_; clear hf_
    refine gGoV (gRunV X hH (As := []) (m_X12_freshen l G  M_2_26 _ hq27) calX12_freshen k_1583 k_59 k_1581 (by decide) cX12 rfl ⟨by decide, by decide⟩ rfl hl rfl (Nat.le_of_ble_eq_true rfl) ⟨Nat.le_of_ble_eq_true rfl, Nat.le_of_ble_eq_true rfl⟩ dX12_freshenNow_27) hS (fun H locs hH hS => ?_)
    have hq := Option.some.inj hf; subst hq
    exact gRetV X hH hS dX12_freshenNow_30
theorem w_X12_isDone_L8 {G : gG} {p : Program} {l : Launch} {e : Env} {s : State} {m : MethodId} {args : Array Value} {below : List Frame} {meth : Method} {c : Code} (X : gX G p s m args meth c RX12 cX12_isDone 4 (some .boolean) (gWs yX12_isDone cX12_isDone 4 (some .boolean))) (k46 : Int → Option (Int)) (z1 : Int) (nz1 : nmI z1) (M : gM) (q : (Int)) (hk46 : ∀ (x2 : Int) (bx2 : x2 = 0 ∨ x2 = 1), k46 x2 = some q → ∀ (H : Heap) (locs : List Loc) (ls : Array Slot), gH G M H → va_S (gA G) s.heap H locs → gLv ls 4 [(2, .int (iI x2))] → W p l e { frames := 1, cells := 0, slots := 0, locals := 21 } s m args below meth c H locs 0 0 (MQ below (gQz G q M) args s 0 0 (gA G)) (F0 m 46 ls [])) : ∀ (n : Nat) (x2 : Int) (bx2 : x2 = 0 ∨ x2 = 1) (x3 : Int) (nx3 : nmI x3), f_X12_isDone_L8 k46 z1 M n x2 x3 = some q → ∀ (H : Heap) (locs : List Loc) (ls : Array Slot), gH G M H → va_S (gA G) s.heap H locs → gLv ls 4 [(0, .ref (gAd G 29 0)), (1, .int (iI z1)), (2, .int (iI x2)), (3, .int (iI x3))] → W p l e { frames := 1, cells := 0, slots := 0, locals := 21 } s m args below meth c H locs 0 0 (MQ below (gQz G q M) args s 0 0 (gA G)) (F0 m 8 ls []) := by
  intro n
  induction n with
  | zero =>
    intro x2 bx2 x3 nx3 hf
    cases hf
  | succ n ih =>
    intro x2 bx2 x3 nx3 hf H locs ls hH hS hl
    rw [f_X12_isDone_L8] at hf
    refine lv_iload_n X.1 X.2.1 dX12_isDone_8 rfl (lv_at hl.1 3 rfl) ?_
    refine lv_aload_n X.1 X.2.1 dX12_isDone_9 rfl (lv_at hl.1 0 rfl) ?_
    refine g_get X cX12 hH (r := 29) (i := 0) (by decide) rfl 11 (by decide) k_1221 rfl (v := .ref (gAd G 38 0)) rfl dX12_isDone_10 ?_
    refine lv_iload_n X.1 X.2.1 dX12_isDone_13 rfl (lv_at hl.1 1 rfl) ?_
    obtain ⟨hg, hf_⟩ := og_e hf; clear hf; have hf := hf_; clear hf_
    have nd14 : nmI (M 38 0 z1.toNat) := hH.1.1 _ _ _
    refine g_iald X hH (r := 38) (i := 0) (by decide) rfl nz1 hg (v := M 38 0 z1.toNat) rfl dX12_isDone_14 ?_
    refine g_icmp_ge X nx3 nd14 (tgt := 46) dX12_isDone_15 (by decide) (fun hc15 => ?_) (fun hc15 => ?_)
    · replace hf := it_f hf hc15
      exact hk46 x2 bx2 hf _ _ _ hH hS (gLv_sub hl [2] rfl)
    · replace hf := it_t hf hc15
      refine lv_iload_n X.1 X.2.1 dX12_isDone_18 rfl (lv_at hl.1 2 rfl) ?_
      refine lv_aload_n X.1 X.2.1 dX12_isDone_19 rfl (lv_at hl.1 0 rfl) ?_
      refine g_get X cX12 hH (r := 29) (i := 0) (by decide) rfl 38 (by decide) k_1248 rfl (v := .ref (gAd G 60 0)) rfl dX12_isDone_20 ?_
      refine lv_iconst X.1 X.2.1 dX12_isDone_23 (v := iI 4) rfl ?_
      refine lv_iload_n X.1 X.2.1 dX12_isDone_24 rfl (lv_at hl.1 1 rfl) ?_
      refine g_imul X dX12_isDone_25 ?_
      refine lv_iload_n X.1 X.2.1 dX12_isDone_26 rfl (lv_at hl.1 3 rfl) ?_
      refine g_iadd X dX12_isDone_27 ?_
      obtain ⟨hg, hf_⟩ := og_e hf; clear hf; have hf := hf_; clear hf_
      have nd28 : nmI (M 60 0 (wI ((wI (4 * z1)) + x3)).toNat) := hH.1.1 _ _ _
      refine g_iald X hH (r := 60) (i := 0) (by decide) rfl (nmI_w _) hg (v := M 60 0 (wI ((wI (4 * z1)) + x3)).toNat) rfl dX12_isDone_28 ?_
      refine lv_iconst X.1 X.2.1 dX12_isDone_29 (v := iI 3) rfl ?_
      obtain ⟨k38, ek38, hf_⟩ := oj_e hf; clear hf; have hf := hf_; clear hf_
      have hk38 : ∀ (xs1_38 : Int) (bxs1_38 : xs1_38 = 0 ∨ xs1_38 = 1), k38 xs1_38 = some q → ∀ (H : Heap) (locs : List Loc) (ls : Array Slot), gH G M H → va_S (gA G) s.heap H locs → gLv ls 4 [(0, .ref (gAd G 29 0)), (1, .int (iI z1)), (3, .int (iI x3))] → W p l e { frames := 1, cells := 0, slots := 0, locals := 21 } s m args below meth c H locs 0 0 (MQ below (gQz G q M) args s 0 0 (gA G)) (F0 m 38 ls [.int (iI xs1_38), .int (iI x2)]) := by
        intro xs1_38 bxs1_38 hf H locs ls hH hS hl
        subst ek38
        refine g_iand X dX12_isDone_38 ?_
        refine g_istore_n X (lv' := [(2, .int (iI (gAnd x2 xs1_38))), (0, .ref (gAd G 29 0)), (1, .int (iI z1)), (3, .int (iI x3))]) dX12_isDone_39 rfl hl (by decide) rfl (fun ls hl => ?_)
        refine g_iinc X (a := x3) (lv' := [(3, .int (iI (wI (x3 + 1)))), (2, .int (iI (gAnd x2 xs1_38))), (0, .ref (gAd G 29 0)), (1, .int (iI z1))]) dX12_isDone_40 hl (k := 3) rfl (by decide) rfl (fun ls hl => ?_)
        refine lv_goto (tgt := 8) X.1 X.2.1 dX12_isDone_43 (by decide) ?_
        exact ih (gAnd x2 xs1_38) (b01_and bx2 bxs1_38) (wI (x3 + 1)) (nmI_w _) hf _ _ _ hH hS (gLv_sub hl [2, 3, 1, 0] rfl)
      clear ek38
      refine g_icmp_ne X nd28 (nmI_l (by decide)) (tgt := 37) dX12_isDone_30 (by decide) (fun hc30 => ?_) (fun hc30 => ?_)
      · replace hf := it_f hf hc30
        refine lv_iconst X.1 X.2.1 dX12_isDone_37 (v := iI 0) rfl ?_
        exact hk38 0 (by decide) hf _ _ _ hH hS (gLv_sub hl [0, 1, 3] rfl)
      · replace hf := it_t hf hc30
        refine lv_iconst X.1 X.2.1 dX12_isDone_33 (v := iI 1) rfl ?_
        refine lv_goto (tgt := 38) X.1 X.2.1 dX12_isDone_34 (by decide) ?_
        exact hk38 1 (by decide) hf _ _ _ hH hS (gLv_sub hl [0, 1, 3] rfl)
theorem m_X12_isDone (l : Launch) (G : gG) (v1 : Int) (nv1 : nmI v1) (M : gM) (q : (Int)) (hf : f_X12_isDone v1 M = some q) : gMet l yX12_isDone cX12_isDone 4 (some .boolean) 1 21 G M [.ref (gAd G 29 0), .int (iI v1)] (gQz G q M) := by
  refine gOfW (by decide) (by show _ ≤ 4; exact Nat.le_of_ble_eq_true rfl) rfl ?_
  intro p e s m below meth c X hH ls hl
  replace hl : gLv ls 4 [(0, .ref (gAd G 29 0)), (1, .int (iI v1))] := hl
  have hS : va_S (gA G) s.heap s.heap [] := va_S.rf
  generalize hargs : ([.ref (gAd G 29 0), .int (iI v1)] : List Value).toArray = args at X ⊢
  clear hargs
  unfold f_X12_isDone at hf
  refine lv_aload_n X.1 X.2.1 dX12_isDone_0 rfl (lv_at hl.1 0 rfl) ?_
  refine lv_iload_n X.1 X.2.1 dX12_isDone_1 rfl (lv_at hl.1 1 rfl) ?_
  refine gGoZ (gRunV X hH (As := [.int (iI v1)]) (m_X12_isNeeded l G v1 nv1 M _ rfl) calX12_isNeeded k_1487 k_40 k_1485 (by decide) cX12 rfl ⟨by decide, by decide⟩ rfl hl rfl (Nat.le_of_ble_eq_true rfl) ⟨Nat.le_of_ble_eq_true rfl, Nat.le_of_ble_eq_true rfl⟩ dX12_isDone_2) hS (fun H locs br2 hH hS => ?_)
  refine g_istore_n X (lv' := [(2, .int (iI ((f_X12_isNeeded v1 M)))), (0, .ref (gAd G 29 0)), (1, .int (iI v1))]) dX12_isDone_5 rfl hl (by decide) rfl (fun ls hl => ?_)
  refine lv_iconst X.1 X.2.1 dX12_isDone_6 (v := iI 0) rfl ?_
  refine g_istore_n X (lv' := [(3, .int (iI 0)), (2, .int (iI ((f_X12_isNeeded v1 M)))), (0, .ref (gAd G 29 0)), (1, .int (iI v1))]) dX12_isDone_7 rfl hl (by decide) rfl (fun ls hl => ?_)
  refine w_X12_isDone_L8 X _ v1 nv1 M q ?_ 64 ((f_X12_isNeeded v1 M)) br2 0 (nmI_l (by decide)) hf _ _ _ hH hS (gLv_sub hl [2, 3, 1, 0] rfl)
  · intro y2_8_46 by2_8_46 hf H locs ls hH hS hl
    refine lv_iload_n X.1 X.2.1 dX12_isDone_46 rfl (lv_at hl.1 0 rfl) ?_
    have hq := Option.some.inj hf; subst hq
    exact gRetZ X hH hS (res := y2_8_46) by2_8_46 dX12_isDone_47
theorem w_X12_isSound_L49 {G : gG} {p : Program} {l : Launch} {e : Env} {s : State} {m : MethodId} {args : Array Value} {below : List Frame} {meth : Method} {c : Code} (X : gX G p s m args meth c RX12 cX12_isSound 7 (some .boolean) (gWs yX12_isSound cX12_isSound 7 (some .boolean))) (k98 : Int → Option (Int)) (z2 : Int) (bz2 : z2 = 0 ∨ z2 = 1) (z3 : Int) (nz3 : nmI z3) (z5 : Int) (nz5 : nmI z5) (M : gM) (q : (Int)) (hk98 : ∀ (x4 : Int) (bx4 : x4 = 0 ∨ x4 = 1), k98 x4 = some q → ∀ (H : Heap) (locs : List Loc) (ls : Array Slot), gH G M H → va_S (gA G) s.heap H locs → gLv ls 7 [(0, .ref (gAd G 29 0)), (2, .int (iI z2)), (3, .int (iI z3)), (4, .int (iI x4)), (5, .int (iI z5))] → W p l e { frames := 2, cells := 0, slots := 0, locals := 48 } s m args below meth c H locs 0 0 (MQ below (gQz G q M) args s 0 0 (gA G)) (F0 m 98 ls [])) : ∀ (n : Nat) (x4 : Int) (bx4 : x4 = 0 ∨ x4 = 1) (x6 : Int) (nx6 : nmI x6), f_X12_isSound_L49 k98 z2 z3 z5 M n x4 x6 = some q → ∀ (H : Heap) (locs : List Loc) (ls : Array Slot), gH G M H → va_S (gA G) s.heap H locs → gLv ls 7 [(0, .ref (gAd G 29 0)), (2, .int (iI z2)), (3, .int (iI z3)), (4, .int (iI x4)), (5, .int (iI z5)), (6, .int (iI x6))] → W p l e { frames := 2, cells := 0, slots := 0, locals := 48 } s m args below meth c H locs 0 0 (MQ below (gQz G q M) args s 0 0 (gA G)) (F0 m 49 ls []) := by
  intro n
  induction n with
  | zero =>
    intro x4 bx4 x6 nx6 hf
    cases hf
  | succ n ih =>
    intro x4 bx4 x6 nx6 hf H locs ls hH hS hl
    rw [f_X12_isSound_L49] at hf
    refine lv_iload X.1 X.2.1 dX12_isSound_49 (lv_at hl.1 5 rfl) ?_
    refine lv_aload_n X.1 X.2.1 dX12_isSound_51 rfl (lv_at hl.1 0 rfl) ?_
    refine g_get X cX12 hH (r := 29) (i := 0) (by decide) rfl 11 (by decide) k_1221 rfl (v := .ref (gAd G 38 0)) rfl dX12_isSound_52 ?_
    refine lv_iload X.1 X.2.1 dX12_isSound_55 (lv_at hl.1 4 rfl) ?_
    obtain ⟨hg, hf_⟩ := og_e hf; clear hf; have hf := hf_; clear hf_
    have nd57 : nmI (M 38 0 z5.toNat) := hH.1.1 _ _ _
    refine g_iald X hH (r := 38) (i := 0) (by decide) rfl nz5 hg (v := M 38 0 z5.toNat) rfl dX12_isSound_57 ?_
    refine g_icmp_ge X nx6 nd57 (tgt := 98) dX12_isSound_58 (by decide) (fun hc58 => ?_) (fun hc58 => ?_)
    · replace hf := it_f hf hc58
      exact hk98 x4 bx4 hf _ _ _ hH hS (gLv_sub hl [0, 1, 2, 3, 4] rfl)
    · replace hf := it_t hf hc58
      refine lv_iload X.1 X.2.1 dX12_isSound_61 (lv_at hl.1 3 rfl) ?_
      refine g_if_eq X (nmI_b bx4) (tgt := 98) dX12_isSound_63 (by decide) (fun hc63 => ?_) (fun hc63 => ?_)
      · replace hf := it_t hf hc63
        exact hk98 x4 bx4 hf _ _ _ hH hS (gLv_sub hl [0, 1, 2, 3, 4] rfl)
      · replace hf := it_f hf hc63
        refine lv_iload_n X.1 X.2.1 dX12_isSound_66 rfl (lv_at hl.1 1 rfl) ?_
        obtain ⟨k90, ek90, hf_⟩ := oj_e hf; clear hf; have hf := hf_; clear hf_
        have hk90 : ∀ (xs0_90 : Int) (bxs0_90 : xs0_90 = 0 ∨ xs0_90 = 1), k90 xs0_90 = some q → ∀ (H : Heap) (locs : List Loc) (ls : Array Slot), gH G M H → va_S (gA G) s.heap H locs → gLv ls 7 [(0, .ref (gAd G 29 0)), (2, .int (iI z2)), (3, .int (iI z3)), (5, .int (iI z5)), (6, .int (iI x6))] → W p l e { frames := 2, cells := 0, slots := 0, locals := 48 } s m args below meth c H locs 0 0 (MQ below (gQz G q M) args s 0 0 (gA G)) (F0 m 90 ls [.int (iI xs0_90)]) := by
          intro xs0_90 bxs0_90 hf H locs ls hH hS hl
          subst ek90
          refine g_istore X (lv' := [(4, .int (iI xs0_90)), (0, .ref (gAd G 29 0)), (2, .int (iI z2)), (3, .int (iI z3)), (5, .int (iI z5)), (6, .int (iI x6))]) dX12_isSound_90 hl (by decide) rfl (fun ls hl => ?_)
          refine g_iinc X (a := x6) (lv' := [(6, .int (iI (wI (x6 + 1)))), (4, .int (iI xs0_90)), (0, .ref (gAd G 29 0)), (2, .int (iI z2)), (3, .int (iI z3)), (5, .int (iI z5))]) dX12_isSound_92 hl (k := 5) rfl (by decide) rfl (fun ls hl => ?_)
          refine lv_goto (tgt := 49) X.1 X.2.1 dX12_isSound_95 (by decide) ?_
          exact ih xs0_90 bxs0_90 (wI (x6 + 1)) (nmI_w _) hf _ _ _ hH hS (gLv_sub hl [2, 3, 4, 1, 5, 0] rfl)
        clear ek90
        obtain ⟨k85, ek85, hf_⟩ := oj_e hf; clear hf; have hf := hf_; clear hf_
        have hk85 : k85 = some q → ∀ (H : Heap) (locs : List Loc) (ls : Array Slot), gH G M H → va_S (gA G) s.heap H locs → gLv ls 7 [(0, .ref (gAd G 29 0)), (2, .int (iI z2)), (3, .int (iI z3)), (5, .int (iI z5)), (6, .int (iI x6))] → W p l e { frames := 2, cells := 0, slots := 0, locals := 48 } s m args below meth c H locs 0 0 (MQ below (gQz G q M) args s 0 0 (gA G)) (F0 m 85 ls []) := by
          intro  hf H locs ls hH hS hl
          subst ek85
          refine lv_iconst X.1 X.2.1 dX12_isSound_85 (v := iI 1) rfl ?_
          refine lv_goto (tgt := 90) X.1 X.2.1 dX12_isSound_86 (by decide) ?_
          exact hk90 1 (by decide) hf _ _ _ hH hS (gLv_sub hl [0, 1, 2, 3, 4] rfl)
        clear ek85
        refine g_if_ne X (nmI_b bz2) (tgt := 85) dX12_isSound_67 (by decide) (fun hc67 => ?_) (fun hc67 => ?_)
        · replace hf := it_f hf hc67
          exact hk85  hf _ _ _ hH hS (gLv_sub hl [0, 1, 2, 4, 5] rfl)
        · replace hf := it_t hf hc67
          refine lv_aload_n X.1 X.2.1 dX12_isSound_70 rfl (lv_at hl.1 0 rfl) ?_
          refine g_get X cX12 hH (r := 29) (i := 0) (by decide) rfl 42 (by decide) k_1252 rfl (v := .ref (gAd G 64 0)) rfl dX12_isSound_71 ?_
          refine lv_iconst X.1 X.2.1 dX12_isSound_74 (v := iI 4) rfl ?_
          refine lv_iload X.1 X.2.1 dX12_isSound_75 (lv_at hl.1 4 rfl) ?_
          refine g_imul X dX12_isSound_77 ?_
          refine lv_iload X.1 X.2.1 dX12_isSound_78 (lv_at hl.1 5 rfl) ?_
          refine g_iadd X dX12_isSound_80 ?_
          obtain ⟨hg, hf_⟩ := og_e hf; clear hf; have hf := hf_; clear hf_
          have nd81 : nmI (M 64 0 (wI ((wI (4 * z5)) + x6)).toNat) := hH.1.1 _ _ _
          have bd81 := hH.1.2.1 64 0 ((wI ((wI (4 * z5)) + x6)).toNat) rfl
          refine g_zald X hH (r := 64) (i := 0) (by decide) rfl (nmI_w _) hg (v := M 64 0 (wI ((wI (4 * z5)) + x6)).toNat) rfl dX12_isSound_81 ?_
          refine g_if_ne X nd81 (tgt := 89) dX12_isSound_82 (by decide) (fun hc82 => ?_) (fun hc82 => ?_)
          · replace hf := it_f hf hc82
            refine lv_iconst X.1 X.2.1 dX12_isSound_89 (v := iI 0) rfl ?_
            exact hk90 0 (by decide) hf _ _ _ hH hS (gLv_sub hl [0, 1, 2, 4, 5] rfl)
          · replace hf := it_t hf hc82
            exact hk85  hf _ _ _ hH hS (gLv_sub hl [0, 1, 2, 4, 5] rfl)
theorem w_X12_isSound_L14 {G : gG} {p : Program} {l : Launch} {e : Env} {s : State} {m : MethodId} {args : Array Value} {below : List Frame} {meth : Method} {c : Code} (X : gX G p s m args meth c RX12 cX12_isSound 7 (some .boolean) (gWs yX12_isSound cX12_isSound 7 (some .boolean))) (k104 : Int → Option (Int)) (z2 : Int) (bz2 : z2 = 0 ∨ z2 = 1) (z3 : Int) (nz3 : nmI z3) (M : gM) (q : (Int)) (hk104 : ∀ (x4 : Int) (bx4 : x4 = 0 ∨ x4 = 1), k104 x4 = some q → ∀ (H : Heap) (locs : List Loc) (ls : Array Slot), gH G M H → va_S (gA G) s.heap H locs → gLv ls 7 [(4, .int (iI x4))] → W p l e { frames := 2, cells := 0, slots := 0, locals := 48 } s m args below meth c H locs 0 0 (MQ below (gQz G q M) args s 0 0 (gA G)) (F0 m 104 ls [])) : ∀ (n : Nat) (x4 : Int) (bx4 : x4 = 0 ∨ x4 = 1) (x5 : Int) (nx5 : nmI x5), f_X12_isSound_L14 k104 z2 z3 M n x4 x5 = some q → ∀ (H : Heap) (locs : List Loc) (ls : Array Slot), gH G M H → va_S (gA G) s.heap H locs → gLv ls 7 [(0, .ref (gAd G 29 0)), (2, .int (iI z2)), (3, .int (iI z3)), (4, .int (iI x4)), (5, .int (iI x5))] → W p l e { frames := 2, cells := 0, slots := 0, locals := 48 } s m args below meth c H locs 0 0 (MQ below (gQz G q M) args s 0 0 (gA G)) (F0 m 14 ls []) := by
  intro n
  induction n with
  | zero =>
    intro x4 bx4 x5 nx5 hf
    cases hf
  | succ n ih =>
    intro x4 bx4 x5 nx5 hf H locs ls hH hS hl
    rw [f_X12_isSound_L14] at hf
    refine lv_iload X.1 X.2.1 dX12_isSound_14 (lv_at hl.1 4 rfl) ?_
    refine lv_aload_n X.1 X.2.1 dX12_isSound_16 rfl (lv_at hl.1 0 rfl) ?_
    have nd17 : nmI (M 29 0 7) := hH.1.1 _ _ _
    refine g_get X cX12 hH (r := 29) (i := 0) (by decide) rfl 7 (by decide) k_1217 rfl (v := .int (iI (M 29 0 7))) rfl dX12_isSound_17 ?_
    refine g_icmp_ge X nx5 nd17 (tgt := 104) dX12_isSound_20 (by decide) (fun hc20 => ?_) (fun hc20 => ?_)
    · replace hf := it_f hf hc20
      exact hk104 x4 bx4 hf _ _ _ hH hS (gLv_sub hl [3] rfl)
    · replace hf := it_t hf hc20
      refine lv_iload X.1 X.2.1 dX12_isSound_23 (lv_at hl.1 3 rfl) ?_
      refine g_if_eq X (nmI_b bx4) (tgt := 104) dX12_isSound_25 (by decide) (fun hc25 => ?_) (fun hc25 => ?_)
      · replace hf := it_t hf hc25
        exact hk104 x4 bx4 hf _ _ _ hH hS (gLv_sub hl [3] rfl)
      · replace hf := it_f hf hc25
        refine lv_iload_n X.1 X.2.1 dX12_isSound_28 rfl (lv_at hl.1 2 rfl) ?_
        refine lv_iload X.1 X.2.1 dX12_isSound_29 (lv_at hl.1 4 rfl) ?_
        refine g_ishr X dX12_isSound_31 ?_
        refine lv_iconst X.1 X.2.1 dX12_isSound_32 (v := iI 1) rfl ?_
        refine g_iand X dX12_isSound_33 ?_
        refine lv_iconst X.1 X.2.1 dX12_isSound_34 (v := iI 1) rfl ?_
        obtain ⟨k98, ek98, hf_⟩ := oj_e hf; clear hf; have hf := hf_; clear hf_
        have hk98 : ∀ (x4_98 : Int) (bx4_98 : x4_98 = 0 ∨ x4_98 = 1), k98 x4_98 = some q → ∀ (H : Heap) (locs : List Loc) (ls : Array Slot), gH G M H → va_S (gA G) s.heap H locs → gLv ls 7 [(0, .ref (gAd G 29 0)), (2, .int (iI z2)), (3, .int (iI z3)), (4, .int (iI x4_98)), (5, .int (iI x5))] → W p l e { frames := 2, cells := 0, slots := 0, locals := 48 } s m args below meth c H locs 0 0 (MQ below (gQz G q M) args s 0 0 (gA G)) (F0 m 98 ls []) := by
          intro x4_98 bx4_98 hf H locs ls hH hS hl
          subst ek98
          refine g_iinc X (a := x5) (lv' := [(5, .int (iI (wI (x5 + 1)))), (0, .ref (gAd G 29 0)), (2, .int (iI z2)), (3, .int (iI z3)), (4, .int (iI x4_98))]) dX12_isSound_98 hl (k := 4) rfl (by decide) rfl (fun ls hl => ?_)
          refine lv_goto (tgt := 14) X.1 X.2.1 dX12_isSound_101 (by decide) ?_
          exact ih x4_98 bx4_98 (wI (x5 + 1)) (nmI_w _) hf _ _ _ hH hS (gLv_sub hl [1, 2, 3, 4, 0] rfl)
        clear ek98
        refine g_icmp_ne X (nmI_and _ _) (nmI_l (by decide)) (tgt := 98) dX12_isSound_35 (by decide) (fun hc35 => ?_) (fun hc35 => ?_)
        · replace hf := it_f hf hc35
          exact hk98 x4 bx4 hf _ _ _ hH hS (gLv_sub hl [0, 1, 2, 3, 4] rfl)
        · replace hf := it_t hf hc35
          refine lv_aload_n X.1 X.2.1 dX12_isSound_38 rfl (lv_at hl.1 0 rfl) ?_
          refine lv_iload X.1 X.2.1 dX12_isSound_39 (lv_at hl.1 4 rfl) ?_
          obtain ⟨r41, hq41, hf_⟩ := ob_e hf; clear hf; have hf := hf_; clear hf_
          refine gGoZ (gRunV X hH (As := [.int (iI x5)]) (m_X12_isDone l G x5 nx5 M _ hq41) calX12_isDone k_1591 k_61 k_1589 (by decide) cX12 rfl ⟨by decide, by decide⟩ rfl hl rfl (Nat.le_of_ble_eq_true rfl) ⟨Nat.le_of_ble_eq_true rfl, Nat.le_of_ble_eq_true rfl⟩ dX12_isSound_41) hS (fun H locs br41 hH hS => ?_)
          refine g_istore X (lv' := [(4, .int (iI r41)), (0, .ref (gAd G 29 0)), (2, .int (iI z2)), (3, .int (iI z3)), (5, .int (iI x5))]) dX12_isSound_44 hl (by decide) rfl (fun ls hl => ?_)
          refine lv_iconst X.1 X.2.1 dX12_isSound_46 (v := iI 0) rfl ?_
          refine g_istore X (lv' := [(6, .int (iI 0)), (4, .int (iI r41)), (0, .ref (gAd G 29 0)), (2, .int (iI z2)), (3, .int (iI z3)), (5, .int (iI x5))]) dX12_isSound_47 hl (by decide) rfl (fun ls hl => ?_)
          refine w_X12_isSound_L49 X _ z2 bz2 z3 nz3 x5 nx5 M q ?_ 64 r41 br41 0 (nmI_l (by decide)) hf _ _ _ hH hS (gLv_sub hl [2, 3, 4, 1, 5, 0] rfl)
          · intro y4_49_98 by4_49_98 hf H locs ls hH hS hl
            exact hk98 y4_49_98 by4_49_98 hf _ _ _ hH hS (gLv_sub hl [0, 1, 2, 3, 4] rfl)
theorem m_X12_isSound (l : Launch) (G : gG) (v1 : Int) (nv1 : nmI v1) (v2 : Int) (bv2 : v2 = 0 ∨ v2 = 1) (M : gM) (q : (Int)) (hf : f_X12_isSound v1 v2 M = some q) : gMet l yX12_isSound cX12_isSound 7 (some .boolean) 2 48 G M [.ref (gAd G 29 0), .int (iI v1), .int (iI v2)] (gQz G q M) := by
  refine gOfW (by decide) (by show _ ≤ 7; exact Nat.le_of_ble_eq_true rfl) rfl ?_
  intro p e s m below meth c X hH ls hl
  replace hl : gLv ls 7 [(0, .ref (gAd G 29 0)), (1, .int (iI v1)), (2, .int (iI v2))] := hl
  have hS : va_S (gA G) s.heap s.heap [] := va_S.rf
  generalize hargs : ([.ref (gAd G 29 0), .int (iI v1), .int (iI v2)] : List Value).toArray = args at X ⊢
  clear hargs
  unfold f_X12_isSound at hf
  refine lv_aload_n X.1 X.2.1 dX12_isSound_0 rfl (lv_at hl.1 0 rfl) ?_
  refine lv_iconst X.1 X.2.1 dX12_isSound_1 (v := iI 1) rfl ?_
  refine lv_iload_n X.1 X.2.1 dX12_isSound_2 rfl (lv_at hl.1 1 rfl) ?_
  refine g_ishl X dX12_isSound_3 ?_
  obtain ⟨r4, hq4, hf_⟩ := ob_e hf; clear hf; have hf := hf_; clear hf_
  refine gGoI (gRunV X hH (As := [.int (iI (gShl 1 v1))]) (m_X12_neededBy l G (gShl 1 v1) (nmI_shl _ _) M _ hq4) calX12_neededBy k_1479 k_38 k_1477 (by decide) cX12 rfl ⟨by decide, by decide⟩ rfl hl rfl (Nat.le_of_ble_eq_true rfl) ⟨Nat.le_of_ble_eq_true rfl, Nat.le_of_ble_eq_true rfl⟩ dX12_isSound_4) hS (fun H locs nr4 hH hS => ?_)
  refine g_istore_n X (lv' := [(3, .int (iI r4)), (0, .ref (gAd G 29 0)), (1, .int (iI v1)), (2, .int (iI v2))]) dX12_isSound_7 rfl hl (by decide) rfl (fun ls hl => ?_)
  refine lv_iconst X.1 X.2.1 dX12_isSound_8 (v := iI 1) rfl ?_
  refine g_istore X (lv' := [(4, .int (iI 1)), (3, .int (iI r4)), (0, .ref (gAd G 29 0)), (1, .int (iI v1)), (2, .int (iI v2))]) dX12_isSound_9 hl (by decide) rfl (fun ls hl => ?_)
  refine lv_iconst X.1 X.2.1 dX12_isSound_11 (v := iI 0) rfl ?_
  refine g_istore X (lv' := [(5, .int (iI 0)), (4, .int (iI 1)), (3, .int (iI r4)), (0, .ref (gAd G 29 0)), (1, .int (iI v1)), (2, .int (iI v2))]) dX12_isSound_12 hl (by decide) rfl (fun ls hl => ?_)
  refine w_X12_isSound_L14 X _ v2 bv2 r4 nr4 M q ?_ 64 1 (by decide) 0 (nmI_l (by decide)) hf _ _ _ hH hS (gLv_sub hl [3, 5, 2, 1, 0] rfl)
  · intro y4_14_104 by4_14_104 hf H locs ls hH hS hl
    refine lv_iload X.1 X.2.1 dX12_isSound_104 (lv_at hl.1 0 rfl) ?_
    have hq := Option.some.inj hf; subst hq
    exact gRetZ X hH hS (res := y4_14_104) by4_14_104 dX12_isSound_106
theorem w_X12_isStale_L8 {G : gG} {p : Program} {l : Launch} {e : Env} {s : State} {m : MethodId} {args : Array Value} {below : List Frame} {meth : Method} {c : Code} (X : gX G p s m args meth c RX12 cX12_isStale 4 (some .boolean) (gWs yX12_isStale cX12_isStale 4 (some .boolean))) (k55 : Int → Option (Int × gM)) (z1 : Int) (nz1 : nmI z1) (M : gM) (q : (Int × gM)) (hk55 : ∀ (x2 : Int) (bx2 : x2 = 0 ∨ x2 = 1), k55 x2 = some q → ∀ (H : Heap) (locs : List Loc) (ls : Array Slot), gH G M H → va_S (gA G) s.heap H locs → gLv ls 4 [(0, .ref (gAd G 29 0)), (1, .int (iI z1)), (2, .int (iI x2))] → W p l e { frames := 4, cells := 0, slots := 0, locals := 90 } s m args below meth c H locs 0 0 (MQ below (gQz G q.1 q.2) args s 0 0 (gA G)) (F0 m 55 ls [])) : ∀ (n : Nat) (x2 : Int) (bx2 : x2 = 0 ∨ x2 = 1) (x3 : Int) (nx3 : nmI x3), f_X12_isStale_L8 k55 z1 M n x2 x3 = some q → ∀ (H : Heap) (locs : List Loc) (ls : Array Slot), gH G M H → va_S (gA G) s.heap H locs → gLv ls 4 [(0, .ref (gAd G 29 0)), (1, .int (iI z1)), (2, .int (iI x2)), (3, .int (iI x3))] → W p l e { frames := 4, cells := 0, slots := 0, locals := 90 } s m args below meth c H locs 0 0 (MQ below (gQz G q.1 q.2) args s 0 0 (gA G)) (F0 m 8 ls []) := by
  intro n
  induction n with
  | zero =>
    intro x2 bx2 x3 nx3 hf
    cases hf
  | succ n ih =>
    intro x2 bx2 x3 nx3 hf H locs ls hH hS hl
    rw [f_X12_isStale_L8] at hf
    refine lv_iload_n X.1 X.2.1 dX12_isStale_8 rfl (lv_at hl.1 3 rfl) ?_
    refine lv_aload_n X.1 X.2.1 dX12_isStale_9 rfl (lv_at hl.1 0 rfl) ?_
    refine g_get X cX12 hH (r := 29) (i := 0) (by decide) rfl 11 (by decide) k_1221 rfl (v := .ref (gAd G 38 0)) rfl dX12_isStale_10 ?_
    refine lv_iload_n X.1 X.2.1 dX12_isStale_13 rfl (lv_at hl.1 1 rfl) ?_
    obtain ⟨hg, hf_⟩ := og_e hf; clear hf; have hf := hf_; clear hf_
    have nd14 : nmI (M 38 0 z1.toNat) := hH.1.1 _ _ _
    refine g_iald X hH (r := 38) (i := 0) (by decide) rfl nz1 hg (v := M 38 0 z1.toNat) rfl dX12_isStale_14 ?_
    refine g_icmp_ge X nx3 nd14 (tgt := 55) dX12_isStale_15 (by decide) (fun hc15 => ?_) (fun hc15 => ?_)
    · replace hf := it_f hf hc15
      exact hk55 x2 bx2 hf _ _ _ hH hS (gLv_sub hl [0, 1, 2] rfl)
    · replace hf := it_t hf hc15
      refine lv_iload_n X.1 X.2.1 dX12_isStale_18 rfl (lv_at hl.1 2 rfl) ?_
      refine lv_aload_n X.1 X.2.1 dX12_isStale_19 rfl (lv_at hl.1 0 rfl) ?_
      refine g_get X cX12 hH (r := 29) (i := 0) (by decide) rfl 39 (by decide) k_1249 rfl (v := .ref (gAd G 61 0)) rfl dX12_isStale_20 ?_
      refine lv_iconst X.1 X.2.1 dX12_isStale_23 (v := iI 4) rfl ?_
      refine lv_iload_n X.1 X.2.1 dX12_isStale_24 rfl (lv_at hl.1 1 rfl) ?_
      refine g_imul X dX12_isStale_25 ?_
      refine lv_iload_n X.1 X.2.1 dX12_isStale_26 rfl (lv_at hl.1 3 rfl) ?_
      refine g_iadd X dX12_isStale_27 ?_
      obtain ⟨hg, hf_⟩ := og_e hf; clear hf; have hf := hf_; clear hf_
      have nd28 : nmI (M 61 0 (wI ((wI (4 * z1)) + x3)).toNat) := hH.1.1 _ _ _
      refine g_iald X hH (r := 61) (i := 0) (by decide) rfl (nmI_w _) hg (v := M 61 0 (wI ((wI (4 * z1)) + x3)).toNat) rfl dX12_isStale_28 ?_
      refine lv_aload_n X.1 X.2.1 dX12_isStale_29 rfl (lv_at hl.1 0 rfl) ?_
      refine g_get X cX12 hH (r := 29) (i := 0) (by decide) rfl 51 (by decide) k_1261 rfl (v := .ref (gAd G 70 0)) rfl dX12_isStale_30 ?_
      refine lv_iconst X.1 X.2.1 dX12_isStale_33 (v := iI 4) rfl ?_
      refine lv_iload_n X.1 X.2.1 dX12_isStale_34 rfl (lv_at hl.1 1 rfl) ?_
      refine g_imul X dX12_isStale_35 ?_
      refine lv_iload_n X.1 X.2.1 dX12_isStale_36 rfl (lv_at hl.1 3 rfl) ?_
      refine g_iadd X dX12_isStale_37 ?_
      obtain ⟨hg, hf_⟩ := og_e hf; clear hf; have hf := hf_; clear hf_
      have nd38 : nmI (M 70 0 (wI ((wI (4 * z1)) + x3)).toNat) := hH.1.1 _ _ _
      refine g_iald X hH (r := 70) (i := 0) (by decide) rfl (nmI_w _) hg (v := M 70 0 (wI ((wI (4 * z1)) + x3)).toNat) rfl dX12_isStale_38 ?_
      obtain ⟨k47, ek47, hf_⟩ := oj_e hf; clear hf; have hf := hf_; clear hf_
      have hk47 : ∀ (xs1_47 : Int) (bxs1_47 : xs1_47 = 0 ∨ xs1_47 = 1), k47 xs1_47 = some q → ∀ (H : Heap) (locs : List Loc) (ls : Array Slot), gH G M H → va_S (gA G) s.heap H locs → gLv ls 4 [(0, .ref (gAd G 29 0)), (1, .int (iI z1)), (3, .int (iI x3))] → W p l e { frames := 4, cells := 0, slots := 0, locals := 90 } s m args below meth c H locs 0 0 (MQ below (gQz G q.1 q.2) args s 0 0 (gA G)) (F0 m 47 ls [.int (iI xs1_47), .int (iI x2)]) := by
        intro xs1_47 bxs1_47 hf H locs ls hH hS hl
        subst ek47
        refine g_ior X dX12_isStale_47 ?_
        refine g_istore_n X (lv' := [(2, .int (iI (gOr x2 xs1_47))), (0, .ref (gAd G 29 0)), (1, .int (iI z1)), (3, .int (iI x3))]) dX12_isStale_48 rfl hl (by decide) rfl (fun ls hl => ?_)
        refine g_iinc X (a := x3) (lv' := [(3, .int (iI (wI (x3 + 1)))), (2, .int (iI (gOr x2 xs1_47))), (0, .ref (gAd G 29 0)), (1, .int (iI z1))]) dX12_isStale_49 hl (k := 3) rfl (by decide) rfl (fun ls hl => ?_)
        refine lv_goto (tgt := 8) X.1 X.2.1 dX12_isStale_52 (by decide) ?_
        exact ih (gOr x2 xs1_47) (b01_or bx2 bxs1_47) (wI (x3 + 1)) (nmI_w _) hf _ _ _ hH hS (gLv_sub hl [2, 3, 1, 0] rfl)
      clear ek47
      refine g_icmp_eq X nd28 nd38 (tgt := 46) dX12_isStale_39 (by decide) (fun hc39 => ?_) (fun hc39 => ?_)
      · replace hf := it_t hf hc39
        refine lv_iconst X.1 X.2.1 dX12_isStale_46 (v := iI 0) rfl ?_
        exact hk47 0 (by decide) hf _ _ _ hH hS (gLv_sub hl [0, 1, 3] rfl)
      · replace hf := it_f hf hc39
        refine lv_iconst X.1 X.2.1 dX12_isStale_42 (v := iI 1) rfl ?_
        refine lv_goto (tgt := 47) X.1 X.2.1 dX12_isStale_43 (by decide) ?_
        exact hk47 1 (by decide) hf _ _ _ hH hS (gLv_sub hl [0, 1, 3] rfl)
theorem m_X12_isStale (l : Launch) (G : gG) (v1 : Int) (nv1 : nmI v1) (M : gM) (q : (Int × gM)) (hf : f_X12_isStale v1 M = some q) : gMet l yX12_isStale cX12_isStale 4 (some .boolean) 4 90 G M [.ref (gAd G 29 0), .int (iI v1)] (gQz G q.1 q.2) := by
  refine gOfW (by decide) (by show _ ≤ 4; exact Nat.le_of_ble_eq_true rfl) rfl ?_
  intro p e s m below meth c X hH ls hl
  replace hl : gLv ls 4 [(0, .ref (gAd G 29 0)), (1, .int (iI v1))] := hl
  have hS : va_S (gA G) s.heap s.heap [] := va_S.rf
  generalize hargs : ([.ref (gAd G 29 0), .int (iI v1)] : List Value).toArray = args at X ⊢
  clear hargs
  unfold f_X12_isStale at hf
  refine lv_iconst X.1 X.2.1 dX12_isStale_0 (v := iI 0) rfl ?_
  refine g_istore_n X (lv' := [(2, .int (iI 0)), (0, .ref (gAd G 29 0)), (1, .int (iI v1))]) dX12_isStale_1 rfl hl (by decide) rfl (fun ls hl => ?_)
  refine lv_aload_n X.1 X.2.1 dX12_isStale_2 rfl (lv_at hl.1 1 rfl) ?_
  obtain ⟨r3, hq3, hf_⟩ := ob_e hf; clear hf; have hf := hf_; clear hf_
  refine gGoV (gRunV X hH (As := []) (m_X12_freshenNow l G  M _ hq3) calX12_freshenNow k_1579 k_58 k_1577 (by decide) cX12 rfl ⟨by decide, by decide⟩ rfl hl rfl (Nat.le_of_ble_eq_true rfl) ⟨Nat.le_of_ble_eq_true rfl, Nat.le_of_ble_eq_true rfl⟩ dX12_isStale_3) hS (fun H locs hH hS => ?_)
  refine lv_iconst X.1 X.2.1 dX12_isStale_6 (v := iI 0) rfl ?_
  refine g_istore_n X (lv' := [(3, .int (iI 0)), (2, .int (iI 0)), (0, .ref (gAd G 29 0)), (1, .int (iI v1))]) dX12_isStale_7 rfl hl (by decide) rfl (fun ls hl => ?_)
  refine w_X12_isStale_L8 X _ v1 nv1 r3 q ?_ 64 0 (by decide) 0 (nmI_l (by decide)) hf _ _ _ hH hS (gLv_sub hl [2, 3, 1, 0] rfl)
  · intro y2_8_55 by2_8_55 hf H locs ls hH hS hl
    refine lv_iload_n X.1 X.2.1 dX12_isStale_55 rfl (lv_at hl.1 2 rfl) ?_
    refine g_if_eq X (nmI_b by2_8_55) (tgt := 71) dX12_isStale_56 (by decide) (fun hc56 => ?_) (fun hc56 => ?_)
    · replace hf := it_t hf hc56
      refine lv_iconst X.1 X.2.1 dX12_isStale_71 (v := iI 0) rfl ?_
      have hq := Option.some.inj hf; subst hq
      exact gRetZ X hH hS (res := 0) (by decide) dX12_isStale_72
    · replace hf := it_f hf hc56
      refine lv_aload_n X.1 X.2.1 dX12_isStale_59 rfl (lv_at hl.1 0 rfl) ?_
      refine lv_iload_n X.1 X.2.1 dX12_isStale_60 rfl (lv_at hl.1 1 rfl) ?_
      obtain ⟨r61, hq61, hf_⟩ := ob_e hf; clear hf; have hf := hf_; clear hf_
      refine gGoZ (gRunV X hH (As := [.int (iI v1)]) (m_X12_isDone l G v1 nv1 r3 _ hq61) calX12_isDone k_1591 k_61 k_1589 (by decide) cX12 rfl ⟨by decide, by decide⟩ rfl hl rfl (Nat.le_of_ble_eq_true rfl) ⟨Nat.le_of_ble_eq_true rfl, Nat.le_of_ble_eq_true rfl⟩ dX12_isStale_61) hS (fun H locs br61 hH hS => ?_)
      refine g_if_eq X (nmI_b br61) (tgt := 71) dX12_isStale_64 (by decide) (fun hc64 => ?_) (fun hc64 => ?_)
      · replace hf := it_t hf hc64
        refine lv_iconst X.1 X.2.1 dX12_isStale_71 (v := iI 0) rfl ?_
        have hq := Option.some.inj hf; subst hq
        exact gRetZ X hH hS (res := 0) (by decide) dX12_isStale_72
      · replace hf := it_f hf hc64
        refine lv_iconst X.1 X.2.1 dX12_isStale_67 (v := iI 1) rfl ?_
        refine lv_goto (tgt := 72) X.1 X.2.1 dX12_isStale_68 (by decide) ?_
        have hq := Option.some.inj hf; subst hq
        exact gRetZ X hH hS (res := 1) (by decide) dX12_isStale_72
theorem m_X12_about (l : Launch) (G : gG) (v1 : Int) (nv1 : nmI v1) (v2 : Int) (nv2 : nmI v2) (M : gM) (q : (Int × gM)) (hf : f_X12_about v1 v2 M = some q) : gMet l yX12_about cX12_about 4 (some .int) 5 113 G M [.ref (gAd G 29 0), .int (iI v1), .int (iI v2)] (gQi G q.1 q.2) := by
  refine gOfW (by decide) (by show _ ≤ 4; exact Nat.le_of_ble_eq_true rfl) rfl ?_
  intro p e s m below meth c X hH ls hl
  replace hl : gLv ls 4 [(0, .ref (gAd G 29 0)), (1, .int (iI v1)), (2, .int (iI v2))] := hl
  have hS : va_S (gA G) s.heap s.heap [] := va_S.rf
  generalize hargs : ([.ref (gAd G 29 0), .int (iI v1), .int (iI v2)] : List Value).toArray = args at X ⊢
  clear hargs
  unfold f_X12_about at hf
  refine lv_aload_n X.1 X.2.1 dX12_about_0 rfl (lv_at hl.1 0 rfl) ?_
  refine lv_aload_n X.1 X.2.1 dX12_about_1 rfl (lv_at hl.1 0 rfl) ?_
  refine lv_iload_n X.1 X.2.1 dX12_about_2 rfl (lv_at hl.1 1 rfl) ?_
  refine gGoZ (gRunV X hH (As := [.int (iI v1)]) (m_X12_isTarget l G v1 nv1 M _ rfl) calX12_isTarget k_1417 k_33 k_1415 (by decide) cX12 rfl ⟨by decide, by decide⟩ rfl hl rfl (Nat.le_of_ble_eq_true rfl) ⟨Nat.le_of_ble_eq_true rfl, Nat.le_of_ble_eq_true rfl⟩ dX12_about_3) hS (fun H locs br3 hH hS => ?_)
  refine lv_iload_n X.1 X.2.1 dX12_about_6 rfl (lv_at hl.1 2 rfl) ?_
  refine lv_iconst X.1 X.2.1 dX12_about_7 (v := iI 0) rfl ?_
  refine lv_iconst X.1 X.2.1 dX12_about_8 (v := iI 5) rfl ?_
  refine gGoZ (gRunS X hH (As := [.int (iI v2), .int (iI 0), .int (iI 5)]) (m_X12_in l G v2 nv2 0 (nmI_l (by decide)) 5 (nmI_l (by decide)) M _ rfl) calX12_in k_1389 k_1388 ⟨by decide, by decide⟩ rfl hl rfl (Nat.le_of_ble_eq_true rfl) ⟨Nat.le_of_ble_eq_true rfl, Nat.le_of_ble_eq_true rfl⟩ dX12_about_9) hS (fun H locs br9 hH hS => ?_)
  refine gGoZ (gRunV X hH (As := [.int (iI ((f_X12_isTarget v1 M))), .int (iI ((f_X12_in v2 0 5 M)))]) (m_X12_asked_ l G ((f_X12_isTarget v1 M)) br3 ((f_X12_in v2 0 5 M)) br9 M _ rfl) calX12_asked_ k_1401 k_31 k_1399 (by decide) cX12 rfl ⟨by decide, by decide⟩ rfl hl rfl (Nat.le_of_ble_eq_true rfl) ⟨Nat.le_of_ble_eq_true rfl, Nat.le_of_ble_eq_true rfl⟩ dX12_about_12) hS (fun H locs br12 hH hS => ?_)
  refine g_if_ne X (nmI_b br12) (tgt := 20) dX12_about_15 (by decide) (fun hc15 => ?_) (fun hc15 => ?_)
  · replace hf := it_f hf hc15
    refine lv_iload_n X.1 X.2.1 dX12_about_20 rfl (lv_at hl.1 2 rfl) ?_
    refine lv_iconst X.1 X.2.1 dX12_about_21 (v := iI 5) rfl ?_
    refine g_icmp_ne X nv2 (nmI_l (by decide)) (tgt := 43) dX12_about_22 (by decide) (fun hc22 => ?_) (fun hc22 => ?_)
    · replace hf := it_f hf hc22
      refine lv_aload_n X.1 X.2.1 dX12_about_43 rfl (lv_at hl.1 0 rfl) ?_
      obtain ⟨r44, hq44, hf_⟩ := ob_e hf; clear hf; have hf := hf_; clear hf_
      refine gGoV (gRunV X hH (As := []) (m_X12_freshenNow l G  ((f_X12_asked_ ((f_X12_isTarget v1 M)) ((f_X12_in v2 0 5 M)) M).2) _ hq44) calX12_freshenNow k_1579 k_58 k_1577 (by decide) cX12 rfl ⟨by decide, by decide⟩ rfl hl rfl (Nat.le_of_ble_eq_true rfl) ⟨Nat.le_of_ble_eq_true rfl, Nat.le_of_ble_eq_true rfl⟩ dX12_about_44) hS (fun H locs hH hS => ?_)
      refine lv_iload_n X.1 X.2.1 dX12_about_47 rfl (lv_at hl.1 2 rfl) ?_
      refine lv_iconst X.1 X.2.1 dX12_about_48 (v := iI 4) rfl ?_
      refine g_icmp_ne X nv2 (nmI_l (by decide)) (tgt := 59) dX12_about_49 (by decide) (fun hc49 => ?_) (fun hc49 => ?_)
      · replace hf := it_f hf hc49
        refine lv_iload_n X.1 X.2.1 dX12_about_59 rfl (lv_at hl.1 2 rfl) ?_
        obtain ⟨k114, ek114, hf_⟩ := oj_e hf; clear hf; have hf := hf_; clear hf_
        have hk114 : ∀ (xs0_114 : Int) (bxs0_114 : xs0_114 = 0 ∨ xs0_114 = 1) (M_114 : gM), k114 xs0_114 M_114 = some q → ∀ (H : Heap) (locs : List Loc) (ls : Array Slot), gH G M_114 H → va_S (gA G) s.heap H locs → gLv ls 4 [] → W p l e { frames := 5, cells := 0, slots := 0, locals := 113 } s m args below meth c H locs 0 0 (MQ below (gQi G q.1 q.2) args s 0 0 (gA G)) (F0 m 114 ls [.int (iI xs0_114)]) := by
          intro xs0_114 bxs0_114 M_114 hf H locs ls hH hS hl
          subst ek114
          refine g_istore_n X (lv' := [(3, .int (iI xs0_114))]) dX12_about_114 rfl hl (by decide) rfl (fun ls hl => ?_)
          refine lv_iload_n X.1 X.2.1 dX12_about_115 rfl (lv_at hl.1 0 rfl) ?_
          refine g_if_eq X (nmI_b bxs0_114) (tgt := 123) dX12_about_116 (by decide) (fun hc116 => ?_) (fun hc116 => ?_)
          · replace hf := it_t hf hc116
            refine lv_iconst X.1 X.2.1 dX12_about_123 (v := iI 0) rfl ?_
            have hq := Option.some.inj hf; subst hq
            exact gRetI X hH hS (res := 0) (nmI_l (by decide)) dX12_about_124
          · replace hf := it_f hf hc116
            refine lv_iconst X.1 X.2.1 dX12_about_119 (v := iI 1) rfl ?_
            refine lv_goto (tgt := 124) X.1 X.2.1 dX12_about_120 (by decide) ?_
            have hq := Option.some.inj hf; subst hq
            exact gRetI X hH hS (res := 1) (nmI_l (by decide)) dX12_about_124
        clear ek114
        refine g_if_ne X nv2 (tgt := 72) dX12_about_60 (by decide) (fun hc60 => ?_) (fun hc60 => ?_)
        · replace hf := it_f hf hc60
          refine lv_iload_n X.1 X.2.1 dX12_about_72 rfl (lv_at hl.1 2 rfl) ?_
          refine lv_iconst X.1 X.2.1 dX12_about_73 (v := iI 1) rfl ?_
          refine g_icmp_ne X nv2 (nmI_l (by decide)) (tgt := 85) dX12_about_74 (by decide) (fun hc74 => ?_) (fun hc74 => ?_)
          · replace hf := it_f hf hc74
            refine lv_iload_n X.1 X.2.1 dX12_about_85 rfl (lv_at hl.1 2 rfl) ?_
            refine lv_iconst X.1 X.2.1 dX12_about_86 (v := iI 2) rfl ?_
            refine g_icmp_ne X nv2 (nmI_l (by decide)) (tgt := 108) dX12_about_87 (by decide) (fun hc87 => ?_) (fun hc87 => ?_)
            · replace hf := it_f hf hc87
              refine lv_aload_n X.1 X.2.1 dX12_about_108 rfl (lv_at hl.1 0 rfl) ?_
              refine g_get X cX12 hH (r := 29) (i := 0) (by decide) rfl 53 (by decide) k_1263 rfl (v := .ref (gAd G 72 0)) rfl dX12_about_109 ?_
              refine lv_iload_n X.1 X.2.1 dX12_about_112 rfl (lv_at hl.1 1 rfl) ?_
              obtain ⟨hg, hf_⟩ := og_e hf; clear hf; have hf := hf_; clear hf_
              have nd113 : nmI (r44 72 0 v1.toNat) := hH.1.1 _ _ _
              have bd113 := hH.1.2.1 72 0 v1.toNat rfl
              refine g_zald X hH (r := 72) (i := 0) (by decide) rfl nv1 hg (v := r44 72 0 v1.toNat) rfl dX12_about_113 ?_
              exact hk114 (r44 72 0 v1.toNat) bd113 r44 hf _ _ _ hH hS (gLv_sub hl [] rfl)
            · replace hf := it_t hf hc87
              refine lv_aload_n X.1 X.2.1 dX12_about_90 rfl (lv_at hl.1 0 rfl) ?_
              refine g_get X cX12 hH (r := 29) (i := 0) (by decide) rfl 45 (by decide) k_1255 rfl (v := .ref (gAd G 66 0)) rfl dX12_about_91 ?_
              refine lv_iload_n X.1 X.2.1 dX12_about_94 rfl (lv_at hl.1 1 rfl) ?_
              obtain ⟨hg, hf_⟩ := og_e hf; clear hf; have hf := hf_; clear hf_
              have nd95 : nmI (r44 66 0 v1.toNat) := hH.1.1 _ _ _
              refine g_iald X hH (r := 66) (i := 0) (by decide) rfl nv1 hg (v := r44 66 0 v1.toNat) rfl dX12_about_95 ?_
              refine lv_iconst X.1 X.2.1 dX12_about_96 (v := iI 2) rfl ?_
              refine g_icmp_lt X nd95 (nmI_l (by decide)) (tgt := 104) dX12_about_97 (by decide) (fun hc97 => ?_) (fun hc97 => ?_)
              · replace hf := it_t hf hc97
                refine lv_iconst X.1 X.2.1 dX12_about_104 (v := iI 0) rfl ?_
                refine lv_goto (tgt := 114) X.1 X.2.1 dX12_about_105 (by decide) ?_
                exact hk114 0 (by decide) r44 hf _ _ _ hH hS (gLv_sub hl [] rfl)
              · replace hf := it_f hf hc97
                refine lv_iconst X.1 X.2.1 dX12_about_100 (v := iI 1) rfl ?_
                refine lv_goto (tgt := 114) X.1 X.2.1 dX12_about_101 (by decide) ?_
                exact hk114 1 (by decide) r44 hf _ _ _ hH hS (gLv_sub hl [] rfl)
          · replace hf := it_t hf hc74
            refine lv_aload_n X.1 X.2.1 dX12_about_77 rfl (lv_at hl.1 0 rfl) ?_
            refine lv_iload_n X.1 X.2.1 dX12_about_78 rfl (lv_at hl.1 1 rfl) ?_
            obtain ⟨r79, hq79, hf_⟩ := ob_e hf; clear hf; have hf := hf_; clear hf_
            refine gGoZ (gRunV X hH (As := [.int (iI v1)]) (m_X12_isStale l G v1 nv1 r44 _ hq79) calX12_isStale k_1595 k_62 k_1593 (by decide) cX12 rfl ⟨by decide, by decide⟩ rfl hl rfl (Nat.le_of_ble_eq_true rfl) ⟨Nat.le_of_ble_eq_true rfl, Nat.le_of_ble_eq_true rfl⟩ dX12_about_79) hS (fun H locs br79 hH hS => ?_)
            refine lv_goto (tgt := 114) X.1 X.2.1 dX12_about_82 (by decide) ?_
            exact hk114 r79.1 br79 r79.2 hf _ _ _ hH hS (gLv_sub hl [] rfl)
        · replace hf := it_t hf hc60
          refine lv_aload_n X.1 X.2.1 dX12_about_63 rfl (lv_at hl.1 0 rfl) ?_
          refine lv_iload_n X.1 X.2.1 dX12_about_64 rfl (lv_at hl.1 1 rfl) ?_
          refine lv_iconst X.1 X.2.1 dX12_about_65 (v := iI 0) rfl ?_
          obtain ⟨r66, hq66, hf_⟩ := ob_e hf; clear hf; have hf := hf_; clear hf_
          refine gGoZ (gRunV X hH (As := [.int (iI v1), .int (iI 0)]) (m_X12_isSound l G v1 nv1 0 (by decide) r44 _ hq66) calX12_isSound k_1587 k_60 k_1585 (by decide) cX12 rfl ⟨by decide, by decide⟩ rfl hl rfl (Nat.le_of_ble_eq_true rfl) ⟨Nat.le_of_ble_eq_true rfl, Nat.le_of_ble_eq_true rfl⟩ dX12_about_66) hS (fun H locs br66 hH hS => ?_)
          refine lv_goto (tgt := 114) X.1 X.2.1 dX12_about_69 (by decide) ?_
          exact hk114 r66 br66 r44 hf _ _ _ hH hS (gLv_sub hl [] rfl)
      · replace hf := it_t hf hc49
        refine lv_aload_n X.1 X.2.1 dX12_about_52 rfl (lv_at hl.1 0 rfl) ?_
        refine g_get X cX12 hH (r := 29) (i := 0) (by decide) rfl 52 (by decide) k_1262 rfl (v := .ref (gAd G 71 0)) rfl dX12_about_53 ?_
        refine lv_iload_n X.1 X.2.1 dX12_about_56 rfl (lv_at hl.1 1 rfl) ?_
        obtain ⟨hg, hf_⟩ := og_e hf; clear hf; have hf := hf_; clear hf_
        have nd57 : nmI (r44 71 0 v1.toNat) := hH.1.1 _ _ _
        refine g_iald X hH (r := 71) (i := 0) (by decide) rfl nv1 hg (v := r44 71 0 v1.toNat) rfl dX12_about_57 ?_
        have hq := Option.some.inj hf; subst hq
        exact gRetI X hH hS (res := r44 71 0 v1.toNat) nd57 dX12_about_58
    · replace hf := it_t hf hc22
      refine lv_aload_n X.1 X.2.1 dX12_about_25 rfl (lv_at hl.1 0 rfl) ?_
      refine lv_iload_n X.1 X.2.1 dX12_about_26 rfl (lv_at hl.1 1 rfl) ?_
      refine gGoZ (gRunV X hH (As := [.int (iI v1)]) (m_X12_isNeeded l G v1 nv1 ((f_X12_asked_ ((f_X12_isTarget v1 M)) ((f_X12_in v2 0 5 M)) M).2) _ rfl) calX12_isNeeded k_1487 k_40 k_1485 (by decide) cX12 rfl ⟨by decide, by decide⟩ rfl hl rfl (Nat.le_of_ble_eq_true rfl) ⟨Nat.le_of_ble_eq_true rfl, Nat.le_of_ble_eq_true rfl⟩ dX12_about_27) hS (fun H locs br27 hH hS => ?_)
      refine g_if_eq X (nmI_b br27) (tgt := 41) dX12_about_30 (by decide) (fun hc30 => ?_) (fun hc30 => ?_)
      · replace hf := it_t hf hc30
        refine lv_iconst X.1 X.2.1 dX12_about_41 (v := iI (-1)) rfl ?_
        have hq := Option.some.inj hf; subst hq
        exact gRetI X hH hS (res := (-1)) (nmI_l (by decide)) dX12_about_42
      · replace hf := it_f hf hc30
        refine lv_aload_n X.1 X.2.1 dX12_about_33 rfl (lv_at hl.1 0 rfl) ?_
        refine lv_iload_n X.1 X.2.1 dX12_about_34 rfl (lv_at hl.1 1 rfl) ?_
        obtain ⟨r35, hq35, hf_⟩ := ob_e hf; clear hf; have hf := hf_; clear hf_
        refine gGoI (gRunV X hH (As := [.int (iI v1)]) (m_X12_wayOf l G v1 nv1 ((f_X12_asked_ ((f_X12_isTarget v1 M)) ((f_X12_in v2 0 5 M)) M).2) _ hq35) calX12_wayOf k_1535 k_51 k_1533 (by decide) cX12 rfl ⟨by decide, by decide⟩ rfl hl rfl (Nat.le_of_ble_eq_true rfl) ⟨Nat.le_of_ble_eq_true rfl, Nat.le_of_ble_eq_true rfl⟩ dX12_about_35) hS (fun H locs nr35 hH hS => ?_)
        refine lv_goto (tgt := 42) X.1 X.2.1 dX12_about_38 (by decide) ?_
        have hq := Option.some.inj hf; subst hq
        exact gRetI X hH hS (res := r35.1) nr35 dX12_about_42
  · replace hf := it_t hf hc15
    refine lv_iconst X.1 X.2.1 dX12_about_18 (v := iI 0) rfl ?_
    have hq := Option.some.inj hf; subst hq
    exact gRetI X hH hS (res := 0) (nmI_l (by decide)) dX12_about_19
theorem w_X12_proof_L75 {G : gG} {p : Program} {l : Launch} {e : Env} {s : State} {m : MethodId} {args : Array Value} {below : List Frame} {meth : Method} {c : Code} (X : gX G p s m args meth c RX12 cX12_proof 7 (some .int) (gWs yX12_proof cX12_proof 7 (some .int))) (k124 : Int → Option (Int × gM)) (z1 : Int) (nz1 : nmI z1) (z2 : Int) (nz2 : nmI z2) (z3 : Int) (nz3 : nmI z3) (M : gM) (q : (Int × gM)) (hk124 : ∀ (x4 : Int) (nx4 : nmI x4), k124 x4 = some q → ∀ (H : Heap) (locs : List Loc) (ls : Array Slot), gH G M H → va_S (gA G) s.heap H locs → gLv ls 7 [(0, .ref (gAd G 29 0)), (1, .int (iI z1)), (2, .int (iI z2)), (3, .int (iI z3)), (4, .int (iI x4))] → W p l e { frames := 3, cells := 0, slots := 0, locals := 74 } s m args below meth c H locs 0 0 (MQ below (gQi G q.1 q.2) args s 0 0 (gA G)) (F0 m 124 ls [])) : ∀ (n : Nat) (x4 : Int) (nx4 : nmI x4) (x5 : Int) (nx5 : nmI x5), f_X12_proof_L75 k124 z1 z2 z3 M n x4 x5 = some q → ∀ (H : Heap) (locs : List Loc) (ls : Array Slot), gH G M H → va_S (gA G) s.heap H locs → gLv ls 7 [(0, .ref (gAd G 29 0)), (1, .int (iI z1)), (2, .int (iI z2)), (3, .int (iI z3)), (4, .int (iI x4)), (5, .int (iI x5))] → W p l e { frames := 3, cells := 0, slots := 0, locals := 74 } s m args below meth c H locs 0 0 (MQ below (gQi G q.1 q.2) args s 0 0 (gA G)) (F0 m 75 ls []) := by
  intro n
  induction n with
  | zero =>
    intro x4 nx4 x5 nx5 hf
    cases hf
  | succ n ih =>
    intro x4 nx4 x5 nx5 hf H locs ls hH hS hl
    rw [f_X12_proof_L75] at hf
    refine lv_iload X.1 X.2.1 dX12_proof_75 (lv_at hl.1 5 rfl) ?_
    refine lv_aload_n X.1 X.2.1 dX12_proof_77 rfl (lv_at hl.1 0 rfl) ?_
    refine g_get X cX12 hH (r := 29) (i := 0) (by decide) rfl 11 (by decide) k_1221 rfl (v := .ref (gAd G 38 0)) rfl dX12_proof_78 ?_
    refine lv_iload_n X.1 X.2.1 dX12_proof_81 rfl (lv_at hl.1 3 rfl) ?_
    obtain ⟨hg, hf_⟩ := og_e hf; clear hf; have hf := hf_; clear hf_
    have nd82 : nmI (M 38 0 z3.toNat) := hH.1.1 _ _ _
    refine g_iald X hH (r := 38) (i := 0) (by decide) rfl nz3 hg (v := M 38 0 z3.toNat) rfl dX12_proof_82 ?_
    refine g_icmp_ge X nx5 nd82 (tgt := 124) dX12_proof_83 (by decide) (fun hc83 => ?_) (fun hc83 => ?_)
    · replace hf := it_f hf hc83
      exact hk124 x4 nx4 hf _ _ _ hH hS (gLv_sub hl [0, 1, 2, 3, 4] rfl)
    · replace hf := it_t hf hc83
      refine lv_iload X.1 X.2.1 dX12_proof_86 (lv_at hl.1 4 rfl) ?_
      refine lv_aload_n X.1 X.2.1 dX12_proof_88 rfl (lv_at hl.1 0 rfl) ?_
      refine g_get X cX12 hH (r := 29) (i := 0) (by decide) rfl 39 (by decide) k_1249 rfl (v := .ref (gAd G 61 0)) rfl dX12_proof_89 ?_
      refine lv_iconst X.1 X.2.1 dX12_proof_92 (v := iI 4) rfl ?_
      refine lv_iload_n X.1 X.2.1 dX12_proof_93 rfl (lv_at hl.1 3 rfl) ?_
      refine g_imul X dX12_proof_94 ?_
      refine lv_iload X.1 X.2.1 dX12_proof_95 (lv_at hl.1 5 rfl) ?_
      refine g_iadd X dX12_proof_97 ?_
      obtain ⟨hg, hf_⟩ := og_e hf; clear hf; have hf := hf_; clear hf_
      have nd98 : nmI (M 61 0 (wI ((wI (4 * z3)) + x5)).toNat) := hH.1.1 _ _ _
      refine g_iald X hH (r := 61) (i := 0) (by decide) rfl (nmI_w _) hg (v := M 61 0 (wI ((wI (4 * z3)) + x5)).toNat) rfl dX12_proof_98 ?_
      refine gGoI (gRunS X hH (As := [.int (iI x4), .int (iI (M 61 0 (wI ((wI (4 * z3)) + x5)).toNat))]) (m_X12_put l G x4 nx4 (M 61 0 (wI ((wI (4 * z3)) + x5)).toNat) nd98 M _ rfl) calX12_put k_1449 k_1448 ⟨by decide, by decide⟩ rfl hl rfl (Nat.le_of_ble_eq_true rfl) ⟨Nat.le_of_ble_eq_true rfl, Nat.le_of_ble_eq_true rfl⟩ dX12_proof_99) hS (fun H locs nr99 hH hS => ?_)
      refine lv_aload_n X.1 X.2.1 dX12_proof_102 rfl (lv_at hl.1 0 rfl) ?_
      refine g_get X cX12 hH (r := 29) (i := 0) (by decide) rfl 40 (by decide) k_1250 rfl (v := .ref (gAd G 62 0)) rfl dX12_proof_103 ?_
      refine lv_iconst X.1 X.2.1 dX12_proof_106 (v := iI 4) rfl ?_
      refine lv_iload_n X.1 X.2.1 dX12_proof_107 rfl (lv_at hl.1 3 rfl) ?_
      refine g_imul X dX12_proof_108 ?_
      refine lv_iload X.1 X.2.1 dX12_proof_109 (lv_at hl.1 5 rfl) ?_
      refine g_iadd X dX12_proof_111 ?_
      obtain ⟨hg, hf_⟩ := og_e hf; clear hf; have hf := hf_; clear hf_
      have nd112 : nmI (M 62 0 (wI ((wI (4 * z3)) + x5)).toNat) := hH.1.1 _ _ _
      refine g_iald X hH (r := 62) (i := 0) (by decide) rfl (nmI_w _) hg (v := M 62 0 (wI ((wI (4 * z3)) + x5)).toNat) rfl dX12_proof_112 ?_
      refine gGoI (gRunS X hH (As := [.int (iI ((f_X12_put x4 (M 61 0 (wI ((wI (4 * z3)) + x5)).toNat) M))), .int (iI (M 62 0 (wI ((wI (4 * z3)) + x5)).toNat))]) (m_X12_put l G ((f_X12_put x4 (M 61 0 (wI ((wI (4 * z3)) + x5)).toNat) M)) nr99 (M 62 0 (wI ((wI (4 * z3)) + x5)).toNat) nd112 M _ rfl) calX12_put k_1449 k_1448 ⟨by decide, by decide⟩ rfl hl rfl (Nat.le_of_ble_eq_true rfl) ⟨Nat.le_of_ble_eq_true rfl, Nat.le_of_ble_eq_true rfl⟩ dX12_proof_113) hS (fun H locs nr113 hH hS => ?_)
      refine g_istore X (lv' := [(4, .int (iI ((f_X12_put ((f_X12_put x4 (M 61 0 (wI ((wI (4 * z3)) + x5)).toNat) M)) (M 62 0 (wI ((wI (4 * z3)) + x5)).toNat) M)))), (0, .ref (gAd G 29 0)), (1, .int (iI z1)), (2, .int (iI z2)), (3, .int (iI z3)), (5, .int (iI x5))]) dX12_proof_116 hl (by decide) rfl (fun ls hl => ?_)
      refine g_iinc X (a := x5) (lv' := [(5, .int (iI (wI (x5 + 1)))), (4, .int (iI ((f_X12_put ((f_X12_put x4 (M 61 0 (wI ((wI (4 * z3)) + x5)).toNat) M)) (M 62 0 (wI ((wI (4 * z3)) + x5)).toNat) M)))), (0, .ref (gAd G 29 0)), (1, .int (iI z1)), (2, .int (iI z2)), (3, .int (iI z3))]) dX12_proof_118 hl (k := 5) rfl (by decide) rfl (fun ls hl => ?_)
      refine lv_goto (tgt := 75) X.1 X.2.1 dX12_proof_121 (by decide) ?_
      exact ih ((f_X12_put ((f_X12_put x4 (M 61 0 (wI ((wI (4 * z3)) + x5)).toNat) M)) (M 62 0 (wI ((wI (4 * z3)) + x5)).toNat) M)) nr113 (wI (x5 + 1)) (nmI_w _) hf _ _ _ hH hS (gLv_sub hl [2, 3, 4, 5, 1, 0] rfl)
theorem w_X12_proof_L127 {G : gG} {p : Program} {l : Launch} {e : Env} {s : State} {m : MethodId} {args : Array Value} {below : List Frame} {meth : Method} {c : Code} (X : gX G p s m args meth c RX12 cX12_proof 7 (some .int) (gWs yX12_proof cX12_proof 7 (some .int))) (k182 : Int → Option (Int × gM)) (z1 : Int) (nz1 : nmI z1) (z2 : Int) (nz2 : nmI z2) (z3 : Int) (nz3 : nmI z3) (M : gM) (q : (Int × gM)) (hk182 : ∀ (x4 : Int) (nx4 : nmI x4), k182 x4 = some q → ∀ (H : Heap) (locs : List Loc) (ls : Array Slot), gH G M H → va_S (gA G) s.heap H locs → gLv ls 7 [(0, .ref (gAd G 29 0)), (1, .int (iI z1)), (2, .int (iI z2)), (3, .int (iI z3)), (4, .int (iI x4))] → W p l e { frames := 3, cells := 0, slots := 0, locals := 74 } s m args below meth c H locs 0 0 (MQ below (gQi G q.1 q.2) args s 0 0 (gA G)) (F0 m 182 ls [])) : ∀ (n : Nat) (x4 : Int) (nx4 : nmI x4) (x5 : Int) (nx5 : nmI x5), f_X12_proof_L127 k182 z1 z2 z3 M n x4 x5 = some q → ∀ (H : Heap) (locs : List Loc) (ls : Array Slot), gH G M H → va_S (gA G) s.heap H locs → gLv ls 7 [(0, .ref (gAd G 29 0)), (1, .int (iI z1)), (2, .int (iI z2)), (3, .int (iI z3)), (4, .int (iI x4)), (5, .int (iI x5))] → W p l e { frames := 3, cells := 0, slots := 0, locals := 74 } s m args below meth c H locs 0 0 (MQ below (gQi G q.1 q.2) args s 0 0 (gA G)) (F0 m 127 ls []) := by
  intro n
  induction n with
  | zero =>
    intro x4 nx4 x5 nx5 hf
    cases hf
  | succ n ih =>
    intro x4 nx4 x5 nx5 hf H locs ls hH hS hl
    rw [f_X12_proof_L127] at hf
    refine lv_iload X.1 X.2.1 dX12_proof_127 (lv_at hl.1 5 rfl) ?_
    refine lv_aload_n X.1 X.2.1 dX12_proof_129 rfl (lv_at hl.1 0 rfl) ?_
    refine g_get X cX12 hH (r := 29) (i := 0) (by decide) rfl 14 (by decide) k_1224 rfl (v := .ref (gAd G 41 0)) rfl dX12_proof_130 ?_
    refine lv_iload_n X.1 X.2.1 dX12_proof_133 rfl (lv_at hl.1 3 rfl) ?_
    obtain ⟨hg, hf_⟩ := og_e hf; clear hf; have hf := hf_; clear hf_
    have nd134 : nmI (M 41 0 z3.toNat) := hH.1.1 _ _ _
    refine g_iald X hH (r := 41) (i := 0) (by decide) rfl nz3 hg (v := M 41 0 z3.toNat) rfl dX12_proof_134 ?_
    refine g_icmp_ge X nx5 nd134 (tgt := 182) dX12_proof_135 (by decide) (fun hc135 => ?_) (fun hc135 => ?_)
    · replace hf := it_f hf hc135
      exact hk182 x4 nx4 hf _ _ _ hH hS (gLv_sub hl [0, 1, 2, 3, 4] rfl)
    · replace hf := it_t hf hc135
      refine lv_aload_n X.1 X.2.1 dX12_proof_138 rfl (lv_at hl.1 0 rfl) ?_
      refine lv_iload_n X.1 X.2.1 dX12_proof_139 rfl (lv_at hl.1 3 rfl) ?_
      refine lv_iload X.1 X.2.1 dX12_proof_140 (lv_at hl.1 5 rfl) ?_
      obtain ⟨r142, hq142, hf_⟩ := ob_e hf; clear hf; have hf := hf_; clear hf_
      refine gGoI (gRunV X hH (As := [.int (iI z3), .int (iI x5)]) (m_X12_inputOf l G z3 nz3 x5 nx5 M _ hq142) calX12_inputOf k_1483 k_39 k_1481 (by decide) cX12 rfl ⟨by decide, by decide⟩ rfl hl rfl (Nat.le_of_ble_eq_true rfl) ⟨Nat.le_of_ble_eq_true rfl, Nat.le_of_ble_eq_true rfl⟩ dX12_proof_142) hS (fun H locs nr142 hH hS => ?_)
      refine g_istore X (lv' := [(6, .int (iI r142)), (0, .ref (gAd G 29 0)), (1, .int (iI z1)), (2, .int (iI z2)), (3, .int (iI z3)), (4, .int (iI x4)), (5, .int (iI x5))]) dX12_proof_145 hl (by decide) rfl (fun ls hl => ?_)
      refine lv_iload X.1 X.2.1 dX12_proof_147 (lv_at hl.1 0 rfl) ?_
      refine lv_bipush X.1 X.2.1 dX12_proof_149 (v := iI 16) (by decide) ?_
      obtain ⟨k174, ek174, hf_⟩ := oj_e hf; clear hf; have hf := hf_; clear hf_
      have hk174 : ∀ (xs0_174 : Int) (nxs0_174 : nmI xs0_174), k174 xs0_174 = some q → ∀ (H : Heap) (locs : List Loc) (ls : Array Slot), gH G M H → va_S (gA G) s.heap H locs → gLv ls 7 [(0, .ref (gAd G 29 0)), (1, .int (iI z1)), (2, .int (iI z2)), (3, .int (iI z3)), (5, .int (iI x5))] → W p l e { frames := 3, cells := 0, slots := 0, locals := 74 } s m args below meth c H locs 0 0 (MQ below (gQi G q.1 q.2) args s 0 0 (gA G)) (F0 m 174 ls [.int (iI xs0_174)]) := by
        intro xs0_174 nxs0_174 hf H locs ls hH hS hl
        subst ek174
        refine g_istore X (lv' := [(4, .int (iI xs0_174)), (0, .ref (gAd G 29 0)), (1, .int (iI z1)), (2, .int (iI z2)), (3, .int (iI z3)), (5, .int (iI x5))]) dX12_proof_174 hl (by decide) rfl (fun ls hl => ?_)
        refine g_iinc X (a := x5) (lv' := [(5, .int (iI (wI (x5 + 1)))), (4, .int (iI xs0_174)), (0, .ref (gAd G 29 0)), (1, .int (iI z1)), (2, .int (iI z2)), (3, .int (iI z3))]) dX12_proof_176 hl (k := 5) rfl (by decide) rfl (fun ls hl => ?_)
        refine lv_goto (tgt := 127) X.1 X.2.1 dX12_proof_179 (by decide) ?_
        exact ih xs0_174 nxs0_174 (wI (x5 + 1)) (nmI_w _) hf _ _ _ hH hS (gLv_sub hl [2, 3, 4, 5, 1, 0] rfl)
      clear ek174
      refine g_icmp_ge X nr142 (nmI_l (by decide)) (tgt := 159) dX12_proof_151 (by decide) (fun hc151 => ?_) (fun hc151 => ?_)
      · replace hf := it_f hf hc151
        refine lv_iload X.1 X.2.1 dX12_proof_159 (lv_at hl.1 5 rfl) ?_
        refine lv_aload_n X.1 X.2.1 dX12_proof_161 rfl (lv_at hl.1 1 rfl) ?_
        refine g_get X cX12 hH (r := 29) (i := 0) (by decide) rfl 55 (by decide) k_1265 rfl (v := .ref (gAd G 74 0)) rfl dX12_proof_162 ?_
        refine lv_iload X.1 X.2.1 dX12_proof_165 (lv_at hl.1 0 rfl) ?_
        refine lv_bipush X.1 X.2.1 dX12_proof_167 (v := iI 16) (by decide) ?_
        refine g_isub X dX12_proof_169 ?_
        obtain ⟨hg, hf_⟩ := og_e hf; clear hf; have hf := hf_; clear hf_
        have nd170 : nmI (M 74 0 (wI (r142 - 16)).toNat) := hH.1.1 _ _ _
        refine g_iald X hH (r := 74) (i := 0) (by decide) rfl (nmI_w _) hg (v := M 74 0 (wI (r142 - 16)).toNat) rfl dX12_proof_170 ?_
        refine gGoI (gRunS X hH (As := [.int (iI x4), .int (iI (M 74 0 (wI (r142 - 16)).toNat))]) (m_X12_put l G x4 nx4 (M 74 0 (wI (r142 - 16)).toNat) nd170 M _ rfl) calX12_put k_1449 k_1448 ⟨by decide, by decide⟩ rfl hl rfl (Nat.le_of_ble_eq_true rfl) ⟨Nat.le_of_ble_eq_true rfl, Nat.le_of_ble_eq_true rfl⟩ dX12_proof_171) hS (fun H locs nr171 hH hS => ?_)
        exact hk174 ((f_X12_put x4 (M 74 0 (wI (r142 - 16)).toNat) M)) nr171 hf _ _ _ hH hS (gLv_sub hl [1, 2, 3, 4, 6] rfl)
      · replace hf := it_t hf hc151
        refine lv_iload X.1 X.2.1 dX12_proof_154 (lv_at hl.1 5 rfl) ?_
        refine lv_goto (tgt := 174) X.1 X.2.1 dX12_proof_156 (by decide) ?_
        exact hk174 x4 nx4 hf _ _ _ hH hS (gLv_sub hl [1, 2, 3, 4, 6] rfl)
theorem w_X12_proof_L54 {G : gG} {p : Program} {l : Launch} {e : Env} {s : State} {m : MethodId} {args : Array Value} {below : List Frame} {meth : Method} {c : Code} (X : gX G p s m args meth c RX12 cX12_proof 7 (some .int) (gWs yX12_proof cX12_proof 7 (some .int))) (k196 : gM → Option (Int × gM)) (z1 : Int) (nz1 : nmI z1) (z2 : Int) (nz2 : nmI z2) (q : (Int × gM)) (hk196 : ∀  (M : gM), k196 M = some q → ∀ (H : Heap) (locs : List Loc) (ls : Array Slot), gH G M H → va_S (gA G) s.heap H locs → gLv ls 7 [(0, .ref (gAd G 29 0)), (1, .int (iI z1))] → W p l e { frames := 3, cells := 0, slots := 0, locals := 74 } s m args below meth c H locs 0 0 (MQ below (gQi G q.1 q.2) args s 0 0 (gA G)) (F0 m 196 ls [])) : ∀ (n : Nat) (x3 : Int) (nx3 : nmI x3) (M : gM), f_X12_proof_L54 k196 z1 z2 n x3 M = some q → ∀ (H : Heap) (locs : List Loc) (ls : Array Slot), gH G M H → va_S (gA G) s.heap H locs → gLv ls 7 [(0, .ref (gAd G 29 0)), (1, .int (iI z1)), (2, .int (iI z2)), (3, .int (iI x3))] → W p l e { frames := 3, cells := 0, slots := 0, locals := 74 } s m args below meth c H locs 0 0 (MQ below (gQi G q.1 q.2) args s 0 0 (gA G)) (F0 m 54 ls []) := by
  intro n
  induction n with
  | zero =>
    intro x3 nx3 M hf
    cases hf
  | succ n ih =>
    intro x3 nx3 M hf H locs ls hH hS hl
    rw [f_X12_proof_L54] at hf
    refine lv_iload_n X.1 X.2.1 dX12_proof_54 rfl (lv_at hl.1 3 rfl) ?_
    refine lv_iload_n X.1 X.2.1 dX12_proof_55 rfl (lv_at hl.1 1 rfl) ?_
    refine g_icmp_gt X nx3 nz1 (tgt := 196) dX12_proof_56 (by decide) (fun hc56 => ?_) (fun hc56 => ?_)
    · replace hf := it_t hf hc56
      exact hk196 M hf _ _ _ hH hS (gLv_sub hl [0, 1] rfl)
    · replace hf := it_f hf hc56
      refine lv_iload_n X.1 X.2.1 dX12_proof_59 rfl (lv_at hl.1 2 rfl) ?_
      refine lv_iload_n X.1 X.2.1 dX12_proof_60 rfl (lv_at hl.1 3 rfl) ?_
      refine g_ishr X dX12_proof_61 ?_
      refine lv_iconst X.1 X.2.1 dX12_proof_62 (v := iI 1) rfl ?_
      refine g_iand X dX12_proof_63 ?_
      refine lv_iconst X.1 X.2.1 dX12_proof_64 (v := iI 1) rfl ?_
      obtain ⟨k190, ek190, hf_⟩ := oj_e hf; clear hf; have hf := hf_; clear hf_
      have hk190 : ∀  (M_190 : gM), k190 M_190 = some q → ∀ (H : Heap) (locs : List Loc) (ls : Array Slot), gH G M_190 H → va_S (gA G) s.heap H locs → gLv ls 7 [(0, .ref (gAd G 29 0)), (1, .int (iI z1)), (2, .int (iI z2)), (3, .int (iI x3))] → W p l e { frames := 3, cells := 0, slots := 0, locals := 74 } s m args below meth c H locs 0 0 (MQ below (gQi G q.1 q.2) args s 0 0 (gA G)) (F0 m 190 ls []) := by
        intro  M_190 hf H locs ls hH hS hl
        subst ek190
        refine g_iinc X (a := x3) (lv' := [(3, .int (iI (wI (x3 + 1)))), (0, .ref (gAd G 29 0)), (1, .int (iI z1)), (2, .int (iI z2))]) dX12_proof_190 hl (k := 3) rfl (by decide) rfl (fun ls hl => ?_)
        refine lv_goto (tgt := 54) X.1 X.2.1 dX12_proof_193 (by decide) ?_
        exact ih (wI (x3 + 1)) (nmI_w _) M_190 hf _ _ _ hH hS (gLv_sub hl [1, 2, 3, 0] rfl)
      clear ek190
      refine g_icmp_ne X (nmI_and _ _) (nmI_l (by decide)) (tgt := 190) dX12_proof_65 (by decide) (fun hc65 => ?_) (fun hc65 => ?_)
      · replace hf := it_f hf hc65
        exact hk190 M hf _ _ _ hH hS (gLv_sub hl [0, 1, 2, 3] rfl)
      · replace hf := it_t hf hc65
        refine lv_bipush X.1 X.2.1 dX12_proof_68 (v := iI 7) (by decide) ?_
        refine g_istore X (lv' := [(4, .int (iI 7)), (0, .ref (gAd G 29 0)), (1, .int (iI z1)), (2, .int (iI z2)), (3, .int (iI x3))]) dX12_proof_70 hl (by decide) rfl (fun ls hl => ?_)
        refine lv_iconst X.1 X.2.1 dX12_proof_72 (v := iI 0) rfl ?_
        refine g_istore X (lv' := [(5, .int (iI 0)), (4, .int (iI 7)), (0, .ref (gAd G 29 0)), (1, .int (iI z1)), (2, .int (iI z2)), (3, .int (iI x3))]) dX12_proof_73 hl (by decide) rfl (fun ls hl => ?_)
        refine w_X12_proof_L75 X _ z1 nz1 z2 nz2 x3 nx3 M q ?_ 64 7 (nmI_l (by decide)) 0 (nmI_l (by decide)) hf _ _ _ hH hS (gLv_sub hl [2, 3, 4, 5, 1, 0] rfl)
        · intro y4_75_124 ny4_75_124 hf H locs ls hH hS hl
          refine lv_iconst X.1 X.2.1 dX12_proof_124 (v := iI 0) rfl ?_
          refine g_istore X (lv' := [(5, .int (iI 0)), (0, .ref (gAd G 29 0)), (1, .int (iI z1)), (2, .int (iI z2)), (3, .int (iI x3)), (4, .int (iI y4_75_124))]) dX12_proof_125 hl (by decide) rfl (fun ls hl => ?_)
          refine w_X12_proof_L127 X _ z1 nz1 z2 nz2 x3 nx3 M q ?_ 64 y4_75_124 ny4_75_124 0 (nmI_l (by decide)) hf _ _ _ hH hS (gLv_sub hl [1, 2, 3, 4, 5, 0] rfl)
          · intro y4_127_182 ny4_127_182 hf H locs ls hH hS hl
            refine lv_aload_n X.1 X.2.1 dX12_proof_182 rfl (lv_at hl.1 0 rfl) ?_
            refine g_get X cX12 hH (r := 29) (i := 0) (by decide) rfl 55 (by decide) k_1265 rfl (v := .ref (gAd G 74 0)) rfl dX12_proof_183 ?_
            refine lv_iload_n X.1 X.2.1 dX12_proof_186 rfl (lv_at hl.1 3 rfl) ?_
            refine lv_iload X.1 X.2.1 dX12_proof_187 (lv_at hl.1 4 rfl) ?_
            obtain ⟨hg, hf_⟩ := og_e hf; clear hf; have hf := hf_; clear hf_
            refine g_iast X hH hS (r := 74) (i := 0) (by decide) (fun _ => rfl) nx3 hg ny4_127_182 rfl (by decide) dX12_proof_189 (fun H locs hH hS => ?_)
            exact hk190 (gU M 74 0 x3.toNat y4_127_182) hf _ _ _ hH hS (gLv_sub hl [0, 1, 2, 3] rfl)
theorem m_X12_proof (l : Launch) (G : gG) (v1 : Int) (nv1 : nmI v1) (M : gM) (q : (Int × gM)) (hf : f_X12_proof v1 M = some q) : gMet l yX12_proof cX12_proof 7 (some .int) 3 74 G M [.ref (gAd G 29 0), .int (iI v1)] (gQi G q.1 q.2) := by
  refine gOfW (by decide) (by show _ ≤ 7; exact Nat.le_of_ble_eq_true rfl) rfl ?_
  intro p e s m below meth c X hH ls hl
  replace hl : gLv ls 7 [(0, .ref (gAd G 29 0)), (1, .int (iI v1))] := hl
  have hS : va_S (gA G) s.heap s.heap [] := va_S.rf
  generalize hargs : ([.ref (gAd G 29 0), .int (iI v1)] : List Value).toArray = args at X ⊢
  clear hargs
  unfold f_X12_proof at hf
  refine lv_aload_n X.1 X.2.1 dX12_proof_0 rfl (lv_at hl.1 0 rfl) ?_
  refine lv_aload_n X.1 X.2.1 dX12_proof_1 rfl (lv_at hl.1 0 rfl) ?_
  refine lv_iload_n X.1 X.2.1 dX12_proof_2 rfl (lv_at hl.1 1 rfl) ?_
  refine gGoZ (gRunV X hH (As := [.int (iI v1)]) (m_X12_isTarget l G v1 nv1 M _ rfl) calX12_isTarget k_1417 k_33 k_1415 (by decide) cX12 rfl ⟨by decide, by decide⟩ rfl hl rfl (Nat.le_of_ble_eq_true rfl) ⟨Nat.le_of_ble_eq_true rfl, Nat.le_of_ble_eq_true rfl⟩ dX12_proof_3) hS (fun H locs br3 hH hS => ?_)
  refine lv_aload_n X.1 X.2.1 dX12_proof_6 rfl (lv_at hl.1 0 rfl) ?_
  refine lv_iload_n X.1 X.2.1 dX12_proof_7 rfl (lv_at hl.1 1 rfl) ?_
  refine gGoZ (gRunV X hH (As := [.int (iI v1)]) (m_X12_isTarget l G v1 nv1 M _ rfl) calX12_isTarget k_1417 k_33 k_1415 (by decide) cX12 rfl ⟨by decide, by decide⟩ rfl hl rfl (Nat.le_of_ble_eq_true rfl) ⟨Nat.le_of_ble_eq_true rfl, Nat.le_of_ble_eq_true rfl⟩ dX12_proof_8) hS (fun H locs br8 hH hS => ?_)
  obtain ⟨k36, ek36, hf_⟩ := oj_e hf; clear hf; have hf := hf_; clear hf_
  have hk36 : ∀ (xs2_36 : Int) (bxs2_36 : xs2_36 = 0 ∨ xs2_36 = 1), k36 xs2_36 = some q → ∀ (H : Heap) (locs : List Loc) (ls : Array Slot), gH G M H → va_S (gA G) s.heap H locs → gLv ls 7 [(0, .ref (gAd G 29 0)), (1, .int (iI v1))] → W p l e { frames := 3, cells := 0, slots := 0, locals := 74 } s m args below meth c H locs 0 0 (MQ below (gQi G q.1 q.2) args s 0 0 (gA G)) (F0 m 36 ls [.int (iI xs2_36), .int (iI ((f_X12_isTarget v1 M))), .ref (gAd G 29 0)]) := by
    intro xs2_36 bxs2_36 hf H locs ls hH hS hl
    subst ek36
    refine gGoZ (gRunV X hH (As := [.int (iI ((f_X12_isTarget v1 M))), .int (iI xs2_36)]) (m_X12_asked_ l G ((f_X12_isTarget v1 M)) br3 xs2_36 bxs2_36 M _ rfl) calX12_asked_ k_1401 k_31 k_1399 (by decide) cX12 rfl ⟨by decide, by decide⟩ rfl hl rfl (Nat.le_of_ble_eq_true rfl) ⟨Nat.le_of_ble_eq_true rfl, Nat.le_of_ble_eq_true rfl⟩ dX12_proof_36) hS (fun H locs br36 hH hS => ?_)
    refine g_if_ne X (nmI_b br36) (tgt := 44) dX12_proof_39 (by decide) (fun hc39 => ?_) (fun hc39 => ?_)
    · replace hf := it_f hf hc39
      refine lv_aload_n X.1 X.2.1 dX12_proof_44 rfl (lv_at hl.1 0 rfl) ?_
      refine lv_iconst X.1 X.2.1 dX12_proof_45 (v := iI 1) rfl ?_
      refine lv_iload_n X.1 X.2.1 dX12_proof_46 rfl (lv_at hl.1 1 rfl) ?_
      refine g_ishl X dX12_proof_47 ?_
      obtain ⟨r48, hq48, hf_⟩ := ob_e hf; clear hf; have hf := hf_; clear hf_
      refine gGoI (gRunV X hH (As := [.int (iI (gShl 1 v1))]) (m_X12_neededBy l G (gShl 1 v1) (nmI_shl _ _) ((f_X12_asked_ ((f_X12_isTarget v1 M)) xs2_36 M).2) _ hq48) calX12_neededBy k_1479 k_38 k_1477 (by decide) cX12 rfl ⟨by decide, by decide⟩ rfl hl rfl (Nat.le_of_ble_eq_true rfl) ⟨Nat.le_of_ble_eq_true rfl, Nat.le_of_ble_eq_true rfl⟩ dX12_proof_48) hS (fun H locs nr48 hH hS => ?_)
      refine g_istore_n X (lv' := [(2, .int (iI r48)), (0, .ref (gAd G 29 0)), (1, .int (iI v1))]) dX12_proof_51 rfl hl (by decide) rfl (fun ls hl => ?_)
      refine lv_iconst X.1 X.2.1 dX12_proof_52 (v := iI 0) rfl ?_
      refine g_istore_n X (lv' := [(3, .int (iI 0)), (2, .int (iI r48)), (0, .ref (gAd G 29 0)), (1, .int (iI v1))]) dX12_proof_53 rfl hl (by decide) rfl (fun ls hl => ?_)
      refine w_X12_proof_L54 X _ v1 nv1 r48 nr48 q ?_ 64 0 (nmI_l (by decide)) ((f_X12_asked_ ((f_X12_isTarget v1 M)) xs2_36 M).2) hf _ _ _ hH hS (gLv_sub hl [2, 3, 1, 0] rfl)
      · intro  M_54_196 hf H locs ls hH hS hl
        refine lv_aload_n X.1 X.2.1 dX12_proof_196 rfl (lv_at hl.1 0 rfl) ?_
        refine g_get X cX12 hH (r := 29) (i := 0) (by decide) rfl 55 (by decide) k_1265 rfl (v := .ref (gAd G 74 0)) rfl dX12_proof_197 ?_
        refine lv_iload_n X.1 X.2.1 dX12_proof_200 rfl (lv_at hl.1 1 rfl) ?_
        obtain ⟨hg, hf_⟩ := og_e hf; clear hf; have hf := hf_; clear hf_
        have nd201 : nmI (M_54_196 74 0 v1.toNat) := hH.1.1 _ _ _
        refine g_iald X hH (r := 74) (i := 0) (by decide) rfl nv1 hg (v := M_54_196 74 0 v1.toNat) rfl dX12_proof_201 ?_
        have hq := Option.some.inj hf; subst hq
        exact gRetI X hH hS (res := M_54_196 74 0 v1.toNat) nd201 dX12_proof_202
    · replace hf := it_t hf hc39
      refine lv_iconst X.1 X.2.1 dX12_proof_42 (v := iI 0) rfl ?_
      have hq := Option.some.inj hf; subst hq
      exact gRetI X hH hS (res := 0) (nmI_l (by decide)) dX12_proof_43
  clear ek36
  obtain ⟨k35, ek35, hf_⟩ := oj_e hf; clear hf; have hf := hf_; clear hf_
  have hk35 : k35 = some q → ∀ (H : Heap) (locs : List Loc) (ls : Array Slot), gH G M H → va_S (gA G) s.heap H locs → gLv ls 7 [(0, .ref (gAd G 29 0)), (1, .int (iI v1))] → W p l e { frames := 3, cells := 0, slots := 0, locals := 74 } s m args below meth c H locs 0 0 (MQ below (gQi G q.1 q.2) args s 0 0 (gA G)) (F0 m 35 ls [.int (iI ((f_X12_isTarget v1 M))), .ref (gAd G 29 0)]) := by
    intro  hf H locs ls hH hS hl
    subst ek35
    refine lv_iconst X.1 X.2.1 dX12_proof_35 (v := iI 0) rfl ?_
    exact hk36 0 (by decide) hf _ _ _ hH hS (gLv_sub hl [0, 1] rfl)
  clear ek35
  refine g_if_eq X (nmI_b br8) (tgt := 35) dX12_proof_11 (by decide) (fun hc11 => ?_) (fun hc11 => ?_)
  · replace hf := it_t hf hc11
    exact hk35  hf _ _ _ hH hS (gLv_sub hl [0, 1] rfl)
  · replace hf := it_f hf hc11
    refine lv_aload_n X.1 X.2.1 dX12_proof_14 rfl (lv_at hl.1 0 rfl) ?_
    refine lv_iload_n X.1 X.2.1 dX12_proof_15 rfl (lv_at hl.1 1 rfl) ?_
    refine gGoZ (gRunV X hH (As := [.int (iI v1)]) (m_X12_isNeeded l G v1 nv1 M _ rfl) calX12_isNeeded k_1487 k_40 k_1485 (by decide) cX12 rfl ⟨by decide, by decide⟩ rfl hl rfl (Nat.le_of_ble_eq_true rfl) ⟨Nat.le_of_ble_eq_true rfl, Nat.le_of_ble_eq_true rfl⟩ dX12_proof_16) hS (fun H locs br16 hH hS => ?_)
    refine g_if_eq X (nmI_b br16) (tgt := 35) dX12_proof_19 (by decide) (fun hc19 => ?_) (fun hc19 => ?_)
    · replace hf := it_t hf hc19
      exact hk35  hf _ _ _ hH hS (gLv_sub hl [0, 1] rfl)
    · replace hf := it_f hf hc19
      refine lv_aload_n X.1 X.2.1 dX12_proof_22 rfl (lv_at hl.1 0 rfl) ?_
      refine lv_iload_n X.1 X.2.1 dX12_proof_23 rfl (lv_at hl.1 1 rfl) ?_
      refine lv_iconst X.1 X.2.1 dX12_proof_24 (v := iI 1) rfl ?_
      obtain ⟨r25, hq25, hf_⟩ := ob_e hf; clear hf; have hf := hf_; clear hf_
      refine gGoZ (gRunV X hH (As := [.int (iI v1), .int (iI 1)]) (m_X12_isSound l G v1 nv1 1 (by decide) M _ hq25) calX12_isSound k_1587 k_60 k_1585 (by decide) cX12 rfl ⟨by decide, by decide⟩ rfl hl rfl (Nat.le_of_ble_eq_true rfl) ⟨Nat.le_of_ble_eq_true rfl, Nat.le_of_ble_eq_true rfl⟩ dX12_proof_25) hS (fun H locs br25 hH hS => ?_)
      refine g_if_eq X (nmI_b br25) (tgt := 35) dX12_proof_28 (by decide) (fun hc28 => ?_) (fun hc28 => ?_)
      · replace hf := it_t hf hc28
        exact hk35  hf _ _ _ hH hS (gLv_sub hl [0, 1] rfl)
      · replace hf := it_f hf hc28
        refine lv_iconst X.1 X.2.1 dX12_proof_31 (v := iI 1) rfl ?_
        refine lv_goto (tgt := 36) X.1 X.2.1 dX12_proof_32 (by decide) ?_
        exact hk36 1 (by decide) hf _ _ _ hH hS (gLv_sub hl [0, 1] rfl)
