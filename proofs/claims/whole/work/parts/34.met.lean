theorem w_X5_proofOf_L2 {G : gG} {p : Program} {l : Launch} {e : Env} {s : State} {m : MethodId} {args : Array Value} {below : List Frame} {meth : Method} {c : Code} (X : gX G p s m args meth c RX5 cX5_proofOf 3 (some .int) (gWs yX5_proofOf cX5_proofOf 3 (some .int))) (k30 : gM → Option (Int × gM)) (z1 : Int) (nz1 : nmI z1) (q : (Int × gM)) (hk30 : ∀  (M : gM), k30 M = some q → ∀ (H : Heap) (locs : List Loc) (ls : Array Slot), gH G M H → va_S (gA G) s.heap H locs → gLv ls 3 [(0, .ref (gAd G 2 0)), (1, .int (iI z1))] → W p l e { frames := 3, cells := 0, slots := 0, locals := 68 } s m args below meth c H locs 0 0 (MQ below (gQi G q.1 q.2) args s 0 0 (gA G)) (F0 m 30 ls [])) : ∀ (n : Nat) (x2 : Int) (nx2 : nmI x2) (M : gM), f_X5_proofOf_L2 k30 z1 n x2 M = some q → ∀ (H : Heap) (locs : List Loc) (ls : Array Slot), gH G M H → va_S (gA G) s.heap H locs → gLv ls 3 [(0, .ref (gAd G 2 0)), (1, .int (iI z1)), (2, .int (iI x2))] → W p l e { frames := 3, cells := 0, slots := 0, locals := 68 } s m args below meth c H locs 0 0 (MQ below (gQi G q.1 q.2) args s 0 0 (gA G)) (F0 m 2 ls []) := by
  intro n
  induction n with
  | zero =>
    intro x2 nx2 M hf
    cases hf
  | succ n ih =>
    intro x2 nx2 M hf H locs ls hH hS hl
    rw [f_X5_proofOf_L2] at hf
    refine lv_iload_n X.1 X.2.1 dX5_proofOf_2 rfl (lv_at hl.1 2 rfl) ?_
    refine lv_iload_n X.1 X.2.1 dX5_proofOf_3 rfl (lv_at hl.1 1 rfl) ?_
    refine g_icmp_gt X nx2 nz1 (tgt := 30) dX5_proofOf_4 (by decide) (fun hc4 => ?_) (fun hc4 => ?_)
    · replace hf := it_t hf hc4
      exact hk30 M hf _ _ _ hH hS (gLv_sub hl [0, 1] rfl)
    · replace hf := it_f hf hc4
      refine lv_aload_n X.1 X.2.1 dX5_proofOf_7 rfl (lv_at hl.1 0 rfl) ?_
      refine g_get X cX5 hH (r := 2) (i := 0) (by decide) rfl 2 (by decide) k_281 rfl (v := .ref (gAd G 21 0)) rfl dX5_proofOf_8 ?_
      refine lv_iload_n X.1 X.2.1 dX5_proofOf_11 rfl (lv_at hl.1 2 rfl) ?_
      refine lv_aload_n X.1 X.2.1 dX5_proofOf_12 rfl (lv_at hl.1 0 rfl) ?_
      refine lv_aload_n X.1 X.2.1 dX5_proofOf_13 rfl (lv_at hl.1 0 rfl) ?_
      refine lv_iload_n X.1 X.2.1 dX5_proofOf_14 rfl (lv_at hl.1 2 rfl) ?_
      refine gGoR (gRunV X hH (As := [.int (iI x2)]) (m_X5_targetAt l G x2 nx2 M _ rfl) calX5_targetAt k_713 k_714 k_712 (by decide) cX5 rfl ⟨by decide, by decide⟩ rfl hl rfl (Nat.le_of_ble_eq_true rfl) ⟨Nat.le_of_ble_eq_true rfl, Nat.le_of_ble_eq_true rfl⟩ dX5_proofOf_15) hS (fun H locs hr15 hH hS => ?_)
      replace hr15 : (f_X5_targetAt x2 M) < 15 := hr15
      obtain ⟨r18, hq18, hf_⟩ := ob_e hf; clear hf; have hf := hf_; clear hf_
      refine gGoI (gRunV X hH (As := [.ref (gAd G 7 ((f_X5_targetAt x2 M)))]) (m_X5_proofOverInputs l G ((f_X5_targetAt x2 M)) hr15 M _ hq18) calX5_proofOverInputs k_1143 k_26 k_1141 (by decide) cX5 rfl ⟨by decide, by decide⟩ rfl hl rfl (Nat.le_of_ble_eq_true rfl) ⟨Nat.le_of_ble_eq_true rfl, Nat.le_of_ble_eq_true rfl⟩ dX5_proofOf_18) hS (fun H locs nr18 hH hS => ?_)
      refine gGoV (gRunSN X hH (As := [.ref (gAd G 21 0), .int (iI x2), .int (iI r18)]) (m_X11_store l G 21 0 14 (by decide) gArr_21 x2 nx2 r18 nr18 M _ rfl) calX11_store k_613 k_1148 ⟨by decide, by decide⟩ rfl hl rfl (Nat.le_of_ble_eq_true rfl) ⟨Nat.le_of_ble_eq_true rfl, Nat.le_of_ble_eq_true rfl⟩ dX5_proofOf_21) hS (fun H locs hH hS => ?_)
      refine g_iinc X (a := x2) (lv' := [(2, .int (iI (wI (x2 + 1)))), (0, .ref (gAd G 2 0)), (1, .int (iI z1))]) dX5_proofOf_24 hl (k := 2) rfl (by decide) rfl (fun ls hl => ?_)
      refine lv_goto (tgt := 2) X.1 X.2.1 dX5_proofOf_27 (by decide) ?_
      exact ih (wI (x2 + 1)) (nmI_w _) ((f_X11_store 21 0 14 x2 r18 M)) hf _ _ _ hH hS (gLv_sub hl [1, 2, 0] rfl)
theorem m_X5_proofOf (l : Launch) (G : gG) (v1 : Int) (nv1 : nmI v1) (M : gM) (q : (Int × gM)) (hf : f_X5_proofOf v1 M = some q) : gMet l yX5_proofOf cX5_proofOf 3 (some .int) 3 68 G M [.ref (gAd G 2 0), .int (iI v1)] (gQi G q.1 q.2) := by
  refine gOfW (by decide) (by show _ ≤ 3; exact Nat.le_of_ble_eq_true rfl) rfl ?_
  intro p e s m below meth c X hH ls hl
  replace hl : gLv ls 3 [(0, .ref (gAd G 2 0)), (1, .int (iI v1))] := hl
  have hS : va_S (gA G) s.heap s.heap [] := va_S.rf
  generalize hargs : ([.ref (gAd G 2 0), .int (iI v1)] : List Value).toArray = args at X ⊢
  clear hargs
  unfold f_X5_proofOf at hf
  refine lv_iconst X.1 X.2.1 dX5_proofOf_0 (v := iI 0) rfl ?_
  refine g_istore_n X (lv' := [(2, .int (iI 0)), (0, .ref (gAd G 2 0)), (1, .int (iI v1))]) dX5_proofOf_1 rfl hl (by decide) rfl (fun ls hl => ?_)
  refine w_X5_proofOf_L2 X _ v1 nv1 q ?_ 64 0 (nmI_l (by decide)) M hf _ _ _ hH hS (gLv_sub hl [1, 2, 0] rfl)
  · intro  M_2_30 hf H locs ls hH hS hl
    refine lv_aload_n X.1 X.2.1 dX5_proofOf_30 rfl (lv_at hl.1 0 rfl) ?_
    refine g_get X cX5 hH (r := 2) (i := 0) (by decide) rfl 2 (by decide) k_281 rfl (v := .ref (gAd G 21 0)) rfl dX5_proofOf_31 ?_
    refine lv_iload_n X.1 X.2.1 dX5_proofOf_34 rfl (lv_at hl.1 1 rfl) ?_
    refine gGoI (gRunSN X hH (As := [.ref (gAd G 21 0), .int (iI v1)]) (m_X11_at l G 21 0 14 (by decide) gArr_21 v1 nv1 M_2_30 _ rfl) calX11_at k_610 k_1147 ⟨by decide, by decide⟩ rfl hl rfl (Nat.le_of_ble_eq_true rfl) ⟨Nat.le_of_ble_eq_true rfl, Nat.le_of_ble_eq_true rfl⟩ dX5_proofOf_35) hS (fun H locs nr35 hH hS => ?_)
    have hq := Option.some.inj hf; subst hq
    exact gRetI X hH hS (res := (f_X11_at 21 0 14 v1 M_2_30)) nr35 dX5_proofOf_38
theorem w_X5_hasInput_L2 {G : gG} {p : Program} {l : Launch} {e : Env} {s : State} {m : MethodId} {args : Array Value} {below : List Frame} {meth : Method} {c : Code} (X : gX G p s m args meth c RX5 cX5_hasInput 4 (some .boolean) (gWs yX5_hasInput cX5_hasInput 4 (some .boolean))) (k33 : Option (Int)) (z1 : Nat) (hz1 : z1 < 15) (z2 : Int) (nz2 : nmI z2) (M : gM) (q : (Int)) (hk33 : k33 = some q → ∀ (H : Heap) (locs : List Loc) (ls : Array Slot), gH G M H → va_S (gA G) s.heap H locs → gLv ls 4 [] → W p l e { frames := 2, cells := 0, slots := 0, locals := 44 } s m args below meth c H locs 0 0 (MQ below (gQz G q M) args s 0 0 (gA G)) (F0 m 33 ls [])) : ∀ (n : Nat) (x3 : Int) (nx3 : nmI x3), f_X5_hasInput_L2 k33 z1 z2 M n x3 = some q → ∀ (H : Heap) (locs : List Loc) (ls : Array Slot), gH G M H → va_S (gA G) s.heap H locs → gLv ls 4 [(1, .ref (gAd G 7 z1)), (2, .int (iI z2)), (3, .int (iI x3))] → W p l e { frames := 2, cells := 0, slots := 0, locals := 44 } s m args below meth c H locs 0 0 (MQ below (gQz G q M) args s 0 0 (gA G)) (F0 m 2 ls []) := by
  intro n
  induction n with
  | zero =>
    intro x3 nx3 hf
    cases hf
  | succ n ih =>
    intro x3 nx3 hf H locs ls hH hS hl
    rw [f_X5_hasInput_L2] at hf
    refine lv_iload_n X.1 X.2.1 dX5_hasInput_2 rfl (lv_at hl.1 2 rfl) ?_
    refine lv_aload_n X.1 X.2.1 dX5_hasInput_3 rfl (lv_at hl.1 0 rfl) ?_
    refine g_get X cX8 hH (r := 7) (i := z1) hz1 rfl 1 (by decide) k_219 rfl (v := .ref (gAd G 8 z1)) rfl dX5_hasInput_4 ?_
    have nd7 : nmI (M 8 z1 5) := hH.1.1 _ _ _
    refine g_get X cX6 hH (r := 8) (i := z1) (by show _ < 16; omega) rfl 5 (by decide) k_154 rfl (v := .int (iI (M 8 z1 5))) rfl dX5_hasInput_7 ?_
    refine g_icmp_ge X nx3 nd7 (tgt := 33) dX5_hasInput_10 (by decide) (fun hc10 => ?_) (fun hc10 => ?_)
    · replace hf := it_f hf hc10
      exact hk33  hf _ _ _ hH hS (gLv_sub hl [] rfl)
    · replace hf := it_t hf hc10
      refine lv_aload_n X.1 X.2.1 dX5_hasInput_13 rfl (lv_at hl.1 0 rfl) ?_
      refine g_get X cX8 hH (r := 7) (i := z1) hz1 rfl 1 (by decide) k_219 rfl (v := .ref (gAd G 8 z1)) rfl dX5_hasInput_14 ?_
      refine lv_iload_n X.1 X.2.1 dX5_hasInput_17 rfl (lv_at hl.1 2 rfl) ?_
      refine gGoI (gRunV X hH (As := [.int (iI x3)]) (m_X6_chosen l G z1 (by show _ < 16; omega) x3 nx3 M _ rfl) calX6_chosen k_833 k_834 k_832 (by show _ < 16; omega) cX6 rfl ⟨by decide, by decide⟩ rfl hl rfl (Nat.le_of_ble_eq_true rfl) ⟨Nat.le_of_ble_eq_true rfl, Nat.le_of_ble_eq_true rfl⟩ dX5_hasInput_18) hS (fun H locs nr18 hH hS => ?_)
      refine lv_iload_n X.1 X.2.1 dX5_hasInput_21 rfl (lv_at hl.1 1 rfl) ?_
      refine g_icmp_ne X nr18 nz2 (tgt := 27) dX5_hasInput_22 (by decide) (fun hc22 => ?_) (fun hc22 => ?_)
      · replace hf := it_f hf hc22
        refine g_iinc X (a := x3) (lv' := [(3, .int (iI (wI (x3 + 1)))), (1, .ref (gAd G 7 z1)), (2, .int (iI z2))]) dX5_hasInput_27 hl (k := 2) rfl (by decide) rfl (fun ls hl => ?_)
        refine lv_goto (tgt := 2) X.1 X.2.1 dX5_hasInput_30 (by decide) ?_
        exact ih (wI (x3 + 1)) (nmI_w _) hf _ _ _ hH hS (gLv_sub hl [1, 2, 0] rfl)
      · replace hf := it_t hf hc22
        refine lv_iconst X.1 X.2.1 dX5_hasInput_25 (v := iI 1) rfl ?_
        have hq := Option.some.inj hf; subst hq
        exact gRetZ X hH hS (res := 1) (by decide) dX5_hasInput_26
theorem m_X5_hasInput (l : Launch) (G : gG) (i1 : Nat) (hi1 : i1 < 15) (v2 : Int) (nv2 : nmI v2) (M : gM) (q : (Int)) (hf : f_X5_hasInput i1 v2 M = some q) : gMet l yX5_hasInput cX5_hasInput 4 (some .boolean) 2 44 G M [.ref (gAd G 2 0), .ref (gAd G 7 i1), .int (iI v2)] (gQz G q M) := by
  refine gOfW (by decide) (by show _ ≤ 4; exact Nat.le_of_ble_eq_true rfl) rfl ?_
  intro p e s m below meth c X hH ls hl
  replace hl : gLv ls 4 [(0, .ref (gAd G 2 0)), (1, .ref (gAd G 7 i1)), (2, .int (iI v2))] := hl
  have hS : va_S (gA G) s.heap s.heap [] := va_S.rf
  generalize hargs : ([.ref (gAd G 2 0), .ref (gAd G 7 i1), .int (iI v2)] : List Value).toArray = args at X ⊢
  clear hargs
  unfold f_X5_hasInput at hf
  refine lv_iconst X.1 X.2.1 dX5_hasInput_0 (v := iI 0) rfl ?_
  refine g_istore_n X (lv' := [(3, .int (iI 0)), (0, .ref (gAd G 2 0)), (1, .ref (gAd G 7 i1)), (2, .int (iI v2))]) dX5_hasInput_1 rfl hl (by decide) rfl (fun ls hl => ?_)
  refine w_X5_hasInput_L2 X _ i1 hi1 v2 nv2 M q ?_ 64 0 (nmI_l (by decide)) hf _ _ _ hH hS (gLv_sub hl [2, 3, 0] rfl)
  · intro  hf H locs ls hH hS hl
    refine lv_iconst X.1 X.2.1 dX5_hasInput_33 (v := iI 0) rfl ?_
    have hq := Option.some.inj hf; subst hq
    exact gRetZ X hH hS (res := 0) (by decide) dX5_hasInput_34
theorem w_X5_targetsOver_L20 {G : gG} {p : Program} {l : Launch} {e : Env} {s : State} {m : MethodId} {args : Array Value} {below : List Frame} {meth : Method} {c : Code} (X : gX G p s m args meth c RX5 cX5_targetsOver 5 (some .int) (gWs yX5_targetsOver cX5_targetsOver 5 (some .int))) (k68 : Int → Option (Int)) (z1 : Int) (nz1 : nmI z1) (M : gM) (q : (Int)) (hk68 : ∀ (x2 : Int) (nx2 : nmI x2), k68 x2 = some q → ∀ (H : Heap) (locs : List Loc) (ls : Array Slot), gH G M H → va_S (gA G) s.heap H locs → gLv ls 5 [(2, .int (iI x2))] → W p l e { frames := 3, cells := 0, slots := 0, locals := 68 } s m args below meth c H locs 0 0 (MQ below (gQi G q M) args s 0 0 (gA G)) (F0 m 68 ls [])) : ∀ (n : Nat) (x2 : Int) (nx2 : nmI x2) (x3 : Int) (nx3 : nmI x3), f_X5_targetsOver_L20 k68 z1 M n x2 x3 = some q → ∀ (H : Heap) (locs : List Loc) (ls : Array Slot), gH G M H → va_S (gA G) s.heap H locs → gLv ls 5 [(0, .ref (gAd G 2 0)), (1, .int (iI z1)), (2, .int (iI x2)), (3, .int (iI x3))] → W p l e { frames := 3, cells := 0, slots := 0, locals := 68 } s m args below meth c H locs 0 0 (MQ below (gQi G q M) args s 0 0 (gA G)) (F0 m 20 ls []) := by
  intro n
  induction n with
  | zero =>
    intro x2 nx2 x3 nx3 hf
    cases hf
  | succ n ih =>
    intro x2 nx2 x3 nx3 hf H locs ls hH hS hl
    rw [f_X5_targetsOver_L20] at hf
    refine lv_iload_n X.1 X.2.1 dX5_targetsOver_20 rfl (lv_at hl.1 3 rfl) ?_
    refine lv_aload_n X.1 X.2.1 dX5_targetsOver_21 rfl (lv_at hl.1 0 rfl) ?_
    have nd22 : nmI (M 2 0 5) := hH.1.1 _ _ _
    refine g_get X cX5 hH (r := 2) (i := 0) (by decide) rfl 5 (by decide) k_285 rfl (v := .int (iI (M 2 0 5))) rfl dX5_targetsOver_22 ?_
    refine g_icmp_ge X nx3 nd22 (tgt := 68) dX5_targetsOver_25 (by decide) (fun hc25 => ?_) (fun hc25 => ?_)
    · replace hf := it_f hf hc25
      exact hk68 x2 nx2 hf _ _ _ hH hS (gLv_sub hl [2] rfl)
    · replace hf := it_t hf hc25
      refine lv_aload_n X.1 X.2.1 dX5_targetsOver_28 rfl (lv_at hl.1 0 rfl) ?_
      refine lv_iload_n X.1 X.2.1 dX5_targetsOver_29 rfl (lv_at hl.1 3 rfl) ?_
      refine gGoR (gRunV X hH (As := [.int (iI x3)]) (m_X5_targetAt l G x3 nx3 M _ rfl) calX5_targetAt k_713 k_714 k_712 (by decide) cX5 rfl ⟨by decide, by decide⟩ rfl hl rfl (Nat.le_of_ble_eq_true rfl) ⟨Nat.le_of_ble_eq_true rfl, Nat.le_of_ble_eq_true rfl⟩ dX5_targetsOver_30) hS (fun H locs hr30 hH hS => ?_)
      replace hr30 : (f_X5_targetAt x3 M) < 15 := hr30
      refine g_astore X (lv' := [(4, .ref (gAd G 7 ((f_X5_targetAt x3 M)))), (0, .ref (gAd G 2 0)), (1, .int (iI z1)), (2, .int (iI x2)), (3, .int (iI x3))]) dX5_targetsOver_33 hl (by decide) rfl (fun ls hl => ?_)
      refine lv_aload_n X.1 X.2.1 dX5_targetsOver_35 rfl (lv_at hl.1 1 rfl) ?_
      refine lv_aload X.1 X.2.1 dX5_targetsOver_36 (lv_at hl.1 0 rfl) ?_
      obtain ⟨r38, hq38, hf_⟩ := ob_e hf; clear hf; have hf := hf_; clear hf_
      refine gGoI (gRunV X hH (As := [.ref (gAd G 7 ((f_X5_targetAt x3 M)))]) (m_X5_inputTargets l G ((f_X5_targetAt x3 M)) hr30 M _ hq38) calX5_inputTargets k_829 k_830 k_828 (by decide) cX5 rfl ⟨by decide, by decide⟩ rfl hl rfl (Nat.le_of_ble_eq_true rfl) ⟨Nat.le_of_ble_eq_true rfl, Nat.le_of_ble_eq_true rfl⟩ dX5_targetsOver_38) hS (fun H locs nr38 hH hS => ?_)
      refine lv_iload_n X.1 X.2.1 dX5_targetsOver_41 rfl (lv_at hl.1 3 rfl) ?_
      refine g_iand X dX5_targetsOver_42 ?_
      obtain ⟨k62, ek62, hf_⟩ := oj_e hf; clear hf; have hf := hf_; clear hf_
      have hk62 : ∀ (x2_62 : Int) (nx2_62 : nmI x2_62), k62 x2_62 = some q → ∀ (H : Heap) (locs : List Loc) (ls : Array Slot), gH G M H → va_S (gA G) s.heap H locs → gLv ls 5 [(0, .ref (gAd G 2 0)), (1, .int (iI z1)), (2, .int (iI x2_62)), (3, .int (iI x3))] → W p l e { frames := 3, cells := 0, slots := 0, locals := 68 } s m args below meth c H locs 0 0 (MQ below (gQi G q M) args s 0 0 (gA G)) (F0 m 62 ls []) := by
        intro x2_62 nx2_62 hf H locs ls hH hS hl
        subst ek62
        refine g_iinc X (a := x3) (lv' := [(3, .int (iI (wI (x3 + 1)))), (0, .ref (gAd G 2 0)), (1, .int (iI z1)), (2, .int (iI x2_62))]) dX5_targetsOver_62 hl (k := 3) rfl (by decide) rfl (fun ls hl => ?_)
        refine lv_goto (tgt := 20) X.1 X.2.1 dX5_targetsOver_65 (by decide) ?_
        exact ih x2_62 nx2_62 (wI (x3 + 1)) (nmI_w _) hf _ _ _ hH hS (gLv_sub hl [1, 2, 3, 0] rfl)
      clear ek62
      obtain ⟨k56, ek56, hf_⟩ := oj_e hf; clear hf; have hf := hf_; clear hf_
      have hk56 : k56 = some q → ∀ (H : Heap) (locs : List Loc) (ls : Array Slot), gH G M H → va_S (gA G) s.heap H locs → gLv ls 5 [(0, .ref (gAd G 2 0)), (1, .int (iI z1)), (2, .int (iI x2)), (3, .int (iI x3))] → W p l e { frames := 3, cells := 0, slots := 0, locals := 68 } s m args below meth c H locs 0 0 (MQ below (gQi G q M) args s 0 0 (gA G)) (F0 m 56 ls []) := by
        intro  hf H locs ls hH hS hl
        subst ek56
        refine lv_iload_n X.1 X.2.1 dX5_targetsOver_56 rfl (lv_at hl.1 2 rfl) ?_
        refine lv_iconst X.1 X.2.1 dX5_targetsOver_57 (v := iI 1) rfl ?_
        refine lv_iload_n X.1 X.2.1 dX5_targetsOver_58 rfl (lv_at hl.1 3 rfl) ?_
        refine g_ishl X dX5_targetsOver_59 ?_
        refine g_ior X dX5_targetsOver_60 ?_
        refine g_istore_n X (lv' := [(2, .int (iI (gOr x2 (gShl 1 x3)))), (0, .ref (gAd G 2 0)), (1, .int (iI z1)), (3, .int (iI x3))]) dX5_targetsOver_61 rfl hl (by decide) rfl (fun ls hl => ?_)
        exact hk62 (gOr x2 (gShl 1 x3)) (nmI_or _ _) hf _ _ _ hH hS (gLv_sub hl [1, 2, 0, 3] rfl)
      clear ek56
      refine g_if_ne X (nmI_and _ _) (tgt := 56) dX5_targetsOver_43 (by decide) (fun hc43 => ?_) (fun hc43 => ?_)
      · replace hf := it_f hf hc43
        exact hk56  hf _ _ _ hH hS (gLv_sub hl [1, 2, 3, 4] rfl)
      · replace hf := it_t hf hc43
        refine lv_aload_n X.1 X.2.1 dX5_targetsOver_46 rfl (lv_at hl.1 1 rfl) ?_
        refine lv_aload X.1 X.2.1 dX5_targetsOver_47 (lv_at hl.1 0 rfl) ?_
        refine lv_iload_n X.1 X.2.1 dX5_targetsOver_49 rfl (lv_at hl.1 2 rfl) ?_
        obtain ⟨r50, hq50, hf_⟩ := ob_e hf; clear hf; have hf := hf_; clear hf_
        refine gGoZ (gRunV X hH (As := [.ref (gAd G 7 ((f_X5_targetAt x3 M))), .int (iI z1)]) (m_X5_hasInput l G ((f_X5_targetAt x3 M)) hr30 z1 nz1 M _ hq50) calX5_hasInput k_1176 k_27 k_1174 (by decide) cX5 rfl ⟨by decide, by decide⟩ rfl hl rfl (Nat.le_of_ble_eq_true rfl) ⟨Nat.le_of_ble_eq_true rfl, Nat.le_of_ble_eq_true rfl⟩ dX5_targetsOver_50) hS (fun H locs br50 hH hS => ?_)
        refine g_if_eq X (nmI_b br50) (tgt := 62) dX5_targetsOver_53 (by decide) (fun hc53 => ?_) (fun hc53 => ?_)
        · replace hf := it_t hf hc53
          exact hk62 x2 nx2 hf _ _ _ hH hS (gLv_sub hl [1, 2, 3, 4] rfl)
        · replace hf := it_f hf hc53
          exact hk56  hf _ _ _ hH hS (gLv_sub hl [1, 2, 3, 4] rfl)
theorem m_X5_targetsOver (l : Launch) (G : gG) (v1 : Int) (nv1 : nmI v1) (M : gM) (q : (Int)) (hf : f_X5_targetsOver v1 M = some q) : gMet l yX5_targetsOver cX5_targetsOver 5 (some .int) 3 68 G M [.ref (gAd G 2 0), .int (iI v1)] (gQi G q M) := by
  refine gOfW (by decide) (by show _ ≤ 5; exact Nat.le_of_ble_eq_true rfl) rfl ?_
  intro p e s m below meth c X hH ls hl
  replace hl : gLv ls 5 [(0, .ref (gAd G 2 0)), (1, .int (iI v1))] := hl
  have hS : va_S (gA G) s.heap s.heap [] := va_S.rf
  generalize hargs : ([.ref (gAd G 2 0), .int (iI v1)] : List Value).toArray = args at X ⊢
  clear hargs
  unfold f_X5_targetsOver at hf
  refine lv_iload_n X.1 X.2.1 dX5_targetsOver_0 rfl (lv_at hl.1 1 rfl) ?_
  refine gGoZ (gRunSN X hH (As := [.int (iI v1)]) (m_X11_isTarget l G v1 nv1 M _ rfl) calX11_isTarget k_673 k_836 ⟨by decide, by decide⟩ rfl hl rfl (Nat.le_of_ble_eq_true rfl) ⟨Nat.le_of_ble_eq_true rfl, Nat.le_of_ble_eq_true rfl⟩ dX5_targetsOver_1) hS (fun H locs br1 hH hS => ?_)
  obtain ⟨k17, ek17, hf_⟩ := oj_e hf; clear hf; have hf := hf_; clear hf_
  have hk17 : ∀ (xs0_17 : Int) (nxs0_17 : nmI xs0_17), k17 xs0_17 = some q → ∀ (H : Heap) (locs : List Loc) (ls : Array Slot), gH G M H → va_S (gA G) s.heap H locs → gLv ls 5 [(0, .ref (gAd G 2 0)), (1, .int (iI v1))] → W p l e { frames := 3, cells := 0, slots := 0, locals := 68 } s m args below meth c H locs 0 0 (MQ below (gQi G q M) args s 0 0 (gA G)) (F0 m 17 ls [.int (iI xs0_17)]) := by
    intro xs0_17 nxs0_17 hf H locs ls hH hS hl
    subst ek17
    refine g_istore_n X (lv' := [(2, .int (iI xs0_17)), (0, .ref (gAd G 2 0)), (1, .int (iI v1))]) dX5_targetsOver_17 rfl hl (by decide) rfl (fun ls hl => ?_)
    refine lv_iconst X.1 X.2.1 dX5_targetsOver_18 (v := iI 0) rfl ?_
    refine g_istore_n X (lv' := [(3, .int (iI 0)), (2, .int (iI xs0_17)), (0, .ref (gAd G 2 0)), (1, .int (iI v1))]) dX5_targetsOver_19 rfl hl (by decide) rfl (fun ls hl => ?_)
    refine w_X5_targetsOver_L20 X _ v1 nv1 M q ?_ 64 xs0_17 nxs0_17 0 (nmI_l (by decide)) hf _ _ _ hH hS (gLv_sub hl [2, 3, 1, 0] rfl)
    · intro y2_20_68 ny2_20_68 hf H locs ls hH hS hl
      refine lv_iload_n X.1 X.2.1 dX5_targetsOver_68 rfl (lv_at hl.1 0 rfl) ?_
      have hq := Option.some.inj hf; subst hq
      exact gRetI X hH hS (res := y2_20_68) ny2_20_68 dX5_targetsOver_69
  clear ek17
  refine g_if_eq X (nmI_b br1) (tgt := 16) dX5_targetsOver_4 (by decide) (fun hc4 => ?_) (fun hc4 => ?_)
  · replace hf := it_t hf hc4
    refine lv_iconst X.1 X.2.1 dX5_targetsOver_16 (v := iI 0) rfl ?_
    exact hk17 0 (nmI_l (by decide)) hf _ _ _ hH hS (gLv_sub hl [0, 1] rfl)
  · replace hf := it_f hf hc4
    refine lv_iconst X.1 X.2.1 dX5_targetsOver_7 (v := iI 1) rfl ?_
    refine lv_iload_n X.1 X.2.1 dX5_targetsOver_8 rfl (lv_at hl.1 1 rfl) ?_
    refine lv_bipush X.1 X.2.1 dX5_targetsOver_9 (v := iI 16) (by decide) ?_
    refine g_isub X dX5_targetsOver_11 ?_
    refine g_ishl X dX5_targetsOver_12 ?_
    refine lv_goto (tgt := 17) X.1 X.2.1 dX5_targetsOver_13 (by decide) ?_
    exact hk17 (gShl 1 (wI (v1 - 16))) (nmI_shl _ _) hf _ _ _ hH hS (gLv_sub hl [0, 1] rfl)
theorem w_X5_spreadDistance_L16 {G : gG} {p : Program} {l : Launch} {e : Env} {s : State} {m : MethodId} {args : Array Value} {below : List Frame} {meth : Method} {c : Code} (X : gX G p s m args meth c RX5 cX5_spreadDistance 6 none (gWs yX5_spreadDistance cX5_spreadDistance 6 none)) (k79 : gM → Option gM) (z1 : Nat) (hz1 : z1 < 15) (z2 : Int) (nz2 : nmI z2) (q : gM) (hk79 : ∀  (M : gM), k79 M = some q → ∀ (H : Heap) (locs : List Loc) (ls : Array Slot), gH G M H → va_S (gA G) s.heap H locs → gLv ls 6 [] → W p l e { frames := 2, cells := 0, slots := 0, locals := 44 } s m args below meth c H locs 0 0 (MQ below (gQv G q) args s 0 0 (gA G)) (F0 m 79 ls [])) : ∀ (n : Nat) (x3 : Int) (nx3 : nmI x3) (M : gM), f_X5_spreadDistance_L16 k79 z1 z2 n x3 M = some q → ∀ (H : Heap) (locs : List Loc) (ls : Array Slot), gH G M H → va_S (gA G) s.heap H locs → gLv ls 6 [(0, .ref (gAd G 2 0)), (1, .ref (gAd G 7 z1)), (2, .int (iI z2)), (3, .int (iI x3))] → W p l e { frames := 2, cells := 0, slots := 0, locals := 44 } s m args below meth c H locs 0 0 (MQ below (gQv G q) args s 0 0 (gA G)) (F0 m 16 ls []) := by
  intro n
  induction n with
  | zero =>
    intro x3 nx3 M hf
    cases hf
  | succ n ih =>
    intro x3 nx3 M hf H locs ls hH hS hl
    rw [f_X5_spreadDistance_L16] at hf
    refine lv_iload_n X.1 X.2.1 dX5_spreadDistance_16 rfl (lv_at hl.1 3 rfl) ?_
    refine lv_aload_n X.1 X.2.1 dX5_spreadDistance_17 rfl (lv_at hl.1 1 rfl) ?_
    refine g_get X cX8 hH (r := 7) (i := z1) hz1 rfl 1 (by decide) k_219 rfl (v := .ref (gAd G 8 z1)) rfl dX5_spreadDistance_18 ?_
    have nd21 : nmI (M 8 z1 5) := hH.1.1 _ _ _
    refine g_get X cX6 hH (r := 8) (i := z1) (by show _ < 16; omega) rfl 5 (by decide) k_154 rfl (v := .int (iI (M 8 z1 5))) rfl dX5_spreadDistance_21 ?_
    refine g_icmp_ge X nx3 nd21 (tgt := 79) dX5_spreadDistance_24 (by decide) (fun hc24 => ?_) (fun hc24 => ?_)
    · replace hf := it_f hf hc24
      exact hk79 M hf _ _ _ hH hS (gLv_sub hl [] rfl)
    · replace hf := it_t hf hc24
      refine lv_aload_n X.1 X.2.1 dX5_spreadDistance_27 rfl (lv_at hl.1 1 rfl) ?_
      refine g_get X cX8 hH (r := 7) (i := z1) hz1 rfl 1 (by decide) k_219 rfl (v := .ref (gAd G 8 z1)) rfl dX5_spreadDistance_28 ?_
      refine lv_iload_n X.1 X.2.1 dX5_spreadDistance_31 rfl (lv_at hl.1 3 rfl) ?_
      refine gGoI (gRunV X hH (As := [.int (iI x3)]) (m_X6_chosen l G z1 (by show _ < 16; omega) x3 nx3 M _ rfl) calX6_chosen k_833 k_834 k_832 (by show _ < 16; omega) cX6 rfl ⟨by decide, by decide⟩ rfl hl rfl (Nat.le_of_ble_eq_true rfl) ⟨Nat.le_of_ble_eq_true rfl, Nat.le_of_ble_eq_true rfl⟩ dX5_spreadDistance_32) hS (fun H locs nr32 hH hS => ?_)
      refine lv_bipush X.1 X.2.1 dX5_spreadDistance_35 (v := iI 16) (by decide) ?_
      refine g_isub X dX5_spreadDistance_37 ?_
      refine g_istore X (lv' := [(4, .int (iI (wI (((f_X6_chosen z1 x3 M)) - 16)))), (0, .ref (gAd G 2 0)), (1, .ref (gAd G 7 z1)), (2, .int (iI z2)), (3, .int (iI x3))]) dX5_spreadDistance_38 hl (by decide) rfl (fun ls hl => ?_)
      refine lv_aload_n X.1 X.2.1 dX5_spreadDistance_40 rfl (lv_at hl.1 1 rfl) ?_
      refine g_get X cX5 hH (r := 2) (i := 0) (by decide) rfl 3 (by decide) k_282 rfl (v := .ref (gAd G 22 0)) rfl dX5_spreadDistance_41 ?_
      refine lv_iload X.1 X.2.1 dX5_spreadDistance_44 (lv_at hl.1 0 rfl) ?_
      refine gGoI (gRunSN X hH (As := [.ref (gAd G 22 0), .int (iI (wI (((f_X6_chosen z1 x3 M)) - 16)))]) (m_X11_at l G 22 0 14 (by decide) gArr_22 (wI (((f_X6_chosen z1 x3 M)) - 16)) (nmI_w _) M _ rfl) calX11_at k_610 k_1147 ⟨by decide, by decide⟩ rfl hl rfl (Nat.le_of_ble_eq_true rfl) ⟨Nat.le_of_ble_eq_true rfl, Nat.le_of_ble_eq_true rfl⟩ dX5_spreadDistance_46) hS (fun H locs nr46 hH hS => ?_)
      refine g_istore X (lv' := [(5, .int (iI ((f_X11_at 22 0 14 (wI (((f_X6_chosen z1 x3 M)) - 16)) M)))), (4, .int (iI (wI (((f_X6_chosen z1 x3 M)) - 16)))), (0, .ref (gAd G 2 0)), (1, .ref (gAd G 7 z1)), (2, .int (iI z2)), (3, .int (iI x3))]) dX5_spreadDistance_49 hl (by decide) rfl (fun ls hl => ?_)
      refine lv_iload X.1 X.2.1 dX5_spreadDistance_51 (lv_at hl.1 0 rfl) ?_
      refine lv_iconst X.1 X.2.1 dX5_spreadDistance_53 (v := iI (-1)) rfl ?_
      obtain ⟨k73, ek73, hf_⟩ := oj_e hf; clear hf; have hf := hf_; clear hf_
      have hk73 : ∀  (M_73 : gM), k73 M_73 = some q → ∀ (H : Heap) (locs : List Loc) (ls : Array Slot), gH G M_73 H → va_S (gA G) s.heap H locs → gLv ls 6 [(0, .ref (gAd G 2 0)), (1, .ref (gAd G 7 z1)), (2, .int (iI z2)), (3, .int (iI x3))] → W p l e { frames := 2, cells := 0, slots := 0, locals := 44 } s m args below meth c H locs 0 0 (MQ below (gQv G q) args s 0 0 (gA G)) (F0 m 73 ls []) := by
        intro  M_73 hf H locs ls hH hS hl
        subst ek73
        refine g_iinc X (a := x3) (lv' := [(3, .int (iI (wI (x3 + 1)))), (0, .ref (gAd G 2 0)), (1, .ref (gAd G 7 z1)), (2, .int (iI z2))]) dX5_spreadDistance_73 hl (k := 3) rfl (by decide) rfl (fun ls hl => ?_)
        refine lv_goto (tgt := 16) X.1 X.2.1 dX5_spreadDistance_76 (by decide) ?_
        exact ih (wI (x3 + 1)) (nmI_w _) M_73 hf _ _ _ hH hS (gLv_sub hl [1, 2, 3, 0] rfl)
      clear ek73
      obtain ⟨k63, ek63, hf_⟩ := oj_e hf; clear hf; have hf := hf_; clear hf_
      have hk63 : k63 = some q → ∀ (H : Heap) (locs : List Loc) (ls : Array Slot), gH G M H → va_S (gA G) s.heap H locs → gLv ls 6 [(0, .ref (gAd G 2 0)), (1, .ref (gAd G 7 z1)), (2, .int (iI z2)), (3, .int (iI x3)), (4, .int (iI (wI (((f_X6_chosen z1 x3 M)) - 16))))] → W p l e { frames := 2, cells := 0, slots := 0, locals := 44 } s m args below meth c H locs 0 0 (MQ below (gQv G q) args s 0 0 (gA G)) (F0 m 63 ls []) := by
        intro  hf H locs ls hH hS hl
        subst ek63
        refine lv_aload_n X.1 X.2.1 dX5_spreadDistance_63 rfl (lv_at hl.1 0 rfl) ?_
        refine g_get X cX5 hH (r := 2) (i := 0) (by decide) rfl 3 (by decide) k_282 rfl (v := .ref (gAd G 22 0)) rfl dX5_spreadDistance_64 ?_
        refine lv_iload X.1 X.2.1 dX5_spreadDistance_67 (lv_at hl.1 4 rfl) ?_
        refine lv_iload_n X.1 X.2.1 dX5_spreadDistance_69 rfl (lv_at hl.1 2 rfl) ?_
        refine gGoV (gRunSN X hH (As := [.ref (gAd G 22 0), .int (iI (wI (((f_X6_chosen z1 x3 M)) - 16))), .int (iI z2)]) (m_X11_store l G 22 0 14 (by decide) gArr_22 (wI (((f_X6_chosen z1 x3 M)) - 16)) (nmI_w _) z2 nz2 M _ rfl) calX11_store k_613 k_1148 ⟨by decide, by decide⟩ rfl hl rfl (Nat.le_of_ble_eq_true rfl) ⟨Nat.le_of_ble_eq_true rfl, Nat.le_of_ble_eq_true rfl⟩ dX5_spreadDistance_70) hS (fun H locs hH hS => ?_)
        exact hk73 ((f_X11_store 22 0 14 (wI (((f_X6_chosen z1 x3 M)) - 16)) z2 M)) hf _ _ _ hH hS (gLv_sub hl [0, 1, 2, 3] rfl)
      clear ek63
      refine g_icmp_eq X nr46 (nmI_l (by decide)) (tgt := 63) dX5_spreadDistance_54 (by decide) (fun hc54 => ?_) (fun hc54 => ?_)
      · replace hf := it_t hf hc54
        exact hk63  hf _ _ _ hH hS (gLv_sub hl [2, 3, 4, 5, 1] rfl)
      · replace hf := it_f hf hc54
        refine lv_iload X.1 X.2.1 dX5_spreadDistance_57 (lv_at hl.1 0 rfl) ?_
        refine lv_iload_n X.1 X.2.1 dX5_spreadDistance_59 rfl (lv_at hl.1 4 rfl) ?_
        refine g_icmp_le X nr46 nz2 (tgt := 73) dX5_spreadDistance_60 (by decide) (fun hc60 => ?_) (fun hc60 => ?_)
        · replace hf := it_f hf hc60
          exact hk73 M hf _ _ _ hH hS (gLv_sub hl [2, 3, 4, 5] rfl)
        · replace hf := it_t hf hc60
          exact hk63  hf _ _ _ hH hS (gLv_sub hl [2, 3, 4, 5, 1] rfl)
theorem m_X5_spreadDistance (l : Launch) (G : gG) (i1 : Nat) (hi1 : i1 < 15) (M : gM) (q : gM) (hf : f_X5_spreadDistance i1 M = some q) : gMet l yX5_spreadDistance cX5_spreadDistance 6 none 2 44 G M [.ref (gAd G 2 0), .ref (gAd G 7 i1)] (gQv G q) := by
  refine gOfW (by decide) (by show _ ≤ 6; exact Nat.le_of_ble_eq_true rfl) rfl ?_
  intro p e s m below meth c X hH ls hl
  replace hl : gLv ls 6 [(0, .ref (gAd G 2 0)), (1, .ref (gAd G 7 i1))] := hl
  have hS : va_S (gA G) s.heap s.heap [] := va_S.rf
  generalize hargs : ([.ref (gAd G 2 0), .ref (gAd G 7 i1)] : List Value).toArray = args at X ⊢
  clear hargs
  unfold f_X5_spreadDistance at hf
  refine lv_aload_n X.1 X.2.1 dX5_spreadDistance_0 rfl (lv_at hl.1 0 rfl) ?_
  refine g_get X cX5 hH (r := 2) (i := 0) (by decide) rfl 3 (by decide) k_282 rfl (v := .ref (gAd G 22 0)) rfl dX5_spreadDistance_1 ?_
  refine lv_aload_n X.1 X.2.1 dX5_spreadDistance_4 rfl (lv_at hl.1 1 rfl) ?_
  have nd5 : nmI (M 7 i1 0) := hH.1.1 _ _ _
  refine g_get X cX8 hH (r := 7) (i := i1) hi1 rfl 0 (by decide) k_216 rfl (v := .int (iI (M 7 i1 0))) rfl dX5_spreadDistance_5 ?_
  refine gGoI (gRunSN X hH (As := [.ref (gAd G 22 0), .int (iI (M 7 i1 0))]) (m_X11_at l G 22 0 14 (by decide) gArr_22 (M 7 i1 0) nd5 M _ rfl) calX11_at k_610 k_1147 ⟨by decide, by decide⟩ rfl hl rfl (Nat.le_of_ble_eq_true rfl) ⟨Nat.le_of_ble_eq_true rfl, Nat.le_of_ble_eq_true rfl⟩ dX5_spreadDistance_8) hS (fun H locs nr8 hH hS => ?_)
  refine lv_iconst X.1 X.2.1 dX5_spreadDistance_11 (v := iI 1) rfl ?_
  refine g_iadd X dX5_spreadDistance_12 ?_
  refine g_istore_n X (lv' := [(2, .int (iI (wI (((f_X11_at 22 0 14 (M 7 i1 0) M)) + 1)))), (0, .ref (gAd G 2 0)), (1, .ref (gAd G 7 i1))]) dX5_spreadDistance_13 rfl hl (by decide) rfl (fun ls hl => ?_)
  refine lv_iconst X.1 X.2.1 dX5_spreadDistance_14 (v := iI 0) rfl ?_
  refine g_istore_n X (lv' := [(3, .int (iI 0)), (2, .int (iI (wI (((f_X11_at 22 0 14 (M 7 i1 0) M)) + 1)))), (0, .ref (gAd G 2 0)), (1, .ref (gAd G 7 i1))]) dX5_spreadDistance_15 rfl hl (by decide) rfl (fun ls hl => ?_)
  refine w_X5_spreadDistance_L16 X _ i1 hi1 (wI (((f_X11_at 22 0 14 (M 7 i1 0) M)) + 1)) (nmI_w _) q ?_ 64 0 (nmI_l (by decide)) M hf _ _ _ hH hS (gLv_sub hl [2, 3, 1, 0] rfl)
  · intro  M_16_79 hf H locs ls hH hS hl
    have hq := Option.some.inj hf; subst hq
    exact gRetV X hH hS dX5_spreadDistance_79
theorem w_X5_distance_L2 {G : gG} {p : Program} {l : Launch} {e : Env} {s : State} {m : MethodId} {args : Array Value} {below : List Frame} {meth : Method} {c : Code} (X : gX G p s m args meth c RX5 cX5_distance 4 (some .int) (gWs yX5_distance cX5_distance 4 (some .int))) (k32 : gM → Option (Int × gM)) (z1 : Int) (nz1 : nmI z1) (z2 : Int) (nz2 : nmI z2) (q : (Int × gM)) (hk32 : ∀  (M : gM), k32 M = some q → ∀ (H : Heap) (locs : List Loc) (ls : Array Slot), gH G M H → va_S (gA G) s.heap H locs → gLv ls 4 [(0, .ref (gAd G 2 0)), (1, .int (iI z1)), (2, .int (iI z2))] → W p l e { frames := 3, cells := 0, slots := 0, locals := 69 } s m args below meth c H locs 0 0 (MQ below (gQi G q.1 q.2) args s 0 0 (gA G)) (F0 m 32 ls [])) : ∀ (n : Nat) (x3 : Int) (nx3 : nmI x3) (M : gM), f_X5_distance_L2 k32 z1 z2 n x3 M = some q → ∀ (H : Heap) (locs : List Loc) (ls : Array Slot), gH G M H → va_S (gA G) s.heap H locs → gLv ls 4 [(0, .ref (gAd G 2 0)), (1, .int (iI z1)), (2, .int (iI z2)), (3, .int (iI x3))] → W p l e { frames := 3, cells := 0, slots := 0, locals := 69 } s m args below meth c H locs 0 0 (MQ below (gQi G q.1 q.2) args s 0 0 (gA G)) (F0 m 2 ls []) := by
  intro n
  induction n with
  | zero =>
    intro x3 nx3 M hf
    cases hf
  | succ n ih =>
    intro x3 nx3 M hf H locs ls hH hS hl
    rw [f_X5_distance_L2] at hf
    refine lv_iload_n X.1 X.2.1 dX5_distance_2 rfl (lv_at hl.1 3 rfl) ?_
    refine lv_bipush X.1 X.2.1 dX5_distance_3 (v := iI 14) (by decide) ?_
    refine g_icmp_ge X nx3 (nmI_l (by decide)) (tgt := 32) dX5_distance_5 (by decide) (fun hc5 => ?_) (fun hc5 => ?_)
    · replace hf := it_f hf hc5
      exact hk32 M hf _ _ _ hH hS (gLv_sub hl [0, 1, 2] rfl)
    · replace hf := it_t hf hc5
      refine lv_aload_n X.1 X.2.1 dX5_distance_8 rfl (lv_at hl.1 0 rfl) ?_
      refine g_get X cX5 hH (r := 2) (i := 0) (by decide) rfl 3 (by decide) k_282 rfl (v := .ref (gAd G 22 0)) rfl dX5_distance_9 ?_
      refine lv_iload_n X.1 X.2.1 dX5_distance_12 rfl (lv_at hl.1 3 rfl) ?_
      refine lv_iload_n X.1 X.2.1 dX5_distance_13 rfl (lv_at hl.1 3 rfl) ?_
      refine lv_iload_n X.1 X.2.1 dX5_distance_14 rfl (lv_at hl.1 1 rfl) ?_
      obtain ⟨k23, ek23, hf_⟩ := oj_e hf; clear hf; have hf := hf_; clear hf_
      have hk23 : ∀ (xs2_23 : Int) (nxs2_23 : nmI xs2_23), k23 xs2_23 = some q → ∀ (H : Heap) (locs : List Loc) (ls : Array Slot), gH G M H → va_S (gA G) s.heap H locs → gLv ls 4 [(0, .ref (gAd G 2 0)), (1, .int (iI z1)), (2, .int (iI z2)), (3, .int (iI x3))] → W p l e { frames := 3, cells := 0, slots := 0, locals := 69 } s m args below meth c H locs 0 0 (MQ below (gQi G q.1 q.2) args s 0 0 (gA G)) (F0 m 23 ls [.int (iI xs2_23), .int (iI x3), .ref (gAd G 22 0)]) := by
        intro xs2_23 nxs2_23 hf H locs ls hH hS hl
        subst ek23
        refine gGoV (gRunSN X hH (As := [.ref (gAd G 22 0), .int (iI x3), .int (iI xs2_23)]) (m_X11_store l G 22 0 14 (by decide) gArr_22 x3 nx3 xs2_23 nxs2_23 M _ rfl) calX11_store k_613 k_1148 ⟨by decide, by decide⟩ rfl hl rfl (Nat.le_of_ble_eq_true rfl) ⟨Nat.le_of_ble_eq_true rfl, Nat.le_of_ble_eq_true rfl⟩ dX5_distance_23) hS (fun H locs hH hS => ?_)
        refine g_iinc X (a := x3) (lv' := [(3, .int (iI (wI (x3 + 1)))), (0, .ref (gAd G 2 0)), (1, .int (iI z1)), (2, .int (iI z2))]) dX5_distance_26 hl (k := 3) rfl (by decide) rfl (fun ls hl => ?_)
        refine lv_goto (tgt := 2) X.1 X.2.1 dX5_distance_29 (by decide) ?_
        exact ih (wI (x3 + 1)) (nmI_w _) ((f_X11_store 22 0 14 x3 xs2_23 M)) hf _ _ _ hH hS (gLv_sub hl [1, 2, 3, 0] rfl)
      clear ek23
      refine g_icmp_ne X nx3 nz1 (tgt := 22) dX5_distance_15 (by decide) (fun hc15 => ?_) (fun hc15 => ?_)
      · replace hf := it_f hf hc15
        refine lv_iconst X.1 X.2.1 dX5_distance_22 (v := iI (-1)) rfl ?_
        exact hk23 ((-1)) (nmI_l (by decide)) hf _ _ _ hH hS (gLv_sub hl [0, 1, 2, 3] rfl)
      · replace hf := it_t hf hc15
        refine lv_iconst X.1 X.2.1 dX5_distance_18 (v := iI 0) rfl ?_
        refine lv_goto (tgt := 23) X.1 X.2.1 dX5_distance_19 (by decide) ?_
        exact hk23 0 (nmI_l (by decide)) hf _ _ _ hH hS (gLv_sub hl [0, 1, 2, 3] rfl)
theorem w_X5_distance_L34 {G : gG} {p : Program} {l : Launch} {e : Env} {s : State} {m : MethodId} {args : Array Value} {below : List Frame} {meth : Method} {c : Code} (X : gX G p s m args meth c RX5 cX5_distance 4 (some .int) (gWs yX5_distance cX5_distance 4 (some .int))) (k66 : gM → Option (Int × gM)) (z2 : Int) (nz2 : nmI z2) (q : (Int × gM)) (hk66 : ∀  (M : gM), k66 M = some q → ∀ (H : Heap) (locs : List Loc) (ls : Array Slot), gH G M H → va_S (gA G) s.heap H locs → gLv ls 4 [(0, .ref (gAd G 2 0)), (2, .int (iI z2))] → W p l e { frames := 3, cells := 0, slots := 0, locals := 69 } s m args below meth c H locs 0 0 (MQ below (gQi G q.1 q.2) args s 0 0 (gA G)) (F0 m 66 ls [])) : ∀ (n : Nat) (x3 : Int) (nx3 : nmI x3) (M : gM), f_X5_distance_L34 k66 z2 n x3 M = some q → ∀ (H : Heap) (locs : List Loc) (ls : Array Slot), gH G M H → va_S (gA G) s.heap H locs → gLv ls 4 [(0, .ref (gAd G 2 0)), (2, .int (iI z2)), (3, .int (iI x3))] → W p l e { frames := 3, cells := 0, slots := 0, locals := 69 } s m args below meth c H locs 0 0 (MQ below (gQi G q.1 q.2) args s 0 0 (gA G)) (F0 m 34 ls []) := by
  intro n
  induction n with
  | zero =>
    intro x3 nx3 M hf
    cases hf
  | succ n ih =>
    intro x3 nx3 M hf H locs ls hH hS hl
    rw [f_X5_distance_L34] at hf
    refine lv_iload_n X.1 X.2.1 dX5_distance_34 rfl (lv_at hl.1 2 rfl) ?_
    refine lv_iload_n X.1 X.2.1 dX5_distance_35 rfl (lv_at hl.1 1 rfl) ?_
    refine g_icmp_le X nx3 nz2 (tgt := 66) dX5_distance_36 (by decide) (fun hc36 => ?_) (fun hc36 => ?_)
    · replace hf := it_f hf hc36
      exact hk66 M hf _ _ _ hH hS (gLv_sub hl [0, 1] rfl)
    · replace hf := it_t hf hc36
      refine lv_aload_n X.1 X.2.1 dX5_distance_39 rfl (lv_at hl.1 0 rfl) ?_
      refine g_get X cX5 hH (r := 2) (i := 0) (by decide) rfl 3 (by decide) k_282 rfl (v := .ref (gAd G 22 0)) rfl dX5_distance_40 ?_
      refine lv_iload_n X.1 X.2.1 dX5_distance_43 rfl (lv_at hl.1 2 rfl) ?_
      refine gGoI (gRunSN X hH (As := [.ref (gAd G 22 0), .int (iI x3)]) (m_X11_at l G 22 0 14 (by decide) gArr_22 x3 nx3 M _ rfl) calX11_at k_610 k_1147 ⟨by decide, by decide⟩ rfl hl rfl (Nat.le_of_ble_eq_true rfl) ⟨Nat.le_of_ble_eq_true rfl, Nat.le_of_ble_eq_true rfl⟩ dX5_distance_44) hS (fun H locs nr44 hH hS => ?_)
      refine lv_iconst X.1 X.2.1 dX5_distance_47 (v := iI (-1)) rfl ?_
      obtain ⟨k60, ek60, hf_⟩ := oj_e hf; clear hf; have hf := hf_; clear hf_
      have hk60 : ∀  (M_60 : gM), k60 M_60 = some q → ∀ (H : Heap) (locs : List Loc) (ls : Array Slot), gH G M_60 H → va_S (gA G) s.heap H locs → gLv ls 4 [(0, .ref (gAd G 2 0)), (2, .int (iI z2)), (3, .int (iI x3))] → W p l e { frames := 3, cells := 0, slots := 0, locals := 69 } s m args below meth c H locs 0 0 (MQ below (gQi G q.1 q.2) args s 0 0 (gA G)) (F0 m 60 ls []) := by
        intro  M_60 hf H locs ls hH hS hl
        subst ek60
        refine g_iinc X (a := x3) (lv' := [(3, .int (iI (wI (x3 + (-1))))), (0, .ref (gAd G 2 0)), (2, .int (iI z2))]) dX5_distance_60 hl (k := 2) rfl (by decide) rfl (fun ls hl => ?_)
        refine lv_goto (tgt := 34) X.1 X.2.1 dX5_distance_63 (by decide) ?_
        exact ih (wI (x3 + (-1))) (nmI_w _) M_60 hf _ _ _ hH hS (gLv_sub hl [1, 2, 0] rfl)
      clear ek60
      refine g_icmp_eq X nr44 (nmI_l (by decide)) (tgt := 60) dX5_distance_48 (by decide) (fun hc48 => ?_) (fun hc48 => ?_)
      · replace hf := it_t hf hc48
        exact hk60 M hf _ _ _ hH hS (gLv_sub hl [0, 1, 2] rfl)
      · replace hf := it_f hf hc48
        refine lv_aload_n X.1 X.2.1 dX5_distance_51 rfl (lv_at hl.1 0 rfl) ?_
        refine lv_aload_n X.1 X.2.1 dX5_distance_52 rfl (lv_at hl.1 0 rfl) ?_
        refine lv_iload_n X.1 X.2.1 dX5_distance_53 rfl (lv_at hl.1 2 rfl) ?_
        refine gGoR (gRunV X hH (As := [.int (iI x3)]) (m_X5_targetAt l G x3 nx3 M _ rfl) calX5_targetAt k_713 k_714 k_712 (by decide) cX5 rfl ⟨by decide, by decide⟩ rfl hl rfl (Nat.le_of_ble_eq_true rfl) ⟨Nat.le_of_ble_eq_true rfl, Nat.le_of_ble_eq_true rfl⟩ dX5_distance_54) hS (fun H locs hr54 hH hS => ?_)
        replace hr54 : (f_X5_targetAt x3 M) < 15 := hr54
        obtain ⟨r57, hq57, hf_⟩ := ob_e hf; clear hf; have hf := hf_; clear hf_
        refine gGoV (gRunV X hH (As := [.ref (gAd G 7 ((f_X5_targetAt x3 M)))]) (m_X5_spreadDistance l G ((f_X5_targetAt x3 M)) hr54 M _ hq57) calX5_spreadDistance k_1191 k_28 k_1189 (by decide) cX5 rfl ⟨by decide, by decide⟩ rfl hl rfl (Nat.le_of_ble_eq_true rfl) ⟨Nat.le_of_ble_eq_true rfl, Nat.le_of_ble_eq_true rfl⟩ dX5_distance_57) hS (fun H locs hH hS => ?_)
        exact hk60 r57 hf _ _ _ hH hS (gLv_sub hl [0, 1, 2] rfl)
theorem m_X5_distance (l : Launch) (G : gG) (v1 : Int) (nv1 : nmI v1) (v2 : Int) (nv2 : nmI v2) (M : gM) (q : (Int × gM)) (hf : f_X5_distance v1 v2 M = some q) : gMet l yX5_distance cX5_distance 4 (some .int) 3 69 G M [.ref (gAd G 2 0), .int (iI v1), .int (iI v2)] (gQi G q.1 q.2) := by
  refine gOfW (by decide) (by show _ ≤ 4; exact Nat.le_of_ble_eq_true rfl) rfl ?_
  intro p e s m below meth c X hH ls hl
  replace hl : gLv ls 4 [(0, .ref (gAd G 2 0)), (1, .int (iI v1)), (2, .int (iI v2))] := hl
  have hS : va_S (gA G) s.heap s.heap [] := va_S.rf
  generalize hargs : ([.ref (gAd G 2 0), .int (iI v1), .int (iI v2)] : List Value).toArray = args at X ⊢
  clear hargs
  unfold f_X5_distance at hf
  refine lv_iconst X.1 X.2.1 dX5_distance_0 (v := iI 0) rfl ?_
  refine g_istore_n X (lv' := [(3, .int (iI 0)), (0, .ref (gAd G 2 0)), (1, .int (iI v1)), (2, .int (iI v2))]) dX5_distance_1 rfl hl (by decide) rfl (fun ls hl => ?_)
  refine w_X5_distance_L2 X _ v1 nv1 v2 nv2 q ?_ 64 0 (nmI_l (by decide)) M hf _ _ _ hH hS (gLv_sub hl [1, 2, 3, 0] rfl)
  · intro  M_2_32 hf H locs ls hH hS hl
    refine lv_iload_n X.1 X.2.1 dX5_distance_32 rfl (lv_at hl.1 1 rfl) ?_
    refine g_istore_n X (lv' := [(3, .int (iI v1)), (0, .ref (gAd G 2 0)), (1, .int (iI v1)), (2, .int (iI v2))]) dX5_distance_33 rfl hl (by decide) rfl (fun ls hl => ?_)
    refine w_X5_distance_L34 X _ v2 nv2 q ?_ 64 v1 nv1 M_2_32 hf _ _ _ hH hS (gLv_sub hl [1, 3, 0] rfl)
    · intro  M_34_66 hf H locs ls hH hS hl
      refine lv_aload_n X.1 X.2.1 dX5_distance_66 rfl (lv_at hl.1 0 rfl) ?_
      refine g_get X cX5 hH (r := 2) (i := 0) (by decide) rfl 3 (by decide) k_282 rfl (v := .ref (gAd G 22 0)) rfl dX5_distance_67 ?_
      refine lv_iload_n X.1 X.2.1 dX5_distance_70 rfl (lv_at hl.1 1 rfl) ?_
      refine gGoI (gRunSN X hH (As := [.ref (gAd G 22 0), .int (iI v2)]) (m_X11_at l G 22 0 14 (by decide) gArr_22 v2 nv2 M_34_66 _ rfl) calX11_at k_610 k_1147 ⟨by decide, by decide⟩ rfl hl rfl (Nat.le_of_ble_eq_true rfl) ⟨Nat.le_of_ble_eq_true rfl, Nat.le_of_ble_eq_true rfl⟩ dX5_distance_71) hS (fun H locs nr71 hH hS => ?_)
      have hq := Option.some.inj hf; subst hq
      exact gRetI X hH hS (res := (f_X11_at 22 0 14 v2 M_34_66)) nr71 dX5_distance_74
theorem m_X11_isGoodAfter (l : Launch) (G : gG) (v1 : Int) (nv1 : nmI v1) (v2 : Int) (nv2 : nmI v2) (M : gM) (q : (Int × gM)) (hf : f_X11_isGoodAfter v1 v2 M = some q) : gMet l yX11_isGoodAfter cX11_isGoodAfter 3 (some .boolean) 6 138 G M [.ref (gAd G 0 0), .int (iI v1), .int (iI v2)] (gQz G q.1 q.2) := by
  refine gOfW (by decide) (by show _ ≤ 3; exact Nat.le_of_ble_eq_true rfl) rfl ?_
  intro p e s m below meth c X hH ls hl
  replace hl : gLv ls 3 [(0, .ref (gAd G 0 0)), (1, .int (iI v1)), (2, .int (iI v2))] := hl
  have hS : va_S (gA G) s.heap s.heap [] := va_S.rf
  generalize hargs : ([.ref (gAd G 0 0), .int (iI v1), .int (iI v2)] : List Value).toArray = args at X ⊢
  clear hargs
  unfold f_X11_isGoodAfter at hf
  refine lv_aload_n X.1 X.2.1 dX11_isGoodAfter_0 rfl (lv_at hl.1 0 rfl) ?_
  refine g_get X cX11 hH (r := 0) (i := 0) (by decide) rfl 4 (by decide) k_482 rfl (v := .ref (gAd G 5 0)) rfl dX11_isGoodAfter_1 ?_
  refine lv_iload_n X.1 X.2.1 dX11_isGoodAfter_4 rfl (lv_at hl.1 1 rfl) ?_
  obtain ⟨r5, hq5, hf_⟩ := ob_e hf; clear hf; have hf := hf_; clear hf_
  refine gGoI (gRunV X hH (As := [.int (iI v1)]) (m_X4_goodTargets l G v1 nv1 M _ hq5) calX4_goodTargets k_1112 k_1113 k_1111 (by decide) cX4 rfl ⟨by decide, by decide⟩ rfl hl rfl (Nat.le_of_ble_eq_true rfl) ⟨Nat.le_of_ble_eq_true rfl, Nat.le_of_ble_eq_true rfl⟩ dX11_isGoodAfter_5) hS (fun H locs nr5 hH hS => ?_)
  refine lv_iload_n X.1 X.2.1 dX11_isGoodAfter_8 rfl (lv_at hl.1 2 rfl) ?_
  refine gGoI (gRunS X hH (As := [.int (iI r5.1), .int (iI v2)]) (m_X11_bitOf l G r5.1 nr5 v2 nv2 r5.2 _ rfl) calX11_bitOf k_826 k_1079 ⟨by decide, by decide⟩ rfl hl rfl (Nat.le_of_ble_eq_true rfl) ⟨Nat.le_of_ble_eq_true rfl, Nat.le_of_ble_eq_true rfl⟩ dX11_isGoodAfter_9) hS (fun H locs nr9 hH hS => ?_)
  refine lv_iconst X.1 X.2.1 dX11_isGoodAfter_12 (v := iI 1) rfl ?_
  refine g_icmp_ne X nr9 (nmI_l (by decide)) (tgt := 20) dX11_isGoodAfter_13 (by decide) (fun hc13 => ?_) (fun hc13 => ?_)
  · replace hf := it_f hf hc13
    refine lv_iconst X.1 X.2.1 dX11_isGoodAfter_20 (v := iI 0) rfl ?_
    have hq := Option.some.inj hf; subst hq
    exact gRetZ X hH hS (res := 0) (by decide) dX11_isGoodAfter_21
  · replace hf := it_t hf hc13
    refine lv_iconst X.1 X.2.1 dX11_isGoodAfter_16 (v := iI 1) rfl ?_
    refine lv_goto (tgt := 21) X.1 X.2.1 dX11_isGoodAfter_17 (by decide) ?_
    have hq := Option.some.inj hf; subst hq
    exact gRetZ X hH hS (res := 1) (by decide) dX11_isGoodAfter_21
theorem m_X12_thrown (l : Launch) (G : gG)  (M : gM) (q : (Int)) (hf : f_X12_thrown M = q) : gMet l yX12_thrown cX12_thrown 1 (some .int) 0 0 G M [.ref (gAd G 29 0)] (gQi G q M) := by
  refine gOfW (by decide) (by show _ ≤ 1; exact Nat.le_of_ble_eq_true rfl) rfl ?_
  intro p e s m below meth c X hH ls hl
  replace hl : gLv ls 1 [(0, .ref (gAd G 29 0))] := hl
  have hS : va_S (gA G) s.heap s.heap [] := va_S.rf
  generalize hargs : ([.ref (gAd G 29 0)] : List Value).toArray = args at X ⊢
  clear hargs
  unfold f_X12_thrown at hf
  refine lv_aload_n X.1 X.2.1 dX12_thrown_0 rfl (lv_at hl.1 0 rfl) ?_
  have nd1 : nmI (M 29 0 0) := hH.1.1 _ _ _
  refine g_get X cX12 hH (r := 29) (i := 0) (by decide) rfl 0 (by decide) k_1210 rfl (v := .int (iI (M 29 0 0))) rfl dX12_thrown_1 ?_
  subst hf
  exact gRetI X hH hS (res := M 29 0 0) nd1 dX12_thrown_4
theorem m_X12_in (l : Launch) (G : gG) (v0 : Int) (nv0 : nmI v0) (v1 : Int) (nv1 : nmI v1) (v2 : Int) (nv2 : nmI v2) (M : gM) (q : (Int)) (hf : f_X12_in v0 v1 v2 M = q) : gMet l yX12_in cX12_in 3 (some .boolean) 0 0 G M [.int (iI v0), .int (iI v1), .int (iI v2)] (gQz G q M) := by
  refine gOfW (by decide) (by show _ ≤ 3; exact Nat.le_of_ble_eq_true rfl) rfl ?_
  intro p e s m below meth c X hH ls hl
  replace hl : gLv ls 3 [(0, .int (iI v0)), (1, .int (iI v1)), (2, .int (iI v2))] := hl
  have hS : va_S (gA G) s.heap s.heap [] := va_S.rf
  generalize hargs : ([.int (iI v0), .int (iI v1), .int (iI v2)] : List Value).toArray = args at X ⊢
  clear hargs
  unfold f_X12_in at hf
  refine lv_iload_n X.1 X.2.1 dX12_in_0 rfl (lv_at hl.1 0 rfl) ?_
  refine lv_iload_n X.1 X.2.1 dX12_in_1 rfl (lv_at hl.1 1 rfl) ?_
  refine g_icmp_lt X nv0 nv1 (tgt := 14) dX12_in_2 (by decide) (fun hc2 => ?_) (fun hc2 => ?_)
  · replace hf := it_t hf hc2
    refine lv_iconst X.1 X.2.1 dX12_in_14 (v := iI 0) rfl ?_
    subst hf
    exact gRetZ X hH hS (res := 0) (by decide) dX12_in_15
  · replace hf := it_f hf hc2
    refine lv_iload_n X.1 X.2.1 dX12_in_5 rfl (lv_at hl.1 0 rfl) ?_
    refine lv_iload_n X.1 X.2.1 dX12_in_6 rfl (lv_at hl.1 2 rfl) ?_
    refine g_icmp_gt X nv0 nv2 (tgt := 14) dX12_in_7 (by decide) (fun hc7 => ?_) (fun hc7 => ?_)
    · replace hf := it_t hf hc7
      refine lv_iconst X.1 X.2.1 dX12_in_14 (v := iI 0) rfl ?_
      subst hf
      exact gRetZ X hH hS (res := 0) (by decide) dX12_in_15
    · replace hf := it_f hf hc7
      refine lv_iconst X.1 X.2.1 dX12_in_10 (v := iI 1) rfl ?_
      refine lv_goto (tgt := 15) X.1 X.2.1 dX12_in_11 (by decide) ?_
      subst hf
      exact gRetZ X hH hS (res := 1) (by decide) dX12_in_15
theorem m_X12_asked (l : Launch) (G : gG) (v1 : Int) (bv1 : v1 = 0 ∨ v1 = 1) (M : gM) (q : (Int × gM)) (hf : f_X12_asked v1 M = q) : gMet l yX12_asked cX12_asked 2 (some .boolean) 0 0 G M [.ref (gAd G 29 0), .int (iI v1)] (gQz G q.1 q.2) := by
  refine gOfW (by decide) (by show _ ≤ 2; exact Nat.le_of_ble_eq_true rfl) rfl ?_
  intro p e s m below meth c X hH ls hl
  replace hl : gLv ls 2 [(0, .ref (gAd G 29 0)), (1, .int (iI v1))] := hl
  have hS : va_S (gA G) s.heap s.heap [] := va_S.rf
  generalize hargs : ([.ref (gAd G 29 0), .int (iI v1)] : List Value).toArray = args at X ⊢
  clear hargs
  unfold f_X12_asked at hf
  refine lv_aload_n X.1 X.2.1 dX12_asked_0 rfl (lv_at hl.1 0 rfl) ?_
  refine lv_iload_n X.1 X.2.1 dX12_asked_1 rfl (lv_at hl.1 1 rfl) ?_
  refine g_if_eq X (nmI_b bv1) (tgt := 9) dX12_asked_2 (by decide) (fun hc2 => ?_) (fun hc2 => ?_)
  · replace hf := it_t hf hc2
    refine lv_iconst X.1 X.2.1 dX12_asked_9 (v := iI 1) rfl ?_
    refine g_putI X cX12 hH hS (r := 29) (i := 0) (by decide) rfl 0 (by decide) k_1210 rfl rfl rfl (Nat.le_of_ble_eq_true rfl) (x := 1) (nmI_l (by decide)) rfl rfl rfl dX12_asked_10 (fun H locs hH hS => ?_)
    refine lv_iload_n X.1 X.2.1 dX12_asked_13 rfl (lv_at hl.1 1 rfl) ?_
    subst hf
    exact gRetZ X hH hS (res := v1) bv1 dX12_asked_14
  · replace hf := it_f hf hc2
    refine lv_iconst X.1 X.2.1 dX12_asked_5 (v := iI 0) rfl ?_
    refine lv_goto (tgt := 10) X.1 X.2.1 dX12_asked_6 (by decide) ?_
    refine g_putI X cX12 hH hS (r := 29) (i := 0) (by decide) rfl 0 (by decide) k_1210 rfl rfl rfl (Nat.le_of_ble_eq_true rfl) (x := 0) (nmI_l (by decide)) rfl rfl rfl dX12_asked_10 (fun H locs hH hS => ?_)
    refine lv_iload_n X.1 X.2.1 dX12_asked_13 rfl (lv_at hl.1 1 rfl) ?_
    subst hf
    exact gRetZ X hH hS (res := v1) bv1 dX12_asked_14
theorem w_X12_write_L69 {G : gG} {p : Program} {l : Launch} {e : Env} {s : State} {m : MethodId} {args : Array Value} {below : List Frame} {meth : Method} {c : Code} (X : gX G p s m args meth c RX12 cX12_write 5 (some .int) (gWs yX12_write cX12_write 5 (some .int))) (k116 : gM → Option (Int × gM)) (z1 : Int) (nz1 : nmI z1) (z2 : Int) (nz2 : nmI z2) (z3 : Int) (nz3 : nmI z3) (q : (Int × gM)) (hk116 : ∀  (M : gM), k116 M = some q → ∀ (H : Heap) (locs : List Loc) (ls : Array Slot), gH G M H → va_S (gA G) s.heap H locs → gLv ls 5 [(0, .ref (gAd G 29 0)), (1, .int (iI z1)), (2, .int (iI z2)), (3, .int (iI z3))] → W p l e { frames := 1, cells := 0, slots := 0, locals := 22 } s m args below meth c H locs 0 0 (MQ below (gQi G q.1 q.2) args s 0 0 (gA G)) (F0 m 116 ls [])) : ∀ (n : Nat) (x4 : Int) (nx4 : nmI x4) (M : gM), f_X12_write_L69 k116 z1 z2 z3 n x4 M = some q → ∀ (H : Heap) (locs : List Loc) (ls : Array Slot), gH G M H → va_S (gA G) s.heap H locs → gLv ls 5 [(0, .ref (gAd G 29 0)), (1, .int (iI z1)), (2, .int (iI z2)), (3, .int (iI z3)), (4, .int (iI x4))] → W p l e { frames := 1, cells := 0, slots := 0, locals := 22 } s m args below meth c H locs 0 0 (MQ below (gQi G q.1 q.2) args s 0 0 (gA G)) (F0 m 69 ls []) := by
  intro n
  induction n with
  | zero =>
    intro x4 nx4 M hf
    cases hf
  | succ n ih =>
    intro x4 nx4 M hf H locs ls hH hS hl
    rw [f_X12_write_L69] at hf
    refine lv_iload X.1 X.2.1 dX12_write_69 (lv_at hl.1 4 rfl) ?_
    refine lv_aload_n X.1 X.2.1 dX12_write_71 rfl (lv_at hl.1 0 rfl) ?_
    have nd72 : nmI (M 29 0 4) := hH.1.1 _ _ _
    refine g_get X cX12 hH (r := 29) (i := 0) (by decide) rfl 4 (by decide) k_1214 rfl (v := .int (iI (M 29 0 4))) rfl dX12_write_72 ?_
    refine g_icmp_ge X nx4 nd72 (tgt := 116) dX12_write_75 (by decide) (fun hc75 => ?_) (fun hc75 => ?_)
    · replace hf := it_f hf hc75
      exact hk116 M hf _ _ _ hH hS (gLv_sub hl [0, 1, 2, 3] rfl)
    · replace hf := it_t hf hc75
      refine lv_aload_n X.1 X.2.1 dX12_write_78 rfl (lv_at hl.1 0 rfl) ?_
      refine g_get X cX12 hH (r := 29) (i := 0) (by decide) rfl 5 (by decide) k_1215 rfl (v := .ref (gAd G 33 0)) rfl dX12_write_79 ?_
      refine lv_iload X.1 X.2.1 dX12_write_82 (lv_at hl.1 4 rfl) ?_
      refine lv_aload_n X.1 X.2.1 dX12_write_84 rfl (lv_at hl.1 0 rfl) ?_
      refine g_get X cX12 hH (r := 29) (i := 0) (by decide) rfl 5 (by decide) k_1215 rfl (v := .ref (gAd G 33 0)) rfl dX12_write_85 ?_
      refine lv_iload X.1 X.2.1 dX12_write_88 (lv_at hl.1 4 rfl) ?_
      refine lv_iconst X.1 X.2.1 dX12_write_90 (v := iI 1) rfl ?_
      refine g_iadd X dX12_write_91 ?_
      obtain ⟨hg, hf_⟩ := og_e hf; clear hf; have hf := hf_; clear hf_
      have nd92 : nmI (M 33 0 (wI (x4 + 1)).toNat) := hH.1.1 _ _ _
      refine g_iald X hH (r := 33) (i := 0) (by decide) rfl (nmI_w _) hg (v := M 33 0 (wI (x4 + 1)).toNat) rfl dX12_write_92 ?_
      obtain ⟨hg, hf_⟩ := og_e hf; clear hf; have hf := hf_; clear hf_
      refine g_iast X hH hS (r := 33) (i := 0) (by decide) (fun _ => rfl) nx4 hg nd92 rfl (by decide) dX12_write_93 (fun H locs hH hS => ?_)
      refine lv_aload_n X.1 X.2.1 dX12_write_94 rfl (lv_at hl.1 0 rfl) ?_
      refine g_get X cX12 hH (r := 29) (i := 0) (by decide) rfl 6 (by decide) k_1216 rfl (v := .ref (gAd G 34 0)) rfl dX12_write_95 ?_
      refine lv_iload X.1 X.2.1 dX12_write_98 (lv_at hl.1 4 rfl) ?_
      refine lv_aload_n X.1 X.2.1 dX12_write_100 rfl (lv_at hl.1 0 rfl) ?_
      refine g_get X cX12 hH (r := 29) (i := 0) (by decide) rfl 6 (by decide) k_1216 rfl (v := .ref (gAd G 34 0)) rfl dX12_write_101 ?_
      refine lv_iload X.1 X.2.1 dX12_write_104 (lv_at hl.1 4 rfl) ?_
      refine lv_iconst X.1 X.2.1 dX12_write_106 (v := iI 1) rfl ?_
      refine g_iadd X dX12_write_107 ?_
      obtain ⟨hg, hf_⟩ := og_e hf; clear hf; have hf := hf_; clear hf_
      have nd108 : nmI ((gU M 33 0 x4.toNat (M 33 0 (wI (x4 + 1)).toNat)) 34 0 (wI (x4 + 1)).toNat) := hH.1.1 _ _ _
      refine g_iald X hH (r := 34) (i := 0) (by decide) rfl (nmI_w _) hg (v := (gU M 33 0 x4.toNat (M 33 0 (wI (x4 + 1)).toNat)) 34 0 (wI (x4 + 1)).toNat) rfl dX12_write_108 ?_
      obtain ⟨hg, hf_⟩ := og_e hf; clear hf; have hf := hf_; clear hf_
      refine g_iast X hH hS (r := 34) (i := 0) (by decide) (fun _ => rfl) nx4 hg nd108 rfl (by decide) dX12_write_109 (fun H locs hH hS => ?_)
      refine g_iinc X (a := x4) (lv' := [(4, .int (iI (wI (x4 + 1)))), (0, .ref (gAd G 29 0)), (1, .int (iI z1)), (2, .int (iI z2)), (3, .int (iI z3))]) dX12_write_110 hl (k := 4) rfl (by decide) rfl (fun ls hl => ?_)
      refine lv_goto (tgt := 69) X.1 X.2.1 dX12_write_113 (by decide) ?_
      exact ih (wI (x4 + 1)) (nmI_w _) (gU (gU M 33 0 x4.toNat (M 33 0 (wI (x4 + 1)).toNat)) 34 0 x4.toNat ((gU M 33 0 x4.toNat (M 33 0 (wI (x4 + 1)).toNat)) 34 0 (wI (x4 + 1)).toNat)) hf _ _ _ hH hS (gLv_sub hl [1, 2, 3, 4, 0] rfl)
theorem m_X12_write (l : Launch) (G : gG) (v1 : Int) (nv1 : nmI v1) (v2 : Int) (nv2 : nmI v2) (M : gM) (q : (Int × gM)) (hf : f_X12_write v1 v2 M = some q) : gMet l yX12_write cX12_write 5 (some .int) 1 22 G M [.ref (gAd G 29 0), .int (iI v1), .int (iI v2)] (gQi G q.1 q.2) := by
  refine gOfW (by decide) (by show _ ≤ 5; exact Nat.le_of_ble_eq_true rfl) rfl ?_
  intro p e s m below meth c X hH ls hl
  replace hl : gLv ls 5 [(0, .ref (gAd G 29 0)), (1, .int (iI v1)), (2, .int (iI v2))] := hl
  have hS : va_S (gA G) s.heap s.heap [] := va_S.rf
  generalize hargs : ([.ref (gAd G 29 0), .int (iI v1), .int (iI v2)] : List Value).toArray = args at X ⊢
  clear hargs
  unfold f_X12_write at hf
  refine lv_aload_n X.1 X.2.1 dX12_write_0 rfl (lv_at hl.1 0 rfl) ?_
  refine lv_iload_n X.1 X.2.1 dX12_write_1 rfl (lv_at hl.1 1 rfl) ?_
  refine lv_iconst X.1 X.2.1 dX12_write_2 (v := iI 0) rfl ?_
  refine lv_bipush X.1 X.2.1 dX12_write_3 (v := iI 15) (by decide) ?_
  refine gGoZ (gRunS X hH (As := [.int (iI v1), .int (iI 0), .int (iI 15)]) (m_X12_in l G v1 nv1 0 (nmI_l (by decide)) 15 (nmI_l (by decide)) M _ rfl) calX12_in k_1389 k_1388 ⟨by decide, by decide⟩ rfl hl rfl (Nat.le_of_ble_eq_true rfl) ⟨Nat.le_of_ble_eq_true rfl, Nat.le_of_ble_eq_true rfl⟩ dX12_write_5) hS (fun H locs br5 hH hS => ?_)
  obtain ⟨k27, ek27, hf_⟩ := oj_e hf; clear hf; have hf := hf_; clear hf_
  have hk27 : ∀ (xs1_27 : Int) (bxs1_27 : xs1_27 = 0 ∨ xs1_27 = 1), k27 xs1_27 = some q → ∀ (H : Heap) (locs : List Loc) (ls : Array Slot), gH G M H → va_S (gA G) s.heap H locs → gLv ls 5 [(0, .ref (gAd G 29 0)), (1, .int (iI v1)), (2, .int (iI v2))] → W p l e { frames := 1, cells := 0, slots := 0, locals := 22 } s m args below meth c H locs 0 0 (MQ below (gQi G q.1 q.2) args s 0 0 (gA G)) (F0 m 27 ls [.int (iI xs1_27), .ref (gAd G 29 0)]) := by
    intro xs1_27 bxs1_27 hf H locs ls hH hS hl
    subst ek27
    refine gGoZ (gRunV X hH (As := [.int (iI xs1_27)]) (m_X12_asked l G xs1_27 bxs1_27 M _ rfl) calX12_asked k_1393 k_30 k_1391 (by decide) cX12 rfl ⟨by decide, by decide⟩ rfl hl rfl (Nat.le_of_ble_eq_true rfl) ⟨Nat.le_of_ble_eq_true rfl, Nat.le_of_ble_eq_true rfl⟩ dX12_write_27) hS (fun H locs br27 hH hS => ?_)
    refine g_if_ne X (nmI_b br27) (tgt := 35) dX12_write_30 (by decide) (fun hc30 => ?_) (fun hc30 => ?_)
    · replace hf := it_f hf hc30
      refine lv_aload_n X.1 X.2.1 dX12_write_35 rfl (lv_at hl.1 0 rfl) ?_
      refine g_get X cX12 hH (r := 29) (i := 0) (by decide) rfl 1 (by decide) k_1211 rfl (v := .ref (gAd G 30 0)) rfl dX12_write_36 ?_
      refine lv_iload_n X.1 X.2.1 dX12_write_39 rfl (lv_at hl.1 1 rfl) ?_
      obtain ⟨hg, hf_⟩ := og_e hf; clear hf; have hf := hf_; clear hf_
      have nd40 : nmI (((f_X12_asked xs1_27 M).2) 30 0 v1.toNat) := hH.1.1 _ _ _
      refine g_iald X hH (r := 30) (i := 0) (by decide) rfl nv1 hg (v := ((f_X12_asked xs1_27 M).2) 30 0 v1.toNat) rfl dX12_write_40 ?_
      refine g_istore_n X (lv' := [(3, .int (iI (((f_X12_asked xs1_27 M).2) 30 0 v1.toNat))), (0, .ref (gAd G 29 0)), (1, .int (iI v1)), (2, .int (iI v2))]) dX12_write_41 rfl hl (by decide) rfl (fun ls hl => ?_)
      refine lv_iload_n X.1 X.2.1 dX12_write_42 rfl (lv_at hl.1 0 rfl) ?_
      refine lv_iload_n X.1 X.2.1 dX12_write_43 rfl (lv_at hl.1 3 rfl) ?_
      refine g_icmp_eq X nd40 nv2 (tgt := 153) dX12_write_44 (by decide) (fun hc44 => ?_) (fun hc44 => ?_)
      · replace hf := it_t hf hc44
        refine lv_iload_n X.1 X.2.1 dX12_write_153 rfl (lv_at hl.1 0 rfl) ?_
        have hq := Option.some.inj hf; subst hq
        exact gRetI X hH hS (res := ((f_X12_asked xs1_27 M).2) 30 0 v1.toNat) nd40 dX12_write_154
      · replace hf := it_f hf hc44
        refine lv_aload_n X.1 X.2.1 dX12_write_47 rfl (lv_at hl.1 1 rfl) ?_
        have nd48 : nmI (((f_X12_asked xs1_27 M).2) 29 0 4) := hH.1.1 _ _ _
        refine g_get X cX12 hH (r := 29) (i := 0) (by decide) rfl 4 (by decide) k_1214 rfl (v := .int (iI (((f_X12_asked xs1_27 M).2) 29 0 4))) rfl dX12_write_48 ?_
        refine lv_bipush X.1 X.2.1 dX12_write_51 (v := iI 30) (by decide) ?_
        obtain ⟨k116, ek116, hf_⟩ := oj_e hf; clear hf; have hf := hf_; clear hf_
        have hk116 : ∀  (M_116 : gM), k116 M_116 = some q → ∀ (H : Heap) (locs : List Loc) (ls : Array Slot), gH G M_116 H → va_S (gA G) s.heap H locs → gLv ls 5 [(0, .ref (gAd G 29 0)), (1, .int (iI v1)), (2, .int (iI v2)), (3, .int (iI (((f_X12_asked xs1_27 M).2) 30 0 v1.toNat)))] → W p l e { frames := 1, cells := 0, slots := 0, locals := 22 } s m args below meth c H locs 0 0 (MQ below (gQi G q.1 q.2) args s 0 0 (gA G)) (F0 m 116 ls []) := by
          intro  M_116 hf H locs ls hH hS hl
          subst ek116
          refine lv_aload_n X.1 X.2.1 dX12_write_116 rfl (lv_at hl.1 0 rfl) ?_
          refine g_get X cX12 hH (r := 29) (i := 0) (by decide) rfl 5 (by decide) k_1215 rfl (v := .ref (gAd G 33 0)) rfl dX12_write_117 ?_
          refine lv_aload_n X.1 X.2.1 dX12_write_120 rfl (lv_at hl.1 0 rfl) ?_
          have nd121 : nmI (M_116 29 0 4) := hH.1.1 _ _ _
          refine g_get X cX12 hH (r := 29) (i := 0) (by decide) rfl 4 (by decide) k_1214 rfl (v := .int (iI (M_116 29 0 4))) rfl dX12_write_121 ?_
          refine lv_iload_n X.1 X.2.1 dX12_write_124 rfl (lv_at hl.1 1 rfl) ?_
          obtain ⟨hg, hf_⟩ := og_e hf; clear hf; have hf := hf_; clear hf_
          refine g_iast X hH hS (r := 33) (i := 0) (by decide) (fun _ => rfl) nd121 hg nv1 rfl (by decide) dX12_write_125 (fun H locs hH hS => ?_)
          refine lv_aload_n X.1 X.2.1 dX12_write_126 rfl (lv_at hl.1 0 rfl) ?_
          refine g_get X cX12 hH (r := 29) (i := 0) (by decide) rfl 6 (by decide) k_1216 rfl (v := .ref (gAd G 34 0)) rfl dX12_write_127 ?_
          refine lv_aload_n X.1 X.2.1 dX12_write_130 rfl (lv_at hl.1 0 rfl) ?_
          have nd131 : nmI ((gU M_116 33 0 (M_116 29 0 4).toNat v1) 29 0 4) := hH.1.1 _ _ _
          refine g_get X cX12 hH (r := 29) (i := 0) (by decide) rfl 4 (by decide) k_1214 rfl (v := .int (iI ((gU M_116 33 0 (M_116 29 0 4).toNat v1) 29 0 4))) rfl dX12_write_131 ?_
          refine lv_iload_n X.1 X.2.1 dX12_write_134 rfl (lv_at hl.1 3 rfl) ?_
          obtain ⟨hg, hf_⟩ := og_e hf; clear hf; have hf := hf_; clear hf_
          refine g_iast X hH hS (r := 34) (i := 0) (by decide) (fun _ => rfl) nd131 hg nd40 rfl (by decide) dX12_write_135 (fun H locs hH hS => ?_)
          refine lv_aload_n X.1 X.2.1 dX12_write_136 rfl (lv_at hl.1 0 rfl) ?_
          refine lv_dup X.1 X.2.1 dX12_write_137 rfl ?_
          have nd138 : nmI ((gU (gU M_116 33 0 (M_116 29 0 4).toNat v1) 34 0 ((gU M_116 33 0 (M_116 29 0 4).toNat v1) 29 0 4).toNat (((f_X12_asked xs1_27 M).2) 30 0 v1.toNat)) 29 0 4) := hH.1.1 _ _ _
          refine g_get X cX12 hH (r := 29) (i := 0) (by decide) rfl 4 (by decide) k_1214 rfl (v := .int (iI ((gU (gU M_116 33 0 (M_116 29 0 4).toNat v1) 34 0 ((gU M_116 33 0 (M_116 29 0 4).toNat v1) 29 0 4).toNat (((f_X12_asked xs1_27 M).2) 30 0 v1.toNat)) 29 0 4))) rfl dX12_write_138 ?_
          refine lv_iconst X.1 X.2.1 dX12_write_141 (v := iI 1) rfl ?_
          refine g_iadd X dX12_write_142 ?_
          refine g_putI X cX12 hH hS (r := 29) (i := 0) (by decide) rfl 4 (by decide) k_1214 rfl rfl rfl (Nat.le_of_ble_eq_true rfl) (x := wI (((gU (gU M_116 33 0 (M_116 29 0 4).toNat v1) 34 0 ((gU M_116 33 0 (M_116 29 0 4).toNat v1) 29 0 4).toNat (((f_X12_asked xs1_27 M).2) 30 0 v1.toNat)) 29 0 4) + 1)) (nmI_w _) rfl rfl rfl dX12_write_143 (fun H locs hH hS => ?_)
          refine lv_aload_n X.1 X.2.1 dX12_write_146 rfl (lv_at hl.1 0 rfl) ?_
          refine g_get X cX12 hH (r := 29) (i := 0) (by decide) rfl 1 (by decide) k_1211 rfl (v := .ref (gAd G 30 0)) rfl dX12_write_147 ?_
          refine lv_iload_n X.1 X.2.1 dX12_write_150 rfl (lv_at hl.1 1 rfl) ?_
          refine lv_iload_n X.1 X.2.1 dX12_write_151 rfl (lv_at hl.1 2 rfl) ?_
          obtain ⟨hg, hf_⟩ := og_e hf; clear hf; have hf := hf_; clear hf_
          refine g_iast X hH hS (r := 30) (i := 0) (by decide) (fun _ => rfl) nv1 hg nv2 rfl (by decide) dX12_write_152 (fun H locs hH hS => ?_)
          refine lv_iload_n X.1 X.2.1 dX12_write_153 rfl (lv_at hl.1 3 rfl) ?_
          have hq := Option.some.inj hf; subst hq
          exact gRetI X hH hS (res := ((f_X12_asked xs1_27 M).2) 30 0 v1.toNat) nd40 dX12_write_154
        clear ek116
        refine g_icmp_ne X nd48 (nmI_l (by decide)) (tgt := 116) dX12_write_53 (by decide) (fun hc53 => ?_) (fun hc53 => ?_)
        · replace hf := it_f hf hc53
          exact hk116 ((f_X12_asked xs1_27 M).2) hf _ _ _ hH hS (gLv_sub hl [1, 2, 3, 0] rfl)
        · replace hf := it_t hf hc53
          refine lv_aload_n X.1 X.2.1 dX12_write_56 rfl (lv_at hl.1 1 rfl) ?_
          refine lv_dup X.1 X.2.1 dX12_write_57 rfl ?_
          have nd58 : nmI (((f_X12_asked xs1_27 M).2) 29 0 4) := hH.1.1 _ _ _
          refine g_get X cX12 hH (r := 29) (i := 0) (by decide) rfl 4 (by decide) k_1214 rfl (v := .int (iI (((f_X12_asked xs1_27 M).2) 29 0 4))) rfl dX12_write_58 ?_
          refine lv_iconst X.1 X.2.1 dX12_write_61 (v := iI 1) rfl ?_
          refine g_isub X dX12_write_62 ?_
          refine g_putI X cX12 hH hS (r := 29) (i := 0) (by decide) rfl 4 (by decide) k_1214 rfl rfl rfl (Nat.le_of_ble_eq_true rfl) (x := wI ((((f_X12_asked xs1_27 M).2) 29 0 4) - 1)) (nmI_w _) rfl rfl rfl dX12_write_63 (fun H locs hH hS => ?_)
          refine lv_iconst X.1 X.2.1 dX12_write_66 (v := iI 0) rfl ?_
          refine g_istore X (lv' := [(4, .int (iI 0)), (3, .int (iI (((f_X12_asked xs1_27 M).2) 30 0 v1.toNat))), (0, .ref (gAd G 29 0)), (1, .int (iI v1)), (2, .int (iI v2))]) dX12_write_67 hl (by decide) rfl (fun ls hl => ?_)
          refine w_X12_write_L69 X _ v1 nv1 v2 nv2 (((f_X12_asked xs1_27 M).2) 30 0 v1.toNat) nd40 q ?_ 64 0 (nmI_l (by decide)) (gU ((f_X12_asked xs1_27 M).2) 29 0 4 (wI ((((f_X12_asked xs1_27 M).2) 29 0 4) - 1))) hf _ _ _ hH hS (gLv_sub hl [2, 3, 4, 1, 0] rfl)
          · intro  M_69_116 hf H locs ls hH hS hl
            exact hk116 M_69_116 hf _ _ _ hH hS (gLv_sub hl [0, 1, 2, 3] rfl)
    · replace hf := it_t hf hc30
      refine lv_iconst X.1 X.2.1 dX12_write_33 (v := iI 0) rfl ?_
      have hq := Option.some.inj hf; subst hq
      exact gRetI X hH hS (res := 0) (nmI_l (by decide)) dX12_write_34
  clear ek27
  obtain ⟨k26, ek26, hf_⟩ := oj_e hf; clear hf; have hf := hf_; clear hf_
  have hk26 : k26 = some q → ∀ (H : Heap) (locs : List Loc) (ls : Array Slot), gH G M H → va_S (gA G) s.heap H locs → gLv ls 5 [(0, .ref (gAd G 29 0)), (1, .int (iI v1)), (2, .int (iI v2))] → W p l e { frames := 1, cells := 0, slots := 0, locals := 22 } s m args below meth c H locs 0 0 (MQ below (gQi G q.1 q.2) args s 0 0 (gA G)) (F0 m 26 ls [.ref (gAd G 29 0)]) := by
    intro  hf H locs ls hH hS hl
    subst ek26
    refine lv_iconst X.1 X.2.1 dX12_write_26 (v := iI 0) rfl ?_
    exact hk27 0 (by decide) hf _ _ _ hH hS (gLv_sub hl [0, 1, 2] rfl)
  clear ek26
  refine g_if_eq X (nmI_b br5) (tgt := 26) dX12_write_8 (by decide) (fun hc8 => ?_) (fun hc8 => ?_)
  · replace hf := it_t hf hc8
    exact hk26  hf _ _ _ hH hS (gLv_sub hl [0, 1, 2] rfl)
  · replace hf := it_f hf hc8
    refine lv_iload_n X.1 X.2.1 dX12_write_11 rfl (lv_at hl.1 2 rfl) ?_
    refine lv_iconst X.1 X.2.1 dX12_write_12 (v := iI 0) rfl ?_
    refine lv_sipush X.1 X.2.1 dX12_write_13 (v := iI 999) (by decide) ?_
    refine gGoZ (gRunS X hH (As := [.int (iI v2), .int (iI 0), .int (iI 999)]) (m_X12_in l G v2 nv2 0 (nmI_l (by decide)) 999 (nmI_l (by decide)) M _ rfl) calX12_in k_1389 k_1388 ⟨by decide, by decide⟩ rfl hl rfl (Nat.le_of_ble_eq_true rfl) ⟨Nat.le_of_ble_eq_true rfl, Nat.le_of_ble_eq_true rfl⟩ dX12_write_16) hS (fun H locs br16 hH hS => ?_)
    refine g_if_eq X (nmI_b br16) (tgt := 26) dX12_write_19 (by decide) (fun hc19 => ?_) (fun hc19 => ?_)
    · replace hf := it_t hf hc19
      exact hk26  hf _ _ _ hH hS (gLv_sub hl [0, 1, 2] rfl)
    · replace hf := it_f hf hc19
      refine lv_iconst X.1 X.2.1 dX12_write_22 (v := iI 1) rfl ?_
      refine lv_goto (tgt := 27) X.1 X.2.1 dX12_write_23 (by decide) ?_
      exact hk27 1 (by decide) hf _ _ _ hH hS (gLv_sub hl [0, 1, 2] rfl)
theorem m_X12_asked_ (l : Launch) (G : gG) (v1 : Int) (bv1 : v1 = 0 ∨ v1 = 1) (v2 : Int) (bv2 : v2 = 0 ∨ v2 = 1) (M : gM) (q : (Int × gM)) (hf : f_X12_asked_ v1 v2 M = q) : gMet l yX12_asked_ cX12_asked_ 3 (some .boolean) 0 0 G M [.ref (gAd G 29 0), .int (iI v1), .int (iI v2)] (gQz G q.1 q.2) := by
  refine gOfW (by decide) (by show _ ≤ 3; exact Nat.le_of_ble_eq_true rfl) rfl ?_
  intro p e s m below meth c X hH ls hl
  replace hl : gLv ls 3 [(0, .ref (gAd G 29 0)), (1, .int (iI v1)), (2, .int (iI v2))] := hl
  have hS : va_S (gA G) s.heap s.heap [] := va_S.rf
  generalize hargs : ([.ref (gAd G 29 0), .int (iI v1), .int (iI v2)] : List Value).toArray = args at X ⊢
  clear hargs
  unfold f_X12_asked_ at hf
  refine lv_aload_n X.1 X.2.1 dX12_asked__0 rfl (lv_at hl.1 0 rfl) ?_
  refine lv_iload_n X.1 X.2.1 dX12_asked__1 rfl (lv_at hl.1 1 rfl) ?_
  obtain ⟨k18, ek18, hf_⟩ := oj_e hf; clear hf; have hf := hf_; clear hf_
  have hk18 : ∀ (xs1_18 : Int) (nxs1_18 : nmI xs1_18), k18 xs1_18 = q → ∀ (H : Heap) (locs : List Loc) (ls : Array Slot), gH G M H → va_S (gA G) s.heap H locs → gLv ls 3 [(0, .ref (gAd G 29 0))] → W p l e { frames := 0, cells := 0, slots := 0, locals := 0 } s m args below meth c H locs 0 0 (MQ below (gQz G q.1 q.2) args s 0 0 (gA G)) (F0 m 18 ls [.int (iI xs1_18), .ref (gAd G 29 0)]) := by
    intro xs1_18 nxs1_18 hf H locs ls hH hS hl
    subst ek18
    refine g_putI X cX12 hH hS (r := 29) (i := 0) (by decide) rfl 0 (by decide) k_1210 rfl rfl rfl (Nat.le_of_ble_eq_true rfl) (x := xs1_18) nxs1_18 rfl rfl rfl dX12_asked__18 (fun H locs hH hS => ?_)
    refine lv_aload_n X.1 X.2.1 dX12_asked__21 rfl (lv_at hl.1 0 rfl) ?_
    have nd22 : nmI ((gU M 29 0 0 xs1_18) 29 0 0) := hH.1.1 _ _ _
    refine g_get X cX12 hH (r := 29) (i := 0) (by decide) rfl 0 (by decide) k_1210 rfl (v := .int (iI ((gU M 29 0 0 xs1_18) 29 0 0))) rfl dX12_asked__22 ?_
    refine g_if_ne X nd22 (tgt := 32) dX12_asked__25 (by decide) (fun hc25 => ?_) (fun hc25 => ?_)
    · replace hf := it_f hf hc25
      refine lv_iconst X.1 X.2.1 dX12_asked__32 (v := iI 0) rfl ?_
      subst hf
      exact gRetZ X hH hS (res := 0) (by decide) dX12_asked__33
    · replace hf := it_t hf hc25
      refine lv_iconst X.1 X.2.1 dX12_asked__28 (v := iI 1) rfl ?_
      refine lv_goto (tgt := 33) X.1 X.2.1 dX12_asked__29 (by decide) ?_
      subst hf
      exact gRetZ X hH hS (res := 1) (by decide) dX12_asked__33
  clear ek18
  refine g_if_ne X (nmI_b bv1) (tgt := 9) dX12_asked__2 (by decide) (fun hc2 => ?_) (fun hc2 => ?_)
  · replace hf := it_f hf hc2
    refine lv_iload_n X.1 X.2.1 dX12_asked__9 rfl (lv_at hl.1 2 rfl) ?_
    refine g_if_eq X (nmI_b bv2) (tgt := 17) dX12_asked__10 (by decide) (fun hc10 => ?_) (fun hc10 => ?_)
    · replace hf := it_t hf hc10
      refine lv_iconst X.1 X.2.1 dX12_asked__17 (v := iI 2) rfl ?_
      exact hk18 2 (nmI_l (by decide)) hf _ _ _ hH hS (gLv_sub hl [0] rfl)
    · replace hf := it_f hf hc10
      refine lv_iconst X.1 X.2.1 dX12_asked__13 (v := iI 0) rfl ?_
      refine lv_goto (tgt := 18) X.1 X.2.1 dX12_asked__14 (by decide) ?_
      exact hk18 0 (nmI_l (by decide)) hf _ _ _ hH hS (gLv_sub hl [0] rfl)
  · replace hf := it_t hf hc2
    refine lv_iconst X.1 X.2.1 dX12_asked__5 (v := iI 1) rfl ?_
    refine lv_goto (tgt := 18) X.1 X.2.1 dX12_asked__6 (by decide) ?_
    exact hk18 1 (nmI_l (by decide)) hf _ _ _ hH hS (gLv_sub hl [0] rfl)
theorem m_X12_set (l : Launch) (G : gG) (v1 : Int) (nv1 : nmI v1) (v2 : Int) (nv2 : nmI v2) (M : gM) (q : (Int × gM)) (hf : f_X12_set v1 v2 M = some q) : gMet l yX12_set cX12_set 4 (some .int) 1 22 G M [.ref (gAd G 29 0), .int (iI v1), .int (iI v2)] (gQi G q.1 q.2) := by
  refine gOfW (by decide) (by show _ ≤ 4; exact Nat.le_of_ble_eq_true rfl) rfl ?_
  intro p e s m below meth c X hH ls hl
  replace hl : gLv ls 4 [(0, .ref (gAd G 29 0)), (1, .int (iI v1)), (2, .int (iI v2))] := hl
  have hS : va_S (gA G) s.heap s.heap [] := va_S.rf
  generalize hargs : ([.ref (gAd G 29 0), .int (iI v1), .int (iI v2)] : List Value).toArray = args at X ⊢
  clear hargs
  unfold f_X12_set at hf
  refine lv_aload_n X.1 X.2.1 dX12_set_0 rfl (lv_at hl.1 0 rfl) ?_
  refine lv_iload_n X.1 X.2.1 dX12_set_1 rfl (lv_at hl.1 1 rfl) ?_
  refine lv_iconst X.1 X.2.1 dX12_set_2 (v := iI 0) rfl ?_
  refine lv_iconst X.1 X.2.1 dX12_set_3 (v := iI 3) rfl ?_
  refine gGoZ (gRunS X hH (As := [.int (iI v1), .int (iI 0), .int (iI 3)]) (m_X12_in l G v1 nv1 0 (nmI_l (by decide)) 3 (nmI_l (by decide)) M _ rfl) calX12_in k_1389 k_1388 ⟨by decide, by decide⟩ rfl hl rfl (Nat.le_of_ble_eq_true rfl) ⟨Nat.le_of_ble_eq_true rfl, Nat.le_of_ble_eq_true rfl⟩ dX12_set_4) hS (fun H locs br4 hH hS => ?_)
  obtain ⟨k25, ek25, hf_⟩ := oj_e hf; clear hf; have hf := hf_; clear hf_
  have hk25 : ∀ (xs1_25 : Int) (bxs1_25 : xs1_25 = 0 ∨ xs1_25 = 1), k25 xs1_25 = some q → ∀ (H : Heap) (locs : List Loc) (ls : Array Slot), gH G M H → va_S (gA G) s.heap H locs → gLv ls 4 [(0, .ref (gAd G 29 0)), (1, .int (iI v1)), (2, .int (iI v2))] → W p l e { frames := 1, cells := 0, slots := 0, locals := 22 } s m args below meth c H locs 0 0 (MQ below (gQi G q.1 q.2) args s 0 0 (gA G)) (F0 m 25 ls [.int (iI xs1_25), .ref (gAd G 29 0)]) := by
    intro xs1_25 bxs1_25 hf H locs ls hH hS hl
    subst ek25
    refine lv_aload_n X.1 X.2.1 dX12_set_25 rfl (lv_at hl.1 0 rfl) ?_
    have nd26 : nmI (M 29 0 36) := hH.1.1 _ _ _
    have bd26 := hH.1.2.1 29 0 36 rfl
    refine g_get X cX12 hH (r := 29) (i := 0) (by decide) rfl 36 (by decide) k_1246 rfl (v := .int (iI (M 29 0 36))) rfl dX12_set_26 ?_
    obtain ⟨k37, ek37, hf_⟩ := oj_e hf; clear hf; have hf := hf_; clear hf_
    have hk37 : ∀ (xs2_37 : Int) (bxs2_37 : xs2_37 = 0 ∨ xs2_37 = 1), k37 xs2_37 = some q → ∀ (H : Heap) (locs : List Loc) (ls : Array Slot), gH G M H → va_S (gA G) s.heap H locs → gLv ls 4 [(0, .ref (gAd G 29 0)), (1, .int (iI v1)), (2, .int (iI v2))] → W p l e { frames := 1, cells := 0, slots := 0, locals := 22 } s m args below meth c H locs 0 0 (MQ below (gQi G q.1 q.2) args s 0 0 (gA G)) (F0 m 37 ls [.int (iI xs2_37), .int (iI xs1_25), .ref (gAd G 29 0)]) := by
      intro xs2_37 bxs2_37 hf H locs ls hH hS hl
      subst ek37
      refine gGoZ (gRunV X hH (As := [.int (iI xs1_25), .int (iI xs2_37)]) (m_X12_asked_ l G xs1_25 bxs1_25 xs2_37 bxs2_37 M _ rfl) calX12_asked_ k_1401 k_31 k_1399 (by decide) cX12 rfl ⟨by decide, by decide⟩ rfl hl rfl (Nat.le_of_ble_eq_true rfl) ⟨Nat.le_of_ble_eq_true rfl, Nat.le_of_ble_eq_true rfl⟩ dX12_set_37) hS (fun H locs br37 hH hS => ?_)
      refine g_if_ne X (nmI_b br37) (tgt := 45) dX12_set_40 (by decide) (fun hc40 => ?_) (fun hc40 => ?_)
      · replace hf := it_f hf hc40
        refine lv_aload_n X.1 X.2.1 dX12_set_45 rfl (lv_at hl.1 0 rfl) ?_
        refine g_get X cX12 hH (r := 29) (i := 0) (by decide) rfl 2 (by decide) k_1212 rfl (v := .ref (gAd G 31 0)) rfl dX12_set_46 ?_
        refine lv_iload_n X.1 X.2.1 dX12_set_49 rfl (lv_at hl.1 1 rfl) ?_
        obtain ⟨hg, hf_⟩ := og_e hf; clear hf; have hf := hf_; clear hf_
        have nd50 : nmI (((f_X12_asked_ xs1_25 xs2_37 M).2) 31 0 v1.toNat) := hH.1.1 _ _ _
        refine g_iald X hH (r := 31) (i := 0) (by decide) rfl nv1 hg (v := ((f_X12_asked_ xs1_25 xs2_37 M).2) 31 0 v1.toNat) rfl dX12_set_50 ?_
        refine g_istore_n X (lv' := [(3, .int (iI (((f_X12_asked_ xs1_25 xs2_37 M).2) 31 0 v1.toNat))), (0, .ref (gAd G 29 0)), (1, .int (iI v1)), (2, .int (iI v2))]) dX12_set_51 rfl hl (by decide) rfl (fun ls hl => ?_)
        refine lv_aload_n X.1 X.2.1 dX12_set_52 rfl (lv_at hl.1 1 rfl) ?_
        refine g_get X cX12 hH (r := 29) (i := 0) (by decide) rfl 2 (by decide) k_1212 rfl (v := .ref (gAd G 31 0)) rfl dX12_set_53 ?_
        refine lv_iload_n X.1 X.2.1 dX12_set_56 rfl (lv_at hl.1 2 rfl) ?_
        refine lv_iload_n X.1 X.2.1 dX12_set_57 rfl (lv_at hl.1 3 rfl) ?_
        obtain ⟨hg, hf_⟩ := og_e hf; clear hf; have hf := hf_; clear hf_
        refine g_iast X hH hS (r := 31) (i := 0) (by decide) (fun _ => rfl) nv1 hg nv2 rfl (by decide) dX12_set_58 (fun H locs hH hS => ?_)
        refine lv_iload_n X.1 X.2.1 dX12_set_59 rfl (lv_at hl.1 0 rfl) ?_
        have hq := Option.some.inj hf; subst hq
        exact gRetI X hH hS (res := ((f_X12_asked_ xs1_25 xs2_37 M).2) 31 0 v1.toNat) nd50 dX12_set_60
      · replace hf := it_t hf hc40
        refine lv_iconst X.1 X.2.1 dX12_set_43 (v := iI 0) rfl ?_
        have hq := Option.some.inj hf; subst hq
        exact gRetI X hH hS (res := 0) (nmI_l (by decide)) dX12_set_44
    clear ek37
    refine g_if_ne X nd26 (tgt := 36) dX12_set_29 (by decide) (fun hc29 => ?_) (fun hc29 => ?_)
    · replace hf := it_f hf hc29
      refine lv_iconst X.1 X.2.1 dX12_set_36 (v := iI 0) rfl ?_
      exact hk37 0 (by decide) hf _ _ _ hH hS (gLv_sub hl [0, 1, 2] rfl)
    · replace hf := it_t hf hc29
      refine lv_iconst X.1 X.2.1 dX12_set_32 (v := iI 1) rfl ?_
      refine lv_goto (tgt := 37) X.1 X.2.1 dX12_set_33 (by decide) ?_
      exact hk37 1 (by decide) hf _ _ _ hH hS (gLv_sub hl [0, 1, 2] rfl)
  clear ek25
  obtain ⟨k24, ek24, hf_⟩ := oj_e hf; clear hf; have hf := hf_; clear hf_
  have hk24 : k24 = some q → ∀ (H : Heap) (locs : List Loc) (ls : Array Slot), gH G M H → va_S (gA G) s.heap H locs → gLv ls 4 [(0, .ref (gAd G 29 0)), (1, .int (iI v1)), (2, .int (iI v2))] → W p l e { frames := 1, cells := 0, slots := 0, locals := 22 } s m args below meth c H locs 0 0 (MQ below (gQi G q.1 q.2) args s 0 0 (gA G)) (F0 m 24 ls [.ref (gAd G 29 0)]) := by
    intro  hf H locs ls hH hS hl
    subst ek24
    refine lv_iconst X.1 X.2.1 dX12_set_24 (v := iI 0) rfl ?_
    exact hk25 0 (by decide) hf _ _ _ hH hS (gLv_sub hl [0, 1, 2] rfl)
  clear ek24
  refine g_if_eq X (nmI_b br4) (tgt := 24) dX12_set_7 (by decide) (fun hc7 => ?_) (fun hc7 => ?_)
  · replace hf := it_t hf hc7
    exact hk24  hf _ _ _ hH hS (gLv_sub hl [0, 1, 2] rfl)
  · replace hf := it_f hf hc7
    refine lv_iload_n X.1 X.2.1 dX12_set_10 rfl (lv_at hl.1 2 rfl) ?_
    refine lv_iconst X.1 X.2.1 dX12_set_11 (v := iI 0) rfl ?_
    refine lv_bipush X.1 X.2.1 dX12_set_12 (v := iI 9) (by decide) ?_
    refine gGoZ (gRunS X hH (As := [.int (iI v2), .int (iI 0), .int (iI 9)]) (m_X12_in l G v2 nv2 0 (nmI_l (by decide)) 9 (nmI_l (by decide)) M _ rfl) calX12_in k_1389 k_1388 ⟨by decide, by decide⟩ rfl hl rfl (Nat.le_of_ble_eq_true rfl) ⟨Nat.le_of_ble_eq_true rfl, Nat.le_of_ble_eq_true rfl⟩ dX12_set_14) hS (fun H locs br14 hH hS => ?_)
    refine g_if_eq X (nmI_b br14) (tgt := 24) dX12_set_17 (by decide) (fun hc17 => ?_) (fun hc17 => ?_)
    · replace hf := it_t hf hc17
      exact hk24  hf _ _ _ hH hS (gLv_sub hl [0, 1, 2] rfl)
    · replace hf := it_f hf hc17
      refine lv_iconst X.1 X.2.1 dX12_set_20 (v := iI 1) rfl ?_
      refine lv_goto (tgt := 25) X.1 X.2.1 dX12_set_21 (by decide) ?_
      exact hk25 1 (by decide) hf _ _ _ hH hS (gLv_sub hl [0, 1, 2] rfl)
theorem m_X12_setTool (l : Launch) (G : gG) (v1 : Int) (nv1 : nmI v1) (v2 : Int) (nv2 : nmI v2) (M : gM) (q : (Int × gM)) (hf : f_X12_setTool v1 v2 M = some q) : gMet l yX12_setTool cX12_setTool 4 (some .int) 1 22 G M [.ref (gAd G 29 0), .int (iI v1), .int (iI v2)] (gQi G q.1 q.2) := by
  refine gOfW (by decide) (by show _ ≤ 4; exact Nat.le_of_ble_eq_true rfl) rfl ?_
  intro p e s m below meth c X hH ls hl
  replace hl : gLv ls 4 [(0, .ref (gAd G 29 0)), (1, .int (iI v1)), (2, .int (iI v2))] := hl
  have hS : va_S (gA G) s.heap s.heap [] := va_S.rf
  generalize hargs : ([.ref (gAd G 29 0), .int (iI v1), .int (iI v2)] : List Value).toArray = args at X ⊢
  clear hargs
  unfold f_X12_setTool at hf
  refine lv_aload_n X.1 X.2.1 dX12_setTool_0 rfl (lv_at hl.1 0 rfl) ?_
  refine lv_iload_n X.1 X.2.1 dX12_setTool_1 rfl (lv_at hl.1 1 rfl) ?_
  refine lv_iconst X.1 X.2.1 dX12_setTool_2 (v := iI 0) rfl ?_
  refine lv_iconst X.1 X.2.1 dX12_setTool_3 (v := iI 3) rfl ?_
  refine gGoZ (gRunS X hH (As := [.int (iI v1), .int (iI 0), .int (iI 3)]) (m_X12_in l G v1 nv1 0 (nmI_l (by decide)) 3 (nmI_l (by decide)) M _ rfl) calX12_in k_1389 k_1388 ⟨by decide, by decide⟩ rfl hl rfl (Nat.le_of_ble_eq_true rfl) ⟨Nat.le_of_ble_eq_true rfl, Nat.le_of_ble_eq_true rfl⟩ dX12_setTool_4) hS (fun H locs br4 hH hS => ?_)
  obtain ⟨k25, ek25, hf_⟩ := oj_e hf; clear hf; have hf := hf_; clear hf_
  have hk25 : ∀ (xs1_25 : Int) (bxs1_25 : xs1_25 = 0 ∨ xs1_25 = 1), k25 xs1_25 = some q → ∀ (H : Heap) (locs : List Loc) (ls : Array Slot), gH G M H → va_S (gA G) s.heap H locs → gLv ls 4 [(0, .ref (gAd G 29 0)), (1, .int (iI v1)), (2, .int (iI v2))] → W p l e { frames := 1, cells := 0, slots := 0, locals := 22 } s m args below meth c H locs 0 0 (MQ below (gQi G q.1 q.2) args s 0 0 (gA G)) (F0 m 25 ls [.int (iI xs1_25), .ref (gAd G 29 0)]) := by
    intro xs1_25 bxs1_25 hf H locs ls hH hS hl
    subst ek25
    refine lv_aload_n X.1 X.2.1 dX12_setTool_25 rfl (lv_at hl.1 0 rfl) ?_
    have nd26 : nmI (M 29 0 36) := hH.1.1 _ _ _
    have bd26 := hH.1.2.1 29 0 36 rfl
    refine g_get X cX12 hH (r := 29) (i := 0) (by decide) rfl 36 (by decide) k_1246 rfl (v := .int (iI (M 29 0 36))) rfl dX12_setTool_26 ?_
    obtain ⟨k37, ek37, hf_⟩ := oj_e hf; clear hf; have hf := hf_; clear hf_
    have hk37 : ∀ (xs2_37 : Int) (bxs2_37 : xs2_37 = 0 ∨ xs2_37 = 1), k37 xs2_37 = some q → ∀ (H : Heap) (locs : List Loc) (ls : Array Slot), gH G M H → va_S (gA G) s.heap H locs → gLv ls 4 [(0, .ref (gAd G 29 0)), (1, .int (iI v1)), (2, .int (iI v2))] → W p l e { frames := 1, cells := 0, slots := 0, locals := 22 } s m args below meth c H locs 0 0 (MQ below (gQi G q.1 q.2) args s 0 0 (gA G)) (F0 m 37 ls [.int (iI xs2_37), .int (iI xs1_25), .ref (gAd G 29 0)]) := by
      intro xs2_37 bxs2_37 hf H locs ls hH hS hl
      subst ek37
      refine gGoZ (gRunV X hH (As := [.int (iI xs1_25), .int (iI xs2_37)]) (m_X12_asked_ l G xs1_25 bxs1_25 xs2_37 bxs2_37 M _ rfl) calX12_asked_ k_1401 k_31 k_1399 (by decide) cX12 rfl ⟨by decide, by decide⟩ rfl hl rfl (Nat.le_of_ble_eq_true rfl) ⟨Nat.le_of_ble_eq_true rfl, Nat.le_of_ble_eq_true rfl⟩ dX12_setTool_37) hS (fun H locs br37 hH hS => ?_)
      refine g_if_ne X (nmI_b br37) (tgt := 45) dX12_setTool_40 (by decide) (fun hc40 => ?_) (fun hc40 => ?_)
      · replace hf := it_f hf hc40
        refine lv_aload_n X.1 X.2.1 dX12_setTool_45 rfl (lv_at hl.1 0 rfl) ?_
        refine g_get X cX12 hH (r := 29) (i := 0) (by decide) rfl 3 (by decide) k_1213 rfl (v := .ref (gAd G 32 0)) rfl dX12_setTool_46 ?_
        refine lv_iload_n X.1 X.2.1 dX12_setTool_49 rfl (lv_at hl.1 1 rfl) ?_
        obtain ⟨hg, hf_⟩ := og_e hf; clear hf; have hf := hf_; clear hf_
        have nd50 : nmI (((f_X12_asked_ xs1_25 xs2_37 M).2) 32 0 v1.toNat) := hH.1.1 _ _ _
        refine g_iald X hH (r := 32) (i := 0) (by decide) rfl nv1 hg (v := ((f_X12_asked_ xs1_25 xs2_37 M).2) 32 0 v1.toNat) rfl dX12_setTool_50 ?_
        refine g_istore_n X (lv' := [(3, .int (iI (((f_X12_asked_ xs1_25 xs2_37 M).2) 32 0 v1.toNat))), (0, .ref (gAd G 29 0)), (1, .int (iI v1)), (2, .int (iI v2))]) dX12_setTool_51 rfl hl (by decide) rfl (fun ls hl => ?_)
        refine lv_aload_n X.1 X.2.1 dX12_setTool_52 rfl (lv_at hl.1 1 rfl) ?_
        refine g_get X cX12 hH (r := 29) (i := 0) (by decide) rfl 3 (by decide) k_1213 rfl (v := .ref (gAd G 32 0)) rfl dX12_setTool_53 ?_
        refine lv_iload_n X.1 X.2.1 dX12_setTool_56 rfl (lv_at hl.1 2 rfl) ?_
        refine lv_iload_n X.1 X.2.1 dX12_setTool_57 rfl (lv_at hl.1 3 rfl) ?_
        obtain ⟨hg, hf_⟩ := og_e hf; clear hf; have hf := hf_; clear hf_
        refine g_iast X hH hS (r := 32) (i := 0) (by decide) (fun _ => rfl) nv1 hg nv2 rfl (by decide) dX12_setTool_58 (fun H locs hH hS => ?_)
        refine lv_iload_n X.1 X.2.1 dX12_setTool_59 rfl (lv_at hl.1 0 rfl) ?_
        have hq := Option.some.inj hf; subst hq
        exact gRetI X hH hS (res := ((f_X12_asked_ xs1_25 xs2_37 M).2) 32 0 v1.toNat) nd50 dX12_setTool_60
      · replace hf := it_t hf hc40
        refine lv_iconst X.1 X.2.1 dX12_setTool_43 (v := iI 0) rfl ?_
        have hq := Option.some.inj hf; subst hq
        exact gRetI X hH hS (res := 0) (nmI_l (by decide)) dX12_setTool_44
    clear ek37
    refine g_if_ne X nd26 (tgt := 36) dX12_setTool_29 (by decide) (fun hc29 => ?_) (fun hc29 => ?_)
    · replace hf := it_f hf hc29
      refine lv_iconst X.1 X.2.1 dX12_setTool_36 (v := iI 0) rfl ?_
      exact hk37 0 (by decide) hf _ _ _ hH hS (gLv_sub hl [0, 1, 2] rfl)
    · replace hf := it_t hf hc29
      refine lv_iconst X.1 X.2.1 dX12_setTool_32 (v := iI 1) rfl ?_
      refine lv_goto (tgt := 37) X.1 X.2.1 dX12_setTool_33 (by decide) ?_
      exact hk37 1 (by decide) hf _ _ _ hH hS (gLv_sub hl [0, 1, 2] rfl)
  clear ek25
  obtain ⟨k24, ek24, hf_⟩ := oj_e hf; clear hf; have hf := hf_; clear hf_
  have hk24 : k24 = some q → ∀ (H : Heap) (locs : List Loc) (ls : Array Slot), gH G M H → va_S (gA G) s.heap H locs → gLv ls 4 [(0, .ref (gAd G 29 0)), (1, .int (iI v1)), (2, .int (iI v2))] → W p l e { frames := 1, cells := 0, slots := 0, locals := 22 } s m args below meth c H locs 0 0 (MQ below (gQi G q.1 q.2) args s 0 0 (gA G)) (F0 m 24 ls [.ref (gAd G 29 0)]) := by
    intro  hf H locs ls hH hS hl
    subst ek24
    refine lv_iconst X.1 X.2.1 dX12_setTool_24 (v := iI 0) rfl ?_
    exact hk25 0 (by decide) hf _ _ _ hH hS (gLv_sub hl [0, 1, 2] rfl)
  clear ek24
  refine g_if_eq X (nmI_b br4) (tgt := 24) dX12_setTool_7 (by decide) (fun hc7 => ?_) (fun hc7 => ?_)
  · replace hf := it_t hf hc7
    exact hk24  hf _ _ _ hH hS (gLv_sub hl [0, 1, 2] rfl)
  · replace hf := it_f hf hc7
    refine lv_iload_n X.1 X.2.1 dX12_setTool_10 rfl (lv_at hl.1 2 rfl) ?_
    refine lv_iconst X.1 X.2.1 dX12_setTool_11 (v := iI 0) rfl ?_
    refine lv_bipush X.1 X.2.1 dX12_setTool_12 (v := iI 9) (by decide) ?_
    refine gGoZ (gRunS X hH (As := [.int (iI v2), .int (iI 0), .int (iI 9)]) (m_X12_in l G v2 nv2 0 (nmI_l (by decide)) 9 (nmI_l (by decide)) M _ rfl) calX12_in k_1389 k_1388 ⟨by decide, by decide⟩ rfl hl rfl (Nat.le_of_ble_eq_true rfl) ⟨Nat.le_of_ble_eq_true rfl, Nat.le_of_ble_eq_true rfl⟩ dX12_setTool_14) hS (fun H locs br14 hH hS => ?_)
    refine g_if_eq X (nmI_b br14) (tgt := 24) dX12_setTool_17 (by decide) (fun hc17 => ?_) (fun hc17 => ?_)
    · replace hf := it_t hf hc17
      exact hk24  hf _ _ _ hH hS (gLv_sub hl [0, 1, 2] rfl)
    · replace hf := it_f hf hc17
      refine lv_iconst X.1 X.2.1 dX12_setTool_20 (v := iI 1) rfl ?_
      refine lv_goto (tgt := 25) X.1 X.2.1 dX12_setTool_21 (by decide) ?_
      exact hk25 1 (by decide) hf _ _ _ hH hS (gLv_sub hl [0, 1, 2] rfl)
theorem m_X12_isTarget (l : Launch) (G : gG) (v1 : Int) (nv1 : nmI v1) (M : gM) (q : (Int)) (hf : f_X12_isTarget v1 M = q) : gMet l yX12_isTarget cX12_isTarget 2 (some .boolean) 1 22 G M [.ref (gAd G 29 0), .int (iI v1)] (gQz G q M) := by
  refine gOfW (by decide) (by show _ ≤ 2; exact Nat.le_of_ble_eq_true rfl) rfl ?_
  intro p e s m below meth c X hH ls hl
  replace hl : gLv ls 2 [(0, .ref (gAd G 29 0)), (1, .int (iI v1))] := hl
  have hS : va_S (gA G) s.heap s.heap [] := va_S.rf
  generalize hargs : ([.ref (gAd G 29 0), .int (iI v1)] : List Value).toArray = args at X ⊢
  clear hargs
  unfold f_X12_isTarget at hf
  refine lv_iload_n X.1 X.2.1 dX12_isTarget_0 rfl (lv_at hl.1 1 rfl) ?_
  refine lv_iconst X.1 X.2.1 dX12_isTarget_1 (v := iI 0) rfl ?_
  refine lv_aload_n X.1 X.2.1 dX12_isTarget_2 rfl (lv_at hl.1 0 rfl) ?_
  have nd3 : nmI (M 29 0 7) := hH.1.1 _ _ _
  refine g_get X cX12 hH (r := 29) (i := 0) (by decide) rfl 7 (by decide) k_1217 rfl (v := .int (iI (M 29 0 7))) rfl dX12_isTarget_3 ?_
  refine lv_iconst X.1 X.2.1 dX12_isTarget_6 (v := iI 1) rfl ?_
  refine g_isub X dX12_isTarget_7 ?_
  refine gGoZ (gRunS X hH (As := [.int (iI v1), .int (iI 0), .int (iI (wI ((M 29 0 7) - 1)))]) (m_X12_in l G v1 nv1 0 (nmI_l (by decide)) (wI ((M 29 0 7) - 1)) (nmI_w _) M _ rfl) calX12_in k_1389 k_1388 ⟨by decide, by decide⟩ rfl hl rfl (Nat.le_of_ble_eq_true rfl) ⟨Nat.le_of_ble_eq_true rfl, Nat.le_of_ble_eq_true rfl⟩ dX12_isTarget_8) hS (fun H locs br8 hH hS => ?_)
  subst hf
  exact gRetZ X hH hS (res := (f_X12_in v1 0 (wI ((M 29 0 7) - 1)) M)) br8 dX12_isTarget_11
theorem m_X12_isInput (l : Launch) (G : gG) (v1 : Int) (nv1 : nmI v1) (M : gM) (q : (Int)) (hf : f_X12_isInput v1 M = q) : gMet l yX12_isInput cX12_isInput 2 (some .boolean) 2 43 G M [.ref (gAd G 29 0), .int (iI v1)] (gQz G q M) := by
  refine gOfW (by decide) (by show _ ≤ 2; exact Nat.le_of_ble_eq_true rfl) rfl ?_
  intro p e s m below meth c X hH ls hl
  replace hl : gLv ls 2 [(0, .ref (gAd G 29 0)), (1, .int (iI v1))] := hl
  have hS : va_S (gA G) s.heap s.heap [] := va_S.rf
  generalize hargs : ([.ref (gAd G 29 0), .int (iI v1)] : List Value).toArray = args at X ⊢
  clear hargs
  unfold f_X12_isInput at hf
  refine lv_iload_n X.1 X.2.1 dX12_isInput_0 rfl (lv_at hl.1 1 rfl) ?_
  refine lv_bipush X.1 X.2.1 dX12_isInput_1 (v := iI 16) (by decide) ?_
  obtain ⟨k17, ek17, hf_⟩ := oj_e hf; clear hf; have hf := hf_; clear hf_
  have hk17 : k17 = q → ∀ (H : Heap) (locs : List Loc) (ls : Array Slot), gH G M H → va_S (gA G) s.heap H locs → gLv ls 2 [] → W p l e { frames := 2, cells := 0, slots := 0, locals := 43 } s m args below meth c H locs 0 0 (MQ below (gQz G q M) args s 0 0 (gA G)) (F0 m 17 ls []) := by
    intro  hf H locs ls hH hS hl
    subst ek17
    refine lv_iconst X.1 X.2.1 dX12_isInput_17 (v := iI 1) rfl ?_
    refine lv_goto (tgt := 22) X.1 X.2.1 dX12_isInput_18 (by decide) ?_
    subst hf
    exact gRetZ X hH hS (res := 1) (by decide) dX12_isInput_22
  clear ek17
  refine g_icmp_lt X nv1 (nmI_l (by decide)) (tgt := 17) dX12_isInput_3 (by decide) (fun hc3 => ?_) (fun hc3 => ?_)
  · replace hf := it_t hf hc3
    exact hk17  hf _ _ _ hH hS (gLv_sub hl [] rfl)
  · replace hf := it_f hf hc3
    refine lv_aload_n X.1 X.2.1 dX12_isInput_6 rfl (lv_at hl.1 0 rfl) ?_
    refine lv_iload_n X.1 X.2.1 dX12_isInput_7 rfl (lv_at hl.1 1 rfl) ?_
    refine lv_bipush X.1 X.2.1 dX12_isInput_8 (v := iI 16) (by decide) ?_
    refine g_isub X dX12_isInput_10 ?_
    refine gGoZ (gRunV X hH (As := [.int (iI (wI (v1 - 16)))]) (m_X12_isTarget l G (wI (v1 - 16)) (nmI_w _) M _ rfl) calX12_isTarget k_1417 k_33 k_1415 (by decide) cX12 rfl ⟨by decide, by decide⟩ rfl hl rfl (Nat.le_of_ble_eq_true rfl) ⟨Nat.le_of_ble_eq_true rfl, Nat.le_of_ble_eq_true rfl⟩ dX12_isInput_11) hS (fun H locs br11 hH hS => ?_)
    refine g_if_eq X (nmI_b br11) (tgt := 21) dX12_isInput_14 (by decide) (fun hc14 => ?_) (fun hc14 => ?_)
    · replace hf := it_t hf hc14
      refine lv_iconst X.1 X.2.1 dX12_isInput_21 (v := iI 0) rfl ?_
      subst hf
      exact gRetZ X hH hS (res := 0) (by decide) dX12_isInput_22
    · replace hf := it_f hf hc14
      exact hk17  hf _ _ _ hH hS (gLv_sub hl [] rfl)
theorem m_X12_input (l : Launch) (G : gG) (v1 : Int) (nv1 : nmI v1) (v2 : Int) (nv2 : nmI v2) (v3 : Int) (nv3 : nmI v3) (v4 : Int) (nv4 : nmI v4) (M : gM) (q : (Int × gM)) (hf : f_X12_input v1 v2 v3 v4 M = some q) : gMet l yX12_input cX12_input 7 (some .int) 3 64 G M [.ref (gAd G 29 0), .int (iI v1), .int (iI v2), .int (iI v3), .int (iI v4)] (gQi G q.1 q.2) := by
  refine gOfW (by decide) (by show _ ≤ 7; exact Nat.le_of_ble_eq_true rfl) rfl ?_
  intro p e s m below meth c X hH ls hl
  replace hl : gLv ls 7 [(0, .ref (gAd G 29 0)), (1, .int (iI v1)), (2, .int (iI v2)), (3, .int (iI v3)), (4, .int (iI v4))] := hl
  have hS : va_S (gA G) s.heap s.heap [] := va_S.rf
  generalize hargs : ([.ref (gAd G 29 0), .int (iI v1), .int (iI v2), .int (iI v3), .int (iI v4)] : List Value).toArray = args at X ⊢
  clear hargs
  unfold f_X12_input at hf
  refine lv_iload_n X.1 X.2.1 dX12_input_0 rfl (lv_at hl.1 1 rfl) ?_
  obtain ⟨k51, ek51, hf_⟩ := oj_e hf; clear hf; have hf := hf_; clear hf_
  have hk51 : ∀ (xs0_51 : Int) (bxs0_51 : xs0_51 = 0 ∨ xs0_51 = 1), k51 xs0_51 = some q → ∀ (H : Heap) (locs : List Loc) (ls : Array Slot), gH G M H → va_S (gA G) s.heap H locs → gLv ls 7 [(0, .ref (gAd G 29 0)), (1, .int (iI v1)), (2, .int (iI v2)), (3, .int (iI v3)), (4, .int (iI v4))] → W p l e { frames := 3, cells := 0, slots := 0, locals := 64 } s m args below meth c H locs 0 0 (MQ below (gQi G q.1 q.2) args s 0 0 (gA G)) (F0 m 51 ls [.int (iI xs0_51)]) := by
    intro xs0_51 bxs0_51 hf H locs ls hH hS hl
    subst ek51
    refine g_istore X (lv' := [(5, .int (iI xs0_51)), (0, .ref (gAd G 29 0)), (1, .int (iI v1)), (2, .int (iI v2)), (3, .int (iI v3)), (4, .int (iI v4))]) dX12_input_51 hl (by decide) rfl (fun ls hl => ?_)
    refine lv_aload_n X.1 X.2.1 dX12_input_53 rfl (lv_at hl.1 1 rfl) ?_
    refine lv_iload X.1 X.2.1 dX12_input_54 (lv_at hl.1 0 rfl) ?_
    obtain ⟨k99, ek99, hf_⟩ := oj_e hf; clear hf; have hf := hf_; clear hf_
    have hk99 : ∀ (xs1_99 : Int) (nxs1_99 : nmI xs1_99), k99 xs1_99 = some q → ∀ (H : Heap) (locs : List Loc) (ls : Array Slot), gH G M H → va_S (gA G) s.heap H locs → gLv ls 7 [(0, .ref (gAd G 29 0)), (1, .int (iI v1)), (2, .int (iI v2)), (3, .int (iI v3)), (4, .int (iI v4))] → W p l e { frames := 3, cells := 0, slots := 0, locals := 64 } s m args below meth c H locs 0 0 (MQ below (gQi G q.1 q.2) args s 0 0 (gA G)) (F0 m 99 ls [.int (iI xs1_99), .ref (gAd G 29 0)]) := by
      intro xs1_99 nxs1_99 hf H locs ls hH hS hl
      subst ek99
      refine g_putI X cX12 hH hS (r := 29) (i := 0) (by decide) rfl 0 (by decide) k_1210 rfl rfl rfl (Nat.le_of_ble_eq_true rfl) (x := xs1_99) nxs1_99 rfl rfl rfl dX12_input_99 (fun H locs hH hS => ?_)
      refine lv_aload_n X.1 X.2.1 dX12_input_102 rfl (lv_at hl.1 0 rfl) ?_
      have nd103 : nmI ((gU M 29 0 0 xs1_99) 29 0 0) := hH.1.1 _ _ _
      refine g_get X cX12 hH (r := 29) (i := 0) (by decide) rfl 0 (by decide) k_1210 rfl (v := .int (iI ((gU M 29 0 0 xs1_99) 29 0 0))) rfl dX12_input_103 ?_
      refine g_if_le X nd103 (tgt := 111) dX12_input_106 (by decide) (fun hc106 => ?_) (fun hc106 => ?_)
      · replace hf := it_f hf hc106
        refine lv_bipush X.1 X.2.1 dX12_input_111 (v := iI 56) (by decide) ?_
        refine lv_aload_n X.1 X.2.1 dX12_input_113 rfl (lv_at hl.1 0 rfl) ?_
        refine g_get X cX12 hH (r := 29) (i := 0) (by decide) rfl 14 (by decide) k_1224 rfl (v := .ref (gAd G 41 0)) rfl dX12_input_114 ?_
        refine lv_bipush X.1 X.2.1 dX12_input_117 (v := iI 14) (by decide) ?_
        obtain ⟨hg, hf_⟩ := og_e hf; clear hf; have hf := hf_; clear hf_
        have nd119 : nmI ((gU M 29 0 0 xs1_99) 41 0 14) := hH.1.1 _ _ _
        refine g_iald X hH (r := 41) (i := 0) (by decide) rfl (nmI_l (by decide)) hg (v := (gU M 29 0 0 xs1_99) 41 0 14) rfl dX12_input_119 ?_
        refine g_iadd X dX12_input_120 ?_
        refine g_istore X (lv' := [(6, .int (iI (wI (56 + ((gU M 29 0 0 xs1_99) 41 0 14))))), (0, .ref (gAd G 29 0)), (1, .int (iI v1)), (2, .int (iI v2)), (3, .int (iI v3)), (4, .int (iI v4))]) dX12_input_121 hl (by decide) rfl (fun ls hl => ?_)
        refine lv_aload_n X.1 X.2.1 dX12_input_123 rfl (lv_at hl.1 1 rfl) ?_
        refine g_get X cX12 hH (r := 29) (i := 0) (by decide) rfl 15 (by decide) k_1225 rfl (v := .ref (gAd G 42 0)) rfl dX12_input_124 ?_
        refine lv_iload X.1 X.2.1 dX12_input_127 (lv_at hl.1 0 rfl) ?_
        refine lv_iload_n X.1 X.2.1 dX12_input_129 rfl (lv_at hl.1 2 rfl) ?_
        obtain ⟨hg, hf_⟩ := og_e hf; clear hf; have hf := hf_; clear hf_
        refine g_iast X hH hS (r := 42) (i := 0) (by decide) (fun _ => rfl) (nmI_w _) hg nv1 rfl (by decide) dX12_input_130 (fun H locs hH hS => ?_)
        refine lv_aload_n X.1 X.2.1 dX12_input_131 rfl (lv_at hl.1 1 rfl) ?_
        refine g_get X cX12 hH (r := 29) (i := 0) (by decide) rfl 16 (by decide) k_1226 rfl (v := .ref (gAd G 43 0)) rfl dX12_input_132 ?_
        refine lv_iload X.1 X.2.1 dX12_input_135 (lv_at hl.1 0 rfl) ?_
        refine lv_iload_n X.1 X.2.1 dX12_input_137 rfl (lv_at hl.1 3 rfl) ?_
        obtain ⟨hg, hf_⟩ := og_e hf; clear hf; have hf := hf_; clear hf_
        refine g_iast X hH hS (r := 43) (i := 0) (by decide) (fun _ => rfl) (nmI_w _) hg nv2 rfl (by decide) dX12_input_138 (fun H locs hH hS => ?_)
        refine lv_aload_n X.1 X.2.1 dX12_input_139 rfl (lv_at hl.1 1 rfl) ?_
        refine g_get X cX12 hH (r := 29) (i := 0) (by decide) rfl 17 (by decide) k_1227 rfl (v := .ref (gAd G 44 0)) rfl dX12_input_140 ?_
        refine lv_iload X.1 X.2.1 dX12_input_143 (lv_at hl.1 0 rfl) ?_
        refine lv_iload_n X.1 X.2.1 dX12_input_145 rfl (lv_at hl.1 4 rfl) ?_
        obtain ⟨hg, hf_⟩ := og_e hf; clear hf; have hf := hf_; clear hf_
        refine g_iast X hH hS (r := 44) (i := 0) (by decide) (fun _ => rfl) (nmI_w _) hg nv3 rfl (by decide) dX12_input_146 (fun H locs hH hS => ?_)
        refine lv_aload_n X.1 X.2.1 dX12_input_147 rfl (lv_at hl.1 1 rfl) ?_
        refine g_get X cX12 hH (r := 29) (i := 0) (by decide) rfl 18 (by decide) k_1228 rfl (v := .ref (gAd G 45 0)) rfl dX12_input_148 ?_
        refine lv_iload X.1 X.2.1 dX12_input_151 (lv_at hl.1 0 rfl) ?_
        refine lv_iload X.1 X.2.1 dX12_input_153 (lv_at hl.1 5 rfl) ?_
        obtain ⟨hg, hf_⟩ := og_e hf; clear hf; have hf := hf_; clear hf_
        refine g_iast X hH hS (r := 45) (i := 0) (by decide) (fun _ => rfl) (nmI_w _) hg nv4 rfl (by decide) dX12_input_155 (fun H locs hH hS => ?_)
        refine lv_aload_n X.1 X.2.1 dX12_input_156 rfl (lv_at hl.1 1 rfl) ?_
        refine g_get X cX12 hH (r := 29) (i := 0) (by decide) rfl 14 (by decide) k_1224 rfl (v := .ref (gAd G 41 0)) rfl dX12_input_157 ?_
        refine lv_bipush X.1 X.2.1 dX12_input_160 (v := iI 14) (by decide) ?_
        refine lv_dup2_11 X.1 X.2.1 dX12_input_162 rfl rfl ?_
        obtain ⟨hg, hf_⟩ := og_e hf; clear hf; have hf := hf_; clear hf_
        have nd163 : nmI ((gU (gU (gU (gU (gU M 29 0 0 xs1_99) 42 0 (wI (56 + ((gU M 29 0 0 xs1_99) 41 0 14))).toNat v1) 43 0 (wI (56 + ((gU M 29 0 0 xs1_99) 41 0 14))).toNat v2) 44 0 (wI (56 + ((gU M 29 0 0 xs1_99) 41 0 14))).toNat v3) 45 0 (wI (56 + ((gU M 29 0 0 xs1_99) 41 0 14))).toNat v4) 41 0 14) := hH.1.1 _ _ _
        refine g_iald X hH (r := 41) (i := 0) (by decide) rfl (nmI_l (by decide)) hg (v := (gU (gU (gU (gU (gU M 29 0 0 xs1_99) 42 0 (wI (56 + ((gU M 29 0 0 xs1_99) 41 0 14))).toNat v1) 43 0 (wI (56 + ((gU M 29 0 0 xs1_99) 41 0 14))).toNat v2) 44 0 (wI (56 + ((gU M 29 0 0 xs1_99) 41 0 14))).toNat v3) 45 0 (wI (56 + ((gU M 29 0 0 xs1_99) 41 0 14))).toNat v4) 41 0 14) rfl dX12_input_163 ?_
        refine lv_iconst X.1 X.2.1 dX12_input_164 (v := iI 1) rfl ?_
        refine g_iadd X dX12_input_165 ?_
        obtain ⟨hg, hf_⟩ := og_e hf; clear hf; have hf := hf_; clear hf_
        refine g_iast X hH hS (r := 41) (i := 0) (by decide) (fun _ => rfl) (nmI_l (by decide)) hg (nmI_w _) rfl (by decide) dX12_input_166 (fun H locs hH hS => ?_)
        refine lv_aload_n X.1 X.2.1 dX12_input_167 rfl (lv_at hl.1 1 rfl) ?_
        refine g_get X cX12 hH (r := 29) (i := 0) (by decide) rfl 14 (by decide) k_1224 rfl (v := .ref (gAd G 41 0)) rfl dX12_input_168 ?_
        refine lv_bipush X.1 X.2.1 dX12_input_171 (v := iI 14) (by decide) ?_
        obtain ⟨hg, hf_⟩ := og_e hf; clear hf; have hf := hf_; clear hf_
        have nd173 : nmI ((gU (gU (gU (gU (gU (gU M 29 0 0 xs1_99) 42 0 (wI (56 + ((gU M 29 0 0 xs1_99) 41 0 14))).toNat v1) 43 0 (wI (56 + ((gU M 29 0 0 xs1_99) 41 0 14))).toNat v2) 44 0 (wI (56 + ((gU M 29 0 0 xs1_99) 41 0 14))).toNat v3) 45 0 (wI (56 + ((gU M 29 0 0 xs1_99) 41 0 14))).toNat v4) 41 0 14 (wI (((gU (gU (gU (gU (gU M 29 0 0 xs1_99) 42 0 (wI (56 + ((gU M 29 0 0 xs1_99) 41 0 14))).toNat v1) 43 0 (wI (56 + ((gU M 29 0 0 xs1_99) 41 0 14))).toNat v2) 44 0 (wI (56 + ((gU M 29 0 0 xs1_99) 41 0 14))).toNat v3) 45 0 (wI (56 + ((gU M 29 0 0 xs1_99) 41 0 14))).toNat v4) 41 0 14) + 1))) 41 0 14) := hH.1.1 _ _ _
        refine g_iald X hH (r := 41) (i := 0) (by decide) rfl (nmI_l (by decide)) hg (v := (gU (gU (gU (gU (gU (gU M 29 0 0 xs1_99) 42 0 (wI (56 + ((gU M 29 0 0 xs1_99) 41 0 14))).toNat v1) 43 0 (wI (56 + ((gU M 29 0 0 xs1_99) 41 0 14))).toNat v2) 44 0 (wI (56 + ((gU M 29 0 0 xs1_99) 41 0 14))).toNat v3) 45 0 (wI (56 + ((gU M 29 0 0 xs1_99) 41 0 14))).toNat v4) 41 0 14 (wI (((gU (gU (gU (gU (gU M 29 0 0 xs1_99) 42 0 (wI (56 + ((gU M 29 0 0 xs1_99) 41 0 14))).toNat v1) 43 0 (wI (56 + ((gU M 29 0 0 xs1_99) 41 0 14))).toNat v2) 44 0 (wI (56 + ((gU M 29 0 0 xs1_99) 41 0 14))).toNat v3) 45 0 (wI (56 + ((gU M 29 0 0 xs1_99) 41 0 14))).toNat v4) 41 0 14) + 1))) 41 0 14) rfl dX12_input_173 ?_
        have hq := Option.some.inj hf; subst hq
        exact gRetI X hH hS (res := (gU (gU (gU (gU (gU (gU M 29 0 0 xs1_99) 42 0 (wI (56 + ((gU M 29 0 0 xs1_99) 41 0 14))).toNat v1) 43 0 (wI (56 + ((gU M 29 0 0 xs1_99) 41 0 14))).toNat v2) 44 0 (wI (56 + ((gU M 29 0 0 xs1_99) 41 0 14))).toNat v3) 45 0 (wI (56 + ((gU M 29 0 0 xs1_99) 41 0 14))).toNat v4) 41 0 14 (wI (((gU (gU (gU (gU (gU M 29 0 0 xs1_99) 42 0 (wI (56 + ((gU M 29 0 0 xs1_99) 41 0 14))).toNat v1) 43 0 (wI (56 + ((gU M 29 0 0 xs1_99) 41 0 14))).toNat v2) 44 0 (wI (56 + ((gU M 29 0 0 xs1_99) 41 0 14))).toNat v3) 45 0 (wI (56 + ((gU M 29 0 0 xs1_99) 41 0 14))).toNat v4) 41 0 14) + 1))) 41 0 14) nd173 dX12_input_174
      · replace hf := it_t hf hc106
        refine lv_iconst X.1 X.2.1 dX12_input_109 (v := iI 0) rfl ?_
        have hq := Option.some.inj hf; subst hq
        exact gRetI X hH hS (res := 0) (nmI_l (by decide)) dX12_input_110
    clear ek99
    refine g_if_ne X (nmI_b bxs0_51) (tgt := 63) dX12_input_56 (by decide) (fun hc56 => ?_) (fun hc56 => ?_)
    · replace hf := it_f hf hc56
      refine lv_aload_n X.1 X.2.1 dX12_input_63 rfl (lv_at hl.1 1 rfl) ?_
      refine lv_iload_n X.1 X.2.1 dX12_input_64 rfl (lv_at hl.1 2 rfl) ?_
      refine gGoZ (gRunV X hH (As := [.int (iI v1)]) (m_X12_isInput l G v1 nv1 M _ rfl) calX12_isInput k_1413 k_32 k_1411 (by decide) cX12 rfl ⟨by decide, by decide⟩ rfl hl rfl (Nat.le_of_ble_eq_true rfl) ⟨Nat.le_of_ble_eq_true rfl, Nat.le_of_ble_eq_true rfl⟩ dX12_input_65) hS (fun H locs br65 hH hS => ?_)
      obtain ⟨k79, ek79, hf_⟩ := oj_e hf; clear hf; have hf := hf_; clear hf_
      have hk79 : k79 = some q → ∀ (H : Heap) (locs : List Loc) (ls : Array Slot), gH G M H → va_S (gA G) s.heap H locs → gLv ls 7 [(0, .ref (gAd G 29 0)), (1, .int (iI v1)), (2, .int (iI v2)), (3, .int (iI v3)), (4, .int (iI v4))] → W p l e { frames := 3, cells := 0, slots := 0, locals := 64 } s m args below meth c H locs 0 0 (MQ below (gQi G q.1 q.2) args s 0 0 (gA G)) (F0 m 79 ls [.ref (gAd G 29 0)]) := by
        intro  hf H locs ls hH hS hl
        subst ek79
        refine lv_iconst X.1 X.2.1 dX12_input_79 (v := iI 2) rfl ?_
        refine lv_goto (tgt := 99) X.1 X.2.1 dX12_input_80 (by decide) ?_
        exact hk99 2 (nmI_l (by decide)) hf _ _ _ hH hS (gLv_sub hl [0, 1, 2, 3, 4] rfl)
      clear ek79
      refine g_if_eq X (nmI_b br65) (tgt := 79) dX12_input_68 (by decide) (fun hc68 => ?_) (fun hc68 => ?_)
      · replace hf := it_t hf hc68
        exact hk79  hf _ _ _ hH hS (gLv_sub hl [1, 2, 3, 4, 5] rfl)
      · replace hf := it_f hf hc68
        refine lv_aload_n X.1 X.2.1 dX12_input_71 rfl (lv_at hl.1 1 rfl) ?_
        refine lv_iload_n X.1 X.2.1 dX12_input_72 rfl (lv_at hl.1 3 rfl) ?_
        refine gGoZ (gRunV X hH (As := [.int (iI v2)]) (m_X12_isInput l G v2 nv2 M _ rfl) calX12_isInput k_1413 k_32 k_1411 (by decide) cX12 rfl ⟨by decide, by decide⟩ rfl hl rfl (Nat.le_of_ble_eq_true rfl) ⟨Nat.le_of_ble_eq_true rfl, Nat.le_of_ble_eq_true rfl⟩ dX12_input_73) hS (fun H locs br73 hH hS => ?_)
        refine g_if_ne X (nmI_b br73) (tgt := 83) dX12_input_76 (by decide) (fun hc76 => ?_) (fun hc76 => ?_)
        · replace hf := it_f hf hc76
          refine lv_aload_n X.1 X.2.1 dX12_input_83 rfl (lv_at hl.1 1 rfl) ?_
          refine g_get X cX12 hH (r := 29) (i := 0) (by decide) rfl 14 (by decide) k_1224 rfl (v := .ref (gAd G 41 0)) rfl dX12_input_84 ?_
          refine lv_bipush X.1 X.2.1 dX12_input_87 (v := iI 14) (by decide) ?_
          obtain ⟨hg, hf_⟩ := og_e hf; clear hf; have hf := hf_; clear hf_
          have nd89 : nmI (M 41 0 14) := hH.1.1 _ _ _
          refine g_iald X hH (r := 41) (i := 0) (by decide) rfl (nmI_l (by decide)) hg (v := M 41 0 14) rfl dX12_input_89 ?_
          refine lv_iconst X.1 X.2.1 dX12_input_90 (v := iI 4) rfl ?_
          refine g_icmp_ne X nd89 (nmI_l (by decide)) (tgt := 98) dX12_input_91 (by decide) (fun hc91 => ?_) (fun hc91 => ?_)
          · replace hf := it_f hf hc91
            refine lv_iconst X.1 X.2.1 dX12_input_98 (v := iI 0) rfl ?_
            exact hk99 0 (nmI_l (by decide)) hf _ _ _ hH hS (gLv_sub hl [1, 2, 3, 4, 5] rfl)
          · replace hf := it_t hf hc91
            refine lv_iconst X.1 X.2.1 dX12_input_94 (v := iI 3) rfl ?_
            refine lv_goto (tgt := 99) X.1 X.2.1 dX12_input_95 (by decide) ?_
            exact hk99 3 (nmI_l (by decide)) hf _ _ _ hH hS (gLv_sub hl [1, 2, 3, 4, 5] rfl)
        · replace hf := it_t hf hc76
          exact hk79  hf _ _ _ hH hS (gLv_sub hl [1, 2, 3, 4, 5] rfl)
    · replace hf := it_t hf hc56
      refine lv_iconst X.1 X.2.1 dX12_input_59 (v := iI 1) rfl ?_
      refine lv_goto (tgt := 99) X.1 X.2.1 dX12_input_60 (by decide) ?_
      exact hk99 1 (nmI_l (by decide)) hf _ _ _ hH hS (gLv_sub hl [1, 2, 3, 4, 5] rfl)
  clear ek51
  obtain ⟨k50, ek50, hf_⟩ := oj_e hf; clear hf; have hf := hf_; clear hf_
  have hk50 : k50 = some q → ∀ (H : Heap) (locs : List Loc) (ls : Array Slot), gH G M H → va_S (gA G) s.heap H locs → gLv ls 7 [(0, .ref (gAd G 29 0)), (1, .int (iI v1)), (2, .int (iI v2)), (3, .int (iI v3)), (4, .int (iI v4))] → W p l e { frames := 3, cells := 0, slots := 0, locals := 64 } s m args below meth c H locs 0 0 (MQ below (gQi G q.1 q.2) args s 0 0 (gA G)) (F0 m 50 ls []) := by
    intro  hf H locs ls hH hS hl
    subst ek50
    refine lv_iconst X.1 X.2.1 dX12_input_50 (v := iI 0) rfl ?_
    exact hk51 0 (by decide) hf _ _ _ hH hS (gLv_sub hl [0, 1, 2, 3, 4] rfl)
  clear ek50
  refine g_if_lt X nv1 (tgt := 50) dX12_input_1 (by decide) (fun hc1 => ?_) (fun hc1 => ?_)
  · replace hf := it_t hf hc1
    exact hk50  hf _ _ _ hH hS (gLv_sub hl [0, 1, 2, 3, 4] rfl)
  · replace hf := it_f hf hc1
    refine lv_iload_n X.1 X.2.1 dX12_input_4 rfl (lv_at hl.1 2 rfl) ?_
    refine lv_iconst X.1 X.2.1 dX12_input_5 (v := iI (-1)) rfl ?_
    refine g_icmp_lt X nv2 (nmI_l (by decide)) (tgt := 50) dX12_input_6 (by decide) (fun hc6 => ?_) (fun hc6 => ?_)
    · replace hf := it_t hf hc6
      exact hk50  hf _ _ _ hH hS (gLv_sub hl [0, 1, 2, 3, 4] rfl)
    · replace hf := it_f hf hc6
      refine lv_iload_n X.1 X.2.1 dX12_input_9 rfl (lv_at hl.1 2 rfl) ?_
      refine lv_iconst X.1 X.2.1 dX12_input_10 (v := iI (-1)) rfl ?_
      obtain ⟨k46, ek46, hf_⟩ := oj_e hf; clear hf; have hf := hf_; clear hf_
      have hk46 : k46 = some q → ∀ (H : Heap) (locs : List Loc) (ls : Array Slot), gH G M H → va_S (gA G) s.heap H locs → gLv ls 7 [(0, .ref (gAd G 29 0)), (1, .int (iI v1)), (2, .int (iI v2)), (3, .int (iI v3)), (4, .int (iI v4))] → W p l e { frames := 3, cells := 0, slots := 0, locals := 64 } s m args below meth c H locs 0 0 (MQ below (gQi G q.1 q.2) args s 0 0 (gA G)) (F0 m 46 ls []) := by
        intro  hf H locs ls hH hS hl
        subst ek46
        refine lv_iconst X.1 X.2.1 dX12_input_46 (v := iI 1) rfl ?_
        refine lv_goto (tgt := 51) X.1 X.2.1 dX12_input_47 (by decide) ?_
        exact hk51 1 (by decide) hf _ _ _ hH hS (gLv_sub hl [0, 1, 2, 3, 4] rfl)
      clear ek46
      refine g_icmp_ne X nv2 (nmI_l (by decide)) (tgt := 26) dX12_input_11 (by decide) (fun hc11 => ?_) (fun hc11 => ?_)
      · replace hf := it_f hf hc11
        refine lv_iload_n X.1 X.2.1 dX12_input_26 rfl (lv_at hl.1 3 rfl) ?_
        refine lv_iconst X.1 X.2.1 dX12_input_27 (v := iI 0) rfl ?_
        refine lv_iconst X.1 X.2.1 dX12_input_28 (v := iI 3) rfl ?_
        refine gGoZ (gRunS X hH (As := [.int (iI v3), .int (iI 0), .int (iI 3)]) (m_X12_in l G v3 nv3 0 (nmI_l (by decide)) 3 (nmI_l (by decide)) M _ rfl) calX12_in k_1389 k_1388 ⟨by decide, by decide⟩ rfl hl rfl (Nat.le_of_ble_eq_true rfl) ⟨Nat.le_of_ble_eq_true rfl, Nat.le_of_ble_eq_true rfl⟩ dX12_input_29) hS (fun H locs br29 hH hS => ?_)
        refine g_if_eq X (nmI_b br29) (tgt := 50) dX12_input_32 (by decide) (fun hc32 => ?_) (fun hc32 => ?_)
        · replace hf := it_t hf hc32
          exact hk50  hf _ _ _ hH hS (gLv_sub hl [0, 1, 2, 3, 4] rfl)
        · replace hf := it_f hf hc32
          refine lv_iload X.1 X.2.1 dX12_input_35 (lv_at hl.1 4 rfl) ?_
          refine lv_iconst X.1 X.2.1 dX12_input_37 (v := iI 0) rfl ?_
          refine lv_bipush X.1 X.2.1 dX12_input_38 (v := iI 9) (by decide) ?_
          refine gGoZ (gRunS X hH (As := [.int (iI v4), .int (iI 0), .int (iI 9)]) (m_X12_in l G v4 nv4 0 (nmI_l (by decide)) 9 (nmI_l (by decide)) M _ rfl) calX12_in k_1389 k_1388 ⟨by decide, by decide⟩ rfl hl rfl (Nat.le_of_ble_eq_true rfl) ⟨Nat.le_of_ble_eq_true rfl, Nat.le_of_ble_eq_true rfl⟩ dX12_input_40) hS (fun H locs br40 hH hS => ?_)
          refine g_if_eq X (nmI_b br40) (tgt := 50) dX12_input_43 (by decide) (fun hc43 => ?_) (fun hc43 => ?_)
          · replace hf := it_t hf hc43
            exact hk50  hf _ _ _ hH hS (gLv_sub hl [0, 1, 2, 3, 4] rfl)
          · replace hf := it_f hf hc43
            exact hk46  hf _ _ _ hH hS (gLv_sub hl [0, 1, 2, 3, 4] rfl)
      · replace hf := it_t hf hc11
        refine lv_iload_n X.1 X.2.1 dX12_input_14 rfl (lv_at hl.1 3 rfl) ?_
        refine g_if_ne X nv3 (tgt := 50) dX12_input_15 (by decide) (fun hc15 => ?_) (fun hc15 => ?_)
        · replace hf := it_f hf hc15
          exact hk50  hf _ _ _ hH hS (gLv_sub hl [0, 1, 2, 3, 4] rfl)
        · replace hf := it_t hf hc15
          refine lv_iload X.1 X.2.1 dX12_input_18 (lv_at hl.1 4 rfl) ?_
          refine g_if_ne X nv4 (tgt := 50) dX12_input_20 (by decide) (fun hc20 => ?_) (fun hc20 => ?_)
          · replace hf := it_f hf hc20
            exact hk50  hf _ _ _ hH hS (gLv_sub hl [0, 1, 2, 3, 4] rfl)
          · replace hf := it_t hf hc20
            refine lv_goto (tgt := 46) X.1 X.2.1 dX12_input_23 (by decide) ?_
            exact hk46  hf _ _ _ hH hS (gLv_sub hl [0, 1, 2, 3, 4] rfl)
theorem w_X12_lay_L14 {G : gG} {p : Program} {l : Launch} {e : Env} {s : State} {m : MethodId} {args : Array Value} {below : List Frame} {meth : Method} {c : Code} (X : gX G p s m args meth c RX12 cX12_lay 4 none (gWs yX12_lay cX12_lay 4 none)) (k105 : gM → Option gM) (z1 : Int) (nz1 : nmI z1) (z2 : Int) (nz2 : nmI z2) (q : gM) (hk105 : ∀  (M : gM), k105 M = some q → ∀ (H : Heap) (locs : List Loc) (ls : Array Slot), gH G M H → va_S (gA G) s.heap H locs → gLv ls 4 [] → W p l e { frames := 0, cells := 0, slots := 0, locals := 0 } s m args below meth c H locs 0 0 (MQ below (gQv G q) args s 0 0 (gA G)) (F0 m 105 ls [])) : ∀ (n : Nat) (x3 : Int) (nx3 : nmI x3) (M : gM), f_X12_lay_L14 k105 z1 z2 n x3 M = some q → ∀ (H : Heap) (locs : List Loc) (ls : Array Slot), gH G M H → va_S (gA G) s.heap H locs → gLv ls 4 [(0, .ref (gAd G 29 0)), (1, .int (iI z1)), (2, .int (iI z2)), (3, .int (iI x3))] → W p l e { frames := 0, cells := 0, slots := 0, locals := 0 } s m args below meth c H locs 0 0 (MQ below (gQv G q) args s 0 0 (gA G)) (F0 m 14 ls []) := by
  intro n
  induction n with
  | zero =>
    intro x3 nx3 M hf
    cases hf
  | succ n ih =>
    intro x3 nx3 M hf H locs ls hH hS hl
    rw [f_X12_lay_L14] at hf
    refine lv_iload_n X.1 X.2.1 dX12_lay_14 rfl (lv_at hl.1 3 rfl) ?_
    refine lv_iconst X.1 X.2.1 dX12_lay_15 (v := iI 4) rfl ?_
    refine g_icmp_ge X nx3 (nmI_l (by decide)) (tgt := 105) dX12_lay_16 (by decide) (fun hc16 => ?_) (fun hc16 => ?_)
    · replace hf := it_f hf hc16
      exact hk105 M hf _ _ _ hH hS (gLv_sub hl [] rfl)
    · replace hf := it_t hf hc16
      refine lv_aload_n X.1 X.2.1 dX12_lay_19 rfl (lv_at hl.1 0 rfl) ?_
      refine g_get X cX12 hH (r := 29) (i := 0) (by decide) rfl 15 (by decide) k_1225 rfl (v := .ref (gAd G 42 0)) rfl dX12_lay_20 ?_
      refine lv_iconst X.1 X.2.1 dX12_lay_23 (v := iI 4) rfl ?_
      refine lv_iload_n X.1 X.2.1 dX12_lay_24 rfl (lv_at hl.1 2 rfl) ?_
      refine g_imul X dX12_lay_25 ?_
      refine lv_iload_n X.1 X.2.1 dX12_lay_26 rfl (lv_at hl.1 3 rfl) ?_
      refine g_iadd X dX12_lay_27 ?_
      refine lv_aload_n X.1 X.2.1 dX12_lay_28 rfl (lv_at hl.1 0 rfl) ?_
      refine g_get X cX12 hH (r := 29) (i := 0) (by decide) rfl 15 (by decide) k_1225 rfl (v := .ref (gAd G 42 0)) rfl dX12_lay_29 ?_
      refine lv_iconst X.1 X.2.1 dX12_lay_32 (v := iI 4) rfl ?_
      refine lv_iload_n X.1 X.2.1 dX12_lay_33 rfl (lv_at hl.1 1 rfl) ?_
      refine g_imul X dX12_lay_34 ?_
      refine lv_iload_n X.1 X.2.1 dX12_lay_35 rfl (lv_at hl.1 3 rfl) ?_
      refine g_iadd X dX12_lay_36 ?_
      obtain ⟨hg, hf_⟩ := og_e hf; clear hf; have hf := hf_; clear hf_
      have nd37 : nmI (M 42 0 (wI ((wI (4 * z1)) + x3)).toNat) := hH.1.1 _ _ _
      refine g_iald X hH (r := 42) (i := 0) (by decide) rfl (nmI_w _) hg (v := M 42 0 (wI ((wI (4 * z1)) + x3)).toNat) rfl dX12_lay_37 ?_
      obtain ⟨hg, hf_⟩ := og_e hf; clear hf; have hf := hf_; clear hf_
      refine g_iast X hH hS (r := 42) (i := 0) (by decide) (fun _ => rfl) (nmI_w _) hg nd37 rfl (by decide) dX12_lay_38 (fun H locs hH hS => ?_)
      refine lv_aload_n X.1 X.2.1 dX12_lay_39 rfl (lv_at hl.1 0 rfl) ?_
      refine g_get X cX12 hH (r := 29) (i := 0) (by decide) rfl 16 (by decide) k_1226 rfl (v := .ref (gAd G 43 0)) rfl dX12_lay_40 ?_
      refine lv_iconst X.1 X.2.1 dX12_lay_43 (v := iI 4) rfl ?_
      refine lv_iload_n X.1 X.2.1 dX12_lay_44 rfl (lv_at hl.1 2 rfl) ?_
      refine g_imul X dX12_lay_45 ?_
      refine lv_iload_n X.1 X.2.1 dX12_lay_46 rfl (lv_at hl.1 3 rfl) ?_
      refine g_iadd X dX12_lay_47 ?_
      refine lv_aload_n X.1 X.2.1 dX12_lay_48 rfl (lv_at hl.1 0 rfl) ?_
      refine g_get X cX12 hH (r := 29) (i := 0) (by decide) rfl 16 (by decide) k_1226 rfl (v := .ref (gAd G 43 0)) rfl dX12_lay_49 ?_
      refine lv_iconst X.1 X.2.1 dX12_lay_52 (v := iI 4) rfl ?_
      refine lv_iload_n X.1 X.2.1 dX12_lay_53 rfl (lv_at hl.1 1 rfl) ?_
      refine g_imul X dX12_lay_54 ?_
      refine lv_iload_n X.1 X.2.1 dX12_lay_55 rfl (lv_at hl.1 3 rfl) ?_
      refine g_iadd X dX12_lay_56 ?_
      obtain ⟨hg, hf_⟩ := og_e hf; clear hf; have hf := hf_; clear hf_
      have nd57 : nmI ((gU M 42 0 (wI ((wI (4 * z2)) + x3)).toNat (M 42 0 (wI ((wI (4 * z1)) + x3)).toNat)) 43 0 (wI ((wI (4 * z1)) + x3)).toNat) := hH.1.1 _ _ _
      refine g_iald X hH (r := 43) (i := 0) (by decide) rfl (nmI_w _) hg (v := (gU M 42 0 (wI ((wI (4 * z2)) + x3)).toNat (M 42 0 (wI ((wI (4 * z1)) + x3)).toNat)) 43 0 (wI ((wI (4 * z1)) + x3)).toNat) rfl dX12_lay_57 ?_
      obtain ⟨hg, hf_⟩ := og_e hf; clear hf; have hf := hf_; clear hf_
      refine g_iast X hH hS (r := 43) (i := 0) (by decide) (fun _ => rfl) (nmI_w _) hg nd57 rfl (by decide) dX12_lay_58 (fun H locs hH hS => ?_)
      refine lv_aload_n X.1 X.2.1 dX12_lay_59 rfl (lv_at hl.1 0 rfl) ?_
      refine g_get X cX12 hH (r := 29) (i := 0) (by decide) rfl 17 (by decide) k_1227 rfl (v := .ref (gAd G 44 0)) rfl dX12_lay_60 ?_
      refine lv_iconst X.1 X.2.1 dX12_lay_63 (v := iI 4) rfl ?_
      refine lv_iload_n X.1 X.2.1 dX12_lay_64 rfl (lv_at hl.1 2 rfl) ?_
      refine g_imul X dX12_lay_65 ?_
      refine lv_iload_n X.1 X.2.1 dX12_lay_66 rfl (lv_at hl.1 3 rfl) ?_
      refine g_iadd X dX12_lay_67 ?_
      refine lv_aload_n X.1 X.2.1 dX12_lay_68 rfl (lv_at hl.1 0 rfl) ?_
      refine g_get X cX12 hH (r := 29) (i := 0) (by decide) rfl 17 (by decide) k_1227 rfl (v := .ref (gAd G 44 0)) rfl dX12_lay_69 ?_
      refine lv_iconst X.1 X.2.1 dX12_lay_72 (v := iI 4) rfl ?_
      refine lv_iload_n X.1 X.2.1 dX12_lay_73 rfl (lv_at hl.1 1 rfl) ?_
      refine g_imul X dX12_lay_74 ?_
      refine lv_iload_n X.1 X.2.1 dX12_lay_75 rfl (lv_at hl.1 3 rfl) ?_
      refine g_iadd X dX12_lay_76 ?_
      obtain ⟨hg, hf_⟩ := og_e hf; clear hf; have hf := hf_; clear hf_
      have nd77 : nmI ((gU (gU M 42 0 (wI ((wI (4 * z2)) + x3)).toNat (M 42 0 (wI ((wI (4 * z1)) + x3)).toNat)) 43 0 (wI ((wI (4 * z2)) + x3)).toNat ((gU M 42 0 (wI ((wI (4 * z2)) + x3)).toNat (M 42 0 (wI ((wI (4 * z1)) + x3)).toNat)) 43 0 (wI ((wI (4 * z1)) + x3)).toNat)) 44 0 (wI ((wI (4 * z1)) + x3)).toNat) := hH.1.1 _ _ _
      refine g_iald X hH (r := 44) (i := 0) (by decide) rfl (nmI_w _) hg (v := (gU (gU M 42 0 (wI ((wI (4 * z2)) + x3)).toNat (M 42 0 (wI ((wI (4 * z1)) + x3)).toNat)) 43 0 (wI ((wI (4 * z2)) + x3)).toNat ((gU M 42 0 (wI ((wI (4 * z2)) + x3)).toNat (M 42 0 (wI ((wI (4 * z1)) + x3)).toNat)) 43 0 (wI ((wI (4 * z1)) + x3)).toNat)) 44 0 (wI ((wI (4 * z1)) + x3)).toNat) rfl dX12_lay_77 ?_
      obtain ⟨hg, hf_⟩ := og_e hf; clear hf; have hf := hf_; clear hf_
      refine g_iast X hH hS (r := 44) (i := 0) (by decide) (fun _ => rfl) (nmI_w _) hg nd77 rfl (by decide) dX12_lay_78 (fun H locs hH hS => ?_)
      refine lv_aload_n X.1 X.2.1 dX12_lay_79 rfl (lv_at hl.1 0 rfl) ?_
      refine g_get X cX12 hH (r := 29) (i := 0) (by decide) rfl 18 (by decide) k_1228 rfl (v := .ref (gAd G 45 0)) rfl dX12_lay_80 ?_
      refine lv_iconst X.1 X.2.1 dX12_lay_83 (v := iI 4) rfl ?_
      refine lv_iload_n X.1 X.2.1 dX12_lay_84 rfl (lv_at hl.1 2 rfl) ?_
      refine g_imul X dX12_lay_85 ?_
      refine lv_iload_n X.1 X.2.1 dX12_lay_86 rfl (lv_at hl.1 3 rfl) ?_
      refine g_iadd X dX12_lay_87 ?_
      refine lv_aload_n X.1 X.2.1 dX12_lay_88 rfl (lv_at hl.1 0 rfl) ?_
      refine g_get X cX12 hH (r := 29) (i := 0) (by decide) rfl 18 (by decide) k_1228 rfl (v := .ref (gAd G 45 0)) rfl dX12_lay_89 ?_
      refine lv_iconst X.1 X.2.1 dX12_lay_92 (v := iI 4) rfl ?_
      refine lv_iload_n X.1 X.2.1 dX12_lay_93 rfl (lv_at hl.1 1 rfl) ?_
      refine g_imul X dX12_lay_94 ?_
      refine lv_iload_n X.1 X.2.1 dX12_lay_95 rfl (lv_at hl.1 3 rfl) ?_
      refine g_iadd X dX12_lay_96 ?_
      obtain ⟨hg, hf_⟩ := og_e hf; clear hf; have hf := hf_; clear hf_
      have nd97 : nmI ((gU (gU (gU M 42 0 (wI ((wI (4 * z2)) + x3)).toNat (M 42 0 (wI ((wI (4 * z1)) + x3)).toNat)) 43 0 (wI ((wI (4 * z2)) + x3)).toNat ((gU M 42 0 (wI ((wI (4 * z2)) + x3)).toNat (M 42 0 (wI ((wI (4 * z1)) + x3)).toNat)) 43 0 (wI ((wI (4 * z1)) + x3)).toNat)) 44 0 (wI ((wI (4 * z2)) + x3)).toNat ((gU (gU M 42 0 (wI ((wI (4 * z2)) + x3)).toNat (M 42 0 (wI ((wI (4 * z1)) + x3)).toNat)) 43 0 (wI ((wI (4 * z2)) + x3)).toNat ((gU M 42 0 (wI ((wI (4 * z2)) + x3)).toNat (M 42 0 (wI ((wI (4 * z1)) + x3)).toNat)) 43 0 (wI ((wI (4 * z1)) + x3)).toNat)) 44 0 (wI ((wI (4 * z1)) + x3)).toNat)) 45 0 (wI ((wI (4 * z1)) + x3)).toNat) := hH.1.1 _ _ _
      refine g_iald X hH (r := 45) (i := 0) (by decide) rfl (nmI_w _) hg (v := (gU (gU (gU M 42 0 (wI ((wI (4 * z2)) + x3)).toNat (M 42 0 (wI ((wI (4 * z1)) + x3)).toNat)) 43 0 (wI ((wI (4 * z2)) + x3)).toNat ((gU M 42 0 (wI ((wI (4 * z2)) + x3)).toNat (M 42 0 (wI ((wI (4 * z1)) + x3)).toNat)) 43 0 (wI ((wI (4 * z1)) + x3)).toNat)) 44 0 (wI ((wI (4 * z2)) + x3)).toNat ((gU (gU M 42 0 (wI ((wI (4 * z2)) + x3)).toNat (M 42 0 (wI ((wI (4 * z1)) + x3)).toNat)) 43 0 (wI ((wI (4 * z2)) + x3)).toNat ((gU M 42 0 (wI ((wI (4 * z2)) + x3)).toNat (M 42 0 (wI ((wI (4 * z1)) + x3)).toNat)) 43 0 (wI ((wI (4 * z1)) + x3)).toNat)) 44 0 (wI ((wI (4 * z1)) + x3)).toNat)) 45 0 (wI ((wI (4 * z1)) + x3)).toNat) rfl dX12_lay_97 ?_
      obtain ⟨hg, hf_⟩ := og_e hf; clear hf; have hf := hf_; clear hf_
      refine g_iast X hH hS (r := 45) (i := 0) (by decide) (fun _ => rfl) (nmI_w _) hg nd97 rfl (by decide) dX12_lay_98 (fun H locs hH hS => ?_)
      refine g_iinc X (a := x3) (lv' := [(3, .int (iI (wI (x3 + 1)))), (0, .ref (gAd G 29 0)), (1, .int (iI z1)), (2, .int (iI z2))]) dX12_lay_99 hl (k := 3) rfl (by decide) rfl (fun ls hl => ?_)
      refine lv_goto (tgt := 14) X.1 X.2.1 dX12_lay_102 (by decide) ?_
      exact ih (wI (x3 + 1)) (nmI_w _) (gU (gU (gU (gU M 42 0 (wI ((wI (4 * z2)) + x3)).toNat (M 42 0 (wI ((wI (4 * z1)) + x3)).toNat)) 43 0 (wI ((wI (4 * z2)) + x3)).toNat ((gU M 42 0 (wI ((wI (4 * z2)) + x3)).toNat (M 42 0 (wI ((wI (4 * z1)) + x3)).toNat)) 43 0 (wI ((wI (4 * z1)) + x3)).toNat)) 44 0 (wI ((wI (4 * z2)) + x3)).toNat ((gU (gU M 42 0 (wI ((wI (4 * z2)) + x3)).toNat (M 42 0 (wI ((wI (4 * z1)) + x3)).toNat)) 43 0 (wI ((wI (4 * z2)) + x3)).toNat ((gU M 42 0 (wI ((wI (4 * z2)) + x3)).toNat (M 42 0 (wI ((wI (4 * z1)) + x3)).toNat)) 43 0 (wI ((wI (4 * z1)) + x3)).toNat)) 44 0 (wI ((wI (4 * z1)) + x3)).toNat)) 45 0 (wI ((wI (4 * z2)) + x3)).toNat ((gU (gU (gU M 42 0 (wI ((wI (4 * z2)) + x3)).toNat (M 42 0 (wI ((wI (4 * z1)) + x3)).toNat)) 43 0 (wI ((wI (4 * z2)) + x3)).toNat ((gU M 42 0 (wI ((wI (4 * z2)) + x3)).toNat (M 42 0 (wI ((wI (4 * z1)) + x3)).toNat)) 43 0 (wI ((wI (4 * z1)) + x3)).toNat)) 44 0 (wI ((wI (4 * z2)) + x3)).toNat ((gU (gU M 42 0 (wI ((wI (4 * z2)) + x3)).toNat (M 42 0 (wI ((wI (4 * z1)) + x3)).toNat)) 43 0 (wI ((wI (4 * z2)) + x3)).toNat ((gU M 42 0 (wI ((wI (4 * z2)) + x3)).toNat (M 42 0 (wI ((wI (4 * z1)) + x3)).toNat)) 43 0 (wI ((wI (4 * z1)) + x3)).toNat)) 44 0 (wI ((wI (4 * z1)) + x3)).toNat)) 45 0 (wI ((wI (4 * z1)) + x3)).toNat)) hf _ _ _ hH hS (gLv_sub hl [1, 2, 3, 0] rfl)
theorem m_X12_lay (l : Launch) (G : gG) (v1 : Int) (nv1 : nmI v1) (v2 : Int) (nv2 : nmI v2) (M : gM) (q : gM) (hf : f_X12_lay v1 v2 M = some q) : gMet l yX12_lay cX12_lay 4 none 0 0 G M [.ref (gAd G 29 0), .int (iI v1), .int (iI v2)] (gQv G q) := by
  refine gOfW (by decide) (by show _ ≤ 4; exact Nat.le_of_ble_eq_true rfl) rfl ?_
  intro p e s m below meth c X hH ls hl
  replace hl : gLv ls 4 [(0, .ref (gAd G 29 0)), (1, .int (iI v1)), (2, .int (iI v2))] := hl
  have hS : va_S (gA G) s.heap s.heap [] := va_S.rf
  generalize hargs : ([.ref (gAd G 29 0), .int (iI v1), .int (iI v2)] : List Value).toArray = args at X ⊢
  clear hargs
  unfold f_X12_lay at hf
  refine lv_aload_n X.1 X.2.1 dX12_lay_0 rfl (lv_at hl.1 0 rfl) ?_
  refine g_get X cX12 hH (r := 29) (i := 0) (by decide) rfl 14 (by decide) k_1224 rfl (v := .ref (gAd G 41 0)) rfl dX12_lay_1 ?_
  refine lv_iload_n X.1 X.2.1 dX12_lay_4 rfl (lv_at hl.1 2 rfl) ?_
  refine lv_aload_n X.1 X.2.1 dX12_lay_5 rfl (lv_at hl.1 0 rfl) ?_
  refine g_get X cX12 hH (r := 29) (i := 0) (by decide) rfl 14 (by decide) k_1224 rfl (v := .ref (gAd G 41 0)) rfl dX12_lay_6 ?_
  refine lv_iload_n X.1 X.2.1 dX12_lay_9 rfl (lv_at hl.1 1 rfl) ?_
  obtain ⟨hg, hf_⟩ := og_e hf; clear hf; have hf := hf_; clear hf_
  have nd10 : nmI (M 41 0 v1.toNat) := hH.1.1 _ _ _
  refine g_iald X hH (r := 41) (i := 0) (by decide) rfl nv1 hg (v := M 41 0 v1.toNat) rfl dX12_lay_10 ?_
  obtain ⟨hg, hf_⟩ := og_e hf; clear hf; have hf := hf_; clear hf_
  refine g_iast X hH hS (r := 41) (i := 0) (by decide) (fun _ => rfl) nv2 hg nd10 rfl (by decide) dX12_lay_11 (fun H locs hH hS => ?_)
  refine lv_iconst X.1 X.2.1 dX12_lay_12 (v := iI 0) rfl ?_
  refine g_istore_n X (lv' := [(3, .int (iI 0)), (0, .ref (gAd G 29 0)), (1, .int (iI v1)), (2, .int (iI v2))]) dX12_lay_13 rfl hl (by decide) rfl (fun ls hl => ?_)
  refine w_X12_lay_L14 X _ v1 nv1 v2 nv2 q ?_ 64 0 (nmI_l (by decide)) (gU M 41 0 v2.toNat (M 41 0 v1.toNat)) hf _ _ _ hH hS (gLv_sub hl [1, 2, 3, 0] rfl)
  · intro  M_14_105 hf H locs ls hH hS hl
    have hq := Option.some.inj hf; subst hq
    exact gRetV X hH hS dX12_lay_105
theorem m_X12_target (l : Launch) (G : gG) (v1 : Int) (nv1 : nmI v1) (v2 : Int) (nv2 : nmI v2) (v3 : Int) (nv3 : nmI v3) (v4 : Int) (nv4 : nmI v4) (v5 : Int) (nv5 : nmI v5) (v6 : Int) (nv6 : nmI v6) (M : gM) (q : (Int × gM)) (hf : f_X12_target v1 v2 v3 v4 v5 v6 M = some q) : gMet l yX12_target cX12_target 8 (some .int) 1 23 G M [.ref (gAd G 29 0), .int (iI v1), .int (iI v2), .int (iI v3), .int (iI v4), .int (iI v5), .int (iI v6)] (gQi G q.1 q.2) := by
  refine gOfW (by decide) (by show _ ≤ 8; exact Nat.le_of_ble_eq_true rfl) rfl ?_
  intro p e s m below meth c X hH ls hl
  replace hl : gLv ls 8 [(0, .ref (gAd G 29 0)), (1, .int (iI v1)), (2, .int (iI v2)), (3, .int (iI v3)), (4, .int (iI v4)), (5, .int (iI v5)), (6, .int (iI v6))] := hl
  have hS : va_S (gA G) s.heap s.heap [] := va_S.rf
  generalize hargs : ([.ref (gAd G 29 0), .int (iI v1), .int (iI v2), .int (iI v3), .int (iI v4), .int (iI v5), .int (iI v6)] : List Value).toArray = args at X ⊢
  clear hargs
  unfold f_X12_target at hf
  refine lv_iload_n X.1 X.2.1 dX12_target_0 rfl (lv_at hl.1 1 rfl) ?_
  refine lv_iconst X.1 X.2.1 dX12_target_1 (v := iI 0) rfl ?_
  refine lv_iconst X.1 X.2.1 dX12_target_2 (v := iI 2) rfl ?_
  refine gGoZ (gRunS X hH (As := [.int (iI v1), .int (iI 0), .int (iI 2)]) (m_X12_in l G v1 nv1 0 (nmI_l (by decide)) 2 (nmI_l (by decide)) M _ rfl) calX12_in k_1389 k_1388 ⟨by decide, by decide⟩ rfl hl rfl (Nat.le_of_ble_eq_true rfl) ⟨Nat.le_of_ble_eq_true rfl, Nat.le_of_ble_eq_true rfl⟩ dX12_target_3) hS (fun H locs br3 hH hS => ?_)
  obtain ⟨k82, ek82, hf_⟩ := oj_e hf; clear hf; have hf := hf_; clear hf_
  have hk82 : ∀ (xs0_82 : Int) (bxs0_82 : xs0_82 = 0 ∨ xs0_82 = 1), k82 xs0_82 = some q → ∀ (H : Heap) (locs : List Loc) (ls : Array Slot), gH G M H → va_S (gA G) s.heap H locs → gLv ls 8 [(0, .ref (gAd G 29 0)), (1, .int (iI v1)), (2, .int (iI v2)), (3, .int (iI v3)), (4, .int (iI v4)), (5, .int (iI v5)), (6, .int (iI v6))] → W p l e { frames := 1, cells := 0, slots := 0, locals := 23 } s m args below meth c H locs 0 0 (MQ below (gQi G q.1 q.2) args s 0 0 (gA G)) (F0 m 82 ls [.int (iI xs0_82)]) := by
    intro xs0_82 bxs0_82 hf H locs ls hH hS hl
    subst ek82
    refine g_istore X (lv' := [(7, .int (iI xs0_82)), (0, .ref (gAd G 29 0)), (1, .int (iI v1)), (2, .int (iI v2)), (3, .int (iI v3)), (4, .int (iI v4)), (5, .int (iI v5)), (6, .int (iI v6))]) dX12_target_82 hl (by decide) rfl (fun ls hl => ?_)
    refine lv_aload_n X.1 X.2.1 dX12_target_84 rfl (lv_at hl.1 1 rfl) ?_
    refine lv_iload X.1 X.2.1 dX12_target_85 (lv_at hl.1 0 rfl) ?_
    refine lv_aload_n X.1 X.2.1 dX12_target_87 rfl (lv_at hl.1 1 rfl) ?_
    refine g_get X cX12 hH (r := 29) (i := 0) (by decide) rfl 14 (by decide) k_1224 rfl (v := .ref (gAd G 41 0)) rfl dX12_target_88 ?_
    refine lv_bipush X.1 X.2.1 dX12_target_91 (v := iI 14) (by decide) ?_
    obtain ⟨hg, hf_⟩ := og_e hf; clear hf; have hf := hf_; clear hf_
    have nd93 : nmI (M 41 0 14) := hH.1.1 _ _ _
    refine g_iald X hH (r := 41) (i := 0) (by decide) rfl (nmI_l (by decide)) hg (v := M 41 0 14) rfl dX12_target_93 ?_
    obtain ⟨k118, ek118, hf_⟩ := oj_e hf; clear hf; have hf := hf_; clear hf_
    have hk118 : ∀ (xs2_118 : Int) (bxs2_118 : xs2_118 = 0 ∨ xs2_118 = 1), k118 xs2_118 = some q → ∀ (H : Heap) (locs : List Loc) (ls : Array Slot), gH G M H → va_S (gA G) s.heap H locs → gLv ls 8 [(0, .ref (gAd G 29 0)), (1, .int (iI v1)), (2, .int (iI v2)), (3, .int (iI v3)), (4, .int (iI v4)), (5, .int (iI v5)), (6, .int (iI v6))] → W p l e { frames := 1, cells := 0, slots := 0, locals := 23 } s m args below meth c H locs 0 0 (MQ below (gQi G q.1 q.2) args s 0 0 (gA G)) (F0 m 118 ls [.int (iI xs2_118), .int (iI xs0_82), .ref (gAd G 29 0)]) := by
      intro xs2_118 bxs2_118 hf H locs ls hH hS hl
      subst ek118
      refine gGoZ (gRunV X hH (As := [.int (iI xs0_82), .int (iI xs2_118)]) (m_X12_asked_ l G xs0_82 bxs0_82 xs2_118 bxs2_118 M _ rfl) calX12_asked_ k_1401 k_31 k_1399 (by decide) cX12 rfl ⟨by decide, by decide⟩ rfl hl rfl (Nat.le_of_ble_eq_true rfl) ⟨Nat.le_of_ble_eq_true rfl, Nat.le_of_ble_eq_true rfl⟩ dX12_target_118) hS (fun H locs br118 hH hS => ?_)
      refine g_if_ne X (nmI_b br118) (tgt := 126) dX12_target_121 (by decide) (fun hc121 => ?_) (fun hc121 => ?_)
      · replace hf := it_f hf hc121
        refine lv_aload_n X.1 X.2.1 dX12_target_126 rfl (lv_at hl.1 0 rfl) ?_
        refine g_get X cX12 hH (r := 29) (i := 0) (by decide) rfl 8 (by decide) k_1218 rfl (v := .ref (gAd G 35 0)) rfl dX12_target_127 ?_
        refine lv_aload_n X.1 X.2.1 dX12_target_130 rfl (lv_at hl.1 0 rfl) ?_
        have nd131 : nmI (((f_X12_asked_ xs0_82 xs2_118 M).2) 29 0 7) := hH.1.1 _ _ _
        refine g_get X cX12 hH (r := 29) (i := 0) (by decide) rfl 7 (by decide) k_1217 rfl (v := .int (iI (((f_X12_asked_ xs0_82 xs2_118 M).2) 29 0 7))) rfl dX12_target_131 ?_
        refine lv_iload_n X.1 X.2.1 dX12_target_134 rfl (lv_at hl.1 1 rfl) ?_
        obtain ⟨hg, hf_⟩ := og_e hf; clear hf; have hf := hf_; clear hf_
        refine g_iast X hH hS (r := 35) (i := 0) (by decide) (fun _ => rfl) nd131 hg nv1 rfl (by decide) dX12_target_135 (fun H locs hH hS => ?_)
        refine lv_aload_n X.1 X.2.1 dX12_target_136 rfl (lv_at hl.1 0 rfl) ?_
        refine g_get X cX12 hH (r := 29) (i := 0) (by decide) rfl 9 (by decide) k_1219 rfl (v := .ref (gAd G 36 0)) rfl dX12_target_137 ?_
        refine lv_aload_n X.1 X.2.1 dX12_target_140 rfl (lv_at hl.1 0 rfl) ?_
        have nd141 : nmI ((gU ((f_X12_asked_ xs0_82 xs2_118 M).2) 35 0 (((f_X12_asked_ xs0_82 xs2_118 M).2) 29 0 7).toNat v1) 29 0 7) := hH.1.1 _ _ _
        refine g_get X cX12 hH (r := 29) (i := 0) (by decide) rfl 7 (by decide) k_1217 rfl (v := .int (iI ((gU ((f_X12_asked_ xs0_82 xs2_118 M).2) 35 0 (((f_X12_asked_ xs0_82 xs2_118 M).2) 29 0 7).toNat v1) 29 0 7))) rfl dX12_target_141 ?_
        refine lv_iload_n X.1 X.2.1 dX12_target_144 rfl (lv_at hl.1 2 rfl) ?_
        obtain ⟨hg, hf_⟩ := og_e hf; clear hf; have hf := hf_; clear hf_
        refine g_iast X hH hS (r := 36) (i := 0) (by decide) (fun _ => rfl) nd141 hg nv2 rfl (by decide) dX12_target_145 (fun H locs hH hS => ?_)
        refine lv_aload_n X.1 X.2.1 dX12_target_146 rfl (lv_at hl.1 0 rfl) ?_
        refine g_get X cX12 hH (r := 29) (i := 0) (by decide) rfl 10 (by decide) k_1220 rfl (v := .ref (gAd G 37 0)) rfl dX12_target_147 ?_
        refine lv_aload_n X.1 X.2.1 dX12_target_150 rfl (lv_at hl.1 0 rfl) ?_
        have nd151 : nmI ((gU (gU ((f_X12_asked_ xs0_82 xs2_118 M).2) 35 0 (((f_X12_asked_ xs0_82 xs2_118 M).2) 29 0 7).toNat v1) 36 0 ((gU ((f_X12_asked_ xs0_82 xs2_118 M).2) 35 0 (((f_X12_asked_ xs0_82 xs2_118 M).2) 29 0 7).toNat v1) 29 0 7).toNat v2) 29 0 7) := hH.1.1 _ _ _
        refine g_get X cX12 hH (r := 29) (i := 0) (by decide) rfl 7 (by decide) k_1217 rfl (v := .int (iI ((gU (gU ((f_X12_asked_ xs0_82 xs2_118 M).2) 35 0 (((f_X12_asked_ xs0_82 xs2_118 M).2) 29 0 7).toNat v1) 36 0 ((gU ((f_X12_asked_ xs0_82 xs2_118 M).2) 35 0 (((f_X12_asked_ xs0_82 xs2_118 M).2) 29 0 7).toNat v1) 29 0 7).toNat v2) 29 0 7))) rfl dX12_target_151 ?_
        refine lv_iload_n X.1 X.2.1 dX12_target_154 rfl (lv_at hl.1 3 rfl) ?_
        obtain ⟨hg, hf_⟩ := og_e hf; clear hf; have hf := hf_; clear hf_
        refine g_iast X hH hS (r := 37) (i := 0) (by decide) (fun _ => rfl) nd151 hg nv3 rfl (by decide) dX12_target_155 (fun H locs hH hS => ?_)
        refine lv_aload_n X.1 X.2.1 dX12_target_156 rfl (lv_at hl.1 0 rfl) ?_
        refine g_get X cX12 hH (r := 29) (i := 0) (by decide) rfl 11 (by decide) k_1221 rfl (v := .ref (gAd G 38 0)) rfl dX12_target_157 ?_
        refine lv_aload_n X.1 X.2.1 dX12_target_160 rfl (lv_at hl.1 0 rfl) ?_
        have nd161 : nmI ((gU (gU (gU ((f_X12_asked_ xs0_82 xs2_118 M).2) 35 0 (((f_X12_asked_ xs0_82 xs2_118 M).2) 29 0 7).toNat v1) 36 0 ((gU ((f_X12_asked_ xs0_82 xs2_118 M).2) 35 0 (((f_X12_asked_ xs0_82 xs2_118 M).2) 29 0 7).toNat v1) 29 0 7).toNat v2) 37 0 ((gU (gU ((f_X12_asked_ xs0_82 xs2_118 M).2) 35 0 (((f_X12_asked_ xs0_82 xs2_118 M).2) 29 0 7).toNat v1) 36 0 ((gU ((f_X12_asked_ xs0_82 xs2_118 M).2) 35 0 (((f_X12_asked_ xs0_82 xs2_118 M).2) 29 0 7).toNat v1) 29 0 7).toNat v2) 29 0 7).toNat v3) 29 0 7) := hH.1.1 _ _ _
        refine g_get X cX12 hH (r := 29) (i := 0) (by decide) rfl 7 (by decide) k_1217 rfl (v := .int (iI ((gU (gU (gU ((f_X12_asked_ xs0_82 xs2_118 M).2) 35 0 (((f_X12_asked_ xs0_82 xs2_118 M).2) 29 0 7).toNat v1) 36 0 ((gU ((f_X12_asked_ xs0_82 xs2_118 M).2) 35 0 (((f_X12_asked_ xs0_82 xs2_118 M).2) 29 0 7).toNat v1) 29 0 7).toNat v2) 37 0 ((gU (gU ((f_X12_asked_ xs0_82 xs2_118 M).2) 35 0 (((f_X12_asked_ xs0_82 xs2_118 M).2) 29 0 7).toNat v1) 36 0 ((gU ((f_X12_asked_ xs0_82 xs2_118 M).2) 35 0 (((f_X12_asked_ xs0_82 xs2_118 M).2) 29 0 7).toNat v1) 29 0 7).toNat v2) 29 0 7).toNat v3) 29 0 7))) rfl dX12_target_161 ?_
        refine lv_iload X.1 X.2.1 dX12_target_164 (lv_at hl.1 4 rfl) ?_
        obtain ⟨hg, hf_⟩ := og_e hf; clear hf; have hf := hf_; clear hf_
        refine g_iast X hH hS (r := 38) (i := 0) (by decide) (fun _ => rfl) nd161 hg nv4 rfl (by decide) dX12_target_166 (fun H locs hH hS => ?_)
        refine lv_aload_n X.1 X.2.1 dX12_target_167 rfl (lv_at hl.1 0 rfl) ?_
        refine g_get X cX12 hH (r := 29) (i := 0) (by decide) rfl 12 (by decide) k_1222 rfl (v := .ref (gAd G 39 0)) rfl dX12_target_168 ?_
        refine lv_aload_n X.1 X.2.1 dX12_target_171 rfl (lv_at hl.1 0 rfl) ?_
        have nd172 : nmI ((gU (gU (gU (gU ((f_X12_asked_ xs0_82 xs2_118 M).2) 35 0 (((f_X12_asked_ xs0_82 xs2_118 M).2) 29 0 7).toNat v1) 36 0 ((gU ((f_X12_asked_ xs0_82 xs2_118 M).2) 35 0 (((f_X12_asked_ xs0_82 xs2_118 M).2) 29 0 7).toNat v1) 29 0 7).toNat v2) 37 0 ((gU (gU ((f_X12_asked_ xs0_82 xs2_118 M).2) 35 0 (((f_X12_asked_ xs0_82 xs2_118 M).2) 29 0 7).toNat v1) 36 0 ((gU ((f_X12_asked_ xs0_82 xs2_118 M).2) 35 0 (((f_X12_asked_ xs0_82 xs2_118 M).2) 29 0 7).toNat v1) 29 0 7).toNat v2) 29 0 7).toNat v3) 38 0 ((gU (gU (gU ((f_X12_asked_ xs0_82 xs2_118 M).2) 35 0 (((f_X12_asked_ xs0_82 xs2_118 M).2) 29 0 7).toNat v1) 36 0 ((gU ((f_X12_asked_ xs0_82 xs2_118 M).2) 35 0 (((f_X12_asked_ xs0_82 xs2_118 M).2) 29 0 7).toNat v1) 29 0 7).toNat v2) 37 0 ((gU (gU ((f_X12_asked_ xs0_82 xs2_118 M).2) 35 0 (((f_X12_asked_ xs0_82 xs2_118 M).2) 29 0 7).toNat v1) 36 0 ((gU ((f_X12_asked_ xs0_82 xs2_118 M).2) 35 0 (((f_X12_asked_ xs0_82 xs2_118 M).2) 29 0 7).toNat v1) 29 0 7).toNat v2) 29 0 7).toNat v3) 29 0 7).toNat v4) 29 0 7) := hH.1.1 _ _ _
        refine g_get X cX12 hH (r := 29) (i := 0) (by decide) rfl 7 (by decide) k_1217 rfl (v := .int (iI ((gU (gU (gU (gU ((f_X12_asked_ xs0_82 xs2_118 M).2) 35 0 (((f_X12_asked_ xs0_82 xs2_118 M).2) 29 0 7).toNat v1) 36 0 ((gU ((f_X12_asked_ xs0_82 xs2_118 M).2) 35 0 (((f_X12_asked_ xs0_82 xs2_118 M).2) 29 0 7).toNat v1) 29 0 7).toNat v2) 37 0 ((gU (gU ((f_X12_asked_ xs0_82 xs2_118 M).2) 35 0 (((f_X12_asked_ xs0_82 xs2_118 M).2) 29 0 7).toNat v1) 36 0 ((gU ((f_X12_asked_ xs0_82 xs2_118 M).2) 35 0 (((f_X12_asked_ xs0_82 xs2_118 M).2) 29 0 7).toNat v1) 29 0 7).toNat v2) 29 0 7).toNat v3) 38 0 ((gU (gU (gU ((f_X12_asked_ xs0_82 xs2_118 M).2) 35 0 (((f_X12_asked_ xs0_82 xs2_118 M).2) 29 0 7).toNat v1) 36 0 ((gU ((f_X12_asked_ xs0_82 xs2_118 M).2) 35 0 (((f_X12_asked_ xs0_82 xs2_118 M).2) 29 0 7).toNat v1) 29 0 7).toNat v2) 37 0 ((gU (gU ((f_X12_asked_ xs0_82 xs2_118 M).2) 35 0 (((f_X12_asked_ xs0_82 xs2_118 M).2) 29 0 7).toNat v1) 36 0 ((gU ((f_X12_asked_ xs0_82 xs2_118 M).2) 35 0 (((f_X12_asked_ xs0_82 xs2_118 M).2) 29 0 7).toNat v1) 29 0 7).toNat v2) 29 0 7).toNat v3) 29 0 7).toNat v4) 29 0 7))) rfl dX12_target_172 ?_
        refine lv_iload X.1 X.2.1 dX12_target_175 (lv_at hl.1 5 rfl) ?_
        obtain ⟨hg, hf_⟩ := og_e hf; clear hf; have hf := hf_; clear hf_
        refine g_iast X hH hS (r := 39) (i := 0) (by decide) (fun _ => rfl) nd172 hg nv5 rfl (by decide) dX12_target_177 (fun H locs hH hS => ?_)
        refine lv_aload_n X.1 X.2.1 dX12_target_178 rfl (lv_at hl.1 0 rfl) ?_
        refine g_get X cX12 hH (r := 29) (i := 0) (by decide) rfl 13 (by decide) k_1223 rfl (v := .ref (gAd G 40 0)) rfl dX12_target_179 ?_
        refine lv_aload_n X.1 X.2.1 dX12_target_182 rfl (lv_at hl.1 0 rfl) ?_
        have nd183 : nmI ((gU (gU (gU (gU (gU ((f_X12_asked_ xs0_82 xs2_118 M).2) 35 0 (((f_X12_asked_ xs0_82 xs2_118 M).2) 29 0 7).toNat v1) 36 0 ((gU ((f_X12_asked_ xs0_82 xs2_118 M).2) 35 0 (((f_X12_asked_ xs0_82 xs2_118 M).2) 29 0 7).toNat v1) 29 0 7).toNat v2) 37 0 ((gU (gU ((f_X12_asked_ xs0_82 xs2_118 M).2) 35 0 (((f_X12_asked_ xs0_82 xs2_118 M).2) 29 0 7).toNat v1) 36 0 ((gU ((f_X12_asked_ xs0_82 xs2_118 M).2) 35 0 (((f_X12_asked_ xs0_82 xs2_118 M).2) 29 0 7).toNat v1) 29 0 7).toNat v2) 29 0 7).toNat v3) 38 0 ((gU (gU (gU ((f_X12_asked_ xs0_82 xs2_118 M).2) 35 0 (((f_X12_asked_ xs0_82 xs2_118 M).2) 29 0 7).toNat v1) 36 0 ((gU ((f_X12_asked_ xs0_82 xs2_118 M).2) 35 0 (((f_X12_asked_ xs0_82 xs2_118 M).2) 29 0 7).toNat v1) 29 0 7).toNat v2) 37 0 ((gU (gU ((f_X12_asked_ xs0_82 xs2_118 M).2) 35 0 (((f_X12_asked_ xs0_82 xs2_118 M).2) 29 0 7).toNat v1) 36 0 ((gU ((f_X12_asked_ xs0_82 xs2_118 M).2) 35 0 (((f_X12_asked_ xs0_82 xs2_118 M).2) 29 0 7).toNat v1) 29 0 7).toNat v2) 29 0 7).toNat v3) 29 0 7).toNat v4) 39 0 ((gU (gU (gU (gU ((f_X12_asked_ xs0_82 xs2_118 M).2) 35 0 (((f_X12_asked_ xs0_82 xs2_118 M).2) 29 0 7).toNat v1) 36 0 ((gU ((f_X12_asked_ xs0_82 xs2_118 M).2) 35 0 (((f_X12_asked_ xs0_82 xs2_118 M).2) 29 0 7).toNat v1) 29 0 7).toNat v2) 37 0 ((gU (gU ((f_X12_asked_ xs0_82 xs2_118 M).2) 35 0 (((f_X12_asked_ xs0_82 xs2_118 M).2) 29 0 7).toNat v1) 36 0 ((gU ((f_X12_asked_ xs0_82 xs2_118 M).2) 35 0 (((f_X12_asked_ xs0_82 xs2_118 M).2) 29 0 7).toNat v1) 29 0 7).toNat v2) 29 0 7).toNat v3) 38 0 ((gU (gU (gU ((f_X12_asked_ xs0_82 xs2_118 M).2) 35 0 (((f_X12_asked_ xs0_82 xs2_118 M).2) 29 0 7).toNat v1) 36 0 ((gU ((f_X12_asked_ xs0_82 xs2_118 M).2) 35 0 (((f_X12_asked_ xs0_82 xs2_118 M).2) 29 0 7).toNat v1) 29 0 7).toNat v2) 37 0 ((gU (gU ((f_X12_asked_ xs0_82 xs2_118 M).2) 35 0 (((f_X12_asked_ xs0_82 xs2_118 M).2) 29 0 7).toNat v1) 36 0 ((gU ((f_X12_asked_ xs0_82 xs2_118 M).2) 35 0 (((f_X12_asked_ xs0_82 xs2_118 M).2) 29 0 7).toNat v1) 29 0 7).toNat v2) 29 0 7).toNat v3) 29 0 7).toNat v4) 29 0 7).toNat v5) 29 0 7) := hH.1.1 _ _ _
        refine g_get X cX12 hH (r := 29) (i := 0) (by decide) rfl 7 (by decide) k_1217 rfl (v := .int (iI ((gU (gU (gU (gU (gU ((f_X12_asked_ xs0_82 xs2_118 M).2) 35 0 (((f_X12_asked_ xs0_82 xs2_118 M).2) 29 0 7).toNat v1) 36 0 ((gU ((f_X12_asked_ xs0_82 xs2_118 M).2) 35 0 (((f_X12_asked_ xs0_82 xs2_118 M).2) 29 0 7).toNat v1) 29 0 7).toNat v2) 37 0 ((gU (gU ((f_X12_asked_ xs0_82 xs2_118 M).2) 35 0 (((f_X12_asked_ xs0_82 xs2_118 M).2) 29 0 7).toNat v1) 36 0 ((gU ((f_X12_asked_ xs0_82 xs2_118 M).2) 35 0 (((f_X12_asked_ xs0_82 xs2_118 M).2) 29 0 7).toNat v1) 29 0 7).toNat v2) 29 0 7).toNat v3) 38 0 ((gU (gU (gU ((f_X12_asked_ xs0_82 xs2_118 M).2) 35 0 (((f_X12_asked_ xs0_82 xs2_118 M).2) 29 0 7).toNat v1) 36 0 ((gU ((f_X12_asked_ xs0_82 xs2_118 M).2) 35 0 (((f_X12_asked_ xs0_82 xs2_118 M).2) 29 0 7).toNat v1) 29 0 7).toNat v2) 37 0 ((gU (gU ((f_X12_asked_ xs0_82 xs2_118 M).2) 35 0 (((f_X12_asked_ xs0_82 xs2_118 M).2) 29 0 7).toNat v1) 36 0 ((gU ((f_X12_asked_ xs0_82 xs2_118 M).2) 35 0 (((f_X12_asked_ xs0_82 xs2_118 M).2) 29 0 7).toNat v1) 29 0 7).toNat v2) 29 0 7).toNat v3) 29 0 7).toNat v4) 39 0 ((gU (gU (gU (gU ((f_X12_asked_ xs0_82 xs2_118 M).2) 35 0 (((f_X12_asked_ xs0_82 xs2_118 M).2) 29 0 7).toNat v1) 36 0 ((gU ((f_X12_asked_ xs0_82 xs2_118 M).2) 35 0 (((f_X12_asked_ xs0_82 xs2_118 M).2) 29 0 7).toNat v1) 29 0 7).toNat v2) 37 0 ((gU (gU ((f_X12_asked_ xs0_82 xs2_118 M).2) 35 0 (((f_X12_asked_ xs0_82 xs2_118 M).2) 29 0 7).toNat v1) 36 0 ((gU ((f_X12_asked_ xs0_82 xs2_118 M).2) 35 0 (((f_X12_asked_ xs0_82 xs2_118 M).2) 29 0 7).toNat v1) 29 0 7).toNat v2) 29 0 7).toNat v3) 38 0 ((gU (gU (gU ((f_X12_asked_ xs0_82 xs2_118 M).2) 35 0 (((f_X12_asked_ xs0_82 xs2_118 M).2) 29 0 7).toNat v1) 36 0 ((gU ((f_X12_asked_ xs0_82 xs2_118 M).2) 35 0 (((f_X12_asked_ xs0_82 xs2_118 M).2) 29 0 7).toNat v1) 29 0 7).toNat v2) 37 0 ((gU (gU ((f_X12_asked_ xs0_82 xs2_118 M).2) 35 0 (((f_X12_asked_ xs0_82 xs2_118 M).2) 29 0 7).toNat v1) 36 0 ((gU ((f_X12_asked_ xs0_82 xs2_118 M).2) 35 0 (((f_X12_asked_ xs0_82 xs2_118 M).2) 29 0 7).toNat v1) 29 0 7).toNat v2) 29 0 7).toNat v3) 29 0 7).toNat v4) 29 0 7).toNat v5) 29 0 7))) rfl dX12_target_183 ?_
        refine lv_iload X.1 X.2.1 dX12_target_186 (lv_at hl.1 6 rfl) ?_
        obtain ⟨hg, hf_⟩ := og_e hf; clear hf; have hf := hf_; clear hf_
        refine g_iast X hH hS (r := 40) (i := 0) (by decide) (fun _ => rfl) nd183 hg nv6 rfl (by decide) dX12_target_188 (fun H locs hH hS => ?_)
        refine lv_aload_n X.1 X.2.1 dX12_target_189 rfl (lv_at hl.1 0 rfl) ?_
        refine lv_bipush X.1 X.2.1 dX12_target_190 (v := iI 14) (by decide) ?_
        refine lv_aload_n X.1 X.2.1 dX12_target_192 rfl (lv_at hl.1 0 rfl) ?_
        have nd193 : nmI ((gU (gU (gU (gU (gU (gU ((f_X12_asked_ xs0_82 xs2_118 M).2) 35 0 (((f_X12_asked_ xs0_82 xs2_118 M).2) 29 0 7).toNat v1) 36 0 ((gU ((f_X12_asked_ xs0_82 xs2_118 M).2) 35 0 (((f_X12_asked_ xs0_82 xs2_118 M).2) 29 0 7).toNat v1) 29 0 7).toNat v2) 37 0 ((gU (gU ((f_X12_asked_ xs0_82 xs2_118 M).2) 35 0 (((f_X12_asked_ xs0_82 xs2_118 M).2) 29 0 7).toNat v1) 36 0 ((gU ((f_X12_asked_ xs0_82 xs2_118 M).2) 35 0 (((f_X12_asked_ xs0_82 xs2_118 M).2) 29 0 7).toNat v1) 29 0 7).toNat v2) 29 0 7).toNat v3) 38 0 ((gU (gU (gU ((f_X12_asked_ xs0_82 xs2_118 M).2) 35 0 (((f_X12_asked_ xs0_82 xs2_118 M).2) 29 0 7).toNat v1) 36 0 ((gU ((f_X12_asked_ xs0_82 xs2_118 M).2) 35 0 (((f_X12_asked_ xs0_82 xs2_118 M).2) 29 0 7).toNat v1) 29 0 7).toNat v2) 37 0 ((gU (gU ((f_X12_asked_ xs0_82 xs2_118 M).2) 35 0 (((f_X12_asked_ xs0_82 xs2_118 M).2) 29 0 7).toNat v1) 36 0 ((gU ((f_X12_asked_ xs0_82 xs2_118 M).2) 35 0 (((f_X12_asked_ xs0_82 xs2_118 M).2) 29 0 7).toNat v1) 29 0 7).toNat v2) 29 0 7).toNat v3) 29 0 7).toNat v4) 39 0 ((gU (gU (gU (gU ((f_X12_asked_ xs0_82 xs2_118 M).2) 35 0 (((f_X12_asked_ xs0_82 xs2_118 M).2) 29 0 7).toNat v1) 36 0 ((gU ((f_X12_asked_ xs0_82 xs2_118 M).2) 35 0 (((f_X12_asked_ xs0_82 xs2_118 M).2) 29 0 7).toNat v1) 29 0 7).toNat v2) 37 0 ((gU (gU ((f_X12_asked_ xs0_82 xs2_118 M).2) 35 0 (((f_X12_asked_ xs0_82 xs2_118 M).2) 29 0 7).toNat v1) 36 0 ((gU ((f_X12_asked_ xs0_82 xs2_118 M).2) 35 0 (((f_X12_asked_ xs0_82 xs2_118 M).2) 29 0 7).toNat v1) 29 0 7).toNat v2) 29 0 7).toNat v3) 38 0 ((gU (gU (gU ((f_X12_asked_ xs0_82 xs2_118 M).2) 35 0 (((f_X12_asked_ xs0_82 xs2_118 M).2) 29 0 7).toNat v1) 36 0 ((gU ((f_X12_asked_ xs0_82 xs2_118 M).2) 35 0 (((f_X12_asked_ xs0_82 xs2_118 M).2) 29 0 7).toNat v1) 29 0 7).toNat v2) 37 0 ((gU (gU ((f_X12_asked_ xs0_82 xs2_118 M).2) 35 0 (((f_X12_asked_ xs0_82 xs2_118 M).2) 29 0 7).toNat v1) 36 0 ((gU ((f_X12_asked_ xs0_82 xs2_118 M).2) 35 0 (((f_X12_asked_ xs0_82 xs2_118 M).2) 29 0 7).toNat v1) 29 0 7).toNat v2) 29 0 7).toNat v3) 29 0 7).toNat v4) 29 0 7).toNat v5) 40 0 ((gU (gU (gU (gU (gU ((f_X12_asked_ xs0_82 xs2_118 M).2) 35 0 (((f_X12_asked_ xs0_82 xs2_118 M).2) 29 0 7).toNat v1) 36 0 ((gU ((f_X12_asked_ xs0_82 xs2_118 M).2) 35 0 (((f_X12_asked_ xs0_82 xs2_118 M).2) 29 0 7).toNat v1) 29 0 7).toNat v2) 37 0 ((gU (gU ((f_X12_asked_ xs0_82 xs2_118 M).2) 35 0 (((f_X12_asked_ xs0_82 xs2_118 M).2) 29 0 7).toNat v1) 36 0 ((gU ((f_X12_asked_ xs0_82 xs2_118 M).2) 35 0 (((f_X12_asked_ xs0_82 xs2_118 M).2) 29 0 7).toNat v1) 29 0 7).toNat v2) 29 0 7).toNat v3) 38 0 ((gU (gU (gU ((f_X12_asked_ xs0_82 xs2_118 M).2) 35 0 (((f_X12_asked_ xs0_82 xs2_118 M).2) 29 0 7).toNat v1) 36 0 ((gU ((f_X12_asked_ xs0_82 xs2_118 M).2) 35 0 (((f_X12_asked_ xs0_82 xs2_118 M).2) 29 0 7).toNat v1) 29 0 7).toNat v2) 37 0 ((gU (gU ((f_X12_asked_ xs0_82 xs2_118 M).2) 35 0 (((f_X12_asked_ xs0_82 xs2_118 M).2) 29 0 7).toNat v1) 36 0 ((gU ((f_X12_asked_ xs0_82 xs2_118 M).2) 35 0 (((f_X12_asked_ xs0_82 xs2_118 M).2) 29 0 7).toNat v1) 29 0 7).toNat v2) 29 0 7).toNat v3) 29 0 7).toNat v4) 39 0 ((gU (gU (gU (gU ((f_X12_asked_ xs0_82 xs2_118 M).2) 35 0 (((f_X12_asked_ xs0_82 xs2_118 M).2) 29 0 7).toNat v1) 36 0 ((gU ((f_X12_asked_ xs0_82 xs2_118 M).2) 35 0 (((f_X12_asked_ xs0_82 xs2_118 M).2) 29 0 7).toNat v1) 29 0 7).toNat v2) 37 0 ((gU (gU ((f_X12_asked_ xs0_82 xs2_118 M).2) 35 0 (((f_X12_asked_ xs0_82 xs2_118 M).2) 29 0 7).toNat v1) 36 0 ((gU ((f_X12_asked_ xs0_82 xs2_118 M).2) 35 0 (((f_X12_asked_ xs0_82 xs2_118 M).2) 29 0 7).toNat v1) 29 0 7).toNat v2) 29 0 7).toNat v3) 38 0 ((gU (gU (gU ((f_X12_asked_ xs0_82 xs2_118 M).2) 35 0 (((f_X12_asked_ xs0_82 xs2_118 M).2) 29 0 7).toNat v1) 36 0 ((gU ((f_X12_asked_ xs0_82 xs2_118 M).2) 35 0 (((f_X12_asked_ xs0_82 xs2_118 M).2) 29 0 7).toNat v1) 29 0 7).toNat v2) 37 0 ((gU (gU ((f_X12_asked_ xs0_82 xs2_118 M).2) 35 0 (((f_X12_asked_ xs0_82 xs2_118 M).2) 29 0 7).toNat v1) 36 0 ((gU ((f_X12_asked_ xs0_82 xs2_118 M).2) 35 0 (((f_X12_asked_ xs0_82 xs2_118 M).2) 29 0 7).toNat v1) 29 0 7).toNat v2) 29 0 7).toNat v3) 29 0 7).toNat v4) 29 0 7).toNat v5) 29 0 7).toNat v6) 29 0 7) := hH.1.1 _ _ _
        refine g_get X cX12 hH (r := 29) (i := 0) (by decide) rfl 7 (by decide) k_1217 rfl (v := .int (iI ((gU (gU (gU (gU (gU (gU ((f_X12_asked_ xs0_82 xs2_118 M).2) 35 0 (((f_X12_asked_ xs0_82 xs2_118 M).2) 29 0 7).toNat v1) 36 0 ((gU ((f_X12_asked_ xs0_82 xs2_118 M).2) 35 0 (((f_X12_asked_ xs0_82 xs2_118 M).2) 29 0 7).toNat v1) 29 0 7).toNat v2) 37 0 ((gU (gU ((f_X12_asked_ xs0_82 xs2_118 M).2) 35 0 (((f_X12_asked_ xs0_82 xs2_118 M).2) 29 0 7).toNat v1) 36 0 ((gU ((f_X12_asked_ xs0_82 xs2_118 M).2) 35 0 (((f_X12_asked_ xs0_82 xs2_118 M).2) 29 0 7).toNat v1) 29 0 7).toNat v2) 29 0 7).toNat v3) 38 0 ((gU (gU (gU ((f_X12_asked_ xs0_82 xs2_118 M).2) 35 0 (((f_X12_asked_ xs0_82 xs2_118 M).2) 29 0 7).toNat v1) 36 0 ((gU ((f_X12_asked_ xs0_82 xs2_118 M).2) 35 0 (((f_X12_asked_ xs0_82 xs2_118 M).2) 29 0 7).toNat v1) 29 0 7).toNat v2) 37 0 ((gU (gU ((f_X12_asked_ xs0_82 xs2_118 M).2) 35 0 (((f_X12_asked_ xs0_82 xs2_118 M).2) 29 0 7).toNat v1) 36 0 ((gU ((f_X12_asked_ xs0_82 xs2_118 M).2) 35 0 (((f_X12_asked_ xs0_82 xs2_118 M).2) 29 0 7).toNat v1) 29 0 7).toNat v2) 29 0 7).toNat v3) 29 0 7).toNat v4) 39 0 ((gU (gU (gU (gU ((f_X12_asked_ xs0_82 xs2_118 M).2) 35 0 (((f_X12_asked_ xs0_82 xs2_118 M).2) 29 0 7).toNat v1) 36 0 ((gU ((f_X12_asked_ xs0_82 xs2_118 M).2) 35 0 (((f_X12_asked_ xs0_82 xs2_118 M).2) 29 0 7).toNat v1) 29 0 7).toNat v2) 37 0 ((gU (gU ((f_X12_asked_ xs0_82 xs2_118 M).2) 35 0 (((f_X12_asked_ xs0_82 xs2_118 M).2) 29 0 7).toNat v1) 36 0 ((gU ((f_X12_asked_ xs0_82 xs2_118 M).2) 35 0 (((f_X12_asked_ xs0_82 xs2_118 M).2) 29 0 7).toNat v1) 29 0 7).toNat v2) 29 0 7).toNat v3) 38 0 ((gU (gU (gU ((f_X12_asked_ xs0_82 xs2_118 M).2) 35 0 (((f_X12_asked_ xs0_82 xs2_118 M).2) 29 0 7).toNat v1) 36 0 ((gU ((f_X12_asked_ xs0_82 xs2_118 M).2) 35 0 (((f_X12_asked_ xs0_82 xs2_118 M).2) 29 0 7).toNat v1) 29 0 7).toNat v2) 37 0 ((gU (gU ((f_X12_asked_ xs0_82 xs2_118 M).2) 35 0 (((f_X12_asked_ xs0_82 xs2_118 M).2) 29 0 7).toNat v1) 36 0 ((gU ((f_X12_asked_ xs0_82 xs2_118 M).2) 35 0 (((f_X12_asked_ xs0_82 xs2_118 M).2) 29 0 7).toNat v1) 29 0 7).toNat v2) 29 0 7).toNat v3) 29 0 7).toNat v4) 29 0 7).toNat v5) 40 0 ((gU (gU (gU (gU (gU ((f_X12_asked_ xs0_82 xs2_118 M).2) 35 0 (((f_X12_asked_ xs0_82 xs2_118 M).2) 29 0 7).toNat v1) 36 0 ((gU ((f_X12_asked_ xs0_82 xs2_118 M).2) 35 0 (((f_X12_asked_ xs0_82 xs2_118 M).2) 29 0 7).toNat v1) 29 0 7).toNat v2) 37 0 ((gU (gU ((f_X12_asked_ xs0_82 xs2_118 M).2) 35 0 (((f_X12_asked_ xs0_82 xs2_118 M).2) 29 0 7).toNat v1) 36 0 ((gU ((f_X12_asked_ xs0_82 xs2_118 M).2) 35 0 (((f_X12_asked_ xs0_82 xs2_118 M).2) 29 0 7).toNat v1) 29 0 7).toNat v2) 29 0 7).toNat v3) 38 0 ((gU (gU (gU ((f_X12_asked_ xs0_82 xs2_118 M).2) 35 0 (((f_X12_asked_ xs0_82 xs2_118 M).2) 29 0 7).toNat v1) 36 0 ((gU ((f_X12_asked_ xs0_82 xs2_118 M).2) 35 0 (((f_X12_asked_ xs0_82 xs2_118 M).2) 29 0 7).toNat v1) 29 0 7).toNat v2) 37 0 ((gU (gU ((f_X12_asked_ xs0_82 xs2_118 M).2) 35 0 (((f_X12_asked_ xs0_82 xs2_118 M).2) 29 0 7).toNat v1) 36 0 ((gU ((f_X12_asked_ xs0_82 xs2_118 M).2) 35 0 (((f_X12_asked_ xs0_82 xs2_118 M).2) 29 0 7).toNat v1) 29 0 7).toNat v2) 29 0 7).toNat v3) 29 0 7).toNat v4) 39 0 ((gU (gU (gU (gU ((f_X12_asked_ xs0_82 xs2_118 M).2) 35 0 (((f_X12_asked_ xs0_82 xs2_118 M).2) 29 0 7).toNat v1) 36 0 ((gU ((f_X12_asked_ xs0_82 xs2_118 M).2) 35 0 (((f_X12_asked_ xs0_82 xs2_118 M).2) 29 0 7).toNat v1) 29 0 7).toNat v2) 37 0 ((gU (gU ((f_X12_asked_ xs0_82 xs2_118 M).2) 35 0 (((f_X12_asked_ xs0_82 xs2_118 M).2) 29 0 7).toNat v1) 36 0 ((gU ((f_X12_asked_ xs0_82 xs2_118 M).2) 35 0 (((f_X12_asked_ xs0_82 xs2_118 M).2) 29 0 7).toNat v1) 29 0 7).toNat v2) 29 0 7).toNat v3) 38 0 ((gU (gU (gU ((f_X12_asked_ xs0_82 xs2_118 M).2) 35 0 (((f_X12_asked_ xs0_82 xs2_118 M).2) 29 0 7).toNat v1) 36 0 ((gU ((f_X12_asked_ xs0_82 xs2_118 M).2) 35 0 (((f_X12_asked_ xs0_82 xs2_118 M).2) 29 0 7).toNat v1) 29 0 7).toNat v2) 37 0 ((gU (gU ((f_X12_asked_ xs0_82 xs2_118 M).2) 35 0 (((f_X12_asked_ xs0_82 xs2_118 M).2) 29 0 7).toNat v1) 36 0 ((gU ((f_X12_asked_ xs0_82 xs2_118 M).2) 35 0 (((f_X12_asked_ xs0_82 xs2_118 M).2) 29 0 7).toNat v1) 29 0 7).toNat v2) 29 0 7).toNat v3) 29 0 7).toNat v4) 29 0 7).toNat v5) 29 0 7).toNat v6) 29 0 7))) rfl dX12_target_193 ?_
        obtain ⟨r196, hq196, hf_⟩ := ob_e hf; clear hf; have hf := hf_; clear hf_
        refine gGoV (gRunV X hH (As := [.int (iI 14), .int (iI ((gU (gU (gU (gU (gU (gU ((f_X12_asked_ xs0_82 xs2_118 M).2) 35 0 (((f_X12_asked_ xs0_82 xs2_118 M).2) 29 0 7).toNat v1) 36 0 ((gU ((f_X12_asked_ xs0_82 xs2_118 M).2) 35 0 (((f_X12_asked_ xs0_82 xs2_118 M).2) 29 0 7).toNat v1) 29 0 7).toNat v2) 37 0 ((gU (gU ((f_X12_asked_ xs0_82 xs2_118 M).2) 35 0 (((f_X12_asked_ xs0_82 xs2_118 M).2) 29 0 7).toNat v1) 36 0 ((gU ((f_X12_asked_ xs0_82 xs2_118 M).2) 35 0 (((f_X12_asked_ xs0_82 xs2_118 M).2) 29 0 7).toNat v1) 29 0 7).toNat v2) 29 0 7).toNat v3) 38 0 ((gU (gU (gU ((f_X12_asked_ xs0_82 xs2_118 M).2) 35 0 (((f_X12_asked_ xs0_82 xs2_118 M).2) 29 0 7).toNat v1) 36 0 ((gU ((f_X12_asked_ xs0_82 xs2_118 M).2) 35 0 (((f_X12_asked_ xs0_82 xs2_118 M).2) 29 0 7).toNat v1) 29 0 7).toNat v2) 37 0 ((gU (gU ((f_X12_asked_ xs0_82 xs2_118 M).2) 35 0 (((f_X12_asked_ xs0_82 xs2_118 M).2) 29 0 7).toNat v1) 36 0 ((gU ((f_X12_asked_ xs0_82 xs2_118 M).2) 35 0 (((f_X12_asked_ xs0_82 xs2_118 M).2) 29 0 7).toNat v1) 29 0 7).toNat v2) 29 0 7).toNat v3) 29 0 7).toNat v4) 39 0 ((gU (gU (gU (gU ((f_X12_asked_ xs0_82 xs2_118 M).2) 35 0 (((f_X12_asked_ xs0_82 xs2_118 M).2) 29 0 7).toNat v1) 36 0 ((gU ((f_X12_asked_ xs0_82 xs2_118 M).2) 35 0 (((f_X12_asked_ xs0_82 xs2_118 M).2) 29 0 7).toNat v1) 29 0 7).toNat v2) 37 0 ((gU (gU ((f_X12_asked_ xs0_82 xs2_118 M).2) 35 0 (((f_X12_asked_ xs0_82 xs2_118 M).2) 29 0 7).toNat v1) 36 0 ((gU ((f_X12_asked_ xs0_82 xs2_118 M).2) 35 0 (((f_X12_asked_ xs0_82 xs2_118 M).2) 29 0 7).toNat v1) 29 0 7).toNat v2) 29 0 7).toNat v3) 38 0 ((gU (gU (gU ((f_X12_asked_ xs0_82 xs2_118 M).2) 35 0 (((f_X12_asked_ xs0_82 xs2_118 M).2) 29 0 7).toNat v1) 36 0 ((gU ((f_X12_asked_ xs0_82 xs2_118 M).2) 35 0 (((f_X12_asked_ xs0_82 xs2_118 M).2) 29 0 7).toNat v1) 29 0 7).toNat v2) 37 0 ((gU (gU ((f_X12_asked_ xs0_82 xs2_118 M).2) 35 0 (((f_X12_asked_ xs0_82 xs2_118 M).2) 29 0 7).toNat v1) 36 0 ((gU ((f_X12_asked_ xs0_82 xs2_118 M).2) 35 0 (((f_X12_asked_ xs0_82 xs2_118 M).2) 29 0 7).toNat v1) 29 0 7).toNat v2) 29 0 7).toNat v3) 29 0 7).toNat v4) 29 0 7).toNat v5) 40 0 ((gU (gU (gU (gU (gU ((f_X12_asked_ xs0_82 xs2_118 M).2) 35 0 (((f_X12_asked_ xs0_82 xs2_118 M).2) 29 0 7).toNat v1) 36 0 ((gU ((f_X12_asked_ xs0_82 xs2_118 M).2) 35 0 (((f_X12_asked_ xs0_82 xs2_118 M).2) 29 0 7).toNat v1) 29 0 7).toNat v2) 37 0 ((gU (gU ((f_X12_asked_ xs0_82 xs2_118 M).2) 35 0 (((f_X12_asked_ xs0_82 xs2_118 M).2) 29 0 7).toNat v1) 36 0 ((gU ((f_X12_asked_ xs0_82 xs2_118 M).2) 35 0 (((f_X12_asked_ xs0_82 xs2_118 M).2) 29 0 7).toNat v1) 29 0 7).toNat v2) 29 0 7).toNat v3) 38 0 ((gU (gU (gU ((f_X12_asked_ xs0_82 xs2_118 M).2) 35 0 (((f_X12_asked_ xs0_82 xs2_118 M).2) 29 0 7).toNat v1) 36 0 ((gU ((f_X12_asked_ xs0_82 xs2_118 M).2) 35 0 (((f_X12_asked_ xs0_82 xs2_118 M).2) 29 0 7).toNat v1) 29 0 7).toNat v2) 37 0 ((gU (gU ((f_X12_asked_ xs0_82 xs2_118 M).2) 35 0 (((f_X12_asked_ xs0_82 xs2_118 M).2) 29 0 7).toNat v1) 36 0 ((gU ((f_X12_asked_ xs0_82 xs2_118 M).2) 35 0 (((f_X12_asked_ xs0_82 xs2_118 M).2) 29 0 7).toNat v1) 29 0 7).toNat v2) 29 0 7).toNat v3) 29 0 7).toNat v4) 39 0 ((gU (gU (gU (gU ((f_X12_asked_ xs0_82 xs2_118 M).2) 35 0 (((f_X12_asked_ xs0_82 xs2_118 M).2) 29 0 7).toNat v1) 36 0 ((gU ((f_X12_asked_ xs0_82 xs2_118 M).2) 35 0 (((f_X12_asked_ xs0_82 xs2_118 M).2) 29 0 7).toNat v1) 29 0 7).toNat v2) 37 0 ((gU (gU ((f_X12_asked_ xs0_82 xs2_118 M).2) 35 0 (((f_X12_asked_ xs0_82 xs2_118 M).2) 29 0 7).toNat v1) 36 0 ((gU ((f_X12_asked_ xs0_82 xs2_118 M).2) 35 0 (((f_X12_asked_ xs0_82 xs2_118 M).2) 29 0 7).toNat v1) 29 0 7).toNat v2) 29 0 7).toNat v3) 38 0 ((gU (gU (gU ((f_X12_asked_ xs0_82 xs2_118 M).2) 35 0 (((f_X12_asked_ xs0_82 xs2_118 M).2) 29 0 7).toNat v1) 36 0 ((gU ((f_X12_asked_ xs0_82 xs2_118 M).2) 35 0 (((f_X12_asked_ xs0_82 xs2_118 M).2) 29 0 7).toNat v1) 29 0 7).toNat v2) 37 0 ((gU (gU ((f_X12_asked_ xs0_82 xs2_118 M).2) 35 0 (((f_X12_asked_ xs0_82 xs2_118 M).2) 29 0 7).toNat v1) 36 0 ((gU ((f_X12_asked_ xs0_82 xs2_118 M).2) 35 0 (((f_X12_asked_ xs0_82 xs2_118 M).2) 29 0 7).toNat v1) 29 0 7).toNat v2) 29 0 7).toNat v3) 29 0 7).toNat v4) 29 0 7).toNat v5) 29 0 7).toNat v6) 29 0 7))]) (m_X12_lay l G 14 (nmI_l (by decide)) ((gU (gU (gU (gU (gU (gU ((f_X12_asked_ xs0_82 xs2_118 M).2) 35 0 (((f_X12_asked_ xs0_82 xs2_118 M).2) 29 0 7).toNat v1) 36 0 ((gU ((f_X12_asked_ xs0_82 xs2_118 M).2) 35 0 (((f_X12_asked_ xs0_82 xs2_118 M).2) 29 0 7).toNat v1) 29 0 7).toNat v2) 37 0 ((gU (gU ((f_X12_asked_ xs0_82 xs2_118 M).2) 35 0 (((f_X12_asked_ xs0_82 xs2_118 M).2) 29 0 7).toNat v1) 36 0 ((gU ((f_X12_asked_ xs0_82 xs2_118 M).2) 35 0 (((f_X12_asked_ xs0_82 xs2_118 M).2) 29 0 7).toNat v1) 29 0 7).toNat v2) 29 0 7).toNat v3) 38 0 ((gU (gU (gU ((f_X12_asked_ xs0_82 xs2_118 M).2) 35 0 (((f_X12_asked_ xs0_82 xs2_118 M).2) 29 0 7).toNat v1) 36 0 ((gU ((f_X12_asked_ xs0_82 xs2_118 M).2) 35 0 (((f_X12_asked_ xs0_82 xs2_118 M).2) 29 0 7).toNat v1) 29 0 7).toNat v2) 37 0 ((gU (gU ((f_X12_asked_ xs0_82 xs2_118 M).2) 35 0 (((f_X12_asked_ xs0_82 xs2_118 M).2) 29 0 7).toNat v1) 36 0 ((gU ((f_X12_asked_ xs0_82 xs2_118 M).2) 35 0 (((f_X12_asked_ xs0_82 xs2_118 M).2) 29 0 7).toNat v1) 29 0 7).toNat v2) 29 0 7).toNat v3) 29 0 7).toNat v4) 39 0 ((gU (gU (gU (gU ((f_X12_asked_ xs0_82 xs2_118 M).2) 35 0 (((f_X12_asked_ xs0_82 xs2_118 M).2) 29 0 7).toNat v1) 36 0 ((gU ((f_X12_asked_ xs0_82 xs2_118 M).2) 35 0 (((f_X12_asked_ xs0_82 xs2_118 M).2) 29 0 7).toNat v1) 29 0 7).toNat v2) 37 0 ((gU (gU ((f_X12_asked_ xs0_82 xs2_118 M).2) 35 0 (((f_X12_asked_ xs0_82 xs2_118 M).2) 29 0 7).toNat v1) 36 0 ((gU ((f_X12_asked_ xs0_82 xs2_118 M).2) 35 0 (((f_X12_asked_ xs0_82 xs2_118 M).2) 29 0 7).toNat v1) 29 0 7).toNat v2) 29 0 7).toNat v3) 38 0 ((gU (gU (gU ((f_X12_asked_ xs0_82 xs2_118 M).2) 35 0 (((f_X12_asked_ xs0_82 xs2_118 M).2) 29 0 7).toNat v1) 36 0 ((gU ((f_X12_asked_ xs0_82 xs2_118 M).2) 35 0 (((f_X12_asked_ xs0_82 xs2_118 M).2) 29 0 7).toNat v1) 29 0 7).toNat v2) 37 0 ((gU (gU ((f_X12_asked_ xs0_82 xs2_118 M).2) 35 0 (((f_X12_asked_ xs0_82 xs2_118 M).2) 29 0 7).toNat v1) 36 0 ((gU ((f_X12_asked_ xs0_82 xs2_118 M).2) 35 0 (((f_X12_asked_ xs0_82 xs2_118 M).2) 29 0 7).toNat v1) 29 0 7).toNat v2) 29 0 7).toNat v3) 29 0 7).toNat v4) 29 0 7).toNat v5) 40 0 ((gU (gU (gU (gU (gU ((f_X12_asked_ xs0_82 xs2_118 M).2) 35 0 (((f_X12_asked_ xs0_82 xs2_118 M).2) 29 0 7).toNat v1) 36 0 ((gU ((f_X12_asked_ xs0_82 xs2_118 M).2) 35 0 (((f_X12_asked_ xs0_82 xs2_118 M).2) 29 0 7).toNat v1) 29 0 7).toNat v2) 37 0 ((gU (gU ((f_X12_asked_ xs0_82 xs2_118 M).2) 35 0 (((f_X12_asked_ xs0_82 xs2_118 M).2) 29 0 7).toNat v1) 36 0 ((gU ((f_X12_asked_ xs0_82 xs2_118 M).2) 35 0 (((f_X12_asked_ xs0_82 xs2_118 M).2) 29 0 7).toNat v1) 29 0 7).toNat v2) 29 0 7).toNat v3) 38 0 ((gU (gU (gU ((f_X12_asked_ xs0_82 xs2_118 M).2) 35 0 (((f_X12_asked_ xs0_82 xs2_118 M).2) 29 0 7).toNat v1) 36 0 ((gU ((f_X12_asked_ xs0_82 xs2_118 M).2) 35 0 (((f_X12_asked_ xs0_82 xs2_118 M).2) 29 0 7).toNat v1) 29 0 7).toNat v2) 37 0 ((gU (gU ((f_X12_asked_ xs0_82 xs2_118 M).2) 35 0 (((f_X12_asked_ xs0_82 xs2_118 M).2) 29 0 7).toNat v1) 36 0 ((gU ((f_X12_asked_ xs0_82 xs2_118 M).2) 35 0 (((f_X12_asked_ xs0_82 xs2_118 M).2) 29 0 7).toNat v1) 29 0 7).toNat v2) 29 0 7).toNat v3) 29 0 7).toNat v4) 39 0 ((gU (gU (gU (gU ((f_X12_asked_ xs0_82 xs2_118 M).2) 35 0 (((f_X12_asked_ xs0_82 xs2_118 M).2) 29 0 7).toNat v1) 36 0 ((gU ((f_X12_asked_ xs0_82 xs2_118 M).2) 35 0 (((f_X12_asked_ xs0_82 xs2_118 M).2) 29 0 7).toNat v1) 29 0 7).toNat v2) 37 0 ((gU (gU ((f_X12_asked_ xs0_82 xs2_118 M).2) 35 0 (((f_X12_asked_ xs0_82 xs2_118 M).2) 29 0 7).toNat v1) 36 0 ((gU ((f_X12_asked_ xs0_82 xs2_118 M).2) 35 0 (((f_X12_asked_ xs0_82 xs2_118 M).2) 29 0 7).toNat v1) 29 0 7).toNat v2) 29 0 7).toNat v3) 38 0 ((gU (gU (gU ((f_X12_asked_ xs0_82 xs2_118 M).2) 35 0 (((f_X12_asked_ xs0_82 xs2_118 M).2) 29 0 7).toNat v1) 36 0 ((gU ((f_X12_asked_ xs0_82 xs2_118 M).2) 35 0 (((f_X12_asked_ xs0_82 xs2_118 M).2) 29 0 7).toNat v1) 29 0 7).toNat v2) 37 0 ((gU (gU ((f_X12_asked_ xs0_82 xs2_118 M).2) 35 0 (((f_X12_asked_ xs0_82 xs2_118 M).2) 29 0 7).toNat v1) 36 0 ((gU ((f_X12_asked_ xs0_82 xs2_118 M).2) 35 0 (((f_X12_asked_ xs0_82 xs2_118 M).2) 29 0 7).toNat v1) 29 0 7).toNat v2) 29 0 7).toNat v3) 29 0 7).toNat v4) 29 0 7).toNat v5) 29 0 7).toNat v6) 29 0 7) nd193 (gU (gU (gU (gU (gU (gU ((f_X12_asked_ xs0_82 xs2_118 M).2) 35 0 (((f_X12_asked_ xs0_82 xs2_118 M).2) 29 0 7).toNat v1) 36 0 ((gU ((f_X12_asked_ xs0_82 xs2_118 M).2) 35 0 (((f_X12_asked_ xs0_82 xs2_118 M).2) 29 0 7).toNat v1) 29 0 7).toNat v2) 37 0 ((gU (gU ((f_X12_asked_ xs0_82 xs2_118 M).2) 35 0 (((f_X12_asked_ xs0_82 xs2_118 M).2) 29 0 7).toNat v1) 36 0 ((gU ((f_X12_asked_ xs0_82 xs2_118 M).2) 35 0 (((f_X12_asked_ xs0_82 xs2_118 M).2) 29 0 7).toNat v1) 29 0 7).toNat v2) 29 0 7).toNat v3) 38 0 ((gU (gU (gU ((f_X12_asked_ xs0_82 xs2_118 M).2) 35 0 (((f_X12_asked_ xs0_82 xs2_118 M).2) 29 0 7).toNat v1) 36 0 ((gU ((f_X12_asked_ xs0_82 xs2_118 M).2) 35 0 (((f_X12_asked_ xs0_82 xs2_118 M).2) 29 0 7).toNat v1) 29 0 7).toNat v2) 37 0 ((gU (gU ((f_X12_asked_ xs0_82 xs2_118 M).2) 35 0 (((f_X12_asked_ xs0_82 xs2_118 M).2) 29 0 7).toNat v1) 36 0 ((gU ((f_X12_asked_ xs0_82 xs2_118 M).2) 35 0 (((f_X12_asked_ xs0_82 xs2_118 M).2) 29 0 7).toNat v1) 29 0 7).toNat v2) 29 0 7).toNat v3) 29 0 7).toNat v4) 39 0 ((gU (gU (gU (gU ((f_X12_asked_ xs0_82 xs2_118 M).2) 35 0 (((f_X12_asked_ xs0_82 xs2_118 M).2) 29 0 7).toNat v1) 36 0 ((gU ((f_X12_asked_ xs0_82 xs2_118 M).2) 35 0 (((f_X12_asked_ xs0_82 xs2_118 M).2) 29 0 7).toNat v1) 29 0 7).toNat v2) 37 0 ((gU (gU ((f_X12_asked_ xs0_82 xs2_118 M).2) 35 0 (((f_X12_asked_ xs0_82 xs2_118 M).2) 29 0 7).toNat v1) 36 0 ((gU ((f_X12_asked_ xs0_82 xs2_118 M).2) 35 0 (((f_X12_asked_ xs0_82 xs2_118 M).2) 29 0 7).toNat v1) 29 0 7).toNat v2) 29 0 7).toNat v3) 38 0 ((gU (gU (gU ((f_X12_asked_ xs0_82 xs2_118 M).2) 35 0 (((f_X12_asked_ xs0_82 xs2_118 M).2) 29 0 7).toNat v1) 36 0 ((gU ((f_X12_asked_ xs0_82 xs2_118 M).2) 35 0 (((f_X12_asked_ xs0_82 xs2_118 M).2) 29 0 7).toNat v1) 29 0 7).toNat v2) 37 0 ((gU (gU ((f_X12_asked_ xs0_82 xs2_118 M).2) 35 0 (((f_X12_asked_ xs0_82 xs2_118 M).2) 29 0 7).toNat v1) 36 0 ((gU ((f_X12_asked_ xs0_82 xs2_118 M).2) 35 0 (((f_X12_asked_ xs0_82 xs2_118 M).2) 29 0 7).toNat v1) 29 0 7).toNat v2) 29 0 7).toNat v3) 29 0 7).toNat v4) 29 0 7).toNat v5) 40 0 ((gU (gU (gU (gU (gU ((f_X12_asked_ xs0_82 xs2_118 M).2) 35 0 (((f_X12_asked_ xs0_82 xs2_118 M).2) 29 0 7).toNat v1) 36 0 ((gU ((f_X12_asked_ xs0_82 xs2_118 M).2) 35 0 (((f_X12_asked_ xs0_82 xs2_118 M).2) 29 0 7).toNat v1) 29 0 7).toNat v2) 37 0 ((gU (gU ((f_X12_asked_ xs0_82 xs2_118 M).2) 35 0 (((f_X12_asked_ xs0_82 xs2_118 M).2) 29 0 7).toNat v1) 36 0 ((gU ((f_X12_asked_ xs0_82 xs2_118 M).2) 35 0 (((f_X12_asked_ xs0_82 xs2_118 M).2) 29 0 7).toNat v1) 29 0 7).toNat v2) 29 0 7).toNat v3) 38 0 ((gU (gU (gU ((f_X12_asked_ xs0_82 xs2_118 M).2) 35 0 (((f_X12_asked_ xs0_82 xs2_118 M).2) 29 0 7).toNat v1) 36 0 ((gU ((f_X12_asked_ xs0_82 xs2_118 M).2) 35 0 (((f_X12_asked_ xs0_82 xs2_118 M).2) 29 0 7).toNat v1) 29 0 7).toNat v2) 37 0 ((gU (gU ((f_X12_asked_ xs0_82 xs2_118 M).2) 35 0 (((f_X12_asked_ xs0_82 xs2_118 M).2) 29 0 7).toNat v1) 36 0 ((gU ((f_X12_asked_ xs0_82 xs2_118 M).2) 35 0 (((f_X12_asked_ xs0_82 xs2_118 M).2) 29 0 7).toNat v1) 29 0 7).toNat v2) 29 0 7).toNat v3) 29 0 7).toNat v4) 39 0 ((gU (gU (gU (gU ((f_X12_asked_ xs0_82 xs2_118 M).2) 35 0 (((f_X12_asked_ xs0_82 xs2_118 M).2) 29 0 7).toNat v1) 36 0 ((gU ((f_X12_asked_ xs0_82 xs2_118 M).2) 35 0 (((f_X12_asked_ xs0_82 xs2_118 M).2) 29 0 7).toNat v1) 29 0 7).toNat v2) 37 0 ((gU (gU ((f_X12_asked_ xs0_82 xs2_118 M).2) 35 0 (((f_X12_asked_ xs0_82 xs2_118 M).2) 29 0 7).toNat v1) 36 0 ((gU ((f_X12_asked_ xs0_82 xs2_118 M).2) 35 0 (((f_X12_asked_ xs0_82 xs2_118 M).2) 29 0 7).toNat v1) 29 0 7).toNat v2) 29 0 7).toNat v3) 38 0 ((gU (gU (gU ((f_X12_asked_ xs0_82 xs2_118 M).2) 35 0 (((f_X12_asked_ xs0_82 xs2_118 M).2) 29 0 7).toNat v1) 36 0 ((gU ((f_X12_asked_ xs0_82 xs2_118 M).2) 35 0 (((f_X12_asked_ xs0_82 xs2_118 M).2) 29 0 7).toNat v1) 29 0 7).toNat v2) 37 0 ((gU (gU ((f_X12_asked_ xs0_82 xs2_118 M).2) 35 0 (((f_X12_asked_ xs0_82 xs2_118 M).2) 29 0 7).toNat v1) 36 0 ((gU ((f_X12_asked_ xs0_82 xs2_118 M).2) 35 0 (((f_X12_asked_ xs0_82 xs2_118 M).2) 29 0 7).toNat v1) 29 0 7).toNat v2) 29 0 7).toNat v3) 29 0 7).toNat v4) 29 0 7).toNat v5) 29 0 7).toNat v6) _ hq196) calX12_lay k_1426 k_34 k_1424 (by decide) cX12 rfl ⟨by decide, by decide⟩ rfl hl rfl (Nat.le_of_ble_eq_true rfl) ⟨Nat.le_of_ble_eq_true rfl, Nat.le_of_ble_eq_true rfl⟩ dX12_target_196) hS (fun H locs hH hS => ?_)
        refine lv_aload_n X.1 X.2.1 dX12_target_199 rfl (lv_at hl.1 0 rfl) ?_
        refine g_get X cX12 hH (r := 29) (i := 0) (by decide) rfl 14 (by decide) k_1224 rfl (v := .ref (gAd G 41 0)) rfl dX12_target_200 ?_
        refine lv_bipush X.1 X.2.1 dX12_target_203 (v := iI 14) (by decide) ?_
        refine lv_iconst X.1 X.2.1 dX12_target_205 (v := iI 0) rfl ?_
        obtain ⟨hg, hf_⟩ := og_e hf; clear hf; have hf := hf_; clear hf_
        refine g_iast X hH hS (r := 41) (i := 0) (by decide) (fun _ => rfl) (nmI_l (by decide)) hg (nmI_l (by decide)) rfl (by decide) dX12_target_206 (fun H locs hH hS => ?_)
        refine lv_aload_n X.1 X.2.1 dX12_target_207 rfl (lv_at hl.1 0 rfl) ?_
        refine lv_dup X.1 X.2.1 dX12_target_208 rfl ?_
        have nd209 : nmI ((gU r196 41 0 14 0) 29 0 7) := hH.1.1 _ _ _
        refine g_get X cX12 hH (r := 29) (i := 0) (by decide) rfl 7 (by decide) k_1217 rfl (v := .int (iI ((gU r196 41 0 14 0) 29 0 7))) rfl dX12_target_209 ?_
        refine lv_iconst X.1 X.2.1 dX12_target_212 (v := iI 1) rfl ?_
        refine g_iadd X dX12_target_213 ?_
        refine g_putI X cX12 hH hS (r := 29) (i := 0) (by decide) rfl 7 (by decide) k_1217 rfl rfl rfl (Nat.le_of_ble_eq_true rfl) (x := wI (((gU r196 41 0 14 0) 29 0 7) + 1)) (nmI_w _) rfl rfl rfl dX12_target_214 (fun H locs hH hS => ?_)
        refine lv_aload_n X.1 X.2.1 dX12_target_217 rfl (lv_at hl.1 0 rfl) ?_
        have nd218 : nmI ((gU (gU r196 41 0 14 0) 29 0 7 (wI (((gU r196 41 0 14 0) 29 0 7) + 1))) 29 0 7) := hH.1.1 _ _ _
        refine g_get X cX12 hH (r := 29) (i := 0) (by decide) rfl 7 (by decide) k_1217 rfl (v := .int (iI ((gU (gU r196 41 0 14 0) 29 0 7 (wI (((gU r196 41 0 14 0) 29 0 7) + 1))) 29 0 7))) rfl dX12_target_218 ?_
        refine lv_iconst X.1 X.2.1 dX12_target_221 (v := iI 1) rfl ?_
        refine g_isub X dX12_target_222 ?_
        have hq := Option.some.inj hf; subst hq
        exact gRetI X hH hS (res := wI (((gU (gU r196 41 0 14 0) 29 0 7 (wI (((gU r196 41 0 14 0) 29 0 7) + 1))) 29 0 7) - 1)) (nmI_w _) dX12_target_223
      · replace hf := it_t hf hc121
        refine lv_iconst X.1 X.2.1 dX12_target_124 (v := iI 0) rfl ?_
        have hq := Option.some.inj hf; subst hq
        exact gRetI X hH hS (res := 0) (nmI_l (by decide)) dX12_target_125
    clear ek118
    obtain ⟨k117, ek117, hf_⟩ := oj_e hf; clear hf; have hf := hf_; clear hf_
    have hk117 : k117 = some q → ∀ (H : Heap) (locs : List Loc) (ls : Array Slot), gH G M H → va_S (gA G) s.heap H locs → gLv ls 8 [(0, .ref (gAd G 29 0)), (1, .int (iI v1)), (2, .int (iI v2)), (3, .int (iI v3)), (4, .int (iI v4)), (5, .int (iI v5)), (6, .int (iI v6))] → W p l e { frames := 1, cells := 0, slots := 0, locals := 23 } s m args below meth c H locs 0 0 (MQ below (gQi G q.1 q.2) args s 0 0 (gA G)) (F0 m 117 ls [.int (iI xs0_82), .ref (gAd G 29 0)]) := by
      intro  hf H locs ls hH hS hl
      subst ek117
      refine lv_iconst X.1 X.2.1 dX12_target_117 (v := iI 0) rfl ?_
      exact hk118 0 (by decide) hf _ _ _ hH hS (gLv_sub hl [0, 1, 2, 3, 4, 5, 6] rfl)
    clear ek117
    refine g_if_le X nd93 (tgt := 117) dX12_target_94 (by decide) (fun hc94 => ?_) (fun hc94 => ?_)
    · replace hf := it_f hf hc94
      exact hk117  hf _ _ _ hH hS (gLv_sub hl [1, 2, 3, 4, 5, 6, 7] rfl)
    · replace hf := it_t hf hc94
      refine lv_aload_n X.1 X.2.1 dX12_target_97 rfl (lv_at hl.1 1 rfl) ?_
      have nd98 : nmI (M 29 0 36) := hH.1.1 _ _ _
      have bd98 := hH.1.2.1 29 0 36 rfl
      refine g_get X cX12 hH (r := 29) (i := 0) (by decide) rfl 36 (by decide) k_1246 rfl (v := .int (iI (M 29 0 36))) rfl dX12_target_98 ?_
      refine g_if_ne X nd98 (tgt := 117) dX12_target_101 (by decide) (fun hc101 => ?_) (fun hc101 => ?_)
      · replace hf := it_f hf hc101
        exact hk117  hf _ _ _ hH hS (gLv_sub hl [1, 2, 3, 4, 5, 6, 7] rfl)
      · replace hf := it_t hf hc101
        refine lv_aload_n X.1 X.2.1 dX12_target_104 rfl (lv_at hl.1 1 rfl) ?_
        have nd105 : nmI (M 29 0 7) := hH.1.1 _ _ _
        refine g_get X cX12 hH (r := 29) (i := 0) (by decide) rfl 7 (by decide) k_1217 rfl (v := .int (iI (M 29 0 7))) rfl dX12_target_105 ?_
        refine lv_bipush X.1 X.2.1 dX12_target_108 (v := iI 14) (by decide) ?_
        refine g_icmp_ge X nd105 (nmI_l (by decide)) (tgt := 117) dX12_target_110 (by decide) (fun hc110 => ?_) (fun hc110 => ?_)
        · replace hf := it_f hf hc110
          exact hk117  hf _ _ _ hH hS (gLv_sub hl [1, 2, 3, 4, 5, 6, 7] rfl)
        · replace hf := it_t hf hc110
          refine lv_iconst X.1 X.2.1 dX12_target_113 (v := iI 1) rfl ?_
          refine lv_goto (tgt := 118) X.1 X.2.1 dX12_target_114 (by decide) ?_
          exact hk118 1 (by decide) hf _ _ _ hH hS (gLv_sub hl [1, 2, 3, 4, 5, 6, 7] rfl)
  clear ek82
  obtain ⟨k81, ek81, hf_⟩ := oj_e hf; clear hf; have hf := hf_; clear hf_
  have hk81 : k81 = some q → ∀ (H : Heap) (locs : List Loc) (ls : Array Slot), gH G M H → va_S (gA G) s.heap H locs → gLv ls 8 [(0, .ref (gAd G 29 0)), (1, .int (iI v1)), (2, .int (iI v2)), (3, .int (iI v3)), (4, .int (iI v4)), (5, .int (iI v5)), (6, .int (iI v6))] → W p l e { frames := 1, cells := 0, slots := 0, locals := 23 } s m args below meth c H locs 0 0 (MQ below (gQi G q.1 q.2) args s 0 0 (gA G)) (F0 m 81 ls []) := by
    intro  hf H locs ls hH hS hl
    subst ek81
    refine lv_iconst X.1 X.2.1 dX12_target_81 (v := iI 0) rfl ?_
    exact hk82 0 (by decide) hf _ _ _ hH hS (gLv_sub hl [0, 1, 2, 3, 4, 5, 6] rfl)
  clear ek81
  refine g_if_eq X (nmI_b br3) (tgt := 81) dX12_target_6 (by decide) (fun hc6 => ?_) (fun hc6 => ?_)
  · replace hf := it_t hf hc6
    exact hk81  hf _ _ _ hH hS (gLv_sub hl [0, 1, 2, 3, 4, 5, 6] rfl)
  · replace hf := it_f hf hc6
    refine lv_iload_n X.1 X.2.1 dX12_target_9 rfl (lv_at hl.1 2 rfl) ?_
    refine lv_iconst X.1 X.2.1 dX12_target_10 (v := iI 0) rfl ?_
    refine lv_iconst X.1 X.2.1 dX12_target_11 (v := iI 3) rfl ?_
    refine gGoZ (gRunS X hH (As := [.int (iI v2), .int (iI 0), .int (iI 3)]) (m_X12_in l G v2 nv2 0 (nmI_l (by decide)) 3 (nmI_l (by decide)) M _ rfl) calX12_in k_1389 k_1388 ⟨by decide, by decide⟩ rfl hl rfl (Nat.le_of_ble_eq_true rfl) ⟨Nat.le_of_ble_eq_true rfl, Nat.le_of_ble_eq_true rfl⟩ dX12_target_12) hS (fun H locs br12 hH hS => ?_)
    refine g_if_eq X (nmI_b br12) (tgt := 81) dX12_target_15 (by decide) (fun hc15 => ?_) (fun hc15 => ?_)
    · replace hf := it_t hf hc15
      exact hk81  hf _ _ _ hH hS (gLv_sub hl [0, 1, 2, 3, 4, 5, 6] rfl)
    · replace hf := it_f hf hc15
      refine lv_iload_n X.1 X.2.1 dX12_target_18 rfl (lv_at hl.1 3 rfl) ?_
      refine lv_iconst X.1 X.2.1 dX12_target_19 (v := iI 0) rfl ?_
      refine lv_bipush X.1 X.2.1 dX12_target_20 (v := iI 9) (by decide) ?_
      refine gGoZ (gRunS X hH (As := [.int (iI v3), .int (iI 0), .int (iI 9)]) (m_X12_in l G v3 nv3 0 (nmI_l (by decide)) 9 (nmI_l (by decide)) M _ rfl) calX12_in k_1389 k_1388 ⟨by decide, by decide⟩ rfl hl rfl (Nat.le_of_ble_eq_true rfl) ⟨Nat.le_of_ble_eq_true rfl, Nat.le_of_ble_eq_true rfl⟩ dX12_target_22) hS (fun H locs br22 hH hS => ?_)
      refine g_if_eq X (nmI_b br22) (tgt := 81) dX12_target_25 (by decide) (fun hc25 => ?_) (fun hc25 => ?_)
      · replace hf := it_t hf hc25
        exact hk81  hf _ _ _ hH hS (gLv_sub hl [0, 1, 2, 3, 4, 5, 6] rfl)
      · replace hf := it_f hf hc25
        refine lv_iload X.1 X.2.1 dX12_target_28 (lv_at hl.1 4 rfl) ?_
        refine lv_iconst X.1 X.2.1 dX12_target_30 (v := iI 1) rfl ?_
        refine lv_iload_n X.1 X.2.1 dX12_target_31 rfl (lv_at hl.1 1 rfl) ?_
        refine lv_iconst X.1 X.2.1 dX12_target_32 (v := iI 2) rfl ?_
        obtain ⟨k41, ek41, hf_⟩ := oj_e hf; clear hf; have hf := hf_; clear hf_
        have hk41 : ∀ (xs2_41 : Int) (nxs2_41 : nmI xs2_41), k41 xs2_41 = some q → ∀ (H : Heap) (locs : List Loc) (ls : Array Slot), gH G M H → va_S (gA G) s.heap H locs → gLv ls 8 [(0, .ref (gAd G 29 0)), (1, .int (iI v1)), (2, .int (iI v2)), (3, .int (iI v3)), (4, .int (iI v4)), (5, .int (iI v5)), (6, .int (iI v6))] → W p l e { frames := 1, cells := 0, slots := 0, locals := 23 } s m args below meth c H locs 0 0 (MQ below (gQi G q.1 q.2) args s 0 0 (gA G)) (F0 m 41 ls [.int (iI xs2_41), .int (iI 1), .int (iI v4)]) := by
          intro xs2_41 nxs2_41 hf H locs ls hH hS hl
          subst ek41
          refine gGoZ (gRunS X hH (As := [.int (iI v4), .int (iI 1), .int (iI xs2_41)]) (m_X12_in l G v4 nv4 1 (nmI_l (by decide)) xs2_41 nxs2_41 M _ rfl) calX12_in k_1389 k_1388 ⟨by decide, by decide⟩ rfl hl rfl (Nat.le_of_ble_eq_true rfl) ⟨Nat.le_of_ble_eq_true rfl, Nat.le_of_ble_eq_true rfl⟩ dX12_target_41) hS (fun H locs br41 hH hS => ?_)
          refine g_if_eq X (nmI_b br41) (tgt := 81) dX12_target_44 (by decide) (fun hc44 => ?_) (fun hc44 => ?_)
          · replace hf := it_t hf hc44
            exact hk81  hf _ _ _ hH hS (gLv_sub hl [0, 1, 2, 3, 4, 5, 6] rfl)
          · replace hf := it_f hf hc44
            refine lv_iload X.1 X.2.1 dX12_target_47 (lv_at hl.1 5 rfl) ?_
            refine lv_iconst X.1 X.2.1 dX12_target_49 (v := iI (-1)) rfl ?_
            refine g_ldc X k_1423 (a := 65535) (by decide) dX12_target_50 ?_
            refine gGoZ (gRunS X hH (As := [.int (iI v5), .int (iI ((-1))), .int (iI 65535)]) (m_X12_in l G v5 nv5 ((-1)) (nmI_l (by decide)) 65535 (nmI_l (by decide)) M _ rfl) calX12_in k_1389 k_1388 ⟨by decide, by decide⟩ rfl hl rfl (Nat.le_of_ble_eq_true rfl) ⟨Nat.le_of_ble_eq_true rfl, Nat.le_of_ble_eq_true rfl⟩ dX12_target_52) hS (fun H locs br52 hH hS => ?_)
            refine g_if_eq X (nmI_b br52) (tgt := 81) dX12_target_55 (by decide) (fun hc55 => ?_) (fun hc55 => ?_)
            · replace hf := it_t hf hc55
              exact hk81  hf _ _ _ hH hS (gLv_sub hl [0, 1, 2, 3, 4, 5, 6] rfl)
            · replace hf := it_f hf hc55
              refine lv_iload X.1 X.2.1 dX12_target_58 (lv_at hl.1 6 rfl) ?_
              refine lv_iconst X.1 X.2.1 dX12_target_60 (v := iI 0) rfl ?_
              refine lv_iload_n X.1 X.2.1 dX12_target_61 rfl (lv_at hl.1 1 rfl) ?_
              refine lv_iconst X.1 X.2.1 dX12_target_62 (v := iI 2) rfl ?_
              obtain ⟨k71, ek71, hf_⟩ := oj_e hf; clear hf; have hf := hf_; clear hf_
              have hk71 : ∀ (xs2_71 : Int) (nxs2_71 : nmI xs2_71), k71 xs2_71 = some q → ∀ (H : Heap) (locs : List Loc) (ls : Array Slot), gH G M H → va_S (gA G) s.heap H locs → gLv ls 8 [(0, .ref (gAd G 29 0)), (1, .int (iI v1)), (2, .int (iI v2)), (3, .int (iI v3)), (4, .int (iI v4)), (5, .int (iI v5)), (6, .int (iI v6))] → W p l e { frames := 1, cells := 0, slots := 0, locals := 23 } s m args below meth c H locs 0 0 (MQ below (gQi G q.1 q.2) args s 0 0 (gA G)) (F0 m 71 ls [.int (iI xs2_71), .int (iI 0), .int (iI v6)]) := by
                intro xs2_71 nxs2_71 hf H locs ls hH hS hl
                subst ek71
                refine gGoZ (gRunS X hH (As := [.int (iI v6), .int (iI 0), .int (iI xs2_71)]) (m_X12_in l G v6 nv6 0 (nmI_l (by decide)) xs2_71 nxs2_71 M _ rfl) calX12_in k_1389 k_1388 ⟨by decide, by decide⟩ rfl hl rfl (Nat.le_of_ble_eq_true rfl) ⟨Nat.le_of_ble_eq_true rfl, Nat.le_of_ble_eq_true rfl⟩ dX12_target_71) hS (fun H locs br71 hH hS => ?_)
                refine g_if_eq X (nmI_b br71) (tgt := 81) dX12_target_74 (by decide) (fun hc74 => ?_) (fun hc74 => ?_)
                · replace hf := it_t hf hc74
                  exact hk81  hf _ _ _ hH hS (gLv_sub hl [0, 1, 2, 3, 4, 5, 6] rfl)
                · replace hf := it_f hf hc74
                  refine lv_iconst X.1 X.2.1 dX12_target_77 (v := iI 1) rfl ?_
                  refine lv_goto (tgt := 82) X.1 X.2.1 dX12_target_78 (by decide) ?_
                  exact hk82 1 (by decide) hf _ _ _ hH hS (gLv_sub hl [0, 1, 2, 3, 4, 5, 6] rfl)
              clear ek71
              refine g_icmp_ne X nv1 (nmI_l (by decide)) (tgt := 70) dX12_target_63 (by decide) (fun hc63 => ?_) (fun hc63 => ?_)
              · replace hf := it_f hf hc63
                refine lv_iconst X.1 X.2.1 dX12_target_70 (v := iI 0) rfl ?_
                exact hk71 0 (nmI_l (by decide)) hf _ _ _ hH hS (gLv_sub hl [0, 1, 2, 3, 4, 5, 6] rfl)
              · replace hf := it_t hf hc63
                refine lv_iconst X.1 X.2.1 dX12_target_66 (v := iI 3) rfl ?_
                refine lv_goto (tgt := 71) X.1 X.2.1 dX12_target_67 (by decide) ?_
                exact hk71 3 (nmI_l (by decide)) hf _ _ _ hH hS (gLv_sub hl [0, 1, 2, 3, 4, 5, 6] rfl)
        clear ek41
        refine g_icmp_ne X nv1 (nmI_l (by decide)) (tgt := 40) dX12_target_33 (by decide) (fun hc33 => ?_) (fun hc33 => ?_)
        · replace hf := it_f hf hc33
          refine lv_iconst X.1 X.2.1 dX12_target_40 (v := iI 1) rfl ?_
          exact hk41 1 (nmI_l (by decide)) hf _ _ _ hH hS (gLv_sub hl [0, 1, 2, 3, 4, 5, 6] rfl)
        · replace hf := it_t hf hc33
          refine lv_iconst X.1 X.2.1 dX12_target_36 (v := iI 4) rfl ?_
          refine lv_goto (tgt := 41) X.1 X.2.1 dX12_target_37 (by decide) ?_
          exact hk41 4 (nmI_l (by decide)) hf _ _ _ hH hS (gLv_sub hl [0, 1, 2, 3, 4, 5, 6] rfl)
