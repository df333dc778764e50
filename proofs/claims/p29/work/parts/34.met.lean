theorem w_X5_proofOf_L2 {G : gG} {p : Program} {l : Launch} {e : Env} {s : State} {m : MethodId} {args : Array Value} {below : List Frame} {meth : Method} {c : Code} (X : gX G p s m args meth c RX5 cX5_proofOf 3 (some .int) (gWs yX5_proofOf cX5_proofOf 3 (some .int))) (k30 : gM → Option (Int × gM)) (z1 : Int) (nz1 : nmI z1) (q : (Int × gM)) (hk30 : ∀  (M : gM), k30 M = some q → ∀ (H : Heap) (locs : List Loc) (ls : Array Slot), gH G M H → va_S (gA G) s.heap H locs → gLv ls 3 [(0, .ref (gAd G 2 0)), (1, .int (iI z1))] → W p l e { frames := 3, cells := 0, slots := 0, locals := 68 } s m args below meth c H locs 0 0 (MQ below (gQi G q.1 q.2) args s 0 0 (gA G)) (F0 m 30 ls [])) : ∀ (n : Nat) (x2 : Int) (nx2 : nmI x2) (M : gM), f_X5_proofOf_L2 k30 z1 n x2 M = some q → ∀ (H : Heap) (locs : List Loc) (ls : Array Slot), gH G M H → va_S (gA G) s.heap H locs → gLv ls 3 [(0, .ref (gAd G 2 0)), (1, .int (iI z1)), (2, .int (iI x2))] → W p l e { frames := 3, cells := 0, slots := 0, locals := 68 } s m args below meth c H locs 0 0 (MQ below (gQi G q.1 q.2) args s 0 0 (gA G)) (F0 m 2 ls []) := by
  intro n
  induction n with
  | zero =>
    intro x2 nx2 M hf
    cases hf
  | succ n ih =>
    intro x2 nx2 M hf H locs ls hH hS hl
    rw [f_X5_proofOf_L2] at hf
    refine lv_iload_n X.1 X.2.1 dX5_proofOf_2 rfl (lv_at hl.1 2 rfl) ?_
    refine lv_iload_n X.1 X.2.1 dX5_proofOf_3 rfl (lv_at hl.1 1 rfl) ?_
    refine g_icmp_gt X nx2 nz1 (tgt := 30) dX5_proofOf_4 (by decide) (fun hc4 => ?_) (fun hc4 => ?_)
    · replace hf := it_t hf hc4
      exact hk30 M hf _ _ _ hH hS (gLv_sub hl [0, 1] rfl)
    · replace hf := it_f hf hc4
      refine lv_aload_n X.1 X.2.1 dX5_proofOf_7 rfl (lv_at hl.1 0 rfl) ?_
      refine g_get X cX5 hH (r := 2) (i := 0) (by decide) rfl 2 (by decide) k_246 rfl (v := .ref (gAd G 21 0)) rfl dX5_proofOf_8 ?_
      refine lv_iload_n X.1 X.2.1 dX5_proofOf_11 rfl (lv_at hl.1 2 rfl) ?_
      refine lv_aload_n X.1 X.2.1 dX5_proofOf_12 rfl (lv_at hl.1 0 rfl) ?_
      refine lv_aload_n X.1 X.2.1 dX5_proofOf_13 rfl (lv_at hl.1 0 rfl) ?_
      refine lv_iload_n X.1 X.2.1 dX5_proofOf_14 rfl (lv_at hl.1 2 rfl) ?_
      refine gGoR (gRunV X hH (As := [.int (iI x2)]) (m_X5_targetAt l G x2 nx2 M _ rfl) calX5_targetAt k_631 k_632 k_638 (by decide) cX5 rfl ⟨by decide, by decide⟩ rfl hl rfl (Nat.le_of_ble_eq_true rfl) ⟨Nat.le_of_ble_eq_true rfl, Nat.le_of_ble_eq_true rfl⟩ dX5_proofOf_15) hS (fun H locs hr15 hH hS => ?_)
      replace hr15 : (f_X5_targetAt x2 M) < 15 := hr15
      obtain ⟨r18, hq18, hf_⟩ := ob_e hf; clear hf; have hf := hf_; clear hf_
      refine gGoI (gRunV X hH (As := [.ref (gAd G 7 ((f_X5_targetAt x2 M)))]) (m_X5_proofOverInputs l G ((f_X5_targetAt x2 M)) hr15 M _ hq18) calX5_proofOverInputs k_1024 k_25 k_1022 (by decide) cX5 rfl ⟨by decide, by decide⟩ rfl hl rfl (Nat.le_of_ble_eq_true rfl) ⟨Nat.le_of_ble_eq_true rfl, Nat.le_of_ble_eq_true rfl⟩ dX5_proofOf_18) hS (fun H locs nr18 hH hS => ?_)
      refine gGoV (gRunSN X hH (As := [.ref (gAd G 21 0), .int (iI x2), .int (iI r18)]) (m_X11_store l G 21 0 14 (by decide) gArr_21 x2 nx2 r18 nr18 M _ rfl) calX11_store k_566 k_1029 ⟨by decide, by decide⟩ rfl hl rfl (Nat.le_of_ble_eq_true rfl) ⟨Nat.le_of_ble_eq_true rfl, Nat.le_of_ble_eq_true rfl⟩ dX5_proofOf_21) hS (fun H locs hH hS => ?_)
      refine g_iinc X (a := x2) (lv' := [(2, .int (iI (wI (x2 + 1)))), (0, .ref (gAd G 2 0)), (1, .int (iI z1))]) dX5_proofOf_24 hl (k := 2) rfl (by decide) rfl (fun ls hl => ?_)
      refine lv_goto (tgt := 2) X.1 X.2.1 dX5_proofOf_27 (by decide) ?_
      exact ih (wI (x2 + 1)) (nmI_w _) ((f_X11_store 21 0 14 x2 r18 M)) hf _ _ _ hH hS (gLv_sub hl [1, 2, 0] rfl)
theorem m_X5_proofOf (l : Launch) (G : gG) (v1 : Int) (nv1 : nmI v1) (M : gM) (q : (Int × gM)) (hf : f_X5_proofOf v1 M = some q) : gMet l yX5_proofOf cX5_proofOf 3 (some .int) 3 68 G M [.ref (gAd G 2 0), .int (iI v1)] (gQi G q.1 q.2) := by
  refine gOfW (by decide) (by show _ ≤ 3; exact Nat.le_of_ble_eq_true rfl) rfl ?_
  intro p e s m below meth c X hH ls hl
  replace hl : gLv ls 3 [(0, .ref (gAd G 2 0)), (1, .int (iI v1))] := hl
  have hS : va_S (gA G) s.heap s.heap [] := va_S.rf
  generalize hargs : ([.ref (gAd G 2 0), .int (iI v1)] : List Value).toArray = args at X ⊢
  clear hargs
  unfold f_X5_proofOf at hf
  refine lv_iconst X.1 X.2.1 dX5_proofOf_0 (v := iI 0) rfl ?_
  refine g_istore_n X (lv' := [(2, .int (iI 0)), (0, .ref (gAd G 2 0)), (1, .int (iI v1))]) dX5_proofOf_1 rfl hl (by decide) rfl (fun ls hl => ?_)
  refine w_X5_proofOf_L2 X _ v1 nv1 q ?_ 64 0 (nmI_l (by decide)) M hf _ _ _ hH hS (gLv_sub hl [1, 2, 0] rfl)
  · intro  M_2_30 hf H locs ls hH hS hl
    refine lv_aload_n X.1 X.2.1 dX5_proofOf_30 rfl (lv_at hl.1 0 rfl) ?_
    refine g_get X cX5 hH (r := 2) (i := 0) (by decide) rfl 2 (by decide) k_246 rfl (v := .ref (gAd G 21 0)) rfl dX5_proofOf_31 ?_
    refine lv_iload_n X.1 X.2.1 dX5_proofOf_34 rfl (lv_at hl.1 1 rfl) ?_
    refine gGoI (gRunSN X hH (As := [.ref (gAd G 21 0), .int (iI v1)]) (m_X11_at l G 21 0 14 (by decide) gArr_21 v1 nv1 M_2_30 _ rfl) calX11_at k_563 k_1028 ⟨by decide, by decide⟩ rfl hl rfl (Nat.le_of_ble_eq_true rfl) ⟨Nat.le_of_ble_eq_true rfl, Nat.le_of_ble_eq_true rfl⟩ dX5_proofOf_35) hS (fun H locs nr35 hH hS => ?_)
    have hq := Option.some.inj hf; subst hq
    exact gRetI X hH hS (res := (f_X11_at 21 0 14 v1 M_2_30)) nr35 dX5_proofOf_38
theorem w_X5_hasInput_L2 {G : gG} {p : Program} {l : Launch} {e : Env} {s : State} {m : MethodId} {args : Array Value} {below : List Frame} {meth : Method} {c : Code} (X : gX G p s m args meth c RX5 cX5_hasInput 4 (some .boolean) (gWs yX5_hasInput cX5_hasInput 4 (some .boolean))) (k33 : Option (Int)) (z1 : Nat) (hz1 : z1 < 15) (z2 : Int) (nz2 : nmI z2) (M : gM) (q : (Int)) (hk33 : k33 = some q → ∀ (H : Heap) (locs : List Loc) (ls : Array Slot), gH G M H → va_S (gA G) s.heap H locs → gLv ls 4 [] → W p l e { frames := 2, cells := 0, slots := 0, locals := 44 } s m args below meth c H locs 0 0 (MQ below (gQz G q M) args s 0 0 (gA G)) (F0 m 33 ls [])) : ∀ (n : Nat) (x3 : Int) (nx3 : nmI x3), f_X5_hasInput_L2 k33 z1 z2 M n x3 = some q → ∀ (H : Heap) (locs : List Loc) (ls : Array Slot), gH G M H → va_S (gA G) s.heap H locs → gLv ls 4 [(1, .ref (gAd G 7 z1)), (2, .int (iI z2)), (3, .int (iI x3))] → W p l e { frames := 2, cells := 0, slots := 0, locals := 44 } s m args below meth c H locs 0 0 (MQ below (gQz G q M) args s 0 0 (gA G)) (F0 m 2 ls []) := by
  intro n
  induction n with
  | zero =>
    intro x3 nx3 hf
    cases hf
  | succ n ih =>
    intro x3 nx3 hf H locs ls hH hS hl
    rw [f_X5_hasInput_L2] at hf
    refine lv_iload_n X.1 X.2.1 dX5_hasInput_2 rfl (lv_at hl.1 2 rfl) ?_
    refine lv_aload_n X.1 X.2.1 dX5_hasInput_3 rfl (lv_at hl.1 0 rfl) ?_
    refine g_get X cX8 hH (r := 7) (i := z1) hz1 rfl 1 (by decide) k_184 rfl (v := .ref (gAd G 8 z1)) rfl dX5_hasInput_4 ?_
    have nd7 : nmI (M 8 z1 5) := hH.1.1 _ _ _
    refine g_get X cX6 hH (r := 8) (i := z1) (by show _ < 16; omega) rfl 5 (by decide) k_119 rfl (v := .int (iI (M 8 z1 5))) rfl dX5_hasInput_7 ?_
    refine g_icmp_ge X nx3 nd7 (tgt := 33) dX5_hasInput_10 (by decide) (fun hc10 => ?_) (fun hc10 => ?_)
    · replace hf := it_f hf hc10
      exact hk33  hf _ _ _ hH hS (gLv_sub hl [] rfl)
    · replace hf := it_t hf hc10
      refine lv_aload_n X.1 X.2.1 dX5_hasInput_13 rfl (lv_at hl.1 0 rfl) ?_
      refine g_get X cX8 hH (r := 7) (i := z1) hz1 rfl 1 (by decide) k_184 rfl (v := .ref (gAd G 8 z1)) rfl dX5_hasInput_14 ?_
      refine lv_iload_n X.1 X.2.1 dX5_hasInput_17 rfl (lv_at hl.1 2 rfl) ?_
      refine gGoI (gRunV X hH (As := [.int (iI x3)]) (m_X6_chosen l G z1 (by show _ < 16; omega) x3 nx3 M _ rfl) calX6_chosen k_727 k_728 k_726 (by show _ < 16; omega) cX6 rfl ⟨by decide, by decide⟩ rfl hl rfl (Nat.le_of_ble_eq_true rfl) ⟨Nat.le_of_ble_eq_true rfl, Nat.le_of_ble_eq_true rfl⟩ dX5_hasInput_18) hS (fun H locs nr18 hH hS => ?_)
      refine lv_iload_n X.1 X.2.1 dX5_hasInput_21 rfl (lv_at hl.1 1 rfl) ?_
      refine g_icmp_ne X nr18 nz2 (tgt := 27) dX5_hasInput_22 (by decide) (fun hc22 => ?_) (fun hc22 => ?_)
      · replace hf := it_f hf hc22
        refine g_iinc X (a := x3) (lv' := [(3, .int (iI (wI (x3 + 1)))), (1, .ref (gAd G 7 z1)), (2, .int (iI z2))]) dX5_hasInput_27 hl (k := 2) rfl (by decide) rfl (fun ls hl => ?_)
        refine lv_goto (tgt := 2) X.1 X.2.1 dX5_hasInput_30 (by decide) ?_
        exact ih (wI (x3 + 1)) (nmI_w _) hf _ _ _ hH hS (gLv_sub hl [1, 2, 0] rfl)
      · replace hf := it_t hf hc22
        refine lv_iconst X.1 X.2.1 dX5_hasInput_25 (v := iI 1) rfl ?_
        have hq := Option.some.inj hf; subst hq
        exact gRetZ X hH hS (res := 1) (by decide) dX5_hasInput_26
theorem m_X5_hasInput (l : Launch) (G : gG) (i1 : Nat) (hi1 : i1 < 15) (v2 : Int) (nv2 : nmI v2) (M : gM) (q : (Int)) (hf : f_X5_hasInput i1 v2 M = some q) : gMet l yX5_hasInput cX5_hasInput 4 (some .boolean) 2 44 G M [.ref (gAd G 2 0), .ref (gAd G 7 i1), .int (iI v2)] (gQz G q M) := by
  refine gOfW (by decide) (by show _ ≤ 4; exact Nat.le_of_ble_eq_true rfl) rfl ?_
  intro p e s m below meth c X hH ls hl
  replace hl : gLv ls 4 [(0, .ref (gAd G 2 0)), (1, .ref (gAd G 7 i1)), (2, .int (iI v2))] := hl
  have hS : va_S (gA G) s.heap s.heap [] := va_S.rf
  generalize hargs : ([.ref (gAd G 2 0), .ref (gAd G 7 i1), .int (iI v2)] : List Value).toArray = args at X ⊢
  clear hargs
  unfold f_X5_hasInput at hf
  refine lv_iconst X.1 X.2.1 dX5_hasInput_0 (v := iI 0) rfl ?_
  refine g_istore_n X (lv' := [(3, .int (iI 0)), (0, .ref (gAd G 2 0)), (1, .ref (gAd G 7 i1)), (2, .int (iI v2))]) dX5_hasInput_1 rfl hl (by decide) rfl (fun ls hl => ?_)
  refine w_X5_hasInput_L2 X _ i1 hi1 v2 nv2 M q ?_ 64 0 (nmI_l (by decide)) hf _ _ _ hH hS (gLv_sub hl [2, 3, 0] rfl)
  · intro  hf H locs ls hH hS hl
    refine lv_iconst X.1 X.2.1 dX5_hasInput_33 (v := iI 0) rfl ?_
    have hq := Option.some.inj hf; subst hq
    exact gRetZ X hH hS (res := 0) (by decide) dX5_hasInput_34
theorem w_X5_targetsOver_L20 {G : gG} {p : Program} {l : Launch} {e : Env} {s : State} {m : MethodId} {args : Array Value} {below : List Frame} {meth : Method} {c : Code} (X : gX G p s m args meth c RX5 cX5_targetsOver 5 (some .int) (gWs yX5_targetsOver cX5_targetsOver 5 (some .int))) (k68 : Int → Option (Int)) (z1 : Int) (nz1 : nmI z1) (M : gM) (q : (Int)) (hk68 : ∀ (x2 : Int) (nx2 : nmI x2), k68 x2 = some q → ∀ (H : Heap) (locs : List Loc) (ls : Array Slot), gH G M H → va_S (gA G) s.heap H locs → gLv ls 5 [(2, .int (iI x2))] → W p l e { frames := 3, cells := 0, slots := 0, locals := 68 } s m args below meth c H locs 0 0 (MQ below (gQi G q M) args s 0 0 (gA G)) (F0 m 68 ls [])) : ∀ (n : Nat) (x2 : Int) (nx2 : nmI x2) (x3 : Int) (nx3 : nmI x3), f_X5_targetsOver_L20 k68 z1 M n x2 x3 = some q → ∀ (H : Heap) (locs : List Loc) (ls : Array Slot), gH G M H → va_S (gA G) s.heap H locs → gLv ls 5 [(0, .ref (gAd G 2 0)), (1, .int (iI z1)), (2, .int (iI x2)), (3, .int (iI x3))] → W p l e { frames := 3, cells := 0, slots := 0, locals := 68 } s m args below meth c H locs 0 0 (MQ below (gQi G q M) args s 0 0 (gA G)) (F0 m 20 ls []) := by
  intro n
  induction n with
  | zero =>
    intro x2 nx2 x3 nx3 hf
    cases hf
  | succ n ih =>
    intro x2 nx2 x3 nx3 hf H locs ls hH hS hl
    rw [f_X5_targetsOver_L20] at hf
    refine lv_iload_n X.1 X.2.1 dX5_targetsOver_20 rfl (lv_at hl.1 3 rfl) ?_
    refine lv_aload_n X.1 X.2.1 dX5_targetsOver_21 rfl (lv_at hl.1 0 rfl) ?_
    have nd22 : nmI (M 2 0 5) := hH.1.1 _ _ _
    refine g_get X cX5 hH (r := 2) (i := 0) (by decide) rfl 5 (by decide) k_250 rfl (v := .int (iI (M 2 0 5))) rfl dX5_targetsOver_22 ?_
    refine g_icmp_ge X nx3 nd22 (tgt := 68) dX5_targetsOver_25 (by decide) (fun hc25 => ?_) (fun hc25 => ?_)
    · replace hf := it_f hf hc25
      exact hk68 x2 nx2 hf _ _ _ hH hS (gLv_sub hl [2] rfl)
    · replace hf := it_t hf hc25
      refine lv_aload_n X.1 X.2.1 dX5_targetsOver_28 rfl (lv_at hl.1 0 rfl) ?_
      refine lv_iload_n X.1 X.2.1 dX5_targetsOver_29 rfl (lv_at hl.1 3 rfl) ?_
      refine gGoR (gRunV X hH (As := [.int (iI x3)]) (m_X5_targetAt l G x3 nx3 M _ rfl) calX5_targetAt k_631 k_632 k_638 (by decide) cX5 rfl ⟨by decide, by decide⟩ rfl hl rfl (Nat.le_of_ble_eq_true rfl) ⟨Nat.le_of_ble_eq_true rfl, Nat.le_of_ble_eq_true rfl⟩ dX5_targetsOver_30) hS (fun H locs hr30 hH hS => ?_)
      replace hr30 : (f_X5_targetAt x3 M) < 15 := hr30
      refine g_astore X (lv' := [(4, .ref (gAd G 7 ((f_X5_targetAt x3 M)))), (0, .ref (gAd G 2 0)), (1, .int (iI z1)), (2, .int (iI x2)), (3, .int (iI x3))]) dX5_targetsOver_33 hl (by decide) rfl (fun ls hl => ?_)
      refine lv_aload_n X.1 X.2.1 dX5_targetsOver_35 rfl (lv_at hl.1 1 rfl) ?_
      refine lv_aload X.1 X.2.1 dX5_targetsOver_36 (lv_at hl.1 0 rfl) ?_
      obtain ⟨r38, hq38, hf_⟩ := ob_e hf; clear hf; have hf := hf_; clear hf_
      refine gGoI (gRunV X hH (As := [.ref (gAd G 7 ((f_X5_targetAt x3 M)))]) (m_X5_inputTargets l G ((f_X5_targetAt x3 M)) hr30 M _ hq38) calX5_inputTargets k_723 k_724 k_722 (by decide) cX5 rfl ⟨by decide, by decide⟩ rfl hl rfl (Nat.le_of_ble_eq_true rfl) ⟨Nat.le_of_ble_eq_true rfl, Nat.le_of_ble_eq_true rfl⟩ dX5_targetsOver_38) hS (fun H locs nr38 hH hS => ?_)
      refine lv_iload_n X.1 X.2.1 dX5_targetsOver_41 rfl (lv_at hl.1 3 rfl) ?_
      refine g_iand X dX5_targetsOver_42 ?_
      obtain ⟨k62, ek62, hf_⟩ := oj_e hf; clear hf; have hf := hf_; clear hf_
      have hk62 : ∀ (x2_62 : Int) (nx2_62 : nmI x2_62), k62 x2_62 = some q → ∀ (H : Heap) (locs : List Loc) (ls : Array Slot), gH G M H → va_S (gA G) s.heap H locs → gLv ls 5 [(0, .ref (gAd G 2 0)), (1, .int (iI z1)), (2, .int (iI x2_62)), (3, .int (iI x3))] → W p l e { frames := 3, cells := 0, slots := 0, locals := 68 } s m args below meth c H locs 0 0 (MQ below (gQi G q M) args s 0 0 (gA G)) (F0 m 62 ls []) := by
        intro x2_62 nx2_62 hf H locs ls hH hS hl
        subst ek62
        refine g_iinc X (a := x3) (lv' := [(3, .int (iI (wI (x3 + 1)))), (0, .ref (gAd G 2 0)), (1, .int (iI z1)), (2, .int (iI x2_62))]) dX5_targetsOver_62 hl (k := 3) rfl (by decide) rfl (fun ls hl => ?_)
        refine lv_goto (tgt := 20) X.1 X.2.1 dX5_targetsOver_65 (by decide) ?_
        exact ih x2_62 nx2_62 (wI (x3 + 1)) (nmI_w _) hf _ _ _ hH hS (gLv_sub hl [1, 2, 3, 0] rfl)
      clear ek62
      obtain ⟨k56, ek56, hf_⟩ := oj_e hf; clear hf; have hf := hf_; clear hf_
      have hk56 : k56 = some q → ∀ (H : Heap) (locs : List Loc) (ls : Array Slot), gH G M H → va_S (gA G) s.heap H locs → gLv ls 5 [(0, .ref (gAd G 2 0)), (1, .int (iI z1)), (2, .int (iI x2)), (3, .int (iI x3))] → W p l e { frames := 3, cells := 0, slots := 0, locals := 68 } s m args below meth c H locs 0 0 (MQ below (gQi G q M) args s 0 0 (gA G)) (F0 m 56 ls []) := by
        intro  hf H locs ls hH hS hl
        subst ek56
        refine lv_iload_n X.1 X.2.1 dX5_targetsOver_56 rfl (lv_at hl.1 2 rfl) ?_
        refine lv_iconst X.1 X.2.1 dX5_targetsOver_57 (v := iI 1) rfl ?_
        refine lv_iload_n X.1 X.2.1 dX5_targetsOver_58 rfl (lv_at hl.1 3 rfl) ?_
        refine g_ishl X dX5_targetsOver_59 ?_
        refine g_ior X dX5_targetsOver_60 ?_
        refine g_istore_n X (lv' := [(2, .int (iI (gOr x2 (gShl 1 x3)))), (0, .ref (gAd G 2 0)), (1, .int (iI z1)), (3, .int (iI x3))]) dX5_targetsOver_61 rfl hl (by decide) rfl (fun ls hl => ?_)
        exact hk62 (gOr x2 (gShl 1 x3)) (nmI_or _ _) hf _ _ _ hH hS (gLv_sub hl [1, 2, 0, 3] rfl)
      clear ek56
      refine g_if_ne X (nmI_and _ _) (tgt := 56) dX5_targetsOver_43 (by decide) (fun hc43 => ?_) (fun hc43 => ?_)
      · replace hf := it_f hf hc43
        exact hk56  hf _ _ _ hH hS (gLv_sub hl [1, 2, 3, 4] rfl)
      · replace hf := it_t hf hc43
        refine lv_aload_n X.1 X.2.1 dX5_targetsOver_46 rfl (lv_at hl.1 1 rfl) ?_
        refine lv_aload X.1 X.2.1 dX5_targetsOver_47 (lv_at hl.1 0 rfl) ?_
        refine lv_iload_n X.1 X.2.1 dX5_targetsOver_49 rfl (lv_at hl.1 2 rfl) ?_
        obtain ⟨r50, hq50, hf_⟩ := ob_e hf; clear hf; have hf := hf_; clear hf_
        refine gGoZ (gRunV X hH (As := [.ref (gAd G 7 ((f_X5_targetAt x3 M))), .int (iI z1)]) (m_X5_hasInput l G ((f_X5_targetAt x3 M)) hr30 z1 nz1 M _ hq50) calX5_hasInput k_1053 k_27 k_1051 (by decide) cX5 rfl ⟨by decide, by decide⟩ rfl hl rfl (Nat.le_of_ble_eq_true rfl) ⟨Nat.le_of_ble_eq_true rfl, Nat.le_of_ble_eq_true rfl⟩ dX5_targetsOver_50) hS (fun H locs br50 hH hS => ?_)
        refine g_if_eq X (nmI_b br50) (tgt := 62) dX5_targetsOver_53 (by decide) (fun hc53 => ?_) (fun hc53 => ?_)
        · replace hf := it_t hf hc53
          exact hk62 x2 nx2 hf _ _ _ hH hS (gLv_sub hl [1, 2, 3, 4] rfl)
        · replace hf := it_f hf hc53
          exact hk56  hf _ _ _ hH hS (gLv_sub hl [1, 2, 3, 4] rfl)
theorem m_X5_targetsOver (l : Launch) (G : gG) (v1 : Int) (nv1 : nmI v1) (M : gM) (q : (Int)) (hf : f_X5_targetsOver v1 M = some q) : gMet l yX5_targetsOver cX5_targetsOver 5 (some .int) 3 68 G M [.ref (gAd G 2 0), .int (iI v1)] (gQi G q M) := by
  refine gOfW (by decide) (by show _ ≤ 5; exact Nat.le_of_ble_eq_true rfl) rfl ?_
  intro p e s m below meth c X hH ls hl
  replace hl : gLv ls 5 [(0, .ref (gAd G 2 0)), (1, .int (iI v1))] := hl
  have hS : va_S (gA G) s.heap s.heap [] := va_S.rf
  generalize hargs : ([.ref (gAd G 2 0), .int (iI v1)] : List Value).toArray = args at X ⊢
  clear hargs
  unfold f_X5_targetsOver at hf
  refine lv_iload_n X.1 X.2.1 dX5_targetsOver_0 rfl (lv_at hl.1 1 rfl) ?_
  refine gGoZ (gRunSN X hH (As := [.int (iI v1)]) (m_X11_isTarget l G v1 nv1 M _ rfl) calX11_isTarget k_731 k_730 ⟨by decide, by decide⟩ rfl hl rfl (Nat.le_of_ble_eq_true rfl) ⟨Nat.le_of_ble_eq_true rfl, Nat.le_of_ble_eq_true rfl⟩ dX5_targetsOver_1) hS (fun H locs br1 hH hS => ?_)
  obtain ⟨k17, ek17, hf_⟩ := oj_e hf; clear hf; have hf := hf_; clear hf_
  have hk17 : ∀ (xs0_17 : Int) (nxs0_17 : nmI xs0_17), k17 xs0_17 = some q → ∀ (H : Heap) (locs : List Loc) (ls : Array Slot), gH G M H → va_S (gA G) s.heap H locs → gLv ls 5 [(0, .ref (gAd G 2 0)), (1, .int (iI v1))] → W p l e { frames := 3, cells := 0, slots := 0, locals := 68 } s m args below meth c H locs 0 0 (MQ below (gQi G q M) args s 0 0 (gA G)) (F0 m 17 ls [.int (iI xs0_17)]) := by
    intro xs0_17 nxs0_17 hf H locs ls hH hS hl
    subst ek17
    refine g_istore_n X (lv' := [(2, .int (iI xs0_17)), (0, .ref (gAd G 2 0)), (1, .int (iI v1))]) dX5_targetsOver_17 rfl hl (by decide) rfl (fun ls hl => ?_)
    refine lv_iconst X.1 X.2.1 dX5_targetsOver_18 (v := iI 0) rfl ?_
    refine g_istore_n X (lv' := [(3, .int (iI 0)), (2, .int (iI xs0_17)), (0, .ref (gAd G 2 0)), (1, .int (iI v1))]) dX5_targetsOver_19 rfl hl (by decide) rfl (fun ls hl => ?_)
    refine w_X5_targetsOver_L20 X _ v1 nv1 M q ?_ 64 xs0_17 nxs0_17 0 (nmI_l (by decide)) hf _ _ _ hH hS (gLv_sub hl [2, 3, 1, 0] rfl)
    · intro y2_20_68 ny2_20_68 hf H locs ls hH hS hl
      refine lv_iload_n X.1 X.2.1 dX5_targetsOver_68 rfl (lv_at hl.1 0 rfl) ?_
      have hq := Option.some.inj hf; subst hq
      exact gRetI X hH hS (res := y2_20_68) ny2_20_68 dX5_targetsOver_69
  clear ek17
  refine g_if_eq X (nmI_b br1) (tgt := 16) dX5_targetsOver_4 (by decide) (fun hc4 => ?_) (fun hc4 => ?_)
  · replace hf := it_t hf hc4
    refine lv_iconst X.1 X.2.1 dX5_targetsOver_16 (v := iI 0) rfl ?_
    exact hk17 0 (nmI_l (by decide)) hf _ _ _ hH hS (gLv_sub hl [0, 1] rfl)
  · replace hf := it_f hf hc4
    refine lv_iconst X.1 X.2.1 dX5_targetsOver_7 (v := iI 1) rfl ?_
    refine lv_iload_n X.1 X.2.1 dX5_targetsOver_8 rfl (lv_at hl.1 1 rfl) ?_
    refine lv_bipush X.1 X.2.1 dX5_targetsOver_9 (v := iI 16) (by decide) ?_
    refine g_isub X dX5_targetsOver_11 ?_
    refine g_ishl X dX5_targetsOver_12 ?_
    refine lv_goto (tgt := 17) X.1 X.2.1 dX5_targetsOver_13 (by decide) ?_
    exact hk17 (gShl 1 (wI (v1 - 16))) (nmI_shl _ _) hf _ _ _ hH hS (gLv_sub hl [0, 1] rfl)
theorem w_X5_spreadDistance_L16 {G : gG} {p : Program} {l : Launch} {e : Env} {s : State} {m : MethodId} {args : Array Value} {below : List Frame} {meth : Method} {c : Code} (X : gX G p s m args meth c RX5 cX5_spreadDistance 6 none (gWs yX5_spreadDistance cX5_spreadDistance 6 none)) (k79 : gM → Option gM) (z1 : Nat) (hz1 : z1 < 15) (z2 : Int) (nz2 : nmI z2) (q : gM) (hk79 : ∀  (M : gM), k79 M = some q → ∀ (H : Heap) (locs : List Loc) (ls : Array Slot), gH G M H → va_S (gA G) s.heap H locs → gLv ls 6 [] → W p l e { frames := 2, cells := 0, slots := 0, locals := 44 } s m args below meth c H locs 0 0 (MQ below (gQv G q) args s 0 0 (gA G)) (F0 m 79 ls [])) : ∀ (n : Nat) (x3 : Int) (nx3 : nmI x3) (M : gM), f_X5_spreadDistance_L16 k79 z1 z2 n x3 M = some q → ∀ (H : Heap) (locs : List Loc) (ls : Array Slot), gH G M H → va_S (gA G) s.heap H locs → gLv ls 6 [(0, .ref (gAd G 2 0)), (1, .ref (gAd G 7 z1)), (2, .int (iI z2)), (3, .int (iI x3))] → W p l e { frames := 2, cells := 0, slots := 0, locals := 44 } s m args below meth c H locs 0 0 (MQ below (gQv G q) args s 0 0 (gA G)) (F0 m 16 ls []) := by
  intro n
  induction n with
  | zero =>
    intro x3 nx3 M hf
    cases hf
  | succ n ih =>
    intro x3 nx3 M hf H locs ls hH hS hl
    rw [f_X5_spreadDistance_L16] at hf
    refine lv_iload_n X.1 X.2.1 dX5_spreadDistance_16 rfl (lv_at hl.1 3 rfl) ?_
    refine lv_aload_n X.1 X.2.1 dX5_spreadDistance_17 rfl (lv_at hl.1 1 rfl) ?_
    refine g_get X cX8 hH (r := 7) (i := z1) hz1 rfl 1 (by decide) k_184 rfl (v := .ref (gAd G 8 z1)) rfl dX5_spreadDistance_18 ?_
    have nd21 : nmI (M 8 z1 5) := hH.1.1 _ _ _
    refine g_get X cX6 hH (r := 8) (i := z1) (by show _ < 16; omega) rfl 5 (by decide) k_119 rfl (v := .int (iI (M 8 z1 5))) rfl dX5_spreadDistance_21 ?_
    refine g_icmp_ge X nx3 nd21 (tgt := 79) dX5_spreadDistance_24 (by decide) (fun hc24 => ?_) (fun hc24 => ?_)
    · replace hf := it_f hf hc24
      exact hk79 M hf _ _ _ hH hS (gLv_sub hl [] rfl)
    · replace hf := it_t hf hc24
      refine lv_aload_n X.1 X.2.1 dX5_spreadDistance_27 rfl (lv_at hl.1 1 rfl) ?_
      refine g_get X cX8 hH (r := 7) (i := z1) hz1 rfl 1 (by decide) k_184 rfl (v := .ref (gAd G 8 z1)) rfl dX5_spreadDistance_28 ?_
      refine lv_iload_n X.1 X.2.1 dX5_spreadDistance_31 rfl (lv_at hl.1 3 rfl) ?_
      refine gGoI (gRunV X hH (As := [.int (iI x3)]) (m_X6_chosen l G z1 (by show _ < 16; omega) x3 nx3 M _ rfl) calX6_chosen k_727 k_728 k_726 (by show _ < 16; omega) cX6 rfl ⟨by decide, by decide⟩ rfl hl rfl (Nat.le_of_ble_eq_true rfl) ⟨Nat.le_of_ble_eq_true rfl, Nat.le_of_ble_eq_true rfl⟩ dX5_spreadDistance_32) hS (fun H locs nr32 hH hS => ?_)
      refine lv_bipush X.1 X.2.1 dX5_spreadDistance_35 (v := iI 16) (by decide) ?_
      refine g_isub X dX5_spreadDistance_37 ?_
      refine g_istore X (lv' := [(4, .int (iI (wI (((f_X6_chosen z1 x3 M)) - 16)))), (0, .ref (gAd G 2 0)), (1, .ref (gAd G 7 z1)), (2, .int (iI z2)), (3, .int (iI x3))]) dX5_spreadDistance_38 hl (by decide) rfl (fun ls hl => ?_)
      refine lv_aload_n X.1 X.2.1 dX5_spreadDistance_40 rfl (lv_at hl.1 1 rfl) ?_
      refine g_get X cX5 hH (r := 2) (i := 0) (by decide) rfl 3 (by decide) k_247 rfl (v := .ref (gAd G 22 0)) rfl dX5_spreadDistance_41 ?_
      refine lv_iload X.1 X.2.1 dX5_spreadDistance_44 (lv_at hl.1 0 rfl) ?_
      refine gGoI (gRunSN X hH (As := [.ref (gAd G 22 0), .int (iI (wI (((f_X6_chosen z1 x3 M)) - 16)))]) (m_X11_at l G 22 0 14 (by decide) gArr_22 (wI (((f_X6_chosen z1 x3 M)) - 16)) (nmI_w _) M _ rfl) calX11_at k_563 k_1028 ⟨by decide, by decide⟩ rfl hl rfl (Nat.le_of_ble_eq_true rfl) ⟨Nat.le_of_ble_eq_true rfl, Nat.le_of_ble_eq_true rfl⟩ dX5_spreadDistance_46) hS (fun H locs nr46 hH hS => ?_)
      refine g_istore X (lv' := [(5, .int (iI ((f_X11_at 22 0 14 (wI (((f_X6_chosen z1 x3 M)) - 16)) M)))), (4, .int (iI (wI (((f_X6_chosen z1 x3 M)) - 16)))), (0, .ref (gAd G 2 0)), (1, .ref (gAd G 7 z1)), (2, .int (iI z2)), (3, .int (iI x3))]) dX5_spreadDistance_49 hl (by decide) rfl (fun ls hl => ?_)
      refine lv_iload X.1 X.2.1 dX5_spreadDistance_51 (lv_at hl.1 0 rfl) ?_
      refine lv_iconst X.1 X.2.1 dX5_spreadDistance_53 (v := iI (-1)) rfl ?_
      obtain ⟨k73, ek73, hf_⟩ := oj_e hf; clear hf; have hf := hf_; clear hf_
      have hk73 : ∀  (M_73 : gM), k73 M_73 = some q → ∀ (H : Heap) (locs : List Loc) (ls : Array Slot), gH G M_73 H → va_S (gA G) s.heap H locs → gLv ls 6 [(0, .ref (gAd G 2 0)), (1, .ref (gAd G 7 z1)), (2, .int (iI z2)), (3, .int (iI x3))] → W p l e { frames := 2, cells := 0, slots := 0, locals := 44 } s m args below meth c H locs 0 0 (MQ below (gQv G q) args s 0 0 (gA G)) (F0 m 73 ls []) := by
        intro  M_73 hf H locs ls hH hS hl
        subst ek73
        refine g_iinc X (a := x3) (lv' := [(3, .int (iI (wI (x3 + 1)))), (0, .ref (gAd G 2 0)), (1, .ref (gAd G 7 z1)), (2, .int (iI z2))]) dX5_spreadDistance_73 hl (k := 3) rfl (by decide) rfl (fun ls hl => ?_)
        refine lv_goto (tgt := 16) X.1 X.2.1 dX5_spreadDistance_76 (by decide) ?_
        exact ih (wI (x3 + 1)) (nmI_w _) M_73 hf _ _ _ hH hS (gLv_sub hl [1, 2, 3, 0] rfl)
      clear ek73
      obtain ⟨k63, ek63, hf_⟩ := oj_e hf; clear hf; have hf := hf_; clear hf_
      have hk63 : k63 = some q → ∀ (H : Heap) (locs : List Loc) (ls : Array Slot), gH G M H → va_S (gA G) s.heap H locs → gLv ls 6 [(0, .ref (gAd G 2 0)), (1, .ref (gAd G 7 z1)), (2, .int (iI z2)), (3, .int (iI x3)), (4, .int (iI (wI (((f_X6_chosen z1 x3 M)) - 16))))] → W p l e { frames := 2, cells := 0, slots := 0, locals := 44 } s m args below meth c H locs 0 0 (MQ below (gQv G q) args s 0 0 (gA G)) (F0 m 63 ls []) := by
        intro  hf H locs ls hH hS hl
        subst ek63
        refine lv_aload_n X.1 X.2.1 dX5_spreadDistance_63 rfl (lv_at hl.1 0 rfl) ?_
        refine g_get X cX5 hH (r := 2) (i := 0) (by decide) rfl 3 (by decide) k_247 rfl (v := .ref (gAd G 22 0)) rfl dX5_spreadDistance_64 ?_
        refine lv_iload X.1 X.2.1 dX5_spreadDistance_67 (lv_at hl.1 4 rfl) ?_
        refine lv_iload_n X.1 X.2.1 dX5_spreadDistance_69 rfl (lv_at hl.1 2 rfl) ?_
        refine gGoV (gRunSN X hH (As := [.ref (gAd G 22 0), .int (iI (wI (((f_X6_chosen z1 x3 M)) - 16))), .int (iI z2)]) (m_X11_store l G 22 0 14 (by decide) gArr_22 (wI (((f_X6_chosen z1 x3 M)) - 16)) (nmI_w _) z2 nz2 M _ rfl) calX11_store k_566 k_1029 ⟨by decide, by decide⟩ rfl hl rfl (Nat.le_of_ble_eq_true rfl) ⟨Nat.le_of_ble_eq_true rfl, Nat.le_of_ble_eq_true rfl⟩ dX5_spreadDistance_70) hS (fun H locs hH hS => ?_)
        exact hk73 ((f_X11_store 22 0 14 (wI (((f_X6_chosen z1 x3 M)) - 16)) z2 M)) hf _ _ _ hH hS (gLv_sub hl [0, 1, 2, 3] rfl)
      clear ek63
      refine g_icmp_eq X nr46 (nmI_l (by decide)) (tgt := 63) dX5_spreadDistance_54 (by decide) (fun hc54 => ?_) (fun hc54 => ?_)
      · replace hf := it_t hf hc54
        exact hk63  hf _ _ _ hH hS (gLv_sub hl [2, 3, 4, 5, 1] rfl)
      · replace hf := it_f hf hc54
        refine lv_iload X.1 X.2.1 dX5_spreadDistance_57 (lv_at hl.1 0 rfl) ?_
        refine lv_iload_n X.1 X.2.1 dX5_spreadDistance_59 rfl (lv_at hl.1 4 rfl) ?_
        refine g_icmp_le X nr46 nz2 (tgt := 73) dX5_spreadDistance_60 (by decide) (fun hc60 => ?_) (fun hc60 => ?_)
        · replace hf := it_f hf hc60
          exact hk73 M hf _ _ _ hH hS (gLv_sub hl [2, 3, 4, 5] rfl)
        · replace hf := it_t hf hc60
          exact hk63  hf _ _ _ hH hS (gLv_sub hl [2, 3, 4, 5, 1] rfl)
theorem m_X5_spreadDistance (l : Launch) (G : gG) (i1 : Nat) (hi1 : i1 < 15) (M : gM) (q : gM) (hf : f_X5_spreadDistance i1 M = some q) : gMet l yX5_spreadDistance cX5_spreadDistance 6 none 2 44 G M [.ref (gAd G 2 0), .ref (gAd G 7 i1)] (gQv G q) := by
  refine gOfW (by decide) (by show _ ≤ 6; exact Nat.le_of_ble_eq_true rfl) rfl ?_
  intro p e s m below meth c X hH ls hl
  replace hl : gLv ls 6 [(0, .ref (gAd G 2 0)), (1, .ref (gAd G 7 i1))] := hl
  have hS : va_S (gA G) s.heap s.heap [] := va_S.rf
  generalize hargs : ([.ref (gAd G 2 0), .ref (gAd G 7 i1)] : List Value).toArray = args at X ⊢
  clear hargs
  unfold f_X5_spreadDistance at hf
  refine lv_aload_n X.1 X.2.1 dX5_spreadDistance_0 rfl (lv_at hl.1 0 rfl) ?_
  refine g_get X cX5 hH (r := 2) (i := 0) (by decide) rfl 3 (by decide) k_247 rfl (v := .ref (gAd G 22 0)) rfl dX5_spreadDistance_1 ?_
  refine lv_aload_n X.1 X.2.1 dX5_spreadDistance_4 rfl (lv_at hl.1 1 rfl) ?_
  have nd5 : nmI (M 7 i1 0) := hH.1.1 _ _ _
  refine g_get X cX8 hH (r := 7) (i := i1) hi1 rfl 0 (by decide) k_181 rfl (v := .int (iI (M 7 i1 0))) rfl dX5_spreadDistance_5 ?_
  refine gGoI (gRunSN X hH (As := [.ref (gAd G 22 0), .int (iI (M 7 i1 0))]) (m_X11_at l G 22 0 14 (by decide) gArr_22 (M 7 i1 0) nd5 M _ rfl) calX11_at k_563 k_1028 ⟨by decide, by decide⟩ rfl hl rfl (Nat.le_of_ble_eq_true rfl) ⟨Nat.le_of_ble_eq_true rfl, Nat.le_of_ble_eq_true rfl⟩ dX5_spreadDistance_8) hS (fun H locs nr8 hH hS => ?_)
  refine lv_iconst X.1 X.2.1 dX5_spreadDistance_11 (v := iI 1) rfl ?_
  refine g_iadd X dX5_spreadDistance_12 ?_
  refine g_istore_n X (lv' := [(2, .int (iI (wI (((f_X11_at 22 0 14 (M 7 i1 0) M)) + 1)))), (0, .ref (gAd G 2 0)), (1, .ref (gAd G 7 i1))]) dX5_spreadDistance_13 rfl hl (by decide) rfl (fun ls hl => ?_)
  refine lv_iconst X.1 X.2.1 dX5_spreadDistance_14 (v := iI 0) rfl ?_
  refine g_istore_n X (lv' := [(3, .int (iI 0)), (2, .int (iI (wI (((f_X11_at 22 0 14 (M 7 i1 0) M)) + 1)))), (0, .ref (gAd G 2 0)), (1, .ref (gAd G 7 i1))]) dX5_spreadDistance_15 rfl hl (by decide) rfl (fun ls hl => ?_)
  refine w_X5_spreadDistance_L16 X _ i1 hi1 (wI (((f_X11_at 22 0 14 (M 7 i1 0) M)) + 1)) (nmI_w _) q ?_ 64 0 (nmI_l (by decide)) M hf _ _ _ hH hS (gLv_sub hl [2, 3, 1, 0] rfl)
  · intro  M_16_79 hf H locs ls hH hS hl
    have hq := Option.some.inj hf; subst hq
    exact gRetV X hH hS dX5_spreadDistance_79
theorem w_X5_distance_L2 {G : gG} {p : Program} {l : Launch} {e : Env} {s : State} {m : MethodId} {args : Array Value} {below : List Frame} {meth : Method} {c : Code} (X : gX G p s m args meth c RX5 cX5_distance 4 (some .int) (gWs yX5_distance cX5_distance 4 (some .int))) (k32 : gM → Option (Int × gM)) (z1 : Int) (nz1 : nmI z1) (z2 : Int) (nz2 : nmI z2) (q : (Int × gM)) (hk32 : ∀  (M : gM), k32 M = some q → ∀ (H : Heap) (locs : List Loc) (ls : Array Slot), gH G M H → va_S (gA G) s.heap H locs → gLv ls 4 [(0, .ref (gAd G 2 0)), (1, .int (iI z1)), (2, .int (iI z2))] → W p l e { frames := 3, cells := 0, slots := 0, locals := 69 } s m args below meth c H locs 0 0 (MQ below (gQi G q.1 q.2) args s 0 0 (gA G)) (F0 m 32 ls [])) : ∀ (n : Nat) (x3 : Int) (nx3 : nmI x3) (M : gM), f_X5_distance_L2 k32 z1 z2 n x3 M = some q → ∀ (H : Heap) (locs : List Loc) (ls : Array Slot), gH G M H → va_S (gA G) s.heap H locs → gLv ls 4 [(0, .ref (gAd G 2 0)), (1, .int (iI z1)), (2, .int (iI z2)), (3, .int (iI x3))] → W p l e { frames := 3, cells := 0, slots := 0, locals := 69 } s m args below meth c H locs 0 0 (MQ below (gQi G q.1 q.2) args s 0 0 (gA G)) (F0 m 2 ls []) := by
  intro n
  induction n with
  | zero =>
    intro x3 nx3 M hf
    cases hf
  | succ n ih =>
    intro x3 nx3 M hf H locs ls hH hS hl
    rw [f_X5_distance_L2] at hf
    refine lv_iload_n X.1 X.2.1 dX5_distance_2 rfl (lv_at hl.1 3 rfl) ?_
    refine lv_bipush X.1 X.2.1 dX5_distance_3 (v := iI 14) (by decide) ?_
    refine g_icmp_ge X nx3 (nmI_l (by decide)) (tgt := 32) dX5_distance_5 (by decide) (fun hc5 => ?_) (fun hc5 => ?_)
    · replace hf := it_f hf hc5
      exact hk32 M hf _ _ _ hH hS (gLv_sub hl [0, 1, 2] rfl)
    · replace hf := it_t hf hc5
      refine lv_aload_n X.1 X.2.1 dX5_distance_8 rfl (lv_at hl.1 0 rfl) ?_
      refine g_get X cX5 hH (r := 2) (i := 0) (by decide) rfl 3 (by decide) k_247 rfl (v := .ref (gAd G 22 0)) rfl dX5_distance_9 ?_
      refine lv_iload_n X.1 X.2.1 dX5_distance_12 rfl (lv_at hl.1 3 rfl) ?_
      refine lv_iload_n X.1 X.2.1 dX5_distance_13 rfl (lv_at hl.1 3 rfl) ?_
      refine lv_iload_n X.1 X.2.1 dX5_distance_14 rfl (lv_at hl.1 1 rfl) ?_
      obtain ⟨k23, ek23, hf_⟩ := oj_e hf; clear hf; have hf := hf_; clear hf_
      have hk23 : ∀ (xs2_23 : Int) (nxs2_23 : nmI xs2_23), k23 xs2_23 = some q → ∀ (H : Heap) (locs : List Loc) (ls : Array Slot), gH G M H → va_S (gA G) s.heap H locs → gLv ls 4 [(0, .ref (gAd G 2 0)), (1, .int (iI z1)), (2, .int (iI z2)), (3, .int (iI x3))] → W p l e { frames := 3, cells := 0, slots := 0, locals := 69 } s m args below meth c H locs 0 0 (MQ below (gQi G q.1 q.2) args s 0 0 (gA G)) (F0 m 23 ls [.int (iI xs2_23), .int (iI x3), .ref (gAd G 22 0)]) := by
        intro xs2_23 nxs2_23 hf H locs ls hH hS hl
        subst ek23
        refine gGoV (gRunSN X hH (As := [.ref (gAd G 22 0), .int (iI x3), .int (iI xs2_23)]) (m_X11_store l G 22 0 14 (by decide) gArr_22 x3 nx3 xs2_23 nxs2_23 M _ rfl) calX11_store k_566 k_1029 ⟨by decide, by decide⟩ rfl hl rfl (Nat.le_of_ble_eq_true rfl) ⟨Nat.le_of_ble_eq_true rfl, Nat.le_of_ble_eq_true rfl⟩ dX5_distance_23) hS (fun H locs hH hS => ?_)
        refine g_iinc X (a := x3) (lv' := [(3, .int (iI (wI (x3 + 1)))), (0, .ref (gAd G 2 0)), (1, .int (iI z1)), (2, .int (iI z2))]) dX5_distance_26 hl (k := 3) rfl (by decide) rfl (fun ls hl => ?_)
        refine lv_goto (tgt := 2) X.1 X.2.1 dX5_distance_29 (by decide) ?_
        exact ih (wI (x3 + 1)) (nmI_w _) ((f_X11_store 22 0 14 x3 xs2_23 M)) hf _ _ _ hH hS (gLv_sub hl [1, 2, 3, 0] rfl)
      clear ek23
      refine g_icmp_ne X nx3 nz1 (tgt := 22) dX5_distance_15 (by decide) (fun hc15 => ?_) (fun hc15 => ?_)
      · replace hf := it_f hf hc15
        refine lv_iconst X.1 X.2.1 dX5_distance_22 (v := iI (-1)) rfl ?_
        exact hk23 ((-1)) (nmI_l (by decide)) hf _ _ _ hH hS (gLv_sub hl [0, 1, 2, 3] rfl)
      · replace hf := it_t hf hc15
        refine lv_iconst X.1 X.2.1 dX5_distance_18 (v := iI 0) rfl ?_
        refine lv_goto (tgt := 23) X.1 X.2.1 dX5_distance_19 (by decide) ?_
        exact hk23 0 (nmI_l (by decide)) hf _ _ _ hH hS (gLv_sub hl [0, 1, 2, 3] rfl)
theorem w_X5_distance_L34 {G : gG} {p : Program} {l : Launch} {e : Env} {s : State} {m : MethodId} {args : Array Value} {below : List Frame} {meth : Method} {c : Code} (X : gX G p s m args meth c RX5 cX5_distance 4 (some .int) (gWs yX5_distance cX5_distance 4 (some .int))) (k66 : gM → Option (Int × gM)) (z2 : Int) (nz2 : nmI z2) (q : (Int × gM)) (hk66 : ∀  (M : gM), k66 M = some q → ∀ (H : Heap) (locs : List Loc) (ls : Array Slot), gH G M H → va_S (gA G) s.heap H locs → gLv ls 4 [(0, .ref (gAd G 2 0)), (2, .int (iI z2))] → W p l e { frames := 3, cells := 0, slots := 0, locals := 69 } s m args below meth c H locs 0 0 (MQ below (gQi G q.1 q.2) args s 0 0 (gA G)) (F0 m 66 ls [])) : ∀ (n : Nat) (x3 : Int) (nx3 : nmI x3) (M : gM), f_X5_distance_L34 k66 z2 n x3 M = some q → ∀ (H : Heap) (locs : List Loc) (ls : Array Slot), gH G M H → va_S (gA G) s.heap H locs → gLv ls 4 [(0, .ref (gAd G 2 0)), (2, .int (iI z2)), (3, .int (iI x3))] → W p l e { frames := 3, cells := 0, slots := 0, locals := 69 } s m args below meth c H locs 0 0 (MQ below (gQi G q.1 q.2) args s 0 0 (gA G)) (F0 m 34 ls []) := by
  intro n
  induction n with
  | zero =>
    intro x3 nx3 M hf
    cases hf
  | succ n ih =>
    intro x3 nx3 M hf H locs ls hH hS hl
    rw [f_X5_distance_L34] at hf
    refine lv_iload_n X.1 X.2.1 dX5_distance_34 rfl (lv_at hl.1 2 rfl) ?_
    refine lv_iload_n X.1 X.2.1 dX5_distance_35 rfl (lv_at hl.1 1 rfl) ?_
    refine g_icmp_le X nx3 nz2 (tgt := 66) dX5_distance_36 (by decide) (fun hc36 => ?_) (fun hc36 => ?_)
    · replace hf := it_f hf hc36
      exact hk66 M hf _ _ _ hH hS (gLv_sub hl [0, 1] rfl)
    · replace hf := it_t hf hc36
      refine lv_aload_n X.1 X.2.1 dX5_distance_39 rfl (lv_at hl.1 0 rfl) ?_
      refine g_get X cX5 hH (r := 2) (i := 0) (by decide) rfl 3 (by decide) k_247 rfl (v := .ref (gAd G 22 0)) rfl dX5_distance_40 ?_
      refine lv_iload_n X.1 X.2.1 dX5_distance_43 rfl (lv_at hl.1 2 rfl) ?_
      refine gGoI (gRunSN X hH (As := [.ref (gAd G 22 0), .int (iI x3)]) (m_X11_at l G 22 0 14 (by decide) gArr_22 x3 nx3 M _ rfl) calX11_at k_563 k_1028 ⟨by decide, by decide⟩ rfl hl rfl (Nat.le_of_ble_eq_true rfl) ⟨Nat.le_of_ble_eq_true rfl, Nat.le_of_ble_eq_true rfl⟩ dX5_distance_44) hS (fun H locs nr44 hH hS => ?_)
      refine lv_iconst X.1 X.2.1 dX5_distance_47 (v := iI (-1)) rfl ?_
      obtain ⟨k60, ek60, hf_⟩ := oj_e hf; clear hf; have hf := hf_; clear hf_
      have hk60 : ∀  (M_60 : gM), k60 M_60 = some q → ∀ (H : Heap) (locs : List Loc) (ls : Array Slot), gH G M_60 H → va_S (gA G) s.heap H locs → gLv ls 4 [(0, .ref (gAd G 2 0)), (2, .int (iI z2)), (3, .int (iI x3))] → W p l e { frames := 3, cells := 0, slots := 0, locals := 69 } s m args below meth c H locs 0 0 (MQ below (gQi G q.1 q.2) args s 0 0 (gA G)) (F0 m 60 ls []) := by
        intro  M_60 hf H locs ls hH hS hl
        subst ek60
        refine g_iinc X (a := x3) (lv' := [(3, .int (iI (wI (x3 + (-1))))), (0, .ref (gAd G 2 0)), (2, .int (iI z2))]) dX5_distance_60 hl (k := 2) rfl (by decide) rfl (fun ls hl => ?_)
        refine lv_goto (tgt := 34) X.1 X.2.1 dX5_distance_63 (by decide) ?_
        exact ih (wI (x3 + (-1))) (nmI_w _) M_60 hf _ _ _ hH hS (gLv_sub hl [1, 2, 0] rfl)
      clear ek60
      refine g_icmp_eq X nr44 (nmI_l (by decide)) (tgt := 60) dX5_distance_48 (by decide) (fun hc48 => ?_) (fun hc48 => ?_)
      · replace hf := it_t hf hc48
        exact hk60 M hf _ _ _ hH hS (gLv_sub hl [0, 1, 2] rfl)
      · replace hf := it_f hf hc48
        refine lv_aload_n X.1 X.2.1 dX5_distance_51 rfl (lv_at hl.1 0 rfl) ?_
        refine lv_aload_n X.1 X.2.1 dX5_distance_52 rfl (lv_at hl.1 0 rfl) ?_
        refine lv_iload_n X.1 X.2.1 dX5_distance_53 rfl (lv_at hl.1 2 rfl) ?_
        refine gGoR (gRunV X hH (As := [.int (iI x3)]) (m_X5_targetAt l G x3 nx3 M _ rfl) calX5_targetAt k_631 k_632 k_638 (by decide) cX5 rfl ⟨by decide, by decide⟩ rfl hl rfl (Nat.le_of_ble_eq_true rfl) ⟨Nat.le_of_ble_eq_true rfl, Nat.le_of_ble_eq_true rfl⟩ dX5_distance_54) hS (fun H locs hr54 hH hS => ?_)
        replace hr54 : (f_X5_targetAt x3 M) < 15 := hr54
        obtain ⟨r57, hq57, hf_⟩ := ob_e hf; clear hf; have hf := hf_; clear hf_
        refine gGoV (gRunV X hH (As := [.ref (gAd G 7 ((f_X5_targetAt x3 M)))]) (m_X5_spreadDistance l G ((f_X5_targetAt x3 M)) hr54 M _ hq57) calX5_spreadDistance k_1065 k_28 k_1063 (by decide) cX5 rfl ⟨by decide, by decide⟩ rfl hl rfl (Nat.le_of_ble_eq_true rfl) ⟨Nat.le_of_ble_eq_true rfl, Nat.le_of_ble_eq_true rfl⟩ dX5_distance_57) hS (fun H locs hH hS => ?_)
        exact hk60 r57 hf _ _ _ hH hS (gLv_sub hl [0, 1, 2] rfl)
theorem m_X5_distance (l : Launch) (G : gG) (v1 : Int) (nv1 : nmI v1) (v2 : Int) (nv2 : nmI v2) (M : gM) (q : (Int × gM)) (hf : f_X5_distance v1 v2 M = some q) : gMet l yX5_distance cX5_distance 4 (some .int) 3 69 G M [.ref (gAd G 2 0), .int (iI v1), .int (iI v2)] (gQi G q.1 q.2) := by
  refine gOfW (by decide) (by show _ ≤ 4; exact Nat.le_of_ble_eq_true rfl) rfl ?_
  intro p e s m below meth c X hH ls hl
  replace hl : gLv ls 4 [(0, .ref (gAd G 2 0)), (1, .int (iI v1)), (2, .int (iI v2))] := hl
  have hS : va_S (gA G) s.heap s.heap [] := va_S.rf
  generalize hargs : ([.ref (gAd G 2 0), .int (iI v1), .int (iI v2)] : List Value).toArray = args at X ⊢
  clear hargs
  unfold f_X5_distance at hf
  refine lv_iconst X.1 X.2.1 dX5_distance_0 (v := iI 0) rfl ?_
  refine g_istore_n X (lv' := [(3, .int (iI 0)), (0, .ref (gAd G 2 0)), (1, .int (iI v1)), (2, .int (iI v2))]) dX5_distance_1 rfl hl (by decide) rfl (fun ls hl => ?_)
  refine w_X5_distance_L2 X _ v1 nv1 v2 nv2 q ?_ 64 0 (nmI_l (by decide)) M hf _ _ _ hH hS (gLv_sub hl [1, 2, 3, 0] rfl)
  · intro  M_2_32 hf H locs ls hH hS hl
    refine lv_iload_n X.1 X.2.1 dX5_distance_32 rfl (lv_at hl.1 1 rfl) ?_
    refine g_istore_n X (lv' := [(3, .int (iI v1)), (0, .ref (gAd G 2 0)), (1, .int (iI v1)), (2, .int (iI v2))]) dX5_distance_33 rfl hl (by decide) rfl (fun ls hl => ?_)
    refine w_X5_distance_L34 X _ v2 nv2 q ?_ 64 v1 nv1 M_2_32 hf _ _ _ hH hS (gLv_sub hl [1, 3, 0] rfl)
    · intro  M_34_66 hf H locs ls hH hS hl
      refine lv_aload_n X.1 X.2.1 dX5_distance_66 rfl (lv_at hl.1 0 rfl) ?_
      refine g_get X cX5 hH (r := 2) (i := 0) (by decide) rfl 3 (by decide) k_247 rfl (v := .ref (gAd G 22 0)) rfl dX5_distance_67 ?_
      refine lv_iload_n X.1 X.2.1 dX5_distance_70 rfl (lv_at hl.1 1 rfl) ?_
      refine gGoI (gRunSN X hH (As := [.ref (gAd G 22 0), .int (iI v2)]) (m_X11_at l G 22 0 14 (by decide) gArr_22 v2 nv2 M_34_66 _ rfl) calX11_at k_563 k_1028 ⟨by decide, by decide⟩ rfl hl rfl (Nat.le_of_ble_eq_true rfl) ⟨Nat.le_of_ble_eq_true rfl, Nat.le_of_ble_eq_true rfl⟩ dX5_distance_71) hS (fun H locs nr71 hH hS => ?_)
      have hq := Option.some.inj hf; subst hq
      exact gRetI X hH hS (res := (f_X11_at 22 0 14 v2 M_34_66)) nr71 dX5_distance_74
theorem m_X11_isGoodAfter (l : Launch) (G : gG) (v1 : Int) (nv1 : nmI v1) (v2 : Int) (nv2 : nmI v2) (M : gM) (q : (Int × gM)) (hf : f_X11_isGoodAfter v1 v2 M = some q) : gMet l yX11_isGoodAfter cX11_isGoodAfter 3 (some .boolean) 6 138 G M [.ref (gAd G 0 0), .int (iI v1), .int (iI v2)] (gQz G q.1 q.2) := by
  refine gOfW (by decide) (by show _ ≤ 3; exact Nat.le_of_ble_eq_true rfl) rfl ?_
  intro p e s m below meth c X hH ls hl
  replace hl : gLv ls 3 [(0, .ref (gAd G 0 0)), (1, .int (iI v1)), (2, .int (iI v2))] := hl
  have hS : va_S (gA G) s.heap s.heap [] := va_S.rf
  generalize hargs : ([.ref (gAd G 0 0), .int (iI v1), .int (iI v2)] : List Value).toArray = args at X ⊢
  clear hargs
  unfold f_X11_isGoodAfter at hf
  refine lv_aload_n X.1 X.2.1 dX11_isGoodAfter_0 rfl (lv_at hl.1 0 rfl) ?_
  refine g_get X cX11 hH (r := 0) (i := 0) (by decide) rfl 4 (by decide) k_445 rfl (v := .ref (gAd G 5 0)) rfl dX11_isGoodAfter_1 ?_
  refine lv_iload_n X.1 X.2.1 dX11_isGoodAfter_4 rfl (lv_at hl.1 1 rfl) ?_
  obtain ⟨r5, hq5, hf_⟩ := ob_e hf; clear hf; have hf := hf_; clear hf_
  refine gGoI (gRunV X hH (As := [.int (iI v1)]) (m_X4_goodTargets l G v1 nv1 M _ hq5) calX4_goodTargets k_996 k_997 k_995 (by decide) cX4 rfl ⟨by decide, by decide⟩ rfl hl rfl (Nat.le_of_ble_eq_true rfl) ⟨Nat.le_of_ble_eq_true rfl, Nat.le_of_ble_eq_true rfl⟩ dX11_isGoodAfter_5) hS (fun H locs nr5 hH hS => ?_)
  refine lv_iload_n X.1 X.2.1 dX11_isGoodAfter_8 rfl (lv_at hl.1 2 rfl) ?_
  refine gGoI (gRunS X hH (As := [.int (iI r5.1), .int (iI v2)]) (m_X11_bitOf l G r5.1 nr5 v2 nv2 r5.2 _ rfl) calX11_bitOf k_720 k_963 ⟨by decide, by decide⟩ rfl hl rfl (Nat.le_of_ble_eq_true rfl) ⟨Nat.le_of_ble_eq_true rfl, Nat.le_of_ble_eq_true rfl⟩ dX11_isGoodAfter_9) hS (fun H locs nr9 hH hS => ?_)
  refine lv_iconst X.1 X.2.1 dX11_isGoodAfter_12 (v := iI 1) rfl ?_
  refine g_icmp_ne X nr9 (nmI_l (by decide)) (tgt := 20) dX11_isGoodAfter_13 (by decide) (fun hc13 => ?_) (fun hc13 => ?_)
  · replace hf := it_f hf hc13
    refine lv_iconst X.1 X.2.1 dX11_isGoodAfter_20 (v := iI 0) rfl ?_
    have hq := Option.some.inj hf; subst hq
    exact gRetZ X hH hS (res := 0) (by decide) dX11_isGoodAfter_21
  · replace hf := it_t hf hc13
    refine lv_iconst X.1 X.2.1 dX11_isGoodAfter_16 (v := iI 1) rfl ?_
    refine lv_goto (tgt := 21) X.1 X.2.1 dX11_isGoodAfter_17 (by decide) ?_
    have hq := Option.some.inj hf; subst hq
    exact gRetZ X hH hS (res := 1) (by decide) dX11_isGoodAfter_21
theorem m_X11_goesOn (l : Launch) (G : gG)  (M : gM) (q : (Int)) (hf : f_X11_goesOn M = q) : gMet l yX11_goesOn cX11_goesOn 1 (some .boolean) 0 0 G M [.ref (gAd G 0 0)] (gQz G q M) := by
  refine gOfW (by decide) (by show _ ≤ 1; exact Nat.le_of_ble_eq_true rfl) rfl ?_
  intro p e s m below meth c X hH ls hl
  replace hl : gLv ls 1 [(0, .ref (gAd G 0 0))] := hl
  have hS : va_S (gA G) s.heap s.heap [] := va_S.rf
  generalize hargs : ([.ref (gAd G 0 0)] : List Value).toArray = args at X ⊢
  clear hargs
  unfold f_X11_goesOn at hf
  refine lv_aload_n X.1 X.2.1 dX11_goesOn_0 rfl (lv_at hl.1 0 rfl) ?_
  refine g_get X cX11 hH (r := 0) (i := 0) (by decide) rfl 3 (by decide) k_444 rfl (v := .ref (gAd G 4 0)) rfl dX11_goesOn_1 ?_
  have nd4 : nmI (M 4 0 8) := hH.1.1 _ _ _
  have bd4 := hH.1.2.1 4 0 8 rfl
  refine g_get X cX2 hH (r := 4) (i := 0) (by decide) rfl 8 (by decide) k_391 rfl (v := .int (iI (M 4 0 8))) rfl dX11_goesOn_4 ?_
  subst hf
  exact gRetZ X hH hS (res := M 4 0 8) bd4 dX11_goesOn_7
theorem m_X11_entries (l : Launch) (G : gG)  (M : gM) (q : (Int)) (hf : f_X11_entries M = q) : gMet l yX11_entries cX11_entries 1 (some .int) 0 0 G M [.ref (gAd G 0 0)] (gQi G q M) := by
  refine gOfW (by decide) (by show _ ≤ 1; exact Nat.le_of_ble_eq_true rfl) rfl ?_
  intro p e s m below meth c X hH ls hl
  replace hl : gLv ls 1 [(0, .ref (gAd G 0 0))] := hl
  have hS : va_S (gA G) s.heap s.heap [] := va_S.rf
  generalize hargs : ([.ref (gAd G 0 0)] : List Value).toArray = args at X ⊢
  clear hargs
  unfold f_X11_entries at hf
  refine lv_aload_n X.1 X.2.1 dX11_entries_0 rfl (lv_at hl.1 0 rfl) ?_
  refine g_get X cX11 hH (r := 0) (i := 0) (by decide) rfl 2 (by decide) k_443 rfl (v := .ref (gAd G 3 0)) rfl dX11_entries_1 ?_
  have nd4 : nmI (M 3 0 2) := hH.1.1 _ _ _
  refine g_get X cX1 hH (r := 3) (i := 0) (by decide) rfl 2 (by decide) k_309 rfl (v := .int (iI (M 3 0 2))) rfl dX11_entries_4 ?_
  subst hf
  exact gRetI X hH hS (res := M 3 0 2) nd4 dX11_entries_7
theorem m_X11_checkArgument (l : Launch) (hl0 : l.stackTraces = false) (G : gG) (v0 : Int) (bv0 : v0 = 0 ∨ v0 = 1) (M0 : gM) (q : (Nat ⊕ Unit)) (hf : f_X11_checkArgument v0 M0 = some q) : gXMet l yX11_checkArgument cX11_checkArgument 1 none 6 90 1 6 G M0 [.int (iI v0)] (gXv G (∃ z, q = Sum.inr z) M0) (fun e9 => q = Sum.inl e9) := by
  refine gOfX (by decide) (by show _ ≤ 1; exact Nat.le_of_ble_eq_true rfl) rfl ?_
  intro p e s m below meth c X Z hnt hH ls hl
  replace hl : gLv ls 1 [(0, .int (iI v0))] := hl
  have hS : va_S (gA G) s.heap s.heap [] := va_S.rf
  generalize hargs : ([.int (iI v0)] : List Value).toArray = args at X ⊢
  clear hargs
  unfold f_X11_checkArgument at hf
  refine lv_iload_n X.1 X.2.1 dX11_checkArgument_0 rfl (lv_at hl.1 0 rfl) ?_
  refine g_if_ne X (nmI_b bv0) (tgt := 15) dX11_checkArgument_1 (by decide) (fun hc1 => ?_) (fun hc1 => ?_)
  · replace hf := it_f hf hc1
    have hq := Option.some.inj hf; subst hq
    exact gRetXV X hH hS ⟨_, rfl⟩ ⟨Nat.le_of_ble_eq_true rfl, Nat.le_of_ble_eq_true rfl⟩ dX11_checkArgument_15
  · replace hf := it_t hf hc1
    have hq := Option.some.inj hf; subst hq
    exact gThrowW hl0 X Z hnt hH hS hl (e9 := 1) (by decide) k_487 k_46 (List.mem_of_getElem? (i := 0) rfl) gAt_180 dX11_checkArgument_4 dX11_checkArgument_7 dX11_checkArgument_8 dX11_checkArgument_11 dX11_checkArgument_14 (by decide) (by decide) ⟨by decide, by decide⟩ ⟨by decide, by decide⟩ rfl
theorem m_X11_write (l : Launch) (hl0 : l.stackTraces = false) (G : gG) (v1 : Int) (nv1 : nmI v1) (v2 : Int) (nv2 : nmI v2) (M0 : gM) (q : (Nat ⊕ (Int × gM))) (hf : f_X11_write v1 v2 M0 = some q) : gXMet l yX11_write cX11_write 3 (some .int) 7 110 1 6 G M0 [.ref (gAd G 0 0), .int (iI v1), .int (iI v2)] (gXi G (∃ z, q = Sum.inr z) (gvP q).1 (gvP q).2) (fun e9 => q = Sum.inl e9) := by
  refine gOfX (by decide) (by show _ ≤ 3; exact Nat.le_of_ble_eq_true rfl) rfl ?_
  intro p e s m below meth c X Z hnt hH ls hl
  replace hl : gLv ls 3 [(0, .ref (gAd G 0 0)), (1, .int (iI v1)), (2, .int (iI v2))] := hl
  have hS : va_S (gA G) s.heap s.heap [] := va_S.rf
  generalize hargs : ([.ref (gAd G 0 0), .int (iI v1), .int (iI v2)] : List Value).toArray = args at X ⊢
  clear hargs
  unfold f_X11_write at hf
  refine lv_iload_n X.1 X.2.1 dX11_write_0 rfl (lv_at hl.1 1 rfl) ?_
  refine lv_bipush X.1 X.2.1 dX11_write_1 (v := iI 16) (by decide) ?_
  refine gGoZ (gRunS X hH (As := [.int (iI v1), .int (iI 16)]) (m_X11_isBelow l G v1 nv1 16 (nmI_l (by decide)) M0 _ rfl) calX11_isBelow k_482 k_481 ⟨by decide, by decide⟩ rfl hl rfl (Nat.le_of_ble_eq_true rfl) ⟨Nat.le_of_ble_eq_true rfl, Nat.le_of_ble_eq_true rfl⟩ dX11_write_3) hS (fun H locs br3 hH hS => ?_)
  obtain ⟨k24, ek24, hf_⟩ := oj_e hf; clear hf; have hf := hf_; clear hf_
  have hk24 : ∀ (xs0_24 : Int) (bxs0_24 : xs0_24 = 0 ∨ xs0_24 = 1), k24 xs0_24 = some q → ∀ (H : Heap) (locs : List Loc) (ls : Array Slot), gH G M0 H → va_S (gA G) s.heap H locs → gLv ls 3 [(0, .ref (gAd G 0 0)), (1, .int (iI v1)), (2, .int (iI v2))] → W p l e { frames := 7, cells := 1, slots := 6, locals := 110 } s m args below meth c H locs 0 0 (vx_MQ below (gXi G (∃ z, q = Sum.inr z) (gvP q).1 (gvP q).2) (gXC G (fun e9 => q = Sum.inl e9) M0) args s 1 6 (gA G)) (F0 m 24 ls [.int (iI xs0_24)]) := by
    intro xs0_24 bxs0_24 hf H locs ls hH hS hl
    subst ek24
    obtain ⟨r24, hq24, hf_⟩ := ob_e hf; clear hf; have hf := hf_; clear hf_
    rcases r24 with e8 | v24_
    · have hq := Option.some.inj hf; subst hq
      refine gGoXV (gRunSX X Z hH hS (As := [.int (iI xs0_24)]) (m_X11_checkArgument l hl0 G xs0_24 bxs0_24 M0 _ hq24) calX11_checkArgument k_485 k_484 ⟨by decide, by decide⟩ rfl hl rfl (Nat.le_of_ble_eq_true rfl) ⟨Nat.le_of_ble_eq_true rfl, Nat.le_of_ble_eq_true rfl⟩ dX11_write_24) hS (fun E ce q9 H locs hE hH hS h1 h2 h3 => ?_) (fun H locs hok hH hS => ?_)
      · exact gOutX X hnt (by obtain ⟨e7, h7, h8⟩ := hE; exact ⟨e7, congrArg _ (Sum.inl.inj h7), h8⟩) hH hS h1 h2 h3 ⟨Nat.le_of_ble_eq_true rfl, Nat.le_of_ble_eq_true rfl⟩
      · obtain ⟨z, hz⟩ := hok; cases hz
    · replace hf := ox_i hf
      refine gGoXV (gRunSX X Z hH hS (As := [.int (iI xs0_24)]) (m_X11_checkArgument l hl0 G xs0_24 bxs0_24 M0 _ hq24) calX11_checkArgument k_485 k_484 ⟨by decide, by decide⟩ rfl hl rfl (Nat.le_of_ble_eq_true rfl) ⟨Nat.le_of_ble_eq_true rfl, Nat.le_of_ble_eq_true rfl⟩ dX11_write_24) hS (fun E ce q9 H locs hE hH hS h1 h2 h3 => ?_) (fun H locs _ hH hS => ?_)
      · obtain ⟨e7, h7, h8⟩ := hE; cases h7
      · refine lv_aload_n X.1 X.2.1 dX11_write_27 rfl (lv_at hl.1 0 rfl) ?_
        refine g_get X cX11 hH (r := 0) (i := 0) (by decide) rfl 0 (by decide) k_441 rfl (v := .ref (gAd G 1 0)) rfl dX11_write_28 ?_
        refine lv_iload_n X.1 X.2.1 dX11_write_31 rfl (lv_at hl.1 1 rfl) ?_
        refine lv_iload_n X.1 X.2.1 dX11_write_32 rfl (lv_at hl.1 2 rfl) ?_
        obtain ⟨r33, hq33, hf_⟩ := ob_e hf; clear hf; have hf := hf_; clear hf_
        refine gGoI (gRunV X hH (As := [.int (iI v1), .int (iI v2)]) (m_X7_rewrite l G v1 nv1 v2 nv2 M0 _ hq33) calX7_rewrite k_556 k_557 k_555 (by decide) cX7 rfl ⟨by decide, by decide⟩ rfl hl rfl (Nat.le_of_ble_eq_true rfl) ⟨Nat.le_of_ble_eq_true rfl, Nat.le_of_ble_eq_true rfl⟩ dX11_write_33) hS (fun H locs nr33 hH hS => ?_)
        have hq := Option.some.inj hf; subst hq
        exact gRetXI X hH hS ⟨_, rfl⟩ (res := r33.1) nr33 ⟨Nat.le_of_ble_eq_true rfl, Nat.le_of_ble_eq_true rfl⟩ dX11_write_36
  clear ek24
  obtain ⟨k23, ek23, hf_⟩ := oj_e hf; clear hf; have hf := hf_; clear hf_
  have hk23 : k23 = some q → ∀ (H : Heap) (locs : List Loc) (ls : Array Slot), gH G M0 H → va_S (gA G) s.heap H locs → gLv ls 3 [(0, .ref (gAd G 0 0)), (1, .int (iI v1)), (2, .int (iI v2))] → W p l e { frames := 7, cells := 1, slots := 6, locals := 110 } s m args below meth c H locs 0 0 (vx_MQ below (gXi G (∃ z, q = Sum.inr z) (gvP q).1 (gvP q).2) (gXC G (fun e9 => q = Sum.inl e9) M0) args s 1 6 (gA G)) (F0 m 23 ls []) := by
    intro  hf H locs ls hH hS hl
    subst ek23
    refine lv_iconst X.1 X.2.1 dX11_write_23 (v := iI 0) rfl ?_
    exact hk24 0 (by decide) hf _ _ _ hH hS (gLv_sub hl [0, 1, 2] rfl)
  clear ek23
  refine g_if_eq X (nmI_b br3) (tgt := 23) dX11_write_6 (by decide) (fun hc6 => ?_) (fun hc6 => ?_)
  · replace hf := it_t hf hc6
    exact hk23  hf _ _ _ hH hS (gLv_sub hl [0, 1, 2] rfl)
  · replace hf := it_f hf hc6
    refine lv_iload_n X.1 X.2.1 dX11_write_9 rfl (lv_at hl.1 2 rfl) ?_
    refine lv_sipush X.1 X.2.1 dX11_write_10 (v := iI 1000) (by decide) ?_
    refine gGoZ (gRunS X hH (As := [.int (iI v2), .int (iI 1000)]) (m_X11_isBelow l G v2 nv2 1000 (nmI_l (by decide)) M0 _ rfl) calX11_isBelow k_482 k_481 ⟨by decide, by decide⟩ rfl hl rfl (Nat.le_of_ble_eq_true rfl) ⟨Nat.le_of_ble_eq_true rfl, Nat.le_of_ble_eq_true rfl⟩ dX11_write_13) hS (fun H locs br13 hH hS => ?_)
    refine g_if_eq X (nmI_b br13) (tgt := 23) dX11_write_16 (by decide) (fun hc16 => ?_) (fun hc16 => ?_)
    · replace hf := it_t hf hc16
      exact hk23  hf _ _ _ hH hS (gLv_sub hl [0, 1, 2] rfl)
    · replace hf := it_f hf hc16
      refine lv_iconst X.1 X.2.1 dX11_write_19 (v := iI 1) rfl ?_
      refine lv_goto (tgt := 24) X.1 X.2.1 dX11_write_20 (by decide) ?_
      exact hk24 1 (by decide) hf _ _ _ hH hS (gLv_sub hl [0, 1, 2] rfl)
theorem m_X11_checkState (l : Launch) (hl0 : l.stackTraces = false) (G : gG) (v0 : Int) (bv0 : v0 = 0 ∨ v0 = 1) (M0 : gM) (q : (Nat ⊕ Unit)) (hf : f_X11_checkState v0 M0 = some q) : gXMet l yX11_checkState cX11_checkState 1 none 6 90 1 6 G M0 [.int (iI v0)] (gXv G (∃ z, q = Sum.inr z) M0) (fun e9 => q = Sum.inl e9) := by
  refine gOfX (by decide) (by show _ ≤ 1; exact Nat.le_of_ble_eq_true rfl) rfl ?_
  intro p e s m below meth c X Z hnt hH ls hl
  replace hl : gLv ls 1 [(0, .int (iI v0))] := hl
  have hS : va_S (gA G) s.heap s.heap [] := va_S.rf
  generalize hargs : ([.int (iI v0)] : List Value).toArray = args at X ⊢
  clear hargs
  unfold f_X11_checkState at hf
  refine lv_iload_n X.1 X.2.1 dX11_checkState_0 rfl (lv_at hl.1 0 rfl) ?_
  refine g_if_ne X (nmI_b bv0) (tgt := 15) dX11_checkState_1 (by decide) (fun hc1 => ?_) (fun hc1 => ?_)
  · replace hf := it_f hf hc1
    have hq := Option.some.inj hf; subst hq
    exact gRetXV X hH hS ⟨_, rfl⟩ ⟨Nat.le_of_ble_eq_true rfl, Nat.le_of_ble_eq_true rfl⟩ dX11_checkState_15
  · replace hf := it_t hf hc1
    have hq := Option.some.inj hf; subst hq
    exact gThrowW hl0 X Z hnt hH hS hl (e9 := 3) (by decide) k_585 k_48 (List.mem_of_getElem? (i := 1) rfl) gAt_282 dX11_checkState_4 dX11_checkState_7 dX11_checkState_8 dX11_checkState_11 dX11_checkState_14 (by decide) (by decide) ⟨by decide, by decide⟩ ⟨by decide, by decide⟩ rfl
theorem m_X11_set (l : Launch) (hl0 : l.stackTraces = false) (G : gG) (v1 : Int) (nv1 : nmI v1) (v2 : Int) (nv2 : nmI v2) (M0 : gM) (q : (Nat ⊕ (Int × gM))) (hf : f_X11_set v1 v2 M0 = some q) : gXMet l yX11_set cX11_set 3 (some .int) 7 110 2 12 G M0 [.ref (gAd G 0 0), .int (iI v1), .int (iI v2)] (gXi G (∃ z, q = Sum.inr z) (gvP q).1 (gvP q).2) (fun e9 => q = Sum.inl e9) := by
  refine gOfX (by decide) (by show _ ≤ 3; exact Nat.le_of_ble_eq_true rfl) rfl ?_
  intro p e s m below meth c X Z hnt hH ls hl
  replace hl : gLv ls 3 [(0, .ref (gAd G 0 0)), (1, .int (iI v1)), (2, .int (iI v2))] := hl
  have hS : va_S (gA G) s.heap s.heap [] := va_S.rf
  generalize hargs : ([.ref (gAd G 0 0), .int (iI v1), .int (iI v2)] : List Value).toArray = args at X ⊢
  clear hargs
  unfold f_X11_set at hf
  refine lv_iload_n X.1 X.2.1 dX11_set_0 rfl (lv_at hl.1 1 rfl) ?_
  refine lv_iconst X.1 X.2.1 dX11_set_1 (v := iI 4) rfl ?_
  refine gGoZ (gRunS X hH (As := [.int (iI v1), .int (iI 4)]) (m_X11_isBelow l G v1 nv1 4 (nmI_l (by decide)) M0 _ rfl) calX11_isBelow k_482 k_481 ⟨by decide, by decide⟩ rfl hl rfl (Nat.le_of_ble_eq_true rfl) ⟨Nat.le_of_ble_eq_true rfl, Nat.le_of_ble_eq_true rfl⟩ dX11_set_2) hS (fun H locs br2 hH hS => ?_)
  obtain ⟨k22, ek22, hf_⟩ := oj_e hf; clear hf; have hf := hf_; clear hf_
  have hk22 : ∀ (xs0_22 : Int) (bxs0_22 : xs0_22 = 0 ∨ xs0_22 = 1), k22 xs0_22 = some q → ∀ (H : Heap) (locs : List Loc) (ls : Array Slot), gH G M0 H → va_S (gA G) s.heap H locs → gLv ls 3 [(0, .ref (gAd G 0 0)), (1, .int (iI v1)), (2, .int (iI v2))] → W p l e { frames := 7, cells := 2, slots := 12, locals := 110 } s m args below meth c H locs 0 0 (vx_MQ below (gXi G (∃ z, q = Sum.inr z) (gvP q).1 (gvP q).2) (gXC G (fun e9 => q = Sum.inl e9) M0) args s 2 12 (gA G)) (F0 m 22 ls [.int (iI xs0_22)]) := by
    intro xs0_22 bxs0_22 hf H locs ls hH hS hl
    subst ek22
    obtain ⟨r22, hq22, hf_⟩ := ob_e hf; clear hf; have hf := hf_; clear hf_
    rcases r22 with e8 | v22_
    · have hq := Option.some.inj hf; subst hq
      refine gGoXV (gRunSX X Z hH hS (As := [.int (iI xs0_22)]) (m_X11_checkArgument l hl0 G xs0_22 bxs0_22 M0 _ hq22) calX11_checkArgument k_485 k_484 ⟨by decide, by decide⟩ rfl hl rfl (Nat.le_of_ble_eq_true rfl) ⟨Nat.le_of_ble_eq_true rfl, Nat.le_of_ble_eq_true rfl⟩ dX11_set_22) hS (fun E ce q9 H locs hE hH hS h1 h2 h3 => ?_) (fun H locs hok hH hS => ?_)
      · exact gOutX X hnt (by obtain ⟨e7, h7, h8⟩ := hE; exact ⟨e7, congrArg _ (Sum.inl.inj h7), h8⟩) hH hS h1 h2 h3 ⟨Nat.le_of_ble_eq_true rfl, Nat.le_of_ble_eq_true rfl⟩
      · obtain ⟨z, hz⟩ := hok; cases hz
    · replace hf := ox_i hf
      refine gGoXV (gRunSX X Z hH hS (As := [.int (iI xs0_22)]) (m_X11_checkArgument l hl0 G xs0_22 bxs0_22 M0 _ hq22) calX11_checkArgument k_485 k_484 ⟨by decide, by decide⟩ rfl hl rfl (Nat.le_of_ble_eq_true rfl) ⟨Nat.le_of_ble_eq_true rfl, Nat.le_of_ble_eq_true rfl⟩ dX11_set_22) hS (fun E ce q9 H locs hE hH hS h1 h2 h3 => ?_) (fun H locs _ hH hS => ?_)
      · obtain ⟨e7, h7, h8⟩ := hE; cases h7
      · refine lv_aload_n X.1 X.2.1 dX11_set_25 rfl (lv_at hl.1 0 rfl) ?_
        refine g_get X cX11 hH (r := 0) (i := 0) (by decide) rfl 3 (by decide) k_444 rfl (v := .ref (gAd G 4 0)) rfl dX11_set_26 ?_
        have nd29 : nmI (M0 4 0 8) := hH.1.1 _ _ _
        have bd29 := hH.1.2.1 4 0 8 rfl
        refine g_get X cX2 hH (r := 4) (i := 0) (by decide) rfl 8 (by decide) k_391 rfl (v := .int (iI (M0 4 0 8))) rfl dX11_set_29 ?_
        obtain ⟨k40, ek40, hf_⟩ := oj_e hf; clear hf; have hf := hf_; clear hf_
        have hk40 : ∀ (xs0_40 : Int) (bxs0_40 : xs0_40 = 0 ∨ xs0_40 = 1), k40 xs0_40 = some q → ∀ (H : Heap) (locs : List Loc) (ls : Array Slot), gH G M0 H → va_S (gA G) s.heap H locs → gLv ls 3 [(0, .ref (gAd G 0 0)), (1, .int (iI v1)), (2, .int (iI v2))] → W p l e { frames := 7, cells := 2, slots := 12, locals := 110 } s m args below meth c H locs 1 6 (vx_MQ below (gXi G (∃ z, q = Sum.inr z) (gvP q).1 (gvP q).2) (gXC G (fun e9 => q = Sum.inl e9) M0) args s 2 12 (gA G)) (F0 m 40 ls [.int (iI xs0_40)]) := by
          intro xs0_40 bxs0_40 hf H locs ls hH hS hl
          subst ek40
          obtain ⟨r40, hq40, hf_⟩ := ob_e hf; clear hf; have hf := hf_; clear hf_
          rcases r40 with e8 | v40_
          · have hq := Option.some.inj hf; subst hq
            refine gGoXV (gRunSX X Z hH hS (As := [.int (iI xs0_40)]) (m_X11_checkState l hl0 G xs0_40 bxs0_40 M0 _ hq40) calX11_checkState k_583 k_582 ⟨by decide, by decide⟩ rfl hl rfl (Nat.le_of_ble_eq_true rfl) ⟨Nat.le_of_ble_eq_true rfl, Nat.le_of_ble_eq_true rfl⟩ dX11_set_40) hS (fun E ce q9 H locs hE hH hS h1 h2 h3 => ?_) (fun H locs hok hH hS => ?_)
            · exact gOutX X hnt (by obtain ⟨e7, h7, h8⟩ := hE; exact ⟨e7, congrArg _ (Sum.inl.inj h7), h8⟩) hH hS h1 h2 h3 ⟨Nat.le_of_ble_eq_true rfl, Nat.le_of_ble_eq_true rfl⟩
            · obtain ⟨z, hz⟩ := hok; cases hz
          · replace hf := ox_i hf
            refine gGoXV (gRunSX X Z hH hS (As := [.int (iI xs0_40)]) (m_X11_checkState l hl0 G xs0_40 bxs0_40 M0 _ hq40) calX11_checkState k_583 k_582 ⟨by decide, by decide⟩ rfl hl rfl (Nat.le_of_ble_eq_true rfl) ⟨Nat.le_of_ble_eq_true rfl, Nat.le_of_ble_eq_true rfl⟩ dX11_set_40) hS (fun E ce q9 H locs hE hH hS h1 h2 h3 => ?_) (fun H locs _ hH hS => ?_)
            · obtain ⟨e7, h7, h8⟩ := hE; cases h7
            · refine lv_aload_n X.1 X.2.1 dX11_set_43 rfl (lv_at hl.1 0 rfl) ?_
              refine g_get X cX11 hH (r := 0) (i := 0) (by decide) rfl 0 (by decide) k_441 rfl (v := .ref (gAd G 1 0)) rfl dX11_set_44 ?_
              refine g_get X cX7 hH (r := 1) (i := 0) (by decide) rfl 1 (by decide) k_67 rfl (v := .ref (gAd G 13 0)) rfl dX11_set_47 ?_
              refine lv_iload_n X.1 X.2.1 dX11_set_50 rfl (lv_at hl.1 1 rfl) ?_
              refine lv_iload_n X.1 X.2.1 dX11_set_51 rfl (lv_at hl.1 2 rfl) ?_
              refine gGoI (gRunS X hH (As := [.ref (gAd G 13 0), .int (iI v1), .int (iI v2)]) (m_X11_exchange l G 13 0 4 (by decide) gArr_13 v1 nv1 v2 nv2 M0 _ rfl) calX11_exchange k_560 k_601 ⟨by decide, by decide⟩ rfl hl rfl (Nat.le_of_ble_eq_true rfl) ⟨Nat.le_of_ble_eq_true rfl, Nat.le_of_ble_eq_true rfl⟩ dX11_set_52) hS (fun H locs nr52 hH hS => ?_)
              have hq := Option.some.inj hf; subst hq
              exact gRetXI X hH hS ⟨_, rfl⟩ (res := (f_X11_exchange 13 0 4 v1 v2 M0).1) nr52 ⟨Nat.le_of_ble_eq_true rfl, Nat.le_of_ble_eq_true rfl⟩ dX11_set_55
        clear ek40
        refine g_if_ne X nd29 (tgt := 39) dX11_set_32 (by decide) (fun hc32 => ?_) (fun hc32 => ?_)
        · replace hf := it_f hf hc32
          refine lv_iconst X.1 X.2.1 dX11_set_39 (v := iI 0) rfl ?_
          exact hk40 0 (by decide) hf _ _ _ hH hS (gLv_sub hl [0, 1, 2] rfl)
        · replace hf := it_t hf hc32
          refine lv_iconst X.1 X.2.1 dX11_set_35 (v := iI 1) rfl ?_
          refine lv_goto (tgt := 40) X.1 X.2.1 dX11_set_36 (by decide) ?_
          exact hk40 1 (by decide) hf _ _ _ hH hS (gLv_sub hl [0, 1, 2] rfl)
  clear ek22
  obtain ⟨k21, ek21, hf_⟩ := oj_e hf; clear hf; have hf := hf_; clear hf_
  have hk21 : k21 = some q → ∀ (H : Heap) (locs : List Loc) (ls : Array Slot), gH G M0 H → va_S (gA G) s.heap H locs → gLv ls 3 [(0, .ref (gAd G 0 0)), (1, .int (iI v1)), (2, .int (iI v2))] → W p l e { frames := 7, cells := 2, slots := 12, locals := 110 } s m args below meth c H locs 0 0 (vx_MQ below (gXi G (∃ z, q = Sum.inr z) (gvP q).1 (gvP q).2) (gXC G (fun e9 => q = Sum.inl e9) M0) args s 2 12 (gA G)) (F0 m 21 ls []) := by
    intro  hf H locs ls hH hS hl
    subst ek21
    refine lv_iconst X.1 X.2.1 dX11_set_21 (v := iI 0) rfl ?_
    exact hk22 0 (by decide) hf _ _ _ hH hS (gLv_sub hl [0, 1, 2] rfl)
  clear ek21
  refine g_if_eq X (nmI_b br2) (tgt := 21) dX11_set_5 (by decide) (fun hc5 => ?_) (fun hc5 => ?_)
  · replace hf := it_t hf hc5
    exact hk21  hf _ _ _ hH hS (gLv_sub hl [0, 1, 2] rfl)
  · replace hf := it_f hf hc5
    refine lv_iload_n X.1 X.2.1 dX11_set_8 rfl (lv_at hl.1 2 rfl) ?_
    refine lv_bipush X.1 X.2.1 dX11_set_9 (v := iI 10) (by decide) ?_
    refine gGoZ (gRunS X hH (As := [.int (iI v2), .int (iI 10)]) (m_X11_isBelow l G v2 nv2 10 (nmI_l (by decide)) M0 _ rfl) calX11_isBelow k_482 k_481 ⟨by decide, by decide⟩ rfl hl rfl (Nat.le_of_ble_eq_true rfl) ⟨Nat.le_of_ble_eq_true rfl, Nat.le_of_ble_eq_true rfl⟩ dX11_set_11) hS (fun H locs br11 hH hS => ?_)
    refine g_if_eq X (nmI_b br11) (tgt := 21) dX11_set_14 (by decide) (fun hc14 => ?_) (fun hc14 => ?_)
    · replace hf := it_t hf hc14
      exact hk21  hf _ _ _ hH hS (gLv_sub hl [0, 1, 2] rfl)
    · replace hf := it_f hf hc14
      refine lv_iconst X.1 X.2.1 dX11_set_17 (v := iI 1) rfl ?_
      refine lv_goto (tgt := 22) X.1 X.2.1 dX11_set_18 (by decide) ?_
      exact hk22 1 (by decide) hf _ _ _ hH hS (gLv_sub hl [0, 1, 2] rfl)
theorem m_X11_setTool (l : Launch) (hl0 : l.stackTraces = false) (G : gG) (v1 : Int) (nv1 : nmI v1) (v2 : Int) (nv2 : nmI v2) (M0 : gM) (q : (Nat ⊕ (Int × gM))) (hf : f_X11_setTool v1 v2 M0 = some q) : gXMet l yX11_setTool cX11_setTool 3 (some .int) 7 110 2 12 G M0 [.ref (gAd G 0 0), .int (iI v1), .int (iI v2)] (gXi G (∃ z, q = Sum.inr z) (gvP q).1 (gvP q).2) (fun e9 => q = Sum.inl e9) := by
  refine gOfX (by decide) (by show _ ≤ 3; exact Nat.le_of_ble_eq_true rfl) rfl ?_
  intro p e s m below meth c X Z hnt hH ls hl
  replace hl : gLv ls 3 [(0, .ref (gAd G 0 0)), (1, .int (iI v1)), (2, .int (iI v2))] := hl
  have hS : va_S (gA G) s.heap s.heap [] := va_S.rf
  generalize hargs : ([.ref (gAd G 0 0), .int (iI v1), .int (iI v2)] : List Value).toArray = args at X ⊢
  clear hargs
  unfold f_X11_setTool at hf
  refine lv_iload_n X.1 X.2.1 dX11_setTool_0 rfl (lv_at hl.1 1 rfl) ?_
  refine lv_iconst X.1 X.2.1 dX11_setTool_1 (v := iI 4) rfl ?_
  refine gGoZ (gRunS X hH (As := [.int (iI v1), .int (iI 4)]) (m_X11_isBelow l G v1 nv1 4 (nmI_l (by decide)) M0 _ rfl) calX11_isBelow k_482 k_481 ⟨by decide, by decide⟩ rfl hl rfl (Nat.le_of_ble_eq_true rfl) ⟨Nat.le_of_ble_eq_true rfl, Nat.le_of_ble_eq_true rfl⟩ dX11_setTool_2) hS (fun H locs br2 hH hS => ?_)
  obtain ⟨k22, ek22, hf_⟩ := oj_e hf; clear hf; have hf := hf_; clear hf_
  have hk22 : ∀ (xs0_22 : Int) (bxs0_22 : xs0_22 = 0 ∨ xs0_22 = 1), k22 xs0_22 = some q → ∀ (H : Heap) (locs : List Loc) (ls : Array Slot), gH G M0 H → va_S (gA G) s.heap H locs → gLv ls 3 [(0, .ref (gAd G 0 0)), (1, .int (iI v1)), (2, .int (iI v2))] → W p l e { frames := 7, cells := 2, slots := 12, locals := 110 } s m args below meth c H locs 0 0 (vx_MQ below (gXi G (∃ z, q = Sum.inr z) (gvP q).1 (gvP q).2) (gXC G (fun e9 => q = Sum.inl e9) M0) args s 2 12 (gA G)) (F0 m 22 ls [.int (iI xs0_22)]) := by
    intro xs0_22 bxs0_22 hf H locs ls hH hS hl
    subst ek22
    obtain ⟨r22, hq22, hf_⟩ := ob_e hf; clear hf; have hf := hf_; clear hf_
    rcases r22 with e8 | v22_
    · have hq := Option.some.inj hf; subst hq
      refine gGoXV (gRunSX X Z hH hS (As := [.int (iI xs0_22)]) (m_X11_checkArgument l hl0 G xs0_22 bxs0_22 M0 _ hq22) calX11_checkArgument k_485 k_484 ⟨by decide, by decide⟩ rfl hl rfl (Nat.le_of_ble_eq_true rfl) ⟨Nat.le_of_ble_eq_true rfl, Nat.le_of_ble_eq_true rfl⟩ dX11_setTool_22) hS (fun E ce q9 H locs hE hH hS h1 h2 h3 => ?_) (fun H locs hok hH hS => ?_)
      · exact gOutX X hnt (by obtain ⟨e7, h7, h8⟩ := hE; exact ⟨e7, congrArg _ (Sum.inl.inj h7), h8⟩) hH hS h1 h2 h3 ⟨Nat.le_of_ble_eq_true rfl, Nat.le_of_ble_eq_true rfl⟩
      · obtain ⟨z, hz⟩ := hok; cases hz
    · replace hf := ox_i hf
      refine gGoXV (gRunSX X Z hH hS (As := [.int (iI xs0_22)]) (m_X11_checkArgument l hl0 G xs0_22 bxs0_22 M0 _ hq22) calX11_checkArgument k_485 k_484 ⟨by decide, by decide⟩ rfl hl rfl (Nat.le_of_ble_eq_true rfl) ⟨Nat.le_of_ble_eq_true rfl, Nat.le_of_ble_eq_true rfl⟩ dX11_setTool_22) hS (fun E ce q9 H locs hE hH hS h1 h2 h3 => ?_) (fun H locs _ hH hS => ?_)
      · obtain ⟨e7, h7, h8⟩ := hE; cases h7
      · refine lv_aload_n X.1 X.2.1 dX11_setTool_25 rfl (lv_at hl.1 0 rfl) ?_
        refine g_get X cX11 hH (r := 0) (i := 0) (by decide) rfl 3 (by decide) k_444 rfl (v := .ref (gAd G 4 0)) rfl dX11_setTool_26 ?_
        have nd29 : nmI (M0 4 0 8) := hH.1.1 _ _ _
        have bd29 := hH.1.2.1 4 0 8 rfl
        refine g_get X cX2 hH (r := 4) (i := 0) (by decide) rfl 8 (by decide) k_391 rfl (v := .int (iI (M0 4 0 8))) rfl dX11_setTool_29 ?_
        obtain ⟨k40, ek40, hf_⟩ := oj_e hf; clear hf; have hf := hf_; clear hf_
        have hk40 : ∀ (xs0_40 : Int) (bxs0_40 : xs0_40 = 0 ∨ xs0_40 = 1), k40 xs0_40 = some q → ∀ (H : Heap) (locs : List Loc) (ls : Array Slot), gH G M0 H → va_S (gA G) s.heap H locs → gLv ls 3 [(0, .ref (gAd G 0 0)), (1, .int (iI v1)), (2, .int (iI v2))] → W p l e { frames := 7, cells := 2, slots := 12, locals := 110 } s m args below meth c H locs 1 6 (vx_MQ below (gXi G (∃ z, q = Sum.inr z) (gvP q).1 (gvP q).2) (gXC G (fun e9 => q = Sum.inl e9) M0) args s 2 12 (gA G)) (F0 m 40 ls [.int (iI xs0_40)]) := by
          intro xs0_40 bxs0_40 hf H locs ls hH hS hl
          subst ek40
          obtain ⟨r40, hq40, hf_⟩ := ob_e hf; clear hf; have hf := hf_; clear hf_
          rcases r40 with e8 | v40_
          · have hq := Option.some.inj hf; subst hq
            refine gGoXV (gRunSX X Z hH hS (As := [.int (iI xs0_40)]) (m_X11_checkState l hl0 G xs0_40 bxs0_40 M0 _ hq40) calX11_checkState k_583 k_582 ⟨by decide, by decide⟩ rfl hl rfl (Nat.le_of_ble_eq_true rfl) ⟨Nat.le_of_ble_eq_true rfl, Nat.le_of_ble_eq_true rfl⟩ dX11_setTool_40) hS (fun E ce q9 H locs hE hH hS h1 h2 h3 => ?_) (fun H locs hok hH hS => ?_)
            · exact gOutX X hnt (by obtain ⟨e7, h7, h8⟩ := hE; exact ⟨e7, congrArg _ (Sum.inl.inj h7), h8⟩) hH hS h1 h2 h3 ⟨Nat.le_of_ble_eq_true rfl, Nat.le_of_ble_eq_true rfl⟩
            · obtain ⟨z, hz⟩ := hok; cases hz
          · replace hf := ox_i hf
            refine gGoXV (gRunSX X Z hH hS (As := [.int (iI xs0_40)]) (m_X11_checkState l hl0 G xs0_40 bxs0_40 M0 _ hq40) calX11_checkState k_583 k_582 ⟨by decide, by decide⟩ rfl hl rfl (Nat.le_of_ble_eq_true rfl) ⟨Nat.le_of_ble_eq_true rfl, Nat.le_of_ble_eq_true rfl⟩ dX11_setTool_40) hS (fun E ce q9 H locs hE hH hS h1 h2 h3 => ?_) (fun H locs _ hH hS => ?_)
            · obtain ⟨e7, h7, h8⟩ := hE; cases h7
            · refine lv_aload_n X.1 X.2.1 dX11_setTool_43 rfl (lv_at hl.1 0 rfl) ?_
              refine g_get X cX11 hH (r := 0) (i := 0) (by decide) rfl 0 (by decide) k_441 rfl (v := .ref (gAd G 1 0)) rfl dX11_setTool_44 ?_
              refine g_get X cX7 hH (r := 1) (i := 0) (by decide) rfl 2 (by decide) k_70 rfl (v := .ref (gAd G 14 0)) rfl dX11_setTool_47 ?_
              refine lv_iload_n X.1 X.2.1 dX11_setTool_50 rfl (lv_at hl.1 1 rfl) ?_
              refine lv_iload_n X.1 X.2.1 dX11_setTool_51 rfl (lv_at hl.1 2 rfl) ?_
              refine gGoI (gRunS X hH (As := [.ref (gAd G 14 0), .int (iI v1), .int (iI v2)]) (m_X11_exchange l G 14 0 4 (by decide) gArr_14 v1 nv1 v2 nv2 M0 _ rfl) calX11_exchange k_560 k_601 ⟨by decide, by decide⟩ rfl hl rfl (Nat.le_of_ble_eq_true rfl) ⟨Nat.le_of_ble_eq_true rfl, Nat.le_of_ble_eq_true rfl⟩ dX11_setTool_52) hS (fun H locs nr52 hH hS => ?_)
              have hq := Option.some.inj hf; subst hq
              exact gRetXI X hH hS ⟨_, rfl⟩ (res := (f_X11_exchange 14 0 4 v1 v2 M0).1) nr52 ⟨Nat.le_of_ble_eq_true rfl, Nat.le_of_ble_eq_true rfl⟩ dX11_setTool_55
        clear ek40
        refine g_if_ne X nd29 (tgt := 39) dX11_setTool_32 (by decide) (fun hc32 => ?_) (fun hc32 => ?_)
        · replace hf := it_f hf hc32
          refine lv_iconst X.1 X.2.1 dX11_setTool_39 (v := iI 0) rfl ?_
          exact hk40 0 (by decide) hf _ _ _ hH hS (gLv_sub hl [0, 1, 2] rfl)
        · replace hf := it_t hf hc32
          refine lv_iconst X.1 X.2.1 dX11_setTool_35 (v := iI 1) rfl ?_
          refine lv_goto (tgt := 40) X.1 X.2.1 dX11_setTool_36 (by decide) ?_
          exact hk40 1 (by decide) hf _ _ _ hH hS (gLv_sub hl [0, 1, 2] rfl)
  clear ek22
  obtain ⟨k21, ek21, hf_⟩ := oj_e hf; clear hf; have hf := hf_; clear hf_
  have hk21 : k21 = some q → ∀ (H : Heap) (locs : List Loc) (ls : Array Slot), gH G M0 H → va_S (gA G) s.heap H locs → gLv ls 3 [(0, .ref (gAd G 0 0)), (1, .int (iI v1)), (2, .int (iI v2))] → W p l e { frames := 7, cells := 2, slots := 12, locals := 110 } s m args below meth c H locs 0 0 (vx_MQ below (gXi G (∃ z, q = Sum.inr z) (gvP q).1 (gvP q).2) (gXC G (fun e9 => q = Sum.inl e9) M0) args s 2 12 (gA G)) (F0 m 21 ls []) := by
    intro  hf H locs ls hH hS hl
    subst ek21
    refine lv_iconst X.1 X.2.1 dX11_setTool_21 (v := iI 0) rfl ?_
    exact hk22 0 (by decide) hf _ _ _ hH hS (gLv_sub hl [0, 1, 2] rfl)
  clear ek21
  refine g_if_eq X (nmI_b br2) (tgt := 21) dX11_setTool_5 (by decide) (fun hc5 => ?_) (fun hc5 => ?_)
  · replace hf := it_t hf hc5
    exact hk21  hf _ _ _ hH hS (gLv_sub hl [0, 1, 2] rfl)
  · replace hf := it_f hf hc5
    refine lv_iload_n X.1 X.2.1 dX11_setTool_8 rfl (lv_at hl.1 2 rfl) ?_
    refine lv_bipush X.1 X.2.1 dX11_setTool_9 (v := iI 10) (by decide) ?_
    refine gGoZ (gRunS X hH (As := [.int (iI v2), .int (iI 10)]) (m_X11_isBelow l G v2 nv2 10 (nmI_l (by decide)) M0 _ rfl) calX11_isBelow k_482 k_481 ⟨by decide, by decide⟩ rfl hl rfl (Nat.le_of_ble_eq_true rfl) ⟨Nat.le_of_ble_eq_true rfl, Nat.le_of_ble_eq_true rfl⟩ dX11_setTool_11) hS (fun H locs br11 hH hS => ?_)
    refine g_if_eq X (nmI_b br11) (tgt := 21) dX11_setTool_14 (by decide) (fun hc14 => ?_) (fun hc14 => ?_)
    · replace hf := it_t hf hc14
      exact hk21  hf _ _ _ hH hS (gLv_sub hl [0, 1, 2] rfl)
    · replace hf := it_f hf hc14
      refine lv_iconst X.1 X.2.1 dX11_setTool_17 (v := iI 1) rfl ?_
      refine lv_goto (tgt := 22) X.1 X.2.1 dX11_setTool_18 (by decide) ?_
      exact hk22 1 (by decide) hf _ _ _ hH hS (gLv_sub hl [0, 1, 2] rfl)
theorem m_X11_checkTarget (l : Launch) (hl0 : l.stackTraces = false) (G : gG) (v1 : Int) (nv1 : nmI v1) (M0 : gM) (q : (Nat ⊕ Unit)) (hf : f_X11_checkTarget v1 M0 = some q) : gXMet l yX11_checkTarget cX11_checkTarget 2 none 6 90 1 6 G M0 [.ref (gAd G 0 0), .int (iI v1)] (gXv G (∃ z, q = Sum.inr z) M0) (fun e9 => q = Sum.inl e9) := by
  refine gOfX (by decide) (by show _ ≤ 2; exact Nat.le_of_ble_eq_true rfl) rfl ?_
  intro p e s m below meth c X Z hnt hH ls hl
  replace hl : gLv ls 2 [(0, .ref (gAd G 0 0)), (1, .int (iI v1))] := hl
  have hS : va_S (gA G) s.heap s.heap [] := va_S.rf
  generalize hargs : ([.ref (gAd G 0 0), .int (iI v1)] : List Value).toArray = args at X ⊢
  clear hargs
  unfold f_X11_checkTarget at hf
  refine lv_iload_n X.1 X.2.1 dX11_checkTarget_0 rfl (lv_at hl.1 1 rfl) ?_
  refine lv_aload_n X.1 X.2.1 dX11_checkTarget_1 rfl (lv_at hl.1 0 rfl) ?_
  refine g_get X cX11 hH (r := 0) (i := 0) (by decide) rfl 1 (by decide) k_442 rfl (v := .ref (gAd G 2 0)) rfl dX11_checkTarget_2 ?_
  have nd5 : nmI (M0 2 0 5) := hH.1.1 _ _ _
  refine g_get X cX5 hH (r := 2) (i := 0) (by decide) rfl 5 (by decide) k_253 rfl (v := .int (iI (M0 2 0 5))) rfl dX11_checkTarget_5 ?_
  refine gGoZ (gRunS X hH (As := [.int (iI v1), .int (iI (M0 2 0 5))]) (m_X11_isBelow l G v1 nv1 (M0 2 0 5) nd5 M0 _ rfl) calX11_isBelow k_482 k_481 ⟨by decide, by decide⟩ rfl hl rfl (Nat.le_of_ble_eq_true rfl) ⟨Nat.le_of_ble_eq_true rfl, Nat.le_of_ble_eq_true rfl⟩ dX11_checkTarget_8) hS (fun H locs br8 hH hS => ?_)
  refine g_if_ne X (nmI_b br8) (tgt := 25) dX11_checkTarget_11 (by decide) (fun hc11 => ?_) (fun hc11 => ?_)
  · replace hf := it_f hf hc11
    have hq := Option.some.inj hf; subst hq
    exact gRetXV X hH hS ⟨_, rfl⟩ ⟨Nat.le_of_ble_eq_true rfl, Nat.le_of_ble_eq_true rfl⟩ dX11_checkTarget_25
  · replace hf := it_t hf hc11
    have hq := Option.some.inj hf; subst hq
    exact gThrowW hl0 X Z hnt hH hS hl (e9 := 2) (by decide) k_614 k_47 (List.mem_of_getElem? (i := 2) rfl) gAt_287 dX11_checkTarget_14 dX11_checkTarget_17 dX11_checkTarget_18 dX11_checkTarget_21 dX11_checkTarget_24 (by decide) (by decide) ⟨by decide, by decide⟩ ⟨by decide, by decide⟩ rfl
theorem m_X11_copy (l : Launch) (hl0 : l.stackTraces = false) (G : gG) (v1 : Int) (nv1 : nmI v1) (v2 : Int) (nv2 : nmI v2) (M0 : gM) (q : (Nat ⊕ (Int × gM))) (hf : f_X11_copy v1 v2 M0 = some q) : gXMet l yX11_copy cX11_copy 5 (some .int) 7 111 3 18 G M0 [.ref (gAd G 0 0), .int (iI v1), .int (iI v2)] (gXi G (∃ z, q = Sum.inr z) (gvP q).1 (gvP q).2) (fun e9 => q = Sum.inl e9) := by
  refine gOfX (by decide) (by show _ ≤ 5; exact Nat.le_of_ble_eq_true rfl) rfl ?_
  intro p e s m below meth c X Z hnt hH ls hl
  replace hl : gLv ls 5 [(0, .ref (gAd G 0 0)), (1, .int (iI v1)), (2, .int (iI v2))] := hl
  have hS : va_S (gA G) s.heap s.heap [] := va_S.rf
  generalize hargs : ([.ref (gAd G 0 0), .int (iI v1), .int (iI v2)] : List Value).toArray = args at X ⊢
  clear hargs
  unfold f_X11_copy at hf
  refine lv_aload_n X.1 X.2.1 dX11_copy_0 rfl (lv_at hl.1 0 rfl) ?_
  refine lv_iload_n X.1 X.2.1 dX11_copy_1 rfl (lv_at hl.1 1 rfl) ?_
  obtain ⟨r2, hq2, hf_⟩ := ob_e hf; clear hf; have hf := hf_; clear hf_
  rcases r2 with e8 | v2_
  · have hq := Option.some.inj hf; subst hq
    refine gGoXV (gRunVX X Z hH hS (As := [.int (iI v1)]) (m_X11_checkTarget l hl0 G v1 nv1 M0 _ hq2) calX11_checkTarget k_612 k_3 k_610 (by decide) cX11 rfl ⟨by decide, by decide⟩ rfl hl rfl (Nat.le_of_ble_eq_true rfl) ⟨Nat.le_of_ble_eq_true rfl, Nat.le_of_ble_eq_true rfl⟩ dX11_copy_2) hS (fun E ce q9 H locs hE hH hS h1 h2 h3 => ?_) (fun H locs hok hH hS => ?_)
    · exact gOutX X hnt (by obtain ⟨e7, h7, h8⟩ := hE; exact ⟨e7, congrArg _ (Sum.inl.inj h7), h8⟩) hH hS h1 h2 h3 ⟨Nat.le_of_ble_eq_true rfl, Nat.le_of_ble_eq_true rfl⟩
    · obtain ⟨z, hz⟩ := hok; cases hz
  · replace hf := ox_i hf
    refine gGoXV (gRunVX X Z hH hS (As := [.int (iI v1)]) (m_X11_checkTarget l hl0 G v1 nv1 M0 _ hq2) calX11_checkTarget k_612 k_3 k_610 (by decide) cX11 rfl ⟨by decide, by decide⟩ rfl hl rfl (Nat.le_of_ble_eq_true rfl) ⟨Nat.le_of_ble_eq_true rfl, Nat.le_of_ble_eq_true rfl⟩ dX11_copy_2) hS (fun E ce q9 H locs hE hH hS h1 h2 h3 => ?_) (fun H locs _ hH hS => ?_)
    · obtain ⟨e7, h7, h8⟩ := hE; cases h7
    · refine lv_iload_n X.1 X.2.1 dX11_copy_5 rfl (lv_at hl.1 2 rfl) ?_
      refine lv_bipush X.1 X.2.1 dX11_copy_6 (v := iI 10) (by decide) ?_
      refine gGoZ (gRunS X hH (As := [.int (iI v2), .int (iI 10)]) (m_X11_isBelow l G v2 nv2 10 (nmI_l (by decide)) M0 _ rfl) calX11_isBelow k_482 k_481 ⟨by decide, by decide⟩ rfl hl rfl (Nat.le_of_ble_eq_true rfl) ⟨Nat.le_of_ble_eq_true rfl, Nat.le_of_ble_eq_true rfl⟩ dX11_copy_8) hS (fun H locs br8 hH hS => ?_)
      obtain ⟨r11, hq11, hf_⟩ := ob_e hf; clear hf; have hf := hf_; clear hf_
      rcases r11 with e8 | v11_
      · have hq := Option.some.inj hf; subst hq
        refine gGoXV (gRunSX X Z hH hS (As := [.int (iI ((f_X11_isBelow v2 10 M0)))]) (m_X11_checkArgument l hl0 G ((f_X11_isBelow v2 10 M0)) br8 M0 _ hq11) calX11_checkArgument k_485 k_484 ⟨by decide, by decide⟩ rfl hl rfl (Nat.le_of_ble_eq_true rfl) ⟨Nat.le_of_ble_eq_true rfl, Nat.le_of_ble_eq_true rfl⟩ dX11_copy_11) hS (fun E ce q9 H locs hE hH hS h1 h2 h3 => ?_) (fun H locs hok hH hS => ?_)
        · exact gOutX X hnt (by obtain ⟨e7, h7, h8⟩ := hE; exact ⟨e7, congrArg _ (Sum.inl.inj h7), h8⟩) hH hS h1 h2 h3 ⟨Nat.le_of_ble_eq_true rfl, Nat.le_of_ble_eq_true rfl⟩
        · obtain ⟨z, hz⟩ := hok; cases hz
      · replace hf := ox_i hf
        refine gGoXV (gRunSX X Z hH hS (As := [.int (iI ((f_X11_isBelow v2 10 M0)))]) (m_X11_checkArgument l hl0 G ((f_X11_isBelow v2 10 M0)) br8 M0 _ hq11) calX11_checkArgument k_485 k_484 ⟨by decide, by decide⟩ rfl hl rfl (Nat.le_of_ble_eq_true rfl) ⟨Nat.le_of_ble_eq_true rfl, Nat.le_of_ble_eq_true rfl⟩ dX11_copy_11) hS (fun E ce q9 H locs hE hH hS h1 h2 h3 => ?_) (fun H locs _ hH hS => ?_)
        · obtain ⟨e7, h7, h8⟩ := hE; cases h7
        · refine lv_aload_n X.1 X.2.1 dX11_copy_14 rfl (lv_at hl.1 0 rfl) ?_
          refine g_get X cX11 hH (r := 0) (i := 0) (by decide) rfl 3 (by decide) k_444 rfl (v := .ref (gAd G 4 0)) rfl dX11_copy_15 ?_
          have nd18 : nmI (M0 4 0 8) := hH.1.1 _ _ _
          have bd18 := hH.1.2.1 4 0 8 rfl
          refine g_get X cX2 hH (r := 4) (i := 0) (by decide) rfl 8 (by decide) k_391 rfl (v := .int (iI (M0 4 0 8))) rfl dX11_copy_18 ?_
          obtain ⟨k41, ek41, hf_⟩ := oj_e hf; clear hf; have hf := hf_; clear hf_
          have hk41 : ∀ (xs0_41 : Int) (bxs0_41 : xs0_41 = 0 ∨ xs0_41 = 1), k41 xs0_41 = some q → ∀ (H : Heap) (locs : List Loc) (ls : Array Slot), gH G M0 H → va_S (gA G) s.heap H locs → gLv ls 5 [(0, .ref (gAd G 0 0)), (1, .int (iI v1)), (2, .int (iI v2))] → W p l e { frames := 7, cells := 3, slots := 18, locals := 111 } s m args below meth c H locs 2 12 (vx_MQ below (gXi G (∃ z, q = Sum.inr z) (gvP q).1 (gvP q).2) (gXC G (fun e9 => q = Sum.inl e9) M0) args s 3 18 (gA G)) (F0 m 41 ls [.int (iI xs0_41)]) := by
            intro xs0_41 bxs0_41 hf H locs ls hH hS hl
            subst ek41
            obtain ⟨r41, hq41, hf_⟩ := ob_e hf; clear hf; have hf := hf_; clear hf_
            rcases r41 with e8 | v41_
            · have hq := Option.some.inj hf; subst hq
              refine gGoXV (gRunSX X Z hH hS (As := [.int (iI xs0_41)]) (m_X11_checkState l hl0 G xs0_41 bxs0_41 M0 _ hq41) calX11_checkState k_583 k_582 ⟨by decide, by decide⟩ rfl hl rfl (Nat.le_of_ble_eq_true rfl) ⟨Nat.le_of_ble_eq_true rfl, Nat.le_of_ble_eq_true rfl⟩ dX11_copy_41) hS (fun E ce q9 H locs hE hH hS h1 h2 h3 => ?_) (fun H locs hok hH hS => ?_)
              · exact gOutX X hnt (by obtain ⟨e7, h7, h8⟩ := hE; exact ⟨e7, congrArg _ (Sum.inl.inj h7), h8⟩) hH hS h1 h2 h3 ⟨Nat.le_of_ble_eq_true rfl, Nat.le_of_ble_eq_true rfl⟩
              · obtain ⟨z, hz⟩ := hok; cases hz
            · replace hf := ox_i hf
              refine gGoXV (gRunSX X Z hH hS (As := [.int (iI xs0_41)]) (m_X11_checkState l hl0 G xs0_41 bxs0_41 M0 _ hq41) calX11_checkState k_583 k_582 ⟨by decide, by decide⟩ rfl hl rfl (Nat.le_of_ble_eq_true rfl) ⟨Nat.le_of_ble_eq_true rfl, Nat.le_of_ble_eq_true rfl⟩ dX11_copy_41) hS (fun E ce q9 H locs hE hH hS h1 h2 h3 => ?_) (fun H locs _ hH hS => ?_)
              · obtain ⟨e7, h7, h8⟩ := hE; cases h7
              · refine lv_aload_n X.1 X.2.1 dX11_copy_44 rfl (lv_at hl.1 0 rfl) ?_
                refine g_get X cX11 hH (r := 0) (i := 0) (by decide) rfl 1 (by decide) k_442 rfl (v := .ref (gAd G 2 0)) rfl dX11_copy_45 ?_
                refine lv_iload_n X.1 X.2.1 dX11_copy_48 rfl (lv_at hl.1 1 rfl) ?_
                refine gGoR (gRunV X hH (As := [.int (iI v1)]) (m_X5_targetAt l G v1 nv1 M0 _ rfl) calX5_targetAt k_631 k_632 k_630 (by decide) cX5 rfl ⟨by decide, by decide⟩ rfl hl rfl (Nat.le_of_ble_eq_true rfl) ⟨Nat.le_of_ble_eq_true rfl, Nat.le_of_ble_eq_true rfl⟩ dX11_copy_49) hS (fun H locs hr49 hH hS => ?_)
                replace hr49 : (f_X5_targetAt v1 M0) < 15 := hr49
                refine g_astore_n X (lv' := [(3, .ref (gAd G 7 ((f_X5_targetAt v1 M0)))), (0, .ref (gAd G 0 0)), (1, .int (iI v1)), (2, .int (iI v2))]) dX11_copy_52 rfl hl (by decide) rfl (fun ls hl => ?_)
                refine lv_aload_n X.1 X.2.1 dX11_copy_53 rfl (lv_at hl.1 1 rfl) ?_
                refine g_get X cX11 hH (r := 0) (i := 0) (by decide) rfl 1 (by decide) k_442 rfl (v := .ref (gAd G 2 0)) rfl dX11_copy_54 ?_
                refine gGoR (gRunV X hH (As := []) (m_X5_tellNext l G  M0 _ rfl) calX5_tellNext k_635 k_636 k_634 (by decide) cX5 rfl ⟨by decide, by decide⟩ rfl hl rfl (Nat.le_of_ble_eq_true rfl) ⟨Nat.le_of_ble_eq_true rfl, Nat.le_of_ble_eq_true rfl⟩ dX11_copy_57) hS (fun H locs hr57 hH hS => ?_)
                replace hr57 : (f_X5_tellNext M0).1 < 15 := hr57
                refine g_astore X (lv' := [(4, .ref (gAd G 7 ((f_X5_tellNext M0).1))), (3, .ref (gAd G 7 ((f_X5_targetAt v1 M0)))), (0, .ref (gAd G 0 0)), (1, .int (iI v1)), (2, .int (iI v2))]) dX11_copy_60 hl (by decide) rfl (fun ls hl => ?_)
                refine lv_aload X.1 X.2.1 dX11_copy_62 (lv_at hl.1 0 rfl) ?_
                refine lv_aload_n X.1 X.2.1 dX11_copy_64 rfl (lv_at hl.1 1 rfl) ?_
                have nd65 : nmI (((f_X5_tellNext M0).2) 7 ((f_X5_targetAt v1 M0)) 3) := hH.1.1 _ _ _
                refine g_get X cX8 hH (r := 7) (i := (f_X5_targetAt v1 M0)) hr49 rfl 3 (by decide) k_191 rfl (v := .int (iI (((f_X5_tellNext M0).2) 7 ((f_X5_targetAt v1 M0)) 3))) rfl dX11_copy_65 ?_
                refine lv_aload_n X.1 X.2.1 dX11_copy_68 rfl (lv_at hl.1 1 rfl) ?_
                have nd69 : nmI (((f_X5_tellNext M0).2) 7 ((f_X5_targetAt v1 M0)) 4) := hH.1.1 _ _ _
                refine g_get X cX8 hH (r := 7) (i := (f_X5_targetAt v1 M0)) hr49 rfl 4 (by decide) k_195 rfl (v := .int (iI (((f_X5_tellNext M0).2) 7 ((f_X5_targetAt v1 M0)) 4))) rfl dX11_copy_69 ?_
                refine lv_iload_n X.1 X.2.1 dX11_copy_72 rfl (lv_at hl.1 4 rfl) ?_
                refine lv_aload_n X.1 X.2.1 dX11_copy_73 rfl (lv_at hl.1 1 rfl) ?_
                have nd74 : nmI (((f_X5_tellNext M0).2) 7 ((f_X5_targetAt v1 M0)) 6) := hH.1.1 _ _ _
                refine g_get X cX8 hH (r := 7) (i := (f_X5_targetAt v1 M0)) hr49 rfl 6 (by decide) k_202 rfl (v := .int (iI (((f_X5_tellNext M0).2) 7 ((f_X5_targetAt v1 M0)) 6))) rfl dX11_copy_74 ?_
                refine lv_aload_n X.1 X.2.1 dX11_copy_77 rfl (lv_at hl.1 1 rfl) ?_
                have nd78 : nmI (((f_X5_tellNext M0).2) 7 ((f_X5_targetAt v1 M0)) 7) := hH.1.1 _ _ _
                refine g_get X cX8 hH (r := 7) (i := (f_X5_targetAt v1 M0)) hr49 rfl 7 (by decide) k_205 rfl (v := .int (iI (((f_X5_tellNext M0).2) 7 ((f_X5_targetAt v1 M0)) 7))) rfl dX11_copy_78 ?_
                refine lv_aload_n X.1 X.2.1 dX11_copy_81 rfl (lv_at hl.1 1 rfl) ?_
                have nd82 : nmI (((f_X5_tellNext M0).2) 7 ((f_X5_targetAt v1 M0)) 8) := hH.1.1 _ _ _
                refine g_get X cX8 hH (r := 7) (i := (f_X5_targetAt v1 M0)) hr49 rfl 8 (by decide) k_207 rfl (v := .int (iI (((f_X5_tellNext M0).2) 7 ((f_X5_targetAt v1 M0)) 8))) rfl dX11_copy_82 ?_
                refine gGoV (gRunV X hH (As := [.int (iI (((f_X5_tellNext M0).2) 7 ((f_X5_targetAt v1 M0)) 3)), .int (iI (((f_X5_tellNext M0).2) 7 ((f_X5_targetAt v1 M0)) 4)), .int (iI v2), .int (iI (((f_X5_tellNext M0).2) 7 ((f_X5_targetAt v1 M0)) 6)), .int (iI (((f_X5_tellNext M0).2) 7 ((f_X5_targetAt v1 M0)) 7)), .int (iI (((f_X5_tellNext M0).2) 7 ((f_X5_targetAt v1 M0)) 8))]) (m_X8_describe l G ((f_X5_tellNext M0).1) hr57 (((f_X5_tellNext M0).2) 7 ((f_X5_targetAt v1 M0)) 3) nd65 (((f_X5_tellNext M0).2) 7 ((f_X5_targetAt v1 M0)) 4) nd69 v2 nv2 (((f_X5_tellNext M0).2) 7 ((f_X5_targetAt v1 M0)) 6) nd74 (((f_X5_tellNext M0).2) 7 ((f_X5_targetAt v1 M0)) 7) nd78 (((f_X5_tellNext M0).2) 7 ((f_X5_targetAt v1 M0)) 8) nd82 ((f_X5_tellNext M0).2) _ rfl) calX8_describe k_640 k_641 k_639 hr57 cX8 rfl ⟨by decide, by decide⟩ rfl hl rfl (Nat.le_of_ble_eq_true rfl) ⟨Nat.le_of_ble_eq_true rfl, Nat.le_of_ble_eq_true rfl⟩ dX11_copy_85) hS (fun H locs hH hS => ?_)
                refine lv_aload X.1 X.2.1 dX11_copy_88 (lv_at hl.1 0 rfl) ?_
                refine g_get X cX8 hH (r := 7) (i := (f_X5_tellNext M0).1) hr57 rfl 1 (by decide) k_185 rfl (v := .ref (gAd G 8 ((f_X5_tellNext M0).1))) rfl dX11_copy_90 ?_
                refine lv_aload_n X.1 X.2.1 dX11_copy_93 rfl (lv_at hl.1 1 rfl) ?_
                refine g_get X cX8 hH (r := 7) (i := (f_X5_targetAt v1 M0)) hr49 rfl 1 (by decide) k_185 rfl (v := .ref (gAd G 8 ((f_X5_targetAt v1 M0)))) rfl dX11_copy_94 ?_
                obtain ⟨r97, hq97, hf_⟩ := ob_e hf; clear hf; have hf := hf_; clear hf_
                refine gGoV (gRunV X hH (As := [.ref (gAd G 8 ((f_X5_targetAt v1 M0)))]) (m_X6_become l G ((f_X5_tellNext M0).1) (by show _ < 16; omega) ((f_X5_targetAt v1 M0)) (by show _ < 16; omega) ((f_X8_describe ((f_X5_tellNext M0).1) (((f_X5_tellNext M0).2) 7 ((f_X5_targetAt v1 M0)) 3) (((f_X5_tellNext M0).2) 7 ((f_X5_targetAt v1 M0)) 4) v2 (((f_X5_tellNext M0).2) 7 ((f_X5_targetAt v1 M0)) 6) (((f_X5_tellNext M0).2) 7 ((f_X5_targetAt v1 M0)) 7) (((f_X5_tellNext M0).2) 7 ((f_X5_targetAt v1 M0)) 8) ((f_X5_tellNext M0).2))) _ hq97) calX6_become k_644 k_645 k_643 (by show _ < 16; omega) cX6 rfl ⟨by decide, by decide⟩ rfl hl rfl (Nat.le_of_ble_eq_true rfl) ⟨Nat.le_of_ble_eq_true rfl, Nat.le_of_ble_eq_true rfl⟩ dX11_copy_97) hS (fun H locs hH hS => ?_)
                refine lv_aload X.1 X.2.1 dX11_copy_100 (lv_at hl.1 0 rfl) ?_
                have nd102 : nmI (r97 7 ((f_X5_tellNext M0).1) 0) := hH.1.1 _ _ _
                refine g_get X cX8 hH (r := 7) (i := (f_X5_tellNext M0).1) hr57 rfl 0 (by decide) k_180 rfl (v := .int (iI (r97 7 ((f_X5_tellNext M0).1) 0))) rfl dX11_copy_102 ?_
                have hq := Option.some.inj hf; subst hq
                exact gRetXI X hH hS ⟨_, rfl⟩ (res := r97 7 ((f_X5_tellNext M0).1) 0) nd102 ⟨Nat.le_of_ble_eq_true rfl, Nat.le_of_ble_eq_true rfl⟩ dX11_copy_105
          clear ek41
          obtain ⟨k40, ek40, hf_⟩ := oj_e hf; clear hf; have hf := hf_; clear hf_
          have hk40 : k40 = some q → ∀ (H : Heap) (locs : List Loc) (ls : Array Slot), gH G M0 H → va_S (gA G) s.heap H locs → gLv ls 5 [(0, .ref (gAd G 0 0)), (1, .int (iI v1)), (2, .int (iI v2))] → W p l e { frames := 7, cells := 3, slots := 18, locals := 111 } s m args below meth c H locs 2 12 (vx_MQ below (gXi G (∃ z, q = Sum.inr z) (gvP q).1 (gvP q).2) (gXC G (fun e9 => q = Sum.inl e9) M0) args s 3 18 (gA G)) (F0 m 40 ls []) := by
            intro  hf H locs ls hH hS hl
            subst ek40
            refine lv_iconst X.1 X.2.1 dX11_copy_40 (v := iI 0) rfl ?_
            exact hk41 0 (by decide) hf _ _ _ hH hS (gLv_sub hl [0, 1, 2] rfl)
          clear ek40
          refine g_if_ne X nd18 (tgt := 40) dX11_copy_21 (by decide) (fun hc21 => ?_) (fun hc21 => ?_)
          · replace hf := it_f hf hc21
            exact hk40  hf _ _ _ hH hS (gLv_sub hl [0, 1, 2] rfl)
          · replace hf := it_t hf hc21
            refine lv_aload_n X.1 X.2.1 dX11_copy_24 rfl (lv_at hl.1 0 rfl) ?_
            refine g_get X cX11 hH (r := 0) (i := 0) (by decide) rfl 1 (by decide) k_442 rfl (v := .ref (gAd G 2 0)) rfl dX11_copy_25 ?_
            have nd28 : nmI (M0 2 0 5) := hH.1.1 _ _ _
            refine g_get X cX5 hH (r := 2) (i := 0) (by decide) rfl 5 (by decide) k_253 rfl (v := .int (iI (M0 2 0 5))) rfl dX11_copy_28 ?_
            refine lv_bipush X.1 X.2.1 dX11_copy_31 (v := iI 14) (by decide) ?_
            refine g_icmp_ge X nd28 (nmI_l (by decide)) (tgt := 40) dX11_copy_33 (by decide) (fun hc33 => ?_) (fun hc33 => ?_)
            · replace hf := it_f hf hc33
              exact hk40  hf _ _ _ hH hS (gLv_sub hl [0, 1, 2] rfl)
            · replace hf := it_t hf hc33
              refine lv_iconst X.1 X.2.1 dX11_copy_36 (v := iI 1) rfl ?_
              refine lv_goto (tgt := 41) X.1 X.2.1 dX11_copy_37 (by decide) ?_
              exact hk41 1 (by decide) hf _ _ _ hH hS (gLv_sub hl [0, 1, 2] rfl)
theorem m_X11_setPower (l : Launch) (hl0 : l.stackTraces = false) (G : gG) (v1 : Int) (nv1 : nmI v1) (v2 : Int) (nv2 : nmI v2) (M0 : gM) (q : (Nat ⊕ (Int × gM))) (hf : f_X11_setPower v1 v2 M0 = some q) : gXMet l yX11_setPower cX11_setPower 5 (some .int) 7 110 1 6 G M0 [.ref (gAd G 0 0), .int (iI v1), .int (iI v2)] (gXi G (∃ z, q = Sum.inr z) (gvP q).1 (gvP q).2) (fun e9 => q = Sum.inl e9) := by
  refine gOfX (by decide) (by show _ ≤ 5; exact Nat.le_of_ble_eq_true rfl) rfl ?_
  intro p e s m below meth c X Z hnt hH ls hl
  replace hl : gLv ls 5 [(0, .ref (gAd G 0 0)), (1, .int (iI v1)), (2, .int (iI v2))] := hl
  have hS : va_S (gA G) s.heap s.heap [] := va_S.rf
  generalize hargs : ([.ref (gAd G 0 0), .int (iI v1), .int (iI v2)] : List Value).toArray = args at X ⊢
  clear hargs
  unfold f_X11_setPower at hf
  refine lv_iload_n X.1 X.2.1 dX11_setPower_0 rfl (lv_at hl.1 1 rfl) ?_
  refine lv_iconst X.1 X.2.1 dX11_setPower_1 (v := iI 4) rfl ?_
  refine gGoZ (gRunS X hH (As := [.int (iI v1), .int (iI 4)]) (m_X11_isBelow l G v1 nv1 4 (nmI_l (by decide)) M0 _ rfl) calX11_isBelow k_482 k_481 ⟨by decide, by decide⟩ rfl hl rfl (Nat.le_of_ble_eq_true rfl) ⟨Nat.le_of_ble_eq_true rfl, Nat.le_of_ble_eq_true rfl⟩ dX11_setPower_2) hS (fun H locs br2 hH hS => ?_)
  obtain ⟨k22, ek22, hf_⟩ := oj_e hf; clear hf; have hf := hf_; clear hf_
  have hk22 : ∀ (xs0_22 : Int) (bxs0_22 : xs0_22 = 0 ∨ xs0_22 = 1), k22 xs0_22 = some q → ∀ (H : Heap) (locs : List Loc) (ls : Array Slot), gH G M0 H → va_S (gA G) s.heap H locs → gLv ls 5 [(0, .ref (gAd G 0 0)), (1, .int (iI v1)), (2, .int (iI v2))] → W p l e { frames := 7, cells := 1, slots := 6, locals := 110 } s m args below meth c H locs 0 0 (vx_MQ below (gXi G (∃ z, q = Sum.inr z) (gvP q).1 (gvP q).2) (gXC G (fun e9 => q = Sum.inl e9) M0) args s 1 6 (gA G)) (F0 m 22 ls [.int (iI xs0_22)]) := by
    intro xs0_22 bxs0_22 hf H locs ls hH hS hl
    subst ek22
    obtain ⟨r22, hq22, hf_⟩ := ob_e hf; clear hf; have hf := hf_; clear hf_
    rcases r22 with e8 | v22_
    · have hq := Option.some.inj hf; subst hq
      refine gGoXV (gRunSX X Z hH hS (As := [.int (iI xs0_22)]) (m_X11_checkArgument l hl0 G xs0_22 bxs0_22 M0 _ hq22) calX11_checkArgument k_485 k_484 ⟨by decide, by decide⟩ rfl hl rfl (Nat.le_of_ble_eq_true rfl) ⟨Nat.le_of_ble_eq_true rfl, Nat.le_of_ble_eq_true rfl⟩ dX11_setPower_22) hS (fun E ce q9 H locs hE hH hS h1 h2 h3 => ?_) (fun H locs hok hH hS => ?_)
      · exact gOutX X hnt (by obtain ⟨e7, h7, h8⟩ := hE; exact ⟨e7, congrArg _ (Sum.inl.inj h7), h8⟩) hH hS h1 h2 h3 ⟨Nat.le_of_ble_eq_true rfl, Nat.le_of_ble_eq_true rfl⟩
      · obtain ⟨z, hz⟩ := hok; cases hz
    · replace hf := ox_i hf
      refine gGoXV (gRunSX X Z hH hS (As := [.int (iI xs0_22)]) (m_X11_checkArgument l hl0 G xs0_22 bxs0_22 M0 _ hq22) calX11_checkArgument k_485 k_484 ⟨by decide, by decide⟩ rfl hl rfl (Nat.le_of_ble_eq_true rfl) ⟨Nat.le_of_ble_eq_true rfl, Nat.le_of_ble_eq_true rfl⟩ dX11_setPower_22) hS (fun E ce q9 H locs hE hH hS h1 h2 h3 => ?_) (fun H locs _ hH hS => ?_)
      · obtain ⟨e7, h7, h8⟩ := hE; cases h7
      · refine lv_aload_n X.1 X.2.1 dX11_setPower_25 rfl (lv_at hl.1 0 rfl) ?_
        refine g_get X cX11 hH (r := 0) (i := 0) (by decide) rfl 3 (by decide) k_444 rfl (v := .ref (gAd G 4 0)) rfl dX11_setPower_26 ?_
        refine lv_iload_n X.1 X.2.1 dX11_setPower_29 rfl (lv_at hl.1 1 rfl) ?_
        refine gGoR (gRunV X hH (As := [.int (iI v1)]) (m_X2_workerAt l G v1 nv1 M0 _ rfl) calX2_workerAt k_658 k_659 k_657 (by decide) cX2 rfl ⟨by decide, by decide⟩ rfl hl rfl (Nat.le_of_ble_eq_true rfl) ⟨Nat.le_of_ble_eq_true rfl, Nat.le_of_ble_eq_true rfl⟩ dX11_setPower_30) hS (fun H locs hr30 hH hS => ?_)
        replace hr30 : (f_X2_workerAt v1 M0) < 4 := hr30
        refine g_astore_n X (lv' := [(3, .ref (gAd G 11 ((f_X2_workerAt v1 M0)))), (0, .ref (gAd G 0 0)), (1, .int (iI v1)), (2, .int (iI v2))]) dX11_setPower_33 rfl hl (by decide) rfl (fun ls hl => ?_)
        refine lv_aload_n X.1 X.2.1 dX11_setPower_34 rfl (lv_at hl.1 0 rfl) ?_
        have nd35 : nmI (M0 11 ((f_X2_workerAt v1 M0)) 1) := hH.1.1 _ _ _
        refine g_get X cX10 hH (r := 11) (i := (f_X2_workerAt v1 M0)) hr30 rfl 1 (by decide) k_352 rfl (v := .int (iI (M0 11 ((f_X2_workerAt v1 M0)) 1))) rfl dX11_setPower_35 ?_
        refine g_istore X (lv' := [(4, .int (iI (M0 11 ((f_X2_workerAt v1 M0)) 1))), (3, .ref (gAd G 11 ((f_X2_workerAt v1 M0)))), (0, .ref (gAd G 0 0)), (1, .int (iI v1)), (2, .int (iI v2))]) dX11_setPower_38 hl (by decide) rfl (fun ls hl => ?_)
        refine lv_iload_n X.1 X.2.1 dX11_setPower_40 rfl (lv_at hl.1 4 rfl) ?_
        refine lv_iload X.1 X.2.1 dX11_setPower_41 (lv_at hl.1 0 rfl) ?_
        refine g_icmp_eq X nv2 nd35 (tgt := 55) dX11_setPower_43 (by decide) (fun hc43 => ?_) (fun hc43 => ?_)
        · replace hf := it_t hf hc43
          refine lv_iload X.1 X.2.1 dX11_setPower_55 (lv_at hl.1 0 rfl) ?_
          have hq := Option.some.inj hf; subst hq
          exact gRetXI X hH hS ⟨_, rfl⟩ (res := M0 11 ((f_X2_workerAt v1 M0)) 1) nd35 ⟨Nat.le_of_ble_eq_true rfl, Nat.le_of_ble_eq_true rfl⟩ dX11_setPower_57
        · replace hf := it_f hf hc43
          refine lv_aload_n X.1 X.2.1 dX11_setPower_46 rfl (lv_at hl.1 2 rfl) ?_
          refine g_get X cX11 hH (r := 0) (i := 0) (by decide) rfl 3 (by decide) k_444 rfl (v := .ref (gAd G 4 0)) rfl dX11_setPower_47 ?_
          refine lv_aload_n X.1 X.2.1 dX11_setPower_50 rfl (lv_at hl.1 1 rfl) ?_
          refine lv_iload_n X.1 X.2.1 dX11_setPower_51 rfl (lv_at hl.1 4 rfl) ?_
          obtain ⟨r52, hq52, hf_⟩ := ob_e hf; clear hf; have hf := hf_; clear hf_
          refine gGoV (gRunV X hH (As := [.ref (gAd G 11 ((f_X2_workerAt v1 M0))), .int (iI v2)]) (m_X2_changePower l G ((f_X2_workerAt v1 M0)) hr30 v2 nv2 M0 _ hq52) calX2_changePower k_662 k_663 k_661 (by decide) cX2 rfl ⟨by decide, by decide⟩ rfl hl rfl (Nat.le_of_ble_eq_true rfl) ⟨Nat.le_of_ble_eq_true rfl, Nat.le_of_ble_eq_true rfl⟩ dX11_setPower_52) hS (fun H locs hH hS => ?_)
          refine lv_iload X.1 X.2.1 dX11_setPower_55 (lv_at hl.1 0 rfl) ?_
          have hq := Option.some.inj hf; subst hq
          exact gRetXI X hH hS ⟨_, rfl⟩ (res := M0 11 ((f_X2_workerAt v1 M0)) 1) nd35 ⟨Nat.le_of_ble_eq_true rfl, Nat.le_of_ble_eq_true rfl⟩ dX11_setPower_57
  clear ek22
  obtain ⟨k21, ek21, hf_⟩ := oj_e hf; clear hf; have hf := hf_; clear hf_
  have hk21 : k21 = some q → ∀ (H : Heap) (locs : List Loc) (ls : Array Slot), gH G M0 H → va_S (gA G) s.heap H locs → gLv ls 5 [(0, .ref (gAd G 0 0)), (1, .int (iI v1)), (2, .int (iI v2))] → W p l e { frames := 7, cells := 1, slots := 6, locals := 110 } s m args below meth c H locs 0 0 (vx_MQ below (gXi G (∃ z, q = Sum.inr z) (gvP q).1 (gvP q).2) (gXC G (fun e9 => q = Sum.inl e9) M0) args s 1 6 (gA G)) (F0 m 21 ls []) := by
    intro  hf H locs ls hH hS hl
    subst ek21
    refine lv_iconst X.1 X.2.1 dX11_setPower_21 (v := iI 0) rfl ?_
    exact hk22 0 (by decide) hf _ _ _ hH hS (gLv_sub hl [0, 1, 2] rfl)
  clear ek21
  refine g_if_eq X (nmI_b br2) (tgt := 21) dX11_setPower_5 (by decide) (fun hc5 => ?_) (fun hc5 => ?_)
  · replace hf := it_t hf hc5
    exact hk21  hf _ _ _ hH hS (gLv_sub hl [0, 1, 2] rfl)
  · replace hf := it_f hf hc5
    refine lv_iload_n X.1 X.2.1 dX11_setPower_8 rfl (lv_at hl.1 2 rfl) ?_
    refine lv_bipush X.1 X.2.1 dX11_setPower_9 (v := iI 10) (by decide) ?_
    refine gGoZ (gRunS X hH (As := [.int (iI v2), .int (iI 10)]) (m_X11_isBelow l G v2 nv2 10 (nmI_l (by decide)) M0 _ rfl) calX11_isBelow k_482 k_481 ⟨by decide, by decide⟩ rfl hl rfl (Nat.le_of_ble_eq_true rfl) ⟨Nat.le_of_ble_eq_true rfl, Nat.le_of_ble_eq_true rfl⟩ dX11_setPower_11) hS (fun H locs br11 hH hS => ?_)
    refine g_if_eq X (nmI_b br11) (tgt := 21) dX11_setPower_14 (by decide) (fun hc14 => ?_) (fun hc14 => ?_)
    · replace hf := it_t hf hc14
      exact hk21  hf _ _ _ hH hS (gLv_sub hl [0, 1, 2] rfl)
    · replace hf := it_f hf hc14
      refine lv_iconst X.1 X.2.1 dX11_setPower_17 (v := iI 1) rfl ?_
      refine lv_goto (tgt := 22) X.1 X.2.1 dX11_setPower_18 (by decide) ?_
      exact hk22 1 (by decide) hf _ _ _ hH hS (gLv_sub hl [0, 1, 2] rfl)
theorem m_X11_entry (l : Launch) (hl0 : l.stackTraces = false) (G : gG) (v1 : Int) (nv1 : nmI v1) (v2 : Int) (nv2 : nmI v2) (M0 : gM) (q : (Nat ⊕ Int)) (hf : f_X11_entry v1 v2 M0 = some q) : gXMet l yX11_entry cX11_entry 4 (some .int) 6 90 1 6 G M0 [.ref (gAd G 0 0), .int (iI v1), .int (iI v2)] (gXi G (∃ z, q = Sum.inr z) (gvI q) M0) (fun e9 => q = Sum.inl e9) := by
  refine gOfX (by decide) (by show _ ≤ 4; exact Nat.le_of_ble_eq_true rfl) rfl ?_
  intro p e s m below meth c X Z hnt hH ls hl
  replace hl : gLv ls 4 [(0, .ref (gAd G 0 0)), (1, .int (iI v1)), (2, .int (iI v2))] := hl
  have hS : va_S (gA G) s.heap s.heap [] := va_S.rf
  generalize hargs : ([.ref (gAd G 0 0), .int (iI v1), .int (iI v2)] : List Value).toArray = args at X ⊢
  clear hargs
  unfold f_X11_entry at hf
  refine lv_aload_n X.1 X.2.1 dX11_entry_0 rfl (lv_at hl.1 0 rfl) ?_
  refine g_get X cX11 hH (r := 0) (i := 0) (by decide) rfl 2 (by decide) k_443 rfl (v := .ref (gAd G 3 0)) rfl dX11_entry_1 ?_
  refine lv_iload_n X.1 X.2.1 dX11_entry_4 rfl (lv_at hl.1 1 rfl) ?_
  obtain ⟨r5, hq5, hf_⟩ := ob_e hf; clear hf; have hf := hf_; clear hf_
  refine gGoQ (gRunV X hH (As := [.int (iI v1)]) (m_X1_entryAt l G v1 nv1 M0 _ hq5) calX1_entryAt k_684 k_685 k_683 (by decide) cX1 rfl ⟨by decide, by decide⟩ rfl hl rfl (Nat.le_of_ble_eq_true rfl) ⟨Nat.le_of_ble_eq_true rfl, Nat.le_of_ble_eq_true rfl⟩ dX11_entry_5) hS (fun H locs hr5 hH hS => ?_)
  refine g_astore_nO X (lv' := [(3, va_re (gAd G 10) r5), (0, .ref (gAd G 0 0)), (1, .int (iI v1)), (2, .int (iI v2))]) dX11_entry_8 rfl hl (by decide) rfl (fun ls hl => ?_)
  refine g_aload_nO X (ad := gAd G 10) (x := r5) dX11_entry_9 rfl (lv_at hl.1 0 rfl) ?_
  obtain ⟨k22, ek22, hf_⟩ := oj_e hf; clear hf; have hf := hf_; clear hf_
  have hk22 : k22 = some q → ∀ (H : Heap) (locs : List Loc) (ls : Array Slot), gH G M0 H → va_S (gA G) s.heap H locs → gLv ls 4 [] → W p l e { frames := 6, cells := 1, slots := 6, locals := 90 } s m args below meth c H locs 0 0 (vx_MQ below (gXi G (∃ z, q = Sum.inr z) (gvI q) M0) (gXC G (fun e9 => q = Sum.inl e9) M0) args s 1 6 (gA G)) (F0 m 22 ls []) := by
    intro  hf H locs ls hH hS hl
    subst ek22
    have hq := Option.some.inj hf; subst hq
    exact gThrow hl0 X Z hnt hH hS hl (e9 := 1) (by decide) k_487 k_46 (List.mem_of_getElem? (i := 3) rfl) gAt_180 dX11_entry_22 dX11_entry_25 dX11_entry_26 dX11_entry_28 dX11_entry_31 (by decide) (by decide) ⟨by decide, by decide⟩ ⟨by decide, by decide⟩ rfl
  clear ek22
  refine g_ifnullO X (ad := gAd G 10) (x := r5) (tgt := 22) dX11_entry_10 (by decide) ?_ ?_
  · intro hx
    subst hx
    replace hf := om_n hf
    exact hk22  hf _ _ _ hH hS (gLv_sub hl [] rfl)
  · intro a10 hx
    subst hx
    replace hf := om_s hf
    have ha10 : a10 < 40 := hr5 _ rfl
    refine lv_iload_n X.1 X.2.1 dX11_entry_13 rfl (lv_at hl.1 3 rfl) ?_
    refine lv_bipush X.1 X.2.1 dX11_entry_14 (v := iI 7) (by decide) ?_
    refine gGoZ (gRunS X hH (As := [.int (iI v2), .int (iI 7)]) (m_X11_isBelow l G v2 nv2 7 (nmI_l (by decide)) M0 _ rfl) calX11_isBelow k_482 k_481 ⟨by decide, by decide⟩ rfl hl rfl (Nat.le_of_ble_eq_true rfl) ⟨Nat.le_of_ble_eq_true rfl, Nat.le_of_ble_eq_true rfl⟩ dX11_entry_16) hS (fun H locs br16 hH hS => ?_)
    refine g_if_ne X (nmI_b br16) (tgt := 32) dX11_entry_19 (by decide) (fun hc19 => ?_) (fun hc19 => ?_)
    · replace hf := it_f hf hc19
      refine lv_aload_n X.1 X.2.1 dX11_entry_32 rfl (lv_at hl.1 0 rfl) ?_
      refine lv_iload_n X.1 X.2.1 dX11_entry_33 rfl (lv_at hl.1 3 rfl) ?_
      refine gGoI (gRunV X hH (As := [.int (iI v2)]) (m_X3_tell l G a10 ha10 v2 nv2 M0 _ rfl) calX3_tell k_692 k_693 k_691 ha10 cX3 rfl ⟨by decide, by decide⟩ rfl hl rfl (Nat.le_of_ble_eq_true rfl) ⟨Nat.le_of_ble_eq_true rfl, Nat.le_of_ble_eq_true rfl⟩ dX11_entry_34) hS (fun H locs nr34 hH hS => ?_)
      have hq := Option.some.inj hf; subst hq
      exact gRetXI X hH hS ⟨_, rfl⟩ (res := (f_X3_tell a10 v2 M0)) nr34 ⟨Nat.le_of_ble_eq_true rfl, Nat.le_of_ble_eq_true rfl⟩ dX11_entry_37
    · replace hf := it_t hf hc19
      exact hk22  hf _ _ _ hH hS (gLv_sub hl [] rfl)
theorem m_X11_build (l : Launch) (hl0 : l.stackTraces = false) (G : gG) (v1 : Int) (nv1 : nmI v1) (M0 : gM) (q : (Nat ⊕ (Int × gM))) (hf : f_X11_build v1 M0 = some q) : gXMet l yX11_build cX11_build 2 (some .int) 7 173 2 12 G M0 [.ref (gAd G 0 0), .int (iI v1)] (gXi G (∃ z, q = Sum.inr z) (gvP q).1 (gvP q).2) (fun e9 => q = Sum.inl e9) := by
  refine gOfX (by decide) (by show _ ≤ 2; exact Nat.le_of_ble_eq_true rfl) rfl ?_
  intro p e s m below meth c X Z hnt hH ls hl
  replace hl : gLv ls 2 [(0, .ref (gAd G 0 0)), (1, .int (iI v1))] := hl
  have hS : va_S (gA G) s.heap s.heap [] := va_S.rf
  generalize hargs : ([.ref (gAd G 0 0), .int (iI v1)] : List Value).toArray = args at X ⊢
  clear hargs
  unfold f_X11_build at hf
  refine lv_iload_n X.1 X.2.1 dX11_build_0 rfl (lv_at hl.1 1 rfl) ?_
  obtain ⟨k22, ek22, hf_⟩ := oj_e hf; clear hf; have hf := hf_; clear hf_
  have hk22 : ∀ (xs0_22 : Int) (bxs0_22 : xs0_22 = 0 ∨ xs0_22 = 1), k22 xs0_22 = some q → ∀ (H : Heap) (locs : List Loc) (ls : Array Slot), gH G M0 H → va_S (gA G) s.heap H locs → gLv ls 2 [(0, .ref (gAd G 0 0)), (1, .int (iI v1))] → W p l e { frames := 7, cells := 2, slots := 12, locals := 173 } s m args below meth c H locs 0 0 (vx_MQ below (gXi G (∃ z, q = Sum.inr z) (gvP q).1 (gvP q).2) (gXC G (fun e9 => q = Sum.inl e9) M0) args s 2 12 (gA G)) (F0 m 22 ls [.int (iI xs0_22)]) := by
    intro xs0_22 bxs0_22 hf H locs ls hH hS hl
    subst ek22
    obtain ⟨r22, hq22, hf_⟩ := ob_e hf; clear hf; have hf := hf_; clear hf_
    rcases r22 with e8 | v22_
    · have hq := Option.some.inj hf; subst hq
      refine gGoXV (gRunSX X Z hH hS (As := [.int (iI xs0_22)]) (m_X11_checkArgument l hl0 G xs0_22 bxs0_22 M0 _ hq22) calX11_checkArgument k_485 k_484 ⟨by decide, by decide⟩ rfl hl rfl (Nat.le_of_ble_eq_true rfl) ⟨Nat.le_of_ble_eq_true rfl, Nat.le_of_ble_eq_true rfl⟩ dX11_build_22) hS (fun E ce q9 H locs hE hH hS h1 h2 h3 => ?_) (fun H locs hok hH hS => ?_)
      · exact gOutX X hnt (by obtain ⟨e7, h7, h8⟩ := hE; exact ⟨e7, congrArg _ (Sum.inl.inj h7), h8⟩) hH hS h1 h2 h3 ⟨Nat.le_of_ble_eq_true rfl, Nat.le_of_ble_eq_true rfl⟩
      · obtain ⟨z, hz⟩ := hok; cases hz
    · replace hf := ox_i hf
      refine gGoXV (gRunSX X Z hH hS (As := [.int (iI xs0_22)]) (m_X11_checkArgument l hl0 G xs0_22 bxs0_22 M0 _ hq22) calX11_checkArgument k_485 k_484 ⟨by decide, by decide⟩ rfl hl rfl (Nat.le_of_ble_eq_true rfl) ⟨Nat.le_of_ble_eq_true rfl, Nat.le_of_ble_eq_true rfl⟩ dX11_build_22) hS (fun E ce q9 H locs hE hH hS h1 h2 h3 => ?_) (fun H locs _ hH hS => ?_)
      · obtain ⟨e7, h7, h8⟩ := hE; cases h7
      · refine lv_aload_n X.1 X.2.1 dX11_build_25 rfl (lv_at hl.1 0 rfl) ?_
        refine g_get X cX11 hH (r := 0) (i := 0) (by decide) rfl 3 (by decide) k_444 rfl (v := .ref (gAd G 4 0)) rfl dX11_build_26 ?_
        have nd29 : nmI (M0 4 0 8) := hH.1.1 _ _ _
        have bd29 := hH.1.2.1 4 0 8 rfl
        refine g_get X cX2 hH (r := 4) (i := 0) (by decide) rfl 8 (by decide) k_391 rfl (v := .int (iI (M0 4 0 8))) rfl dX11_build_29 ?_
        obtain ⟨k40, ek40, hf_⟩ := oj_e hf; clear hf; have hf := hf_; clear hf_
        have hk40 : ∀ (xs0_40 : Int) (bxs0_40 : xs0_40 = 0 ∨ xs0_40 = 1), k40 xs0_40 = some q → ∀ (H : Heap) (locs : List Loc) (ls : Array Slot), gH G M0 H → va_S (gA G) s.heap H locs → gLv ls 2 [(0, .ref (gAd G 0 0)), (1, .int (iI v1))] → W p l e { frames := 7, cells := 2, slots := 12, locals := 173 } s m args below meth c H locs 1 6 (vx_MQ below (gXi G (∃ z, q = Sum.inr z) (gvP q).1 (gvP q).2) (gXC G (fun e9 => q = Sum.inl e9) M0) args s 2 12 (gA G)) (F0 m 40 ls [.int (iI xs0_40)]) := by
          intro xs0_40 bxs0_40 hf H locs ls hH hS hl
          subst ek40
          obtain ⟨r40, hq40, hf_⟩ := ob_e hf; clear hf; have hf := hf_; clear hf_
          rcases r40 with e8 | v40_
          · have hq := Option.some.inj hf; subst hq
            refine gGoXV (gRunSX X Z hH hS (As := [.int (iI xs0_40)]) (m_X11_checkState l hl0 G xs0_40 bxs0_40 M0 _ hq40) calX11_checkState k_583 k_582 ⟨by decide, by decide⟩ rfl hl rfl (Nat.le_of_ble_eq_true rfl) ⟨Nat.le_of_ble_eq_true rfl, Nat.le_of_ble_eq_true rfl⟩ dX11_build_40) hS (fun E ce q9 H locs hE hH hS h1 h2 h3 => ?_) (fun H locs hok hH hS => ?_)
            · exact gOutX X hnt (by obtain ⟨e7, h7, h8⟩ := hE; exact ⟨e7, congrArg _ (Sum.inl.inj h7), h8⟩) hH hS h1 h2 h3 ⟨Nat.le_of_ble_eq_true rfl, Nat.le_of_ble_eq_true rfl⟩
            · obtain ⟨z, hz⟩ := hok; cases hz
          · replace hf := ox_i hf
            refine gGoXV (gRunSX X Z hH hS (As := [.int (iI xs0_40)]) (m_X11_checkState l hl0 G xs0_40 bxs0_40 M0 _ hq40) calX11_checkState k_583 k_582 ⟨by decide, by decide⟩ rfl hl rfl (Nat.le_of_ble_eq_true rfl) ⟨Nat.le_of_ble_eq_true rfl, Nat.le_of_ble_eq_true rfl⟩ dX11_build_40) hS (fun E ce q9 H locs hE hH hS h1 h2 h3 => ?_) (fun H locs _ hH hS => ?_)
            · obtain ⟨e7, h7, h8⟩ := hE; cases h7
            · refine lv_aload_n X.1 X.2.1 dX11_build_43 rfl (lv_at hl.1 0 rfl) ?_
              refine g_get X cX11 hH (r := 0) (i := 0) (by decide) rfl 3 (by decide) k_444 rfl (v := .ref (gAd G 4 0)) rfl dX11_build_44 ?_
              refine lv_iload_n X.1 X.2.1 dX11_build_47 rfl (lv_at hl.1 1 rfl) ?_
              obtain ⟨r48, hq48, hf_⟩ := ob_e hf; clear hf; have hf := hf_; clear hf_
              refine gGoI (gRunV X hH (As := [.int (iI v1)]) (m_X2_begin l G v1 nv1 M0 _ hq48) calX2_begin k_712 k_713 k_711 (by decide) cX2 rfl ⟨by decide, by decide⟩ rfl hl rfl (Nat.le_of_ble_eq_true rfl) ⟨Nat.le_of_ble_eq_true rfl, Nat.le_of_ble_eq_true rfl⟩ dX11_build_48) hS (fun H locs nr48 hH hS => ?_)
              have hq := Option.some.inj hf; subst hq
              exact gRetXI X hH hS ⟨_, rfl⟩ (res := r48.1) nr48 ⟨Nat.le_of_ble_eq_true rfl, Nat.le_of_ble_eq_true rfl⟩ dX11_build_51
        clear ek40
        refine g_if_ne X nd29 (tgt := 39) dX11_build_32 (by decide) (fun hc32 => ?_) (fun hc32 => ?_)
        · replace hf := it_f hf hc32
          refine lv_iconst X.1 X.2.1 dX11_build_39 (v := iI 0) rfl ?_
          exact hk40 0 (by decide) hf _ _ _ hH hS (gLv_sub hl [0, 1] rfl)
        · replace hf := it_t hf hc32
          refine lv_iconst X.1 X.2.1 dX11_build_35 (v := iI 1) rfl ?_
          refine lv_goto (tgt := 40) X.1 X.2.1 dX11_build_36 (by decide) ?_
          exact hk40 1 (by decide) hf _ _ _ hH hS (gLv_sub hl [0, 1] rfl)
  clear ek22
  obtain ⟨k21, ek21, hf_⟩ := oj_e hf; clear hf; have hf := hf_; clear hf_
  have hk21 : k21 = some q → ∀ (H : Heap) (locs : List Loc) (ls : Array Slot), gH G M0 H → va_S (gA G) s.heap H locs → gLv ls 2 [(0, .ref (gAd G 0 0)), (1, .int (iI v1))] → W p l e { frames := 7, cells := 2, slots := 12, locals := 173 } s m args below meth c H locs 0 0 (vx_MQ below (gXi G (∃ z, q = Sum.inr z) (gvP q).1 (gvP q).2) (gXC G (fun e9 => q = Sum.inl e9) M0) args s 2 12 (gA G)) (F0 m 21 ls []) := by
    intro  hf H locs ls hH hS hl
    subst ek21
    refine lv_iconst X.1 X.2.1 dX11_build_21 (v := iI 0) rfl ?_
    exact hk22 0 (by decide) hf _ _ _ hH hS (gLv_sub hl [0, 1] rfl)
  clear ek21
  refine g_if_le X nv1 (tgt := 21) dX11_build_1 (by decide) (fun hc1 => ?_) (fun hc1 => ?_)
  · replace hf := it_f hf hc1
    exact hk21  hf _ _ _ hH hS (gLv_sub hl [0, 1] rfl)
  · replace hf := it_t hf hc1
    refine lv_iload_n X.1 X.2.1 dX11_build_4 rfl (lv_at hl.1 1 rfl) ?_
    refine lv_iconst X.1 X.2.1 dX11_build_5 (v := iI 1) rfl ?_
    refine lv_aload_n X.1 X.2.1 dX11_build_6 rfl (lv_at hl.1 0 rfl) ?_
    refine g_get X cX11 hH (r := 0) (i := 0) (by decide) rfl 1 (by decide) k_442 rfl (v := .ref (gAd G 2 0)) rfl dX11_build_7 ?_
    have nd10 : nmI (M0 2 0 5) := hH.1.1 _ _ _
    refine g_get X cX5 hH (r := 2) (i := 0) (by decide) rfl 5 (by decide) k_253 rfl (v := .int (iI (M0 2 0 5))) rfl dX11_build_10 ?_
    refine g_ishl X dX11_build_13 ?_
    refine g_icmp_ge X nv1 (nmI_shl _ _) (tgt := 21) dX11_build_14 (by decide) (fun hc14 => ?_) (fun hc14 => ?_)
    · replace hf := it_f hf hc14
      exact hk21  hf _ _ _ hH hS (gLv_sub hl [0, 1] rfl)
    · replace hf := it_t hf hc14
      refine lv_iconst X.1 X.2.1 dX11_build_17 (v := iI 1) rfl ?_
      refine lv_goto (tgt := 22) X.1 X.2.1 dX11_build_18 (by decide) ?_
      exact hk22 1 (by decide) hf _ _ _ hH hS (gLv_sub hl [0, 1] rfl)
theorem w_X11_pass_L21 {G : gG} {p : Program} {l : Launch} {e : Env} {s : State} {m : MethodId} {args : Array Value} {below : List Frame} {meth : Method} {c : Code} (X : gX G p s m args meth c RX11 cX11_pass 3 (some .int) (gWs yX11_pass cX11_pass 3 (some .int))) (hl0 : l.stackTraces = false) (Z : gS G s) (hnt : ∀ x ∈ c.exceptionTable.toList, False) (M0 : gM) (k59 : gM → Option (Nat ⊕ (Int × gM))) (z1 : Int) (nz1 : nmI z1) (q : (Nat ⊕ (Int × gM))) (hk59 : ∀  (M : gM), k59 M = some q → ∀ (H : Heap) (locs : List Loc) (ls : Array Slot), gH G M H → va_S (gA G) s.heap H locs → gLv ls 3 [(0, .ref (gAd G 0 0))] → W p l e { frames := 7, cells := 1, slots := 6, locals := 173 } s m args below meth c H locs 1 6 (vx_MQ below (gXi G (∃ z, q = Sum.inr z) (gvP q).1 (gvP q).2) (gXC G (fun e9 => q = Sum.inl e9) M0) args s 1 6 (gA G)) (F0 m 59 ls [])) : ∀ (n : Nat) (x2 : Int) (nx2 : nmI x2) (M : gM), f_X11_pass_L21 k59 z1 n x2 M = some q → ∀ (H : Heap) (locs : List Loc) (ls : Array Slot), gH G M H → va_S (gA G) s.heap H locs → gLv ls 3 [(0, .ref (gAd G 0 0)), (1, .int (iI z1)), (2, .int (iI x2))] → W p l e { frames := 7, cells := 1, slots := 6, locals := 173 } s m args below meth c H locs 1 6 (vx_MQ below (gXi G (∃ z, q = Sum.inr z) (gvP q).1 (gvP q).2) (gXC G (fun e9 => q = Sum.inl e9) M0) args s 1 6 (gA G)) (F0 m 21 ls []) := by
  intro n
  induction n with
  | zero =>
    intro x2 nx2 M hf
    cases hf
  | succ n ih =>
    intro x2 nx2 M hf H locs ls hH hS hl
    rw [f_X11_pass_L21] at hf
    refine lv_iload_n X.1 X.2.1 dX11_pass_21 rfl (lv_at hl.1 2 rfl) ?_
    refine lv_iload_n X.1 X.2.1 dX11_pass_22 rfl (lv_at hl.1 1 rfl) ?_
    refine g_icmp_ge X nx2 nz1 (tgt := 59) dX11_pass_23 (by decide) (fun hc23 => ?_) (fun hc23 => ?_)
    · replace hf := it_f hf hc23
      exact hk59 M hf _ _ _ hH hS (gLv_sub hl [0] rfl)
    · replace hf := it_t hf hc23
      refine lv_aload_n X.1 X.2.1 dX11_pass_26 rfl (lv_at hl.1 0 rfl) ?_
      refine g_get X cX11 hH (r := 0) (i := 0) (by decide) rfl 3 (by decide) k_444 rfl (v := .ref (gAd G 4 0)) rfl dX11_pass_27 ?_
      have nd30 : nmI (M 4 0 8) := hH.1.1 _ _ _
      have bd30 := hH.1.2.1 4 0 8 rfl
      refine g_get X cX2 hH (r := 4) (i := 0) (by decide) rfl 8 (by decide) k_391 rfl (v := .int (iI (M 4 0 8))) rfl dX11_pass_30 ?_
      obtain ⟨k43, ek43, hf_⟩ := oj_e hf; clear hf; have hf := hf_; clear hf_
      have hk43 : ∀  (M_43 : gM), k43 M_43 = some q → ∀ (H : Heap) (locs : List Loc) (ls : Array Slot), gH G M_43 H → va_S (gA G) s.heap H locs → gLv ls 3 [(0, .ref (gAd G 0 0)), (1, .int (iI z1)), (2, .int (iI x2))] → W p l e { frames := 7, cells := 1, slots := 6, locals := 173 } s m args below meth c H locs 1 6 (vx_MQ below (gXi G (∃ z, q = Sum.inr z) (gvP q).1 (gvP q).2) (gXC G (fun e9 => q = Sum.inl e9) M0) args s 1 6 (gA G)) (F0 m 43 ls []) := by
        intro  M_43 hf H locs ls hH hS hl
        subst ek43
        refine lv_aload_n X.1 X.2.1 dX11_pass_43 rfl (lv_at hl.1 0 rfl) ?_
        refine lv_dup X.1 X.2.1 dX11_pass_44 rfl ?_
        have nd45 : nmI (M_43 0 0 5) := hH.1.1 _ _ _
        refine g_get X cX11 hH (r := 0) (i := 0) (by decide) rfl 5 (by decide) k_446 rfl (v := .int (iI (M_43 0 0 5))) rfl dX11_pass_45 ?_
        refine lv_iconst X.1 X.2.1 dX11_pass_48 (v := iI 1) rfl ?_
        refine g_iadd X dX11_pass_49 ?_
        refine g_putI X cX11 hH hS (r := 0) (i := 0) (by decide) rfl 5 (by decide) k_446 rfl rfl rfl (Nat.le_of_ble_eq_true rfl) (x := wI ((M_43 0 0 5) + 1)) (nmI_w _) rfl rfl rfl dX11_pass_50 (fun H locs hH hS => ?_)
        refine g_iinc X (a := x2) (lv' := [(2, .int (iI (wI (x2 + 1)))), (0, .ref (gAd G 0 0)), (1, .int (iI z1))]) dX11_pass_53 hl (k := 2) rfl (by decide) rfl (fun ls hl => ?_)
        refine lv_goto (tgt := 21) X.1 X.2.1 dX11_pass_56 (by decide) ?_
        exact ih (wI (x2 + 1)) (nmI_w _) (gU M_43 0 0 5 (wI ((M_43 0 0 5) + 1))) hf _ _ _ hH hS (gLv_sub hl [1, 2, 0] rfl)
      clear ek43
      refine g_if_eq X nd30 (tgt := 43) dX11_pass_33 (by decide) (fun hc33 => ?_) (fun hc33 => ?_)
      · replace hf := it_t hf hc33
        exact hk43 M hf _ _ _ hH hS (gLv_sub hl [0, 1, 2] rfl)
      · replace hf := it_f hf hc33
        refine lv_aload_n X.1 X.2.1 dX11_pass_36 rfl (lv_at hl.1 0 rfl) ?_
        refine g_get X cX11 hH (r := 0) (i := 0) (by decide) rfl 3 (by decide) k_444 rfl (v := .ref (gAd G 4 0)) rfl dX11_pass_37 ?_
        obtain ⟨r40, hq40, hf_⟩ := ob_e hf; clear hf; have hf := hf_; clear hf_
        refine gGoV (gRunV X hH (As := []) (m_X2_passTick l G  M _ hq40) calX2_passTick k_814 k_815 k_813 (by decide) cX2 rfl ⟨by decide, by decide⟩ rfl hl rfl (Nat.le_of_ble_eq_true rfl) ⟨Nat.le_of_ble_eq_true rfl, Nat.le_of_ble_eq_true rfl⟩ dX11_pass_40) hS (fun H locs hH hS => ?_)
        exact hk43 r40 hf _ _ _ hH hS (gLv_sub hl [0, 1, 2] rfl)
theorem m_X11_pass (l : Launch) (hl0 : l.stackTraces = false) (G : gG) (v1 : Int) (nv1 : nmI v1) (M0 : gM) (q : (Nat ⊕ (Int × gM))) (hf : f_X11_pass v1 M0 = some q) : gXMet l yX11_pass cX11_pass 3 (some .int) 7 173 1 6 G M0 [.ref (gAd G 0 0), .int (iI v1)] (gXi G (∃ z, q = Sum.inr z) (gvP q).1 (gvP q).2) (fun e9 => q = Sum.inl e9) := by
  refine gOfX (by decide) (by show _ ≤ 3; exact Nat.le_of_ble_eq_true rfl) rfl ?_
  intro p e s m below meth c X Z hnt hH ls hl
  replace hl : gLv ls 3 [(0, .ref (gAd G 0 0)), (1, .int (iI v1))] := hl
  have hS : va_S (gA G) s.heap s.heap [] := va_S.rf
  generalize hargs : ([.ref (gAd G 0 0), .int (iI v1)] : List Value).toArray = args at X ⊢
  clear hargs
  unfold f_X11_pass at hf
  refine lv_iload_n X.1 X.2.1 dX11_pass_0 rfl (lv_at hl.1 1 rfl) ?_
  refine lv_iconst X.1 X.2.1 dX11_pass_1 (v := iI 1) rfl ?_
  obtain ⟨k16, ek16, hf_⟩ := oj_e hf; clear hf; have hf := hf_; clear hf_
  have hk16 : ∀ (xs0_16 : Int) (bxs0_16 : xs0_16 = 0 ∨ xs0_16 = 1), k16 xs0_16 = some q → ∀ (H : Heap) (locs : List Loc) (ls : Array Slot), gH G M0 H → va_S (gA G) s.heap H locs → gLv ls 3 [(0, .ref (gAd G 0 0)), (1, .int (iI v1))] → W p l e { frames := 7, cells := 1, slots := 6, locals := 173 } s m args below meth c H locs 0 0 (vx_MQ below (gXi G (∃ z, q = Sum.inr z) (gvP q).1 (gvP q).2) (gXC G (fun e9 => q = Sum.inl e9) M0) args s 1 6 (gA G)) (F0 m 16 ls [.int (iI xs0_16)]) := by
    intro xs0_16 bxs0_16 hf H locs ls hH hS hl
    subst ek16
    obtain ⟨r16, hq16, hf_⟩ := ob_e hf; clear hf; have hf := hf_; clear hf_
    rcases r16 with e8 | v16_
    · have hq := Option.some.inj hf; subst hq
      refine gGoXV (gRunSX X Z hH hS (As := [.int (iI xs0_16)]) (m_X11_checkArgument l hl0 G xs0_16 bxs0_16 M0 _ hq16) calX11_checkArgument k_485 k_484 ⟨by decide, by decide⟩ rfl hl rfl (Nat.le_of_ble_eq_true rfl) ⟨Nat.le_of_ble_eq_true rfl, Nat.le_of_ble_eq_true rfl⟩ dX11_pass_16) hS (fun E ce q9 H locs hE hH hS h1 h2 h3 => ?_) (fun H locs hok hH hS => ?_)
      · exact gOutX X hnt (by obtain ⟨e7, h7, h8⟩ := hE; exact ⟨e7, congrArg _ (Sum.inl.inj h7), h8⟩) hH hS h1 h2 h3 ⟨Nat.le_of_ble_eq_true rfl, Nat.le_of_ble_eq_true rfl⟩
      · obtain ⟨z, hz⟩ := hok; cases hz
    · replace hf := ox_i hf
      refine gGoXV (gRunSX X Z hH hS (As := [.int (iI xs0_16)]) (m_X11_checkArgument l hl0 G xs0_16 bxs0_16 M0 _ hq16) calX11_checkArgument k_485 k_484 ⟨by decide, by decide⟩ rfl hl rfl (Nat.le_of_ble_eq_true rfl) ⟨Nat.le_of_ble_eq_true rfl, Nat.le_of_ble_eq_true rfl⟩ dX11_pass_16) hS (fun E ce q9 H locs hE hH hS h1 h2 h3 => ?_) (fun H locs _ hH hS => ?_)
      · obtain ⟨e7, h7, h8⟩ := hE; cases h7
      · refine lv_iconst X.1 X.2.1 dX11_pass_19 (v := iI 0) rfl ?_
        refine g_istore_n X (lv' := [(2, .int (iI 0)), (0, .ref (gAd G 0 0)), (1, .int (iI v1))]) dX11_pass_20 rfl hl (by decide) rfl (fun ls hl => ?_)
        refine w_X11_pass_L21 X hl0 Z hnt M0 _ v1 nv1 q ?_ 64 0 (nmI_l (by decide)) M0 hf _ _ _ hH hS (gLv_sub hl [1, 2, 0] rfl)
        · intro  M_21_59 hf H locs ls hH hS hl
          refine lv_aload_n X.1 X.2.1 dX11_pass_59 rfl (lv_at hl.1 0 rfl) ?_
          have nd60 : nmI (M_21_59 0 0 5) := hH.1.1 _ _ _
          refine g_get X cX11 hH (r := 0) (i := 0) (by decide) rfl 5 (by decide) k_446 rfl (v := .int (iI (M_21_59 0 0 5))) rfl dX11_pass_60 ?_
          have hq := Option.some.inj hf; subst hq
          exact gRetXI X hH hS ⟨_, rfl⟩ (res := M_21_59 0 0 5) nd60 ⟨Nat.le_of_ble_eq_true rfl, Nat.le_of_ble_eq_true rfl⟩ dX11_pass_63
  clear ek16
  obtain ⟨k15, ek15, hf_⟩ := oj_e hf; clear hf; have hf := hf_; clear hf_
  have hk15 : k15 = some q → ∀ (H : Heap) (locs : List Loc) (ls : Array Slot), gH G M0 H → va_S (gA G) s.heap H locs → gLv ls 3 [(0, .ref (gAd G 0 0)), (1, .int (iI v1))] → W p l e { frames := 7, cells := 1, slots := 6, locals := 173 } s m args below meth c H locs 0 0 (vx_MQ below (gXi G (∃ z, q = Sum.inr z) (gvP q).1 (gvP q).2) (gXC G (fun e9 => q = Sum.inl e9) M0) args s 1 6 (gA G)) (F0 m 15 ls []) := by
    intro  hf H locs ls hH hS hl
    subst ek15
    refine lv_iconst X.1 X.2.1 dX11_pass_15 (v := iI 0) rfl ?_
    exact hk16 0 (by decide) hf _ _ _ hH hS (gLv_sub hl [0, 1] rfl)
  clear ek15
  refine g_icmp_lt X nv1 (nmI_l (by decide)) (tgt := 15) dX11_pass_2 (by decide) (fun hc2 => ?_) (fun hc2 => ?_)
  · replace hf := it_t hf hc2
    exact hk15  hf _ _ _ hH hS (gLv_sub hl [0, 1] rfl)
  · replace hf := it_f hf hc2
    refine lv_iload_n X.1 X.2.1 dX11_pass_5 rfl (lv_at hl.1 1 rfl) ?_
    refine lv_bipush X.1 X.2.1 dX11_pass_6 (v := iI 50) (by decide) ?_
    refine g_icmp_gt X nv1 (nmI_l (by decide)) (tgt := 15) dX11_pass_8 (by decide) (fun hc8 => ?_) (fun hc8 => ?_)
    · replace hf := it_t hf hc8
      exact hk15  hf _ _ _ hH hS (gLv_sub hl [0, 1] rfl)
    · replace hf := it_f hf hc8
      refine lv_iconst X.1 X.2.1 dX11_pass_11 (v := iI 1) rfl ?_
      refine lv_goto (tgt := 16) X.1 X.2.1 dX11_pass_12 (by decide) ?_
      exact hk16 1 (by decide) hf _ _ _ hH hS (gLv_sub hl [0, 1] rfl)
theorem m_X11_checkedAction (l : Launch) (hl0 : l.stackTraces = false) (G : gG) (v1 : Int) (nv1 : nmI v1) (v2 : Int) (nv2 : nmI v2) (M0 : gM) (q : (Nat ⊕ Nat)) (hf : f_X11_checkedAction v1 v2 M0 = some q) : gXMet l yX11_checkedAction cX11_checkedAction 4 (some (.object "BuildGrid$Action")) 7 111 2 12 G M0 [.ref (gAd G 0 0), .int (iI v1), .int (iI v2)] (gXr G (∃ z, q = Sum.inr z) 9 (gvN q) M0) (fun e9 => q = Sum.inl e9) := by
  refine gOfX (by decide) (by show _ ≤ 4; exact Nat.le_of_ble_eq_true rfl) rfl ?_
  intro p e s m below meth c X Z hnt hH ls hl
  replace hl : gLv ls 4 [(0, .ref (gAd G 0 0)), (1, .int (iI v1)), (2, .int (iI v2))] := hl
  have hS : va_S (gA G) s.heap s.heap [] := va_S.rf
  generalize hargs : ([.ref (gAd G 0 0), .int (iI v1), .int (iI v2)] : List Value).toArray = args at X ⊢
  clear hargs
  unfold f_X11_checkedAction at hf
  refine lv_aload_n X.1 X.2.1 dX11_checkedAction_0 rfl (lv_at hl.1 0 rfl) ?_
  refine lv_iload_n X.1 X.2.1 dX11_checkedAction_1 rfl (lv_at hl.1 1 rfl) ?_
  obtain ⟨r2, hq2, hf_⟩ := ob_e hf; clear hf; have hf := hf_; clear hf_
  rcases r2 with e8 | v2_
  · have hq := Option.some.inj hf; subst hq
    refine gGoXV (gRunVX X Z hH hS (As := [.int (iI v1)]) (m_X11_checkTarget l hl0 G v1 nv1 M0 _ hq2) calX11_checkTarget k_612 k_3 k_610 (by decide) cX11 rfl ⟨by decide, by decide⟩ rfl hl rfl (Nat.le_of_ble_eq_true rfl) ⟨Nat.le_of_ble_eq_true rfl, Nat.le_of_ble_eq_true rfl⟩ dX11_checkedAction_2) hS (fun E ce q9 H locs hE hH hS h1 h2 h3 => ?_) (fun H locs hok hH hS => ?_)
    · exact gOutX X hnt (by obtain ⟨e7, h7, h8⟩ := hE; exact ⟨e7, congrArg _ (Sum.inl.inj h7), h8⟩) hH hS h1 h2 h3 ⟨Nat.le_of_ble_eq_true rfl, Nat.le_of_ble_eq_true rfl⟩
    · obtain ⟨z, hz⟩ := hok; cases hz
  · replace hf := ox_i hf
    refine gGoXV (gRunVX X Z hH hS (As := [.int (iI v1)]) (m_X11_checkTarget l hl0 G v1 nv1 M0 _ hq2) calX11_checkTarget k_612 k_3 k_610 (by decide) cX11 rfl ⟨by decide, by decide⟩ rfl hl rfl (Nat.le_of_ble_eq_true rfl) ⟨Nat.le_of_ble_eq_true rfl, Nat.le_of_ble_eq_true rfl⟩ dX11_checkedAction_2) hS (fun E ce q9 H locs hE hH hS h1 h2 h3 => ?_) (fun H locs _ hH hS => ?_)
    · obtain ⟨e7, h7, h8⟩ := hE; cases h7
    · refine lv_aload_n X.1 X.2.1 dX11_checkedAction_5 rfl (lv_at hl.1 0 rfl) ?_
      refine g_get X cX11 hH (r := 0) (i := 0) (by decide) rfl 1 (by decide) k_442 rfl (v := .ref (gAd G 2 0)) rfl dX11_checkedAction_6 ?_
      refine lv_iload_n X.1 X.2.1 dX11_checkedAction_9 rfl (lv_at hl.1 1 rfl) ?_
      refine gGoR (gRunV X hH (As := [.int (iI v1)]) (m_X5_targetAt l G v1 nv1 M0 _ rfl) calX5_targetAt k_631 k_632 k_630 (by decide) cX5 rfl ⟨by decide, by decide⟩ rfl hl rfl (Nat.le_of_ble_eq_true rfl) ⟨Nat.le_of_ble_eq_true rfl, Nat.le_of_ble_eq_true rfl⟩ dX11_checkedAction_10) hS (fun H locs hr10 hH hS => ?_)
      replace hr10 : (f_X5_targetAt v1 M0) < 15 := hr10
      refine g_astore_n X (lv' := [(3, .ref (gAd G 7 ((f_X5_targetAt v1 M0)))), (0, .ref (gAd G 0 0)), (1, .int (iI v1)), (2, .int (iI v2))]) dX11_checkedAction_13 rfl hl (by decide) rfl (fun ls hl => ?_)
      refine lv_iload_n X.1 X.2.1 dX11_checkedAction_14 rfl (lv_at hl.1 3 rfl) ?_
      refine lv_aload_n X.1 X.2.1 dX11_checkedAction_15 rfl (lv_at hl.1 0 rfl) ?_
      have nd16 : nmI (M0 7 ((f_X5_targetAt v1 M0)) 6) := hH.1.1 _ _ _
      refine g_get X cX8 hH (r := 7) (i := (f_X5_targetAt v1 M0)) hr10 rfl 6 (by decide) k_202 rfl (v := .int (iI (M0 7 ((f_X5_targetAt v1 M0)) 6))) rfl dX11_checkedAction_16 ?_
      refine gGoZ (gRunS X hH (As := [.int (iI v2), .int (iI (M0 7 ((f_X5_targetAt v1 M0)) 6))]) (m_X11_isBelow l G v2 nv2 (M0 7 ((f_X5_targetAt v1 M0)) 6) nd16 M0 _ rfl) calX11_isBelow k_482 k_481 ⟨by decide, by decide⟩ rfl hl rfl (Nat.le_of_ble_eq_true rfl) ⟨Nat.le_of_ble_eq_true rfl, Nat.le_of_ble_eq_true rfl⟩ dX11_checkedAction_19) hS (fun H locs br19 hH hS => ?_)
      obtain ⟨r22, hq22, hf_⟩ := ob_e hf; clear hf; have hf := hf_; clear hf_
      rcases r22 with e8 | v22_
      · have hq := Option.some.inj hf; subst hq
        refine gGoXV (gRunSX X Z hH hS (As := [.int (iI ((f_X11_isBelow v2 (M0 7 ((f_X5_targetAt v1 M0)) 6) M0)))]) (m_X11_checkArgument l hl0 G ((f_X11_isBelow v2 (M0 7 ((f_X5_targetAt v1 M0)) 6) M0)) br19 M0 _ hq22) calX11_checkArgument k_485 k_484 ⟨by decide, by decide⟩ rfl hl rfl (Nat.le_of_ble_eq_true rfl) ⟨Nat.le_of_ble_eq_true rfl, Nat.le_of_ble_eq_true rfl⟩ dX11_checkedAction_22) hS (fun E ce q9 H locs hE hH hS h1 h2 h3 => ?_) (fun H locs hok hH hS => ?_)
        · exact gOutX X hnt (by obtain ⟨e7, h7, h8⟩ := hE; exact ⟨e7, congrArg _ (Sum.inl.inj h7), h8⟩) hH hS h1 h2 h3 ⟨Nat.le_of_ble_eq_true rfl, Nat.le_of_ble_eq_true rfl⟩
        · obtain ⟨z, hz⟩ := hok; cases hz
      · replace hf := ox_i hf
        refine gGoXV (gRunSX X Z hH hS (As := [.int (iI ((f_X11_isBelow v2 (M0 7 ((f_X5_targetAt v1 M0)) 6) M0)))]) (m_X11_checkArgument l hl0 G ((f_X11_isBelow v2 (M0 7 ((f_X5_targetAt v1 M0)) 6) M0)) br19 M0 _ hq22) calX11_checkArgument k_485 k_484 ⟨by decide, by decide⟩ rfl hl rfl (Nat.le_of_ble_eq_true rfl) ⟨Nat.le_of_ble_eq_true rfl, Nat.le_of_ble_eq_true rfl⟩ dX11_checkedAction_22) hS (fun E ce q9 H locs hE hH hS h1 h2 h3 => ?_) (fun H locs _ hH hS => ?_)
        · obtain ⟨e7, h7, h8⟩ := hE; cases h7
        · refine lv_aload_n X.1 X.2.1 dX11_checkedAction_25 rfl (lv_at hl.1 0 rfl) ?_
          refine lv_iload_n X.1 X.2.1 dX11_checkedAction_26 rfl (lv_at hl.1 3 rfl) ?_
          refine gGoR (gRunV X hH (As := [.int (iI v2)]) (m_X8_actionAt l G ((f_X5_targetAt v1 M0)) hr10 v2 nv2 M0 _ rfl) calX8_actionAt k_740 k_741 k_942 hr10 cX8 rfl ⟨by decide, by decide⟩ rfl hl rfl (Nat.le_of_ble_eq_true rfl) ⟨Nat.le_of_ble_eq_true rfl, Nat.le_of_ble_eq_true rfl⟩ dX11_checkedAction_27) hS (fun H locs hr27 hH hS => ?_)
          replace hr27 : (f_X8_actionAt ((f_X5_targetAt v1 M0)) v2 M0) < 60 := hr27
          have hq := Option.some.inj hf; subst hq
          exact gRetXR X hH hS ⟨_, rfl⟩ (i := (f_X8_actionAt ((f_X5_targetAt v1 M0)) v2 M0)) hr27 ⟨Nat.le_of_ble_eq_true rfl, Nat.le_of_ble_eq_true rfl⟩ dX11_checkedAction_30
theorem m_X11_state (l : Launch) (hl0 : l.stackTraces = false) (G : gG) (v1 : Int) (nv1 : nmI v1) (v2 : Int) (nv2 : nmI v2) (M0 : gM) (q : (Nat ⊕ Int)) (hf : f_X11_state v1 v2 M0 = some q) : gXMet l yX11_state cX11_state 3 (some .int) 8 134 2 12 G M0 [.ref (gAd G 0 0), .int (iI v1), .int (iI v2)] (gXi G (∃ z, q = Sum.inr z) (gvI q) M0) (fun e9 => q = Sum.inl e9) := by
  refine gOfX (by decide) (by show _ ≤ 3; exact Nat.le_of_ble_eq_true rfl) rfl ?_
  intro p e s m below meth c X Z hnt hH ls hl
  replace hl : gLv ls 3 [(0, .ref (gAd G 0 0)), (1, .int (iI v1)), (2, .int (iI v2))] := hl
  have hS : va_S (gA G) s.heap s.heap [] := va_S.rf
  generalize hargs : ([.ref (gAd G 0 0), .int (iI v1), .int (iI v2)] : List Value).toArray = args at X ⊢
  clear hargs
  unfold f_X11_state at hf
  refine lv_aload_n X.1 X.2.1 dX11_state_0 rfl (lv_at hl.1 0 rfl) ?_
  refine lv_iload_n X.1 X.2.1 dX11_state_1 rfl (lv_at hl.1 1 rfl) ?_
  refine lv_iload_n X.1 X.2.1 dX11_state_2 rfl (lv_at hl.1 2 rfl) ?_
  obtain ⟨r3, hq3, hf_⟩ := ob_e hf; clear hf; have hf := hf_; clear hf_
  rcases r3 with e8 | v3_
  · have hq := Option.some.inj hf; subst hq
    refine gGoXR (gRunVX X Z hH hS (As := [.int (iI v1), .int (iI v2)]) (m_X11_checkedAction l hl0 G v1 nv1 v2 nv2 M0 _ hq3) calX11_checkedAction k_940 k_22 k_938 (by decide) cX11 rfl ⟨by decide, by decide⟩ rfl hl rfl (Nat.le_of_ble_eq_true rfl) ⟨Nat.le_of_ble_eq_true rfl, Nat.le_of_ble_eq_true rfl⟩ dX11_state_3) hS (fun E ce q9 H locs hE hH hS h1 h2 h3 => ?_) (fun H locs hok _ hH hS => ?_)
    · exact gOutX X hnt (by obtain ⟨e7, h7, h8⟩ := hE; exact ⟨e7, congrArg _ (Sum.inl.inj h7), h8⟩) hH hS h1 h2 h3 ⟨Nat.le_of_ble_eq_true rfl, Nat.le_of_ble_eq_true rfl⟩
    · obtain ⟨z, hz⟩ := hok; cases hz
  · replace hf := ox_i hf
    refine gGoXR (gRunVX X Z hH hS (As := [.int (iI v1), .int (iI v2)]) (m_X11_checkedAction l hl0 G v1 nv1 v2 nv2 M0 _ hq3) calX11_checkedAction k_940 k_22 k_938 (by decide) cX11 rfl ⟨by decide, by decide⟩ rfl hl rfl (Nat.le_of_ble_eq_true rfl) ⟨Nat.le_of_ble_eq_true rfl, Nat.le_of_ble_eq_true rfl⟩ dX11_state_3) hS (fun E ce q9 H locs hE hH hS h1 h2 h3 => ?_) (fun H locs _ hv3_ hH hS => ?_)
    · obtain ⟨e7, h7, h8⟩ := hE; cases h7
    · replace hv3_ : v3_ < 60 := hv3_
      have nd6 : nmI (M0 9 v3_ 2) := hH.1.1 _ _ _
      refine g_get X cX0 hH (r := 9) (i := v3_) hv3_ rfl 2 (by decide) k_147 rfl (v := .int (iI (M0 9 v3_ 2))) rfl dX11_state_6 ?_
      have hq := Option.some.inj hf; subst hq
      exact gRetXI X hH hS ⟨_, rfl⟩ (res := M0 9 v3_ 2) nd6 ⟨Nat.le_of_ble_eq_true rfl, Nat.le_of_ble_eq_true rfl⟩ dX11_state_9
theorem m_X11_result (l : Launch) (hl0 : l.stackTraces = false) (G : gG) (v1 : Int) (nv1 : nmI v1) (v2 : Int) (nv2 : nmI v2) (M0 : gM) (q : (Nat ⊕ Int)) (hf : f_X11_result v1 v2 M0 = some q) : gXMet l yX11_result cX11_result 4 (some .int) 8 134 2 12 G M0 [.ref (gAd G 0 0), .int (iI v1), .int (iI v2)] (gXi G (∃ z, q = Sum.inr z) (gvI q) M0) (fun e9 => q = Sum.inl e9) := by
  refine gOfX (by decide) (by show _ ≤ 4; exact Nat.le_of_ble_eq_true rfl) rfl ?_
  intro p e s m below meth c X Z hnt hH ls hl
  replace hl : gLv ls 4 [(0, .ref (gAd G 0 0)), (1, .int (iI v1)), (2, .int (iI v2))] := hl
  have hS : va_S (gA G) s.heap s.heap [] := va_S.rf
  generalize hargs : ([.ref (gAd G 0 0), .int (iI v1), .int (iI v2)] : List Value).toArray = args at X ⊢
  clear hargs
  unfold f_X11_result at hf
  refine lv_aload_n X.1 X.2.1 dX11_result_0 rfl (lv_at hl.1 0 rfl) ?_
  refine lv_iload_n X.1 X.2.1 dX11_result_1 rfl (lv_at hl.1 1 rfl) ?_
  refine lv_iload_n X.1 X.2.1 dX11_result_2 rfl (lv_at hl.1 2 rfl) ?_
  obtain ⟨r3, hq3, hf_⟩ := ob_e hf; clear hf; have hf := hf_; clear hf_
  rcases r3 with e8 | v3_
  · have hq := Option.some.inj hf; subst hq
    refine gGoXR (gRunVX X Z hH hS (As := [.int (iI v1), .int (iI v2)]) (m_X11_checkedAction l hl0 G v1 nv1 v2 nv2 M0 _ hq3) calX11_checkedAction k_940 k_22 k_938 (by decide) cX11 rfl ⟨by decide, by decide⟩ rfl hl rfl (Nat.le_of_ble_eq_true rfl) ⟨Nat.le_of_ble_eq_true rfl, Nat.le_of_ble_eq_true rfl⟩ dX11_result_3) hS (fun E ce q9 H locs hE hH hS h1 h2 h3 => ?_) (fun H locs hok _ hH hS => ?_)
    · exact gOutX X hnt (by obtain ⟨e7, h7, h8⟩ := hE; exact ⟨e7, congrArg _ (Sum.inl.inj h7), h8⟩) hH hS h1 h2 h3 ⟨Nat.le_of_ble_eq_true rfl, Nat.le_of_ble_eq_true rfl⟩
    · obtain ⟨z, hz⟩ := hok; cases hz
  · replace hf := ox_i hf
    refine gGoXR (gRunVX X Z hH hS (As := [.int (iI v1), .int (iI v2)]) (m_X11_checkedAction l hl0 G v1 nv1 v2 nv2 M0 _ hq3) calX11_checkedAction k_940 k_22 k_938 (by decide) cX11 rfl ⟨by decide, by decide⟩ rfl hl rfl (Nat.le_of_ble_eq_true rfl) ⟨Nat.le_of_ble_eq_true rfl, Nat.le_of_ble_eq_true rfl⟩ dX11_result_3) hS (fun E ce q9 H locs hE hH hS h1 h2 h3 => ?_) (fun H locs _ hv3_ hH hS => ?_)
    · obtain ⟨e7, h7, h8⟩ := hE; cases h7
    · replace hv3_ : v3_ < 60 := hv3_
      refine g_astore_n X (lv' := [(3, .ref (gAd G 9 v3_)), (0, .ref (gAd G 0 0)), (1, .int (iI v1)), (2, .int (iI v2))]) dX11_result_6 rfl hl (by decide) rfl (fun ls hl => ?_)
      refine lv_aload_n X.1 X.2.1 dX11_result_7 rfl (lv_at hl.1 0 rfl) ?_
      have nd8 : nmI (M0 9 v3_ 2) := hH.1.1 _ _ _
      refine g_get X cX0 hH (r := 9) (i := v3_) hv3_ rfl 2 (by decide) k_147 rfl (v := .int (iI (M0 9 v3_ 2))) rfl dX11_result_8 ?_
      refine lv_iconst X.1 X.2.1 dX11_result_11 (v := iI 3) rfl ?_
      refine g_icmp_ne X nd8 (nmI_l (by decide)) (tgt := 22) dX11_result_12 (by decide) (fun hc12 => ?_) (fun hc12 => ?_)
      · replace hf := it_f hf hc12
        refine lv_iconst X.1 X.2.1 dX11_result_22 (v := iI (-1)) rfl ?_
        have hq := Option.some.inj hf; subst hq
        exact gRetXI X hH hS ⟨_, rfl⟩ (res := (-1)) (nmI_l (by decide)) ⟨Nat.le_of_ble_eq_true rfl, Nat.le_of_ble_eq_true rfl⟩ dX11_result_23
      · replace hf := it_t hf hc12
        refine lv_aload_n X.1 X.2.1 dX11_result_15 rfl (lv_at hl.1 0 rfl) ?_
        have nd16 : nmI (M0 9 v3_ 3) := hH.1.1 _ _ _
        refine g_get X cX0 hH (r := 9) (i := v3_) hv3_ rfl 3 (by decide) k_152 rfl (v := .int (iI (M0 9 v3_ 3))) rfl dX11_result_16 ?_
        refine lv_goto (tgt := 23) X.1 X.2.1 dX11_result_19 (by decide) ?_
        have hq := Option.some.inj hf; subst hq
        exact gRetXI X hH hS ⟨_, rfl⟩ (res := M0 9 v3_ 3) nd16 ⟨Nat.le_of_ble_eq_true rfl, Nat.le_of_ble_eq_true rfl⟩ dX11_result_23
theorem m_X11_about (l : Launch) (hl0 : l.stackTraces = false) (G : gG) (v1 : Int) (nv1 : nmI v1) (v2 : Int) (nv2 : nmI v2) (M0 : gM) (q : (Nat ⊕ (Int × gM))) (hf : f_X11_about v1 v2 M0 = some q) : gXMet l yX11_about cX11_about 4 (some .int) 7 140 2 12 G M0 [.ref (gAd G 0 0), .int (iI v1), .int (iI v2)] (gXi G (∃ z, q = Sum.inr z) (gvP q).1 (gvP q).2) (fun e9 => q = Sum.inl e9) := by
  refine gOfX (by decide) (by show _ ≤ 4; exact Nat.le_of_ble_eq_true rfl) rfl ?_
  intro p e s m below meth c X Z hnt hH ls hl
  replace hl : gLv ls 4 [(0, .ref (gAd G 0 0)), (1, .int (iI v1)), (2, .int (iI v2))] := hl
  have hS : va_S (gA G) s.heap s.heap [] := va_S.rf
  generalize hargs : ([.ref (gAd G 0 0), .int (iI v1), .int (iI v2)] : List Value).toArray = args at X ⊢
  clear hargs
  unfold f_X11_about at hf
  refine lv_aload_n X.1 X.2.1 dX11_about_0 rfl (lv_at hl.1 0 rfl) ?_
  refine lv_iload_n X.1 X.2.1 dX11_about_1 rfl (lv_at hl.1 1 rfl) ?_
  obtain ⟨r2, hq2, hf_⟩ := ob_e hf; clear hf; have hf := hf_; clear hf_
  rcases r2 with e8 | v2_
  · have hq := Option.some.inj hf; subst hq
    refine gGoXV (gRunVX X Z hH hS (As := [.int (iI v1)]) (m_X11_checkTarget l hl0 G v1 nv1 M0 _ hq2) calX11_checkTarget k_612 k_3 k_610 (by decide) cX11 rfl ⟨by decide, by decide⟩ rfl hl rfl (Nat.le_of_ble_eq_true rfl) ⟨Nat.le_of_ble_eq_true rfl, Nat.le_of_ble_eq_true rfl⟩ dX11_about_2) hS (fun E ce q9 H locs hE hH hS h1 h2 h3 => ?_) (fun H locs hok hH hS => ?_)
    · exact gOutX X hnt (by obtain ⟨e7, h7, h8⟩ := hE; exact ⟨e7, congrArg _ (Sum.inl.inj h7), h8⟩) hH hS h1 h2 h3 ⟨Nat.le_of_ble_eq_true rfl, Nat.le_of_ble_eq_true rfl⟩
    · obtain ⟨z, hz⟩ := hok; cases hz
  · replace hf := ox_i hf
    refine gGoXV (gRunVX X Z hH hS (As := [.int (iI v1)]) (m_X11_checkTarget l hl0 G v1 nv1 M0 _ hq2) calX11_checkTarget k_612 k_3 k_610 (by decide) cX11 rfl ⟨by decide, by decide⟩ rfl hl rfl (Nat.le_of_ble_eq_true rfl) ⟨Nat.le_of_ble_eq_true rfl, Nat.le_of_ble_eq_true rfl⟩ dX11_about_2) hS (fun E ce q9 H locs hE hH hS h1 h2 h3 => ?_) (fun H locs _ hH hS => ?_)
    · obtain ⟨e7, h7, h8⟩ := hE; cases h7
    · refine lv_iload_n X.1 X.2.1 dX11_about_5 rfl (lv_at hl.1 2 rfl) ?_
      refine lv_bipush X.1 X.2.1 dX11_about_6 (v := iI 6) (by decide) ?_
      refine gGoZ (gRunS X hH (As := [.int (iI v2), .int (iI 6)]) (m_X11_isBelow l G v2 nv2 6 (nmI_l (by decide)) M0 _ rfl) calX11_isBelow k_482 k_481 ⟨by decide, by decide⟩ rfl hl rfl (Nat.le_of_ble_eq_true rfl) ⟨Nat.le_of_ble_eq_true rfl, Nat.le_of_ble_eq_true rfl⟩ dX11_about_8) hS (fun H locs br8 hH hS => ?_)
      obtain ⟨r11, hq11, hf_⟩ := ob_e hf; clear hf; have hf := hf_; clear hf_
      rcases r11 with e8 | v11_
      · have hq := Option.some.inj hf; subst hq
        refine gGoXV (gRunSX X Z hH hS (As := [.int (iI ((f_X11_isBelow v2 6 M0)))]) (m_X11_checkArgument l hl0 G ((f_X11_isBelow v2 6 M0)) br8 M0 _ hq11) calX11_checkArgument k_485 k_484 ⟨by decide, by decide⟩ rfl hl rfl (Nat.le_of_ble_eq_true rfl) ⟨Nat.le_of_ble_eq_true rfl, Nat.le_of_ble_eq_true rfl⟩ dX11_about_11) hS (fun E ce q9 H locs hE hH hS h1 h2 h3 => ?_) (fun H locs hok hH hS => ?_)
        · exact gOutX X hnt (by obtain ⟨e7, h7, h8⟩ := hE; exact ⟨e7, congrArg _ (Sum.inl.inj h7), h8⟩) hH hS h1 h2 h3 ⟨Nat.le_of_ble_eq_true rfl, Nat.le_of_ble_eq_true rfl⟩
        · obtain ⟨z, hz⟩ := hok; cases hz
      · replace hf := ox_i hf
        refine gGoXV (gRunSX X Z hH hS (As := [.int (iI ((f_X11_isBelow v2 6 M0)))]) (m_X11_checkArgument l hl0 G ((f_X11_isBelow v2 6 M0)) br8 M0 _ hq11) calX11_checkArgument k_485 k_484 ⟨by decide, by decide⟩ rfl hl rfl (Nat.le_of_ble_eq_true rfl) ⟨Nat.le_of_ble_eq_true rfl, Nat.le_of_ble_eq_true rfl⟩ dX11_about_11) hS (fun E ce q9 H locs hE hH hS h1 h2 h3 => ?_) (fun H locs _ hH hS => ?_)
        · obtain ⟨e7, h7, h8⟩ := hE; cases h7
        · refine lv_aload_n X.1 X.2.1 dX11_about_14 rfl (lv_at hl.1 0 rfl) ?_
          refine g_get X cX11 hH (r := 0) (i := 0) (by decide) rfl 1 (by decide) k_442 rfl (v := .ref (gAd G 2 0)) rfl dX11_about_15 ?_
          refine lv_iload_n X.1 X.2.1 dX11_about_18 rfl (lv_at hl.1 1 rfl) ?_
          refine gGoR (gRunV X hH (As := [.int (iI v1)]) (m_X5_targetAt l G v1 nv1 M0 _ rfl) calX5_targetAt k_631 k_632 k_630 (by decide) cX5 rfl ⟨by decide, by decide⟩ rfl hl rfl (Nat.le_of_ble_eq_true rfl) ⟨Nat.le_of_ble_eq_true rfl, Nat.le_of_ble_eq_true rfl⟩ dX11_about_19) hS (fun H locs hr19 hH hS => ?_)
          replace hr19 : (f_X5_targetAt v1 M0) < 15 := hr19
          refine g_astore_n X (lv' := [(3, .ref (gAd G 7 ((f_X5_targetAt v1 M0)))), (0, .ref (gAd G 0 0)), (1, .int (iI v1)), (2, .int (iI v2))]) dX11_about_22 rfl hl (by decide) rfl (fun ls hl => ?_)
          refine lv_iload_n X.1 X.2.1 dX11_about_23 rfl (lv_at hl.1 3 rfl) ?_
          by_cases hs0 : v2 = 0
          · replace hf := it_t hf hs0
            refine lv_tableIn (tgt := 60) X.1 X.2.1 dX11_about_24 (by rw [iI_T nv2]; omega) (by rw [iI_T nv2]; omega) (by rw [iI_T nv2, hs0]; rfl) (by decide) ?_
            refine lv_aload_n X.1 X.2.1 dX11_about_60 rfl (lv_at hl.1 1 rfl) ?_
            refine g_get X cX11 hH (r := 0) (i := 0) (by decide) rfl 1 (by decide) k_442 rfl (v := .ref (gAd G 2 0)) rfl dX11_about_61 ?_
            obtain ⟨r64, hq64, hf_⟩ := ob_e hf; clear hf; have hf := hf_; clear hf_
            refine gGoI (gRunV X hH (As := []) (m_X5_soundTargets l G  M0 _ hq64) calX5_soundTargets k_952 k_953 k_951 (by decide) cX5 rfl ⟨by decide, by decide⟩ rfl hl rfl (Nat.le_of_ble_eq_true rfl) ⟨Nat.le_of_ble_eq_true rfl, Nat.le_of_ble_eq_true rfl⟩ dX11_about_64) hS (fun H locs nr64 hH hS => ?_)
            refine lv_iload_n X.1 X.2.1 dX11_about_67 rfl (lv_at hl.1 2 rfl) ?_
            refine gGoI (gRunS X hH (As := [.int (iI r64), .int (iI v1)]) (m_X11_bitOf l G r64 nr64 v1 nv1 M0 _ rfl) calX11_bitOf k_720 k_963 ⟨by decide, by decide⟩ rfl hl rfl (Nat.le_of_ble_eq_true rfl) ⟨Nat.le_of_ble_eq_true rfl, Nat.le_of_ble_eq_true rfl⟩ dX11_about_68) hS (fun H locs nr68 hH hS => ?_)
            have hq := Option.some.inj hf; subst hq
            exact gRetXI X hH hS ⟨_, rfl⟩ (res := (f_X11_bitOf r64 v1 M0)) nr68 ⟨Nat.le_of_ble_eq_true rfl, Nat.le_of_ble_eq_true rfl⟩ dX11_about_71
          replace hf := it_f hf hs0
          by_cases hs1 : v2 = 1
          · replace hf := it_t hf hs1
            refine lv_tableIn (tgt := 72) X.1 X.2.1 dX11_about_24 (by rw [iI_T nv2]; omega) (by rw [iI_T nv2]; omega) (by rw [iI_T nv2, hs1]; rfl) (by decide) ?_
            refine lv_aload_n X.1 X.2.1 dX11_about_72 rfl (lv_at hl.1 1 rfl) ?_
            refine g_get X cX11 hH (r := 0) (i := 0) (by decide) rfl 4 (by decide) k_445 rfl (v := .ref (gAd G 5 0)) rfl dX11_about_73 ?_
            refine lv_aload_n X.1 X.2.1 dX11_about_76 rfl (lv_at hl.1 0 rfl) ?_
            obtain ⟨r77, hq77, hf_⟩ := ob_e hf; clear hf; have hf := hf_; clear hf_
            refine gGoZ (gRunV X hH (As := [.ref (gAd G 7 ((f_X5_targetAt v1 M0)))]) (m_X4_isStale l G ((f_X5_targetAt v1 M0)) hr19 M0 _ hq77) calX4_isStale k_965 k_966 k_964 (by decide) cX4 rfl ⟨by decide, by decide⟩ rfl hl rfl (Nat.le_of_ble_eq_true rfl) ⟨Nat.le_of_ble_eq_true rfl, Nat.le_of_ble_eq_true rfl⟩ dX11_about_77) hS (fun H locs br77 hH hS => ?_)
            refine g_if_eq X (nmI_b br77) (tgt := 87) dX11_about_80 (by decide) (fun hc80 => ?_) (fun hc80 => ?_)
            · replace hf := it_t hf hc80
              refine lv_iconst X.1 X.2.1 dX11_about_87 (v := iI 0) rfl ?_
              have hq := Option.some.inj hf; subst hq
              exact gRetXI X hH hS ⟨_, rfl⟩ (res := 0) (nmI_l (by decide)) ⟨Nat.le_of_ble_eq_true rfl, Nat.le_of_ble_eq_true rfl⟩ dX11_about_88
            · replace hf := it_f hf hc80
              refine lv_iconst X.1 X.2.1 dX11_about_83 (v := iI 1) rfl ?_
              refine lv_goto (tgt := 88) X.1 X.2.1 dX11_about_84 (by decide) ?_
              have hq := Option.some.inj hf; subst hq
              exact gRetXI X hH hS ⟨_, rfl⟩ (res := 1) (nmI_l (by decide)) ⟨Nat.le_of_ble_eq_true rfl, Nat.le_of_ble_eq_true rfl⟩ dX11_about_88
          replace hf := it_f hf hs1
          by_cases hs2 : v2 = 2
          · replace hf := it_t hf hs2
            refine lv_tableIn (tgt := 89) X.1 X.2.1 dX11_about_24 (by rw [iI_T nv2]; omega) (by rw [iI_T nv2]; omega) (by rw [iI_T nv2, hs2]; rfl) (by decide) ?_
            refine lv_aload_n X.1 X.2.1 dX11_about_89 rfl (lv_at hl.1 0 rfl) ?_
            refine gGoZ (gRunV X hH (As := []) (m_X8_isInQuarantine l G ((f_X5_targetAt v1 M0)) hr19 M0 _ rfl) calX8_isInQuarantine k_915 k_916 k_994 hr19 cX8 rfl ⟨by decide, by decide⟩ rfl hl rfl (Nat.le_of_ble_eq_true rfl) ⟨Nat.le_of_ble_eq_true rfl, Nat.le_of_ble_eq_true rfl⟩ dX11_about_90) hS (fun H locs br90 hH hS => ?_)
            refine g_if_eq X (nmI_b br90) (tgt := 100) dX11_about_93 (by decide) (fun hc93 => ?_) (fun hc93 => ?_)
            · replace hf := it_t hf hc93
              refine lv_iconst X.1 X.2.1 dX11_about_100 (v := iI 0) rfl ?_
              have hq := Option.some.inj hf; subst hq
              exact gRetXI X hH hS ⟨_, rfl⟩ (res := 0) (nmI_l (by decide)) ⟨Nat.le_of_ble_eq_true rfl, Nat.le_of_ble_eq_true rfl⟩ dX11_about_101
            · replace hf := it_f hf hc93
              refine lv_iconst X.1 X.2.1 dX11_about_96 (v := iI 1) rfl ?_
              refine lv_goto (tgt := 101) X.1 X.2.1 dX11_about_97 (by decide) ?_
              have hq := Option.some.inj hf; subst hq
              exact gRetXI X hH hS ⟨_, rfl⟩ (res := 1) (nmI_l (by decide)) ⟨Nat.le_of_ble_eq_true rfl, Nat.le_of_ble_eq_true rfl⟩ dX11_about_101
          replace hf := it_f hf hs2
          by_cases hs3 : v2 = 3
          · replace hf := it_t hf hs3
            refine lv_tableIn (tgt := 102) X.1 X.2.1 dX11_about_24 (by rw [iI_T nv2]; omega) (by rw [iI_T nv2]; omega) (by rw [iI_T nv2, hs3]; rfl) (by decide) ?_
            refine lv_aload_n X.1 X.2.1 dX11_about_102 rfl (lv_at hl.1 1 rfl) ?_
            refine g_get X cX11 hH (r := 0) (i := 0) (by decide) rfl 4 (by decide) k_445 rfl (v := .ref (gAd G 5 0)) rfl dX11_about_103 ?_
            refine lv_aload_n X.1 X.2.1 dX11_about_106 rfl (lv_at hl.1 1 rfl) ?_
            refine g_get X cX11 hH (r := 0) (i := 0) (by decide) rfl 0 (by decide) k_441 rfl (v := .ref (gAd G 1 0)) rfl dX11_about_107 ?_
            have nd110 : nmI (M0 1 0 5) := hH.1.1 _ _ _
            refine g_get X cX7 hH (r := 1) (i := 0) (by decide) rfl 5 (by decide) k_75 rfl (v := .int (iI (M0 1 0 5))) rfl dX11_about_110 ?_
            obtain ⟨r113, hq113, hf_⟩ := ob_e hf; clear hf; have hf := hf_; clear hf_
            refine gGoI (gRunV X hH (As := [.int (iI (M0 1 0 5))]) (m_X4_goodTargets l G (M0 1 0 5) nd110 M0 _ hq113) calX4_goodTargets k_996 k_997 k_995 (by decide) cX4 rfl ⟨by decide, by decide⟩ rfl hl rfl (Nat.le_of_ble_eq_true rfl) ⟨Nat.le_of_ble_eq_true rfl, Nat.le_of_ble_eq_true rfl⟩ dX11_about_113) hS (fun H locs nr113 hH hS => ?_)
            refine lv_iload_n X.1 X.2.1 dX11_about_116 rfl (lv_at hl.1 2 rfl) ?_
            refine gGoI (gRunS X hH (As := [.int (iI r113.1), .int (iI v1)]) (m_X11_bitOf l G r113.1 nr113 v1 nv1 r113.2 _ rfl) calX11_bitOf k_720 k_963 ⟨by decide, by decide⟩ rfl hl rfl (Nat.le_of_ble_eq_true rfl) ⟨Nat.le_of_ble_eq_true rfl, Nat.le_of_ble_eq_true rfl⟩ dX11_about_117) hS (fun H locs nr117 hH hS => ?_)
            have hq := Option.some.inj hf; subst hq
            exact gRetXI X hH hS ⟨_, rfl⟩ (res := (f_X11_bitOf r113.1 v1 r113.2)) nr117 ⟨Nat.le_of_ble_eq_true rfl, Nat.le_of_ble_eq_true rfl⟩ dX11_about_120
          replace hf := it_f hf hs3
          by_cases hs4 : v2 = 4
          · replace hf := it_t hf hs4
            refine lv_tableIn (tgt := 121) X.1 X.2.1 dX11_about_24 (by rw [iI_T nv2]; omega) (by rw [iI_T nv2]; omega) (by rw [iI_T nv2, hs4]; rfl) (by decide) ?_
            refine lv_aload_n X.1 X.2.1 dX11_about_121 rfl (lv_at hl.1 1 rfl) ?_
            refine g_get X cX11 hH (r := 0) (i := 0) (by decide) rfl 4 (by decide) k_445 rfl (v := .ref (gAd G 5 0)) rfl dX11_about_122 ?_
            refine lv_aload_n X.1 X.2.1 dX11_about_125 rfl (lv_at hl.1 0 rfl) ?_
            obtain ⟨r126, hq126, hf_⟩ := ob_e hf; clear hf; have hf := hf_; clear hf_
            refine gGoI (gRunV X hH (As := [.ref (gAd G 7 ((f_X5_targetAt v1 M0)))]) (m_X4_digestOf l G ((f_X5_targetAt v1 M0)) hr19 M0 _ hq126) calX4_digestOf k_1000 k_1001 k_999 (by decide) cX4 rfl ⟨by decide, by decide⟩ rfl hl rfl (Nat.le_of_ble_eq_true rfl) ⟨Nat.le_of_ble_eq_true rfl, Nat.le_of_ble_eq_true rfl⟩ dX11_about_126) hS (fun H locs nr126 hH hS => ?_)
            have hq := Option.some.inj hf; subst hq
            exact gRetXI X hH hS ⟨_, rfl⟩ (res := r126.1) nr126 ⟨Nat.le_of_ble_eq_true rfl, Nat.le_of_ble_eq_true rfl⟩ dX11_about_129
          replace hf := it_f hf hs4
          refine lv_tableOut (tgt := 130) X.1 X.2.1 dX11_about_24 (by rw [iI_T nv2]; omega) (by decide) ?_
          refine lv_aload_n X.1 X.2.1 dX11_about_130 rfl (lv_at hl.1 1 rfl) ?_
          refine g_get X cX11 hH (r := 0) (i := 0) (by decide) rfl 3 (by decide) k_444 rfl (v := .ref (gAd G 4 0)) rfl dX11_about_131 ?_
          refine lv_aload_n X.1 X.2.1 dX11_about_134 rfl (lv_at hl.1 0 rfl) ?_
          obtain ⟨r135, hq135, hf_⟩ := ob_e hf; clear hf; have hf := hf_; clear hf_
          refine gGoI (gRunV X hH (As := [.ref (gAd G 7 ((f_X5_targetAt v1 M0)))]) (m_X2_wayOf l G ((f_X5_targetAt v1 M0)) hr19 M0 _ hq135) calX2_wayOf k_1005 k_1006 k_1004 (by decide) cX2 rfl ⟨by decide, by decide⟩ rfl hl rfl (Nat.le_of_ble_eq_true rfl) ⟨Nat.le_of_ble_eq_true rfl, Nat.le_of_ble_eq_true rfl⟩ dX11_about_135) hS (fun H locs nr135 hH hS => ?_)
          have hq := Option.some.inj hf; subst hq
          exact gRetXI X hH hS ⟨_, rfl⟩ (res := r135.1) nr135 ⟨Nat.le_of_ble_eq_true rfl, Nat.le_of_ble_eq_true rfl⟩ dX11_about_138
theorem m_X11_proof (l : Launch) (hl0 : l.stackTraces = false) (G : gG) (v1 : Int) (nv1 : nmI v1) (M0 : gM) (q : (Nat ⊕ (Int × gM))) (hf : f_X11_proof v1 M0 = some q) : gXMet l yX11_proof cX11_proof 2 (some .int) 7 111 2 12 G M0 [.ref (gAd G 0 0), .int (iI v1)] (gXi G (∃ z, q = Sum.inr z) (gvP q).1 (gvP q).2) (fun e9 => q = Sum.inl e9) := by
  refine gOfX (by decide) (by show _ ≤ 2; exact Nat.le_of_ble_eq_true rfl) rfl ?_
  intro p e s m below meth c X Z hnt hH ls hl
  replace hl : gLv ls 2 [(0, .ref (gAd G 0 0)), (1, .int (iI v1))] := hl
  have hS : va_S (gA G) s.heap s.heap [] := va_S.rf
  generalize hargs : ([.ref (gAd G 0 0), .int (iI v1)] : List Value).toArray = args at X ⊢
  clear hargs
  unfold f_X11_proof at hf
  refine lv_aload_n X.1 X.2.1 dX11_proof_0 rfl (lv_at hl.1 0 rfl) ?_
  refine lv_iload_n X.1 X.2.1 dX11_proof_1 rfl (lv_at hl.1 1 rfl) ?_
  obtain ⟨r2, hq2, hf_⟩ := ob_e hf; clear hf; have hf := hf_; clear hf_
  rcases r2 with e8 | v2_
  · have hq := Option.some.inj hf; subst hq
    refine gGoXV (gRunVX X Z hH hS (As := [.int (iI v1)]) (m_X11_checkTarget l hl0 G v1 nv1 M0 _ hq2) calX11_checkTarget k_612 k_3 k_610 (by decide) cX11 rfl ⟨by decide, by decide⟩ rfl hl rfl (Nat.le_of_ble_eq_true rfl) ⟨Nat.le_of_ble_eq_true rfl, Nat.le_of_ble_eq_true rfl⟩ dX11_proof_2) hS (fun E ce q9 H locs hE hH hS h1 h2 h3 => ?_) (fun H locs hok hH hS => ?_)
    · exact gOutX X hnt (by obtain ⟨e7, h7, h8⟩ := hE; exact ⟨e7, congrArg _ (Sum.inl.inj h7), h8⟩) hH hS h1 h2 h3 ⟨Nat.le_of_ble_eq_true rfl, Nat.le_of_ble_eq_true rfl⟩
    · obtain ⟨z, hz⟩ := hok; cases hz
  · replace hf := ox_i hf
    refine gGoXV (gRunVX X Z hH hS (As := [.int (iI v1)]) (m_X11_checkTarget l hl0 G v1 nv1 M0 _ hq2) calX11_checkTarget k_612 k_3 k_610 (by decide) cX11 rfl ⟨by decide, by decide⟩ rfl hl rfl (Nat.le_of_ble_eq_true rfl) ⟨Nat.le_of_ble_eq_true rfl, Nat.le_of_ble_eq_true rfl⟩ dX11_proof_2) hS (fun E ce q9 H locs hE hH hS h1 h2 h3 => ?_) (fun H locs _ hH hS => ?_)
    · obtain ⟨e7, h7, h8⟩ := hE; cases h7
    · refine lv_aload_n X.1 X.2.1 dX11_proof_5 rfl (lv_at hl.1 0 rfl) ?_
      refine g_get X cX11 hH (r := 0) (i := 0) (by decide) rfl 1 (by decide) k_442 rfl (v := .ref (gAd G 2 0)) rfl dX11_proof_6 ?_
      refine lv_aload_n X.1 X.2.1 dX11_proof_9 rfl (lv_at hl.1 0 rfl) ?_
      refine g_get X cX11 hH (r := 0) (i := 0) (by decide) rfl 1 (by decide) k_442 rfl (v := .ref (gAd G 2 0)) rfl dX11_proof_10 ?_
      refine lv_iconst X.1 X.2.1 dX11_proof_13 (v := iI 1) rfl ?_
      refine lv_iload_n X.1 X.2.1 dX11_proof_14 rfl (lv_at hl.1 1 rfl) ?_
      refine g_ishl X dX11_proof_15 ?_
      obtain ⟨r16, hq16, hf_⟩ := ob_e hf; clear hf; have hf := hf_; clear hf_
      refine gGoI (gRunV X hH (As := [.int (iI (gShl 1 v1))]) (m_X5_withNeeded l G (gShl 1 v1) (nmI_shl _ _) M0 _ hq16) calX5_withNeeded k_716 k_717 k_1012 (by decide) cX5 rfl ⟨by decide, by decide⟩ rfl hl rfl (Nat.le_of_ble_eq_true rfl) ⟨Nat.le_of_ble_eq_true rfl, Nat.le_of_ble_eq_true rfl⟩ dX11_proof_16) hS (fun H locs nr16 hH hS => ?_)
      obtain ⟨r19, hq19, hf_⟩ := ob_e hf; clear hf; have hf := hf_; clear hf_
      refine gGoZ (gRunV X hH (As := [.int (iI r16)]) (m_X5_isAllDone l G r16 nr16 M0 _ hq19) calX5_isAllDone k_1014 k_1015 k_1013 (by decide) cX5 rfl ⟨by decide, by decide⟩ rfl hl rfl (Nat.le_of_ble_eq_true rfl) ⟨Nat.le_of_ble_eq_true rfl, Nat.le_of_ble_eq_true rfl⟩ dX11_proof_19) hS (fun H locs br19 hH hS => ?_)
      obtain ⟨r22, hq22, hf_⟩ := ob_e hf; clear hf; have hf := hf_; clear hf_
      rcases r22 with e8 | v22_
      · have hq := Option.some.inj hf; subst hq
        refine gGoXV (gRunSX X Z hH hS (As := [.int (iI r19)]) (m_X11_checkState l hl0 G r19 br19 M0 _ hq22) calX11_checkState k_583 k_582 ⟨by decide, by decide⟩ rfl hl rfl (Nat.le_of_ble_eq_true rfl) ⟨Nat.le_of_ble_eq_true rfl, Nat.le_of_ble_eq_true rfl⟩ dX11_proof_22) hS (fun E ce q9 H locs hE hH hS h1 h2 h3 => ?_) (fun H locs hok hH hS => ?_)
        · exact gOutX X hnt (by obtain ⟨e7, h7, h8⟩ := hE; exact ⟨e7, congrArg _ (Sum.inl.inj h7), h8⟩) hH hS h1 h2 h3 ⟨Nat.le_of_ble_eq_true rfl, Nat.le_of_ble_eq_true rfl⟩
        · obtain ⟨z, hz⟩ := hok; cases hz
      · replace hf := ox_i hf
        refine gGoXV (gRunSX X Z hH hS (As := [.int (iI r19)]) (m_X11_checkState l hl0 G r19 br19 M0 _ hq22) calX11_checkState k_583 k_582 ⟨by decide, by decide⟩ rfl hl rfl (Nat.le_of_ble_eq_true rfl) ⟨Nat.le_of_ble_eq_true rfl, Nat.le_of_ble_eq_true rfl⟩ dX11_proof_22) hS (fun E ce q9 H locs hE hH hS h1 h2 h3 => ?_) (fun H locs _ hH hS => ?_)
        · obtain ⟨e7, h7, h8⟩ := hE; cases h7
        · refine lv_aload_n X.1 X.2.1 dX11_proof_25 rfl (lv_at hl.1 0 rfl) ?_
          refine g_get X cX11 hH (r := 0) (i := 0) (by decide) rfl 1 (by decide) k_442 rfl (v := .ref (gAd G 2 0)) rfl dX11_proof_26 ?_
          refine lv_iload_n X.1 X.2.1 dX11_proof_29 rfl (lv_at hl.1 1 rfl) ?_
          obtain ⟨r30, hq30, hf_⟩ := ob_e hf; clear hf; have hf := hf_; clear hf_
          refine gGoI (gRunV X hH (As := [.int (iI v1)]) (m_X5_proofOf l G v1 nv1 M0 _ hq30) calX5_proofOf k_1019 k_1020 k_1018 (by decide) cX5 rfl ⟨by decide, by decide⟩ rfl hl rfl (Nat.le_of_ble_eq_true rfl) ⟨Nat.le_of_ble_eq_true rfl, Nat.le_of_ble_eq_true rfl⟩ dX11_proof_30) hS (fun H locs nr30 hH hS => ?_)
          have hq := Option.some.inj hf; subst hq
          exact gRetXI X hH hS ⟨_, rfl⟩ (res := r30.1) nr30 ⟨Nat.le_of_ble_eq_true rfl, Nat.le_of_ble_eq_true rfl⟩ dX11_proof_33
theorem m_X11_count (l : Launch) (hl0 : l.stackTraces = false) (G : gG) (v1 : Int) (nv1 : nmI v1) (M0 : gM) (q : (Nat ⊕ Int)) (hf : f_X11_count v1 M0 = some q) : gXMet l yX11_count cX11_count 2 (some .int) 7 110 1 6 G M0 [.ref (gAd G 0 0), .int (iI v1)] (gXi G (∃ z, q = Sum.inr z) (gvI q) M0) (fun e9 => q = Sum.inl e9) := by
  refine gOfX (by decide) (by show _ ≤ 2; exact Nat.le_of_ble_eq_true rfl) rfl ?_
  intro p e s m below meth c X Z hnt hH ls hl
  replace hl : gLv ls 2 [(0, .ref (gAd G 0 0)), (1, .int (iI v1))] := hl
  have hS : va_S (gA G) s.heap s.heap [] := va_S.rf
  generalize hargs : ([.ref (gAd G 0 0), .int (iI v1)] : List Value).toArray = args at X ⊢
  clear hargs
  unfold f_X11_count at hf
  refine lv_iload_n X.1 X.2.1 dX11_count_0 rfl (lv_at hl.1 1 rfl) ?_
  refine lv_iconst X.1 X.2.1 dX11_count_1 (v := iI 5) rfl ?_
  refine gGoZ (gRunS X hH (As := [.int (iI v1), .int (iI 5)]) (m_X11_isBelow l G v1 nv1 5 (nmI_l (by decide)) M0 _ rfl) calX11_isBelow k_482 k_481 ⟨by decide, by decide⟩ rfl hl rfl (Nat.le_of_ble_eq_true rfl) ⟨Nat.le_of_ble_eq_true rfl, Nat.le_of_ble_eq_true rfl⟩ dX11_count_2) hS (fun H locs br2 hH hS => ?_)
  obtain ⟨r5, hq5, hf_⟩ := ob_e hf; clear hf; have hf := hf_; clear hf_
  rcases r5 with e8 | v5_
  · have hq := Option.some.inj hf; subst hq
    refine gGoXV (gRunSX X Z hH hS (As := [.int (iI ((f_X11_isBelow v1 5 M0)))]) (m_X11_checkArgument l hl0 G ((f_X11_isBelow v1 5 M0)) br2 M0 _ hq5) calX11_checkArgument k_485 k_484 ⟨by decide, by decide⟩ rfl hl rfl (Nat.le_of_ble_eq_true rfl) ⟨Nat.le_of_ble_eq_true rfl, Nat.le_of_ble_eq_true rfl⟩ dX11_count_5) hS (fun E ce q9 H locs hE hH hS h1 h2 h3 => ?_) (fun H locs hok hH hS => ?_)
    · exact gOutX X hnt (by obtain ⟨e7, h7, h8⟩ := hE; exact ⟨e7, congrArg _ (Sum.inl.inj h7), h8⟩) hH hS h1 h2 h3 ⟨Nat.le_of_ble_eq_true rfl, Nat.le_of_ble_eq_true rfl⟩
    · obtain ⟨z, hz⟩ := hok; cases hz
  · replace hf := ox_i hf
    refine gGoXV (gRunSX X Z hH hS (As := [.int (iI ((f_X11_isBelow v1 5 M0)))]) (m_X11_checkArgument l hl0 G ((f_X11_isBelow v1 5 M0)) br2 M0 _ hq5) calX11_checkArgument k_485 k_484 ⟨by decide, by decide⟩ rfl hl rfl (Nat.le_of_ble_eq_true rfl) ⟨Nat.le_of_ble_eq_true rfl, Nat.le_of_ble_eq_true rfl⟩ dX11_count_5) hS (fun E ce q9 H locs hE hH hS h1 h2 h3 => ?_) (fun H locs _ hH hS => ?_)
    · obtain ⟨e7, h7, h8⟩ := hE; cases h7
    · refine lv_aload_n X.1 X.2.1 dX11_count_8 rfl (lv_at hl.1 0 rfl) ?_
      refine g_get X cX11 hH (r := 0) (i := 0) (by decide) rfl 3 (by decide) k_444 rfl (v := .ref (gAd G 4 0)) rfl dX11_count_9 ?_
      refine g_get X cX2 hH (r := 4) (i := 0) (by decide) rfl 5 (by decide) k_388 rfl (v := .ref (gAd G 24 0)) rfl dX11_count_12 ?_
      refine lv_iload_n X.1 X.2.1 dX11_count_15 rfl (lv_at hl.1 1 rfl) ?_
      refine gGoI (gRunS X hH (As := [.ref (gAd G 24 0), .int (iI v1)]) (m_X11_at l G 24 0 5 (by decide) gArr_24 v1 nv1 M0 _ rfl) calX11_at k_563 k_562 ⟨by decide, by decide⟩ rfl hl rfl (Nat.le_of_ble_eq_true rfl) ⟨Nat.le_of_ble_eq_true rfl, Nat.le_of_ble_eq_true rfl⟩ dX11_count_16) hS (fun H locs nr16 hH hS => ?_)
      have hq := Option.some.inj hf; subst hq
      exact gRetXI X hH hS ⟨_, rfl⟩ (res := (f_X11_at 24 0 5 v1 M0)) nr16 ⟨Nat.le_of_ble_eq_true rfl, Nat.le_of_ble_eq_true rfl⟩ dX11_count_19
