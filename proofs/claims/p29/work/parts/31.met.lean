theorem m_X11_setWays (l : Launch) (G : gG) (v1 : Int) (bv1 : v1 = 0 ∨ v1 = 1) (v2 : Int) (bv2 : v2 = 0 ∨ v2 = 1) (M : gM) (q : gM) (hf : f_X11_setWays v1 v2 M = q) : gMet l yX11_setWays cX11_setWays 3 none 0 0 G M [.ref (gAd G 0 0), .int (iI v1), .int (iI v2)] (gQv G q) := by
  refine gOfW (by decide) (by show _ ≤ 3; exact Nat.le_of_ble_eq_true rfl) rfl ?_
  intro p e s m below meth c X hH ls hl
  replace hl : gLv ls 3 [(0, .ref (gAd G 0 0)), (1, .int (iI v1)), (2, .int (iI v2))] := hl
  have hS : va_S (gA G) s.heap s.heap [] := va_S.rf
  generalize hargs : ([.ref (gAd G 0 0), .int (iI v1), .int (iI v2)] : List Value).toArray = args at X ⊢
  clear hargs
  unfold f_X11_setWays at hf
  refine lv_aload_n X.1 X.2.1 dX11_setWays_0 rfl (lv_at hl.1 0 rfl) ?_
  refine g_get X cX11 hH (r := 0) (i := 0) (by decide) rfl 3 (by decide) k_444 rfl (v := .ref (gAd G 4 0)) rfl dX11_setWays_1 ?_
  refine lv_iload_n X.1 X.2.1 dX11_setWays_4 rfl (lv_at hl.1 1 rfl) ?_
  refine g_putZ X cX2 hH hS (r := 4) (i := 0) (by decide) rfl 9 (by decide) k_394 rfl rfl rfl (Nat.le_of_ble_eq_true rfl) (x := v1) bv1 rfl dX11_setWays_5 (fun H locs hH hS => ?_)
  refine lv_aload_n X.1 X.2.1 dX11_setWays_8 rfl (lv_at hl.1 0 rfl) ?_
  refine g_get X cX11 hH (r := 0) (i := 0) (by decide) rfl 3 (by decide) k_444 rfl (v := .ref (gAd G 4 0)) rfl dX11_setWays_9 ?_
  refine lv_iload_n X.1 X.2.1 dX11_setWays_12 rfl (lv_at hl.1 2 rfl) ?_
  refine g_putZ X cX2 hH hS (r := 4) (i := 0) (by decide) rfl 10 (by decide) k_395 rfl rfl rfl (Nat.le_of_ble_eq_true rfl) (x := v2) bv2 rfl dX11_setWays_13 (fun H locs hH hS => ?_)
  subst hf
  exact gRetV X hH hS dX11_setWays_16
theorem m_X11_isBelow (l : Launch) (G : gG) (v0 : Int) (nv0 : nmI v0) (v1 : Int) (nv1 : nmI v1) (M : gM) (q : (Int)) (hf : f_X11_isBelow v0 v1 M = q) : gMet l yX11_isBelow cX11_isBelow 2 (some .boolean) 0 0 G M [.int (iI v0), .int (iI v1)] (gQz G q M) := by
  refine gOfW (by decide) (by show _ ≤ 2; exact Nat.le_of_ble_eq_true rfl) rfl ?_
  intro p e s m below meth c X hH ls hl
  replace hl : gLv ls 2 [(0, .int (iI v0)), (1, .int (iI v1))] := hl
  have hS : va_S (gA G) s.heap s.heap [] := va_S.rf
  generalize hargs : ([.int (iI v0), .int (iI v1)] : List Value).toArray = args at X ⊢
  clear hargs
  unfold f_X11_isBelow at hf
  refine lv_iload_n X.1 X.2.1 dX11_isBelow_0 rfl (lv_at hl.1 0 rfl) ?_
  refine g_if_lt X nv0 (tgt := 13) dX11_isBelow_1 (by decide) (fun hc1 => ?_) (fun hc1 => ?_)
  · replace hf := it_t hf hc1
    refine lv_iconst X.1 X.2.1 dX11_isBelow_13 (v := iI 0) rfl ?_
    subst hf
    exact gRetZ X hH hS (res := 0) (by decide) dX11_isBelow_14
  · replace hf := it_f hf hc1
    refine lv_iload_n X.1 X.2.1 dX11_isBelow_4 rfl (lv_at hl.1 0 rfl) ?_
    refine lv_iload_n X.1 X.2.1 dX11_isBelow_5 rfl (lv_at hl.1 1 rfl) ?_
    refine g_icmp_ge X nv0 nv1 (tgt := 13) dX11_isBelow_6 (by decide) (fun hc6 => ?_) (fun hc6 => ?_)
    · replace hf := it_f hf hc6
      refine lv_iconst X.1 X.2.1 dX11_isBelow_13 (v := iI 0) rfl ?_
      subst hf
      exact gRetZ X hH hS (res := 0) (by decide) dX11_isBelow_14
    · replace hf := it_t hf hc6
      refine lv_iconst X.1 X.2.1 dX11_isBelow_9 (v := iI 1) rfl ?_
      refine lv_goto (tgt := 14) X.1 X.2.1 dX11_isBelow_10 (by decide) ?_
      subst hf
      exact gRetZ X hH hS (res := 1) (by decide) dX11_isBelow_14
theorem m_X11_at (l : Launch) (G : gG) (r : Nat) (i : Nat) (rn : Nat) (hi : i < gCnt r) (hA : gArr r rn) (v1 : Int) (nv1 : nmI v1) (M : gM) (q : (Int)) (hf : f_X11_at r i rn v1 M = q) : gMet l yX11_at cX11_at 2 (some .int) 0 0 G M [.ref (gAd G r i), .int (iI v1)] (gQi G q M) := by
  refine gOfW (by decide) (by show _ ≤ 2; exact Nat.le_of_ble_eq_true rfl) rfl ?_
  intro p e s m below meth c X hH ls hl
  replace hl : gLv ls 2 [(0, .ref (gAd G r i)), (1, .int (iI v1))] := hl
  have hS : va_S (gA G) s.heap s.heap [] := va_S.rf
  generalize hargs : ([.ref (gAd G r i), .int (iI v1)] : List Value).toArray = args at X ⊢
  clear hargs
  unfold f_X11_at at hf
  have hr := hA
  have hn : rn < 2147483648 := hA.2.2.1
  refine lv_iload_n X.1 X.2.1 dX11_at_0 rfl (lv_at hl.1 1 rfl) ?_
  refine g_if_lt X nv1 (tgt := 16) dX11_at_1 (by decide) (fun hc1 => ?_) (fun hc1 => ?_)
  · replace hf := it_t hf hc1
    refine lv_iconst X.1 X.2.1 dX11_at_16 (v := iI (-1)) rfl ?_
    subst hf
    exact gRetI X hH hS (res := (-1)) (nmI_l (by decide)) dX11_at_17
  · replace hf := it_f hf hc1
    refine lv_iload_n X.1 X.2.1 dX11_at_4 rfl (lv_at hl.1 1 rfl) ?_
    refine lv_aload_n X.1 X.2.1 dX11_at_5 rfl (lv_at hl.1 0 rfl) ?_
    refine g_alen X hH (r := r) (i := i) hi (hr.1 G i _) (t0 := 0) rfl (n := (rn : Int)) (iI_nat _) dX11_at_6 ?_
    refine g_icmp_ge X nv1 (nmI_nat hn) (tgt := 16) dX11_at_7 (by decide) (fun hc7 => ?_) (fun hc7 => ?_)
    · replace hf := it_f hf hc7
      refine lv_iconst X.1 X.2.1 dX11_at_16 (v := iI (-1)) rfl ?_
      subst hf
      exact gRetI X hH hS (res := (-1)) (nmI_l (by decide)) dX11_at_17
    · replace hf := it_t hf hc7
      refine lv_aload_n X.1 X.2.1 dX11_at_10 rfl (lv_at hl.1 0 rfl) ?_
      refine lv_iload_n X.1 X.2.1 dX11_at_11 rfl (lv_at hl.1 1 rfl) ?_
      have nd12 : nmI (M r i v1.toNat) := hH.1.1 _ _ _
      refine g_iald X hH (r := r) (i := i) hi (hr.1 G i _) nv1 ⟨by omega, by omega⟩ (v := M r i v1.toNat) rfl dX11_at_12 ?_
      refine lv_goto (tgt := 17) X.1 X.2.1 dX11_at_13 (by decide) ?_
      subst hf
      exact gRetI X hH hS (res := M r i v1.toNat) nd12 dX11_at_17
theorem m_X11_store (l : Launch) (G : gG) (r : Nat) (i : Nat) (rn : Nat) (hi : i < gCnt r) (hA : gArr r rn) (v1 : Int) (nv1 : nmI v1) (v2 : Int) (nv2 : nmI v2) (M : gM) (q : gM) (hf : f_X11_store r i rn v1 v2 M = q) : gMet l yX11_store cX11_store 3 none 0 0 G M [.ref (gAd G r i), .int (iI v1), .int (iI v2)] (gQv G q) := by
  refine gOfW (by decide) (by show _ ≤ 3; exact Nat.le_of_ble_eq_true rfl) rfl ?_
  intro p e s m below meth c X hH ls hl
  replace hl : gLv ls 3 [(0, .ref (gAd G r i)), (1, .int (iI v1)), (2, .int (iI v2))] := hl
  have hS : va_S (gA G) s.heap s.heap [] := va_S.rf
  generalize hargs : ([.ref (gAd G r i), .int (iI v1), .int (iI v2)] : List Value).toArray = args at X ⊢
  clear hargs
  unfold f_X11_store at hf
  have hr := hA
  have hn : rn < 2147483648 := hA.2.2.1
  refine lv_iload_n X.1 X.2.1 dX11_store_0 rfl (lv_at hl.1 1 rfl) ?_
  refine g_if_lt X nv1 (tgt := 14) dX11_store_1 (by decide) (fun hc1 => ?_) (fun hc1 => ?_)
  · replace hf := it_t hf hc1
    subst hf
    exact gRetV X hH hS dX11_store_14
  · replace hf := it_f hf hc1
    refine lv_iload_n X.1 X.2.1 dX11_store_4 rfl (lv_at hl.1 1 rfl) ?_
    refine lv_aload_n X.1 X.2.1 dX11_store_5 rfl (lv_at hl.1 0 rfl) ?_
    refine g_alen X hH (r := r) (i := i) hi (hr.1 G i _) (t0 := 0) rfl (n := (rn : Int)) (iI_nat _) dX11_store_6 ?_
    refine g_icmp_ge X nv1 (nmI_nat hn) (tgt := 14) dX11_store_7 (by decide) (fun hc7 => ?_) (fun hc7 => ?_)
    · replace hf := it_f hf hc7
      subst hf
      exact gRetV X hH hS dX11_store_14
    · replace hf := it_t hf hc7
      refine lv_aload_n X.1 X.2.1 dX11_store_10 rfl (lv_at hl.1 0 rfl) ?_
      refine lv_iload_n X.1 X.2.1 dX11_store_11 rfl (lv_at hl.1 1 rfl) ?_
      refine lv_iload_n X.1 X.2.1 dX11_store_12 rfl (lv_at hl.1 2 rfl) ?_
      refine g_iast X hH hS (r := r) (i := i) hi (hr.1 G i) nv1 ⟨by omega, by omega⟩ nv2 (hr.2.1 _) hr.2.2.2 dX11_store_13 (fun H locs hH hS => ?_)
      subst hf
      exact gRetV X hH hS dX11_store_14
theorem m_X11_exchange (l : Launch) (G : gG) (r : Nat) (i : Nat) (rn : Nat) (hi : i < gCnt r) (hA : gArr r rn) (v1 : Int) (nv1 : nmI v1) (v2 : Int) (nv2 : nmI v2) (M : gM) (q : (Int × gM)) (hf : f_X11_exchange r i rn v1 v2 M = q) : gMet l yX11_exchange cX11_exchange 4 (some .int) 1 22 G M [.ref (gAd G r i), .int (iI v1), .int (iI v2)] (gQi G q.1 q.2) := by
  refine gOfW (by decide) (by show _ ≤ 4; exact Nat.le_of_ble_eq_true rfl) rfl ?_
  intro p e s m below meth c X hH ls hl
  replace hl : gLv ls 4 [(0, .ref (gAd G r i)), (1, .int (iI v1)), (2, .int (iI v2))] := hl
  have hS : va_S (gA G) s.heap s.heap [] := va_S.rf
  generalize hargs : ([.ref (gAd G r i), .int (iI v1), .int (iI v2)] : List Value).toArray = args at X ⊢
  clear hargs
  unfold f_X11_exchange at hf
  have hr := hA
  have hn : rn < 2147483648 := hA.2.2.1
  refine lv_aload_n X.1 X.2.1 dX11_exchange_0 rfl (lv_at hl.1 0 rfl) ?_
  refine lv_iload_n X.1 X.2.1 dX11_exchange_1 rfl (lv_at hl.1 1 rfl) ?_
  refine gGoI (gRunS X hH (As := [.ref (gAd G r i), .int (iI v1)]) (m_X11_at l G r i rn hi hr v1 nv1 M _ rfl) calX11_at k_563 k_562 ⟨by decide, by decide⟩ rfl hl rfl (Nat.le_of_ble_eq_true rfl) ⟨Nat.le_of_ble_eq_true rfl, Nat.le_of_ble_eq_true rfl⟩ dX11_exchange_2) hS (fun H locs nr2 hH hS => ?_)
  refine g_istore_n X (lv' := [(3, .int (iI ((f_X11_at r i rn v1 M)))), (0, .ref (gAd G r i)), (1, .int (iI v1)), (2, .int (iI v2))]) dX11_exchange_5 rfl hl (by decide) rfl (fun ls hl => ?_)
  refine lv_aload_n X.1 X.2.1 dX11_exchange_6 rfl (lv_at hl.1 1 rfl) ?_
  refine lv_iload_n X.1 X.2.1 dX11_exchange_7 rfl (lv_at hl.1 2 rfl) ?_
  refine lv_iload_n X.1 X.2.1 dX11_exchange_8 rfl (lv_at hl.1 3 rfl) ?_
  refine gGoV (gRunS X hH (As := [.ref (gAd G r i), .int (iI v1), .int (iI v2)]) (m_X11_store l G r i rn hi hr v1 nv1 v2 nv2 M _ rfl) calX11_store k_566 k_565 ⟨by decide, by decide⟩ rfl hl rfl (Nat.le_of_ble_eq_true rfl) ⟨Nat.le_of_ble_eq_true rfl, Nat.le_of_ble_eq_true rfl⟩ dX11_exchange_9) hS (fun H locs hH hS => ?_)
  refine lv_iload_n X.1 X.2.1 dX11_exchange_12 rfl (lv_at hl.1 0 rfl) ?_
  subst hf
  exact gRetI X hH hS (res := (f_X11_at r i rn v1 M)) nr2 dX11_exchange_13
theorem w_X7_forgetFirstChange_L2 {G : gG} {p : Program} {l : Launch} {e : Env} {s : State} {m : MethodId} {args : Array Value} {below : List Frame} {meth : Method} {c : Code} (X : gX G p s m args meth c RX7 cX7_forgetFirstChange 2 none (gWs yX7_forgetFirstChange cX7_forgetFirstChange 2 none)) (k52 : gM → Option gM) (q : gM) (hk52 : ∀  (M : gM), k52 M = some q → ∀ (H : Heap) (locs : List Loc) (ls : Array Slot), gH G M H → va_S (gA G) s.heap H locs → gLv ls 2 [(0, .ref (gAd G 1 0))] → W p l e { frames := 1, cells := 0, slots := 0, locals := 22 } s m args below meth c H locs 0 0 (MQ below (gQv G q) args s 0 0 (gA G)) (F0 m 52 ls [])) : ∀ (n : Nat) (x1 : Int) (nx1 : nmI x1) (M : gM), f_X7_forgetFirstChange_L2 k52 n x1 M = some q → ∀ (H : Heap) (locs : List Loc) (ls : Array Slot), gH G M H → va_S (gA G) s.heap H locs → gLv ls 2 [(0, .ref (gAd G 1 0)), (1, .int (iI x1))] → W p l e { frames := 1, cells := 0, slots := 0, locals := 22 } s m args below meth c H locs 0 0 (MQ below (gQv G q) args s 0 0 (gA G)) (F0 m 2 ls []) := by
  intro n
  induction n with
  | zero =>
    intro x1 nx1 M hf
    cases hf
  | succ n ih =>
    intro x1 nx1 M hf H locs ls hH hS hl
    rw [f_X7_forgetFirstChange_L2] at hf
    refine lv_iload_n X.1 X.2.1 dX7_forgetFirstChange_2 rfl (lv_at hl.1 1 rfl) ?_
    refine lv_aload_n X.1 X.2.1 dX7_forgetFirstChange_3 rfl (lv_at hl.1 0 rfl) ?_
    have nd4 : nmI (M 1 0 5) := hH.1.1 _ _ _
    refine g_get X cX7 hH (r := 1) (i := 0) (by decide) rfl 5 (by decide) k_73 rfl (v := .int (iI (M 1 0 5))) rfl dX7_forgetFirstChange_4 ?_
    refine g_icmp_ge X nx1 nd4 (tgt := 52) dX7_forgetFirstChange_7 (by decide) (fun hc7 => ?_) (fun hc7 => ?_)
    · replace hf := it_f hf hc7
      exact hk52 M hf _ _ _ hH hS (gLv_sub hl [0] rfl)
    · replace hf := it_t hf hc7
      refine lv_aload_n X.1 X.2.1 dX7_forgetFirstChange_10 rfl (lv_at hl.1 0 rfl) ?_
      refine g_get X cX7 hH (r := 1) (i := 0) (by decide) rfl 3 (by decide) k_71 rfl (v := .ref (gAd G 15 0)) rfl dX7_forgetFirstChange_11 ?_
      refine lv_iload_n X.1 X.2.1 dX7_forgetFirstChange_14 rfl (lv_at hl.1 1 rfl) ?_
      refine lv_iconst X.1 X.2.1 dX7_forgetFirstChange_15 (v := iI 1) rfl ?_
      refine g_isub X dX7_forgetFirstChange_16 ?_
      refine lv_aload_n X.1 X.2.1 dX7_forgetFirstChange_17 rfl (lv_at hl.1 0 rfl) ?_
      refine g_get X cX7 hH (r := 1) (i := 0) (by decide) rfl 3 (by decide) k_71 rfl (v := .ref (gAd G 15 0)) rfl dX7_forgetFirstChange_18 ?_
      refine lv_iload_n X.1 X.2.1 dX7_forgetFirstChange_21 rfl (lv_at hl.1 1 rfl) ?_
      refine gGoI (gRunSN X hH (As := [.ref (gAd G 15 0), .int (iI x1)]) (m_X11_at l G 15 0 30 (by decide) gArr_15 x1 nx1 M _ rfl) calX11_at k_563 k_576 ⟨by decide, by decide⟩ rfl hl rfl (Nat.le_of_ble_eq_true rfl) ⟨Nat.le_of_ble_eq_true rfl, Nat.le_of_ble_eq_true rfl⟩ dX7_forgetFirstChange_22) hS (fun H locs nr22 hH hS => ?_)
      refine gGoV (gRunSN X hH (As := [.ref (gAd G 15 0), .int (iI (wI (x1 - 1))), .int (iI ((f_X11_at 15 0 30 x1 M)))]) (m_X11_store l G 15 0 30 (by decide) gArr_15 (wI (x1 - 1)) (nmI_w _) ((f_X11_at 15 0 30 x1 M)) nr22 M _ rfl) calX11_store k_566 k_577 ⟨by decide, by decide⟩ rfl hl rfl (Nat.le_of_ble_eq_true rfl) ⟨Nat.le_of_ble_eq_true rfl, Nat.le_of_ble_eq_true rfl⟩ dX7_forgetFirstChange_25) hS (fun H locs hH hS => ?_)
      refine lv_aload_n X.1 X.2.1 dX7_forgetFirstChange_28 rfl (lv_at hl.1 0 rfl) ?_
      refine g_get X cX7 hH (r := 1) (i := 0) (by decide) rfl 4 (by decide) k_72 rfl (v := .ref (gAd G 16 0)) rfl dX7_forgetFirstChange_29 ?_
      refine lv_iload_n X.1 X.2.1 dX7_forgetFirstChange_32 rfl (lv_at hl.1 1 rfl) ?_
      refine lv_iconst X.1 X.2.1 dX7_forgetFirstChange_33 (v := iI 1) rfl ?_
      refine g_isub X dX7_forgetFirstChange_34 ?_
      refine lv_aload_n X.1 X.2.1 dX7_forgetFirstChange_35 rfl (lv_at hl.1 0 rfl) ?_
      refine g_get X cX7 hH (r := 1) (i := 0) (by decide) rfl 4 (by decide) k_72 rfl (v := .ref (gAd G 16 0)) rfl dX7_forgetFirstChange_36 ?_
      refine lv_iload_n X.1 X.2.1 dX7_forgetFirstChange_39 rfl (lv_at hl.1 1 rfl) ?_
      refine gGoI (gRunSN X hH (As := [.ref (gAd G 16 0), .int (iI x1)]) (m_X11_at l G 16 0 30 (by decide) gArr_16 x1 nx1 ((f_X11_store 15 0 30 (wI (x1 - 1)) ((f_X11_at 15 0 30 x1 M)) M)) _ rfl) calX11_at k_563 k_576 ⟨by decide, by decide⟩ rfl hl rfl (Nat.le_of_ble_eq_true rfl) ⟨Nat.le_of_ble_eq_true rfl, Nat.le_of_ble_eq_true rfl⟩ dX7_forgetFirstChange_40) hS (fun H locs nr40 hH hS => ?_)
      refine gGoV (gRunSN X hH (As := [.ref (gAd G 16 0), .int (iI (wI (x1 - 1))), .int (iI ((f_X11_at 16 0 30 x1 ((f_X11_store 15 0 30 (wI (x1 - 1)) ((f_X11_at 15 0 30 x1 M)) M)))))]) (m_X11_store l G 16 0 30 (by decide) gArr_16 (wI (x1 - 1)) (nmI_w _) ((f_X11_at 16 0 30 x1 ((f_X11_store 15 0 30 (wI (x1 - 1)) ((f_X11_at 15 0 30 x1 M)) M)))) nr40 ((f_X11_store 15 0 30 (wI (x1 - 1)) ((f_X11_at 15 0 30 x1 M)) M)) _ rfl) calX11_store k_566 k_577 ⟨by decide, by decide⟩ rfl hl rfl (Nat.le_of_ble_eq_true rfl) ⟨Nat.le_of_ble_eq_true rfl, Nat.le_of_ble_eq_true rfl⟩ dX7_forgetFirstChange_43) hS (fun H locs hH hS => ?_)
      refine g_iinc X (a := x1) (lv' := [(1, .int (iI (wI (x1 + 1)))), (0, .ref (gAd G 1 0))]) dX7_forgetFirstChange_46 hl (k := 1) rfl (by decide) rfl (fun ls hl => ?_)
      refine lv_goto (tgt := 2) X.1 X.2.1 dX7_forgetFirstChange_49 (by decide) ?_
      exact ih (wI (x1 + 1)) (nmI_w _) ((f_X11_store 16 0 30 (wI (x1 - 1)) ((f_X11_at 16 0 30 x1 ((f_X11_store 15 0 30 (wI (x1 - 1)) ((f_X11_at 15 0 30 x1 M)) M)))) ((f_X11_store 15 0 30 (wI (x1 - 1)) ((f_X11_at 15 0 30 x1 M)) M)))) hf _ _ _ hH hS (gLv_sub hl [1, 0] rfl)
theorem m_X7_forgetFirstChange (l : Launch) (G : gG)  (M : gM) (q : gM) (hf : f_X7_forgetFirstChange M = some q) : gMet l yX7_forgetFirstChange cX7_forgetFirstChange 2 none 1 22 G M [.ref (gAd G 1 0)] (gQv G q) := by
  refine gOfW (by decide) (by show _ ≤ 2; exact Nat.le_of_ble_eq_true rfl) rfl ?_
  intro p e s m below meth c X hH ls hl
  replace hl : gLv ls 2 [(0, .ref (gAd G 1 0))] := hl
  have hS : va_S (gA G) s.heap s.heap [] := va_S.rf
  generalize hargs : ([.ref (gAd G 1 0)] : List Value).toArray = args at X ⊢
  clear hargs
  unfold f_X7_forgetFirstChange at hf
  refine lv_iconst X.1 X.2.1 dX7_forgetFirstChange_0 (v := iI 1) rfl ?_
  refine g_istore_n X (lv' := [(1, .int (iI 1)), (0, .ref (gAd G 1 0))]) dX7_forgetFirstChange_1 rfl hl (by decide) rfl (fun ls hl => ?_)
  refine w_X7_forgetFirstChange_L2 X _  q ?_ 64 1 (nmI_l (by decide)) M hf _ _ _ hH hS (gLv_sub hl [1, 0] rfl)
  · intro  M_2_52 hf H locs ls hH hS hl
    refine lv_aload_n X.1 X.2.1 dX7_forgetFirstChange_52 rfl (lv_at hl.1 0 rfl) ?_
    refine lv_dup X.1 X.2.1 dX7_forgetFirstChange_53 rfl ?_
    have nd54 : nmI (M_2_52 1 0 5) := hH.1.1 _ _ _
    refine g_get X cX7 hH (r := 1) (i := 0) (by decide) rfl 5 (by decide) k_73 rfl (v := .int (iI (M_2_52 1 0 5))) rfl dX7_forgetFirstChange_54 ?_
    refine lv_iconst X.1 X.2.1 dX7_forgetFirstChange_57 (v := iI 1) rfl ?_
    refine g_isub X dX7_forgetFirstChange_58 ?_
    refine g_putI X cX7 hH hS (r := 1) (i := 0) (by decide) rfl 5 (by decide) k_73 rfl rfl rfl (Nat.le_of_ble_eq_true rfl) (x := wI ((M_2_52 1 0 5) - 1)) (nmI_w _) rfl rfl rfl dX7_forgetFirstChange_59 (fun H locs hH hS => ?_)
    have hq := Option.some.inj hf; subst hq
    exact gRetV X hH hS dX7_forgetFirstChange_62
theorem m_X7_keepChange (l : Launch) (G : gG) (v1 : Int) (nv1 : nmI v1) (v2 : Int) (nv2 : nmI v2) (M : gM) (q : gM) (hf : f_X7_keepChange v1 v2 M = some q) : gMet l yX7_keepChange cX7_keepChange 3 none 2 43 G M [.ref (gAd G 1 0), .int (iI v1), .int (iI v2)] (gQv G q) := by
  refine gOfW (by decide) (by show _ ≤ 3; exact Nat.le_of_ble_eq_true rfl) rfl ?_
  intro p e s m below meth c X hH ls hl
  replace hl : gLv ls 3 [(0, .ref (gAd G 1 0)), (1, .int (iI v1)), (2, .int (iI v2))] := hl
  have hS : va_S (gA G) s.heap s.heap [] := va_S.rf
  generalize hargs : ([.ref (gAd G 1 0), .int (iI v1), .int (iI v2)] : List Value).toArray = args at X ⊢
  clear hargs
  unfold f_X7_keepChange at hf
  refine lv_aload_n X.1 X.2.1 dX7_keepChange_0 rfl (lv_at hl.1 0 rfl) ?_
  have nd1 : nmI (M 1 0 5) := hH.1.1 _ _ _
  refine g_get X cX7 hH (r := 1) (i := 0) (by decide) rfl 5 (by decide) k_73 rfl (v := .int (iI (M 1 0 5))) rfl dX7_keepChange_1 ?_
  refine lv_bipush X.1 X.2.1 dX7_keepChange_4 (v := iI 30) (by decide) ?_
  obtain ⟨k13, ek13, hf_⟩ := oj_e hf; clear hf; have hf := hf_; clear hf_
  have hk13 : ∀  (M_13 : gM), k13 M_13 = some q → ∀ (H : Heap) (locs : List Loc) (ls : Array Slot), gH G M_13 H → va_S (gA G) s.heap H locs → gLv ls 3 [(0, .ref (gAd G 1 0)), (1, .int (iI v1)), (2, .int (iI v2))] → W p l e { frames := 2, cells := 0, slots := 0, locals := 43 } s m args below meth c H locs 0 0 (MQ below (gQv G q) args s 0 0 (gA G)) (F0 m 13 ls []) := by
    intro  M_13 hf H locs ls hH hS hl
    subst ek13
    refine lv_aload_n X.1 X.2.1 dX7_keepChange_13 rfl (lv_at hl.1 0 rfl) ?_
    refine g_get X cX7 hH (r := 1) (i := 0) (by decide) rfl 3 (by decide) k_71 rfl (v := .ref (gAd G 15 0)) rfl dX7_keepChange_14 ?_
    refine lv_aload_n X.1 X.2.1 dX7_keepChange_17 rfl (lv_at hl.1 0 rfl) ?_
    have nd18 : nmI (M_13 1 0 5) := hH.1.1 _ _ _
    refine g_get X cX7 hH (r := 1) (i := 0) (by decide) rfl 5 (by decide) k_73 rfl (v := .int (iI (M_13 1 0 5))) rfl dX7_keepChange_18 ?_
    refine lv_iload_n X.1 X.2.1 dX7_keepChange_21 rfl (lv_at hl.1 1 rfl) ?_
    refine gGoV (gRunSN X hH (As := [.ref (gAd G 15 0), .int (iI (M_13 1 0 5)), .int (iI v1)]) (m_X11_store l G 15 0 30 (by decide) gArr_15 (M_13 1 0 5) nd18 v1 nv1 M_13 _ rfl) calX11_store k_566 k_577 ⟨by decide, by decide⟩ rfl hl rfl (Nat.le_of_ble_eq_true rfl) ⟨Nat.le_of_ble_eq_true rfl, Nat.le_of_ble_eq_true rfl⟩ dX7_keepChange_22) hS (fun H locs hH hS => ?_)
    refine lv_aload_n X.1 X.2.1 dX7_keepChange_25 rfl (lv_at hl.1 0 rfl) ?_
    refine g_get X cX7 hH (r := 1) (i := 0) (by decide) rfl 4 (by decide) k_72 rfl (v := .ref (gAd G 16 0)) rfl dX7_keepChange_26 ?_
    refine lv_aload_n X.1 X.2.1 dX7_keepChange_29 rfl (lv_at hl.1 0 rfl) ?_
    have nd30 : nmI (((f_X11_store 15 0 30 (M_13 1 0 5) v1 M_13)) 1 0 5) := hH.1.1 _ _ _
    refine g_get X cX7 hH (r := 1) (i := 0) (by decide) rfl 5 (by decide) k_73 rfl (v := .int (iI (((f_X11_store 15 0 30 (M_13 1 0 5) v1 M_13)) 1 0 5))) rfl dX7_keepChange_30 ?_
    refine lv_iload_n X.1 X.2.1 dX7_keepChange_33 rfl (lv_at hl.1 2 rfl) ?_
    refine gGoV (gRunSN X hH (As := [.ref (gAd G 16 0), .int (iI (((f_X11_store 15 0 30 (M_13 1 0 5) v1 M_13)) 1 0 5)), .int (iI v2)]) (m_X11_store l G 16 0 30 (by decide) gArr_16 (((f_X11_store 15 0 30 (M_13 1 0 5) v1 M_13)) 1 0 5) nd30 v2 nv2 ((f_X11_store 15 0 30 (M_13 1 0 5) v1 M_13)) _ rfl) calX11_store k_566 k_577 ⟨by decide, by decide⟩ rfl hl rfl (Nat.le_of_ble_eq_true rfl) ⟨Nat.le_of_ble_eq_true rfl, Nat.le_of_ble_eq_true rfl⟩ dX7_keepChange_34) hS (fun H locs hH hS => ?_)
    refine lv_aload_n X.1 X.2.1 dX7_keepChange_37 rfl (lv_at hl.1 0 rfl) ?_
    refine lv_dup X.1 X.2.1 dX7_keepChange_38 rfl ?_
    have nd39 : nmI (((f_X11_store 16 0 30 (((f_X11_store 15 0 30 (M_13 1 0 5) v1 M_13)) 1 0 5) v2 ((f_X11_store 15 0 30 (M_13 1 0 5) v1 M_13)))) 1 0 5) := hH.1.1 _ _ _
    refine g_get X cX7 hH (r := 1) (i := 0) (by decide) rfl 5 (by decide) k_73 rfl (v := .int (iI (((f_X11_store 16 0 30 (((f_X11_store 15 0 30 (M_13 1 0 5) v1 M_13)) 1 0 5) v2 ((f_X11_store 15 0 30 (M_13 1 0 5) v1 M_13)))) 1 0 5))) rfl dX7_keepChange_39 ?_
    refine lv_iconst X.1 X.2.1 dX7_keepChange_42 (v := iI 1) rfl ?_
    refine g_iadd X dX7_keepChange_43 ?_
    refine g_putI X cX7 hH hS (r := 1) (i := 0) (by decide) rfl 5 (by decide) k_73 rfl rfl rfl (Nat.le_of_ble_eq_true rfl) (x := wI ((((f_X11_store 16 0 30 (((f_X11_store 15 0 30 (M_13 1 0 5) v1 M_13)) 1 0 5) v2 ((f_X11_store 15 0 30 (M_13 1 0 5) v1 M_13)))) 1 0 5) + 1)) (nmI_w _) rfl rfl rfl dX7_keepChange_44 (fun H locs hH hS => ?_)
    have hq := Option.some.inj hf; subst hq
    exact gRetV X hH hS dX7_keepChange_47
  clear ek13
  refine g_icmp_ne X nd1 (nmI_l (by decide)) (tgt := 13) dX7_keepChange_6 (by decide) (fun hc6 => ?_) (fun hc6 => ?_)
  · replace hf := it_f hf hc6
    exact hk13 M hf _ _ _ hH hS (gLv_sub hl [0, 1, 2] rfl)
  · replace hf := it_t hf hc6
    refine lv_aload_n X.1 X.2.1 dX7_keepChange_9 rfl (lv_at hl.1 0 rfl) ?_
    obtain ⟨r10, hq10, hf_⟩ := ob_e hf; clear hf; have hf := hf_; clear hf_
    refine gGoV (gRunV X hH (As := []) (m_X7_forgetFirstChange l G  M _ hq10) calX7_forgetFirstChange k_574 k_2 k_572 (by decide) cX7 rfl ⟨by decide, by decide⟩ rfl hl rfl (Nat.le_of_ble_eq_true rfl) ⟨Nat.le_of_ble_eq_true rfl, Nat.le_of_ble_eq_true rfl⟩ dX7_keepChange_10) hS (fun H locs hH hS => ?_)
    exact hk13 r10 hf _ _ _ hH hS (gLv_sub hl [0, 1, 2] rfl)
theorem m_X7_rewrite (l : Launch) (G : gG) (v1 : Int) (nv1 : nmI v1) (v2 : Int) (nv2 : nmI v2) (M : gM) (q : (Int × gM)) (hf : f_X7_rewrite v1 v2 M = some q) : gMet l yX7_rewrite cX7_rewrite 4 (some .int) 3 65 G M [.ref (gAd G 1 0), .int (iI v1), .int (iI v2)] (gQi G q.1 q.2) := by
  refine gOfW (by decide) (by show _ ≤ 4; exact Nat.le_of_ble_eq_true rfl) rfl ?_
  intro p e s m below meth c X hH ls hl
  replace hl : gLv ls 4 [(0, .ref (gAd G 1 0)), (1, .int (iI v1)), (2, .int (iI v2))] := hl
  have hS : va_S (gA G) s.heap s.heap [] := va_S.rf
  generalize hargs : ([.ref (gAd G 1 0), .int (iI v1), .int (iI v2)] : List Value).toArray = args at X ⊢
  clear hargs
  unfold f_X7_rewrite at hf
  refine lv_aload_n X.1 X.2.1 dX7_rewrite_0 rfl (lv_at hl.1 0 rfl) ?_
  refine g_get X cX7 hH (r := 1) (i := 0) (by decide) rfl 0 (by decide) k_64 rfl (v := .ref (gAd G 12 0)) rfl dX7_rewrite_1 ?_
  refine lv_iload_n X.1 X.2.1 dX7_rewrite_4 rfl (lv_at hl.1 1 rfl) ?_
  refine lv_iload_n X.1 X.2.1 dX7_rewrite_5 rfl (lv_at hl.1 2 rfl) ?_
  refine gGoI (gRunSN X hH (As := [.ref (gAd G 12 0), .int (iI v1), .int (iI v2)]) (m_X11_exchange l G 12 0 16 (by decide) gArr_12 v1 nv1 v2 nv2 M _ rfl) calX11_exchange k_560 k_559 ⟨by decide, by decide⟩ rfl hl rfl (Nat.le_of_ble_eq_true rfl) ⟨Nat.le_of_ble_eq_true rfl, Nat.le_of_ble_eq_true rfl⟩ dX7_rewrite_6) hS (fun H locs nr6 hH hS => ?_)
  refine g_istore_n X (lv' := [(3, .int (iI ((f_X11_exchange 12 0 16 v1 v2 M).1))), (0, .ref (gAd G 1 0)), (1, .int (iI v1)), (2, .int (iI v2))]) dX7_rewrite_9 rfl hl (by decide) rfl (fun ls hl => ?_)
  refine lv_iload_n X.1 X.2.1 dX7_rewrite_10 rfl (lv_at hl.1 0 rfl) ?_
  refine lv_iload_n X.1 X.2.1 dX7_rewrite_11 rfl (lv_at hl.1 3 rfl) ?_
  refine g_icmp_eq X nr6 nv2 (tgt := 21) dX7_rewrite_12 (by decide) (fun hc12 => ?_) (fun hc12 => ?_)
  · replace hf := it_t hf hc12
    refine lv_iload_n X.1 X.2.1 dX7_rewrite_21 rfl (lv_at hl.1 0 rfl) ?_
    have hq := Option.some.inj hf; subst hq
    exact gRetI X hH hS (res := (f_X11_exchange 12 0 16 v1 v2 M).1) nr6 dX7_rewrite_22
  · replace hf := it_f hf hc12
    refine lv_aload_n X.1 X.2.1 dX7_rewrite_15 rfl (lv_at hl.1 1 rfl) ?_
    refine lv_iload_n X.1 X.2.1 dX7_rewrite_16 rfl (lv_at hl.1 2 rfl) ?_
    refine lv_iload_n X.1 X.2.1 dX7_rewrite_17 rfl (lv_at hl.1 0 rfl) ?_
    obtain ⟨r18, hq18, hf_⟩ := ob_e hf; clear hf; have hf := hf_; clear hf_
    refine gGoV (gRunV X hH (As := [.int (iI v1), .int (iI ((f_X11_exchange 12 0 16 v1 v2 M).1))]) (m_X7_keepChange l G v1 nv1 ((f_X11_exchange 12 0 16 v1 v2 M).1) nr6 ((f_X11_exchange 12 0 16 v1 v2 M).2) _ hq18) calX7_keepChange k_570 k_1 k_568 (by decide) cX7 rfl ⟨by decide, by decide⟩ rfl hl rfl (Nat.le_of_ble_eq_true rfl) ⟨Nat.le_of_ble_eq_true rfl, Nat.le_of_ble_eq_true rfl⟩ dX7_rewrite_18) hS (fun H locs hH hS => ?_)
    refine lv_iload_n X.1 X.2.1 dX7_rewrite_21 rfl (lv_at hl.1 0 rfl) ?_
    have hq := Option.some.inj hf; subst hq
    exact gRetI X hH hS (res := (f_X11_exchange 12 0 16 v1 v2 M).1) nr6 dX7_rewrite_22
theorem m_X5_targetAt (l : Launch) (G : gG) (v1 : Int) (nv1 : nmI v1) (M : gM) (q : (Nat)) (hf : f_X5_targetAt v1 M = q) : gMet l yX5_targetAt cX5_targetAt 2 (some (.object "BuildGrid$Target")) 0 0 G M [.ref (gAd G 2 0), .int (iI v1)] (gQr G 7 q M) := by
  refine gOfW (by decide) (by show _ ≤ 2; exact Nat.le_of_ble_eq_true rfl) rfl ?_
  intro p e s m below meth c X hH ls hl
  replace hl : gLv ls 2 [(0, .ref (gAd G 2 0)), (1, .int (iI v1))] := hl
  have hS : va_S (gA G) s.heap s.heap [] := va_S.rf
  generalize hargs : ([.ref (gAd G 2 0), .int (iI v1)] : List Value).toArray = args at X ⊢
  clear hargs
  unfold f_X5_targetAt at hf
  refine lv_iload_n X.1 X.2.1 dX5_targetAt_0 rfl (lv_at hl.1 1 rfl) ?_
  refine g_if_lt X nv1 (tgt := 27) dX5_targetAt_1 (by decide) (fun hc1 => ?_) (fun hc1 => ?_)
  · replace hf := it_t hf hc1
    refine lv_aload_n X.1 X.2.1 dX5_targetAt_27 rfl (lv_at hl.1 0 rfl) ?_
    refine g_get X cX5 hH (r := 2) (i := 0) (by decide) rfl 1 (by decide) k_245 rfl (v := .ref (gAd G 7 14)) rfl dX5_targetAt_28 ?_
    subst hf
    exact gRetR X hH hS (i := 14) (by decide) dX5_targetAt_31
  · replace hf := it_f hf hc1
    refine lv_iload_n X.1 X.2.1 dX5_targetAt_4 rfl (lv_at hl.1 1 rfl) ?_
    refine lv_aload_n X.1 X.2.1 dX5_targetAt_5 rfl (lv_at hl.1 0 rfl) ?_
    have nd6 : nmI (M 2 0 5) := hH.1.1 _ _ _
    refine g_get X cX5 hH (r := 2) (i := 0) (by decide) rfl 5 (by decide) k_250 rfl (v := .int (iI (M 2 0 5))) rfl dX5_targetAt_6 ?_
    refine g_icmp_ge X nv1 nd6 (tgt := 27) dX5_targetAt_9 (by decide) (fun hc9 => ?_) (fun hc9 => ?_)
    · replace hf := it_f hf hc9
      refine lv_aload_n X.1 X.2.1 dX5_targetAt_27 rfl (lv_at hl.1 0 rfl) ?_
      refine g_get X cX5 hH (r := 2) (i := 0) (by decide) rfl 1 (by decide) k_245 rfl (v := .ref (gAd G 7 14)) rfl dX5_targetAt_28 ?_
      subst hf
      exact gRetR X hH hS (i := 14) (by decide) dX5_targetAt_31
    · replace hf := it_t hf hc9
      refine lv_iload_n X.1 X.2.1 dX5_targetAt_12 rfl (lv_at hl.1 1 rfl) ?_
      refine lv_bipush X.1 X.2.1 dX5_targetAt_13 (v := iI 14) (by decide) ?_
      refine g_icmp_ge X nv1 (nmI_l (by decide)) (tgt := 27) dX5_targetAt_15 (by decide) (fun hc15 => ?_) (fun hc15 => ?_)
      · replace hf := it_f hf hc15
        refine lv_aload_n X.1 X.2.1 dX5_targetAt_27 rfl (lv_at hl.1 0 rfl) ?_
        refine g_get X cX5 hH (r := 2) (i := 0) (by decide) rfl 1 (by decide) k_245 rfl (v := .ref (gAd G 7 14)) rfl dX5_targetAt_28 ?_
        subst hf
        exact gRetR X hH hS (i := 14) (by decide) dX5_targetAt_31
      · replace hf := it_t hf hc15
        refine lv_aload_n X.1 X.2.1 dX5_targetAt_18 rfl (lv_at hl.1 0 rfl) ?_
        refine g_get X cX5 hH (r := 2) (i := 0) (by decide) rfl 0 (by decide) k_244 rfl (v := .ref (gAd G 26 0)) rfl dX5_targetAt_19 ?_
        refine lv_iload_n X.1 X.2.1 dX5_targetAt_22 rfl (lv_at hl.1 1 rfl) ?_
        have hg : (0 : Int) ≤ v1 ∧ (v1 : Int) < 14 := ⟨by omega, by omega⟩
        refine g_aald X hH (r := 26) (i := 0) (by decide) rfl (t0 := 4) rfl nv1 hg (v := gAd G 7 v1.toNat) rfl dX5_targetAt_23 ?_
        refine lv_goto (tgt := 31) X.1 X.2.1 dX5_targetAt_24 (by decide) ?_
        subst hf
        exact gRetR X hH hS (i := v1.toNat) (by show _ < 15; omega) dX5_targetAt_31
theorem m_X5_tellNext (l : Launch) (G : gG)  (M : gM) (q : (Nat × gM)) (hf : f_X5_tellNext M = q) : gMet l yX5_tellNext cX5_tellNext 1 (some (.object "BuildGrid$Target")) 1 21 G M [.ref (gAd G 2 0)] (gQr G 7 q.1 q.2) := by
  refine gOfW (by decide) (by show _ ≤ 1; exact Nat.le_of_ble_eq_true rfl) rfl ?_
  intro p e s m below meth c X hH ls hl
  replace hl : gLv ls 1 [(0, .ref (gAd G 2 0))] := hl
  have hS : va_S (gA G) s.heap s.heap [] := va_S.rf
  generalize hargs : ([.ref (gAd G 2 0)] : List Value).toArray = args at X ⊢
  clear hargs
  unfold f_X5_tellNext at hf
  refine lv_aload_n X.1 X.2.1 dX5_tellNext_0 rfl (lv_at hl.1 0 rfl) ?_
  have nd1 : nmI (M 2 0 5) := hH.1.1 _ _ _
  refine g_get X cX5 hH (r := 2) (i := 0) (by decide) rfl 5 (by decide) k_250 rfl (v := .int (iI (M 2 0 5))) rfl dX5_tellNext_1 ?_
  refine lv_bipush X.1 X.2.1 dX5_tellNext_4 (v := iI 14) (by decide) ?_
  obtain ⟨k19, ek19, hf_⟩ := oj_e hf; clear hf; have hf := hf_; clear hf_
  have hk19 : ∀  (M_19 : gM), k19 M_19 = q → ∀ (H : Heap) (locs : List Loc) (ls : Array Slot), gH G M_19 H → va_S (gA G) s.heap H locs → gLv ls 1 [(0, .ref (gAd G 2 0))] → W p l e { frames := 1, cells := 0, slots := 0, locals := 21 } s m args below meth c H locs 0 0 (MQ below (gQr G 7 q.1 q.2) args s 0 0 (gA G)) (F0 m 19 ls []) := by
    intro  M_19 hf H locs ls hH hS hl
    subst ek19
    refine lv_aload_n X.1 X.2.1 dX5_tellNext_19 rfl (lv_at hl.1 0 rfl) ?_
    refine lv_aload_n X.1 X.2.1 dX5_tellNext_20 rfl (lv_at hl.1 0 rfl) ?_
    have nd21 : nmI (M_19 2 0 5) := hH.1.1 _ _ _
    refine g_get X cX5 hH (r := 2) (i := 0) (by decide) rfl 5 (by decide) k_250 rfl (v := .int (iI (M_19 2 0 5))) rfl dX5_tellNext_21 ?_
    refine lv_iconst X.1 X.2.1 dX5_tellNext_24 (v := iI 1) rfl ?_
    refine g_isub X dX5_tellNext_25 ?_
    refine gGoR (gRunV X hH (As := [.int (iI (wI ((M_19 2 0 5) - 1)))]) (m_X5_targetAt l G (wI ((M_19 2 0 5) - 1)) (nmI_w _) M_19 _ rfl) calX5_targetAt k_631 k_632 k_638 (by decide) cX5 rfl ⟨by decide, by decide⟩ rfl hl rfl (Nat.le_of_ble_eq_true rfl) ⟨Nat.le_of_ble_eq_true rfl, Nat.le_of_ble_eq_true rfl⟩ dX5_tellNext_26) hS (fun H locs hr26 hH hS => ?_)
    replace hr26 : (f_X5_targetAt (wI ((M_19 2 0 5) - 1)) M_19) < 15 := hr26
    subst hf
    exact gRetR X hH hS (i := (f_X5_targetAt (wI ((M_19 2 0 5) - 1)) M_19)) hr26 dX5_tellNext_29
  clear ek19
  refine g_icmp_ge X nd1 (nmI_l (by decide)) (tgt := 19) dX5_tellNext_6 (by decide) (fun hc6 => ?_) (fun hc6 => ?_)
  · replace hf := it_f hf hc6
    exact hk19 M hf _ _ _ hH hS (gLv_sub hl [0] rfl)
  · replace hf := it_t hf hc6
    refine lv_aload_n X.1 X.2.1 dX5_tellNext_9 rfl (lv_at hl.1 0 rfl) ?_
    refine lv_dup X.1 X.2.1 dX5_tellNext_10 rfl ?_
    have nd11 : nmI (M 2 0 5) := hH.1.1 _ _ _
    refine g_get X cX5 hH (r := 2) (i := 0) (by decide) rfl 5 (by decide) k_250 rfl (v := .int (iI (M 2 0 5))) rfl dX5_tellNext_11 ?_
    refine lv_iconst X.1 X.2.1 dX5_tellNext_14 (v := iI 1) rfl ?_
    refine g_iadd X dX5_tellNext_15 ?_
    refine g_putI X cX5 hH hS (r := 2) (i := 0) (by decide) rfl 5 (by decide) k_250 rfl rfl rfl (Nat.le_of_ble_eq_true rfl) (x := wI ((M 2 0 5) + 1)) (nmI_w _) rfl rfl rfl dX5_tellNext_16 (fun H locs hH hS => ?_)
    exact hk19 (gU M 2 0 5 (wI ((M 2 0 5) + 1))) hf _ _ _ hH hS (gLv_sub hl [0] rfl)
theorem m_X8_describe (l : Launch) (G : gG) (i0 : Nat) (hi0 : i0 < 15) (v1 : Int) (nv1 : nmI v1) (v2 : Int) (nv2 : nmI v2) (v3 : Int) (nv3 : nmI v3) (v4 : Int) (nv4 : nmI v4) (v5 : Int) (nv5 : nmI v5) (v6 : Int) (nv6 : nmI v6) (M : gM) (q : gM) (hf : f_X8_describe i0 v1 v2 v3 v4 v5 v6 M = q) : gMet l yX8_describe cX8_describe 7 none 0 0 G M [.ref (gAd G 7 i0), .int (iI v1), .int (iI v2), .int (iI v3), .int (iI v4), .int (iI v5), .int (iI v6)] (gQv G q) := by
  refine gOfW (by decide) (by show _ ≤ 7; exact Nat.le_of_ble_eq_true rfl) rfl ?_
  intro p e s m below meth c X hH ls hl
  replace hl : gLv ls 7 [(0, .ref (gAd G 7 i0)), (1, .int (iI v1)), (2, .int (iI v2)), (3, .int (iI v3)), (4, .int (iI v4)), (5, .int (iI v5)), (6, .int (iI v6))] := hl
  have hS : va_S (gA G) s.heap s.heap [] := va_S.rf
  generalize hargs : ([.ref (gAd G 7 i0), .int (iI v1), .int (iI v2), .int (iI v3), .int (iI v4), .int (iI v5), .int (iI v6)] : List Value).toArray = args at X ⊢
  clear hargs
  unfold f_X8_describe at hf
  refine lv_aload_n X.1 X.2.1 dX8_describe_0 rfl (lv_at hl.1 0 rfl) ?_
  refine lv_iload_n X.1 X.2.1 dX8_describe_1 rfl (lv_at hl.1 1 rfl) ?_
  refine g_putI X cX8 hH hS (r := 7) (i := i0) hi0 rfl 3 (by decide) k_189 rfl rfl rfl (Nat.le_of_ble_eq_true rfl) (x := v1) nv1 rfl rfl rfl dX8_describe_2 (fun H locs hH hS => ?_)
  refine lv_aload_n X.1 X.2.1 dX8_describe_5 rfl (lv_at hl.1 0 rfl) ?_
  refine lv_iload_n X.1 X.2.1 dX8_describe_6 rfl (lv_at hl.1 2 rfl) ?_
  refine g_putI X cX8 hH hS (r := 7) (i := i0) hi0 rfl 4 (by decide) k_192 rfl rfl rfl (Nat.le_of_ble_eq_true rfl) (x := v2) nv2 rfl rfl rfl dX8_describe_7 (fun H locs hH hS => ?_)
  refine lv_aload_n X.1 X.2.1 dX8_describe_10 rfl (lv_at hl.1 0 rfl) ?_
  refine lv_iload_n X.1 X.2.1 dX8_describe_11 rfl (lv_at hl.1 3 rfl) ?_
  refine g_putI X cX8 hH hS (r := 7) (i := i0) hi0 rfl 5 (by decide) k_197 rfl rfl rfl (Nat.le_of_ble_eq_true rfl) (x := v3) nv3 rfl rfl rfl dX8_describe_12 (fun H locs hH hS => ?_)
  refine lv_aload_n X.1 X.2.1 dX8_describe_15 rfl (lv_at hl.1 0 rfl) ?_
  refine lv_iload X.1 X.2.1 dX8_describe_16 (lv_at hl.1 4 rfl) ?_
  refine g_putI X cX8 hH hS (r := 7) (i := i0) hi0 rfl 6 (by decide) k_199 rfl rfl rfl (Nat.le_of_ble_eq_true rfl) (x := v4) nv4 rfl rfl rfl dX8_describe_18 (fun H locs hH hS => ?_)
  refine lv_aload_n X.1 X.2.1 dX8_describe_21 rfl (lv_at hl.1 0 rfl) ?_
  refine lv_iload X.1 X.2.1 dX8_describe_22 (lv_at hl.1 5 rfl) ?_
  refine g_putI X cX8 hH hS (r := 7) (i := i0) hi0 rfl 7 (by decide) k_204 rfl rfl rfl (Nat.le_of_ble_eq_true rfl) (x := v5) nv5 rfl rfl rfl dX8_describe_24 (fun H locs hH hS => ?_)
  refine lv_aload_n X.1 X.2.1 dX8_describe_27 rfl (lv_at hl.1 0 rfl) ?_
  refine lv_iload X.1 X.2.1 dX8_describe_28 (lv_at hl.1 6 rfl) ?_
  refine g_putI X cX8 hH hS (r := 7) (i := i0) hi0 rfl 8 (by decide) k_206 rfl rfl rfl (Nat.le_of_ble_eq_true rfl) (x := v6) nv6 rfl rfl rfl dX8_describe_30 (fun H locs hH hS => ?_)
  subst hf
  exact gRetV X hH hS dX8_describe_33
theorem m_X6_append (l : Launch) (G : gG) (i0 : Nat) (hi0 : i0 < 16) (v1 : Int) (nv1 : nmI v1) (v2 : Int) (nv2 : nmI v2) (v3 : Int) (nv3 : nmI v3) (v4 : Int) (nv4 : nmI v4) (M : gM) (q : (Int × gM)) (hf : f_X6_append i0 v1 v2 v3 v4 M = q) : gMet l yX6_append cX6_append 5 (some .int) 1 22 G M [.ref (gAd G 8 i0), .int (iI v1), .int (iI v2), .int (iI v3), .int (iI v4)] (gQi G q.1 q.2) := by
  refine gOfW (by decide) (by show _ ≤ 5; exact Nat.le_of_ble_eq_true rfl) rfl ?_
  intro p e s m below meth c X hH ls hl
  replace hl : gLv ls 5 [(0, .ref (gAd G 8 i0)), (1, .int (iI v1)), (2, .int (iI v2)), (3, .int (iI v3)), (4, .int (iI v4))] := hl
  have hS : va_S (gA G) s.heap s.heap [] := va_S.rf
  generalize hargs : ([.ref (gAd G 8 i0), .int (iI v1), .int (iI v2), .int (iI v3), .int (iI v4)] : List Value).toArray = args at X ⊢
  clear hargs
  unfold f_X6_append at hf
  refine lv_aload_n X.1 X.2.1 dX6_append_0 rfl (lv_at hl.1 0 rfl) ?_
  refine g_get X cX6 hH (r := 8) (i := i0) hi0 rfl 1 (by decide) k_112 rfl (v := .ref (gAd G 17 i0)) rfl dX6_append_1 ?_
  refine lv_aload_n X.1 X.2.1 dX6_append_4 rfl (lv_at hl.1 0 rfl) ?_
  have nd5 : nmI (M 8 i0 5) := hH.1.1 _ _ _
  refine g_get X cX6 hH (r := 8) (i := i0) hi0 rfl 5 (by decide) k_116 rfl (v := .int (iI (M 8 i0 5))) rfl dX6_append_5 ?_
  refine lv_iload_n X.1 X.2.1 dX6_append_8 rfl (lv_at hl.1 1 rfl) ?_
  refine gGoV (gRunSN X hH (As := [.ref (gAd G 17 i0), .int (iI (M 8 i0 5)), .int (iI v1)]) (m_X11_store l G 17 i0 4 (by show _ < 16; omega) gArr_17 (M 8 i0 5) nd5 v1 nv1 M _ rfl) calX11_store k_566 k_652 ⟨by decide, by decide⟩ rfl hl rfl (Nat.le_of_ble_eq_true rfl) ⟨Nat.le_of_ble_eq_true rfl, Nat.le_of_ble_eq_true rfl⟩ dX6_append_9) hS (fun H locs hH hS => ?_)
  refine lv_aload_n X.1 X.2.1 dX6_append_12 rfl (lv_at hl.1 0 rfl) ?_
  refine g_get X cX6 hH (r := 8) (i := i0) hi0 rfl 2 (by decide) k_113 rfl (v := .ref (gAd G 18 i0)) rfl dX6_append_13 ?_
  refine lv_aload_n X.1 X.2.1 dX6_append_16 rfl (lv_at hl.1 0 rfl) ?_
  have nd17 : nmI (((f_X11_store 17 i0 4 (M 8 i0 5) v1 M)) 8 i0 5) := hH.1.1 _ _ _
  refine g_get X cX6 hH (r := 8) (i := i0) hi0 rfl 5 (by decide) k_116 rfl (v := .int (iI (((f_X11_store 17 i0 4 (M 8 i0 5) v1 M)) 8 i0 5))) rfl dX6_append_17 ?_
  refine lv_iload_n X.1 X.2.1 dX6_append_20 rfl (lv_at hl.1 2 rfl) ?_
  refine gGoV (gRunSN X hH (As := [.ref (gAd G 18 i0), .int (iI (((f_X11_store 17 i0 4 (M 8 i0 5) v1 M)) 8 i0 5)), .int (iI v2)]) (m_X11_store l G 18 i0 4 (by show _ < 16; omega) gArr_18 (((f_X11_store 17 i0 4 (M 8 i0 5) v1 M)) 8 i0 5) nd17 v2 nv2 ((f_X11_store 17 i0 4 (M 8 i0 5) v1 M)) _ rfl) calX11_store k_566 k_652 ⟨by decide, by decide⟩ rfl hl rfl (Nat.le_of_ble_eq_true rfl) ⟨Nat.le_of_ble_eq_true rfl, Nat.le_of_ble_eq_true rfl⟩ dX6_append_21) hS (fun H locs hH hS => ?_)
  refine lv_aload_n X.1 X.2.1 dX6_append_24 rfl (lv_at hl.1 0 rfl) ?_
  refine g_get X cX6 hH (r := 8) (i := i0) hi0 rfl 3 (by decide) k_114 rfl (v := .ref (gAd G 19 i0)) rfl dX6_append_25 ?_
  refine lv_aload_n X.1 X.2.1 dX6_append_28 rfl (lv_at hl.1 0 rfl) ?_
  have nd29 : nmI (((f_X11_store 18 i0 4 (((f_X11_store 17 i0 4 (M 8 i0 5) v1 M)) 8 i0 5) v2 ((f_X11_store 17 i0 4 (M 8 i0 5) v1 M)))) 8 i0 5) := hH.1.1 _ _ _
  refine g_get X cX6 hH (r := 8) (i := i0) hi0 rfl 5 (by decide) k_116 rfl (v := .int (iI (((f_X11_store 18 i0 4 (((f_X11_store 17 i0 4 (M 8 i0 5) v1 M)) 8 i0 5) v2 ((f_X11_store 17 i0 4 (M 8 i0 5) v1 M)))) 8 i0 5))) rfl dX6_append_29 ?_
  refine lv_iload_n X.1 X.2.1 dX6_append_32 rfl (lv_at hl.1 3 rfl) ?_
  refine gGoV (gRunSN X hH (As := [.ref (gAd G 19 i0), .int (iI (((f_X11_store 18 i0 4 (((f_X11_store 17 i0 4 (M 8 i0 5) v1 M)) 8 i0 5) v2 ((f_X11_store 17 i0 4 (M 8 i0 5) v1 M)))) 8 i0 5)), .int (iI v3)]) (m_X11_store l G 19 i0 4 (by show _ < 16; omega) gArr_19 (((f_X11_store 18 i0 4 (((f_X11_store 17 i0 4 (M 8 i0 5) v1 M)) 8 i0 5) v2 ((f_X11_store 17 i0 4 (M 8 i0 5) v1 M)))) 8 i0 5) nd29 v3 nv3 ((f_X11_store 18 i0 4 (((f_X11_store 17 i0 4 (M 8 i0 5) v1 M)) 8 i0 5) v2 ((f_X11_store 17 i0 4 (M 8 i0 5) v1 M)))) _ rfl) calX11_store k_566 k_652 ⟨by decide, by decide⟩ rfl hl rfl (Nat.le_of_ble_eq_true rfl) ⟨Nat.le_of_ble_eq_true rfl, Nat.le_of_ble_eq_true rfl⟩ dX6_append_33) hS (fun H locs hH hS => ?_)
  refine lv_aload_n X.1 X.2.1 dX6_append_36 rfl (lv_at hl.1 0 rfl) ?_
  refine g_get X cX6 hH (r := 8) (i := i0) hi0 rfl 4 (by decide) k_115 rfl (v := .ref (gAd G 20 i0)) rfl dX6_append_37 ?_
  refine lv_aload_n X.1 X.2.1 dX6_append_40 rfl (lv_at hl.1 0 rfl) ?_
  have nd41 : nmI (((f_X11_store 19 i0 4 (((f_X11_store 18 i0 4 (((f_X11_store 17 i0 4 (M 8 i0 5) v1 M)) 8 i0 5) v2 ((f_X11_store 17 i0 4 (M 8 i0 5) v1 M)))) 8 i0 5) v3 ((f_X11_store 18 i0 4 (((f_X11_store 17 i0 4 (M 8 i0 5) v1 M)) 8 i0 5) v2 ((f_X11_store 17 i0 4 (M 8 i0 5) v1 M)))))) 8 i0 5) := hH.1.1 _ _ _
  refine g_get X cX6 hH (r := 8) (i := i0) hi0 rfl 5 (by decide) k_116 rfl (v := .int (iI (((f_X11_store 19 i0 4 (((f_X11_store 18 i0 4 (((f_X11_store 17 i0 4 (M 8 i0 5) v1 M)) 8 i0 5) v2 ((f_X11_store 17 i0 4 (M 8 i0 5) v1 M)))) 8 i0 5) v3 ((f_X11_store 18 i0 4 (((f_X11_store 17 i0 4 (M 8 i0 5) v1 M)) 8 i0 5) v2 ((f_X11_store 17 i0 4 (M 8 i0 5) v1 M)))))) 8 i0 5))) rfl dX6_append_41 ?_
  refine lv_iload X.1 X.2.1 dX6_append_44 (lv_at hl.1 4 rfl) ?_
  refine gGoV (gRunSN X hH (As := [.ref (gAd G 20 i0), .int (iI (((f_X11_store 19 i0 4 (((f_X11_store 18 i0 4 (((f_X11_store 17 i0 4 (M 8 i0 5) v1 M)) 8 i0 5) v2 ((f_X11_store 17 i0 4 (M 8 i0 5) v1 M)))) 8 i0 5) v3 ((f_X11_store 18 i0 4 (((f_X11_store 17 i0 4 (M 8 i0 5) v1 M)) 8 i0 5) v2 ((f_X11_store 17 i0 4 (M 8 i0 5) v1 M)))))) 8 i0 5)), .int (iI v4)]) (m_X11_store l G 20 i0 4 (by show _ < 16; omega) gArr_20 (((f_X11_store 19 i0 4 (((f_X11_store 18 i0 4 (((f_X11_store 17 i0 4 (M 8 i0 5) v1 M)) 8 i0 5) v2 ((f_X11_store 17 i0 4 (M 8 i0 5) v1 M)))) 8 i0 5) v3 ((f_X11_store 18 i0 4 (((f_X11_store 17 i0 4 (M 8 i0 5) v1 M)) 8 i0 5) v2 ((f_X11_store 17 i0 4 (M 8 i0 5) v1 M)))))) 8 i0 5) nd41 v4 nv4 ((f_X11_store 19 i0 4 (((f_X11_store 18 i0 4 (((f_X11_store 17 i0 4 (M 8 i0 5) v1 M)) 8 i0 5) v2 ((f_X11_store 17 i0 4 (M 8 i0 5) v1 M)))) 8 i0 5) v3 ((f_X11_store 18 i0 4 (((f_X11_store 17 i0 4 (M 8 i0 5) v1 M)) 8 i0 5) v2 ((f_X11_store 17 i0 4 (M 8 i0 5) v1 M)))))) _ rfl) calX11_store k_566 k_652 ⟨by decide, by decide⟩ rfl hl rfl (Nat.le_of_ble_eq_true rfl) ⟨Nat.le_of_ble_eq_true rfl, Nat.le_of_ble_eq_true rfl⟩ dX6_append_46) hS (fun H locs hH hS => ?_)
  refine lv_aload_n X.1 X.2.1 dX6_append_49 rfl (lv_at hl.1 0 rfl) ?_
  refine lv_dup X.1 X.2.1 dX6_append_50 rfl ?_
  have nd51 : nmI (((f_X11_store 20 i0 4 (((f_X11_store 19 i0 4 (((f_X11_store 18 i0 4 (((f_X11_store 17 i0 4 (M 8 i0 5) v1 M)) 8 i0 5) v2 ((f_X11_store 17 i0 4 (M 8 i0 5) v1 M)))) 8 i0 5) v3 ((f_X11_store 18 i0 4 (((f_X11_store 17 i0 4 (M 8 i0 5) v1 M)) 8 i0 5) v2 ((f_X11_store 17 i0 4 (M 8 i0 5) v1 M)))))) 8 i0 5) v4 ((f_X11_store 19 i0 4 (((f_X11_store 18 i0 4 (((f_X11_store 17 i0 4 (M 8 i0 5) v1 M)) 8 i0 5) v2 ((f_X11_store 17 i0 4 (M 8 i0 5) v1 M)))) 8 i0 5) v3 ((f_X11_store 18 i0 4 (((f_X11_store 17 i0 4 (M 8 i0 5) v1 M)) 8 i0 5) v2 ((f_X11_store 17 i0 4 (M 8 i0 5) v1 M)))))))) 8 i0 5) := hH.1.1 _ _ _
  refine g_get X cX6 hH (r := 8) (i := i0) hi0 rfl 5 (by decide) k_116 rfl (v := .int (iI (((f_X11_store 20 i0 4 (((f_X11_store 19 i0 4 (((f_X11_store 18 i0 4 (((f_X11_store 17 i0 4 (M 8 i0 5) v1 M)) 8 i0 5) v2 ((f_X11_store 17 i0 4 (M 8 i0 5) v1 M)))) 8 i0 5) v3 ((f_X11_store 18 i0 4 (((f_X11_store 17 i0 4 (M 8 i0 5) v1 M)) 8 i0 5) v2 ((f_X11_store 17 i0 4 (M 8 i0 5) v1 M)))))) 8 i0 5) v4 ((f_X11_store 19 i0 4 (((f_X11_store 18 i0 4 (((f_X11_store 17 i0 4 (M 8 i0 5) v1 M)) 8 i0 5) v2 ((f_X11_store 17 i0 4 (M 8 i0 5) v1 M)))) 8 i0 5) v3 ((f_X11_store 18 i0 4 (((f_X11_store 17 i0 4 (M 8 i0 5) v1 M)) 8 i0 5) v2 ((f_X11_store 17 i0 4 (M 8 i0 5) v1 M)))))))) 8 i0 5))) rfl dX6_append_51 ?_
  refine lv_iconst X.1 X.2.1 dX6_append_54 (v := iI 1) rfl ?_
  refine g_iadd X dX6_append_55 ?_
  refine g_putI X cX6 hH hS (r := 8) (i := i0) hi0 rfl 5 (by decide) k_116 rfl rfl rfl (Nat.le_of_ble_eq_true rfl) (x := wI ((((f_X11_store 20 i0 4 (((f_X11_store 19 i0 4 (((f_X11_store 18 i0 4 (((f_X11_store 17 i0 4 (M 8 i0 5) v1 M)) 8 i0 5) v2 ((f_X11_store 17 i0 4 (M 8 i0 5) v1 M)))) 8 i0 5) v3 ((f_X11_store 18 i0 4 (((f_X11_store 17 i0 4 (M 8 i0 5) v1 M)) 8 i0 5) v2 ((f_X11_store 17 i0 4 (M 8 i0 5) v1 M)))))) 8 i0 5) v4 ((f_X11_store 19 i0 4 (((f_X11_store 18 i0 4 (((f_X11_store 17 i0 4 (M 8 i0 5) v1 M)) 8 i0 5) v2 ((f_X11_store 17 i0 4 (M 8 i0 5) v1 M)))) 8 i0 5) v3 ((f_X11_store 18 i0 4 (((f_X11_store 17 i0 4 (M 8 i0 5) v1 M)) 8 i0 5) v2 ((f_X11_store 17 i0 4 (M 8 i0 5) v1 M)))))))) 8 i0 5) + 1)) (nmI_w _) rfl rfl rfl dX6_append_56 (fun H locs hH hS => ?_)
  refine lv_aload_n X.1 X.2.1 dX6_append_59 rfl (lv_at hl.1 0 rfl) ?_
  have nd60 : nmI ((gU ((f_X11_store 20 i0 4 (((f_X11_store 19 i0 4 (((f_X11_store 18 i0 4 (((f_X11_store 17 i0 4 (M 8 i0 5) v1 M)) 8 i0 5) v2 ((f_X11_store 17 i0 4 (M 8 i0 5) v1 M)))) 8 i0 5) v3 ((f_X11_store 18 i0 4 (((f_X11_store 17 i0 4 (M 8 i0 5) v1 M)) 8 i0 5) v2 ((f_X11_store 17 i0 4 (M 8 i0 5) v1 M)))))) 8 i0 5) v4 ((f_X11_store 19 i0 4 (((f_X11_store 18 i0 4 (((f_X11_store 17 i0 4 (M 8 i0 5) v1 M)) 8 i0 5) v2 ((f_X11_store 17 i0 4 (M 8 i0 5) v1 M)))) 8 i0 5) v3 ((f_X11_store 18 i0 4 (((f_X11_store 17 i0 4 (M 8 i0 5) v1 M)) 8 i0 5) v2 ((f_X11_store 17 i0 4 (M 8 i0 5) v1 M)))))))) 8 i0 5 (wI ((((f_X11_store 20 i0 4 (((f_X11_store 19 i0 4 (((f_X11_store 18 i0 4 (((f_X11_store 17 i0 4 (M 8 i0 5) v1 M)) 8 i0 5) v2 ((f_X11_store 17 i0 4 (M 8 i0 5) v1 M)))) 8 i0 5) v3 ((f_X11_store 18 i0 4 (((f_X11_store 17 i0 4 (M 8 i0 5) v1 M)) 8 i0 5) v2 ((f_X11_store 17 i0 4 (M 8 i0 5) v1 M)))))) 8 i0 5) v4 ((f_X11_store 19 i0 4 (((f_X11_store 18 i0 4 (((f_X11_store 17 i0 4 (M 8 i0 5) v1 M)) 8 i0 5) v2 ((f_X11_store 17 i0 4 (M 8 i0 5) v1 M)))) 8 i0 5) v3 ((f_X11_store 18 i0 4 (((f_X11_store 17 i0 4 (M 8 i0 5) v1 M)) 8 i0 5) v2 ((f_X11_store 17 i0 4 (M 8 i0 5) v1 M)))))))) 8 i0 5) + 1))) 8 i0 5) := hH.1.1 _ _ _
  refine g_get X cX6 hH (r := 8) (i := i0) hi0 rfl 5 (by decide) k_116 rfl (v := .int (iI ((gU ((f_X11_store 20 i0 4 (((f_X11_store 19 i0 4 (((f_X11_store 18 i0 4 (((f_X11_store 17 i0 4 (M 8 i0 5) v1 M)) 8 i0 5) v2 ((f_X11_store 17 i0 4 (M 8 i0 5) v1 M)))) 8 i0 5) v3 ((f_X11_store 18 i0 4 (((f_X11_store 17 i0 4 (M 8 i0 5) v1 M)) 8 i0 5) v2 ((f_X11_store 17 i0 4 (M 8 i0 5) v1 M)))))) 8 i0 5) v4 ((f_X11_store 19 i0 4 (((f_X11_store 18 i0 4 (((f_X11_store 17 i0 4 (M 8 i0 5) v1 M)) 8 i0 5) v2 ((f_X11_store 17 i0 4 (M 8 i0 5) v1 M)))) 8 i0 5) v3 ((f_X11_store 18 i0 4 (((f_X11_store 17 i0 4 (M 8 i0 5) v1 M)) 8 i0 5) v2 ((f_X11_store 17 i0 4 (M 8 i0 5) v1 M)))))))) 8 i0 5 (wI ((((f_X11_store 20 i0 4 (((f_X11_store 19 i0 4 (((f_X11_store 18 i0 4 (((f_X11_store 17 i0 4 (M 8 i0 5) v1 M)) 8 i0 5) v2 ((f_X11_store 17 i0 4 (M 8 i0 5) v1 M)))) 8 i0 5) v3 ((f_X11_store 18 i0 4 (((f_X11_store 17 i0 4 (M 8 i0 5) v1 M)) 8 i0 5) v2 ((f_X11_store 17 i0 4 (M 8 i0 5) v1 M)))))) 8 i0 5) v4 ((f_X11_store 19 i0 4 (((f_X11_store 18 i0 4 (((f_X11_store 17 i0 4 (M 8 i0 5) v1 M)) 8 i0 5) v2 ((f_X11_store 17 i0 4 (M 8 i0 5) v1 M)))) 8 i0 5) v3 ((f_X11_store 18 i0 4 (((f_X11_store 17 i0 4 (M 8 i0 5) v1 M)) 8 i0 5) v2 ((f_X11_store 17 i0 4 (M 8 i0 5) v1 M)))))))) 8 i0 5) + 1))) 8 i0 5))) rfl dX6_append_60 ?_
  subst hf
  exact gRetI X hH hS (res := (gU ((f_X11_store 20 i0 4 (((f_X11_store 19 i0 4 (((f_X11_store 18 i0 4 (((f_X11_store 17 i0 4 (M 8 i0 5) v1 M)) 8 i0 5) v2 ((f_X11_store 17 i0 4 (M 8 i0 5) v1 M)))) 8 i0 5) v3 ((f_X11_store 18 i0 4 (((f_X11_store 17 i0 4 (M 8 i0 5) v1 M)) 8 i0 5) v2 ((f_X11_store 17 i0 4 (M 8 i0 5) v1 M)))))) 8 i0 5) v4 ((f_X11_store 19 i0 4 (((f_X11_store 18 i0 4 (((f_X11_store 17 i0 4 (M 8 i0 5) v1 M)) 8 i0 5) v2 ((f_X11_store 17 i0 4 (M 8 i0 5) v1 M)))) 8 i0 5) v3 ((f_X11_store 18 i0 4 (((f_X11_store 17 i0 4 (M 8 i0 5) v1 M)) 8 i0 5) v2 ((f_X11_store 17 i0 4 (M 8 i0 5) v1 M)))))))) 8 i0 5 (wI ((((f_X11_store 20 i0 4 (((f_X11_store 19 i0 4 (((f_X11_store 18 i0 4 (((f_X11_store 17 i0 4 (M 8 i0 5) v1 M)) 8 i0 5) v2 ((f_X11_store 17 i0 4 (M 8 i0 5) v1 M)))) 8 i0 5) v3 ((f_X11_store 18 i0 4 (((f_X11_store 17 i0 4 (M 8 i0 5) v1 M)) 8 i0 5) v2 ((f_X11_store 17 i0 4 (M 8 i0 5) v1 M)))))) 8 i0 5) v4 ((f_X11_store 19 i0 4 (((f_X11_store 18 i0 4 (((f_X11_store 17 i0 4 (M 8 i0 5) v1 M)) 8 i0 5) v2 ((f_X11_store 17 i0 4 (M 8 i0 5) v1 M)))) 8 i0 5) v3 ((f_X11_store 18 i0 4 (((f_X11_store 17 i0 4 (M 8 i0 5) v1 M)) 8 i0 5) v2 ((f_X11_store 17 i0 4 (M 8 i0 5) v1 M)))))))) 8 i0 5) + 1))) 8 i0 5) nd60 dX6_append_63
theorem w_X6_become_L7 {G : gG} {p : Program} {l : Launch} {e : Env} {s : State} {m : MethodId} {args : Array Value} {below : List Frame} {meth : Method} {c : Code} (X : gX G p s m args meth c RX6 cX6_become 3 none (gWs yX6_become cX6_become 3 none)) (k58 : gM → Option gM) (z0 : Nat) (hz0 : z0 < 16) (z1 : Nat) (hz1 : z1 < 16) (q : gM) (hk58 : ∀  (M : gM), k58 M = some q → ∀ (H : Heap) (locs : List Loc) (ls : Array Slot), gH G M H → va_S (gA G) s.heap H locs → gLv ls 3 [] → W p l e { frames := 2, cells := 0, slots := 0, locals := 46 } s m args below meth c H locs 0 0 (MQ below (gQv G q) args s 0 0 (gA G)) (F0 m 58 ls [])) : ∀ (n : Nat) (x2 : Int) (nx2 : nmI x2) (M : gM), f_X6_become_L7 k58 z0 z1 n x2 M = some q → ∀ (H : Heap) (locs : List Loc) (ls : Array Slot), gH G M H → va_S (gA G) s.heap H locs → gLv ls 3 [(0, .ref (gAd G 8 z0)), (1, .ref (gAd G 8 z1)), (2, .int (iI x2))] → W p l e { frames := 2, cells := 0, slots := 0, locals := 46 } s m args below meth c H locs 0 0 (MQ below (gQv G q) args s 0 0 (gA G)) (F0 m 7 ls []) := by
  intro n
  induction n with
  | zero =>
    intro x2 nx2 M hf
    cases hf
  | succ n ih =>
    intro x2 nx2 M hf H locs ls hH hS hl
    rw [f_X6_become_L7] at hf
    refine lv_iload_n X.1 X.2.1 dX6_become_7 rfl (lv_at hl.1 2 rfl) ?_
    refine lv_aload_n X.1 X.2.1 dX6_become_8 rfl (lv_at hl.1 1 rfl) ?_
    have nd9 : nmI (M 8 z1 5) := hH.1.1 _ _ _
    refine g_get X cX6 hH (r := 8) (i := z1) hz1 rfl 5 (by decide) k_116 rfl (v := .int (iI (M 8 z1 5))) rfl dX6_become_9 ?_
    refine g_icmp_ge X nx2 nd9 (tgt := 58) dX6_become_12 (by decide) (fun hc12 => ?_) (fun hc12 => ?_)
    · replace hf := it_f hf hc12
      exact hk58 M hf _ _ _ hH hS (gLv_sub hl [] rfl)
    · replace hf := it_t hf hc12
      refine lv_aload_n X.1 X.2.1 dX6_become_15 rfl (lv_at hl.1 0 rfl) ?_
      refine lv_aload_n X.1 X.2.1 dX6_become_16 rfl (lv_at hl.1 1 rfl) ?_
      refine g_get X cX6 hH (r := 8) (i := z1) hz1 rfl 1 (by decide) k_112 rfl (v := .ref (gAd G 17 z1)) rfl dX6_become_17 ?_
      refine lv_iload_n X.1 X.2.1 dX6_become_20 rfl (lv_at hl.1 2 rfl) ?_
      refine gGoI (gRunSN X hH (As := [.ref (gAd G 17 z1), .int (iI x2)]) (m_X11_at l G 17 z1 4 (by show _ < 16; omega) gArr_17 x2 nx2 M _ rfl) calX11_at k_563 k_647 ⟨by decide, by decide⟩ rfl hl rfl (Nat.le_of_ble_eq_true rfl) ⟨Nat.le_of_ble_eq_true rfl, Nat.le_of_ble_eq_true rfl⟩ dX6_become_21) hS (fun H locs nr21 hH hS => ?_)
      refine lv_aload_n X.1 X.2.1 dX6_become_24 rfl (lv_at hl.1 1 rfl) ?_
      refine g_get X cX6 hH (r := 8) (i := z1) hz1 rfl 2 (by decide) k_113 rfl (v := .ref (gAd G 18 z1)) rfl dX6_become_25 ?_
      refine lv_iload_n X.1 X.2.1 dX6_become_28 rfl (lv_at hl.1 2 rfl) ?_
      refine gGoI (gRunSN X hH (As := [.ref (gAd G 18 z1), .int (iI x2)]) (m_X11_at l G 18 z1 4 (by show _ < 16; omega) gArr_18 x2 nx2 M _ rfl) calX11_at k_563 k_647 ⟨by decide, by decide⟩ rfl hl rfl (Nat.le_of_ble_eq_true rfl) ⟨Nat.le_of_ble_eq_true rfl, Nat.le_of_ble_eq_true rfl⟩ dX6_become_29) hS (fun H locs nr29 hH hS => ?_)
      refine lv_aload_n X.1 X.2.1 dX6_become_32 rfl (lv_at hl.1 1 rfl) ?_
      refine g_get X cX6 hH (r := 8) (i := z1) hz1 rfl 3 (by decide) k_114 rfl (v := .ref (gAd G 19 z1)) rfl dX6_become_33 ?_
      refine lv_iload_n X.1 X.2.1 dX6_become_36 rfl (lv_at hl.1 2 rfl) ?_
      refine gGoI (gRunSN X hH (As := [.ref (gAd G 19 z1), .int (iI x2)]) (m_X11_at l G 19 z1 4 (by show _ < 16; omega) gArr_19 x2 nx2 M _ rfl) calX11_at k_563 k_647 ⟨by decide, by decide⟩ rfl hl rfl (Nat.le_of_ble_eq_true rfl) ⟨Nat.le_of_ble_eq_true rfl, Nat.le_of_ble_eq_true rfl⟩ dX6_become_37) hS (fun H locs nr37 hH hS => ?_)
      refine lv_aload_n X.1 X.2.1 dX6_become_40 rfl (lv_at hl.1 1 rfl) ?_
      refine g_get X cX6 hH (r := 8) (i := z1) hz1 rfl 4 (by decide) k_115 rfl (v := .ref (gAd G 20 z1)) rfl dX6_become_41 ?_
      refine lv_iload_n X.1 X.2.1 dX6_become_44 rfl (lv_at hl.1 2 rfl) ?_
      refine gGoI (gRunSN X hH (As := [.ref (gAd G 20 z1), .int (iI x2)]) (m_X11_at l G 20 z1 4 (by show _ < 16; omega) gArr_20 x2 nx2 M _ rfl) calX11_at k_563 k_647 ⟨by decide, by decide⟩ rfl hl rfl (Nat.le_of_ble_eq_true rfl) ⟨Nat.le_of_ble_eq_true rfl, Nat.le_of_ble_eq_true rfl⟩ dX6_become_45) hS (fun H locs nr45 hH hS => ?_)
      refine gGoI (gRunV X hH (As := [.int (iI ((f_X11_at 17 z1 4 x2 M))), .int (iI ((f_X11_at 18 z1 4 x2 M))), .int (iI ((f_X11_at 19 z1 4 x2 M))), .int (iI ((f_X11_at 20 z1 4 x2 M)))]) (m_X6_append l G z0 hz0 ((f_X11_at 17 z1 4 x2 M)) nr21 ((f_X11_at 18 z1 4 x2 M)) nr29 ((f_X11_at 19 z1 4 x2 M)) nr37 ((f_X11_at 20 z1 4 x2 M)) nr45 M _ rfl) calX6_append k_649 k_650 k_648 hz0 cX6 rfl ⟨by decide, by decide⟩ rfl hl rfl (Nat.le_of_ble_eq_true rfl) ⟨Nat.le_of_ble_eq_true rfl, Nat.le_of_ble_eq_true rfl⟩ dX6_become_48) hS (fun H locs nr48 hH hS => ?_)
      refine lv_pop X.1 X.2.1 dX6_become_51 rfl ?_
      refine g_iinc X (a := x2) (lv' := [(2, .int (iI (wI (x2 + 1)))), (0, .ref (gAd G 8 z0)), (1, .ref (gAd G 8 z1))]) dX6_become_52 hl (k := 2) rfl (by decide) rfl (fun ls hl => ?_)
      refine lv_goto (tgt := 7) X.1 X.2.1 dX6_become_55 (by decide) ?_
      exact ih (wI (x2 + 1)) (nmI_w _) ((f_X6_append z0 ((f_X11_at 17 z1 4 x2 M)) ((f_X11_at 18 z1 4 x2 M)) ((f_X11_at 19 z1 4 x2 M)) ((f_X11_at 20 z1 4 x2 M)) M).2) hf _ _ _ hH hS (gLv_sub hl [1, 2, 0] rfl)
theorem m_X6_become (l : Launch) (G : gG) (i0 : Nat) (hi0 : i0 < 16) (i1 : Nat) (hi1 : i1 < 16) (M : gM) (q : gM) (hf : f_X6_become i0 i1 M = some q) : gMet l yX6_become cX6_become 3 none 2 46 G M [.ref (gAd G 8 i0), .ref (gAd G 8 i1)] (gQv G q) := by
  refine gOfW (by decide) (by show _ ≤ 3; exact Nat.le_of_ble_eq_true rfl) rfl ?_
  intro p e s m below meth c X hH ls hl
  replace hl : gLv ls 3 [(0, .ref (gAd G 8 i0)), (1, .ref (gAd G 8 i1))] := hl
  have hS : va_S (gA G) s.heap s.heap [] := va_S.rf
  generalize hargs : ([.ref (gAd G 8 i0), .ref (gAd G 8 i1)] : List Value).toArray = args at X ⊢
  clear hargs
  unfold f_X6_become at hf
  refine lv_aload_n X.1 X.2.1 dX6_become_0 rfl (lv_at hl.1 0 rfl) ?_
  refine lv_iconst X.1 X.2.1 dX6_become_1 (v := iI 0) rfl ?_
  refine g_putI X cX6 hH hS (r := 8) (i := i0) hi0 rfl 5 (by decide) k_116 rfl rfl rfl (Nat.le_of_ble_eq_true rfl) (x := 0) (nmI_l (by decide)) rfl rfl rfl dX6_become_2 (fun H locs hH hS => ?_)
  refine lv_iconst X.1 X.2.1 dX6_become_5 (v := iI 0) rfl ?_
  refine g_istore_n X (lv' := [(2, .int (iI 0)), (0, .ref (gAd G 8 i0)), (1, .ref (gAd G 8 i1))]) dX6_become_6 rfl hl (by decide) rfl (fun ls hl => ?_)
  refine w_X6_become_L7 X _ i0 hi0 i1 hi1 q ?_ 64 0 (nmI_l (by decide)) (gU M 8 i0 5 0) hf _ _ _ hH hS (gLv_sub hl [1, 2, 0] rfl)
  · intro  M_7_58 hf H locs ls hH hS hl
    have hq := Option.some.inj hf; subst hq
    exact gRetV X hH hS dX6_become_58
theorem m_X2_workerAt (l : Launch) (G : gG) (v1 : Int) (nv1 : nmI v1) (M : gM) (q : (Nat)) (hf : f_X2_workerAt v1 M = q) : gMet l yX2_workerAt cX2_workerAt 2 (some (.object "BuildGrid$Worker")) 0 0 G M [.ref (gAd G 4 0), .int (iI v1)] (gQr G 11 q M) := by
  refine gOfW (by decide) (by show _ ≤ 2; exact Nat.le_of_ble_eq_true rfl) rfl ?_
  intro p e s m below meth c X hH ls hl
  replace hl : gLv ls 2 [(0, .ref (gAd G 4 0)), (1, .int (iI v1))] := hl
  have hS : va_S (gA G) s.heap s.heap [] := va_S.rf
  generalize hargs : ([.ref (gAd G 4 0), .int (iI v1)] : List Value).toArray = args at X ⊢
  clear hargs
  unfold f_X2_workerAt at hf
  refine lv_iload_n X.1 X.2.1 dX2_workerAt_0 rfl (lv_at hl.1 1 rfl) ?_
  refine g_if_lt X nv1 (tgt := 18) dX2_workerAt_1 (by decide) (fun hc1 => ?_) (fun hc1 => ?_)
  · replace hf := it_t hf hc1
    refine lv_aload_n X.1 X.2.1 dX2_workerAt_18 rfl (lv_at hl.1 0 rfl) ?_
    refine g_get X cX2 hH (r := 4) (i := 0) (by decide) rfl 3 (by decide) k_385 rfl (v := .ref (gAd G 11 0)) rfl dX2_workerAt_19 ?_
    subst hf
    exact gRetR X hH hS (i := 0) (by decide) dX2_workerAt_22
  · replace hf := it_f hf hc1
    refine lv_iload_n X.1 X.2.1 dX2_workerAt_4 rfl (lv_at hl.1 1 rfl) ?_
    refine lv_iconst X.1 X.2.1 dX2_workerAt_5 (v := iI 4) rfl ?_
    refine g_icmp_ge X nv1 (nmI_l (by decide)) (tgt := 18) dX2_workerAt_6 (by decide) (fun hc6 => ?_) (fun hc6 => ?_)
    · replace hf := it_f hf hc6
      refine lv_aload_n X.1 X.2.1 dX2_workerAt_18 rfl (lv_at hl.1 0 rfl) ?_
      refine g_get X cX2 hH (r := 4) (i := 0) (by decide) rfl 3 (by decide) k_385 rfl (v := .ref (gAd G 11 0)) rfl dX2_workerAt_19 ?_
      subst hf
      exact gRetR X hH hS (i := 0) (by decide) dX2_workerAt_22
    · replace hf := it_t hf hc6
      refine lv_aload_n X.1 X.2.1 dX2_workerAt_9 rfl (lv_at hl.1 0 rfl) ?_
      refine g_get X cX2 hH (r := 4) (i := 0) (by decide) rfl 4 (by decide) k_386 rfl (v := .ref (gAd G 28 0)) rfl dX2_workerAt_10 ?_
      refine lv_iload_n X.1 X.2.1 dX2_workerAt_13 rfl (lv_at hl.1 1 rfl) ?_
      have hg : (0 : Int) ≤ v1 ∧ (v1 : Int) < 4 := ⟨by omega, by omega⟩
      refine g_aald X hH (r := 28) (i := 0) (by decide) rfl (t0 := 5) rfl nv1 hg (v := gAd G 11 v1.toNat) rfl dX2_workerAt_14 ?_
      refine lv_goto (tgt := 22) X.1 X.2.1 dX2_workerAt_15 (by decide) ?_
      subst hf
      exact gRetR X hH hS (i := v1.toNat) (by show _ < 4; omega) dX2_workerAt_22
theorem m_X10_rest (l : Launch) (G : gG) (i0 : Nat) (hi0 : i0 < 4) (v1 : Int) (nv1 : nmI v1) (M : gM) (q : gM) (hf : f_X10_rest i0 v1 M = q) : gMet l yX10_rest cX10_rest 2 none 0 0 G M [.ref (gAd G 11 i0), .int (iI v1)] (gQv G q) := by
  refine gOfW (by decide) (by show _ ≤ 2; exact Nat.le_of_ble_eq_true rfl) rfl ?_
  intro p e s m below meth c X hH ls hl
  replace hl : gLv ls 2 [(0, .ref (gAd G 11 i0)), (1, .int (iI v1))] := hl
  have hS : va_S (gA G) s.heap s.heap [] := va_S.rf
  generalize hargs : ([.ref (gAd G 11 i0), .int (iI v1)] : List Value).toArray = args at X ⊢
  clear hargs
  unfold f_X10_rest at hf
  refine lv_aload_n X.1 X.2.1 dX10_rest_0 rfl (lv_at hl.1 0 rfl) ?_
  refine lv_null X.1 X.2.1 dX10_rest_1 ?_
  refine g_putN X cX10 hH hS (r := 11) (i := i0) hi0 rfl 3 (by decide) k_354 rfl rfl (E := "BuildGrid$Action") (by decide +kernel) (Nat.le_of_ble_eq_true rfl) rfl rfl dX10_rest_2 (fun H locs hH hS => ?_)
  refine lv_aload_n X.1 X.2.1 dX10_rest_5 rfl (lv_at hl.1 0 rfl) ?_
  refine lv_iload_n X.1 X.2.1 dX10_rest_6 rfl (lv_at hl.1 1 rfl) ?_
  refine g_putI X cX10 hH hS (r := 11) (i := i0) hi0 rfl 2 (by decide) k_353 rfl rfl rfl (Nat.le_of_ble_eq_true rfl) (x := v1) nv1 rfl rfl rfl dX10_rest_7 (fun H locs hH hS => ?_)
  subst hf
  exact gRetV X hH hS dX10_rest_10
theorem w_X2_isAnyAt_L11 {G : gG} {p : Program} {l : Launch} {e : Env} {s : State} {m : MethodId} {args : Array Value} {below : List Frame} {meth : Method} {c : Code} (X : gX G p s m args meth c RX2 cX2_isAnyAt 6 (some .boolean) (gWs yX2_isAnyAt cX2_isAnyAt 6 (some .boolean))) (k40 : Option (Int)) (z1 : Nat) (hz1 : z1 < 60) (z3 : Int) (nz3 : nmI z3) (M : gM) (q : (Int)) (hk40 : k40 = some q → ∀ (H : Heap) (locs : List Loc) (ls : Array Slot), gH G M H → va_S (gA G) s.heap H locs → gLv ls 6 [] → W p l e { frames := 0, cells := 0, slots := 0, locals := 0 } s m args below meth c H locs 0 0 (MQ below (gQz G q M) args s 0 0 (gA G)) (F0 m 40 ls [])) : ∀ (n : Nat) (x4 : Int) (nx4 : nmI x4), f_X2_isAnyAt_L11 k40 z1 z3 M n x4 = some q → ∀ (H : Heap) (locs : List Loc) (ls : Array Slot), gH G M H → va_S (gA G) s.heap H locs → gLv ls 6 [(1, .ref (gAd G 9 z1)), (2, .ref (gAd G 28 0)), (3, .int (iI z3)), (4, .int (iI x4))] → W p l e { frames := 0, cells := 0, slots := 0, locals := 0 } s m args below meth c H locs 0 0 (MQ below (gQz G q M) args s 0 0 (gA G)) (F0 m 11 ls []) := by
  intro n
  induction n with
  | zero =>
    intro x4 nx4 hf
    cases hf
  | succ n ih =>
    intro x4 nx4 hf H locs ls hH hS hl
    rw [f_X2_isAnyAt_L11] at hf
    refine lv_iload X.1 X.2.1 dX2_isAnyAt_11 (lv_at hl.1 3 rfl) ?_
    refine lv_iload_n X.1 X.2.1 dX2_isAnyAt_13 rfl (lv_at hl.1 2 rfl) ?_
    refine g_icmp_ge X nx4 nz3 (tgt := 40) dX2_isAnyAt_14 (by decide) (fun hc14 => ?_) (fun hc14 => ?_)
    · replace hf := it_f hf hc14
      exact hk40  hf _ _ _ hH hS (gLv_sub hl [] rfl)
    · replace hf := it_t hf hc14
      refine lv_aload_n X.1 X.2.1 dX2_isAnyAt_17 rfl (lv_at hl.1 1 rfl) ?_
      refine lv_iload X.1 X.2.1 dX2_isAnyAt_18 (lv_at hl.1 3 rfl) ?_
      obtain ⟨hg, hf_⟩ := og_e hf; clear hf; have hf := hf_; clear hf_
      refine g_aald X hH (r := 28) (i := 0) (by decide) rfl (t0 := 5) rfl nx4 hg (v := gAd G 11 x4.toNat) rfl dX2_isAnyAt_20 ?_
      refine g_astore X (lv' := [(5, .ref (gAd G 11 x4.toNat)), (1, .ref (gAd G 9 z1)), (2, .ref (gAd G 28 0)), (3, .int (iI z3)), (4, .int (iI x4))]) dX2_isAnyAt_21 hl (by decide) rfl (fun ls hl => ?_)
      refine lv_aload X.1 X.2.1 dX2_isAnyAt_23 (lv_at hl.1 0 rfl) ?_
      refine g_get X cX10 hH (r := 11) (i := x4.toNat) (by show _ < 4; omega) rfl 3 (by decide) k_355 rfl (v := va_re (gAd G 9) (gAct (M 11 x4.toNat 3))) rfl dX2_isAnyAt_25 ?_
      obtain ⟨o25, eo25, hf_⟩ := oj_e hf; clear hf; have hf := hf_; clear hf_
      have ho25 : ∀ a, o25 = some a → a < 60 := by intro a h; rw [eo25] at h; exact gAct_lt (hH.1.2.2 _) h
      rw [← eo25]
      refine lv_aload_n X.1 X.2.1 dX2_isAnyAt_28 rfl (lv_at hl.1 1 rfl) ?_
      refine g_acmp_ne X (ad := gAd G 9) (x := o25) (y := (some z1)) (tgt := 34) (fun a b h1 h2 h => (gAd_inj (G := G) (r := 9) (r' := 9) (ho25 a h1) ((fun a h => by cases h; exact hz1) b h2) h).2) dX2_isAnyAt_29 (by decide) (fun hc29 => ?_) (fun hc29 => ?_)
      · replace hf := it_f hf hc29
        refine g_iinc X (a := x4) (lv' := [(4, .int (iI (wI (x4 + 1)))), (5, .ref (gAd G 11 x4.toNat)), (1, .ref (gAd G 9 z1)), (2, .ref (gAd G 28 0)), (3, .int (iI z3))]) dX2_isAnyAt_34 hl (k := 4) rfl (by decide) rfl (fun ls hl => ?_)
        refine lv_goto (tgt := 11) X.1 X.2.1 dX2_isAnyAt_37 (by decide) ?_
        exact ih (wI (x4 + 1)) (nmI_w _) hf _ _ _ hH hS (gLv_sub hl [2, 3, 4, 0] rfl)
      · replace hf := it_t hf hc29
        refine lv_iconst X.1 X.2.1 dX2_isAnyAt_32 (v := iI 1) rfl ?_
        have hq := Option.some.inj hf; subst hq
        exact gRetZ X hH hS (res := 1) (by decide) dX2_isAnyAt_33
theorem m_X2_isAnyAt (l : Launch) (G : gG) (i1 : Nat) (hi1 : i1 < 60) (M : gM) (q : (Int)) (hf : f_X2_isAnyAt i1 M = some q) : gMet l yX2_isAnyAt cX2_isAnyAt 6 (some .boolean) 0 0 G M [.ref (gAd G 4 0), .ref (gAd G 9 i1)] (gQz G q M) := by
  refine gOfW (by decide) (by show _ ≤ 6; exact Nat.le_of_ble_eq_true rfl) rfl ?_
  intro p e s m below meth c X hH ls hl
  replace hl : gLv ls 6 [(0, .ref (gAd G 4 0)), (1, .ref (gAd G 9 i1))] := hl
  have hS : va_S (gA G) s.heap s.heap [] := va_S.rf
  generalize hargs : ([.ref (gAd G 4 0), .ref (gAd G 9 i1)] : List Value).toArray = args at X ⊢
  clear hargs
  unfold f_X2_isAnyAt at hf
  refine lv_aload_n X.1 X.2.1 dX2_isAnyAt_0 rfl (lv_at hl.1 0 rfl) ?_
  refine g_get X cX2 hH (r := 4) (i := 0) (by decide) rfl 4 (by decide) k_386 rfl (v := .ref (gAd G 28 0)) rfl dX2_isAnyAt_1 ?_
  refine g_astore_n X (lv' := [(2, .ref (gAd G 28 0)), (0, .ref (gAd G 4 0)), (1, .ref (gAd G 9 i1))]) dX2_isAnyAt_4 rfl hl (by decide) rfl (fun ls hl => ?_)
  refine lv_aload_n X.1 X.2.1 dX2_isAnyAt_5 rfl (lv_at hl.1 0 rfl) ?_
  refine g_alen X hH (r := 28) (i := 0) (by decide) rfl (t0 := 5) rfl (n := 4) rfl dX2_isAnyAt_6 ?_
  refine g_istore_n X (lv' := [(3, .int (iI 4)), (2, .ref (gAd G 28 0)), (0, .ref (gAd G 4 0)), (1, .ref (gAd G 9 i1))]) dX2_isAnyAt_7 rfl hl (by decide) rfl (fun ls hl => ?_)
  refine lv_iconst X.1 X.2.1 dX2_isAnyAt_8 (v := iI 0) rfl ?_
  refine g_istore X (lv' := [(4, .int (iI 0)), (3, .int (iI 4)), (2, .ref (gAd G 28 0)), (0, .ref (gAd G 4 0)), (1, .ref (gAd G 9 i1))]) dX2_isAnyAt_9 hl (by decide) rfl (fun ls hl => ?_)
  refine w_X2_isAnyAt_L11 X _ i1 hi1 4 (nmI_l (by decide)) M q ?_ 64 0 (nmI_l (by decide)) hf _ _ _ hH hS (gLv_sub hl [4, 2, 1, 0] rfl)
  · intro  hf H locs ls hH hS hl
    refine lv_iconst X.1 X.2.1 dX2_isAnyAt_40 (v := iI 0) rfl ?_
    have hq := Option.some.inj hf; subst hq
    exact gRetZ X hH hS (res := 0) (by decide) dX2_isAnyAt_41
theorem m_X2_tally (l : Launch) (G : gG) (v1 : Int) (nv1 : nmI v1) (M : gM) (q : gM) (hf : f_X2_tally v1 M = q) : gMet l yX2_tally cX2_tally 2 none 1 22 G M [.ref (gAd G 4 0), .int (iI v1)] (gQv G q) := by
  refine gOfW (by decide) (by show _ ≤ 2; exact Nat.le_of_ble_eq_true rfl) rfl ?_
  intro p e s m below meth c X hH ls hl
  replace hl : gLv ls 2 [(0, .ref (gAd G 4 0)), (1, .int (iI v1))] := hl
  have hS : va_S (gA G) s.heap s.heap [] := va_S.rf
  generalize hargs : ([.ref (gAd G 4 0), .int (iI v1)] : List Value).toArray = args at X ⊢
  clear hargs
  unfold f_X2_tally at hf
  refine lv_aload_n X.1 X.2.1 dX2_tally_0 rfl (lv_at hl.1 0 rfl) ?_
  refine g_get X cX2 hH (r := 4) (i := 0) (by decide) rfl 5 (by decide) k_387 rfl (v := .ref (gAd G 24 0)) rfl dX2_tally_1 ?_
  refine lv_iload_n X.1 X.2.1 dX2_tally_4 rfl (lv_at hl.1 1 rfl) ?_
  refine lv_aload_n X.1 X.2.1 dX2_tally_5 rfl (lv_at hl.1 0 rfl) ?_
  refine g_get X cX2 hH (r := 4) (i := 0) (by decide) rfl 5 (by decide) k_387 rfl (v := .ref (gAd G 24 0)) rfl dX2_tally_6 ?_
  refine lv_iload_n X.1 X.2.1 dX2_tally_9 rfl (lv_at hl.1 1 rfl) ?_
  refine gGoI (gRunSN X hH (As := [.ref (gAd G 24 0), .int (iI v1)]) (m_X11_at l G 24 0 5 (by decide) gArr_24 v1 nv1 M _ rfl) calX11_at k_563 k_677 ⟨by decide, by decide⟩ rfl hl rfl (Nat.le_of_ble_eq_true rfl) ⟨Nat.le_of_ble_eq_true rfl, Nat.le_of_ble_eq_true rfl⟩ dX2_tally_10) hS (fun H locs nr10 hH hS => ?_)
  refine lv_iconst X.1 X.2.1 dX2_tally_13 (v := iI 1) rfl ?_
  refine g_iadd X dX2_tally_14 ?_
  refine gGoV (gRunSN X hH (As := [.ref (gAd G 24 0), .int (iI v1), .int (iI (wI (((f_X11_at 24 0 5 v1 M)) + 1)))]) (m_X11_store l G 24 0 5 (by decide) gArr_24 v1 nv1 (wI (((f_X11_at 24 0 5 v1 M)) + 1)) (nmI_w _) M _ rfl) calX11_store k_566 k_678 ⟨by decide, by decide⟩ rfl hl rfl (Nat.le_of_ble_eq_true rfl) ⟨Nat.le_of_ble_eq_true rfl, Nat.le_of_ble_eq_true rfl⟩ dX2_tally_15) hS (fun H locs hH hS => ?_)
  subst hf
  exact gRetV X hH hS dX2_tally_18
theorem m_X2_changePower (l : Launch) (G : gG) (i1 : Nat) (hi1 : i1 < 4) (v2 : Int) (nv2 : nmI v2) (M : gM) (q : gM) (hf : f_X2_changePower i1 v2 M = some q) : gMet l yX2_changePower cX2_changePower 4 none 2 43 G M [.ref (gAd G 4 0), .ref (gAd G 11 i1), .int (iI v2)] (gQv G q) := by
  refine gOfW (by decide) (by show _ ≤ 4; exact Nat.le_of_ble_eq_true rfl) rfl ?_
  intro p e s m below meth c X hH ls hl
  replace hl : gLv ls 4 [(0, .ref (gAd G 4 0)), (1, .ref (gAd G 11 i1)), (2, .int (iI v2))] := hl
  have hS : va_S (gA G) s.heap s.heap [] := va_S.rf
  generalize hargs : ([.ref (gAd G 4 0), .ref (gAd G 11 i1), .int (iI v2)] : List Value).toArray = args at X ⊢
  clear hargs
  unfold f_X2_changePower at hf
  refine lv_aload_n X.1 X.2.1 dX2_changePower_0 rfl (lv_at hl.1 1 rfl) ?_
  refine g_get X cX10 hH (r := 11) (i := i1) hi1 rfl 3 (by decide) k_355 rfl (v := va_re (gAd G 9) (gAct (M 11 i1 3))) rfl dX2_changePower_1 ?_
  obtain ⟨o1, eo1, hf_⟩ := oj_e hf; clear hf; have hf := hf_; clear hf_
  have ho1 : ∀ a, o1 = some a → a < 60 := by intro a h; rw [eo1] at h; exact gAct_lt (hH.1.2.2 _) h
  rw [← eo1]
  refine g_astore_nO X (lv' := [(3, va_re (gAd G 9) o1), (0, .ref (gAd G 4 0)), (1, .ref (gAd G 11 i1)), (2, .int (iI v2))]) dX2_changePower_4 rfl hl (by decide) rfl (fun ls hl => ?_)
  refine lv_aload_n X.1 X.2.1 dX2_changePower_5 rfl (lv_at hl.1 2 rfl) ?_
  refine lv_iload_n X.1 X.2.1 dX2_changePower_6 rfl (lv_at hl.1 3 rfl) ?_
  refine g_putI X cX10 hH hS (r := 11) (i := i1) hi1 rfl 1 (by decide) k_351 rfl rfl rfl (Nat.le_of_ble_eq_true rfl) (x := v2) nv2 rfl rfl rfl dX2_changePower_7 (fun H locs hH hS => ?_)
  refine lv_aload_n X.1 X.2.1 dX2_changePower_10 rfl (lv_at hl.1 2 rfl) ?_
  refine lv_iconst X.1 X.2.1 dX2_changePower_11 (v := iI (-1)) rfl ?_
  refine gGoV (gRunV X hH (As := [.int (iI ((-1)))]) (m_X10_rest l G i1 hi1 ((-1)) (nmI_l (by decide)) (gU M 11 i1 1 v2) _ rfl) calX10_rest k_666 k_667 k_665 hi1 cX10 rfl ⟨by decide, by decide⟩ rfl hl rfl (Nat.le_of_ble_eq_true rfl) ⟨Nat.le_of_ble_eq_true rfl, Nat.le_of_ble_eq_true rfl⟩ dX2_changePower_12) hS (fun H locs hH hS => ?_)
  refine g_aload_nO X (ad := gAd G 9) (x := o1) dX2_changePower_15 rfl (lv_at hl.1 0 rfl) ?_
  refine g_ifnullO X (ad := gAd G 9) (x := o1) (tgt := 37) dX2_changePower_16 (by decide) ?_ ?_
  · intro hx
    subst hx
    replace hf := om_n hf
    have hq := Option.some.inj hf; subst hq
    exact gRetV X hH hS dX2_changePower_37
  · intro a16 hx
    subst hx
    replace hf := om_s hf
    have ha16 : a16 < 60 := ho1 _ rfl
    refine lv_aload_n X.1 X.2.1 dX2_changePower_19 rfl (lv_at hl.1 1 rfl) ?_
    refine lv_aload_n X.1 X.2.1 dX2_changePower_20 rfl (lv_at hl.1 0 rfl) ?_
    obtain ⟨r21, hq21, hf_⟩ := ob_e hf; clear hf; have hf := hf_; clear hf_
    refine gGoZ (gRunV X hH (As := [.ref (gAd G 9 a16)]) (m_X2_isAnyAt l G a16 ha16 ((f_X10_rest i1 ((-1)) (gU M 11 i1 1 v2))) _ hq21) calX2_isAnyAt k_671 k_4 k_669 (by decide) cX2 rfl ⟨by decide, by decide⟩ rfl hl rfl (Nat.le_of_ble_eq_true rfl) ⟨Nat.le_of_ble_eq_true rfl, Nat.le_of_ble_eq_true rfl⟩ dX2_changePower_21) hS (fun H locs br21 hH hS => ?_)
    refine g_if_ne X (nmI_b br21) (tgt := 37) dX2_changePower_24 (by decide) (fun hc24 => ?_) (fun hc24 => ?_)
    · replace hf := it_f hf hc24
      have hq := Option.some.inj hf; subst hq
      exact gRetV X hH hS dX2_changePower_37
    · replace hf := it_t hf hc24
      refine lv_aload_n X.1 X.2.1 dX2_changePower_27 rfl (lv_at hl.1 0 rfl) ?_
      refine lv_iconst X.1 X.2.1 dX2_changePower_28 (v := iI 1) rfl ?_
      refine g_putI X cX0 hH hS (r := 9) (i := a16) ha16 rfl 2 (by decide) k_145 rfl rfl rfl (Nat.le_of_ble_eq_true rfl) (x := 1) (nmI_l (by decide)) rfl rfl rfl dX2_changePower_29 (fun H locs hH hS => ?_)
      refine lv_aload_n X.1 X.2.1 dX2_changePower_32 rfl (lv_at hl.1 1 rfl) ?_
      refine lv_iconst X.1 X.2.1 dX2_changePower_33 (v := iI 2) rfl ?_
      refine gGoV (gRunV X hH (As := [.int (iI 2)]) (m_X2_tally l G 2 (nmI_l (by decide)) (gU ((f_X10_rest i1 ((-1)) (gU M 11 i1 1 v2))) 9 a16 2 1) _ rfl) calX2_tally k_675 k_5 k_673 (by decide) cX2 rfl ⟨by decide, by decide⟩ rfl hl rfl (Nat.le_of_ble_eq_true rfl) ⟨Nat.le_of_ble_eq_true rfl, Nat.le_of_ble_eq_true rfl⟩ dX2_changePower_34) hS (fun H locs hH hS => ?_)
      have hq := Option.some.inj hf; subst hq
      exact gRetV X hH hS dX2_changePower_37
theorem m_J9_floorMod_7cf53 (l : Launch) (G : gG) (v0 : Int) (nv0 : nmI v0) (v1 : Int) (nv1 : nmI v1) (M : gM) (q : (Int)) (hf : f_J9_floorMod_7cf53 v0 v1 M = some q) : gMet l yJ9_floorMod_7cf53 cJ9_floorMod_7cf53 3 (some .int) 0 0 G M [.int (iI v0), .int (iI v1)] (gQi G q M) := by
  refine gOfWF (by decide +kernel) (by show _ ≤ 3; exact Nat.le_of_ble_eq_true rfl) rfl ?_
  intro p e s m below meth c X hH ls hl
  replace hl : gLv ls 3 [(0, .int (iI v0)), (1, .int (iI v1))] := hl
  have hS : va_S (gA G) s.heap s.heap [] := va_S.rf
  generalize hargs : ([.int (iI v0), .int (iI v1)] : List Value).toArray = args at X ⊢
  clear hargs
  unfold f_J9_floorMod_7cf53 at hf
  refine lv_iload_n X.1 X.2.1 dJ9_floorMod_7cf53_0 rfl (lv_at hl.1 0 rfl) ?_
  refine lv_iload_n X.1 X.2.1 dJ9_floorMod_7cf53_1 rfl (lv_at hl.1 1 rfl) ?_
  obtain ⟨hz, hf_⟩ := og_e hf; clear hf; have hf := hf_; clear hf_
  refine g_irem X nv0 nv1 hz dJ9_floorMod_7cf53_2 ?_
  refine g_istore_n X (lv' := [(2, .int (iI (gRem v0 v1))), (0, .int (iI v0)), (1, .int (iI v1))]) dJ9_floorMod_7cf53_3 rfl hl (by decide) rfl (fun ls hl => ?_)
  refine lv_iload_n X.1 X.2.1 dJ9_floorMod_7cf53_4 rfl (lv_at hl.1 1 rfl) ?_
  refine lv_iload_n X.1 X.2.1 dJ9_floorMod_7cf53_5 rfl (lv_at hl.1 2 rfl) ?_
  refine g_ixor X dJ9_floorMod_7cf53_6 ?_
  refine g_if_ge X (nmI_xor _ _) (tgt := 18) dJ9_floorMod_7cf53_7 (by decide) (fun hc7 => ?_) (fun hc7 => ?_)
  · replace hf := it_f hf hc7
    refine lv_iload_n X.1 X.2.1 dJ9_floorMod_7cf53_18 rfl (lv_at hl.1 0 rfl) ?_
    have hq := Option.some.inj hf; subst hq
    exact gRetI X hH hS (res := gRem v0 v1) (nmI_rem _ _) dJ9_floorMod_7cf53_19
  · replace hf := it_t hf hc7
    refine lv_iload_n X.1 X.2.1 dJ9_floorMod_7cf53_10 rfl (lv_at hl.1 0 rfl) ?_
    refine g_if_eq X (nmI_rem _ _) (tgt := 18) dJ9_floorMod_7cf53_11 (by decide) (fun hc11 => ?_) (fun hc11 => ?_)
    · replace hf := it_t hf hc11
      refine lv_iload_n X.1 X.2.1 dJ9_floorMod_7cf53_18 rfl (lv_at hl.1 0 rfl) ?_
      have hq := Option.some.inj hf; subst hq
      exact gRetI X hH hS (res := gRem v0 v1) (nmI_rem _ _) dJ9_floorMod_7cf53_19
    · replace hf := it_f hf hc11
      refine lv_iload_n X.1 X.2.1 dJ9_floorMod_7cf53_14 rfl (lv_at hl.1 0 rfl) ?_
      refine lv_iload_n X.1 X.2.1 dJ9_floorMod_7cf53_15 rfl (lv_at hl.1 2 rfl) ?_
      refine g_iadd X dJ9_floorMod_7cf53_16 ?_
      have hq := Option.some.inj hf; subst hq
      exact gRetI X hH hS (res := wI ((gRem v0 v1) + v1)) (nmI_w _) dJ9_floorMod_7cf53_17
theorem m_X1_entryAt (l : Launch) (G : gG) (v1 : Int) (nv1 : nmI v1) (M : gM) (q : (Option Nat)) (hf : f_X1_entryAt v1 M = some q) : gMet l yX1_entryAt cX1_entryAt 2 (some (.object "BuildGrid$Entry")) 1 22 G M [.ref (gAd G 3 0), .int (iI v1)] (gQq G 10 q M) := by
  refine gOfW (by decide) (by show _ ≤ 2; exact Nat.le_of_ble_eq_true rfl) rfl ?_
  intro p e s m below meth c X hH ls hl
  replace hl : gLv ls 2 [(0, .ref (gAd G 3 0)), (1, .int (iI v1))] := hl
  have hS : va_S (gA G) s.heap s.heap [] := va_S.rf
  generalize hargs : ([.ref (gAd G 3 0), .int (iI v1)] : List Value).toArray = args at X ⊢
  clear hargs
  unfold f_X1_entryAt at hf
  refine lv_iload_n X.1 X.2.1 dX1_entryAt_0 rfl (lv_at hl.1 1 rfl) ?_
  refine g_if_lt X nv1 (tgt := 31) dX1_entryAt_1 (by decide) (fun hc1 => ?_) (fun hc1 => ?_)
  · replace hf := it_t hf hc1
    refine lv_null X.1 X.2.1 dX1_entryAt_31 ?_
    have hq := Option.some.inj hf; subst hq
    exact gRetQ X hH hS (reg := 10) (o := none) (fun a h => nomatch h) dX1_entryAt_32
  · replace hf := it_f hf hc1
    refine lv_iload_n X.1 X.2.1 dX1_entryAt_4 rfl (lv_at hl.1 1 rfl) ?_
    refine lv_aload_n X.1 X.2.1 dX1_entryAt_5 rfl (lv_at hl.1 0 rfl) ?_
    have nd6 : nmI (M 3 0 2) := hH.1.1 _ _ _
    refine g_get X cX1 hH (r := 3) (i := 0) (by decide) rfl 2 (by decide) k_308 rfl (v := .int (iI (M 3 0 2))) rfl dX1_entryAt_6 ?_
    refine g_icmp_ge X nv1 nd6 (tgt := 31) dX1_entryAt_9 (by decide) (fun hc9 => ?_) (fun hc9 => ?_)
    · replace hf := it_f hf hc9
      refine lv_null X.1 X.2.1 dX1_entryAt_31 ?_
      have hq := Option.some.inj hf; subst hq
      exact gRetQ X hH hS (reg := 10) (o := none) (fun a h => nomatch h) dX1_entryAt_32
    · replace hf := it_t hf hc9
      refine lv_aload_n X.1 X.2.1 dX1_entryAt_12 rfl (lv_at hl.1 0 rfl) ?_
      refine g_get X cX1 hH (r := 3) (i := 0) (by decide) rfl 0 (by decide) k_306 rfl (v := .ref (gAd G 27 0)) rfl dX1_entryAt_13 ?_
      refine lv_aload_n X.1 X.2.1 dX1_entryAt_16 rfl (lv_at hl.1 0 rfl) ?_
      have nd17 : nmI (M 3 0 1) := hH.1.1 _ _ _
      refine g_get X cX1 hH (r := 3) (i := 0) (by decide) rfl 1 (by decide) k_307 rfl (v := .int (iI (M 3 0 1))) rfl dX1_entryAt_17 ?_
      refine lv_iload_n X.1 X.2.1 dX1_entryAt_20 rfl (lv_at hl.1 1 rfl) ?_
      refine g_iadd X dX1_entryAt_21 ?_
      refine lv_bipush X.1 X.2.1 dX1_entryAt_22 (v := iI 40) (by decide) ?_
      obtain ⟨r24, hq24, hf_⟩ := ob_e hf; clear hf; have hf := hf_; clear hf_
      refine gGoI (gRunS X hH (As := [.int (iI (wI ((M 3 0 1) + v1))), .int (iI 40)]) (m_J9_floorMod_7cf53 l G (wI ((M 3 0 1) + v1)) (nmI_w _) 40 (nmI_l (by decide)) M _ hq24) calJ9_floorMod_7cf53 k_688 k_687 ⟨by decide, by decide⟩ rfl hl rfl (Nat.le_of_ble_eq_true rfl) ⟨Nat.le_of_ble_eq_true rfl, Nat.le_of_ble_eq_true rfl⟩ dX1_entryAt_24) hS (fun H locs nr24 hH hS => ?_)
      obtain ⟨hg, hf_⟩ := og_e hf; clear hf; have hf := hf_; clear hf_
      refine g_aald X hH (r := 27) (i := 0) (by decide) rfl (t0 := 3) rfl nr24 hg (v := gAd G 10 r24.toNat) rfl dX1_entryAt_27 ?_
      refine lv_goto (tgt := 32) X.1 X.2.1 dX1_entryAt_28 (by decide) ?_
      have hq := Option.some.inj hf; subst hq
      exact gRetQ X hH hS (reg := 10) (o := (some r24.toNat)) (fun a h => by cases h; exact (by show _ < 40; omega)) dX1_entryAt_32
theorem m_X11_plus (l : Launch) (G : gG) (v0 : Int) (nv0 : nmI v0) (v1 : Int) (nv1 : nmI v1) (M : gM) (q : (Int)) (hf : f_X11_plus v0 v1 M = q) : gMet l yX11_plus cX11_plus 2 (some .int) 0 0 G M [.int (iI v0), .int (iI v1)] (gQi G q M) := by
  refine gOfW (by decide) (by show _ ≤ 2; exact Nat.le_of_ble_eq_true rfl) rfl ?_
  intro p e s m below meth c X hH ls hl
  replace hl : gLv ls 2 [(0, .int (iI v0)), (1, .int (iI v1))] := hl
  have hS : va_S (gA G) s.heap s.heap [] := va_S.rf
  generalize hargs : ([.int (iI v0), .int (iI v1)] : List Value).toArray = args at X ⊢
  clear hargs
  unfold f_X11_plus at hf
  refine lv_bipush X.1 X.2.1 dX11_plus_0 (v := iI 31) (by decide) ?_
  refine lv_iload_n X.1 X.2.1 dX11_plus_2 rfl (lv_at hl.1 0 rfl) ?_
  refine g_imul X dX11_plus_3 ?_
  refine lv_iload_n X.1 X.2.1 dX11_plus_4 rfl (lv_at hl.1 1 rfl) ?_
  refine g_iadd X dX11_plus_5 ?_
  refine lv_iconst X.1 X.2.1 dX11_plus_6 (v := iI 1) rfl ?_
  refine g_iadd X dX11_plus_7 ?_
  refine g_ldc X k_706 (a := 100003) (by decide) dX11_plus_8 ?_
  refine g_irem X (nmI_w _) (nmI_l (by decide)) (by decide) dX11_plus_10 ?_
  subst hf
  exact gRetI X hH hS (res := gRem (wI ((wI ((wI (31 * v0)) + v1)) + 1)) 100003) (nmI_rem _ _) dX11_plus_11
theorem m_X3_rightSignature (l : Launch) (G : gG) (i0 : Nat) (hi0 : i0 < 40) (M : gM) (q : (Int)) (hf : f_X3_rightSignature i0 M = q) : gMet l yX3_rightSignature cX3_rightSignature 1 (some .int) 1 21 G M [.ref (gAd G 10 i0)] (gQi G q M) := by
  refine gOfW (by decide) (by show _ ≤ 1; exact Nat.le_of_ble_eq_true rfl) rfl ?_
  intro p e s m below meth c X hH ls hl
  replace hl : gLv ls 1 [(0, .ref (gAd G 10 i0))] := hl
  have hS : va_S (gA G) s.heap s.heap [] := va_S.rf
  generalize hargs : ([.ref (gAd G 10 i0)] : List Value).toArray = args at X ⊢
  clear hargs
  unfold f_X3_rightSignature at hf
  refine lv_bipush X.1 X.2.1 dX3_rightSignature_0 (v := iI 7) (by decide) ?_
  refine lv_aload_n X.1 X.2.1 dX3_rightSignature_2 rfl (lv_at hl.1 0 rfl) ?_
  have nd3 : nmI (M 10 i0 0) := hH.1.1 _ _ _
  refine g_get X cX3 hH (r := 10) (i := i0) hi0 rfl 0 (by decide) k_280 rfl (v := .int (iI (M 10 i0 0))) rfl dX3_rightSignature_3 ?_
  refine gGoI (gRunSN X hH (As := [.int (iI 7), .int (iI (M 10 i0 0))]) (m_X11_plus l G 7 (nmI_l (by decide)) (M 10 i0 0) nd3 M _ rfl) calX11_plus k_704 k_703 ⟨by decide, by decide⟩ rfl hl rfl (Nat.le_of_ble_eq_true rfl) ⟨Nat.le_of_ble_eq_true rfl, Nat.le_of_ble_eq_true rfl⟩ dX3_rightSignature_6) hS (fun H locs nr6 hH hS => ?_)
  refine lv_aload_n X.1 X.2.1 dX3_rightSignature_9 rfl (lv_at hl.1 0 rfl) ?_
  have nd10 : nmI (M 10 i0 3) := hH.1.1 _ _ _
  refine g_get X cX3 hH (r := 10) (i := i0) hi0 rfl 3 (by decide) k_283 rfl (v := .int (iI (M 10 i0 3))) rfl dX3_rightSignature_10 ?_
  refine gGoI (gRunSN X hH (As := [.int (iI ((f_X11_plus 7 (M 10 i0 0) M))), .int (iI (M 10 i0 3))]) (m_X11_plus l G ((f_X11_plus 7 (M 10 i0 0) M)) nr6 (M 10 i0 3) nd10 M _ rfl) calX11_plus k_704 k_703 ⟨by decide, by decide⟩ rfl hl rfl (Nat.le_of_ble_eq_true rfl) ⟨Nat.le_of_ble_eq_true rfl, Nat.le_of_ble_eq_true rfl⟩ dX3_rightSignature_13) hS (fun H locs nr13 hH hS => ?_)
  refine lv_bipush X.1 X.2.1 dX3_rightSignature_16 (v := iI 17) (by decide) ?_
  refine lv_aload_n X.1 X.2.1 dX3_rightSignature_18 rfl (lv_at hl.1 0 rfl) ?_
  have nd19 : nmI (M 10 i0 4) := hH.1.1 _ _ _
  refine g_get X cX3 hH (r := 10) (i := i0) hi0 rfl 4 (by decide) k_286 rfl (v := .int (iI (M 10 i0 4))) rfl dX3_rightSignature_19 ?_
  refine g_imul X dX3_rightSignature_22 ?_
  refine lv_iconst X.1 X.2.1 dX3_rightSignature_23 (v := iI 5) rfl ?_
  refine g_iadd X dX3_rightSignature_24 ?_
  refine gGoI (gRunSN X hH (As := [.int (iI ((f_X11_plus ((f_X11_plus 7 (M 10 i0 0) M)) (M 10 i0 3) M))), .int (iI (wI ((wI (17 * (M 10 i0 4))) + 5)))]) (m_X11_plus l G ((f_X11_plus ((f_X11_plus 7 (M 10 i0 0) M)) (M 10 i0 3) M)) nr13 (wI ((wI (17 * (M 10 i0 4))) + 5)) (nmI_w _) M _ rfl) calX11_plus k_704 k_703 ⟨by decide, by decide⟩ rfl hl rfl (Nat.le_of_ble_eq_true rfl) ⟨Nat.le_of_ble_eq_true rfl, Nat.le_of_ble_eq_true rfl⟩ dX3_rightSignature_25) hS (fun H locs nr25 hH hS => ?_)
  subst hf
  exact gRetI X hH hS (res := (f_X11_plus ((f_X11_plus ((f_X11_plus 7 (M 10 i0 0) M)) (M 10 i0 3) M)) (wI ((wI (17 * (M 10 i0 4))) + 5)) M)) nr25 dX3_rightSignature_28
theorem m_X3_isRightlySigned (l : Launch) (G : gG) (i0 : Nat) (hi0 : i0 < 40) (M : gM) (q : (Int)) (hf : f_X3_isRightlySigned i0 M = q) : gMet l yX3_isRightlySigned cX3_isRightlySigned 1 (some .boolean) 2 41 G M [.ref (gAd G 10 i0)] (gQz G q M) := by
  refine gOfW (by decide) (by show _ ≤ 1; exact Nat.le_of_ble_eq_true rfl) rfl ?_
  intro p e s m below meth c X hH ls hl
  replace hl : gLv ls 1 [(0, .ref (gAd G 10 i0))] := hl
  have hS : va_S (gA G) s.heap s.heap [] := va_S.rf
  generalize hargs : ([.ref (gAd G 10 i0)] : List Value).toArray = args at X ⊢
  clear hargs
  unfold f_X3_isRightlySigned at hf
  refine lv_aload_n X.1 X.2.1 dX3_isRightlySigned_0 rfl (lv_at hl.1 0 rfl) ?_
  have nd1 : nmI (M 10 i0 5) := hH.1.1 _ _ _
  refine g_get X cX3 hH (r := 10) (i := i0) hi0 rfl 5 (by decide) k_289 rfl (v := .int (iI (M 10 i0 5))) rfl dX3_isRightlySigned_1 ?_
  refine lv_aload_n X.1 X.2.1 dX3_isRightlySigned_4 rfl (lv_at hl.1 0 rfl) ?_
  refine gGoI (gRunV X hH (As := []) (m_X3_rightSignature l G i0 hi0 M _ rfl) calX3_rightSignature k_701 k_6 k_699 hi0 cX3 rfl ⟨by decide, by decide⟩ rfl hl rfl (Nat.le_of_ble_eq_true rfl) ⟨Nat.le_of_ble_eq_true rfl, Nat.le_of_ble_eq_true rfl⟩ dX3_isRightlySigned_5) hS (fun H locs nr5 hH hS => ?_)
  refine g_icmp_ne X nd1 nr5 (tgt := 15) dX3_isRightlySigned_8 (by decide) (fun hc8 => ?_) (fun hc8 => ?_)
  · replace hf := it_f hf hc8
    refine lv_iconst X.1 X.2.1 dX3_isRightlySigned_15 (v := iI 0) rfl ?_
    subst hf
    exact gRetZ X hH hS (res := 0) (by decide) dX3_isRightlySigned_16
  · replace hf := it_t hf hc8
    refine lv_iconst X.1 X.2.1 dX3_isRightlySigned_11 (v := iI 1) rfl ?_
    refine lv_goto (tgt := 16) X.1 X.2.1 dX3_isRightlySigned_12 (by decide) ?_
    subst hf
    exact gRetZ X hH hS (res := 1) (by decide) dX3_isRightlySigned_16
theorem m_X3_tell (l : Launch) (G : gG) (i0 : Nat) (hi0 : i0 < 40) (v1 : Int) (nv1 : nmI v1) (M : gM) (q : (Int)) (hf : f_X3_tell i0 v1 M = q) : gMet l yX3_tell cX3_tell 2 (some .int) 3 61 G M [.ref (gAd G 10 i0), .int (iI v1)] (gQi G q M) := by
  refine gOfW (by decide) (by show _ ≤ 2; exact Nat.le_of_ble_eq_true rfl) rfl ?_
  intro p e s m below meth c X hH ls hl
  replace hl : gLv ls 2 [(0, .ref (gAd G 10 i0)), (1, .int (iI v1))] := hl
  have hS : va_S (gA G) s.heap s.heap [] := va_S.rf
  generalize hargs : ([.ref (gAd G 10 i0), .int (iI v1)] : List Value).toArray = args at X ⊢
  clear hargs
  unfold f_X3_tell at hf
  refine lv_iload_n X.1 X.2.1 dX3_tell_0 rfl (lv_at hl.1 1 rfl) ?_
  by_cases hs0 : v1 = 0
  · replace hf := it_t hf hs0
    refine lv_tableIn (tgt := 40) X.1 X.2.1 dX3_tell_1 (by rw [iI_T nv1]; omega) (by rw [iI_T nv1]; omega) (by rw [iI_T nv1, hs0]; rfl) (by decide) ?_
    refine lv_aload_n X.1 X.2.1 dX3_tell_40 rfl (lv_at hl.1 0 rfl) ?_
    have nd41 : nmI (M 10 i0 0) := hH.1.1 _ _ _
    refine g_get X cX3 hH (r := 10) (i := i0) hi0 rfl 0 (by decide) k_280 rfl (v := .int (iI (M 10 i0 0))) rfl dX3_tell_41 ?_
    subst hf
    exact gRetI X hH hS (res := M 10 i0 0) nd41 dX3_tell_44
  replace hf := it_f hf hs0
  by_cases hs1 : v1 = 1
  · replace hf := it_t hf hs1
    refine lv_tableIn (tgt := 45) X.1 X.2.1 dX3_tell_1 (by rw [iI_T nv1]; omega) (by rw [iI_T nv1]; omega) (by rw [iI_T nv1, hs1]; rfl) (by decide) ?_
    refine lv_aload_n X.1 X.2.1 dX3_tell_45 rfl (lv_at hl.1 0 rfl) ?_
    have nd46 : nmI (M 10 i0 1) := hH.1.1 _ _ _
    refine g_get X cX3 hH (r := 10) (i := i0) hi0 rfl 1 (by decide) k_281 rfl (v := .int (iI (M 10 i0 1))) rfl dX3_tell_46 ?_
    subst hf
    exact gRetI X hH hS (res := M 10 i0 1) nd46 dX3_tell_49
  replace hf := it_f hf hs1
  by_cases hs2 : v1 = 2
  · replace hf := it_t hf hs2
    refine lv_tableIn (tgt := 50) X.1 X.2.1 dX3_tell_1 (by rw [iI_T nv1]; omega) (by rw [iI_T nv1]; omega) (by rw [iI_T nv1, hs2]; rfl) (by decide) ?_
    refine lv_aload_n X.1 X.2.1 dX3_tell_50 rfl (lv_at hl.1 0 rfl) ?_
    have nd51 : nmI (M 10 i0 2) := hH.1.1 _ _ _
    refine g_get X cX3 hH (r := 10) (i := i0) hi0 rfl 2 (by decide) k_282 rfl (v := .int (iI (M 10 i0 2))) rfl dX3_tell_51 ?_
    subst hf
    exact gRetI X hH hS (res := M 10 i0 2) nd51 dX3_tell_54
  replace hf := it_f hf hs2
  by_cases hs3 : v1 = 3
  · replace hf := it_t hf hs3
    refine lv_tableIn (tgt := 55) X.1 X.2.1 dX3_tell_1 (by rw [iI_T nv1]; omega) (by rw [iI_T nv1]; omega) (by rw [iI_T nv1, hs3]; rfl) (by decide) ?_
    refine lv_aload_n X.1 X.2.1 dX3_tell_55 rfl (lv_at hl.1 0 rfl) ?_
    have nd56 : nmI (M 10 i0 3) := hH.1.1 _ _ _
    refine g_get X cX3 hH (r := 10) (i := i0) hi0 rfl 3 (by decide) k_283 rfl (v := .int (iI (M 10 i0 3))) rfl dX3_tell_56 ?_
    subst hf
    exact gRetI X hH hS (res := M 10 i0 3) nd56 dX3_tell_59
  replace hf := it_f hf hs3
  by_cases hs4 : v1 = 4
  · replace hf := it_t hf hs4
    refine lv_tableIn (tgt := 60) X.1 X.2.1 dX3_tell_1 (by rw [iI_T nv1]; omega) (by rw [iI_T nv1]; omega) (by rw [iI_T nv1, hs4]; rfl) (by decide) ?_
    refine lv_aload_n X.1 X.2.1 dX3_tell_60 rfl (lv_at hl.1 0 rfl) ?_
    have nd61 : nmI (M 10 i0 4) := hH.1.1 _ _ _
    refine g_get X cX3 hH (r := 10) (i := i0) hi0 rfl 4 (by decide) k_286 rfl (v := .int (iI (M 10 i0 4))) rfl dX3_tell_61 ?_
    subst hf
    exact gRetI X hH hS (res := M 10 i0 4) nd61 dX3_tell_64
  replace hf := it_f hf hs4
  by_cases hs5 : v1 = 5
  · replace hf := it_t hf hs5
    refine lv_tableIn (tgt := 65) X.1 X.2.1 dX3_tell_1 (by rw [iI_T nv1]; omega) (by rw [iI_T nv1]; omega) (by rw [iI_T nv1, hs5]; rfl) (by decide) ?_
    refine lv_aload_n X.1 X.2.1 dX3_tell_65 rfl (lv_at hl.1 0 rfl) ?_
    have nd66 : nmI (M 10 i0 6) := hH.1.1 _ _ _
    have bd66 := hH.1.2.1 10 i0 6 rfl
    refine g_get X cX3 hH (r := 10) (i := i0) hi0 rfl 6 (by decide) k_290 rfl (v := .int (iI (M 10 i0 6))) rfl dX3_tell_66 ?_
    refine g_if_eq X nd66 (tgt := 76) dX3_tell_69 (by decide) (fun hc69 => ?_) (fun hc69 => ?_)
    · replace hf := it_t hf hc69
      refine lv_iconst X.1 X.2.1 dX3_tell_76 (v := iI 0) rfl ?_
      subst hf
      exact gRetI X hH hS (res := 0) (nmI_l (by decide)) dX3_tell_77
    · replace hf := it_f hf hc69
      refine lv_iconst X.1 X.2.1 dX3_tell_72 (v := iI 1) rfl ?_
      refine lv_goto (tgt := 77) X.1 X.2.1 dX3_tell_73 (by decide) ?_
      subst hf
      exact gRetI X hH hS (res := 1) (nmI_l (by decide)) dX3_tell_77
  replace hf := it_f hf hs5
  refine lv_tableOut (tgt := 78) X.1 X.2.1 dX3_tell_1 (by rw [iI_T nv1]; omega) (by decide) ?_
  refine lv_aload_n X.1 X.2.1 dX3_tell_78 rfl (lv_at hl.1 0 rfl) ?_
  refine gGoZ (gRunV X hH (As := []) (m_X3_isRightlySigned l G i0 hi0 M _ rfl) calX3_isRightlySigned k_696 k_697 k_695 hi0 cX3 rfl ⟨by decide, by decide⟩ rfl hl rfl (Nat.le_of_ble_eq_true rfl) ⟨Nat.le_of_ble_eq_true rfl, Nat.le_of_ble_eq_true rfl⟩ dX3_tell_79) hS (fun H locs br79 hH hS => ?_)
  refine g_if_eq X (nmI_b br79) (tgt := 89) dX3_tell_82 (by decide) (fun hc82 => ?_) (fun hc82 => ?_)
  · replace hf := it_t hf hc82
    refine lv_iconst X.1 X.2.1 dX3_tell_89 (v := iI 0) rfl ?_
    subst hf
    exact gRetI X hH hS (res := 0) (nmI_l (by decide)) dX3_tell_90
  · replace hf := it_f hf hc82
    refine lv_iconst X.1 X.2.1 dX3_tell_85 (v := iI 1) rfl ?_
    refine lv_goto (tgt := 90) X.1 X.2.1 dX3_tell_86 (by decide) ?_
    subst hf
    exact gRetI X hH hS (res := 1) (nmI_l (by decide)) dX3_tell_90
theorem m_X11_bitOf (l : Launch) (G : gG) (v0 : Int) (nv0 : nmI v0) (v1 : Int) (nv1 : nmI v1) (M : gM) (q : (Int)) (hf : f_X11_bitOf v0 v1 M = q) : gMet l yX11_bitOf cX11_bitOf 2 (some .int) 0 0 G M [.int (iI v0), .int (iI v1)] (gQi G q M) := by
  refine gOfW (by decide) (by show _ ≤ 2; exact Nat.le_of_ble_eq_true rfl) rfl ?_
  intro p e s m below meth c X hH ls hl
  replace hl : gLv ls 2 [(0, .int (iI v0)), (1, .int (iI v1))] := hl
  have hS : va_S (gA G) s.heap s.heap [] := va_S.rf
  generalize hargs : ([.int (iI v0), .int (iI v1)] : List Value).toArray = args at X ⊢
  clear hargs
  unfold f_X11_bitOf at hf
  refine lv_iload_n X.1 X.2.1 dX11_bitOf_0 rfl (lv_at hl.1 0 rfl) ?_
  refine lv_iload_n X.1 X.2.1 dX11_bitOf_1 rfl (lv_at hl.1 1 rfl) ?_
  refine g_ishr X dX11_bitOf_2 ?_
  refine lv_iconst X.1 X.2.1 dX11_bitOf_3 (v := iI 1) rfl ?_
  refine g_iand X dX11_bitOf_4 ?_
  subst hf
  exact gRetI X hH hS (res := gAnd (gShr v0 v1) 1) (nmI_and _ _) dX11_bitOf_5
theorem m_X6_chosen (l : Launch) (G : gG) (i0 : Nat) (hi0 : i0 < 16) (v1 : Int) (nv1 : nmI v1) (M : gM) (q : (Int)) (hf : f_X6_chosen i0 v1 M = q) : gMet l yX6_chosen cX6_chosen 4 (some .int) 1 21 G M [.ref (gAd G 8 i0), .int (iI v1)] (gQi G q M) := by
  refine gOfW (by decide) (by show _ ≤ 4; exact Nat.le_of_ble_eq_true rfl) rfl ?_
  intro p e s m below meth c X hH ls hl
  replace hl : gLv ls 4 [(0, .ref (gAd G 8 i0)), (1, .int (iI v1))] := hl
  have hS : va_S (gA G) s.heap s.heap [] := va_S.rf
  generalize hargs : ([.ref (gAd G 8 i0), .int (iI v1)] : List Value).toArray = args at X ⊢
  clear hargs
  unfold f_X6_chosen at hf
  refine lv_aload_n X.1 X.2.1 dX6_chosen_0 rfl (lv_at hl.1 0 rfl) ?_
  refine g_get X cX6 hH (r := 8) (i := i0) hi0 rfl 2 (by decide) k_113 rfl (v := .ref (gAd G 18 i0)) rfl dX6_chosen_1 ?_
  refine lv_iload_n X.1 X.2.1 dX6_chosen_4 rfl (lv_at hl.1 1 rfl) ?_
  refine gGoI (gRunSN X hH (As := [.ref (gAd G 18 i0), .int (iI v1)]) (m_X11_at l G 18 i0 4 (by show _ < 16; omega) gArr_18 v1 nv1 M _ rfl) calX11_at k_563 k_647 ⟨by decide, by decide⟩ rfl hl rfl (Nat.le_of_ble_eq_true rfl) ⟨Nat.le_of_ble_eq_true rfl, Nat.le_of_ble_eq_true rfl⟩ dX6_chosen_5) hS (fun H locs nr5 hH hS => ?_)
  refine g_istore_n X (lv' := [(2, .int (iI ((f_X11_at 18 i0 4 v1 M)))), (0, .ref (gAd G 8 i0)), (1, .int (iI v1))]) dX6_chosen_8 rfl hl (by decide) rfl (fun ls hl => ?_)
  refine lv_iload_n X.1 X.2.1 dX6_chosen_9 rfl (lv_at hl.1 0 rfl) ?_
  refine lv_iconst X.1 X.2.1 dX6_chosen_10 (v := iI (-1)) rfl ?_
  obtain ⟨k45, ek45, hf_⟩ := oj_e hf; clear hf; have hf := hf_; clear hf_
  have hk45 : ∀ (xs0_45 : Int) (bxs0_45 : xs0_45 = 0 ∨ xs0_45 = 1), k45 xs0_45 = q → ∀ (H : Heap) (locs : List Loc) (ls : Array Slot), gH G M H → va_S (gA G) s.heap H locs → gLv ls 4 [(0, .ref (gAd G 8 i0)), (1, .int (iI v1)), (2, .int (iI ((f_X11_at 18 i0 4 v1 M))))] → W p l e { frames := 1, cells := 0, slots := 0, locals := 21 } s m args below meth c H locs 0 0 (MQ below (gQi G q M) args s 0 0 (gA G)) (F0 m 45 ls [.int (iI xs0_45)]) := by
    intro xs0_45 bxs0_45 hf H locs ls hH hS hl
    subst ek45
    refine g_istore_n X (lv' := [(3, .int (iI xs0_45)), (0, .ref (gAd G 8 i0)), (1, .int (iI v1)), (2, .int (iI ((f_X11_at 18 i0 4 v1 M))))]) dX6_chosen_45 rfl hl (by decide) rfl (fun ls hl => ?_)
    refine lv_iload_n X.1 X.2.1 dX6_chosen_46 rfl (lv_at hl.1 0 rfl) ?_
    refine g_if_eq X (nmI_b bxs0_45) (tgt := 61) dX6_chosen_47 (by decide) (fun hc47 => ?_) (fun hc47 => ?_)
    · replace hf := it_t hf hc47
      refine lv_iload_n X.1 X.2.1 dX6_chosen_61 rfl (lv_at hl.1 3 rfl) ?_
      subst hf
      exact gRetI X hH hS (res := (f_X11_at 18 i0 4 v1 M)) nr5 dX6_chosen_62
    · replace hf := it_f hf hc47
      refine lv_aload_n X.1 X.2.1 dX6_chosen_50 rfl (lv_at hl.1 1 rfl) ?_
      refine g_get X cX6 hH (r := 8) (i := i0) hi0 rfl 1 (by decide) k_112 rfl (v := .ref (gAd G 17 i0)) rfl dX6_chosen_51 ?_
      refine lv_iload_n X.1 X.2.1 dX6_chosen_54 rfl (lv_at hl.1 2 rfl) ?_
      refine gGoI (gRunSN X hH (As := [.ref (gAd G 17 i0), .int (iI v1)]) (m_X11_at l G 17 i0 4 (by show _ < 16; omega) gArr_17 v1 nv1 M _ rfl) calX11_at k_563 k_647 ⟨by decide, by decide⟩ rfl hl rfl (Nat.le_of_ble_eq_true rfl) ⟨Nat.le_of_ble_eq_true rfl, Nat.le_of_ble_eq_true rfl⟩ dX6_chosen_55) hS (fun H locs nr55 hH hS => ?_)
      refine lv_goto (tgt := 62) X.1 X.2.1 dX6_chosen_58 (by decide) ?_
      subst hf
      exact gRetI X hH hS (res := (f_X11_at 17 i0 4 v1 M)) nr55 dX6_chosen_62
  clear ek45
  obtain ⟨k40, ek40, hf_⟩ := oj_e hf; clear hf; have hf := hf_; clear hf_
  have hk40 : k40 = q → ∀ (H : Heap) (locs : List Loc) (ls : Array Slot), gH G M H → va_S (gA G) s.heap H locs → gLv ls 4 [(0, .ref (gAd G 8 i0)), (1, .int (iI v1)), (2, .int (iI ((f_X11_at 18 i0 4 v1 M))))] → W p l e { frames := 1, cells := 0, slots := 0, locals := 21 } s m args below meth c H locs 0 0 (MQ below (gQi G q M) args s 0 0 (gA G)) (F0 m 40 ls []) := by
    intro  hf H locs ls hH hS hl
    subst ek40
    refine lv_iconst X.1 X.2.1 dX6_chosen_40 (v := iI 1) rfl ?_
    refine lv_goto (tgt := 45) X.1 X.2.1 dX6_chosen_41 (by decide) ?_
    exact hk45 1 (by decide) hf _ _ _ hH hS (gLv_sub hl [0, 1, 2] rfl)
  clear ek40
  refine g_icmp_eq X nr5 (nmI_l (by decide)) (tgt := 40) dX6_chosen_11 (by decide) (fun hc11 => ?_) (fun hc11 => ?_)
  · replace hf := it_t hf hc11
    exact hk40  hf _ _ _ hH hS (gLv_sub hl [1, 2, 0] rfl)
  · replace hf := it_f hf hc11
    refine lv_aload_n X.1 X.2.1 dX6_chosen_14 rfl (lv_at hl.1 1 rfl) ?_
    refine g_get X cX6 hH (r := 8) (i := i0) hi0 rfl 0 (by decide) k_111 rfl (v := .ref (gAd G 13 0)) rfl dX6_chosen_15 ?_
    refine lv_aload_n X.1 X.2.1 dX6_chosen_18 rfl (lv_at hl.1 1 rfl) ?_
    refine g_get X cX6 hH (r := 8) (i := i0) hi0 rfl 3 (by decide) k_114 rfl (v := .ref (gAd G 19 i0)) rfl dX6_chosen_19 ?_
    refine lv_iload_n X.1 X.2.1 dX6_chosen_22 rfl (lv_at hl.1 2 rfl) ?_
    refine gGoI (gRunSN X hH (As := [.ref (gAd G 19 i0), .int (iI v1)]) (m_X11_at l G 19 i0 4 (by show _ < 16; omega) gArr_19 v1 nv1 M _ rfl) calX11_at k_563 k_647 ⟨by decide, by decide⟩ rfl hl rfl (Nat.le_of_ble_eq_true rfl) ⟨Nat.le_of_ble_eq_true rfl, Nat.le_of_ble_eq_true rfl⟩ dX6_chosen_23) hS (fun H locs nr23 hH hS => ?_)
    refine gGoI (gRunSN X hH (As := [.ref (gAd G 13 0), .int (iI ((f_X11_at 19 i0 4 v1 M)))]) (m_X11_at l G 13 0 4 (by decide) gArr_13 ((f_X11_at 19 i0 4 v1 M)) nr23 M _ rfl) calX11_at k_563 k_647 ⟨by decide, by decide⟩ rfl hl rfl (Nat.le_of_ble_eq_true rfl) ⟨Nat.le_of_ble_eq_true rfl, Nat.le_of_ble_eq_true rfl⟩ dX6_chosen_26) hS (fun H locs nr26 hH hS => ?_)
    refine lv_aload_n X.1 X.2.1 dX6_chosen_29 rfl (lv_at hl.1 1 rfl) ?_
    refine g_get X cX6 hH (r := 8) (i := i0) hi0 rfl 4 (by decide) k_115 rfl (v := .ref (gAd G 20 i0)) rfl dX6_chosen_30 ?_
    refine lv_iload_n X.1 X.2.1 dX6_chosen_33 rfl (lv_at hl.1 2 rfl) ?_
    refine gGoI (gRunSN X hH (As := [.ref (gAd G 20 i0), .int (iI v1)]) (m_X11_at l G 20 i0 4 (by show _ < 16; omega) gArr_20 v1 nv1 M _ rfl) calX11_at k_563 k_647 ⟨by decide, by decide⟩ rfl hl rfl (Nat.le_of_ble_eq_true rfl) ⟨Nat.le_of_ble_eq_true rfl, Nat.le_of_ble_eq_true rfl⟩ dX6_chosen_34) hS (fun H locs nr34 hH hS => ?_)
    refine g_icmp_ne X nr26 nr34 (tgt := 44) dX6_chosen_37 (by decide) (fun hc37 => ?_) (fun hc37 => ?_)
    · replace hf := it_f hf hc37
      refine lv_iconst X.1 X.2.1 dX6_chosen_44 (v := iI 0) rfl ?_
      exact hk45 0 (by decide) hf _ _ _ hH hS (gLv_sub hl [1, 2, 0] rfl)
    · replace hf := it_t hf hc37
      exact hk40  hf _ _ _ hH hS (gLv_sub hl [1, 2, 0] rfl)
theorem m_X11_isTarget (l : Launch) (G : gG) (v0 : Int) (nv0 : nmI v0) (M : gM) (q : (Int)) (hf : f_X11_isTarget v0 M = q) : gMet l yX11_isTarget cX11_isTarget 1 (some .boolean) 0 0 G M [.int (iI v0)] (gQz G q M) := by
  refine gOfW (by decide) (by show _ ≤ 1; exact Nat.le_of_ble_eq_true rfl) rfl ?_
  intro p e s m below meth c X hH ls hl
  replace hl : gLv ls 1 [(0, .int (iI v0))] := hl
  have hS : va_S (gA G) s.heap s.heap [] := va_S.rf
  generalize hargs : ([.int (iI v0)] : List Value).toArray = args at X ⊢
  clear hargs
  unfold f_X11_isTarget at hf
  refine lv_iload_n X.1 X.2.1 dX11_isTarget_0 rfl (lv_at hl.1 0 rfl) ?_
  refine lv_bipush X.1 X.2.1 dX11_isTarget_1 (v := iI 16) (by decide) ?_
  refine g_icmp_lt X nv0 (nmI_l (by decide)) (tgt := 10) dX11_isTarget_3 (by decide) (fun hc3 => ?_) (fun hc3 => ?_)
  · replace hf := it_t hf hc3
    refine lv_iconst X.1 X.2.1 dX11_isTarget_10 (v := iI 0) rfl ?_
    subst hf
    exact gRetZ X hH hS (res := 0) (by decide) dX11_isTarget_11
  · replace hf := it_f hf hc3
    refine lv_iconst X.1 X.2.1 dX11_isTarget_6 (v := iI 1) rfl ?_
    refine lv_goto (tgt := 11) X.1 X.2.1 dX11_isTarget_7 (by decide) ?_
    subst hf
    exact gRetZ X hH hS (res := 1) (by decide) dX11_isTarget_11
theorem w_X5_inputTargets_L4 {G : gG} {p : Program} {l : Launch} {e : Env} {s : State} {m : MethodId} {args : Array Value} {below : List Frame} {meth : Method} {c : Code} (X : gX G p s m args meth c RX5 cX5_inputTargets 5 (some .int) (gWs yX5_inputTargets cX5_inputTargets 5 (some .int))) (k49 : Int → Option (Int)) (z1 : Nat) (hz1 : z1 < 15) (M : gM) (q : (Int)) (hk49 : ∀ (x2 : Int) (nx2 : nmI x2), k49 x2 = some q → ∀ (H : Heap) (locs : List Loc) (ls : Array Slot), gH G M H → va_S (gA G) s.heap H locs → gLv ls 5 [(2, .int (iI x2))] → W p l e { frames := 2, cells := 0, slots := 0, locals := 44 } s m args below meth c H locs 0 0 (MQ below (gQi G q M) args s 0 0 (gA G)) (F0 m 49 ls [])) : ∀ (n : Nat) (x2 : Int) (nx2 : nmI x2) (x3 : Int) (nx3 : nmI x3), f_X5_inputTargets_L4 k49 z1 M n x2 x3 = some q → ∀ (H : Heap) (locs : List Loc) (ls : Array Slot), gH G M H → va_S (gA G) s.heap H locs → gLv ls 5 [(1, .ref (gAd G 7 z1)), (2, .int (iI x2)), (3, .int (iI x3))] → W p l e { frames := 2, cells := 0, slots := 0, locals := 44 } s m args below meth c H locs 0 0 (MQ below (gQi G q M) args s 0 0 (gA G)) (F0 m 4 ls []) := by
  intro n
  induction n with
  | zero =>
    intro x2 nx2 x3 nx3 hf
    cases hf
  | succ n ih =>
    intro x2 nx2 x3 nx3 hf H locs ls hH hS hl
    rw [f_X5_inputTargets_L4] at hf
    refine lv_iload_n X.1 X.2.1 dX5_inputTargets_4 rfl (lv_at hl.1 2 rfl) ?_
    refine lv_aload_n X.1 X.2.1 dX5_inputTargets_5 rfl (lv_at hl.1 0 rfl) ?_
    refine g_get X cX8 hH (r := 7) (i := z1) hz1 rfl 1 (by decide) k_184 rfl (v := .ref (gAd G 8 z1)) rfl dX5_inputTargets_6 ?_
    have nd9 : nmI (M 8 z1 5) := hH.1.1 _ _ _
    refine g_get X cX6 hH (r := 8) (i := z1) (by show _ < 16; omega) rfl 5 (by decide) k_119 rfl (v := .int (iI (M 8 z1 5))) rfl dX5_inputTargets_9 ?_
    refine g_icmp_ge X nx3 nd9 (tgt := 49) dX5_inputTargets_12 (by decide) (fun hc12 => ?_) (fun hc12 => ?_)
    · replace hf := it_f hf hc12
      exact hk49 x2 nx2 hf _ _ _ hH hS (gLv_sub hl [1] rfl)
    · replace hf := it_t hf hc12
      refine lv_aload_n X.1 X.2.1 dX5_inputTargets_15 rfl (lv_at hl.1 0 rfl) ?_
      refine g_get X cX8 hH (r := 7) (i := z1) hz1 rfl 1 (by decide) k_184 rfl (v := .ref (gAd G 8 z1)) rfl dX5_inputTargets_16 ?_
      refine lv_iload_n X.1 X.2.1 dX5_inputTargets_19 rfl (lv_at hl.1 2 rfl) ?_
      refine gGoI (gRunV X hH (As := [.int (iI x3)]) (m_X6_chosen l G z1 (by show _ < 16; omega) x3 nx3 M _ rfl) calX6_chosen k_727 k_728 k_726 (by show _ < 16; omega) cX6 rfl ⟨by decide, by decide⟩ rfl hl rfl (Nat.le_of_ble_eq_true rfl) ⟨Nat.le_of_ble_eq_true rfl, Nat.le_of_ble_eq_true rfl⟩ dX5_inputTargets_20) hS (fun H locs nr20 hH hS => ?_)
      refine g_istore X (lv' := [(4, .int (iI ((f_X6_chosen z1 x3 M)))), (1, .ref (gAd G 7 z1)), (2, .int (iI x2)), (3, .int (iI x3))]) dX5_inputTargets_23 hl (by decide) rfl (fun ls hl => ?_)
      refine lv_iload X.1 X.2.1 dX5_inputTargets_25 (lv_at hl.1 0 rfl) ?_
      refine gGoZ (gRunSN X hH (As := [.int (iI ((f_X6_chosen z1 x3 M)))]) (m_X11_isTarget l G ((f_X6_chosen z1 x3 M)) nr20 M _ rfl) calX11_isTarget k_731 k_730 ⟨by decide, by decide⟩ rfl hl rfl (Nat.le_of_ble_eq_true rfl) ⟨Nat.le_of_ble_eq_true rfl, Nat.le_of_ble_eq_true rfl⟩ dX5_inputTargets_27) hS (fun H locs br27 hH hS => ?_)
      obtain ⟨k43, ek43, hf_⟩ := oj_e hf; clear hf; have hf := hf_; clear hf_
      have hk43 : ∀ (x2_43 : Int) (nx2_43 : nmI x2_43), k43 x2_43 = some q → ∀ (H : Heap) (locs : List Loc) (ls : Array Slot), gH G M H → va_S (gA G) s.heap H locs → gLv ls 5 [(1, .ref (gAd G 7 z1)), (2, .int (iI x2_43)), (3, .int (iI x3))] → W p l e { frames := 2, cells := 0, slots := 0, locals := 44 } s m args below meth c H locs 0 0 (MQ below (gQi G q M) args s 0 0 (gA G)) (F0 m 43 ls []) := by
        intro x2_43 nx2_43 hf H locs ls hH hS hl
        subst ek43
        refine g_iinc X (a := x3) (lv' := [(3, .int (iI (wI (x3 + 1)))), (1, .ref (gAd G 7 z1)), (2, .int (iI x2_43))]) dX5_inputTargets_43 hl (k := 2) rfl (by decide) rfl (fun ls hl => ?_)
        refine lv_goto (tgt := 4) X.1 X.2.1 dX5_inputTargets_46 (by decide) ?_
        exact ih x2_43 nx2_43 (wI (x3 + 1)) (nmI_w _) hf _ _ _ hH hS (gLv_sub hl [1, 2, 0] rfl)
      clear ek43
      refine g_if_eq X (nmI_b br27) (tgt := 43) dX5_inputTargets_30 (by decide) (fun hc30 => ?_) (fun hc30 => ?_)
      · replace hf := it_t hf hc30
        exact hk43 x2 nx2 hf _ _ _ hH hS (gLv_sub hl [1, 2, 3] rfl)
      · replace hf := it_f hf hc30
        refine lv_iload_n X.1 X.2.1 dX5_inputTargets_33 rfl (lv_at hl.1 2 rfl) ?_
        refine lv_iconst X.1 X.2.1 dX5_inputTargets_34 (v := iI 1) rfl ?_
        refine lv_iload X.1 X.2.1 dX5_inputTargets_35 (lv_at hl.1 0 rfl) ?_
        refine lv_bipush X.1 X.2.1 dX5_inputTargets_37 (v := iI 16) (by decide) ?_
        refine g_isub X dX5_inputTargets_39 ?_
        refine g_ishl X dX5_inputTargets_40 ?_
        refine g_ior X dX5_inputTargets_41 ?_
        refine g_istore_n X (lv' := [(2, .int (iI (gOr x2 (gShl 1 (wI (((f_X6_chosen z1 x3 M)) - 16)))))), (4, .int (iI ((f_X6_chosen z1 x3 M)))), (1, .ref (gAd G 7 z1)), (3, .int (iI x3))]) dX5_inputTargets_42 rfl hl (by decide) rfl (fun ls hl => ?_)
        exact hk43 (gOr x2 (gShl 1 (wI (((f_X6_chosen z1 x3 M)) - 16)))) (nmI_or _ _) hf _ _ _ hH hS (gLv_sub hl [2, 0, 3] rfl)
theorem m_X5_inputTargets (l : Launch) (G : gG) (i1 : Nat) (hi1 : i1 < 15) (M : gM) (q : (Int)) (hf : f_X5_inputTargets i1 M = some q) : gMet l yX5_inputTargets cX5_inputTargets 5 (some .int) 2 44 G M [.ref (gAd G 2 0), .ref (gAd G 7 i1)] (gQi G q M) := by
  refine gOfW (by decide) (by show _ ≤ 5; exact Nat.le_of_ble_eq_true rfl) rfl ?_
  intro p e s m below meth c X hH ls hl
  replace hl : gLv ls 5 [(0, .ref (gAd G 2 0)), (1, .ref (gAd G 7 i1))] := hl
  have hS : va_S (gA G) s.heap s.heap [] := va_S.rf
  generalize hargs : ([.ref (gAd G 2 0), .ref (gAd G 7 i1)] : List Value).toArray = args at X ⊢
  clear hargs
  unfold f_X5_inputTargets at hf
  refine lv_iconst X.1 X.2.1 dX5_inputTargets_0 (v := iI 0) rfl ?_
  refine g_istore_n X (lv' := [(2, .int (iI 0)), (0, .ref (gAd G 2 0)), (1, .ref (gAd G 7 i1))]) dX5_inputTargets_1 rfl hl (by decide) rfl (fun ls hl => ?_)
  refine lv_iconst X.1 X.2.1 dX5_inputTargets_2 (v := iI 0) rfl ?_
  refine g_istore_n X (lv' := [(3, .int (iI 0)), (2, .int (iI 0)), (0, .ref (gAd G 2 0)), (1, .ref (gAd G 7 i1))]) dX5_inputTargets_3 rfl hl (by decide) rfl (fun ls hl => ?_)
  refine w_X5_inputTargets_L4 X _ i1 hi1 M q ?_ 64 0 (nmI_l (by decide)) 0 (nmI_l (by decide)) hf _ _ _ hH hS (gLv_sub hl [3, 1, 0] rfl)
  · intro y2_4_49 ny2_4_49 hf H locs ls hH hS hl
    refine lv_iload_n X.1 X.2.1 dX5_inputTargets_49 rfl (lv_at hl.1 0 rfl) ?_
    have hq := Option.some.inj hf; subst hq
    exact gRetI X hH hS (res := y2_4_49) ny2_4_49 dX5_inputTargets_50
theorem w_X5_withNeeded_L9 {G : gG} {p : Program} {l : Launch} {e : Env} {s : State} {m : MethodId} {args : Array Value} {below : List Frame} {meth : Method} {c : Code} (X : gX G p s m args meth c RX5 cX5_withNeeded 4 (some .int) (gWs yX5_withNeeded cX5_withNeeded 4 (some .int))) (k40 : Int → Option (Int)) (M : gM) (q : (Int)) (hk40 : ∀ (x2 : Int) (nx2 : nmI x2), k40 x2 = some q → ∀ (H : Heap) (locs : List Loc) (ls : Array Slot), gH G M H → va_S (gA G) s.heap H locs → gLv ls 4 [(2, .int (iI x2))] → W p l e { frames := 3, cells := 0, slots := 0, locals := 68 } s m args below meth c H locs 0 0 (MQ below (gQi G q M) args s 0 0 (gA G)) (F0 m 40 ls [])) : ∀ (n : Nat) (x2 : Int) (nx2 : nmI x2) (x3 : Int) (nx3 : nmI x3), f_X5_withNeeded_L9 k40 M n x2 x3 = some q → ∀ (H : Heap) (locs : List Loc) (ls : Array Slot), gH G M H → va_S (gA G) s.heap H locs → gLv ls 4 [(0, .ref (gAd G 2 0)), (2, .int (iI x2)), (3, .int (iI x3))] → W p l e { frames := 3, cells := 0, slots := 0, locals := 68 } s m args below meth c H locs 0 0 (MQ below (gQi G q M) args s 0 0 (gA G)) (F0 m 9 ls []) := by
  intro n
  induction n with
  | zero =>
    intro x2 nx2 x3 nx3 hf
    cases hf
  | succ n ih =>
    intro x2 nx2 x3 nx3 hf H locs ls hH hS hl
    rw [f_X5_withNeeded_L9] at hf
    refine lv_iload_n X.1 X.2.1 dX5_withNeeded_9 rfl (lv_at hl.1 2 rfl) ?_
    refine g_if_lt X nx3 (tgt := 40) dX5_withNeeded_10 (by decide) (fun hc10 => ?_) (fun hc10 => ?_)
    · replace hf := it_t hf hc10
      exact hk40 x2 nx2 hf _ _ _ hH hS (gLv_sub hl [1] rfl)
    · replace hf := it_f hf hc10
      refine lv_iload_n X.1 X.2.1 dX5_withNeeded_13 rfl (lv_at hl.1 1 rfl) ?_
      refine lv_iload_n X.1 X.2.1 dX5_withNeeded_14 rfl (lv_at hl.1 2 rfl) ?_
      refine gGoI (gRunSN X hH (As := [.int (iI x2), .int (iI x3)]) (m_X11_bitOf l G x2 nx2 x3 nx3 M _ rfl) calX11_bitOf k_720 k_719 ⟨by decide, by decide⟩ rfl hl rfl (Nat.le_of_ble_eq_true rfl) ⟨Nat.le_of_ble_eq_true rfl, Nat.le_of_ble_eq_true rfl⟩ dX5_withNeeded_15) hS (fun H locs nr15 hH hS => ?_)
      refine lv_iconst X.1 X.2.1 dX5_withNeeded_18 (v := iI 1) rfl ?_
      obtain ⟨k34, ek34, hf_⟩ := oj_e hf; clear hf; have hf := hf_; clear hf_
      have hk34 : ∀ (x2_34 : Int) (nx2_34 : nmI x2_34), k34 x2_34 = some q → ∀ (H : Heap) (locs : List Loc) (ls : Array Slot), gH G M H → va_S (gA G) s.heap H locs → gLv ls 4 [(0, .ref (gAd G 2 0)), (2, .int (iI x2_34)), (3, .int (iI x3))] → W p l e { frames := 3, cells := 0, slots := 0, locals := 68 } s m args below meth c H locs 0 0 (MQ below (gQi G q M) args s 0 0 (gA G)) (F0 m 34 ls []) := by
        intro x2_34 nx2_34 hf H locs ls hH hS hl
        subst ek34
        refine g_iinc X (a := x3) (lv' := [(3, .int (iI (wI (x3 + (-1))))), (0, .ref (gAd G 2 0)), (2, .int (iI x2_34))]) dX5_withNeeded_34 hl (k := 2) rfl (by decide) rfl (fun ls hl => ?_)
        refine lv_goto (tgt := 9) X.1 X.2.1 dX5_withNeeded_37 (by decide) ?_
        exact ih x2_34 nx2_34 (wI (x3 + (-1))) (nmI_w _) hf _ _ _ hH hS (gLv_sub hl [1, 2, 0] rfl)
      clear ek34
      refine g_icmp_ne X nr15 (nmI_l (by decide)) (tgt := 34) dX5_withNeeded_19 (by decide) (fun hc19 => ?_) (fun hc19 => ?_)
      · replace hf := it_f hf hc19
        exact hk34 x2 nx2 hf _ _ _ hH hS (gLv_sub hl [0, 1, 2] rfl)
      · replace hf := it_t hf hc19
        refine lv_iload_n X.1 X.2.1 dX5_withNeeded_22 rfl (lv_at hl.1 1 rfl) ?_
        refine lv_aload_n X.1 X.2.1 dX5_withNeeded_23 rfl (lv_at hl.1 0 rfl) ?_
        refine lv_aload_n X.1 X.2.1 dX5_withNeeded_24 rfl (lv_at hl.1 0 rfl) ?_
        refine lv_iload_n X.1 X.2.1 dX5_withNeeded_25 rfl (lv_at hl.1 2 rfl) ?_
        refine gGoR (gRunV X hH (As := [.int (iI x3)]) (m_X5_targetAt l G x3 nx3 M _ rfl) calX5_targetAt k_631 k_632 k_638 (by decide) cX5 rfl ⟨by decide, by decide⟩ rfl hl rfl (Nat.le_of_ble_eq_true rfl) ⟨Nat.le_of_ble_eq_true rfl, Nat.le_of_ble_eq_true rfl⟩ dX5_withNeeded_26) hS (fun H locs hr26 hH hS => ?_)
        replace hr26 : (f_X5_targetAt x3 M) < 15 := hr26
        obtain ⟨r29, hq29, hf_⟩ := ob_e hf; clear hf; have hf := hf_; clear hf_
        refine gGoI (gRunV X hH (As := [.ref (gAd G 7 ((f_X5_targetAt x3 M)))]) (m_X5_inputTargets l G ((f_X5_targetAt x3 M)) hr26 M _ hq29) calX5_inputTargets k_723 k_724 k_722 (by decide) cX5 rfl ⟨by decide, by decide⟩ rfl hl rfl (Nat.le_of_ble_eq_true rfl) ⟨Nat.le_of_ble_eq_true rfl, Nat.le_of_ble_eq_true rfl⟩ dX5_withNeeded_29) hS (fun H locs nr29 hH hS => ?_)
        refine g_ior X dX5_withNeeded_32 ?_
        refine g_istore_n X (lv' := [(2, .int (iI (gOr x2 r29))), (0, .ref (gAd G 2 0)), (3, .int (iI x3))]) dX5_withNeeded_33 rfl hl (by decide) rfl (fun ls hl => ?_)
        exact hk34 (gOr x2 r29) (nmI_or _ _) hf _ _ _ hH hS (gLv_sub hl [1, 0, 2] rfl)
theorem m_X5_withNeeded (l : Launch) (G : gG) (v1 : Int) (nv1 : nmI v1) (M : gM) (q : (Int)) (hf : f_X5_withNeeded v1 M = some q) : gMet l yX5_withNeeded cX5_withNeeded 4 (some .int) 3 68 G M [.ref (gAd G 2 0), .int (iI v1)] (gQi G q M) := by
  refine gOfW (by decide) (by show _ ≤ 4; exact Nat.le_of_ble_eq_true rfl) rfl ?_
  intro p e s m below meth c X hH ls hl
  replace hl : gLv ls 4 [(0, .ref (gAd G 2 0)), (1, .int (iI v1))] := hl
  have hS : va_S (gA G) s.heap s.heap [] := va_S.rf
  generalize hargs : ([.ref (gAd G 2 0), .int (iI v1)] : List Value).toArray = args at X ⊢
  clear hargs
  unfold f_X5_withNeeded at hf
  refine lv_iload_n X.1 X.2.1 dX5_withNeeded_0 rfl (lv_at hl.1 1 rfl) ?_
  refine g_istore_n X (lv' := [(2, .int (iI v1)), (0, .ref (gAd G 2 0)), (1, .int (iI v1))]) dX5_withNeeded_1 rfl hl (by decide) rfl (fun ls hl => ?_)
  refine lv_aload_n X.1 X.2.1 dX5_withNeeded_2 rfl (lv_at hl.1 1 rfl) ?_
  have nd3 : nmI (M 2 0 5) := hH.1.1 _ _ _
  refine g_get X cX5 hH (r := 2) (i := 0) (by decide) rfl 5 (by decide) k_250 rfl (v := .int (iI (M 2 0 5))) rfl dX5_withNeeded_3 ?_
  refine lv_iconst X.1 X.2.1 dX5_withNeeded_6 (v := iI 1) rfl ?_
  refine g_isub X dX5_withNeeded_7 ?_
  refine g_istore_n X (lv' := [(3, .int (iI (wI ((M 2 0 5) - 1)))), (2, .int (iI v1)), (0, .ref (gAd G 2 0)), (1, .int (iI v1))]) dX5_withNeeded_8 rfl hl (by decide) rfl (fun ls hl => ?_)
  refine w_X5_withNeeded_L9 X _ M q ?_ 64 v1 nv1 (wI ((M 2 0 5) - 1)) (nmI_w _) hf _ _ _ hH hS (gLv_sub hl [2, 1, 0] rfl)
  · intro y2_9_40 ny2_9_40 hf H locs ls hH hS hl
    refine lv_iload_n X.1 X.2.1 dX5_withNeeded_40 rfl (lv_at hl.1 0 rfl) ?_
    have hq := Option.some.inj hf; subst hq
    exact gRetI X hH hS (res := y2_9_40) ny2_9_40 dX5_withNeeded_41
theorem m_X8_actionAt (l : Launch) (G : gG) (i0 : Nat) (hi0 : i0 < 15) (v1 : Int) (nv1 : nmI v1) (M : gM) (q : (Nat)) (hf : f_X8_actionAt i0 v1 M = q) : gMet l yX8_actionAt cX8_actionAt 2 (some (.object "BuildGrid$Action")) 0 0 G M [.ref (gAd G 7 i0), .int (iI v1)] (gQr G 9 q M) := by
  refine gOfW (by decide) (by show _ ≤ 2; exact Nat.le_of_ble_eq_true rfl) rfl ?_
  intro p e s m below meth c X hH ls hl
  replace hl : gLv ls 2 [(0, .ref (gAd G 7 i0)), (1, .int (iI v1))] := hl
  have hS : va_S (gA G) s.heap s.heap [] := va_S.rf
  generalize hargs : ([.ref (gAd G 7 i0), .int (iI v1)] : List Value).toArray = args at X ⊢
  clear hargs
  unfold f_X8_actionAt at hf
  refine lv_iload_n X.1 X.2.1 dX8_actionAt_0 rfl (lv_at hl.1 1 rfl) ?_
  obtain ⟨k18, ek18, hf_⟩ := oj_e hf; clear hf; have hf := hf_; clear hf_
  have hk18 : k18 = q → ∀ (H : Heap) (locs : List Loc) (ls : Array Slot), gH G M H → va_S (gA G) s.heap H locs → gLv ls 2 [(0, .ref (gAd G 7 i0))] → W p l e { frames := 0, cells := 0, slots := 0, locals := 0 } s m args below meth c H locs 0 0 (MQ below (gQr G 9 q M) args s 0 0 (gA G)) (F0 m 18 ls []) := by
    intro  hf H locs ls hH hS hl
    subst ek18
    refine lv_aload_n X.1 X.2.1 dX8_actionAt_18 rfl (lv_at hl.1 0 rfl) ?_
    refine g_get X cX8 hH (r := 7) (i := i0) hi0 rfl 2 (by decide) k_186 rfl (v := .ref (gAd G 25 i0)) rfl dX8_actionAt_19 ?_
    refine lv_iconst X.1 X.2.1 dX8_actionAt_22 (v := iI 0) rfl ?_
    have hg : (0 : Int) ≤ 0 ∧ (0 : Int) < 4 := ⟨by omega, by omega⟩
    refine g_aald X hH (r := 25) (i := i0) (by show _ < 15; omega) rfl (t0 := 2) rfl (nmI_l (by decide)) hg (v := gAd G 9 ((4 * i0 + 0))) rfl dX8_actionAt_23 ?_
    subst hf
    exact gRetR X hH hS (i := (4 * i0 + 0)) (by show _ < 60; omega) dX8_actionAt_24
  clear ek18
  refine g_if_lt X nv1 (tgt := 18) dX8_actionAt_1 (by decide) (fun hc1 => ?_) (fun hc1 => ?_)
  · replace hf := it_t hf hc1
    exact hk18  hf _ _ _ hH hS (gLv_sub hl [0] rfl)
  · replace hf := it_f hf hc1
    refine lv_iload_n X.1 X.2.1 dX8_actionAt_4 rfl (lv_at hl.1 1 rfl) ?_
    refine lv_iconst X.1 X.2.1 dX8_actionAt_5 (v := iI 4) rfl ?_
    refine g_icmp_ge X nv1 (nmI_l (by decide)) (tgt := 18) dX8_actionAt_6 (by decide) (fun hc6 => ?_) (fun hc6 => ?_)
    · replace hf := it_f hf hc6
      exact hk18  hf _ _ _ hH hS (gLv_sub hl [0] rfl)
    · replace hf := it_t hf hc6
      refine lv_aload_n X.1 X.2.1 dX8_actionAt_9 rfl (lv_at hl.1 0 rfl) ?_
      refine g_get X cX8 hH (r := 7) (i := i0) hi0 rfl 2 (by decide) k_186 rfl (v := .ref (gAd G 25 i0)) rfl dX8_actionAt_10 ?_
      refine lv_iload_n X.1 X.2.1 dX8_actionAt_13 rfl (lv_at hl.1 1 rfl) ?_
      have hg : (0 : Int) ≤ v1 ∧ (v1 : Int) < 4 := ⟨by omega, by omega⟩
      refine g_aald X hH (r := 25) (i := i0) (by show _ < 15; omega) rfl (t0 := 2) rfl nv1 hg (v := gAd G 9 ((4 * i0 + v1.toNat))) rfl dX8_actionAt_14 ?_
      refine lv_goto (tgt := 24) X.1 X.2.1 dX8_actionAt_15 (by decide) ?_
      subst hf
      exact gRetR X hH hS (i := (4 * i0 + v1.toNat)) (by show _ < 60; omega) dX8_actionAt_24
theorem m_X0_open (l : Launch) (G : gG) (i0 : Nat) (hi0 : i0 < 60) (M : gM) (q : gM) (hf : f_X0_open i0 M = q) : gMet l yX0_open cX0_open 1 none 0 0 G M [.ref (gAd G 9 i0)] (gQv G q) := by
  refine gOfW (by decide) (by show _ ≤ 1; exact Nat.le_of_ble_eq_true rfl) rfl ?_
  intro p e s m below meth c X hH ls hl
  replace hl : gLv ls 1 [(0, .ref (gAd G 9 i0))] := hl
  have hS : va_S (gA G) s.heap s.heap [] := va_S.rf
  generalize hargs : ([.ref (gAd G 9 i0)] : List Value).toArray = args at X ⊢
  clear hargs
  unfold f_X0_open at hf
  refine lv_aload_n X.1 X.2.1 dX0_open_0 rfl (lv_at hl.1 0 rfl) ?_
  refine lv_iconst X.1 X.2.1 dX0_open_1 (v := iI 0) rfl ?_
  refine g_putI X cX0 hH hS (r := 9) (i := i0) hi0 rfl 2 (by decide) k_143 rfl rfl rfl (Nat.le_of_ble_eq_true rfl) (x := 0) (nmI_l (by decide)) rfl rfl rfl dX0_open_2 (fun H locs hH hS => ?_)
  refine lv_aload_n X.1 X.2.1 dX0_open_5 rfl (lv_at hl.1 0 rfl) ?_
  refine lv_iconst X.1 X.2.1 dX0_open_6 (v := iI 0) rfl ?_
  refine g_putI X cX0 hH hS (r := 9) (i := i0) hi0 rfl 7 (by decide) k_158 rfl rfl rfl (Nat.le_of_ble_eq_true rfl) (x := 0) (nmI_l (by decide)) rfl rfl rfl dX0_open_7 (fun H locs hH hS => ?_)
  subst hf
  exact gRetV X hH hS dX0_open_10
theorem w_X8_startOver_L2 {G : gG} {p : Program} {l : Launch} {e : Env} {s : State} {m : MethodId} {args : Array Value} {below : List Frame} {meth : Method} {c : Code} (X : gX G p s m args meth c RX8 cX8_startOver 4 none (gWs yX8_startOver cX8_startOver 4 none)) (k35 : gM → Option gM) (z0 : Nat) (hz0 : z0 < 15) (z1 : Int) (bz1 : z1 = 0 ∨ z1 = 1) (q : gM) (hk35 : ∀  (M : gM), k35 M = some q → ∀ (H : Heap) (locs : List Loc) (ls : Array Slot), gH G M H → va_S (gA G) s.heap H locs → gLv ls 4 [] → W p l e { frames := 1, cells := 0, slots := 0, locals := 21 } s m args below meth c H locs 0 0 (MQ below (gQv G q) args s 0 0 (gA G)) (F0 m 35 ls [])) : ∀ (n : Nat) (x2 : Int) (nx2 : nmI x2) (M : gM), f_X8_startOver_L2 k35 z0 z1 n x2 M = some q → ∀ (H : Heap) (locs : List Loc) (ls : Array Slot), gH G M H → va_S (gA G) s.heap H locs → gLv ls 4 [(0, .ref (gAd G 7 z0)), (1, .int (iI z1)), (2, .int (iI x2))] → W p l e { frames := 1, cells := 0, slots := 0, locals := 21 } s m args below meth c H locs 0 0 (MQ below (gQv G q) args s 0 0 (gA G)) (F0 m 2 ls []) := by
  intro n
  induction n with
  | zero =>
    intro x2 nx2 M hf
    cases hf
  | succ n ih =>
    intro x2 nx2 M hf H locs ls hH hS hl
    rw [f_X8_startOver_L2] at hf
    refine lv_iload_n X.1 X.2.1 dX8_startOver_2 rfl (lv_at hl.1 2 rfl) ?_
    refine lv_aload_n X.1 X.2.1 dX8_startOver_3 rfl (lv_at hl.1 0 rfl) ?_
    have nd4 : nmI (M 7 z0 6) := hH.1.1 _ _ _
    refine g_get X cX8 hH (r := 7) (i := z0) hz0 rfl 6 (by decide) k_199 rfl (v := .int (iI (M 7 z0 6))) rfl dX8_startOver_4 ?_
    refine g_icmp_ge X nx2 nd4 (tgt := 35) dX8_startOver_7 (by decide) (fun hc7 => ?_) (fun hc7 => ?_)
    · replace hf := it_f hf hc7
      exact hk35 M hf _ _ _ hH hS (gLv_sub hl [] rfl)
    · replace hf := it_t hf hc7
      refine lv_aload_n X.1 X.2.1 dX8_startOver_10 rfl (lv_at hl.1 0 rfl) ?_
      refine lv_iload_n X.1 X.2.1 dX8_startOver_11 rfl (lv_at hl.1 2 rfl) ?_
      refine gGoR (gRunV X hH (As := [.int (iI x2)]) (m_X8_actionAt l G z0 hz0 x2 nx2 M _ rfl) calX8_actionAt k_740 k_741 k_739 hz0 cX8 rfl ⟨by decide, by decide⟩ rfl hl rfl (Nat.le_of_ble_eq_true rfl) ⟨Nat.le_of_ble_eq_true rfl, Nat.le_of_ble_eq_true rfl⟩ dX8_startOver_12) hS (fun H locs hr12 hH hS => ?_)
      replace hr12 : (f_X8_actionAt z0 x2 M) < 60 := hr12
      refine g_astore_n X (lv' := [(3, .ref (gAd G 9 ((f_X8_actionAt z0 x2 M)))), (0, .ref (gAd G 7 z0)), (1, .int (iI z1)), (2, .int (iI x2))]) dX8_startOver_15 rfl hl (by decide) rfl (fun ls hl => ?_)
      refine lv_aload_n X.1 X.2.1 dX8_startOver_16 rfl (lv_at hl.1 0 rfl) ?_
      refine gGoV (gRunV X hH (As := []) (m_X0_open l G ((f_X8_actionAt z0 x2 M)) hr12 M _ rfl) calX0_open k_744 k_745 k_743 hr12 cX0 rfl ⟨by decide, by decide⟩ rfl hl rfl (Nat.le_of_ble_eq_true rfl) ⟨Nat.le_of_ble_eq_true rfl, Nat.le_of_ble_eq_true rfl⟩ dX8_startOver_17) hS (fun H locs hH hS => ?_)
      refine lv_iload_n X.1 X.2.1 dX8_startOver_20 rfl (lv_at hl.1 2 rfl) ?_
      obtain ⟨k29, ek29, hf_⟩ := oj_e hf; clear hf; have hf := hf_; clear hf_
      have hk29 : ∀  (M_29 : gM), k29 M_29 = some q → ∀ (H : Heap) (locs : List Loc) (ls : Array Slot), gH G M_29 H → va_S (gA G) s.heap H locs → gLv ls 4 [(0, .ref (gAd G 7 z0)), (1, .int (iI z1)), (2, .int (iI x2))] → W p l e { frames := 1, cells := 0, slots := 0, locals := 21 } s m args below meth c H locs 0 0 (MQ below (gQv G q) args s 0 0 (gA G)) (F0 m 29 ls []) := by
        intro  M_29 hf H locs ls hH hS hl
        subst ek29
        refine g_iinc X (a := x2) (lv' := [(2, .int (iI (wI (x2 + 1)))), (0, .ref (gAd G 7 z0)), (1, .int (iI z1))]) dX8_startOver_29 hl (k := 2) rfl (by decide) rfl (fun ls hl => ?_)
        refine lv_goto (tgt := 2) X.1 X.2.1 dX8_startOver_32 (by decide) ?_
        exact ih (wI (x2 + 1)) (nmI_w _) M_29 hf _ _ _ hH hS (gLv_sub hl [1, 2, 0] rfl)
      clear ek29
      refine g_if_ne X (nmI_b bz1) (tgt := 29) dX8_startOver_21 (by decide) (fun hc21 => ?_) (fun hc21 => ?_)
      · replace hf := it_f hf hc21
        exact hk29 ((f_X0_open ((f_X8_actionAt z0 x2 M)) M)) hf _ _ _ hH hS (gLv_sub hl [1, 2, 3] rfl)
      · replace hf := it_t hf hc21
        refine lv_aload_n X.1 X.2.1 dX8_startOver_24 rfl (lv_at hl.1 0 rfl) ?_
        refine lv_iconst X.1 X.2.1 dX8_startOver_25 (v := iI (-1)) rfl ?_
        refine g_putI X cX0 hH hS (r := 9) (i := (f_X8_actionAt z0 x2 M)) hr12 rfl 2 (by decide) k_144 rfl rfl rfl (Nat.le_of_ble_eq_true rfl) (x := (-1)) (nmI_l (by decide)) rfl rfl rfl dX8_startOver_26 (fun H locs hH hS => ?_)
        exact hk29 (gU ((f_X0_open ((f_X8_actionAt z0 x2 M)) M)) 9 ((f_X8_actionAt z0 x2 M)) 2 ((-1))) hf _ _ _ hH hS (gLv_sub hl [1, 2, 3] rfl)
theorem m_X8_startOver (l : Launch) (G : gG) (i0 : Nat) (hi0 : i0 < 15) (v1 : Int) (bv1 : v1 = 0 ∨ v1 = 1) (M : gM) (q : gM) (hf : f_X8_startOver i0 v1 M = some q) : gMet l yX8_startOver cX8_startOver 4 none 1 21 G M [.ref (gAd G 7 i0), .int (iI v1)] (gQv G q) := by
  refine gOfW (by decide) (by show _ ≤ 4; exact Nat.le_of_ble_eq_true rfl) rfl ?_
  intro p e s m below meth c X hH ls hl
  replace hl : gLv ls 4 [(0, .ref (gAd G 7 i0)), (1, .int (iI v1))] := hl
  have hS : va_S (gA G) s.heap s.heap [] := va_S.rf
  generalize hargs : ([.ref (gAd G 7 i0), .int (iI v1)] : List Value).toArray = args at X ⊢
  clear hargs
  unfold f_X8_startOver at hf
  refine lv_iconst X.1 X.2.1 dX8_startOver_0 (v := iI 0) rfl ?_
  refine g_istore_n X (lv' := [(2, .int (iI 0)), (0, .ref (gAd G 7 i0)), (1, .int (iI v1))]) dX8_startOver_1 rfl hl (by decide) rfl (fun ls hl => ?_)
  refine w_X8_startOver_L2 X _ i0 hi0 v1 bv1 q ?_ 64 0 (nmI_l (by decide)) M hf _ _ _ hH hS (gLv_sub hl [1, 2, 0] rfl)
  · intro  M_2_35 hf H locs ls hH hS hl
    have hq := Option.some.inj hf; subst hq
    exact gRetV X hH hS dX8_startOver_35
theorem m_X0_isUnfinished (l : Launch) (G : gG) (i0 : Nat) (hi0 : i0 < 60) (M : gM) (q : (Int)) (hf : f_X0_isUnfinished i0 M = q) : gMet l yX0_isUnfinished cX0_isUnfinished 1 (some .boolean) 0 0 G M [.ref (gAd G 9 i0)] (gQz G q M) := by
  refine gOfW (by decide) (by show _ ≤ 1; exact Nat.le_of_ble_eq_true rfl) rfl ?_
  intro p e s m below meth c X hH ls hl
  replace hl : gLv ls 1 [(0, .ref (gAd G 9 i0))] := hl
  have hS : va_S (gA G) s.heap s.heap [] := va_S.rf
  generalize hargs : ([.ref (gAd G 9 i0)] : List Value).toArray = args at X ⊢
  clear hargs
  unfold f_X0_isUnfinished at hf
  refine lv_aload_n X.1 X.2.1 dX0_isUnfinished_0 rfl (lv_at hl.1 0 rfl) ?_
  have nd1 : nmI (M 9 i0 2) := hH.1.1 _ _ _
  refine g_get X cX0 hH (r := 9) (i := i0) hi0 rfl 2 (by decide) k_143 rfl (v := .int (iI (M 9 i0 2))) rfl dX0_isUnfinished_1 ?_
  obtain ⟨k23, ek23, hf_⟩ := oj_e hf; clear hf; have hf := hf_; clear hf_
  have hk23 : k23 = q → ∀ (H : Heap) (locs : List Loc) (ls : Array Slot), gH G M H → va_S (gA G) s.heap H locs → gLv ls 1 [] → W p l e { frames := 0, cells := 0, slots := 0, locals := 0 } s m args below meth c H locs 0 0 (MQ below (gQz G q M) args s 0 0 (gA G)) (F0 m 23 ls []) := by
    intro  hf H locs ls hH hS hl
    subst ek23
    refine lv_iconst X.1 X.2.1 dX0_isUnfinished_23 (v := iI 1) rfl ?_
    refine lv_goto (tgt := 28) X.1 X.2.1 dX0_isUnfinished_24 (by decide) ?_
    subst hf
    exact gRetZ X hH hS (res := 1) (by decide) dX0_isUnfinished_28
  clear ek23
  refine g_if_eq X nd1 (tgt := 23) dX0_isUnfinished_4 (by decide) (fun hc4 => ?_) (fun hc4 => ?_)
  · replace hf := it_t hf hc4
    exact hk23  hf _ _ _ hH hS (gLv_sub hl [] rfl)
  · replace hf := it_f hf hc4
    refine lv_aload_n X.1 X.2.1 dX0_isUnfinished_7 rfl (lv_at hl.1 0 rfl) ?_
    have nd8 : nmI (M 9 i0 2) := hH.1.1 _ _ _
    refine g_get X cX0 hH (r := 9) (i := i0) hi0 rfl 2 (by decide) k_143 rfl (v := .int (iI (M 9 i0 2))) rfl dX0_isUnfinished_8 ?_
    refine lv_iconst X.1 X.2.1 dX0_isUnfinished_11 (v := iI 1) rfl ?_
    refine g_icmp_eq X nd8 (nmI_l (by decide)) (tgt := 23) dX0_isUnfinished_12 (by decide) (fun hc12 => ?_) (fun hc12 => ?_)
    · replace hf := it_t hf hc12
      exact hk23  hf _ _ _ hH hS (gLv_sub hl [] rfl)
    · replace hf := it_f hf hc12
      refine lv_aload_n X.1 X.2.1 dX0_isUnfinished_15 rfl (lv_at hl.1 0 rfl) ?_
      have nd16 : nmI (M 9 i0 2) := hH.1.1 _ _ _
      refine g_get X cX0 hH (r := 9) (i := i0) hi0 rfl 2 (by decide) k_143 rfl (v := .int (iI (M 9 i0 2))) rfl dX0_isUnfinished_16 ?_
      refine lv_iconst X.1 X.2.1 dX0_isUnfinished_19 (v := iI 2) rfl ?_
      refine g_icmp_ne X nd16 (nmI_l (by decide)) (tgt := 27) dX0_isUnfinished_20 (by decide) (fun hc20 => ?_) (fun hc20 => ?_)
      · replace hf := it_f hf hc20
        refine lv_iconst X.1 X.2.1 dX0_isUnfinished_27 (v := iI 0) rfl ?_
        subst hf
        exact gRetZ X hH hS (res := 0) (by decide) dX0_isUnfinished_28
      · replace hf := it_t hf hc20
        exact hk23  hf _ _ _ hH hS (gLv_sub hl [] rfl)
theorem w_X5_stateOfInputs_L51 {G : gG} {p : Program} {l : Launch} {e : Env} {s : State} {m : MethodId} {args : Array Value} {below : List Frame} {meth : Method} {c : Code} (X : gX G p s m args meth c RX5 cX5_stateOfInputs 9 (some .int) (gWs yX5_stateOfInputs cX5_stateOfInputs 9 (some .int))) (k101 : Int → Option (Int)) (z1 : Nat) (hz1 : z1 < 15) (z2 : Int) (nz2 : nmI z2) (z4 : Int) (nz4 : nmI z4) (z5 : Nat) (hz5 : z5 < 15) (z6 : Int) (nz6 : nmI z6) (M : gM) (q : (Int)) (hk101 : ∀ (x3 : Int) (nx3 : nmI x3), k101 x3 = some q → ∀ (H : Heap) (locs : List Loc) (ls : Array Slot), gH G M H → va_S (gA G) s.heap H locs → gLv ls 9 [(0, .ref (gAd G 2 0)), (1, .ref (gAd G 7 z1)), (2, .int (iI z2)), (3, .int (iI x3)), (4, .int (iI z4))] → W p l e { frames := 3, cells := 0, slots := 0, locals := 68 } s m args below meth c H locs 0 0 (MQ below (gQi G q M) args s 0 0 (gA G)) (F0 m 101 ls [])) : ∀ (n : Nat) (x3 : Int) (nx3 : nmI x3) (x7 : Int) (nx7 : nmI x7), f_X5_stateOfInputs_L51 k101 z1 z2 z4 z5 z6 M n x3 x7 = some q → ∀ (H : Heap) (locs : List Loc) (ls : Array Slot), gH G M H → va_S (gA G) s.heap H locs → gLv ls 9 [(0, .ref (gAd G 2 0)), (1, .ref (gAd G 7 z1)), (2, .int (iI z2)), (3, .int (iI x3)), (4, .int (iI z4)), (5, .ref (gAd G 25 z5)), (6, .int (iI z6)), (7, .int (iI x7))] → W p l e { frames := 3, cells := 0, slots := 0, locals := 68 } s m args below meth c H locs 0 0 (MQ below (gQi G q M) args s 0 0 (gA G)) (F0 m 51 ls []) := by
  intro n
  induction n with
  | zero =>
    intro x3 nx3 x7 nx7 hf
    cases hf
  | succ n ih =>
    intro x3 nx3 x7 nx7 hf H locs ls hH hS hl
    rw [f_X5_stateOfInputs_L51] at hf
    refine lv_iload X.1 X.2.1 dX5_stateOfInputs_51 (lv_at hl.1 7 rfl) ?_
    refine lv_iload X.1 X.2.1 dX5_stateOfInputs_53 (lv_at hl.1 6 rfl) ?_
    refine g_icmp_ge X nx7 nz6 (tgt := 101) dX5_stateOfInputs_55 (by decide) (fun hc55 => ?_) (fun hc55 => ?_)
    · replace hf := it_f hf hc55
      exact hk101 x3 nx3 hf _ _ _ hH hS (gLv_sub hl [0, 1, 2, 3, 4] rfl)
    · replace hf := it_t hf hc55
      refine lv_aload X.1 X.2.1 dX5_stateOfInputs_58 (lv_at hl.1 5 rfl) ?_
      refine lv_iload X.1 X.2.1 dX5_stateOfInputs_60 (lv_at hl.1 7 rfl) ?_
      obtain ⟨hg, hf_⟩ := og_e hf; clear hf; have hf := hf_; clear hf_
      refine g_aald X hH (r := 25) (i := z5) hz5 rfl (t0 := 2) rfl nx7 hg (v := gAd G 9 ((4 * z5 + x7.toNat))) rfl dX5_stateOfInputs_62 ?_
      refine g_astore X (lv' := [(8, .ref (gAd G 9 ((4 * z5 + x7.toNat)))), (0, .ref (gAd G 2 0)), (1, .ref (gAd G 7 z1)), (2, .int (iI z2)), (3, .int (iI x3)), (4, .int (iI z4)), (5, .ref (gAd G 25 z5)), (6, .int (iI z6)), (7, .int (iI x7))]) dX5_stateOfInputs_63 hl (by decide) rfl (fun ls hl => ?_)
      refine lv_aload X.1 X.2.1 dX5_stateOfInputs_65 (lv_at hl.1 0 rfl) ?_
      refine gGoZ (gRunV X hH (As := []) (m_X0_isUnfinished l G ((4 * z5 + x7.toNat)) (by show _ < 60; omega) M _ rfl) calX0_isUnfinished k_760 k_761 k_759 (by show _ < 60; omega) cX0 rfl ⟨by decide, by decide⟩ rfl hl rfl (Nat.le_of_ble_eq_true rfl) ⟨Nat.le_of_ble_eq_true rfl, Nat.le_of_ble_eq_true rfl⟩ dX5_stateOfInputs_67) hS (fun H locs br67 hH hS => ?_)
      refine g_if_eq X (nmI_b br67) (tgt := 75) dX5_stateOfInputs_70 (by decide) (fun hc70 => ?_) (fun hc70 => ?_)
      · replace hf := it_t hf hc70
        refine lv_aload X.1 X.2.1 dX5_stateOfInputs_75 (lv_at hl.1 0 rfl) ?_
        have nd77 : nmI (M 9 ((4 * z5 + x7.toNat)) 2) := hH.1.1 _ _ _
        refine g_get X cX0 hH (r := 9) (i := (4 * z5 + x7.toNat)) (by show _ < 60; omega) rfl 2 (by decide) k_146 rfl (v := .int (iI (M 9 ((4 * z5 + x7.toNat)) 2))) rfl dX5_stateOfInputs_77 ?_
        refine lv_iconst X.1 X.2.1 dX5_stateOfInputs_80 (v := iI 4) rfl ?_
        obtain ⟨k95, ek95, hf_⟩ := oj_e hf; clear hf; have hf := hf_; clear hf_
        have hk95 : ∀ (x3_95 : Int) (nx3_95 : nmI x3_95), k95 x3_95 = some q → ∀ (H : Heap) (locs : List Loc) (ls : Array Slot), gH G M H → va_S (gA G) s.heap H locs → gLv ls 9 [(0, .ref (gAd G 2 0)), (1, .ref (gAd G 7 z1)), (2, .int (iI z2)), (3, .int (iI x3_95)), (4, .int (iI z4)), (5, .ref (gAd G 25 z5)), (6, .int (iI z6)), (7, .int (iI x7))] → W p l e { frames := 3, cells := 0, slots := 0, locals := 68 } s m args below meth c H locs 0 0 (MQ below (gQi G q M) args s 0 0 (gA G)) (F0 m 95 ls []) := by
          intro x3_95 nx3_95 hf H locs ls hH hS hl
          subst ek95
          refine g_iinc X (a := x7) (lv' := [(7, .int (iI (wI (x7 + 1)))), (0, .ref (gAd G 2 0)), (1, .ref (gAd G 7 z1)), (2, .int (iI z2)), (3, .int (iI x3_95)), (4, .int (iI z4)), (5, .ref (gAd G 25 z5)), (6, .int (iI z6))]) dX5_stateOfInputs_95 hl (k := 7) rfl (by decide) rfl (fun ls hl => ?_)
          refine lv_goto (tgt := 51) X.1 X.2.1 dX5_stateOfInputs_98 (by decide) ?_
          exact ih x3_95 nx3_95 (wI (x7 + 1)) (nmI_w _) hf _ _ _ hH hS (gLv_sub hl [1, 2, 3, 4, 5, 6, 7, 0] rfl)
        clear ek95
        obtain ⟨k93, ek93, hf_⟩ := oj_e hf; clear hf; have hf := hf_; clear hf_
        have hk93 : k93 = some q → ∀ (H : Heap) (locs : List Loc) (ls : Array Slot), gH G M H → va_S (gA G) s.heap H locs → gLv ls 9 [(0, .ref (gAd G 2 0)), (1, .ref (gAd G 7 z1)), (2, .int (iI z2)), (4, .int (iI z4)), (5, .ref (gAd G 25 z5)), (6, .int (iI z6)), (7, .int (iI x7))] → W p l e { frames := 3, cells := 0, slots := 0, locals := 68 } s m args below meth c H locs 0 0 (MQ below (gQi G q M) args s 0 0 (gA G)) (F0 m 93 ls []) := by
          intro  hf H locs ls hH hS hl
          subst ek93
          refine lv_iconst X.1 X.2.1 dX5_stateOfInputs_93 (v := iI 5) rfl ?_
          refine g_istore_n X (lv' := [(3, .int (iI 5)), (0, .ref (gAd G 2 0)), (1, .ref (gAd G 7 z1)), (2, .int (iI z2)), (4, .int (iI z4)), (5, .ref (gAd G 25 z5)), (6, .int (iI z6)), (7, .int (iI x7))]) dX5_stateOfInputs_94 rfl hl (by decide) rfl (fun ls hl => ?_)
          exact hk95 5 (nmI_l (by decide)) hf _ _ _ hH hS (gLv_sub hl [1, 2, 3, 0, 4, 5, 6, 7] rfl)
        clear ek93
        refine g_icmp_eq X nd77 (nmI_l (by decide)) (tgt := 93) dX5_stateOfInputs_81 (by decide) (fun hc81 => ?_) (fun hc81 => ?_)
        · replace hf := it_t hf hc81
          exact hk93  hf _ _ _ hH hS (gLv_sub hl [1, 2, 3, 5, 6, 7, 8] rfl)
        · replace hf := it_f hf hc81
          refine lv_aload X.1 X.2.1 dX5_stateOfInputs_84 (lv_at hl.1 0 rfl) ?_
          have nd86 : nmI (M 9 ((4 * z5 + x7.toNat)) 2) := hH.1.1 _ _ _
          refine g_get X cX0 hH (r := 9) (i := (4 * z5 + x7.toNat)) (by show _ < 60; omega) rfl 2 (by decide) k_146 rfl (v := .int (iI (M 9 ((4 * z5 + x7.toNat)) 2))) rfl dX5_stateOfInputs_86 ?_
          refine lv_iconst X.1 X.2.1 dX5_stateOfInputs_89 (v := iI 5) rfl ?_
          refine g_icmp_ne X nd86 (nmI_l (by decide)) (tgt := 95) dX5_stateOfInputs_90 (by decide) (fun hc90 => ?_) (fun hc90 => ?_)
          · replace hf := it_f hf hc90
            exact hk95 x3 nx3 hf _ _ _ hH hS (gLv_sub hl [1, 2, 3, 4, 5, 6, 7, 8] rfl)
          · replace hf := it_t hf hc90
            exact hk93  hf _ _ _ hH hS (gLv_sub hl [1, 2, 3, 5, 6, 7, 8] rfl)
      · replace hf := it_f hf hc70
        refine lv_iconst X.1 X.2.1 dX5_stateOfInputs_73 (v := iI 0) rfl ?_
        have hq := Option.some.inj hf; subst hq
        exact gRetI X hH hS (res := 0) (nmI_l (by decide)) dX5_stateOfInputs_74
theorem w_X5_stateOfInputs_L11 {G : gG} {p : Program} {l : Launch} {e : Env} {s : State} {m : MethodId} {args : Array Value} {below : List Frame} {meth : Method} {c : Code} (X : gX G p s m args meth c RX5 cX5_stateOfInputs 9 (some .int) (gWs yX5_stateOfInputs cX5_stateOfInputs 9 (some .int))) (k107 : Int → Option (Int)) (z1 : Nat) (hz1 : z1 < 15) (z2 : Int) (nz2 : nmI z2) (M : gM) (q : (Int)) (hk107 : ∀ (x3 : Int) (nx3 : nmI x3), k107 x3 = some q → ∀ (H : Heap) (locs : List Loc) (ls : Array Slot), gH G M H → va_S (gA G) s.heap H locs → gLv ls 9 [(3, .int (iI x3))] → W p l e { frames := 3, cells := 0, slots := 0, locals := 68 } s m args below meth c H locs 0 0 (MQ below (gQi G q M) args s 0 0 (gA G)) (F0 m 107 ls [])) : ∀ (n : Nat) (x3 : Int) (nx3 : nmI x3) (x4 : Int) (nx4 : nmI x4), f_X5_stateOfInputs_L11 k107 z1 z2 M n x3 x4 = some q → ∀ (H : Heap) (locs : List Loc) (ls : Array Slot), gH G M H → va_S (gA G) s.heap H locs → gLv ls 9 [(0, .ref (gAd G 2 0)), (1, .ref (gAd G 7 z1)), (2, .int (iI z2)), (3, .int (iI x3)), (4, .int (iI x4))] → W p l e { frames := 3, cells := 0, slots := 0, locals := 68 } s m args below meth c H locs 0 0 (MQ below (gQi G q M) args s 0 0 (gA G)) (F0 m 11 ls []) := by
  intro n
  induction n with
  | zero =>
    intro x3 nx3 x4 nx4 hf
    cases hf
  | succ n ih =>
    intro x3 nx3 x4 nx4 hf H locs ls hH hS hl
    rw [f_X5_stateOfInputs_L11] at hf
    refine lv_iload X.1 X.2.1 dX5_stateOfInputs_11 (lv_at hl.1 4 rfl) ?_
    refine lv_aload_n X.1 X.2.1 dX5_stateOfInputs_13 rfl (lv_at hl.1 1 rfl) ?_
    have nd14 : nmI (M 7 z1 0) := hH.1.1 _ _ _
    refine g_get X cX8 hH (r := 7) (i := z1) hz1 rfl 0 (by decide) k_181 rfl (v := .int (iI (M 7 z1 0))) rfl dX5_stateOfInputs_14 ?_
    refine g_icmp_ge X nx4 nd14 (tgt := 107) dX5_stateOfInputs_17 (by decide) (fun hc17 => ?_) (fun hc17 => ?_)
    · replace hf := it_f hf hc17
      exact hk107 x3 nx3 hf _ _ _ hH hS (gLv_sub hl [3] rfl)
    · replace hf := it_t hf hc17
      refine lv_iload_n X.1 X.2.1 dX5_stateOfInputs_20 rfl (lv_at hl.1 2 rfl) ?_
      refine lv_iload X.1 X.2.1 dX5_stateOfInputs_21 (lv_at hl.1 4 rfl) ?_
      refine gGoI (gRunSN X hH (As := [.int (iI z2), .int (iI x4)]) (m_X11_bitOf l G z2 nz2 x4 nx4 M _ rfl) calX11_bitOf k_720 k_719 ⟨by decide, by decide⟩ rfl hl rfl (Nat.le_of_ble_eq_true rfl) ⟨Nat.le_of_ble_eq_true rfl, Nat.le_of_ble_eq_true rfl⟩ dX5_stateOfInputs_23) hS (fun H locs nr23 hH hS => ?_)
      obtain ⟨k101, ek101, hf_⟩ := oj_e hf; clear hf; have hf := hf_; clear hf_
      have hk101 : ∀ (x3_101 : Int) (nx3_101 : nmI x3_101), k101 x3_101 = some q → ∀ (H : Heap) (locs : List Loc) (ls : Array Slot), gH G M H → va_S (gA G) s.heap H locs → gLv ls 9 [(0, .ref (gAd G 2 0)), (1, .ref (gAd G 7 z1)), (2, .int (iI z2)), (3, .int (iI x3_101)), (4, .int (iI x4))] → W p l e { frames := 3, cells := 0, slots := 0, locals := 68 } s m args below meth c H locs 0 0 (MQ below (gQi G q M) args s 0 0 (gA G)) (F0 m 101 ls []) := by
        intro x3_101 nx3_101 hf H locs ls hH hS hl
        subst ek101
        refine g_iinc X (a := x4) (lv' := [(4, .int (iI (wI (x4 + 1)))), (0, .ref (gAd G 2 0)), (1, .ref (gAd G 7 z1)), (2, .int (iI z2)), (3, .int (iI x3_101))]) dX5_stateOfInputs_101 hl (k := 4) rfl (by decide) rfl (fun ls hl => ?_)
        refine lv_goto (tgt := 11) X.1 X.2.1 dX5_stateOfInputs_104 (by decide) ?_
        exact ih x3_101 nx3_101 (wI (x4 + 1)) (nmI_w _) hf _ _ _ hH hS (gLv_sub hl [1, 2, 3, 4, 0] rfl)
      clear ek101
      refine g_if_ne X nr23 (tgt := 32) dX5_stateOfInputs_26 (by decide) (fun hc26 => ?_) (fun hc26 => ?_)
      · replace hf := it_f hf hc26
        refine lv_aload_n X.1 X.2.1 dX5_stateOfInputs_32 rfl (lv_at hl.1 0 rfl) ?_
        refine lv_iload X.1 X.2.1 dX5_stateOfInputs_33 (lv_at hl.1 4 rfl) ?_
        refine gGoR (gRunV X hH (As := [.int (iI x4)]) (m_X5_targetAt l G x4 nx4 M _ rfl) calX5_targetAt k_631 k_632 k_638 (by decide) cX5 rfl ⟨by decide, by decide⟩ rfl hl rfl (Nat.le_of_ble_eq_true rfl) ⟨Nat.le_of_ble_eq_true rfl, Nat.le_of_ble_eq_true rfl⟩ dX5_stateOfInputs_35) hS (fun H locs hr35 hH hS => ?_)
        replace hr35 : (f_X5_targetAt x4 M) < 15 := hr35
        refine g_get X cX8 hH (r := 7) (i := (f_X5_targetAt x4 M)) hr35 rfl 2 (by decide) k_187 rfl (v := .ref (gAd G 25 ((f_X5_targetAt x4 M)))) rfl dX5_stateOfInputs_38 ?_
        refine g_astore X (lv' := [(5, .ref (gAd G 25 ((f_X5_targetAt x4 M)))), (0, .ref (gAd G 2 0)), (1, .ref (gAd G 7 z1)), (2, .int (iI z2)), (3, .int (iI x3)), (4, .int (iI x4))]) dX5_stateOfInputs_41 hl (by decide) rfl (fun ls hl => ?_)
        refine lv_aload X.1 X.2.1 dX5_stateOfInputs_43 (lv_at hl.1 0 rfl) ?_
        refine g_alen X hH (r := 25) (i := (f_X5_targetAt x4 M)) (by show _ < 15; omega) rfl (t0 := 2) rfl (n := 4) rfl dX5_stateOfInputs_45 ?_
        refine g_istore X (lv' := [(6, .int (iI 4)), (5, .ref (gAd G 25 ((f_X5_targetAt x4 M)))), (0, .ref (gAd G 2 0)), (1, .ref (gAd G 7 z1)), (2, .int (iI z2)), (3, .int (iI x3)), (4, .int (iI x4))]) dX5_stateOfInputs_46 hl (by decide) rfl (fun ls hl => ?_)
        refine lv_iconst X.1 X.2.1 dX5_stateOfInputs_48 (v := iI 0) rfl ?_
        refine g_istore X (lv' := [(7, .int (iI 0)), (6, .int (iI 4)), (5, .ref (gAd G 25 ((f_X5_targetAt x4 M)))), (0, .ref (gAd G 2 0)), (1, .ref (gAd G 7 z1)), (2, .int (iI z2)), (3, .int (iI x3)), (4, .int (iI x4))]) dX5_stateOfInputs_49 hl (by decide) rfl (fun ls hl => ?_)
        refine w_X5_stateOfInputs_L51 X _ z1 hz1 z2 nz2 x4 nx4 ((f_X5_targetAt x4 M)) (by show _ < 15; omega) 4 (nmI_l (by decide)) M q ?_ 64 x3 nx3 0 (nmI_l (by decide)) hf _ _ _ hH hS (gLv_sub hl [3, 4, 5, 6, 7, 2, 1, 0] rfl)
        · intro y3_51_101 ny3_51_101 hf H locs ls hH hS hl
          exact hk101 y3_51_101 ny3_51_101 hf _ _ _ hH hS (gLv_sub hl [0, 1, 2, 3, 4] rfl)
      · replace hf := it_t hf hc26
        refine lv_goto (tgt := 101) X.1 X.2.1 dX5_stateOfInputs_29 (by decide) ?_
        exact hk101 x3 nx3 hf _ _ _ hH hS (gLv_sub hl [0, 1, 2, 3, 4] rfl)
theorem m_X5_stateOfInputs (l : Launch) (G : gG) (i1 : Nat) (hi1 : i1 < 15) (M : gM) (q : (Int)) (hf : f_X5_stateOfInputs i1 M = some q) : gMet l yX5_stateOfInputs cX5_stateOfInputs 9 (some .int) 3 68 G M [.ref (gAd G 2 0), .ref (gAd G 7 i1)] (gQi G q M) := by
  refine gOfW (by decide) (by show _ ≤ 9; exact Nat.le_of_ble_eq_true rfl) rfl ?_
  intro p e s m below meth c X hH ls hl
  replace hl : gLv ls 9 [(0, .ref (gAd G 2 0)), (1, .ref (gAd G 7 i1))] := hl
  have hS : va_S (gA G) s.heap s.heap [] := va_S.rf
  generalize hargs : ([.ref (gAd G 2 0), .ref (gAd G 7 i1)] : List Value).toArray = args at X ⊢
  clear hargs
  unfold f_X5_stateOfInputs at hf
  refine lv_aload_n X.1 X.2.1 dX5_stateOfInputs_0 rfl (lv_at hl.1 0 rfl) ?_
  refine lv_aload_n X.1 X.2.1 dX5_stateOfInputs_1 rfl (lv_at hl.1 1 rfl) ?_
  obtain ⟨r2, hq2, hf_⟩ := ob_e hf; clear hf; have hf := hf_; clear hf_
  refine gGoI (gRunV X hH (As := [.ref (gAd G 7 i1)]) (m_X5_inputTargets l G i1 hi1 M _ hq2) calX5_inputTargets k_723 k_724 k_722 (by decide) cX5 rfl ⟨by decide, by decide⟩ rfl hl rfl (Nat.le_of_ble_eq_true rfl) ⟨Nat.le_of_ble_eq_true rfl, Nat.le_of_ble_eq_true rfl⟩ dX5_stateOfInputs_2) hS (fun H locs nr2 hH hS => ?_)
  refine g_istore_n X (lv' := [(2, .int (iI r2)), (0, .ref (gAd G 2 0)), (1, .ref (gAd G 7 i1))]) dX5_stateOfInputs_5 rfl hl (by decide) rfl (fun ls hl => ?_)
  refine lv_iconst X.1 X.2.1 dX5_stateOfInputs_6 (v := iI 3) rfl ?_
  refine g_istore_n X (lv' := [(3, .int (iI 3)), (2, .int (iI r2)), (0, .ref (gAd G 2 0)), (1, .ref (gAd G 7 i1))]) dX5_stateOfInputs_7 rfl hl (by decide) rfl (fun ls hl => ?_)
  refine lv_iconst X.1 X.2.1 dX5_stateOfInputs_8 (v := iI 0) rfl ?_
  refine g_istore X (lv' := [(4, .int (iI 0)), (3, .int (iI 3)), (2, .int (iI r2)), (0, .ref (gAd G 2 0)), (1, .ref (gAd G 7 i1))]) dX5_stateOfInputs_9 hl (by decide) rfl (fun ls hl => ?_)
  refine w_X5_stateOfInputs_L11 X _ i1 hi1 r2 nr2 M q ?_ 64 3 (nmI_l (by decide)) 0 (nmI_l (by decide)) hf _ _ _ hH hS (gLv_sub hl [3, 4, 2, 1, 0] rfl)
  · intro y3_11_107 ny3_11_107 hf H locs ls hH hS hl
    refine lv_iload_n X.1 X.2.1 dX5_stateOfInputs_107 rfl (lv_at hl.1 0 rfl) ?_
    have hq := Option.some.inj hf; subst hq
    exact gRetI X hH hS (res := y3_11_107) ny3_11_107 dX5_stateOfInputs_108
theorem w_X9_keyOf_L53 {G : gG} {p : Program} {l : Launch} {e : Env} {s : State} {m : MethodId} {args : Array Value} {below : List Frame} {meth : Method} {c : Code} (X : gX G p s m args meth c RX9 cX9_keyOf 6 (some .int) (gWs yX9_keyOf cX9_keyOf 6 (some .int))) (k119 : Int → Option (Int)) (z0 : Nat) (hz0 : z0 < 2) (z1 : Nat) (hz1 : z1 < 15) (M : gM) (q : (Int)) (hk119 : ∀ (x3 : Int) (nx3 : nmI x3), k119 x3 = some q → ∀ (H : Heap) (locs : List Loc) (ls : Array Slot), gH G M H → va_S (gA G) s.heap H locs → gLv ls 6 [(3, .int (iI x3))] → W p l e { frames := 2, cells := 0, slots := 0, locals := 44 } s m args below meth c H locs 0 0 (MQ below (gQi G q M) args s 0 0 (gA G)) (F0 m 119 ls [])) : ∀ (n : Nat) (x3 : Int) (nx3 : nmI x3) (x4 : Int) (nx4 : nmI x4), f_X9_keyOf_L53 k119 z0 z1 M n x3 x4 = some q → ∀ (H : Heap) (locs : List Loc) (ls : Array Slot), gH G M H → va_S (gA G) s.heap H locs → gLv ls 6 [(0, .ref (gAd G 6 z0)), (1, .ref (gAd G 7 z1)), (3, .int (iI x3)), (4, .int (iI x4))] → W p l e { frames := 2, cells := 0, slots := 0, locals := 44 } s m args below meth c H locs 0 0 (MQ below (gQi G q M) args s 0 0 (gA G)) (F0 m 53 ls []) := by
  intro n
  induction n with
  | zero =>
    intro x3 nx3 x4 nx4 hf
    cases hf
  | succ n ih =>
    intro x3 nx3 x4 nx4 hf H locs ls hH hS hl
    rw [f_X9_keyOf_L53] at hf
    refine lv_iload X.1 X.2.1 dX9_keyOf_53 (lv_at hl.1 3 rfl) ?_
    refine lv_aload_n X.1 X.2.1 dX9_keyOf_55 rfl (lv_at hl.1 1 rfl) ?_
    refine g_get X cX8 hH (r := 7) (i := z1) hz1 rfl 1 (by decide) k_183 rfl (v := .ref (gAd G 8 z1)) rfl dX9_keyOf_56 ?_
    have nd59 : nmI (M 8 z1 5) := hH.1.1 _ _ _
    refine g_get X cX6 hH (r := 8) (i := z1) (by show _ < 16; omega) rfl 5 (by decide) k_117 rfl (v := .int (iI (M 8 z1 5))) rfl dX9_keyOf_59 ?_
    refine g_icmp_ge X nx4 nd59 (tgt := 119) dX9_keyOf_62 (by decide) (fun hc62 => ?_) (fun hc62 => ?_)
    · replace hf := it_f hf hc62
      exact hk119 x3 nx3 hf _ _ _ hH hS (gLv_sub hl [2] rfl)
    · replace hf := it_t hf hc62
      refine lv_aload_n X.1 X.2.1 dX9_keyOf_65 rfl (lv_at hl.1 1 rfl) ?_
      refine g_get X cX8 hH (r := 7) (i := z1) hz1 rfl 1 (by decide) k_183 rfl (v := .ref (gAd G 8 z1)) rfl dX9_keyOf_66 ?_
      refine lv_iload X.1 X.2.1 dX9_keyOf_69 (lv_at hl.1 3 rfl) ?_
      refine gGoI (gRunV X hH (As := [.int (iI x4)]) (m_X6_chosen l G z1 (by show _ < 16; omega) x4 nx4 M _ rfl) calX6_chosen k_727 k_728 k_769 (by show _ < 16; omega) cX6 rfl ⟨by decide, by decide⟩ rfl hl rfl (Nat.le_of_ble_eq_true rfl) ⟨Nat.le_of_ble_eq_true rfl, Nat.le_of_ble_eq_true rfl⟩ dX9_keyOf_71) hS (fun H locs nr71 hH hS => ?_)
      refine g_istore X (lv' := [(5, .int (iI ((f_X6_chosen z1 x4 M)))), (0, .ref (gAd G 6 z0)), (1, .ref (gAd G 7 z1)), (3, .int (iI x3)), (4, .int (iI x4))]) dX9_keyOf_74 hl (by decide) rfl (fun ls hl => ?_)
      refine lv_iload_n X.1 X.2.1 dX9_keyOf_76 rfl (lv_at hl.1 3 rfl) ?_
      refine lv_iload X.1 X.2.1 dX9_keyOf_77 (lv_at hl.1 0 rfl) ?_
      refine gGoZ (gRunSN X hH (As := [.int (iI ((f_X6_chosen z1 x4 M)))]) (m_X11_isTarget l G ((f_X6_chosen z1 x4 M)) nr71 M _ rfl) calX11_isTarget k_731 k_770 ⟨by decide, by decide⟩ rfl hl rfl (Nat.le_of_ble_eq_true rfl) ⟨Nat.le_of_ble_eq_true rfl, Nat.le_of_ble_eq_true rfl⟩ dX9_keyOf_79) hS (fun H locs br79 hH hS => ?_)
      obtain ⟨k109, ek109, hf_⟩ := oj_e hf; clear hf; have hf := hf_; clear hf_
      have hk109 : ∀ (xs1_109 : Int) (nxs1_109 : nmI xs1_109), k109 xs1_109 = some q → ∀ (H : Heap) (locs : List Loc) (ls : Array Slot), gH G M H → va_S (gA G) s.heap H locs → gLv ls 6 [(0, .ref (gAd G 6 z0)), (1, .ref (gAd G 7 z1)), (4, .int (iI x4))] → W p l e { frames := 2, cells := 0, slots := 0, locals := 44 } s m args below meth c H locs 0 0 (MQ below (gQi G q M) args s 0 0 (gA G)) (F0 m 109 ls [.int (iI xs1_109), .int (iI x3)]) := by
        intro xs1_109 nxs1_109 hf H locs ls hH hS hl
        subst ek109
        refine gGoI (gRunSN X hH (As := [.int (iI x3), .int (iI xs1_109)]) (m_X11_plus l G x3 nx3 xs1_109 nxs1_109 M _ rfl) calX11_plus k_704 k_767 ⟨by decide, by decide⟩ rfl hl rfl (Nat.le_of_ble_eq_true rfl) ⟨Nat.le_of_ble_eq_true rfl, Nat.le_of_ble_eq_true rfl⟩ dX9_keyOf_109) hS (fun H locs nr109 hH hS => ?_)
        refine g_istore_n X (lv' := [(3, .int (iI ((f_X11_plus x3 xs1_109 M)))), (0, .ref (gAd G 6 z0)), (1, .ref (gAd G 7 z1)), (4, .int (iI x4))]) dX9_keyOf_112 rfl hl (by decide) rfl (fun ls hl => ?_)
        refine g_iinc X (a := x4) (lv' := [(4, .int (iI (wI (x4 + 1)))), (3, .int (iI ((f_X11_plus x3 xs1_109 M)))), (0, .ref (gAd G 6 z0)), (1, .ref (gAd G 7 z1))]) dX9_keyOf_113 hl (k := 3) rfl (by decide) rfl (fun ls hl => ?_)
        refine lv_goto (tgt := 53) X.1 X.2.1 dX9_keyOf_116 (by decide) ?_
        exact ih ((f_X11_plus x3 xs1_109 M)) nr109 (wI (x4 + 1)) (nmI_w _) hf _ _ _ hH hS (gLv_sub hl [2, 3, 1, 0] rfl)
      clear ek109
      refine g_if_eq X (nmI_b br79) (tgt := 100) dX9_keyOf_82 (by decide) (fun hc82 => ?_) (fun hc82 => ?_)
      · replace hf := it_t hf hc82
        refine lv_aload_n X.1 X.2.1 dX9_keyOf_100 rfl (lv_at hl.1 1 rfl) ?_
        refine g_get X cX9 hH (r := 6) (i := z0) hz0 rfl 1 (by decide) k_326 rfl (v := .ref (gAd G 12 z0)) rfl dX9_keyOf_101 ?_
        refine lv_iload X.1 X.2.1 dX9_keyOf_104 (lv_at hl.1 0 rfl) ?_
        refine gGoI (gRunSN X hH (As := [.ref (gAd G 12 z0), .int (iI ((f_X6_chosen z1 x4 M)))]) (m_X11_at l G 12 z0 16 (by show _ < 2; omega) gArr_12 ((f_X6_chosen z1 x4 M)) nr71 M _ rfl) calX11_at k_563 k_768 ⟨by decide, by decide⟩ rfl hl rfl (Nat.le_of_ble_eq_true rfl) ⟨Nat.le_of_ble_eq_true rfl, Nat.le_of_ble_eq_true rfl⟩ dX9_keyOf_106) hS (fun H locs nr106 hH hS => ?_)
        exact hk109 ((f_X11_at 12 z0 16 ((f_X6_chosen z1 x4 M)) M)) nr106 hf _ _ _ hH hS (gLv_sub hl [1, 2, 4] rfl)
      · replace hf := it_f hf hc82
        refine lv_aload_n X.1 X.2.1 dX9_keyOf_85 rfl (lv_at hl.1 1 rfl) ?_
        refine g_get X cX9 hH (r := 6) (i := z0) hz0 rfl 2 (by decide) k_328 rfl (v := .ref (gAd G 23 z0)) rfl dX9_keyOf_86 ?_
        refine lv_iload X.1 X.2.1 dX9_keyOf_89 (lv_at hl.1 0 rfl) ?_
        refine lv_bipush X.1 X.2.1 dX9_keyOf_91 (v := iI 16) (by decide) ?_
        refine g_isub X dX9_keyOf_93 ?_
        refine gGoI (gRunSN X hH (As := [.ref (gAd G 23 z0), .int (iI (wI (((f_X6_chosen z1 x4 M)) - 16)))]) (m_X11_at l G 23 z0 14 (by show _ < 2; omega) gArr_23 (wI (((f_X6_chosen z1 x4 M)) - 16)) (nmI_w _) M _ rfl) calX11_at k_563 k_768 ⟨by decide, by decide⟩ rfl hl rfl (Nat.le_of_ble_eq_true rfl) ⟨Nat.le_of_ble_eq_true rfl, Nat.le_of_ble_eq_true rfl⟩ dX9_keyOf_94) hS (fun H locs nr94 hH hS => ?_)
        refine lv_goto (tgt := 109) X.1 X.2.1 dX9_keyOf_97 (by decide) ?_
        exact hk109 ((f_X11_at 23 z0 14 (wI (((f_X6_chosen z1 x4 M)) - 16)) M)) nr94 hf _ _ _ hH hS (gLv_sub hl [1, 2, 4] rfl)
theorem m_X9_keyOf (l : Launch) (G : gG) (i0 : Nat) (hi0 : i0 < 2) (i1 : Nat) (hi1 : i1 < 15) (v2 : Int) (nv2 : nmI v2) (M : gM) (q : (Int)) (hf : f_X9_keyOf i0 i1 v2 M = some q) : gMet l yX9_keyOf cX9_keyOf 6 (some .int) 2 44 G M [.ref (gAd G 6 i0), .ref (gAd G 7 i1), .int (iI v2)] (gQi G q M) := by
  refine gOfW (by decide) (by show _ ≤ 6; exact Nat.le_of_ble_eq_true rfl) rfl ?_
  intro p e s m below meth c X hH ls hl
  replace hl : gLv ls 6 [(0, .ref (gAd G 6 i0)), (1, .ref (gAd G 7 i1)), (2, .int (iI v2))] := hl
  have hS : va_S (gA G) s.heap s.heap [] := va_S.rf
  generalize hargs : ([.ref (gAd G 6 i0), .ref (gAd G 7 i1), .int (iI v2)] : List Value).toArray = args at X ⊢
  clear hargs
  unfold f_X9_keyOf at hf
  refine lv_bipush X.1 X.2.1 dX9_keyOf_0 (v := iI 7) (by decide) ?_
  refine lv_aload_n X.1 X.2.1 dX9_keyOf_2 rfl (lv_at hl.1 1 rfl) ?_
  have nd3 : nmI (M 7 i1 3) := hH.1.1 _ _ _
  refine g_get X cX8 hH (r := 7) (i := i1) hi1 rfl 3 (by decide) k_190 rfl (v := .int (iI (M 7 i1 3))) rfl dX9_keyOf_3 ?_
  refine gGoI (gRunSN X hH (As := [.int (iI 7), .int (iI (M 7 i1 3))]) (m_X11_plus l G 7 (nmI_l (by decide)) (M 7 i1 3) nd3 M _ rfl) calX11_plus k_704 k_767 ⟨by decide, by decide⟩ rfl hl rfl (Nat.le_of_ble_eq_true rfl) ⟨Nat.le_of_ble_eq_true rfl, Nat.le_of_ble_eq_true rfl⟩ dX9_keyOf_6) hS (fun H locs nr6 hH hS => ?_)
  refine g_istore_n X (lv' := [(3, .int (iI ((f_X11_plus 7 (M 7 i1 3) M)))), (0, .ref (gAd G 6 i0)), (1, .ref (gAd G 7 i1)), (2, .int (iI v2))]) dX9_keyOf_9 rfl hl (by decide) rfl (fun ls hl => ?_)
  refine lv_iload_n X.1 X.2.1 dX9_keyOf_10 rfl (lv_at hl.1 0 rfl) ?_
  refine lv_aload_n X.1 X.2.1 dX9_keyOf_11 rfl (lv_at hl.1 2 rfl) ?_
  have nd12 : nmI (M 7 i1 4) := hH.1.1 _ _ _
  refine g_get X cX8 hH (r := 7) (i := i1) hi1 rfl 4 (by decide) k_193 rfl (v := .int (iI (M 7 i1 4))) rfl dX9_keyOf_12 ?_
  refine gGoI (gRunSN X hH (As := [.int (iI ((f_X11_plus 7 (M 7 i1 3) M))), .int (iI (M 7 i1 4))]) (m_X11_plus l G ((f_X11_plus 7 (M 7 i1 3) M)) nr6 (M 7 i1 4) nd12 M _ rfl) calX11_plus k_704 k_767 ⟨by decide, by decide⟩ rfl hl rfl (Nat.le_of_ble_eq_true rfl) ⟨Nat.le_of_ble_eq_true rfl, Nat.le_of_ble_eq_true rfl⟩ dX9_keyOf_15) hS (fun H locs nr15 hH hS => ?_)
  refine g_istore_n X (lv' := [(3, .int (iI ((f_X11_plus ((f_X11_plus 7 (M 7 i1 3) M)) (M 7 i1 4) M)))), (0, .ref (gAd G 6 i0)), (1, .ref (gAd G 7 i1)), (2, .int (iI v2))]) dX9_keyOf_18 rfl hl (by decide) rfl (fun ls hl => ?_)
  refine lv_iload_n X.1 X.2.1 dX9_keyOf_19 rfl (lv_at hl.1 0 rfl) ?_
  refine lv_aload_n X.1 X.2.1 dX9_keyOf_20 rfl (lv_at hl.1 1 rfl) ?_
  refine g_get X cX9 hH (r := 6) (i := i0) hi0 rfl 0 (by decide) k_325 rfl (v := .ref (gAd G 14 0)) rfl dX9_keyOf_21 ?_
  refine lv_aload_n X.1 X.2.1 dX9_keyOf_24 rfl (lv_at hl.1 2 rfl) ?_
  have nd25 : nmI (M 7 i1 4) := hH.1.1 _ _ _
  refine g_get X cX8 hH (r := 7) (i := i1) hi1 rfl 4 (by decide) k_193 rfl (v := .int (iI (M 7 i1 4))) rfl dX9_keyOf_25 ?_
  refine gGoI (gRunSN X hH (As := [.ref (gAd G 14 0), .int (iI (M 7 i1 4))]) (m_X11_at l G 14 0 4 (by decide) gArr_14 (M 7 i1 4) nd25 M _ rfl) calX11_at k_563 k_768 ⟨by decide, by decide⟩ rfl hl rfl (Nat.le_of_ble_eq_true rfl) ⟨Nat.le_of_ble_eq_true rfl, Nat.le_of_ble_eq_true rfl⟩ dX9_keyOf_28) hS (fun H locs nr28 hH hS => ?_)
  refine gGoI (gRunSN X hH (As := [.int (iI ((f_X11_plus ((f_X11_plus 7 (M 7 i1 3) M)) (M 7 i1 4) M))), .int (iI ((f_X11_at 14 0 4 (M 7 i1 4) M)))]) (m_X11_plus l G ((f_X11_plus ((f_X11_plus 7 (M 7 i1 3) M)) (M 7 i1 4) M)) nr15 ((f_X11_at 14 0 4 (M 7 i1 4) M)) nr28 M _ rfl) calX11_plus k_704 k_767 ⟨by decide, by decide⟩ rfl hl rfl (Nat.le_of_ble_eq_true rfl) ⟨Nat.le_of_ble_eq_true rfl, Nat.le_of_ble_eq_true rfl⟩ dX9_keyOf_31) hS (fun H locs nr31 hH hS => ?_)
  refine g_istore_n X (lv' := [(3, .int (iI ((f_X11_plus ((f_X11_plus ((f_X11_plus 7 (M 7 i1 3) M)) (M 7 i1 4) M)) ((f_X11_at 14 0 4 (M 7 i1 4) M)) M)))), (0, .ref (gAd G 6 i0)), (1, .ref (gAd G 7 i1)), (2, .int (iI v2))]) dX9_keyOf_34 rfl hl (by decide) rfl (fun ls hl => ?_)
  refine lv_iload_n X.1 X.2.1 dX9_keyOf_35 rfl (lv_at hl.1 0 rfl) ?_
  refine lv_aload_n X.1 X.2.1 dX9_keyOf_36 rfl (lv_at hl.1 2 rfl) ?_
  have nd37 : nmI (M 7 i1 5) := hH.1.1 _ _ _
  refine g_get X cX8 hH (r := 7) (i := i1) hi1 rfl 5 (by decide) k_198 rfl (v := .int (iI (M 7 i1 5))) rfl dX9_keyOf_37 ?_
  refine gGoI (gRunSN X hH (As := [.int (iI ((f_X11_plus ((f_X11_plus ((f_X11_plus 7 (M 7 i1 3) M)) (M 7 i1 4) M)) ((f_X11_at 14 0 4 (M 7 i1 4) M)) M))), .int (iI (M 7 i1 5))]) (m_X11_plus l G ((f_X11_plus ((f_X11_plus ((f_X11_plus 7 (M 7 i1 3) M)) (M 7 i1 4) M)) ((f_X11_at 14 0 4 (M 7 i1 4) M)) M)) nr31 (M 7 i1 5) nd37 M _ rfl) calX11_plus k_704 k_767 ⟨by decide, by decide⟩ rfl hl rfl (Nat.le_of_ble_eq_true rfl) ⟨Nat.le_of_ble_eq_true rfl, Nat.le_of_ble_eq_true rfl⟩ dX9_keyOf_40) hS (fun H locs nr40 hH hS => ?_)
  refine g_istore_n X (lv' := [(3, .int (iI ((f_X11_plus ((f_X11_plus ((f_X11_plus ((f_X11_plus 7 (M 7 i1 3) M)) (M 7 i1 4) M)) ((f_X11_at 14 0 4 (M 7 i1 4) M)) M)) (M 7 i1 5) M)))), (0, .ref (gAd G 6 i0)), (1, .ref (gAd G 7 i1)), (2, .int (iI v2))]) dX9_keyOf_43 rfl hl (by decide) rfl (fun ls hl => ?_)
  refine lv_iload_n X.1 X.2.1 dX9_keyOf_44 rfl (lv_at hl.1 0 rfl) ?_
  refine lv_iload_n X.1 X.2.1 dX9_keyOf_45 rfl (lv_at hl.1 3 rfl) ?_
  refine gGoI (gRunSN X hH (As := [.int (iI ((f_X11_plus ((f_X11_plus ((f_X11_plus ((f_X11_plus 7 (M 7 i1 3) M)) (M 7 i1 4) M)) ((f_X11_at 14 0 4 (M 7 i1 4) M)) M)) (M 7 i1 5) M))), .int (iI v2)]) (m_X11_plus l G ((f_X11_plus ((f_X11_plus ((f_X11_plus ((f_X11_plus 7 (M 7 i1 3) M)) (M 7 i1 4) M)) ((f_X11_at 14 0 4 (M 7 i1 4) M)) M)) (M 7 i1 5) M)) nr40 v2 nv2 M _ rfl) calX11_plus k_704 k_767 ⟨by decide, by decide⟩ rfl hl rfl (Nat.le_of_ble_eq_true rfl) ⟨Nat.le_of_ble_eq_true rfl, Nat.le_of_ble_eq_true rfl⟩ dX9_keyOf_46) hS (fun H locs nr46 hH hS => ?_)
  refine g_istore_n X (lv' := [(3, .int (iI ((f_X11_plus ((f_X11_plus ((f_X11_plus ((f_X11_plus ((f_X11_plus 7 (M 7 i1 3) M)) (M 7 i1 4) M)) ((f_X11_at 14 0 4 (M 7 i1 4) M)) M)) (M 7 i1 5) M)) v2 M)))), (0, .ref (gAd G 6 i0)), (1, .ref (gAd G 7 i1)), (2, .int (iI v2))]) dX9_keyOf_49 rfl hl (by decide) rfl (fun ls hl => ?_)
  refine lv_iconst X.1 X.2.1 dX9_keyOf_50 (v := iI 0) rfl ?_
  refine g_istore X (lv' := [(4, .int (iI 0)), (3, .int (iI ((f_X11_plus ((f_X11_plus ((f_X11_plus ((f_X11_plus ((f_X11_plus 7 (M 7 i1 3) M)) (M 7 i1 4) M)) ((f_X11_at 14 0 4 (M 7 i1 4) M)) M)) (M 7 i1 5) M)) v2 M)))), (0, .ref (gAd G 6 i0)), (1, .ref (gAd G 7 i1)), (2, .int (iI v2))]) dX9_keyOf_51 hl (by decide) rfl (fun ls hl => ?_)
  refine w_X9_keyOf_L53 X _ i0 hi0 i1 hi1 M q ?_ 64 ((f_X11_plus ((f_X11_plus ((f_X11_plus ((f_X11_plus ((f_X11_plus 7 (M 7 i1 3) M)) (M 7 i1 4) M)) ((f_X11_at 14 0 4 (M 7 i1 4) M)) M)) (M 7 i1 5) M)) v2 M)) nr46 0 (nmI_l (by decide)) hf _ _ _ hH hS (gLv_sub hl [2, 3, 1, 0] rfl)
  · intro y3_53_119 ny3_53_119 hf H locs ls hH hS hl
    refine lv_iload_n X.1 X.2.1 dX9_keyOf_119 rfl (lv_at hl.1 0 rfl) ?_
    have hq := Option.some.inj hf; subst hq
    exact gRetI X hH hS (res := y3_53_119) ny3_53_119 dX9_keyOf_120
