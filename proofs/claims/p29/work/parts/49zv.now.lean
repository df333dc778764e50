/-! ### the class's look at what is OPEN doesn't ask for now -/
theorem at_w {r i n : Nat} {x v : Int} {M : gM} (h : r ≠ 0) : f_X11_at r i n x (gU M 0 0 5 v) = f_X11_at r i n x M := by
  unfold f_X11_at
  rw [gU_r h]
theorem gU_w {r i k : Nat} {x v : Int} {M : gM} (h : r ≠ 0) : gU (gU M 0 0 5 v) r i k x = gU (gU M r i k x) 0 0 5 v := by
  funext q y z
  unfold gU
  by_cases e : q = r ∧ y = i ∧ z = k
  · rw [if_pos e, if_neg (fun w => h (e.1.symm.trans w.1)), if_pos e]
  · rw [if_neg e, if_neg e]
theorem store_w {r i n : Nat} {x y v : Int} {M : gM} (h : r ≠ 0) : f_X11_store r i n x y (gU M 0 0 5 v) = gU (f_X11_store r i n x y M) 0 0 5 v := by
  unfold f_X11_store
  by_cases e : x < 0
  · rw [if_pos e, if_pos e]
  · rw [if_neg e, if_neg e]
    by_cases e2 : x < (n : Int)
    · rw [if_pos e2, if_pos e2, gU_w h]
    · rw [if_neg e2, if_neg e2]
theorem isT_w {x v : Int} {M : gM} : f_X11_isTarget x (gU M 0 0 5 v) = f_X11_isTarget x M := rfl
theorem plus_w {x y v : Int} {M : gM} : f_X11_plus x y (gU M 0 0 5 v) = f_X11_plus x y M := rfl
theorem bitOf_w {x y v : Int} {M : gM} : f_X11_bitOf x y (gU M 0 0 5 v) = f_X11_bitOf x y M := rfl
theorem tAt_w {x v : Int} {M : gM} : f_X5_targetAt x (gU M 0 0 5 v) = f_X5_targetAt x M := by
  unfold f_X5_targetAt
  rw [gU_r (by decide)]
theorem chosen_w {i : Nat} {x v : Int} {M : gM} : f_X6_chosen i x (gU M 0 0 5 v) = f_X6_chosen i x M := by
  unfold f_X6_chosen
  simp (disch := decide) only [at_w]
theorem inpT_w {i : Nat} {v : Int} {M : gM} : f_X5_inputTargets i (gU M 0 0 5 v) = f_X5_inputTargets i M := by
  have key : ∀ (k : Int → Option Int) (n : Nat) (x y : Int), f_X5_inputTargets_L4 k i (gU M 0 0 5 v) n x y = f_X5_inputTargets_L4 k i M n x y := by
    intro k n
    induction n with
    | zero => intro x y; rfl
    | succ n ih =>
      intro x y
      rw [f_X5_inputTargets_L4, f_X5_inputTargets_L4]
      dsimp only [oj]
      rw [gU_r (by decide), chosen_w, isT_w, ih, ih]
  unfold f_X5_inputTargets
  exact key _ _ _ _
theorem unf_w {i : Nat} {v : Int} {M : gM} : f_X0_isUnfinished i (gU M 0 0 5 v) = f_X0_isUnfinished i M := by
  unfold f_X0_isUnfinished
  rw [gU_r (by decide)]
theorem soi_w {i : Nat} {v : Int} {M : gM} : f_X5_stateOfInputs i (gU M 0 0 5 v) = f_X5_stateOfInputs i M := by
  have k51 : ∀ (k : Int → Option Int) (z2 z4 : Int) (z5 : Nat) (z6 : Int) (n : Nat) (x y : Int), f_X5_stateOfInputs_L51 k i z2 z4 z5 z6 (gU M 0 0 5 v) n x y = f_X5_stateOfInputs_L51 k i z2 z4 z5 z6 M n x y := by
    intro k z2 z4 z5 z6 n
    induction n with
    | zero => intro x y; rfl
    | succ n ih =>
      intro x y
      rw [f_X5_stateOfInputs_L51, f_X5_stateOfInputs_L51]
      dsimp only [oj]
      rw [gU_r (by decide), unf_w, ih, ih]
  have k11 : ∀ (k : Int → Option Int) (z2 : Int) (n : Nat) (x y : Int), f_X5_stateOfInputs_L11 k i z2 (gU M 0 0 5 v) n x y = f_X5_stateOfInputs_L11 k i z2 M n x y := by
    intro k z2 n
    induction n with
    | zero => intro x y; rfl
    | succ n ih =>
      intro x y
      rw [f_X5_stateOfInputs_L11, f_X5_stateOfInputs_L11]
      dsimp only [oj]
      rw [gU_r (by decide), bitOf_w, tAt_w, k51]
      simp only [ih]
  unfold f_X5_stateOfInputs
  rw [inpT_w]
  cases f_X5_inputTargets i M with
  | none => rw [ob_n, ob_n]
  | some r =>
    rw [ob_s, ob_s]
    exact k11 _ _ _ _ _
theorem key_w {j i : Nat} {x v : Int} {M : gM} : f_X9_keyOf j i x (gU M 0 0 5 v) = f_X9_keyOf j i x M := by
  have key : ∀ (k : Int → Option Int) (n : Nat) (x y : Int), f_X9_keyOf_L53 k j i (gU M 0 0 5 v) n x y = f_X9_keyOf_L53 k j i M n x y := by
    intro k n
    induction n with
    | zero => intro x y; rfl
    | succ n ih =>
      intro x y
      rw [f_X9_keyOf_L53, f_X9_keyOf_L53]
      dsimp only [oj]
      rw [gU_r (by decide), chosen_w, isT_w, at_w (by decide), at_w (by decide), plus_w, plus_w, ih, ih]
  unfold f_X9_keyOf
  rw [gU_r (by decide), at_w (by decide), key]
  rfl
theorem brk_w {i : Nat} {x v : Int} {M : gM} : f_X8_breaksOut i x (gU M 0 0 5 v) = f_X8_breaksOut i x M := by
  unfold f_X8_breaksOut
  rw [gU_r (by decide), bitOf_w]
theorem fnd_w {i : Nat} {x v : Int} {M : gM} : f_X8_fileFound i x (gU M 0 0 5 v) = f_X8_fileFound i x M := by
  unfold f_X8_fileFound
  rw [gU_r (by decide)]
theorem con_w {j i : Nat} {x v : Int} {M : gM} : f_X9_contentFound j i x (gU M 0 0 5 v) = f_X9_contentFound j i x M := by
  unfold f_X9_contentFound
  rw [fnd_w, at_w (by decide)]
theorem entAt_w {x v : Int} {M : gM} : f_X1_entryAt x (gU M 0 0 5 v) = f_X1_entryAt x M := by
  unfold f_X1_entryAt
  rw [gU_r (by decide)]
  rfl
theorem isOf_w {i : Nat} {a b c v : Int} {M : gM} : f_X3_isOf i a b c (gU M 0 0 5 v) = f_X3_isOf i a b c M := by
  unfold f_X3_isOf
  rw [gU_r (by decide)]
theorem isRS_w {i : Nat} {v : Int} {M : gM} : f_X3_isRightlySigned i (gU M 0 0 5 v) = f_X3_isRightlySigned i M := by
  unfold f_X3_isRightlySigned f_X3_rightSignature
  rw [gU_r (by decide)]
  rfl
theorem fit_w {a b c d v : Int} {M : gM} : f_X1_firstFit a b c d (gU M 0 0 5 v) = f_X1_firstFit a b c d M := by
  have key : ∀ (k : Option (Option Nat)) (n : Nat) (x : Int), f_X1_firstFit_L3 k a b c d (gU M 0 0 5 v) n x = f_X1_firstFit_L3 k a b c d M n x := by
    intro k n
    induction n with
    | zero => intro x; rfl
    | succ n ih =>
      intro x
      rw [f_X1_firstFit_L3, f_X1_firstFit_L3]
      dsimp only [oj]
      rw [gU_r (by decide), entAt_w, ih]
      simp only [isOf_w, isRS_w]
  unfold f_X1_firstFit
  exact key _ _ _
theorem fin0_w {i : Nat} {a b v : Int} {M : gM} : f_X0_finish i a b (gU M 0 0 5 v) = gU (f_X0_finish i a b M) 0 0 5 v := by
  unfold f_X0_finish
  simp (disch := decide) only [gU_w, gU_r]
  split <;> rfl
theorem dig_w {i : Nat} {v : Int} {M : gM} : f_X8_digestOfResults i (gU M 0 0 5 v) = f_X8_digestOfResults i M := by
  have key : ∀ (k : Int → Option Int) (n : Nat) (x y : Int), f_X8_digestOfResults_L5 k i (gU M 0 0 5 v) n x y = f_X8_digestOfResults_L5 k i M n x y := by
    intro k n
    induction n with
    | zero => intro x y; rfl
    | succ n ih =>
      intro x y
      rw [f_X8_digestOfResults_L5, f_X8_digestOfResults_L5]
      rw [gU_r (by decide), gU_r (by decide), plus_w, ih]
      rfl
  unfold f_X8_digestOfResults
  exact key _ _ _ _
theorem tal_w {x v : Int} {M : gM} : f_X2_tally x (gU M 0 0 5 v) = gU (f_X2_tally x M) 0 0 5 v := by
  unfold f_X2_tally
  rw [at_w (by decide), store_w (by decide)]
theorem fin2_w {i j : Nat} {a b v : Int} {M : gM} : f_X2_finish i j a b (gU M 0 0 5 v) = (f_X2_finish i j a b M).map (fun X => gU X 0 0 5 v) := by
  unfold f_X2_finish
  rw [fin0_w, dig_w]
  cases f_X8_digestOfResults i (f_X0_finish j a b M) with
  | none => rfl
  | some r =>
    rw [ob_s, ob_s, gU_r (by decide), store_w (by decide)]
    rfl
theorem lvo_w {i j : Nat} {v : Int} {M : gM} : f_X2_leaveOpen i j (gU M 0 0 5 v) = (f_X2_leaveOpen i j M).map (fun X => gU X 0 0 5 v) := by
  have k81 : ∀ o : Option Nat, (om o (some (gU (gU M 0 0 5 v) 9 j 2 1)) fun a83 => ob (f_X2_finish i j (((f_X2_tally 1 (gU M 0 0 5 v))) 10 a83 3) (((f_X2_tally 1 (gU M 0 0 5 v))) 10 a83 4) ((f_X2_tally 1 (gU M 0 0 5 v)))) fun r112 => some r112) = (om o (some (gU M 9 j 2 1)) fun a83 => ob (f_X2_finish i j (((f_X2_tally 1 M)) 10 a83 3) (((f_X2_tally 1 M)) 10 a83 4) ((f_X2_tally 1 M))) fun r112 => some r112).map (fun X => gU X 0 0 5 v) := by
    intro o
    cases o with
    | none =>
      show some (gU (gU M 0 0 5 v) 9 j 2 1) = some (gU (gU M 9 j 2 1) 0 0 5 v)
      rw [gU_w (by decide)]
    | some a =>
      rw [om_some, om_some, ob_r, ob_r, tal_w, fin2_w, gU_r (by decide)]
  unfold f_X2_leaveOpen
  rw [soi_w]
  cases f_X5_stateOfInputs i M with
  | none => rfl
  | some r =>
    rw [ob_s, ob_s]
    by_cases e : r = 3
    · rw [if_pos e, if_pos e, gU_r (show (9 : Nat) ≠ 0 by decide), key_w]
      cases f_X9_keyOf 0 i (M 9 j 1) M with
      | none => rfl
      | some y =>
        rw [ob_s, ob_s, brk_w, fnd_w, con_w, gU_r (show (4 : Nat) ≠ 0 by decide), fit_w]
        dsimp only [oj]
        by_cases e2 : f_X8_breaksOut i y M = 0
        · rw [if_pos e2, if_pos e2]
          cases f_X1_firstFit y (f_X8_fileFound i y M) (f_X9_contentFound 0 i y M) (M 4 0 9) M with
          | none => rfl
          | some o => exact k81 o
        · rw [if_neg e2, if_neg e2]
          exact k81 none
    · rw [if_neg e, if_neg e, gU_w (by decide)]
      rfl
theorem set39_w {v : Int} {k k' : gM → Option gM} {z1 : Int} {z2 z3 : Nat} {z4 : Int} (hk : ∀ M, k (gU M 0 0 5 v) = (k' M).map (fun X => gU X 0 0 5 v)) : ∀ (n : Nat) (x : Int) (M : gM), f_X2_settle_L39 k z1 z2 z3 z4 n x (gU M 0 0 5 v) = (f_X2_settle_L39 k' z1 z2 z3 z4 n x M).map (fun X => gU X 0 0 5 v) := by
  intro n
  induction n with
  | zero => intro x M; rfl
  | succ n ih =>
    intro x M
    have k67 : ∀ M : gM, (if (gU M 0 0 5 v) 4 0 8 = 0 then (if (f_X0_isUnfinished ((4 * z3 + x.toNat)) (gU M 0 0 5 v)) = 0 then f_X2_settle_L39 k z1 z2 z3 z4 n (wI (x + 1)) (gU (gU M 0 0 5 v) 4 0 8 0) else f_X2_settle_L39 k z1 z2 z3 z4 n (wI (x + 1)) (gU (gU M 0 0 5 v) 4 0 8 1)) else f_X2_settle_L39 k z1 z2 z3 z4 n (wI (x + 1)) (gU (gU M 0 0 5 v) 4 0 8 1)) = (if M 4 0 8 = 0 then (if (f_X0_isUnfinished ((4 * z3 + x.toNat)) M) = 0 then f_X2_settle_L39 k' z1 z2 z3 z4 n (wI (x + 1)) (gU M 4 0 8 0) else f_X2_settle_L39 k' z1 z2 z3 z4 n (wI (x + 1)) (gU M 4 0 8 1)) else f_X2_settle_L39 k' z1 z2 z3 z4 n (wI (x + 1)) (gU M 4 0 8 1)).map (fun X => gU X 0 0 5 v) := by
      intro M
      rw [gU_r (show (4 : Nat) ≠ 0 by decide), unf_w, gU_w (by decide), gU_w (by decide), ih, ih]
      by_cases e : M 4 0 8 = 0
      · rw [if_pos e, if_pos e]
        by_cases e2 : f_X0_isUnfinished (4 * z3 + x.toNat) M = 0
        · rw [if_pos e2, if_pos e2]
        · rw [if_neg e2, if_neg e2]
      · rw [if_neg e, if_neg e]
    rw [f_X2_settle_L39, f_X2_settle_L39]
    by_cases e : x < z4
    · rw [if_pos e, if_pos e]
      by_cases g : (0 : Int) ≤ x ∧ x < 4
      · rw [og_t g, og_t g]
        dsimp only [oj]
        rw [gU_r (show (9 : Nat) ≠ 0 by decide), lvo_w]
        by_cases e2 : M 9 (4 * z3 + x.toNat) 2 = 0
        · rw [if_pos e2, if_pos e2]
          cases f_X2_leaveOpen z2 (4 * z3 + x.toNat) M with
          | none => rfl
          | some M1 => exact k67 M1
        · rw [if_neg e2, if_neg e2]
          exact k67 M
      · unfold og
        rw [if_neg g, if_neg g]
        rfl
    · rw [if_neg e, if_neg e]
      exact hk M
theorem set7_w {v : Int} {k k' : gM → Option gM} (hk : ∀ M, k (gU M 0 0 5 v) = (k' M).map (fun X => gU X 0 0 5 v)) : ∀ (n : Nat) (x : Int) (M : gM), f_X2_settle_L7 k n x (gU M 0 0 5 v) = (f_X2_settle_L7 k' n x M).map (fun X => gU X 0 0 5 v) := by
  intro n
  induction n with
  | zero => intro x M; rfl
  | succ n ih =>
    intro x M
    rw [f_X2_settle_L7, f_X2_settle_L7, gU_r (by decide), tAt_w]
    by_cases e : x < M 2 0 5
    · rw [if_pos e, if_pos e]
      exact set39_w (fun M => ih _ M) _ _ _
    · rw [if_neg e, if_neg e]
      exact hk M
theorem set_w {v : Int} {M : gM} : f_X2_settle (gU M 0 0 5 v) = (f_X2_settle M).map (fun X => gU X 0 0 5 v) := by
  unfold f_X2_settle
  rw [gU_w (by decide)]
  exact set7_w (fun M => rfl) _ _ _
