def f_X11_setWays (v1 : Int) (v2 : Int) (M : gM) : gM := gU (gU M 4 0 9 v1) 4 0 10 v2
def f_X11_isBelow (v0 : Int) (v1 : Int) (M : gM) : Int := if v0 < 0 then (0) else (if v0 < v1 then (1) else (0))
def f_X11_at (r : Nat) (i : Nat) (rn : Nat) (v1 : Int) (M : gM) : Int := if v1 < 0 then ((-1)) else (if v1 < (rn : Int) then (M r i v1.toNat) else ((-1)))
def f_X11_store (r : Nat) (i : Nat) (rn : Nat) (v1 : Int) (v2 : Int) (M : gM) : gM := if v1 < 0 then (M) else (if v1 < (rn : Int) then (gU M r i v1.toNat v2) else (M))
def f_X11_exchange (r : Nat) (i : Nat) (rn : Nat) (v1 : Int) (v2 : Int) (M : gM) : Int × gM := ((f_X11_at r i rn v1 M), (f_X11_store r i rn v1 v2 M))
def f_X7_forgetFirstChange_L2 (k52 : gM → Option gM) : Nat → Int → gM → Option gM
  | 0, _, _ => none
  | n + 1, x1, M => if x1 < M 1 0 5 then (f_X7_forgetFirstChange_L2 k52 n (wI (x1 + 1)) ((f_X11_store 16 0 30 (wI (x1 - 1)) ((f_X11_at 16 0 30 x1 ((f_X11_store 15 0 30 (wI (x1 - 1)) ((f_X11_at 15 0 30 x1 M)) M)))) ((f_X11_store 15 0 30 (wI (x1 - 1)) ((f_X11_at 15 0 30 x1 M)) M))))) else (k52 M)
def f_X7_forgetFirstChange (M : gM) : Option (gM) := f_X7_forgetFirstChange_L2 (fun (M_2_52 : gM) => some (gU M_2_52 1 0 5 (wI ((M_2_52 1 0 5) - 1)))) 64 1 M
def f_X7_keepChange (v1 : Int) (v2 : Int) (M : gM) : Option (gM) := oj (fun (M_13 : gM) => some (gU ((f_X11_store 16 0 30 (((f_X11_store 15 0 30 (M_13 1 0 5) v1 M_13)) 1 0 5) v2 ((f_X11_store 15 0 30 (M_13 1 0 5) v1 M_13)))) 1 0 5 (wI ((((f_X11_store 16 0 30 (((f_X11_store 15 0 30 (M_13 1 0 5) v1 M_13)) 1 0 5) v2 ((f_X11_store 15 0 30 (M_13 1 0 5) v1 M_13)))) 1 0 5) + 1)))) fun k13 => if M 1 0 5 = 30 then (ob (f_X7_forgetFirstChange M) fun r10 => k13 r10) else (k13 M)
def f_X7_rewrite (v1 : Int) (v2 : Int) (M : gM) : Option (Int × gM) := if (f_X11_exchange 12 0 16 v1 v2 M).1 = v2 then (some (((f_X11_exchange 12 0 16 v1 v2 M).1, (f_X11_exchange 12 0 16 v1 v2 M).2))) else (ob (f_X7_keepChange v1 ((f_X11_exchange 12 0 16 v1 v2 M).1) ((f_X11_exchange 12 0 16 v1 v2 M).2)) fun r18 => some (((f_X11_exchange 12 0 16 v1 v2 M).1, r18)))
def f_X5_targetAt (v1 : Int) (M : gM) : Nat := if v1 < 0 then (14) else (if v1 < M 2 0 5 then (if v1 < 14 then (v1.toNat) else (14)) else (14))
def f_X5_tellNext (M : gM) : Nat × gM := oj (fun (M_19 : gM) => ((f_X5_targetAt (wI ((M_19 2 0 5) - 1)) M_19), M_19)) fun k19 => if M 2 0 5 < 14 then (k19 (gU M 2 0 5 (wI ((M 2 0 5) + 1)))) else (k19 M)
def f_X8_describe (i0 : Nat) (v1 : Int) (v2 : Int) (v3 : Int) (v4 : Int) (v5 : Int) (v6 : Int) (M : gM) : gM := gU (gU (gU (gU (gU (gU M 7 i0 3 v1) 7 i0 4 v2) 7 i0 5 v3) 7 i0 6 v4) 7 i0 7 v5) 7 i0 8 v6
def f_X6_append (i0 : Nat) (v1 : Int) (v2 : Int) (v3 : Int) (v4 : Int) (M : gM) : Int × gM := ((gU ((f_X11_store 20 i0 4 (((f_X11_store 19 i0 4 (((f_X11_store 18 i0 4 (((f_X11_store 17 i0 4 (M 8 i0 5) v1 M)) 8 i0 5) v2 ((f_X11_store 17 i0 4 (M 8 i0 5) v1 M)))) 8 i0 5) v3 ((f_X11_store 18 i0 4 (((f_X11_store 17 i0 4 (M 8 i0 5) v1 M)) 8 i0 5) v2 ((f_X11_store 17 i0 4 (M 8 i0 5) v1 M)))))) 8 i0 5) v4 ((f_X11_store 19 i0 4 (((f_X11_store 18 i0 4 (((f_X11_store 17 i0 4 (M 8 i0 5) v1 M)) 8 i0 5) v2 ((f_X11_store 17 i0 4 (M 8 i0 5) v1 M)))) 8 i0 5) v3 ((f_X11_store 18 i0 4 (((f_X11_store 17 i0 4 (M 8 i0 5) v1 M)) 8 i0 5) v2 ((f_X11_store 17 i0 4 (M 8 i0 5) v1 M)))))))) 8 i0 5 (wI ((((f_X11_store 20 i0 4 (((f_X11_store 19 i0 4 (((f_X11_store 18 i0 4 (((f_X11_store 17 i0 4 (M 8 i0 5) v1 M)) 8 i0 5) v2 ((f_X11_store 17 i0 4 (M 8 i0 5) v1 M)))) 8 i0 5) v3 ((f_X11_store 18 i0 4 (((f_X11_store 17 i0 4 (M 8 i0 5) v1 M)) 8 i0 5) v2 ((f_X11_store 17 i0 4 (M 8 i0 5) v1 M)))))) 8 i0 5) v4 ((f_X11_store 19 i0 4 (((f_X11_store 18 i0 4 (((f_X11_store 17 i0 4 (M 8 i0 5) v1 M)) 8 i0 5) v2 ((f_X11_store 17 i0 4 (M 8 i0 5) v1 M)))) 8 i0 5) v3 ((f_X11_store 18 i0 4 (((f_X11_store 17 i0 4 (M 8 i0 5) v1 M)) 8 i0 5) v2 ((f_X11_store 17 i0 4 (M 8 i0 5) v1 M)))))))) 8 i0 5) + 1))) 8 i0 5, gU ((f_X11_store 20 i0 4 (((f_X11_store 19 i0 4 (((f_X11_store 18 i0 4 (((f_X11_store 17 i0 4 (M 8 i0 5) v1 M)) 8 i0 5) v2 ((f_X11_store 17 i0 4 (M 8 i0 5) v1 M)))) 8 i0 5) v3 ((f_X11_store 18 i0 4 (((f_X11_store 17 i0 4 (M 8 i0 5) v1 M)) 8 i0 5) v2 ((f_X11_store 17 i0 4 (M 8 i0 5) v1 M)))))) 8 i0 5) v4 ((f_X11_store 19 i0 4 (((f_X11_store 18 i0 4 (((f_X11_store 17 i0 4 (M 8 i0 5) v1 M)) 8 i0 5) v2 ((f_X11_store 17 i0 4 (M 8 i0 5) v1 M)))) 8 i0 5) v3 ((f_X11_store 18 i0 4 (((f_X11_store 17 i0 4 (M 8 i0 5) v1 M)) 8 i0 5) v2 ((f_X11_store 17 i0 4 (M 8 i0 5) v1 M)))))))) 8 i0 5 (wI ((((f_X11_store 20 i0 4 (((f_X11_store 19 i0 4 (((f_X11_store 18 i0 4 (((f_X11_store 17 i0 4 (M 8 i0 5) v1 M)) 8 i0 5) v2 ((f_X11_store 17 i0 4 (M 8 i0 5) v1 M)))) 8 i0 5) v3 ((f_X11_store 18 i0 4 (((f_X11_store 17 i0 4 (M 8 i0 5) v1 M)) 8 i0 5) v2 ((f_X11_store 17 i0 4 (M 8 i0 5) v1 M)))))) 8 i0 5) v4 ((f_X11_store 19 i0 4 (((f_X11_store 18 i0 4 (((f_X11_store 17 i0 4 (M 8 i0 5) v1 M)) 8 i0 5) v2 ((f_X11_store 17 i0 4 (M 8 i0 5) v1 M)))) 8 i0 5) v3 ((f_X11_store 18 i0 4 (((f_X11_store 17 i0 4 (M 8 i0 5) v1 M)) 8 i0 5) v2 ((f_X11_store 17 i0 4 (M 8 i0 5) v1 M)))))))) 8 i0 5) + 1)))
def f_X6_become_L7 (k58 : gM → Option gM) (z0 : Nat) (z1 : Nat) : Nat → Int → gM → Option gM
  | 0, _, _ => none
  | n + 1, x2, M => if x2 < M 8 z1 5 then (f_X6_become_L7 k58 z0 z1 n (wI (x2 + 1)) ((f_X6_append z0 ((f_X11_at 17 z1 4 x2 M)) ((f_X11_at 18 z1 4 x2 M)) ((f_X11_at 19 z1 4 x2 M)) ((f_X11_at 20 z1 4 x2 M)) M).2)) else (k58 M)
def f_X6_become (i0 : Nat) (i1 : Nat) (M : gM) : Option (gM) := f_X6_become_L7 (fun (M_7_58 : gM) => some M_7_58) i0 i1 64 0 (gU M 8 i0 5 0)
def f_X2_workerAt (v1 : Int) (M : gM) : Nat := if v1 < 0 then (0) else (if v1 < 4 then (v1.toNat) else (0))
def f_X10_rest (i0 : Nat) (v1 : Int) (M : gM) : gM := gU (gU M 11 i0 3 ((-1))) 11 i0 2 v1
def f_X2_isAnyAt_L11 (k40 : Option (Int)) (z1 : Nat) (z3 : Int) (M : gM) : Nat → Int → Option (Int)
  | 0, _ => none
  | n + 1, x4 => if x4 < z3 then (og ((0 : Int) ≤ x4 ∧ (x4 : Int) < 4) <| oj (gAct (M 11 x4.toNat 3)) fun o25 => if o25 = (some z1) then (some 1) else (f_X2_isAnyAt_L11 k40 z1 z3 M n (wI (x4 + 1)))) else (k40)
def f_X2_isAnyAt (i1 : Nat) (M : gM) : Option (Int) := f_X2_isAnyAt_L11 (some 0) i1 4 M 64 0
def f_X2_tally (v1 : Int) (M : gM) : gM := (f_X11_store 24 0 5 v1 (wI (((f_X11_at 24 0 5 v1 M)) + 1)) M)
def f_X2_changePower (i1 : Nat) (v2 : Int) (M : gM) : Option (gM) := oj (gAct (M 11 i1 3)) fun o1 => om o1 (some ((f_X10_rest i1 ((-1)) (gU M 11 i1 1 v2)))) fun a16 => ob (f_X2_isAnyAt a16 ((f_X10_rest i1 ((-1)) (gU M 11 i1 1 v2)))) fun r21 => if r21 = 0 then (some ((f_X2_tally 2 (gU ((f_X10_rest i1 ((-1)) (gU M 11 i1 1 v2))) 9 a16 2 1)))) else (some ((f_X10_rest i1 ((-1)) (gU M 11 i1 1 v2))))
def f_J9_floorMod_7cf53 (v0 : Int) (v1 : Int) (M : gM) : Option (Int) := og (¬ v1 = 0) <| if gXor v0 v1 < 0 then (if gRem v0 v1 = 0 then (some (gRem v0 v1)) else (some (wI ((gRem v0 v1) + v1)))) else (some (gRem v0 v1))
def f_X1_entryAt (v1 : Int) (M : gM) : Option (Option Nat) := if v1 < 0 then (some none) else (if v1 < M 3 0 2 then (ob (f_J9_floorMod_7cf53 (wI ((M 3 0 1) + v1)) 40 M) fun r24 => og ((0 : Int) ≤ r24 ∧ (r24 : Int) < 40) <| some ((some r24.toNat))) else (some none))
def f_X11_plus (v0 : Int) (v1 : Int) (M : gM) : Int := gRem (wI ((wI ((wI (31 * v0)) + v1)) + 1)) 100003
def f_X3_rightSignature (i0 : Nat) (M : gM) : Int := (f_X11_plus ((f_X11_plus ((f_X11_plus 7 (M 10 i0 0) M)) (M 10 i0 3) M)) (wI ((wI (17 * (M 10 i0 4))) + 5)) M)
def f_X3_isRightlySigned (i0 : Nat) (M : gM) : Int := if M 10 i0 5 = (f_X3_rightSignature i0 M) then (1) else (0)
def f_X3_tell (i0 : Nat) (v1 : Int) (M : gM) : Int := if v1 = 0 then (M 10 i0 0) else if v1 = 1 then (M 10 i0 1) else if v1 = 2 then (M 10 i0 2) else if v1 = 3 then (M 10 i0 3) else if v1 = 4 then (M 10 i0 4) else if v1 = 5 then (if M 10 i0 6 = 0 then (0) else (1)) else if (f_X3_isRightlySigned i0 M) = 0 then (0) else (1)
def f_X11_bitOf (v0 : Int) (v1 : Int) (M : gM) : Int := gAnd (gShr v0 v1) 1
def f_X6_chosen (i0 : Nat) (v1 : Int) (M : gM) : Int := oj (fun (xs0_45 : Int) => if xs0_45 = 0 then ((f_X11_at 18 i0 4 v1 M)) else ((f_X11_at 17 i0 4 v1 M))) fun k45 => oj (k45 1) fun k40 => if (f_X11_at 18 i0 4 v1 M) = (-1) then (k40) else (if (f_X11_at 13 0 4 ((f_X11_at 19 i0 4 v1 M)) M) = (f_X11_at 20 i0 4 v1 M) then (k40) else (k45 0))
def f_X11_isTarget (v0 : Int) (M : gM) : Int := if v0 < 16 then (0) else (1)
def f_X5_inputTargets_L4 (k49 : Int → Option (Int)) (z1 : Nat) (M : gM) : Nat → Int → Int → Option (Int)
  | 0, _, _ => none
  | n + 1, x2, x3 => if x3 < M 8 z1 5 then (oj (fun (x2_43 : Int) => f_X5_inputTargets_L4 k49 z1 M n x2_43 (wI (x3 + 1))) fun k43 => if (f_X11_isTarget ((f_X6_chosen z1 x3 M)) M) = 0 then (k43 x2) else (k43 (gOr x2 (gShl 1 (wI (((f_X6_chosen z1 x3 M)) - 16)))))) else (k49 x2)
def f_X5_inputTargets (i1 : Nat) (M : gM) : Option (Int) := f_X5_inputTargets_L4 (fun (y2_4_49 : Int) => some y2_4_49) i1 M 64 0 0
def f_X5_withNeeded_L9 (k40 : Int → Option (Int)) (M : gM) : Nat → Int → Int → Option (Int)
  | 0, _, _ => none
  | n + 1, x2, x3 => if x3 < 0 then (k40 x2) else (oj (fun (x2_34 : Int) => f_X5_withNeeded_L9 k40 M n x2_34 (wI (x3 + (-1)))) fun k34 => if (f_X11_bitOf x2 x3 M) = 1 then (ob (f_X5_inputTargets ((f_X5_targetAt x3 M)) M) fun r29 => k34 (gOr x2 r29)) else (k34 x2))
def f_X5_withNeeded (v1 : Int) (M : gM) : Option (Int) := f_X5_withNeeded_L9 (fun (y2_9_40 : Int) => some y2_9_40) M 64 v1 (wI ((M 2 0 5) - 1))
def f_X8_actionAt (i0 : Nat) (v1 : Int) (M : gM) : Nat := oj ((4 * i0 + 0)) fun k18 => if v1 < 0 then (k18) else (if v1 < 4 then ((4 * i0 + v1.toNat)) else (k18))
def f_X0_open (i0 : Nat) (M : gM) : gM := gU (gU M 9 i0 2 0) 9 i0 7 0
def f_X8_startOver_L2 (k35 : gM → Option gM) (z0 : Nat) (z1 : Int) : Nat → Int → gM → Option gM
  | 0, _, _ => none
  | n + 1, x2, M => if x2 < M 7 z0 6 then (oj (fun (M_29 : gM) => f_X8_startOver_L2 k35 z0 z1 n (wI (x2 + 1)) M_29) fun k29 => if z1 = 0 then (k29 (gU ((f_X0_open ((f_X8_actionAt z0 x2 M)) M)) 9 ((f_X8_actionAt z0 x2 M)) 2 ((-1)))) else (k29 ((f_X0_open ((f_X8_actionAt z0 x2 M)) M)))) else (k35 M)
def f_X8_startOver (i0 : Nat) (v1 : Int) (M : gM) : Option (gM) := f_X8_startOver_L2 (fun (M_2_35 : gM) => some M_2_35) i0 v1 64 0 M
def f_X0_isUnfinished (i0 : Nat) (M : gM) : Int := oj (1) fun k23 => if M 9 i0 2 = 0 then (k23) else (if M 9 i0 2 = 1 then (k23) else (if M 9 i0 2 = 2 then (k23) else (0)))
def f_X5_stateOfInputs_L51 (k101 : Int → Option (Int)) (z1 : Nat) (z2 : Int) (z4 : Int) (z5 : Nat) (z6 : Int) (M : gM) : Nat → Int → Int → Option (Int)
  | 0, _, _ => none
  | n + 1, x3, x7 => if x7 < z6 then (og ((0 : Int) ≤ x7 ∧ (x7 : Int) < 4) <| if (f_X0_isUnfinished ((4 * z5 + x7.toNat)) M) = 0 then (oj (fun (x3_95 : Int) => f_X5_stateOfInputs_L51 k101 z1 z2 z4 z5 z6 M n x3_95 (wI (x7 + 1))) fun k95 => oj (k95 5) fun k93 => if M 9 ((4 * z5 + x7.toNat)) 2 = 4 then (k93) else (if M 9 ((4 * z5 + x7.toNat)) 2 = 5 then (k93) else (k95 x3))) else (some 0)) else (k101 x3)
def f_X5_stateOfInputs_L11 (k107 : Int → Option (Int)) (z1 : Nat) (z2 : Int) (M : gM) : Nat → Int → Int → Option (Int)
  | 0, _, _ => none
  | n + 1, x3, x4 => if x4 < M 7 z1 0 then (oj (fun (x3_101 : Int) => f_X5_stateOfInputs_L11 k107 z1 z2 M n x3_101 (wI (x4 + 1))) fun k101 => if (f_X11_bitOf z2 x4 M) = 0 then (k101 x3) else (f_X5_stateOfInputs_L51 (fun (y3_51_101 : Int) => k101 y3_51_101) z1 z2 x4 ((f_X5_targetAt x4 M)) 4 M 64 x3 0)) else (k107 x3)
def f_X5_stateOfInputs (i1 : Nat) (M : gM) : Option (Int) := ob (f_X5_inputTargets i1 M) fun r2 => f_X5_stateOfInputs_L11 (fun (y3_11_107 : Int) => some y3_11_107) i1 r2 M 64 3 0
def f_X9_keyOf_L53 (k119 : Int → Option (Int)) (z0 : Nat) (z1 : Nat) (M : gM) : Nat → Int → Int → Option (Int)
  | 0, _, _ => none
  | n + 1, x3, x4 => if x4 < M 8 z1 5 then (oj (fun (xs1_109 : Int) => f_X9_keyOf_L53 k119 z0 z1 M n ((f_X11_plus x3 xs1_109 M)) (wI (x4 + 1))) fun k109 => if (f_X11_isTarget ((f_X6_chosen z1 x4 M)) M) = 0 then (k109 ((f_X11_at 12 z0 16 ((f_X6_chosen z1 x4 M)) M))) else (k109 ((f_X11_at 23 z0 14 (wI (((f_X6_chosen z1 x4 M)) - 16)) M)))) else (k119 x3)
def f_X9_keyOf (i0 : Nat) (i1 : Nat) (v2 : Int) (M : gM) : Option (Int) := f_X9_keyOf_L53 (fun (y3_53_119 : Int) => some y3_53_119) i0 i1 M 64 ((f_X11_plus ((f_X11_plus ((f_X11_plus ((f_X11_plus ((f_X11_plus 7 (M 7 i1 3) M)) (M 7 i1 4) M)) ((f_X11_at 14 0 4 (M 7 i1 4) M)) M)) (M 7 i1 5) M)) v2 M)) 0
def f_X8_breaksOut (i0 : Nat) (v1 : Int) (M : gM) : Int := if M 7 i0 7 = (-1) then (0) else (if (f_X11_bitOf (M 7 i0 7) (gRem v1 16) M) = 0 then (1) else (0))
def f_X8_fileFound (i0 : Nat) (v1 : Int) (M : gM) : Int := if M 7 i0 7 = (-1) then ((-1)) else (gRem v1 16)
def f_X9_contentFound (i0 : Nat) (i1 : Nat) (v2 : Int) (M : gM) : Int := (f_X11_at 12 i0 16 ((f_X8_fileFound i1 v2 M)) M)
def f_X3_isOf (i0 : Nat) (v1 : Int) (v2 : Int) (v3 : Int) (M : gM) : Int := if M 10 i0 6 = 0 then (0) else (if M 10 i0 0 = v1 then (if M 10 i0 1 = v2 then (if M 10 i0 2 = v3 then (1) else (0)) else (0)) else (0))
def f_X1_firstFit_L3 (k58 : Option (Option Nat)) (z1 : Int) (z2 : Int) (z3 : Int) (z4 : Int) (M : gM) : Nat → Int → Option (Option Nat)
  | 0, _ => none
  | n + 1, x5 => if x5 < M 3 0 2 then (ob (f_X1_entryAt x5 M) fun r15 => oj (f_X1_firstFit_L3 k58 z1 z2 z3 z4 M n (wI (x5 + 1))) fun k52 => om r15 (k52) fun a22 => if (f_X3_isOf a22 z1 z2 z3 M) = 0 then (k52) else (if z4 = 0 then (some ((some a22))) else (if (f_X3_isRightlySigned a22 M) = 0 then (k52) else (some ((some a22)))))) else (k58)
def f_X1_firstFit (v1 : Int) (v2 : Int) (v3 : Int) (v4 : Int) (M : gM) : Option (Option Nat) := f_X1_firstFit_L3 (some none) v1 v2 v3 v4 M 64 0
def f_X0_finish (i0 : Nat) (v1 : Int) (v2 : Int) (M : gM) : gM := if 0 < (gU (gU (gU M 9 i0 2 3) 9 i0 3 v1) 9 i0 4 v2) 9 i0 7 then (gU (gU (gU (gU M 9 i0 2 3) 9 i0 3 v1) 9 i0 4 v2) 9 i0 5 1) else (gU (gU (gU (gU M 9 i0 2 3) 9 i0 3 v1) 9 i0 4 v2) 9 i0 5 0)
def f_X8_digestOfResults_L5 (k32 : Int → Option (Int)) (z0 : Nat) (M : gM) : Nat → Int → Int → Option (Int)
  | 0, _, _ => none
  | n + 1, x1, x2 => if x2 < M 7 z0 6 then (f_X8_digestOfResults_L5 k32 z0 M n ((f_X11_plus x1 (M 9 ((f_X8_actionAt z0 x2 M)) 3) M)) (wI (x2 + 1))) else (k32 x1)
def f_X8_digestOfResults (i0 : Nat) (M : gM) : Option (Int) := f_X8_digestOfResults_L5 (fun (y1_5_32 : Int) => some y1_5_32) i0 M 64 7 0
def f_X2_finish (i1 : Nat) (i2 : Nat) (v3 : Int) (v4 : Int) (M : gM) : Option (gM) := ob (f_X8_digestOfResults i1 ((f_X0_finish i2 v3 v4 M))) fun r19 => some ((f_X11_store 23 0 14 (((f_X0_finish i2 v3 v4 M)) 7 i1 0) r19 ((f_X0_finish i2 v3 v4 M))))
def f_X2_leaveOpen (i1 : Nat) (i2 : Nat) (M : gM) : Option (gM) := ob (f_X5_stateOfInputs i1 M) fun r5 => if r5 = 3 then (ob (f_X9_keyOf 0 i1 (M 9 i2 1) M) fun r29 => oj (fun (x5_81 : Option Nat) => om x5_81 (some (gU M 9 i2 2 1)) fun a83 => ob (f_X2_finish i1 i2 (((f_X2_tally 1 M)) 10 a83 3) (((f_X2_tally 1 M)) 10 a83 4) ((f_X2_tally 1 M))) fun r112 => some r112) fun k81 => if (f_X8_breaksOut i1 r29 M) = 0 then (ob (f_X1_firstFit r29 ((f_X8_fileFound i1 r29 M)) ((f_X9_contentFound 0 i1 r29 M)) (M 4 0 9) M) fun r76 => k81 r76) else (k81 none)) else (some (gU M 9 i2 2 r5))
def f_X2_settle_L39 (k97 : gM → Option gM) (z1 : Int) (z2 : Nat) (z3 : Nat) (z4 : Int) : Nat → Int → gM → Option gM
  | 0, _, _ => none
  | n + 1, x5, M => if x5 < z4 then (og ((0 : Int) ≤ x5 ∧ (x5 : Int) < 4) <| oj (fun (M_67 : gM) => oj (fun (xs1_88 : Int) => f_X2_settle_L39 k97 z1 z2 z3 z4 n (wI (x5 + 1)) (gU M_67 4 0 8 xs1_88)) fun k88 => oj (k88 1) fun k83 => if M_67 4 0 8 = 0 then (if (f_X0_isUnfinished ((4 * z3 + x5.toNat)) M_67) = 0 then (k88 0) else (k83)) else (k83)) fun k67 => if M 9 ((4 * z3 + x5.toNat)) 2 = 0 then (ob (f_X2_leaveOpen z2 ((4 * z3 + x5.toNat)) M) fun r64 => k67 r64) else (k67 M)) else (k97 M)
def f_X2_settle_L7 (k103 : gM → Option gM) : Nat → Int → gM → Option gM
  | 0, _, _ => none
  | n + 1, x1, M => if x1 < M 2 0 5 then (f_X2_settle_L39 (fun (M_39_97 : gM) => f_X2_settle_L7 k103 n (wI (x1 + 1)) M_39_97) x1 ((f_X5_targetAt x1 M)) ((f_X5_targetAt x1 M)) 4 64 0 M) else (k103 M)
def f_X2_settle (M : gM) : Option (gM) := f_X2_settle_L7 (fun (M_7_103 : gM) => some M_7_103) 64 0 (gU M 4 0 8 0)
def f_X2_begin_L26 (k96 : Int → gM → Option (Int × gM)) : Nat → Int → Int → gM → Option (Int × gM)
  | 0, _, _, _ => none
  | n + 1, x2, x3, M => if x3 < M 2 0 5 then (oj (fun (xs0_64 : Int) => ob (f_X8_startOver ((f_X5_targetAt x3 M)) xs0_64 M) fun r70 => oj (fun (xs1_88 : Int) => f_X2_begin_L26 k96 n (wI (x2 + xs1_88)) (wI (x3 + 1)) r70) fun k88 => if xs0_64 = 0 then (k88 0) else (k88 (r70 7 ((f_X5_targetAt x3 M)) 6))) fun k64 => if (f_X11_bitOf (M 4 0 6) x3 M) = 1 then (k64 1) else (k64 0)) else (k96 x2 M)
def f_X2_begin (v1 : Int) (M : gM) : Option (Int × gM) := ob (f_X5_withNeeded v1 M) fun r6 => f_X2_begin_L26 (fun (y2_26_96 : Int) (M_26_96 : gM) => ob (f_X2_settle M_26_96) fun r97 => some ((y2_26_96, r97))) 64 0 0 (gU (gU M 4 0 6 r6) 4 0 7 (wI (((gU M 4 0 6 r6) 4 0 7) + 1)))
def f_J9_max_7cf53 (v0 : Int) (v1 : Int) (M : gM) : Int := if v0 < v1 then (v1) else (v0)
def f_X5_spreadWay_L2 (k50 : gM → Option gM) (z1 : Nat) : Nat → Int → gM → Option gM
  | 0, _, _ => none
  | n + 1, x2, M => if x2 < M 8 z1 5 then (f_X5_spreadWay_L2 k50 z1 n (wI (x2 + 1)) (gU M 7 ((f_X5_targetAt (wI (((f_X6_chosen z1 x2 M)) - 16)) M)) 10 ((f_J9_max_7cf53 (M 7 ((f_X5_targetAt (wI (((f_X6_chosen z1 x2 M)) - 16)) M)) 10) (M 7 z1 10) M)))) else (k50 M)
def f_X5_spreadWay (i1 : Nat) (M : gM) : Option (gM) := f_X5_spreadWay_L2 (fun (M_2_50 : gM) => some M_2_50) i1 64 0 M
def f_X5_findWays_L2 (k25 : gM → Option gM) (z1 : Int) : Nat → Int → gM → Option gM
  | 0, _, _ => none
  | n + 1, x2, M => if x2 < M 2 0 5 then (f_X5_findWays_L2 k25 z1 n (wI (x2 + 1)) (gU M 7 ((f_X5_targetAt x2 M)) 10 0)) else (k25 M)
def f_X5_findWays_L32 (k75 : gM → Option gM) (z1 : Int) : Nat → Int → gM → Option gM
  | 0, _, _ => none
  | n + 1, x2, M => if x2 < 0 then (k75 M) else (oj (fun (M_69 : gM) => f_X5_findWays_L32 k75 z1 n (wI (x2 + (-1))) M_69) fun k69 => if (f_X11_bitOf z1 x2 M) = 1 then (ob (f_X5_spreadWay ((f_X5_targetAt x2 M)) (gU M 7 ((f_X5_targetAt x2 M)) 10 (wI ((M 7 ((f_X5_targetAt x2 M)) 10) + (M 7 ((f_X5_targetAt x2 M)) 9))))) fun r66 => k69 r66) else (k69 M))
def f_X5_findWays (v1 : Int) (M : gM) : Option (gM) := f_X5_findWays_L2 (fun (M_2_25 : gM) => f_X5_findWays_L32 (fun (M_32_75 : gM) => some M_32_75) v1 64 (wI ((M_2_25 2 0 5) - 1)) M_2_25) v1 64 0 M
def f_X10_isIdle (i0 : Nat) (M : gM) : Int := if 0 < M 11 i0 1 then (oj (gAct (M 11 i0 3)) fun o8 => om o8 (1) fun a11 => 0) else (0)
def f_X2_strongestIdle_L13 (k58 : Option Nat → Option (Option Nat)) (z3 : Int) (M : gM) : Nat → Option Nat → Int → Option (Option Nat)
  | 0, _, _ => none
  | n + 1, x1, x4 => if x4 < z3 then (og ((0 : Int) ≤ x4 ∧ (x4 : Int) < 4) <| oj (fun (x1_52 : Option Nat) => f_X2_strongestIdle_L13 k58 z3 M n x1_52 (wI (x4 + 1))) fun k52 => if (f_X10_isIdle x4.toNat M) = 0 then (k52 x1) else (oj (k52 ((some x4.toNat))) fun k49 => om x1 (k49) fun a34 => if M 11 a34 1 < M 11 x4.toNat 1 then (k49) else (k52 ((some a34))))) else (k58 x1)
def f_X2_strongestIdle (M : gM) : Option (Option Nat) := f_X2_strongestIdle_L13 (fun (y1_13_58 : Option Nat) => some y1_13_58) 4 M 64 none 0
def f_X8_firstReady_L2 (k32 : Option (Option Nat)) (z0 : Nat) (M : gM) : Nat → Int → Option (Option Nat)
  | 0, _ => none
  | n + 1, x1 => if x1 < M 7 z0 6 then (if M 9 ((f_X8_actionAt z0 x1 M)) 2 = 1 then (some ((some ((f_X8_actionAt z0 x1 M))))) else (f_X8_firstReady_L2 k32 z0 M n (wI (x1 + 1)))) else (k32)
def f_X8_firstReady (i0 : Nat) (M : gM) : Option (Option Nat) := f_X8_firstReady_L2 (some none) i0 M 64 0
def f_X2_longestReady_L6 (k63 : Option Nat → Option (Option Nat)) (M : gM) : Nat → Option Nat → Int → Int → Option (Option Nat)
  | 0, _, _, _ => none
  | n + 1, x1, x2, x3 => if x3 < M 2 0 5 then (ob (f_X8_firstReady ((f_X5_targetAt x3 M)) M) fun r29 => oj (fun (x1_57 : Option Nat) (x2_57 : Int) => f_X2_longestReady_L6 k63 M n x1_57 x2_57 (wI (x3 + 1))) fun k57 => om r29 (k57 x1 x2) fun a36 => if x2 < M 7 ((f_X5_targetAt x3 M)) 10 then (k57 ((some a36)) (M 7 ((f_X5_targetAt x3 M)) 10)) else (k57 x1 x2)) else (k63 x1)
def f_X2_longestReady (M : gM) : Option (Option Nat) := f_X2_longestReady_L6 (fun (y1_6_63 : Option Nat) => some y1_6_63) M 64 none 0 0
def f_X8_work (i0 : Nat) (M : gM) : Int := if M 7 i0 3 = 1 then (wI ((wI (6 + (wI (2 * (M 8 i0 5))))) + 4)) else (wI ((wI (6 + (wI (2 * (M 8 i0 5))))) + 0))
def f_X10_ticksFor (i0 : Nat) (i1 : Nat) (M : gM) : Int := if 0 < M 11 i0 1 then (if M 11 i0 2 = M 7 i1 4 then ((f_J9_max_7cf53 1 (wI ((wI ((wI ((wI (((f_X8_work i1 M)) + (M 11 i0 1))) - 1)).tdiv (M 11 i0 1))) - 2)) M)) else (wI ((wI ((wI (((f_X8_work i1 M)) + (M 11 i0 1))) - 1)).tdiv (M 11 i0 1)))) else (1)
def f_X10_start (i0 : Nat) (i1 : Nat) (i2 : Nat) (v3 : Int) (v4 : Int) (M : gM) : gM := gU (gU (gU (gU (gU M 11 i0 3 ((i1 : Int))) 11 i0 4 v3) 11 i0 5 v4) 11 i0 7 ((f_X10_ticksFor i0 i2 (gU (gU (gU M 11 i0 3 ((i1 : Int))) 11 i0 4 v3) 11 i0 5 v4)))) 11 i0 6 ((gU (gU (gU (gU M 11 i0 3 ((i1 : Int))) 11 i0 4 v3) 11 i0 5 v4) 11 i0 7 ((f_X10_ticksFor i0 i2 (gU (gU (gU M 11 i0 3 ((i1 : Int))) 11 i0 4 v3) 11 i0 5 v4)))) 11 i0 7)
def f_X2_start (i1 : Nat) (i2 : Nat) (M : gM) : Option (gM) := ob (f_X9_keyOf 0 ((f_X5_targetAt (M 9 i2 0) M)) (M 9 i2 1) M) fun r21 => some ((f_X2_tally 0 ((f_X10_start i1 i2 ((f_X5_targetAt (M 9 i2 0) M)) r21 ((f_X9_contentFound 0 ((f_X5_targetAt (M 9 i2 0) M)) r21 M)) M))))
def f_X2_beginReady_L13 (k72 : gM → Option gM) : Nat → Int → gM → Option gM
  | 0, _, _ => none
  | n + 1, x1, M => if x1 < 4 then (ob (f_X2_strongestIdle M) fun r19 => oj (fun (x2_35 : Option Nat) (xs0_35 : Option Nat) => om x2_35 (some M) fun a37 => om xs0_35 (some M) fun a41 => ob (f_X2_start a37 a41 (gU (gU M 9 a41 2 2) 9 a41 6 (wI (((gU M 9 a41 2 2) 9 a41 6) + 1)))) fun r63 => f_X2_beginReady_L13 k72 n (wI (x1 + 1)) r63) fun k35 => om r19 (k35 none none) fun a24 => ob (f_X2_longestReady M) fun r32 => k35 ((some a24)) r32) else (k72 M)
def f_X2_beginReady (M : gM) : Option (gM) := ob (f_X5_findWays (M 4 0 6) M) fun r8 => f_X2_beginReady_L13 (fun (M_13_72 : gM) => some M_13_72) 64 0 r8
def f_X2_longestBusy_L13 (k58 : Option Nat → Option (Option Nat)) (z3 : Int) (M : gM) : Nat → Option Nat → Int → Option (Option Nat)
  | 0, _, _ => none
  | n + 1, x1, x4 => if x4 < z3 then (og ((0 : Int) ≤ x4 ∧ (x4 : Int) < 4) <| oj (gAct (M 11 x4.toNat 3)) fun o27 => oj (fun (x1_52 : Option Nat) => f_X2_longestBusy_L13 k58 z3 M n x1_52 (wI (x4 + 1))) fun k52 => om o27 (k52 x1) fun a30 => oj (k52 ((some x4.toNat))) fun k49 => om x1 (k49) fun a34 => if M 11 a34 6 < M 11 x4.toNat 6 then (k49) else (k52 ((some a34)))) else (k58 x1)
def f_X2_longestBusy (M : gM) : Option (Option Nat) := f_X2_longestBusy_L13 (fun (y1_13_58 : Option Nat) => some y1_13_58) 4 M 64 none 0
def f_X2_speculate (M : gM) : Option (gM) := ob (f_X2_longestBusy M) fun r1 => if (f_X10_isIdle 0 M) = 0 then (some M) else (om r1 (some M) fun a16 => oj (gAct (M 11 a16 3)) fun o20 => om o20 (some M) fun a23 => oj (gAct (M 11 a16 3)) fun o32 => ob o32 fun a35_1 => ob (f_X2_start 0 a35_1 M) fun r35 => some r35)
def f_X10_spendTick (i0 : Nat) (M : gM) : gM := oj (gAct (M 11 i0 3)) fun o1 => om o1 (M) fun a4 => gU M 11 i0 6 (wI ((M 11 i0 6) - 1))
def f_X10_hasEnded (i0 : Nat) (M : gM) : Int := oj (gAct (M 11 i0 3)) fun o1 => om o1 (0) fun a4 => if 0 < M 11 i0 6 then (0) else (1)
def f_X2_dismissFrom_L11 (k44 : gM → Option gM) (z1 : Nat) (z3 : Int) : Nat → Int → gM → Option gM
  | 0, _, _ => none
  | n + 1, x4, M => if x4 < z3 then (og ((0 : Int) ≤ x4 ∧ (x4 : Int) < 4) <| oj (gAct (M 11 x4.toNat 3)) fun o25 => oj (fun (M_38 : gM) => f_X2_dismissFrom_L11 k44 z1 z3 n (wI (x4 + 1)) M_38) fun k38 => if o25 = (some z1) then (k38 ((f_X10_rest x4.toNat ((-1)) M))) else (k38 M)) else (k44 M)
def f_X2_dismissFrom (i1 : Nat) (M : gM) : Option (gM) := f_X2_dismissFrom_L11 (fun (M_11_44 : gM) => some M_11_44) i1 4 64 0 M
def f_X10_beganWith (i0 : Nat) (v1 : Int) (v2 : Int) (M : gM) : Int := if M 11 i0 4 = v1 then (if M 11 i0 5 = v2 then (1) else (0)) else (0)
def f_X11_resultOf (v0 : Int) (v1 : Int) (M : gM) : Int := if v1 = (-1) then (v0) else ((f_X11_plus v0 v1 M))
def f_X10_resultMade (i0 : Nat) (M : gM) : Int := (f_X11_resultOf (M 11 i0 4) (M 11 i0 5) M)
def f_X8_isGoodResult (i0 : Nat) (v1 : Int) (M : gM) : Int := oj (1) fun k14 => if M 7 i0 3 = 2 then (if gRem v1 4 = 0 then (0) else (k14)) else (k14)
def f_X8_failsAt (i0 : Nat) (v1 : Int) (v2 : Int) (M : gM) : Int := oj (1) fun k22 => if (f_X8_isGoodResult i0 v2 M) = 0 then (k22) else (if gRem (wI ((wI (3 * v1)) + v2)) 5 < M 7 i0 8 then (k22) else (0))
def f_X8_isInQuarantine (i0 : Nat) (M : gM) : Int := if 1 < M 7 i0 11 then (1) else (0)
def f_X8_noteFlakeIn (i0 : Nat) (v1 : Int) (M : gM) : gM := if M 7 i0 12 = v1 then (M) else (gU (gU M 7 i0 12 v1) 7 i0 11 (wI (((gU M 7 i0 12 v1) 7 i0 11) + 1)))
def f_X1_hasAlike_L3 (k64 : Option (Int)) (z1 : Int) (z2 : Int) (z3 : Int) (z4 : Int) (z5 : Int) (M : gM) : Nat → Int → Option (Int)
  | 0, _ => none
  | n + 1, x6 => if x6 < M 3 0 2 then (ob (f_X1_entryAt x6 M) fun r15 => oj (f_X1_hasAlike_L3 k64 z1 z2 z3 z4 z5 M n (wI (x6 + 1))) fun k58 => om r15 (k58) fun a22 => if (f_X3_isOf a22 z1 z2 z3 M) = 0 then (k58) else (if M 10 a22 3 = z4 then (if M 10 a22 4 = z5 then (some 1) else (k58)) else (k58))) else (k64)
def f_X1_hasAlike (v1 : Int) (v2 : Int) (v3 : Int) (v4 : Int) (v5 : Int) (M : gM) : Option (Int) := f_X1_hasAlike_L3 (some 0) v1 v2 v3 v4 v5 M 64 0
def f_X3_fill (i0 : Nat) (v1 : Int) (v2 : Int) (v3 : Int) (v4 : Int) (v5 : Int) (M : gM) : gM := gU (gU (gU (gU (gU (gU (gU M 10 i0 0 v1) 10 i0 1 v2) 10 i0 2 v3) 10 i0 3 v4) 10 i0 4 v5) 10 i0 6 1) 10 i0 5 ((f_X3_rightSignature i0 (gU (gU (gU (gU (gU (gU M 10 i0 0 v1) 10 i0 1 v2) 10 i0 2 v3) 10 i0 3 v4) 10 i0 4 v5) 10 i0 6 1)))
def f_X1_keep (v1 : Int) (v2 : Int) (v3 : Int) (v4 : Int) (v5 : Int) (M : gM) : Option (gM) := ob (f_X1_hasAlike v1 v2 v3 v4 v5 M) fun r8 => if r8 = 0 then (oj (fun (M_50 : gM) => ob (f_X1_entryAt (wI ((M_50 3 0 2) - 1)) M_50) fun r57 => om r57 (some M_50) fun a64 => some ((f_X3_fill a64 v1 v2 v3 v4 v5 M_50))) fun k50 => if M 3 0 2 < 40 then (k50 (gU M 3 0 2 (wI ((M 3 0 2) + 1)))) else (k50 (gU M 3 0 1 (gRem (wI ((M 3 0 1) + 1)) 40)))) else (some M)
def f_X2_judge (i1 : Nat) (i2 : Nat) (i3 : Nat) (M : gM) : Option (gM) := oj (fun (M_38 : gM) => oj (fun (M_99 : gM) => oj (if M_99 9 i2 2 = 3 then (ob (f_X1_keep (M_99 11 i3 4) ((f_X8_fileFound i1 (M_99 11 i3 4) M_99)) (M_99 11 i3 5) ((f_X10_resultMade i3 M)) (M_99 11 i3 0) M_99) fun r168 => some r168) else (some M_99)) fun k130 => if M_99 9 i2 2 = 3 then (if M_99 9 i2 5 = 0 then (k130) else (some ((f_X8_noteFlakeIn i1 (((f_X2_tally 4 M_99)) 4 0 7) ((f_X2_tally 4 M_99)))))) else (k130)) fun k99 => oj (oj (ob (f_X2_finish i1 i2 ((f_X10_resultMade i3 M)) ((gU M_38 7 i1 9 (M_38 11 i3 7)) 11 i3 0) (gU M_38 7 i1 9 (M_38 11 i3 7))) fun r96 => k99 r96) fun k79 => if (f_X8_failsAt i1 (M 9 i2 6) ((f_X10_resultMade i3 M)) M) = 0 then (k79) else (if (f_X8_isInQuarantine i1 M_38) = 0 then (k99 (gU M_38 9 i2 2 4)) else (k79))) fun k59 => if (f_X8_failsAt i1 (M 9 i2 6) ((f_X10_resultMade i3 M)) M) = 0 then (k59) else (if M_38 9 i2 7 < 3 then (k99 (gU M_38 9 i2 2 1)) else (k59))) fun k38 => if (f_X8_failsAt i1 (M 9 i2 6) ((f_X10_resultMade i3 M)) M) = 0 then (k38 M) else (k38 (gU ((f_X2_tally 3 M)) 9 i2 7 (wI ((((f_X2_tally 3 M)) 9 i2 7) + 1))))
def f_X2_end (i1 : Nat) (M : gM) : Option (gM) := oj (gAct (M 11 i1 3)) fun o1 => om o1 (some M) fun a6 => ob (f_X2_dismissFrom a6 M) fun r24 => ob (f_X9_keyOf 0 ((f_X5_targetAt (M 9 a6 0) M)) (((f_X10_rest i1 (r24 7 ((f_X5_targetAt (M 9 a6 0) M)) 4) r24)) 9 a6 1) ((f_X10_rest i1 (r24 7 ((f_X5_targetAt (M 9 a6 0) M)) 4) r24))) fun r44 => if (f_X10_beganWith i1 r44 ((f_X9_contentFound 0 ((f_X5_targetAt (M 9 a6 0) M)) r44 ((f_X10_rest i1 (r24 7 ((f_X5_targetAt (M 9 a6 0) M)) 4) r24)))) ((f_X10_rest i1 (r24 7 ((f_X5_targetAt (M 9 a6 0) M)) 4) r24))) = 0 then (some ((f_X0_open a6 ((f_X2_tally 2 ((f_X10_rest i1 (r24 7 ((f_X5_targetAt (M 9 a6 0) M)) 4) r24))))))) else (if (f_X8_breaksOut ((f_X5_targetAt (M 9 a6 0) M)) r44 ((f_X10_rest i1 (r24 7 ((f_X5_targetAt (M 9 a6 0) M)) 4) r24))) = 0 then (ob (f_X2_judge ((f_X5_targetAt (M 9 a6 0) M)) a6 i1 ((f_X10_rest i1 (r24 7 ((f_X5_targetAt (M 9 a6 0) M)) 4) r24))) fun r101 => some r101) else (some (gU ((f_X10_rest i1 (r24 7 ((f_X5_targetAt (M 9 a6 0) M)) 4) r24)) 9 a6 2 4)))
def f_X2_passTick_L25 (k46 : gM → Option gM) (z2 : Int) : Nat → Int → gM → Option gM
  | 0, _, _ => none
  | n + 1, x3, M => if x3 < z2 then (og ((0 : Int) ≤ x3 ∧ (x3 : Int) < 4) <| f_X2_passTick_L25 k46 z2 n (wI (x3 + 1)) ((f_X10_spendTick x3.toNat M))) else (k46 M)
def f_X2_passTick_L59 (k93 : Int → gM → Option gM) (z3 : Int) : Nat → Int → Int → gM → Option gM
  | 0, _, _, _ => none
  | n + 1, x1, x4, M => if x4 < z3 then (og ((0 : Int) ≤ x4 ∧ (x4 : Int) < 4) <| oj (fun (x1_87 : Int) (M_87 : gM) => f_X2_passTick_L59 k93 z3 n x1_87 (wI (x4 + 1)) M_87) fun k87 => if (f_X10_hasEnded x4.toNat M) = 0 then (k87 x1 M) else (ob (f_X2_end x4.toNat M) fun r82 => k87 1 r82)) else (k93 x1 M)
def f_X2_passTick (M : gM) : Option (gM) := ob (f_X2_beginReady M) fun r1 => oj (fun (M_15 : gM) => f_X2_passTick_L25 (fun (M_25_46 : gM) => f_X2_passTick_L59 (fun (y1_59_93 : Int) (M_59_93 : gM) => if y1_59_93 = 0 then (some M_59_93) else (ob (f_X2_settle M_59_93) fun r98 => some r98)) 4 64 0 0 M_25_46) 4 64 0 M_15) fun k15 => if r1 4 0 10 = 0 then (k15 r1) else (ob (f_X2_speculate r1) fun r12 => k15 r12)
def f_X0_isSound (i0 : Nat) (M : gM) : Int := if M 9 i0 2 = 3 then (if M 9 i0 5 = 0 then (1) else (0)) else (0)
def f_X8_isSoundAlone_L2 (k29 : Option (Int)) (z0 : Nat) (M : gM) : Nat → Int → Option (Int)
  | 0, _ => none
  | n + 1, x1 => if x1 < M 7 z0 6 then (if (f_X0_isSound ((f_X8_actionAt z0 x1 M)) M) = 0 then (some 0) else (f_X8_isSoundAlone_L2 k29 z0 M n (wI (x1 + 1)))) else (k29)
def f_X8_isSoundAlone (i0 : Nat) (M : gM) : Option (Int) := f_X8_isSoundAlone_L2 (some 1) i0 M 64 0
def f_X5_soundTargets_L4 (k49 : Int → Option (Int)) (M : gM) : Nat → Int → Int → Option (Int)
  | 0, _, _ => none
  | n + 1, x1, x2 => if x2 < M 2 0 5 then (ob (f_X8_isSoundAlone ((f_X5_targetAt x2 M)) M) fun r19 => oj (fun (x1_43 : Int) => f_X5_soundTargets_L4 k49 M n x1_43 (wI (x2 + 1))) fun k43 => if r19 = 0 then (k43 x1) else (ob (f_X5_inputTargets ((f_X5_targetAt x2 M)) M) fun r27 => if gAnd r27 (gXor x1 ((-1))) = 0 then (k43 (gOr x1 (gShl 1 x2))) else (k43 x1))) else (k49 x1)
def f_X5_soundTargets (M : gM) : Option (Int) := f_X5_soundTargets_L4 (fun (y1_4_49 : Int) => some y1_4_49) M 64 0 0
def f_X8_isAllDone_L2 (k30 : Option (Int)) (z0 : Nat) (M : gM) : Nat → Int → Option (Int)
  | 0, _ => none
  | n + 1, x1 => if x1 < M 7 z0 6 then (if M 9 ((f_X8_actionAt z0 x1 M)) 2 = 3 then (f_X8_isAllDone_L2 k30 z0 M n (wI (x1 + 1))) else (some 0)) else (k30)
def f_X8_isAllDone (i0 : Nat) (M : gM) : Option (Int) := f_X8_isAllDone_L2 (some 1) i0 M 64 0
def f_X7_filesAfter_L2 (k27 : gM → Option gM) (z1 : Int) : Nat → Int → gM → Option gM
  | 0, _, _ => none
  | n + 1, x3, M => if x3 < 16 then (f_X7_filesAfter_L2 k27 z1 n (wI (x3 + 1)) ((f_X11_store 12 1 16 x3 ((f_X11_at 12 0 16 x3 M)) M))) else (k27 M)
def f_X7_filesAfter_L34 (k65 : gM → Option gM) (z1 : Int) : Nat → Int → gM → Option gM
  | 0, _, _ => none
  | n + 1, x3, M => if x3 < z1 then (k65 M) else (f_X7_filesAfter_L34 k65 z1 n (wI (x3 + (-1))) ((f_X11_store 12 1 16 ((f_X11_at 15 0 30 x3 M)) ((f_X11_at 16 0 30 x3 M)) M)))
def f_X7_filesAfter (v1 : Int) (M : gM) : Option (gM) := f_X7_filesAfter_L2 (fun (M_2_27 : gM) => f_X7_filesAfter_L34 (fun (M_34_65 : gM) => some M_34_65) v1 64 (wI ((M_2_27 1 0 5) - 1)) M_2_27) v1 64 0 M
def f_X4_makeTarget_L30 (k109 : Int → Int → Option gM) (z1 : Nat) (M : gM) : Nat → Int → Int → Int → Option gM
  | 0, _, _, _ => none
  | n + 1, x2, x3, x4 => if x4 < M 7 z1 6 then (ob (f_X9_keyOf 1 z1 x4 M) fun r46 => oj (fun (xs0_102 : Int) => f_X4_makeTarget_L30 k109 z1 M n ((f_X11_plus x2 ((f_X11_resultOf r46 ((f_X9_contentFound 1 z1 r46 M)) M)) M)) xs0_102 (wI (x4 + 1))) fun k102 => oj (k102 0) fun k101 => if x3 = 0 then (k101) else (if (f_X8_breaksOut z1 r46 M) = 0 then (if (f_X8_isGoodResult z1 ((f_X11_resultOf r46 ((f_X9_contentFound 1 z1 r46 M)) M)) M) = 0 then (k101) else (k102 1)) else (k101))) else (k109 x2 x3)
def f_X4_makeTarget (i1 : Nat) (M : gM) : Option (gM) := ob (f_X5_inputTargets i1 M) fun r8 => oj (fun (xs0_26 : Int) => f_X4_makeTarget_L30 (fun (y2_30_109 : Int) (y3_30_109 : Int) => if y3_30_109 = 0 then (some ((f_X11_store 23 1 14 (M 7 i1 0) y2_30_109 M))) else (some (gU ((f_X11_store 23 1 14 (M 7 i1 0) y2_30_109 M)) 5 0 3 (gOr (((f_X11_store 23 1 14 (M 7 i1 0) y2_30_109 M)) 5 0 3) (gShl 1 (((f_X11_store 23 1 14 (M 7 i1 0) y2_30_109 M)) 7 i1 0)))))) i1 M 64 7 xs0_26 0) fun k26 => if gAnd r8 (gXor (M 5 0 3) ((-1))) = 0 then (k26 1) else (k26 0)
def f_X4_make_L22 (k51 : gM → Option gM) : Nat → Int → gM → Option gM
  | 0, _, _ => none
  | n + 1, x2, M => if x2 < M 2 0 5 then (ob (f_X4_makeTarget ((f_X5_targetAt x2 M)) M) fun r42 => f_X4_make_L22 k51 n (wI (x2 + 1)) r42) else (k51 M)
def f_X4_make (v1 : Int) (M : gM) : Option (gM) := ob (f_X7_filesAfter v1 M) fun r12 => f_X4_make_L22 (fun (M_22_51 : gM) => some M_22_51) 64 0 (gU r12 5 0 3 0)
def f_X4_isStale_L22 (k72 : Option (Int × gM)) (z1 : Nat) (M : gM) : Nat → Int → Option (Int × gM)
  | 0, _ => none
  | n + 1, x2 => if x2 < M 7 z1 6 then (ob (f_X9_keyOf 1 z1 x2 M) fun r36 => if M 9 ((f_X8_actionAt z1 x2 M)) 3 = (f_X11_resultOf r36 ((f_X9_contentFound 1 z1 r36 M)) M) then (f_X4_isStale_L22 k72 z1 M n (wI (x2 + 1))) else (some ((1, M)))) else (k72)
def f_X4_isStale (i1 : Nat) (M : gM) : Option (Int × gM) := ob (f_X8_isAllDone i1 M) fun r1 => if r1 = 0 then (some ((0, M))) else (ob (f_X4_make (M 1 0 5) M) fun r17 => f_X4_isStale_L22 (some ((0, r17))) i1 r17 64 0)
def f_X4_goodTargets (v1 : Int) (M : gM) : Option (Int × gM) := ob (f_X4_make v1 M) fun r2 => some ((r2 5 0 3, r2))
def f_X4_digestOf (i1 : Nat) (M : gM) : Option (Int × gM) := ob (f_X4_make (M 1 0 5) M) fun r8 => some (((f_X11_at 23 1 14 (r8 7 i1 0) r8), r8))
def f_X2_wayOf (i1 : Nat) (M : gM) : Option (Int × gM) := if (f_X11_bitOf (M 4 0 6) (M 7 i1 0) M) = 0 then (some (((-1), M))) else (ob (f_X5_findWays (M 4 0 6) M) fun r24 => some ((r24 7 i1 10, r24)))
def f_X5_isAllDone_L2 (k38 : Option (Int)) (z1 : Int) (M : gM) : Nat → Int → Option (Int)
  | 0, _ => none
  | n + 1, x2 => if x2 < M 2 0 5 then (oj (f_X5_isAllDone_L2 k38 z1 M n (wI (x2 + 1))) fun k32 => if (f_X11_bitOf z1 x2 M) = 1 then (ob (f_X8_isAllDone ((f_X5_targetAt x2 M)) M) fun r24 => if r24 = 0 then (some 0) else (k32)) else (k32)) else (k38)
def f_X5_isAllDone (v1 : Int) (M : gM) : Option (Int) := f_X5_isAllDone_L2 (some 1) v1 M 64 0
def f_X5_proofOverInputs_L5 (k44 : Int → Option (Int)) (z1 : Nat) (M : gM) : Nat → Int → Int → Option (Int)
  | 0, _, _ => none
  | n + 1, x2, x3 => if x3 < M 7 z1 6 then (f_X5_proofOverInputs_L5 k44 z1 M n ((f_X11_plus ((f_X11_plus x2 (M 9 ((f_X8_actionAt z1 x3 M)) 3) M)) (M 9 ((f_X8_actionAt z1 x3 M)) 4) M)) (wI (x3 + 1))) else (k44 x2)
def f_X5_proofOverInputs_L46 (k98 : Int → Option (Int)) (z1 : Nat) (M : gM) : Nat → Int → Int → Option (Int)
  | 0, _, _ => none
  | n + 1, x2, x3 => if x3 < M 8 z1 5 then (oj (fun (x2_92 : Int) => f_X5_proofOverInputs_L46 k98 z1 M n x2_92 (wI (x3 + 1))) fun k92 => if (f_X11_isTarget ((f_X6_chosen z1 x3 M)) M) = 0 then (k92 x2) else (k92 ((f_X11_plus x2 ((f_X11_at 21 0 14 (wI (((f_X6_chosen z1 x3 M)) - 16)) M)) M)))) else (k98 x2)
def f_X5_proofOverInputs (i1 : Nat) (M : gM) : Option (Int) := f_X5_proofOverInputs_L5 (fun (y2_5_44 : Int) => f_X5_proofOverInputs_L46 (fun (y2_46_98 : Int) => some y2_46_98) i1 M 64 y2_5_44 0) i1 M 64 7 0
def f_X5_proofOf_L2 (k30 : gM → Option (Int × gM)) (z1 : Int) : Nat → Int → gM → Option (Int × gM)
  | 0, _, _ => none
  | n + 1, x2, M => if z1 < x2 then (k30 M) else (ob (f_X5_proofOverInputs ((f_X5_targetAt x2 M)) M) fun r18 => f_X5_proofOf_L2 k30 z1 n (wI (x2 + 1)) ((f_X11_store 21 0 14 x2 r18 M)))
def f_X5_proofOf (v1 : Int) (M : gM) : Option (Int × gM) := f_X5_proofOf_L2 (fun (M_2_30 : gM) => some (((f_X11_at 21 0 14 v1 M_2_30), M_2_30))) v1 64 0 M
def f_X5_hasInput_L2 (k33 : Option (Int)) (z1 : Nat) (z2 : Int) (M : gM) : Nat → Int → Option (Int)
  | 0, _ => none
  | n + 1, x3 => if x3 < M 8 z1 5 then (if (f_X6_chosen z1 x3 M) = z2 then (some 1) else (f_X5_hasInput_L2 k33 z1 z2 M n (wI (x3 + 1)))) else (k33)
def f_X5_hasInput (i1 : Nat) (v2 : Int) (M : gM) : Option (Int) := f_X5_hasInput_L2 (some 0) i1 v2 M 64 0
def f_X5_targetsOver_L20 (k68 : Int → Option (Int)) (z1 : Int) (M : gM) : Nat → Int → Int → Option (Int)
  | 0, _, _ => none
  | n + 1, x2, x3 => if x3 < M 2 0 5 then (ob (f_X5_inputTargets ((f_X5_targetAt x3 M)) M) fun r38 => oj (fun (x2_62 : Int) => f_X5_targetsOver_L20 k68 z1 M n x2_62 (wI (x3 + 1))) fun k62 => oj (k62 (gOr x2 (gShl 1 x3))) fun k56 => if gAnd r38 x2 = 0 then (ob (f_X5_hasInput ((f_X5_targetAt x3 M)) z1 M) fun r50 => if r50 = 0 then (k62 x2) else (k56)) else (k56)) else (k68 x2)
def f_X5_targetsOver (v1 : Int) (M : gM) : Option (Int) := oj (fun (xs0_17 : Int) => f_X5_targetsOver_L20 (fun (y2_20_68 : Int) => some y2_20_68) v1 M 64 xs0_17 0) fun k17 => if (f_X11_isTarget v1 M) = 0 then (k17 0) else (k17 (gShl 1 (wI (v1 - 16))))
def f_X5_spreadDistance_L16 (k79 : gM → Option gM) (z1 : Nat) (z2 : Int) : Nat → Int → gM → Option gM
  | 0, _, _ => none
  | n + 1, x3, M => if x3 < M 8 z1 5 then (oj (fun (M_73 : gM) => f_X5_spreadDistance_L16 k79 z1 z2 n (wI (x3 + 1)) M_73) fun k73 => oj (k73 ((f_X11_store 22 0 14 (wI (((f_X6_chosen z1 x3 M)) - 16)) z2 M))) fun k63 => if (f_X11_at 22 0 14 (wI (((f_X6_chosen z1 x3 M)) - 16)) M) = (-1) then (k63) else (if z2 < (f_X11_at 22 0 14 (wI (((f_X6_chosen z1 x3 M)) - 16)) M) then (k63) else (k73 M))) else (k79 M)
def f_X5_spreadDistance (i1 : Nat) (M : gM) : Option (gM) := f_X5_spreadDistance_L16 (fun (M_16_79 : gM) => some M_16_79) i1 (wI (((f_X11_at 22 0 14 (M 7 i1 0) M)) + 1)) 64 0 M
def f_X5_distance_L2 (k32 : gM → Option (Int × gM)) (z1 : Int) (z2 : Int) : Nat → Int → gM → Option (Int × gM)
  | 0, _, _ => none
  | n + 1, x3, M => if x3 < 14 then (oj (fun (xs2_23 : Int) => f_X5_distance_L2 k32 z1 z2 n (wI (x3 + 1)) ((f_X11_store 22 0 14 x3 xs2_23 M))) fun k23 => if x3 = z1 then (k23 0) else (k23 ((-1)))) else (k32 M)
def f_X5_distance_L34 (k66 : gM → Option (Int × gM)) (z2 : Int) : Nat → Int → gM → Option (Int × gM)
  | 0, _, _ => none
  | n + 1, x3, M => if z2 < x3 then (oj (fun (M_60 : gM) => f_X5_distance_L34 k66 z2 n (wI (x3 + (-1))) M_60) fun k60 => if (f_X11_at 22 0 14 x3 M) = (-1) then (k60 M) else (ob (f_X5_spreadDistance ((f_X5_targetAt x3 M)) M) fun r57 => k60 r57)) else (k66 M)
def f_X5_distance (v1 : Int) (v2 : Int) (M : gM) : Option (Int × gM) := f_X5_distance_L2 (fun (M_2_32 : gM) => f_X5_distance_L34 (fun (M_34_66 : gM) => some (((f_X11_at 22 0 14 v2 M_34_66), M_34_66))) v2 64 v1 M_2_32) v1 v2 64 0 M
def f_X11_isGoodAfter (v1 : Int) (v2 : Int) (M : gM) : Option (Int × gM) := ob (f_X4_goodTargets v1 M) fun r5 => if (f_X11_bitOf r5.1 v2 r5.2) = 1 then (some ((1, r5.2))) else (some ((0, r5.2)))
def f_X11_goesOn (M : gM) : Int := M 4 0 8
def f_X11_entries (M : gM) : Int := M 3 0 2
def f_X11_checkArgument (v0 : Int) (M0 : gM) : Option (Nat ⊕ Unit) := if v0 = 0 then (some (Sum.inl 1)) else (some (Sum.inr (())))
def f_X11_write (v1 : Int) (v2 : Int) (M0 : gM) : Option (Nat ⊕ (Int × gM)) := oj (fun (xs0_24 : Int) => ob (f_X11_checkArgument xs0_24 M0) fun r24 => ox r24 fun v24_ => ob (f_X7_rewrite v1 v2 M0) fun r33 => some (Sum.inr ((r33.1, r33.2)))) fun k24 => oj (k24 0) fun k23 => if (f_X11_isBelow v1 16 M0) = 0 then (k23) else (if (f_X11_isBelow v2 1000 M0) = 0 then (k23) else (k24 1))
def f_X11_checkState (v0 : Int) (M0 : gM) : Option (Nat ⊕ Unit) := if v0 = 0 then (some (Sum.inl 3)) else (some (Sum.inr (())))
def f_X11_set (v1 : Int) (v2 : Int) (M0 : gM) : Option (Nat ⊕ (Int × gM)) := oj (fun (xs0_22 : Int) => ob (f_X11_checkArgument xs0_22 M0) fun r22 => ox r22 fun v22_ => oj (fun (xs0_40 : Int) => ob (f_X11_checkState xs0_40 M0) fun r40 => ox r40 fun v40_ => some (Sum.inr (((f_X11_exchange 13 0 4 v1 v2 M0).1, (f_X11_exchange 13 0 4 v1 v2 M0).2)))) fun k40 => if M0 4 0 8 = 0 then (k40 1) else (k40 0)) fun k22 => oj (k22 0) fun k21 => if (f_X11_isBelow v1 4 M0) = 0 then (k21) else (if (f_X11_isBelow v2 10 M0) = 0 then (k21) else (k22 1))
def f_X11_setTool (v1 : Int) (v2 : Int) (M0 : gM) : Option (Nat ⊕ (Int × gM)) := oj (fun (xs0_22 : Int) => ob (f_X11_checkArgument xs0_22 M0) fun r22 => ox r22 fun v22_ => oj (fun (xs0_40 : Int) => ob (f_X11_checkState xs0_40 M0) fun r40 => ox r40 fun v40_ => some (Sum.inr (((f_X11_exchange 14 0 4 v1 v2 M0).1, (f_X11_exchange 14 0 4 v1 v2 M0).2)))) fun k40 => if M0 4 0 8 = 0 then (k40 1) else (k40 0)) fun k22 => oj (k22 0) fun k21 => if (f_X11_isBelow v1 4 M0) = 0 then (k21) else (if (f_X11_isBelow v2 10 M0) = 0 then (k21) else (k22 1))
def f_X11_checkTarget (v1 : Int) (M0 : gM) : Option (Nat ⊕ Unit) := if (f_X11_isBelow v1 (M0 2 0 5) M0) = 0 then (some (Sum.inl 2)) else (some (Sum.inr (())))
def f_X11_copy (v1 : Int) (v2 : Int) (M0 : gM) : Option (Nat ⊕ (Int × gM)) := ob (f_X11_checkTarget v1 M0) fun r2 => ox r2 fun v2_ => ob (f_X11_checkArgument ((f_X11_isBelow v2 10 M0)) M0) fun r11 => ox r11 fun v11_ => oj (fun (xs0_41 : Int) => ob (f_X11_checkState xs0_41 M0) fun r41 => ox r41 fun v41_ => ob (f_X6_become ((f_X5_tellNext M0).1) ((f_X5_targetAt v1 M0)) ((f_X8_describe ((f_X5_tellNext M0).1) (((f_X5_tellNext M0).2) 7 ((f_X5_targetAt v1 M0)) 3) (((f_X5_tellNext M0).2) 7 ((f_X5_targetAt v1 M0)) 4) v2 (((f_X5_tellNext M0).2) 7 ((f_X5_targetAt v1 M0)) 6) (((f_X5_tellNext M0).2) 7 ((f_X5_targetAt v1 M0)) 7) (((f_X5_tellNext M0).2) 7 ((f_X5_targetAt v1 M0)) 8) ((f_X5_tellNext M0).2)))) fun r97 => some (Sum.inr ((r97 7 ((f_X5_tellNext M0).1) 0, r97)))) fun k41 => oj (k41 0) fun k40 => if M0 4 0 8 = 0 then (if M0 2 0 5 < 14 then (k41 1) else (k40)) else (k40)
def f_X11_setPower (v1 : Int) (v2 : Int) (M0 : gM) : Option (Nat ⊕ (Int × gM)) := oj (fun (xs0_22 : Int) => ob (f_X11_checkArgument xs0_22 M0) fun r22 => ox r22 fun v22_ => if v2 = M0 11 ((f_X2_workerAt v1 M0)) 1 then (some (Sum.inr ((M0 11 ((f_X2_workerAt v1 M0)) 1, M0)))) else (ob (f_X2_changePower ((f_X2_workerAt v1 M0)) v2 M0) fun r52 => some (Sum.inr ((M0 11 ((f_X2_workerAt v1 M0)) 1, r52))))) fun k22 => oj (k22 0) fun k21 => if (f_X11_isBelow v1 4 M0) = 0 then (k21) else (if (f_X11_isBelow v2 10 M0) = 0 then (k21) else (k22 1))
def f_X11_entry (v1 : Int) (v2 : Int) (M0 : gM) : Option (Nat ⊕ Int) := ob (f_X1_entryAt v1 M0) fun r5 => oj (some (Sum.inl 1)) fun k22 => om r5 (k22) fun a10 => if (f_X11_isBelow v2 7 M0) = 0 then (k22) else (some (Sum.inr ((f_X3_tell a10 v2 M0))))
def f_X11_build (v1 : Int) (M0 : gM) : Option (Nat ⊕ (Int × gM)) := oj (fun (xs0_22 : Int) => ob (f_X11_checkArgument xs0_22 M0) fun r22 => ox r22 fun v22_ => oj (fun (xs0_40 : Int) => ob (f_X11_checkState xs0_40 M0) fun r40 => ox r40 fun v40_ => ob (f_X2_begin v1 M0) fun r48 => some (Sum.inr ((r48.1, r48.2)))) fun k40 => if M0 4 0 8 = 0 then (k40 1) else (k40 0)) fun k22 => oj (k22 0) fun k21 => if 0 < v1 then (if v1 < gShl 1 (M0 2 0 5) then (k22 1) else (k21)) else (k21)
def f_X11_pass_L21 (k59 : gM → Option (Nat ⊕ (Int × gM))) (z1 : Int) : Nat → Int → gM → Option (Nat ⊕ (Int × gM))
  | 0, _, _ => none
  | n + 1, x2, M => if x2 < z1 then (oj (fun (M_43 : gM) => f_X11_pass_L21 k59 z1 n (wI (x2 + 1)) (gU M_43 0 0 5 (wI ((M_43 0 0 5) + 1)))) fun k43 => if M 4 0 8 = 0 then (k43 M) else (ob (f_X2_passTick M) fun r40 => k43 r40)) else (k59 M)
def f_X11_pass (v1 : Int) (M0 : gM) : Option (Nat ⊕ (Int × gM)) := oj (fun (xs0_16 : Int) => ob (f_X11_checkArgument xs0_16 M0) fun r16 => ox r16 fun v16_ => f_X11_pass_L21 (fun (M_21_59 : gM) => some (Sum.inr ((M_21_59 0 0 5, M_21_59)))) v1 64 0 M0) fun k16 => oj (k16 0) fun k15 => if v1 < 1 then (k15) else (if 50 < v1 then (k15) else (k16 1))
def f_X11_checkedAction (v1 : Int) (v2 : Int) (M0 : gM) : Option (Nat ⊕ Nat) := ob (f_X11_checkTarget v1 M0) fun r2 => ox r2 fun v2_ => ob (f_X11_checkArgument ((f_X11_isBelow v2 (M0 7 ((f_X5_targetAt v1 M0)) 6) M0)) M0) fun r22 => ox r22 fun v22_ => some (Sum.inr ((f_X8_actionAt ((f_X5_targetAt v1 M0)) v2 M0)))
def f_X11_state (v1 : Int) (v2 : Int) (M0 : gM) : Option (Nat ⊕ Int) := ob (f_X11_checkedAction v1 v2 M0) fun r3 => ox r3 fun v3_ => some (Sum.inr (M0 9 v3_ 2))
def f_X11_result (v1 : Int) (v2 : Int) (M0 : gM) : Option (Nat ⊕ Int) := ob (f_X11_checkedAction v1 v2 M0) fun r3 => ox r3 fun v3_ => if M0 9 v3_ 2 = 3 then (some (Sum.inr (M0 9 v3_ 3))) else (some (Sum.inr ((-1))))
def f_X11_about (v1 : Int) (v2 : Int) (M0 : gM) : Option (Nat ⊕ (Int × gM)) := ob (f_X11_checkTarget v1 M0) fun r2 => ox r2 fun v2_ => ob (f_X11_checkArgument ((f_X11_isBelow v2 6 M0)) M0) fun r11 => ox r11 fun v11_ => if v2 = 0 then (ob (f_X5_soundTargets M0) fun r64 => some (Sum.inr (((f_X11_bitOf r64 v1 M0), M0)))) else if v2 = 1 then (ob (f_X4_isStale ((f_X5_targetAt v1 M0)) M0) fun r77 => if r77.1 = 0 then (some (Sum.inr ((0, r77.2)))) else (some (Sum.inr ((1, r77.2))))) else if v2 = 2 then (if (f_X8_isInQuarantine ((f_X5_targetAt v1 M0)) M0) = 0 then (some (Sum.inr ((0, M0)))) else (some (Sum.inr ((1, M0))))) else if v2 = 3 then (ob (f_X4_goodTargets (M0 1 0 5) M0) fun r113 => some (Sum.inr (((f_X11_bitOf r113.1 v1 r113.2), r113.2)))) else if v2 = 4 then (ob (f_X4_digestOf ((f_X5_targetAt v1 M0)) M0) fun r126 => some (Sum.inr ((r126.1, r126.2)))) else ob (f_X2_wayOf ((f_X5_targetAt v1 M0)) M0) fun r135 => some (Sum.inr ((r135.1, r135.2)))
def f_X11_proof (v1 : Int) (M0 : gM) : Option (Nat ⊕ (Int × gM)) := ob (f_X11_checkTarget v1 M0) fun r2 => ox r2 fun v2_ => ob (f_X5_withNeeded (gShl 1 v1) M0) fun r16 => ob (f_X5_isAllDone r16 M0) fun r19 => ob (f_X11_checkState r19 M0) fun r22 => ox r22 fun v22_ => ob (f_X5_proofOf v1 M0) fun r30 => some (Sum.inr ((r30.1, r30.2)))
def f_X11_count (v1 : Int) (M0 : gM) : Option (Nat ⊕ Int) := ob (f_X11_checkArgument ((f_X11_isBelow v1 5 M0)) M0) fun r5 => ox r5 fun v5_ => some (Sum.inr ((f_X11_at 24 0 5 v1 M0)))
def f_X11_needed (v1 : Int) (M0 : gM) : Option (Nat ⊕ Int) := ob (f_X11_checkTarget v1 M0) fun r2 => ox r2 fun v2_ => ob (f_X5_withNeeded (gShl 1 v1) M0) fun r12 => some (Sum.inr r12)
def f_X11_checkThing (v1 : Int) (M0 : gM) : Option (Nat ⊕ Unit) := if (f_X11_isTarget v1 M0) = 0 then (some (Sum.inr (()))) else (ob (f_X11_checkTarget (wI (v1 - 16)) M0) fun r12 => ox r12 fun v12_ => some (Sum.inr (())))
def f_X11_needing (v1 : Int) (M0 : gM) : Option (Nat ⊕ Int) := oj (fun (xs0_9 : Int) => ob (f_X11_checkArgument xs0_9 M0) fun r9 => ox r9 fun v9_ => ob (f_X11_checkThing v1 M0) fun r14 => ox r14 fun v14_ => ob (f_X5_targetsOver v1 M0) fun r22 => some (Sum.inr r22)) fun k9 => if v1 < 0 then (k9 0) else (k9 1)
def f_X11_steps (v1 : Int) (v2 : Int) (M0 : gM) : Option (Nat ⊕ (Int × gM)) := ob (f_X11_checkTarget v1 M0) fun r2 => ox r2 fun v2_ => ob (f_X11_checkTarget v2 M0) fun r7 => ox r7 fun v7_ => ob (f_X5_distance v1 v2 M0) fun r16 => some (Sum.inr ((r16.1, r16.2)))
def f_X11_bisect_L43 (k99 : Int → gM → Option (Nat ⊕ (Int × gM))) (z1 : Int) : Nat → Int → Int → Int → gM → Option (Nat ⊕ (Int × gM))
  | 0, _, _, _, _ => none
  | n + 1, x2, x3, x4, M => if x4 < 30 then (if 1 < wI (x3 - x2) then (ob (f_X11_isGoodAfter (wI ((wI (x2 + x3)).tdiv 2)) z1 (gU M 0 0 6 (wI ((M 0 0 6) + 1)))) fun r78 => oj (fun (x2_93 : Int) (x3_93 : Int) => f_X11_bisect_L43 k99 z1 n x2_93 x3_93 (wI (x4 + 1)) r78.2) fun k93 => if r78.1 = 0 then (k93 x2 (wI ((wI (x2 + x3)).tdiv 2))) else (k93 (wI ((wI (x2 + x3)).tdiv 2)) x3)) else (k99 x3 M)) else (k99 x3 M)
def f_X11_bisect (v1 : Int) (M0 : gM) : Option (Nat ⊕ (Int × gM)) := ob (f_X11_checkTarget v1 M0) fun r2 => ox r2 fun v2_ => ob (f_X11_isGoodAfter 0 v1 (gU M0 0 0 6 0)) fun r23 => if r23.1 = 0 then (some (Sum.inr (((-1), r23.2)))) else (ob (f_X11_isGoodAfter ((gU M0 0 0 6 0) 1 0 5) v1 r23.2) fun r32 => if r32.1 = 0 then (f_X11_bisect_L43 (fun (y3_43_99 : Int) (M_43_99 : gM) => some (Sum.inr ((wI (y3_43_99 - 1), M_43_99)))) v1 64 0 ((gU M0 0 0 6 0) 1 0 5) 0 r32.2) else (some (Sum.inr (((-1), r32.2)))))
def f_X11_input (v1 : Int) (v2 : Int) (v3 : Int) (v4 : Int) (M0 : gM) : Option (Nat ⊕ (Int × gM)) := oj (fun (xs0_14 : Int) => ob (f_X11_checkArgument xs0_14 M0) fun r14 => ox r14 fun v14_ => oj (ob (f_X11_checkThing v1 M0) fun r70 => ox r70 fun v70_ => ob (f_X11_checkThing v2 M0) fun r75 => ox r75 fun v75_ => oj (fun (xs0_97 : Int) => ob (f_X11_checkState xs0_97 M0) fun r97 => ox r97 fun v97_ => some (Sum.inr (((f_X6_append 15 v1 v2 v3 v4 M0).1, (f_X6_append 15 v1 v2 v3 v4 M0).2)))) fun k97 => if M0 8 15 5 < 4 then (k97 1) else (k97 0)) fun k68 => if v2 = (-1) then (oj (fun (xs0_36 : Int) => ob (f_X11_checkArgument xs0_36 M0) fun r36 => ox r36 fun v36_ => k68) fun k36 => oj (k36 0) fun k35 => if v3 = 0 then (if v4 = 0 then (k36 1) else (k35)) else (k35)) else (oj (fun (xs0_65 : Int) => ob (f_X11_checkArgument xs0_65 M0) fun r65 => ox r65 fun v65_ => k68) fun k65 => oj (k65 0) fun k64 => if (f_X11_isBelow v3 4 M0) = 0 then (k64) else (if (f_X11_isBelow v4 10 M0) = 0 then (k64) else (k65 1)))) fun k14 => oj (k14 0) fun k13 => if v1 < 0 then (k13) else (if v2 < (-1) then (k13) else (k14 1))
def f_X11_target (v1 : Int) (v2 : Int) (v3 : Int) (v4 : Int) (v5 : Int) (v6 : Int) (M0 : gM) : Option (Nat ⊕ (Int × gM)) := oj (fun (xs0_30 : Int) => ob (f_X11_checkArgument xs0_30 M0) fun r30 => ox r30 fun v30_ => oj (fun (xs0_59 : Int) => ob (f_X11_checkArgument xs0_59 M0) fun r59 => ox r59 fun v59_ => oj (fun (xs0_83 : Int) => ob (f_X11_checkArgument xs0_83 M0) fun r83 => ox r83 fun v83_ => oj (fun (xs1_98 : Int) => ob (f_X11_checkArgument ((f_X11_isBelow v6 xs1_98 M0)) M0) fun r101 => ox r101 fun v101_ => oj (fun (xs0_144 : Int) => ob (f_X11_checkState xs0_144 M0) fun r144 => ox r144 fun v144_ => ob (f_X6_become ((f_X5_tellNext M0).1) 15 ((f_X8_describe ((f_X5_tellNext M0).1) v1 v2 v3 v4 v5 v6 ((f_X5_tellNext M0).2)))) fun r182 => some (Sum.inr (((gU r182 8 15 5 0) 7 ((f_X5_tellNext M0).1) 0, gU r182 8 15 5 0)))) fun k144 => oj (k144 0) fun k143 => if 0 < M0 8 15 5 then (if M0 4 0 8 = 0 then (if M0 2 0 5 < 14 then (k144 1) else (k143)) else (k143)) else (k143)) fun k98 => if v1 = 2 then (k98 4) else (k98 1)) fun k83 => oj (k83 1) fun k78 => if v5 = (-1) then (k78) else (if (f_X11_isBelow v5 65536 M0) = 0 then (k83 0) else (k78))) fun k59 => oj (k59 0) fun k58 => if v4 < 1 then (k58) else (oj (fun (xs1_51 : Int) => if xs1_51 < v4 then (k58) else (k59 1)) fun k51 => if v1 = 2 then (k51 4) else (k51 1))) fun k30 => oj (k30 0) fun k29 => if (f_X11_isBelow v1 3 M0) = 0 then (k29) else (if (f_X11_isBelow v2 4 M0) = 0 then (k29) else (if (f_X11_isBelow v3 10 M0) = 0 then (k29) else (k30 1)))
