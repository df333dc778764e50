/-! ### the end of a tick: whoever is at it lets go -/
/-- what the reference does with an action whose worker has let go of it -/
def EK (v1 : Int) (M M_59 : gM) : Option gM := og ((0 : Int) ≤ v1 ∧ (v1 : Int) < 4) <| ob (f_X12_foundBy (wI ((M 54 0 v1.toNat).tdiv 4)) (M_59 57 0 v1.toNat) M_59) fun r67 => ob (f_X12_keyOf (M 54 0 v1.toNat) M_59) fun r74 => og ((0 : Int) ≤ v1 ∧ (v1 : Int) < 4) <| oj (og ((0 : Int) ≤ 2 ∧ (2 : Int) < 5) <| og ((0 : Int) ≤ 2 ∧ (2 : Int) < 5) <| og ((0 : Int) ≤ M 54 0 v1.toNat ∧ (M 54 0 v1.toNat : Int) < 56) <| og ((0 : Int) ≤ M 54 0 v1.toNat ∧ (M 54 0 v1.toNat : Int) < 56) <| some (gU (gU (gU M_59 68 0 2 (wI ((M_59 68 0 2) + 1))) 60 0 (M 54 0 v1.toNat).toNat 0) 63 0 (M 54 0 v1.toNat).toNat 0)) fun k108 => if r74 = M_59 57 0 v1.toNat then (oj (og ((0 : Int) ≤ v1 ∧ (v1 : Int) < 4) <| ob (f_X12_breaks (wI ((M 54 0 v1.toNat).tdiv 4)) (M_59 57 0 v1.toNat) M_59) fun r141 => if r141 = 0 then (oj (fun (xs0_185 : Int) => og ((0 : Int) ≤ wI ((M 54 0 v1.toNat).tdiv 4) ∧ (wI ((M 54 0 v1.toNat).tdiv 4) : Int) < 14) <| oj (fun (xs0_231 : Int) => oj (fun (M_294 : gM) => og ((0 : Int) ≤ M 54 0 v1.toNat ∧ (M 54 0 v1.toNat : Int) < 56) <| og ((0 : Int) ≤ M 54 0 v1.toNat ∧ (M 54 0 v1.toNat : Int) < 56) <| og ((0 : Int) ≤ M 54 0 v1.toNat ∧ (M 54 0 v1.toNat : Int) < 56) <| og ((0 : Int) ≤ v1 ∧ (v1 : Int) < 4) <| og ((0 : Int) ≤ wI ((M 54 0 v1.toNat).tdiv 4) ∧ (wI ((M 54 0 v1.toNat).tdiv 4) : Int) < 14) <| og ((0 : Int) ≤ M 54 0 v1.toNat ∧ (M 54 0 v1.toNat : Int) < 56) <| oj (fun (xs2_347 : Int) => og ((0 : Int) ≤ M 54 0 v1.toNat ∧ (M 54 0 v1.toNat : Int) < 56) <| og ((0 : Int) ≤ M 54 0 v1.toNat ∧ (M 54 0 v1.toNat : Int) < 56) <| if (gU (gU (gU (gU (gU M_294 60 0 (M 54 0 v1.toNat).toNat 3) 61 0 (M 54 0 v1.toNat).toNat xs0_185) 62 0 (M 54 0 v1.toNat).toNat v1) 67 0 (wI ((M 54 0 v1.toNat).tdiv 4)).toNat ((gU (gU (gU M_294 60 0 (M 54 0 v1.toNat).toNat 3) 61 0 (M 54 0 v1.toNat).toNat xs0_185) 62 0 (M 54 0 v1.toNat).toNat v1) 56 0 v1.toNat)) 64 0 (M 54 0 v1.toNat).toNat xs2_347) 64 0 (M 54 0 v1.toNat).toNat = 0 then (og ((0 : Int) ≤ v1 ∧ (v1 : Int) < 4) <| og ((0 : Int) ≤ v1 ∧ (v1 : Int) < 4) <| ob (f_X12_keep ((gU (gU (gU (gU (gU M_294 60 0 (M 54 0 v1.toNat).toNat 3) 61 0 (M 54 0 v1.toNat).toNat xs0_185) 62 0 (M 54 0 v1.toNat).toNat v1) 67 0 (wI ((M 54 0 v1.toNat).tdiv 4)).toNat ((gU (gU (gU M_294 60 0 (M 54 0 v1.toNat).toNat 3) 61 0 (M 54 0 v1.toNat).toNat xs0_185) 62 0 (M 54 0 v1.toNat).toNat v1) 56 0 v1.toNat)) 64 0 (M 54 0 v1.toNat).toNat xs2_347) 57 0 v1.toNat) r67 ((gU (gU (gU (gU (gU M_294 60 0 (M 54 0 v1.toNat).toNat 3) 61 0 (M 54 0 v1.toNat).toNat xs0_185) 62 0 (M 54 0 v1.toNat).toNat v1) 67 0 (wI ((M 54 0 v1.toNat).tdiv 4)).toNat ((gU (gU (gU M_294 60 0 (M 54 0 v1.toNat).toNat 3) 61 0 (M 54 0 v1.toNat).toNat xs0_185) 62 0 (M 54 0 v1.toNat).toNat v1) 56 0 v1.toNat)) 64 0 (M 54 0 v1.toNat).toNat xs2_347) 58 0 v1.toNat) xs0_185 v1 (gU (gU (gU (gU (gU M_294 60 0 (M 54 0 v1.toNat).toNat 3) 61 0 (M 54 0 v1.toNat).toNat xs0_185) 62 0 (M 54 0 v1.toNat).toNat v1) 67 0 (wI ((M 54 0 v1.toNat).tdiv 4)).toNat ((gU (gU (gU M_294 60 0 (M 54 0 v1.toNat).toNat 3) 61 0 (M 54 0 v1.toNat).toNat xs0_185) 62 0 (M 54 0 v1.toNat).toNat v1) 56 0 v1.toNat)) 64 0 (M 54 0 v1.toNat).toNat xs2_347)) fun r425 => some r425) else (og ((0 : Int) ≤ 4 ∧ (4 : Int) < 5) <| og ((0 : Int) ≤ 4 ∧ (4 : Int) < 5) <| og ((0 : Int) ≤ wI ((M 54 0 v1.toNat).tdiv 4) ∧ (wI ((M 54 0 v1.toNat).tdiv 4) : Int) < 14) <| oj (fun (xs3_390 : Int) => og ((0 : Int) ≤ wI ((M 54 0 v1.toNat).tdiv 4) ∧ (wI ((M 54 0 v1.toNat).tdiv 4) : Int) < 14) <| some (gU (gU (gU (gU (gU (gU (gU (gU M_294 60 0 (M 54 0 v1.toNat).toNat 3) 61 0 (M 54 0 v1.toNat).toNat xs0_185) 62 0 (M 54 0 v1.toNat).toNat v1) 67 0 (wI ((M 54 0 v1.toNat).tdiv 4)).toNat ((gU (gU (gU M_294 60 0 (M 54 0 v1.toNat).toNat 3) 61 0 (M 54 0 v1.toNat).toNat xs0_185) 62 0 (M 54 0 v1.toNat).toNat v1) 56 0 v1.toNat)) 64 0 (M 54 0 v1.toNat).toNat xs2_347) 68 0 4 (wI (((gU (gU (gU (gU (gU M_294 60 0 (M 54 0 v1.toNat).toNat 3) 61 0 (M 54 0 v1.toNat).toNat xs0_185) 62 0 (M 54 0 v1.toNat).toNat v1) 67 0 (wI ((M 54 0 v1.toNat).tdiv 4)).toNat ((gU (gU (gU M_294 60 0 (M 54 0 v1.toNat).toNat 3) 61 0 (M 54 0 v1.toNat).toNat xs0_185) 62 0 (M 54 0 v1.toNat).toNat v1) 56 0 v1.toNat)) 64 0 (M 54 0 v1.toNat).toNat xs2_347) 68 0 4) + 1))) 66 0 (wI ((M 54 0 v1.toNat).tdiv 4)).toNat (wI (((gU (gU (gU (gU (gU (gU M_294 60 0 (M 54 0 v1.toNat).toNat 3) 61 0 (M 54 0 v1.toNat).toNat xs0_185) 62 0 (M 54 0 v1.toNat).toNat v1) 67 0 (wI ((M 54 0 v1.toNat).tdiv 4)).toNat ((gU (gU (gU M_294 60 0 (M 54 0 v1.toNat).toNat 3) 61 0 (M 54 0 v1.toNat).toNat xs0_185) 62 0 (M 54 0 v1.toNat).toNat v1) 56 0 v1.toNat)) 64 0 (M 54 0 v1.toNat).toNat xs2_347) 68 0 4 (wI (((gU (gU (gU (gU (gU M_294 60 0 (M 54 0 v1.toNat).toNat 3) 61 0 (M 54 0 v1.toNat).toNat xs0_185) 62 0 (M 54 0 v1.toNat).toNat v1) 67 0 (wI ((M 54 0 v1.toNat).tdiv 4)).toNat ((gU (gU (gU M_294 60 0 (M 54 0 v1.toNat).toNat 3) 61 0 (M 54 0 v1.toNat).toNat xs0_185) 62 0 (M 54 0 v1.toNat).toNat v1) 56 0 v1.toNat)) 64 0 (M 54 0 v1.toNat).toNat xs2_347) 68 0 4) + 1))) 66 0 (wI ((M 54 0 v1.toNat).tdiv 4)).toNat) + xs3_390))) 29 0 43 (gOr ((gU (gU (gU (gU (gU (gU (gU M_294 60 0 (M 54 0 v1.toNat).toNat 3) 61 0 (M 54 0 v1.toNat).toNat xs0_185) 62 0 (M 54 0 v1.toNat).toNat v1) 67 0 (wI ((M 54 0 v1.toNat).tdiv 4)).toNat ((gU (gU (gU M_294 60 0 (M 54 0 v1.toNat).toNat 3) 61 0 (M 54 0 v1.toNat).toNat xs0_185) 62 0 (M 54 0 v1.toNat).toNat v1) 56 0 v1.toNat)) 64 0 (M 54 0 v1.toNat).toNat xs2_347) 68 0 4 (wI (((gU (gU (gU (gU (gU M_294 60 0 (M 54 0 v1.toNat).toNat 3) 61 0 (M 54 0 v1.toNat).toNat xs0_185) 62 0 (M 54 0 v1.toNat).toNat v1) 67 0 (wI ((M 54 0 v1.toNat).tdiv 4)).toNat ((gU (gU (gU M_294 60 0 (M 54 0 v1.toNat).toNat 3) 61 0 (M 54 0 v1.toNat).toNat xs0_185) 62 0 (M 54 0 v1.toNat).toNat v1) 56 0 v1.toNat)) 64 0 (M 54 0 v1.toNat).toNat xs2_347) 68 0 4) + 1))) 66 0 (wI ((M 54 0 v1.toNat).tdiv 4)).toNat (wI (((gU (gU (gU (gU (gU (gU M_294 60 0 (M 54 0 v1.toNat).toNat 3) 61 0 (M 54 0 v1.toNat).toNat xs0_185) 62 0 (M 54 0 v1.toNat).toNat v1) 67 0 (wI ((M 54 0 v1.toNat).tdiv 4)).toNat ((gU (gU (gU M_294 60 0 (M 54 0 v1.toNat).toNat 3) 61 0 (M 54 0 v1.toNat).toNat xs0_185) 62 0 (M 54 0 v1.toNat).toNat v1) 56 0 v1.toNat)) 64 0 (M 54 0 v1.toNat).toNat xs2_347) 68 0 4 (wI (((gU (gU (gU (gU (gU M_294 60 0 (M 54 0 v1.toNat).toNat 3) 61 0 (M 54 0 v1.toNat).toNat xs0_185) 62 0 (M 54 0 v1.toNat).toNat v1) 67 0 (wI ((M 54 0 v1.toNat).tdiv 4)).toNat ((gU (gU (gU M_294 60 0 (M 54 0 v1.toNat).toNat 3) 61 0 (M 54 0 v1.toNat).toNat xs0_185) 62 0 (M 54 0 v1.toNat).toNat v1) 56 0 v1.toNat)) 64 0 (M 54 0 v1.toNat).toNat xs2_347) 68 0 4) + 1))) 66 0 (wI ((M 54 0 v1.toNat).tdiv 4)).toNat) + xs3_390))) 29 0 43) (gShl 1 (wI ((M 54 0 v1.toNat).tdiv 4)))))) fun k390 => if gAnd (gShr ((gU (gU (gU (gU (gU (gU M_294 60 0 (M 54 0 v1.toNat).toNat 3) 61 0 (M 54 0 v1.toNat).toNat xs0_185) 62 0 (M 54 0 v1.toNat).toNat v1) 67 0 (wI ((M 54 0 v1.toNat).tdiv 4)).toNat ((gU (gU (gU M_294 60 0 (M 54 0 v1.toNat).toNat 3) 61 0 (M 54 0 v1.toNat).toNat xs0_185) 62 0 (M 54 0 v1.toNat).toNat v1) 56 0 v1.toNat)) 64 0 (M 54 0 v1.toNat).toNat xs2_347) 68 0 4 (wI (((gU (gU (gU (gU (gU M_294 60 0 (M 54 0 v1.toNat).toNat 3) 61 0 (M 54 0 v1.toNat).toNat xs0_185) 62 0 (M 54 0 v1.toNat).toNat v1) 67 0 (wI ((M 54 0 v1.toNat).tdiv 4)).toNat ((gU (gU (gU M_294 60 0 (M 54 0 v1.toNat).toNat 3) 61 0 (M 54 0 v1.toNat).toNat xs0_185) 62 0 (M 54 0 v1.toNat).toNat v1) 56 0 v1.toNat)) 64 0 (M 54 0 v1.toNat).toNat xs2_347) 68 0 4) + 1))) 29 0 43) (wI ((M 54 0 v1.toNat).tdiv 4))) 1 = 0 then (k390 1) else (k390 0))) fun k347 => if 0 < (gU (gU (gU (gU M_294 60 0 (M 54 0 v1.toNat).toNat 3) 61 0 (M 54 0 v1.toNat).toNat xs0_185) 62 0 (M 54 0 v1.toNat).toNat v1) 67 0 (wI ((M 54 0 v1.toNat).tdiv 4)).toNat ((gU (gU (gU M_294 60 0 (M 54 0 v1.toNat).toNat 3) 61 0 (M 54 0 v1.toNat).toNat xs0_185) 62 0 (M 54 0 v1.toNat).toNat v1) 56 0 v1.toNat)) 63 0 (M 54 0 v1.toNat).toNat then (k347 1) else (k347 0)) fun k294 => if xs0_231 = 0 then (k294 M_59) else (og ((0 : Int) ≤ 3 ∧ (3 : Int) < 5) <| og ((0 : Int) ≤ 3 ∧ (3 : Int) < 5) <| og ((0 : Int) ≤ M 54 0 v1.toNat ∧ (M 54 0 v1.toNat : Int) < 56) <| og ((0 : Int) ≤ M 54 0 v1.toNat ∧ (M 54 0 v1.toNat : Int) < 56) <| og ((0 : Int) ≤ M 54 0 v1.toNat ∧ (M 54 0 v1.toNat : Int) < 56) <| if (gU (gU M_59 68 0 3 (wI ((M_59 68 0 3) + 1))) 63 0 (M 54 0 v1.toNat).toNat (wI (((gU M_59 68 0 3 (wI ((M_59 68 0 3) + 1))) 63 0 (M 54 0 v1.toNat).toNat) + 1))) 63 0 (M 54 0 v1.toNat).toNat < 3 then (og ((0 : Int) ≤ M 54 0 v1.toNat ∧ (M 54 0 v1.toNat : Int) < 56) <| some (gU (gU (gU M_59 68 0 3 (wI ((M_59 68 0 3) + 1))) 63 0 (M 54 0 v1.toNat).toNat (wI (((gU M_59 68 0 3 (wI ((M_59 68 0 3) + 1))) 63 0 (M 54 0 v1.toNat).toNat) + 1))) 60 0 (M 54 0 v1.toNat).toNat 1)) else (og ((0 : Int) ≤ wI ((M 54 0 v1.toNat).tdiv 4) ∧ (wI ((M 54 0 v1.toNat).tdiv 4) : Int) < 14) <| if (gU (gU M_59 68 0 3 (wI ((M_59 68 0 3) + 1))) 63 0 (M 54 0 v1.toNat).toNat (wI (((gU M_59 68 0 3 (wI ((M_59 68 0 3) + 1))) 63 0 (M 54 0 v1.toNat).toNat) + 1))) 66 0 (wI ((M 54 0 v1.toNat).tdiv 4)).toNat < 2 then (og ((0 : Int) ≤ M 54 0 v1.toNat ∧ (M 54 0 v1.toNat : Int) < 56) <| some (gU (gU (gU M_59 68 0 3 (wI ((M_59 68 0 3) + 1))) 63 0 (M 54 0 v1.toNat).toNat (wI (((gU M_59 68 0 3 (wI ((M_59 68 0 3) + 1))) 63 0 (M 54 0 v1.toNat).toNat) + 1))) 60 0 (M 54 0 v1.toNat).toNat 4)) else (k294 (gU (gU M_59 68 0 3 (wI ((M_59 68 0 3) + 1))) 63 0 (M 54 0 v1.toNat).toNat (wI (((gU M_59 68 0 3 (wI ((M_59 68 0 3) + 1))) 63 0 (M 54 0 v1.toNat).toNat) + 1))))))) fun k231 => oj (k231 0) fun k230 => if M_59 35 0 (wI ((M 54 0 v1.toNat).tdiv 4)).toNat = 2 then (oj (k231 1) fun k226 => if gRem xs0_185 4 = 0 then (k226) else (og ((0 : Int) ≤ M 54 0 v1.toNat ∧ (M 54 0 v1.toNat : Int) < 56) <| og ((0 : Int) ≤ wI ((M 54 0 v1.toNat).tdiv 4) ∧ (wI ((M 54 0 v1.toNat).tdiv 4) : Int) < 14) <| if gRem (wI ((wI (3 * (M_59 65 0 (M 54 0 v1.toNat).toNat))) + xs0_185)) 5 < M_59 40 0 (wI ((M 54 0 v1.toNat).tdiv 4)).toNat then (k226) else (k230))) else (k230)) fun k185 => if r67 = (-1) then (og ((0 : Int) ≤ v1 ∧ (v1 : Int) < 4) <| k185 (M_59 57 0 v1.toNat)) else (og ((0 : Int) ≤ v1 ∧ (v1 : Int) < 4) <| og ((0 : Int) ≤ v1 ∧ (v1 : Int) < 4) <| k185 ((f_X12_put (M_59 57 0 v1.toNat) (M_59 58 0 v1.toNat) M_59)))) else (og ((0 : Int) ≤ M 54 0 v1.toNat ∧ (M 54 0 v1.toNat : Int) < 56) <| some (gU M_59 60 0 (M 54 0 v1.toNat).toNat 4))) fun k133 => if r67 = (-1) then (k133) else (og ((0 : Int) ≤ r67 ∧ (r67 : Int) < 16) <| og ((0 : Int) ≤ v1 ∧ (v1 : Int) < 4) <| if M_59 30 0 r67.toNat = M_59 58 0 v1.toNat then (k133) else (k108))) else (k108)
theorem ends_EK (v1 : Int) (M : gM) : f_X12_ends v1 M = (og ((0 : Int) ≤ v1 ∧ (v1 : Int) < 4) <| og ((0 : Int) ≤ v1 ∧ (v1 : Int) < 4) <| og ((0 : Int) ≤ wI ((M 54 0 v1.toNat).tdiv 4) ∧ (wI ((M 54 0 v1.toNat).tdiv 4) : Int) < 14) <| og ((0 : Int) ≤ v1 ∧ (v1 : Int) < 4) <| ob (f_X12_workerAt (M 54 0 v1.toNat) (gU (gU M 54 0 v1.toNat ((-1))) 59 0 v1.toNat ((gU M 54 0 v1.toNat ((-1))) 36 0 (wI ((M 54 0 v1.toNat).tdiv 4)).toNat))) fun r32 => if r32 = (-1) then (EK v1 M (gU (gU M 54 0 v1.toNat ((-1))) 59 0 v1.toNat ((gU M 54 0 v1.toNat ((-1))) 36 0 (wI ((M 54 0 v1.toNat).tdiv 4)).toNat))) else (og ((0 : Int) ≤ r32 ∧ (r32 : Int) < 4) <| og ((0 : Int) ≤ r32 ∧ (r32 : Int) < 4) <| EK v1 M (gU (gU (gU (gU M 54 0 v1.toNat ((-1))) 59 0 v1.toNat ((gU M 54 0 v1.toNat ((-1))) 36 0 (wI ((M 54 0 v1.toNat).tdiv 4)).toNat)) 54 0 r32.toNat ((-1))) 59 0 r32.toNat ((-1))))) := rfl
theorem disC {A : gM} {a : Nat} : ∃ A' : gM, f_X2_dismissFrom a A = some A' ∧ But [11] A' A ∧ ∀ x j, (x < 4 ∧ gAct (A 11 x 3) = some a ∧ (j = 2 ∨ j = 3) → A' 11 x j = -1) ∧ (¬ (x < 4 ∧ gAct (A 11 x 3) = some a ∧ (j = 2 ∨ j = 3)) → A' 11 x j = A 11 x j) := by
  unfold f_X2_dismissFrom
  refine lp0 (F := fun m x i => f_X2_dismissFrom_L11 (fun (M_11_44 : gM) => some M_11_44) a 4 m i x) 4 (fun i M => But [11] M A ∧ ∀ x j, (x < i ∧ gAct (A 11 x 3) = some a ∧ (j = 2 ∨ j = 3) → M 11 x j = -1) ∧ (¬ (x < i ∧ gAct (A 11 x 3) = some a ∧ (j = 2 ∨ j = 3)) → M 11 x j = A 11 x j)) (fun r => ∃ A' : gM, r = some A' ∧ But [11] A' A ∧ ∀ x j, (x < 4 ∧ gAct (A 11 x 3) = some a ∧ (j = 2 ∨ j = 3) → A' 11 x j = -1) ∧ (¬ (x < 4 ∧ gAct (A 11 x 3) = some a ∧ (j = 2 ∨ j = 3)) → A' 11 x j = A 11 x j)) (by decide) A ⟨But_r, fun x j => ⟨fun q => absurd q.1 (Nat.not_lt_zero _), fun _ => rfl⟩⟩ (fun m i x hi hp => Or.inl ?_) (fun m x hp => ⟨x, ?_, hp⟩)
  · obtain ⟨p1, p2⟩ := hp
    have g4 : (0 : Int) ≤ (i : Int) ∧ (i : Int) < 4 := by omega
    have w1 : wI ((i : Int) + 1) = ((i + 1 : Nat) : Int) := wI_s (by omega)
    have x3 : x 11 i 3 = A 11 i 3 := (p2 i 3).2 (fun q => absurd q.1 (Nat.lt_irrefl _))
    show ∃ x', f_X2_dismissFrom_L11 _ a 4 (m + 1) (i : Int) x = f_X2_dismissFrom_L11 _ a 4 m ((i + 1 : Nat) : Int) x' ∧ _
    rw [f_X2_dismissFrom_L11, if_pos g4.2, og_t g4, Int.toNat_natCast, w1]
    dsimp only [oj]
    rw [x3]
    by_cases e : gAct (A 11 i 3) = some a
    · rw [if_pos e]
      unfold f_X10_rest
      refine ⟨_, rfl, But_u (But_u p1 rfl) rfl, fun y j => ⟨fun q => ?_, fun q => ?_⟩⟩
      · by_cases ey : y = i
        · rw [ey]
          rcases q.2.2 with j2 | j3
          · rw [j2, gU_s]
          · rw [j3, gU_k (by decide), gU_s]
        · rw [gU_ne (fun z => ey z.2.1), gU_ne (fun z => ey z.2.1)]
          exact (p2 y j).1 ⟨lt_ne q.1 ey, q.2⟩
      · have nj : ∀ k, k = 2 ∨ k = 3 → ¬ (11 = 11 ∧ y = i ∧ j = k) := fun k hk z => q ⟨by rw [z.2.1]; exact Nat.lt_succ_self i, by rw [z.2.1]; exact e, by rw [z.2.2]; exact hk⟩
        rw [gU_ne (nj 2 (Or.inl rfl)), gU_ne (nj 3 (Or.inr rfl))]
        exact (p2 y j).2 (fun z => q ⟨Nat.lt_succ_of_lt z.1, z.2⟩)
    · rw [if_neg e]
      refine ⟨x, rfl, p1, fun y j => ⟨fun q => ?_, fun q => ?_⟩⟩
      · by_cases ey : y = i
        · rw [ey] at q; exact absurd q.2.1 e
        · exact (p2 y j).1 ⟨lt_ne q.1 ey, q.2⟩
      · exact (p2 y j).2 (fun z => q ⟨Nat.lt_succ_of_lt z.1, z.2⟩)
  · show f_X2_dismissFrom_L11 _ a 4 (m + 1) ((4 : Nat) : Int) x = _
    rw [f_X2_dismissFrom_L11, if_neg (by decide)]
theorem wkM {B : gM} {a : Int} : (f_X12_workerAt a B = some (-1) ∧ ∀ v, v < 4 → B 54 0 v ≠ a) ∨ ∃ v : Nat, v < 4 ∧ f_X12_workerAt a B = some (v : Int) ∧ B 54 0 v = a := by
  unfold f_X12_workerAt
  refine lp0 (F := fun n (_ : Unit) i => f_X12_workerAt_L2 (some (-1)) a B n i) 4 (fun i _ => ∀ v, v < i → B 54 0 v ≠ a) (fun q => (q = some (-1) ∧ ∀ v, v < 4 → B 54 0 v ≠ a) ∨ ∃ v : Nat, v < 4 ∧ q = some (v : Int) ∧ B 54 0 v = a) (by decide) () (fun v q => absurd q (Nat.not_lt_zero _)) (fun m i _ hi hp => ?_) (fun m _ hp => Or.inl ⟨?_, hp⟩)
  · have g4 : (0 : Int) ≤ (i : Int) ∧ (i : Int) < 4 := by omega
    have w1 : wI ((i : Int) + 1) = ((i + 1 : Nat) : Int) := wI_s (by omega)
    have step : f_X12_workerAt_L2 (some (-1)) a B (m + 1) (i : Int) = if B 54 0 i = a then some (i : Int) else f_X12_workerAt_L2 (some (-1)) a B m ((i + 1 : Nat) : Int) := by
      rw [f_X12_workerAt_L2, if_pos g4.2, og_t g4, Int.toNat_natCast, w1]
    by_cases e : B 54 0 i = a
    · exact Or.inr (Or.inr ⟨i, hi, (show f_X12_workerAt_L2 (some (-1)) a B (m + 1) (i : Int) = _ by rw [step, if_pos e]), e⟩)
    · refine Or.inl ⟨(), (show f_X12_workerAt_L2 (some (-1)) a B (m + 1) (i : Int) = _ by rw [step, if_neg e]), fun v hv => ?_⟩
      by_cases q : v = i
      · rw [q]; exact e
      · exact hp v (lt_ne hv q)
  · show f_X12_workerAt_L2 (some (-1)) a B (m + 1) ((4 : Nat) : Int) = _
    rw [f_X12_workerAt_L2, if_neg (by decide)]
theorem at2 {B : gM} {a : Int} (h : W4 B) {w v x : Nat} (hw : w < 4) (hv : v < 4) (hx : x < 4) (e1 : B 54 0 w = a) (e2 : B 54 0 v = a) (e3 : B 54 0 x = a) (ha : a ≠ -1) (hn : w ≠ v) : x = w ∨ x = v := by
  have no : ∀ p q, p < 4 → q < 4 → 1 ≤ p → 1 ≤ q → p ≠ q → B 54 0 p = a → B 54 0 q = a → False := fun p q h1 h2 h3 h4 h5 h6 h7 => by
    rcases h p q h1 h2 h3 h4 h5 with z | z
    · exact ha (h6.symm.trans z)
    · exact z (h6.trans h7.symm)
  by_cases xw : x = w
  · exact Or.inl xw
  · by_cases xv : x = v
    · exact Or.inr xv
    · exfalso
      by_cases w0 : w = 0
      · exact no v x hv hx (by omega) (by omega) (fun z => xv z.symm) e2 e3
      · by_cases v0 : v = 0
        · exact no w x hw hx (by omega) (by omega) (fun z => xw z.symm) e1 e3
        · exact no w v hw hv (by omega) (by omega) hn e1 e2
/-- in the reference, the same -/
theorem freeM {B : gM} {n w t s : Nat} {l : Int} (h4 : W4 B) (hw : w < 4) (ht : t < 14) (hat : atA l B n w t s) : ∃ B2 : gM, f_X12_ends (w : Int) B = EK (w : Int) B B2 ∧ But [54, 59] B2 B ∧ (∀ x, B2 54 0 x = if x < 4 ∧ B 54 0 x = ((4 * t + s : Nat) : Int) then -1 else B 54 0 x) ∧ ∀ x, B2 59 0 x = if x < 4 ∧ B 54 0 x = ((4 * t + s : Nat) : Int) then (if x = w then B 36 0 t else -1) else B 59 0 x := by
  obtain ⟨e54, hs, -⟩ := hat
  have g4 : (0 : Int) ≤ (w : Int) ∧ (w : Int) < 4 := by omega
  have g14 : (0 : Int) ≤ (t : Int) ∧ (t : Int) < 14 := by omega
  have n1 : ((4 * t + s : Nat) : Int) ≠ -1 := by omega
  obtain ⟨d1, -⟩ := td4 ht hs
  have E := ends_EK (w : Int) B
  rw [Int.toNat_natCast, e54, d1, og_t g4, og_t g4, og_t g14, og_t g4, Int.toNat_natCast] at E
  have b54 : ∀ x, gU (gU B 54 0 w (-1)) 59 0 w (gU B 54 0 w (-1) 36 0 t) 54 0 x = if x = w then -1 else B 54 0 x := fun x => by
    rw [gU_r (by decide)]
    by_cases e : x = w
    · rw [if_pos e, e, gU_s]
    · rw [if_neg e, gU_k e]
  have b59 : ∀ x, gU (gU B 54 0 w (-1)) 59 0 w (gU B 54 0 w (-1) 36 0 t) 59 0 x = if x = w then B 36 0 t else B 59 0 x := fun x => by
    by_cases e : x = w
    · rw [if_pos e, e, gU_s, gU_r (by decide)]
    · rw [if_neg e, gU_k e, gU_r (by decide)]
  rcases wkM (B := gU (gU B 54 0 w (-1)) 59 0 w (gU B 54 0 w (-1) 36 0 t)) (a := ((4 * t + s : Nat) : Int)) with ⟨k1, k2⟩ | ⟨v, hv, k1, k2⟩
  · rw [k1, ob_s, if_pos rfl] at E
    have only : ∀ x, x < 4 → B 54 0 x = ((4 * t + s : Nat) : Int) → x = w := fun x hx ex => by
      by_cases e : x = w
      · exact e
      · exact absurd ((b54 x).trans ((if_neg e).trans ex)) (k2 x hx)
    refine ⟨_, E, But_u (But_u But_r rfl) rfl, fun x => ?_, fun x => ?_⟩
    · rw [b54]
      by_cases e : x = w
      · rw [if_pos e, if_pos ⟨by rw [e]; exact hw, by rw [e]; exact e54⟩]
      · rw [if_neg e, if_neg (fun z => e (only x z.1 z.2))]
    · rw [b59]
      by_cases e : x = w
      · rw [if_pos e, if_pos ⟨by rw [e]; exact hw, by rw [e]; exact e54⟩, if_pos e]
      · rw [if_neg e, if_neg (fun z => e (only x z.1 z.2))]
  · have gv : (0 : Int) ≤ (v : Int) ∧ (v : Int) < 4 := by omega
    have nv : ¬ (v : Int) = -1 := by omega
    rw [k1, ob_s, if_neg nv, og_t gv, og_t gv, Int.toNat_natCast] at E
    have vw : ¬ v = w := fun z => by rw [b54, if_pos z] at k2; exact n1 k2.symm
    have ev : B 54 0 v = ((4 * t + s : Nat) : Int) := by rw [← k2, b54, if_neg vw]
    have only : ∀ x, x < 4 → B 54 0 x = ((4 * t + s : Nat) : Int) → x = w ∨ x = v := fun x hx ex => at2 h4 hw hv hx e54 ev ex n1 (fun z => vw z.symm)
    refine ⟨_, E, But_u (But_u (But_u (But_u But_r rfl) rfl) rfl) rfl, fun x => ?_, fun x => ?_⟩
    · by_cases exv : x = v
      · rw [gU_r (by decide), exv, gU_s, if_pos ⟨hv, ev⟩]
      · rw [gU_r (by decide), gU_k exv, b54]
        by_cases e : x = w
        · rw [if_pos e, if_pos ⟨by rw [e]; exact hw, by rw [e]; exact e54⟩]
        · rw [if_neg e, if_neg (fun z => (only x z.1 z.2).elim e exv)]
    · by_cases exv : x = v
      · rw [exv, gU_s, if_pos ⟨hv, ev⟩, if_neg vw]
      · rw [gU_k exv, gU_r (by decide), b59]
        by_cases e : x = w
        · rw [if_pos e, if_pos ⟨by rw [e]; exact hw, by rw [e]; exact e54⟩, if_pos e]
        · rw [if_neg e, if_neg (fun z => (only x z.1 z.2).elim e exv)]
/-- in the class, the same -/
theorem freeC {A B : gM} {w t : Nat} {a : Nat} (h : W12 A B) (hw : w < 4) (e54 : B 54 0 w = (a : Int)) (h74 : A 7 t 4 = B 36 0 t) : ∃ A' : gM, f_X2_dismissFrom a A = some A' ∧ But [11] A' A ∧ (∀ j, A' 7 t j = A 7 t j) ∧ But [11] (f_X10_rest w (A' 7 t 4) A') A ∧ ∀ x j, f_X10_rest w (A' 7 t 4) A' 11 x j = if x < 4 ∧ B 54 0 x = (a : Int) ∧ (j = 2 ∨ j = 3) then (if x = w ∧ j = 2 then B 36 0 t else -1) else A 11 x j := by
  obtain ⟨A', d1, d2, d3⟩ := disC (A := A) (a := a)
  have d7 : ∀ j, A' 7 t j = A 7 t j := fun j => by rw [But_q d2 rfl]
  have e3 : ∀ x, gAct (A 11 x 3) = some a ↔ B 54 0 x = (a : Int) := fun x => by rw [(h.1 x).2.2.1]; exact gAct_iff _ _
  have k : ∀ x j, A' 11 x j = if x < 4 ∧ B 54 0 x = (a : Int) ∧ (j = 2 ∨ j = 3) then -1 else A 11 x j := fun x j => by
    by_cases q : x < 4 ∧ B 54 0 x = (a : Int) ∧ (j = 2 ∨ j = 3)
    · rw [if_pos q, (d3 x j).1 ⟨q.1, (e3 x).mpr q.2.1, q.2.2⟩]
    · rw [if_neg q, (d3 x j).2 (fun z => q ⟨z.1, (e3 x).mp z.2.1, z.2.2⟩)]
  refine ⟨A', d1, d2, d7, ?_, fun x j => ?_⟩
  · unfold f_X10_rest
    exact But_u (But_u d2 rfl) rfl
  · unfold f_X10_rest
    by_cases exw : x = w
    · rw [exw]
      by_cases j2 : j = 2
      · rw [j2, gU_s, d7, h74, if_pos ⟨hw, e54, Or.inl rfl⟩, if_pos ⟨rfl, rfl⟩]
      · rw [gU_k j2]
        by_cases j3 : j = 3
        · rw [j3, gU_s, if_pos ⟨hw, e54, Or.inr rfl⟩, if_neg (fun z => absurd z.2 (by decide))]
        · have nj : ¬ (w < 4 ∧ B 54 0 w = (a : Int) ∧ (j = 2 ∨ j = 3)) := fun z => z.2.2.elim j2 j3
          rw [gU_k j3, k, if_neg nj, if_neg nj]
    · rw [gU_ne (fun z => exw z.2.1), gU_ne (fun z => exw z.2.1), k]
      by_cases q : x < 4 ∧ B 54 0 x = (a : Int) ∧ (j = 2 ∨ j = 3)
      · rw [if_pos q, if_pos q, if_neg (fun z => exw z.1)]
      · rw [if_neg q, if_neg q]
