/-! ### the judgement: whether it fails -/
def failB (B : gM) (a : Nat) : gM := gU (taB B 3) 63 0 a (wI (B 63 0 a + 1))
def failA (A : gM) (a : Nat) : gM := gU (taA A 3) 9 a 7 (wI (A 9 a 7 + 1))
theorem failB_o {B : gM} {a : Nat} : But [63, 68] (failB B a) B := But_u (But_w taB_o rfl) rfl
theorem failA_o {A : gM} {a : Nat} : But [9, 24] (failA A a) A := But_u (But_w taA_o rfl) rfl
theorem FM_0 {v1 : Int} {M : gM} {r67 R : Int} {M_59 : gM} : FM v1 M r67 R M_59 0 = DM v1 M r67 R M_59 := by
  unfold FM
  dsimp only [oj]
  rw [if_pos rfl]
theorem FM_1 {B B2 : gM} {w t s : Nat} {r67 R : Int} (ht14 : t < 14) (hs : s < 4) (e54 : B 54 0 w = ((4 * t + s : Nat) : Int)) : FM (w : Int) B r67 R B2 1 = if failB B2 (4 * t + s) 63 0 (4 * t + s) < 3 then some (gU (failB B2 (4 * t + s)) 60 0 (4 * t + s) 1) else if B2 66 0 t < 2 then some (gU (failB B2 (4 * t + s)) 60 0 (4 * t + s) 4) else DM (w : Int) B r67 R (failB B2 (4 * t + s)) := by
  have g5 : (0 : Int) ≤ 3 ∧ (3 : Int) < 5 := by decide
  have g14 : (0 : Int) ≤ (t : Int) ∧ (t : Int) < 14 := by omega
  have gA : (0 : Int) ≤ ((4 * t + s : Nat) : Int) ∧ ((4 * t + s : Nat) : Int) < 56 := by omega
  obtain ⟨d1, -⟩ := td4 ht14 hs
  have ff : gU (gU B2 68 0 3 (wI (B2 68 0 3 + 1))) 63 0 (4 * t + s) (wI (gU B2 68 0 3 (wI (B2 68 0 3 + 1)) 63 0 (4 * t + s) + 1)) = failB B2 (4 * t + s) := by
    unfold failB taB
    rw [gU_r (by decide)]
  have f66 : failB B2 (4 * t + s) 66 = B2 66 := But_q failB_o rfl
  unfold FM
  dsimp only [oj]
  rw [if_neg ne10, Int.toNat_natCast, e54, d1, Int.toNat_natCast, Int.toNat_natCast, og_t g5, og_t g5, og_t gA, og_t gA, og_t gA, og_t gA, og_t g14, og_t gA, ff, f66]
/-- the class, once it is DONE or not -/
def K99 (t a w : Nat) (R : Int) (M_99 : gM) : Option gM := if M_99 9 a 2 = 3 then (if M_99 9 a 5 = 0 then (if M_99 9 a 2 = 3 then (ob (f_X1_keep (M_99 11 w 4) ((f_X8_fileFound t (M_99 11 w 4) M_99)) (M_99 11 w 5) R (M_99 11 w 0) M_99) fun r168 => some r168) else (some M_99)) else (some ((f_X8_noteFlakeIn t (((f_X2_tally 4 M_99)) 4 0 7) ((f_X2_tally 4 M_99)))))) else (if M_99 9 a 2 = 3 then (ob (f_X1_keep (M_99 11 w 4) ((f_X8_fileFound t (M_99 11 w 4) M_99)) (M_99 11 w 5) R (M_99 11 w 0) M_99) fun r168 => some r168) else (some M_99))
def DC (t a w : Nat) (R : Int) (M_38 : gM) : Option gM := ob (f_X2_finish t a R ((gU M_38 7 t 9 (M_38 11 w 7)) 11 w 0) (gU M_38 7 t 9 (M_38 11 w 7))) fun r96 => K99 t a w R r96
def JC (t a w : Nat) (R f : Int) (M_38 : gM) : Option gM := if f = 0 then (if f = 0 then DC t a w R M_38 else (if (f_X8_isInQuarantine t M_38) = 0 then (K99 t a w R (gU M_38 9 a 2 4)) else DC t a w R M_38)) else (if M_38 9 a 7 < 3 then (K99 t a w R (gU M_38 9 a 2 1)) else (if f = 0 then DC t a w R M_38 else (if (f_X8_isInQuarantine t M_38) = 0 then (K99 t a w R (gU M_38 9 a 2 4)) else DC t a w R M_38)))
theorem judge_JC (t a w : Nat) (M : gM) : f_X2_judge t a w M = (if (f_X8_failsAt t (M 9 a 6) ((f_X10_resultMade w M)) M) = 0 then JC t a w (f_X10_resultMade w M) (f_X8_failsAt t (M 9 a 6) ((f_X10_resultMade w M)) M) M else JC t a w (f_X10_resultMade w M) (f_X8_failsAt t (M 9 a 6) ((f_X10_resultMade w M)) M) (gU ((f_X2_tally 3 M)) 9 a 7 (wI ((((f_X2_tally 3 M)) 9 a 7) + 1)))) := rfl
theorem K99_no {t a w : Nat} {R : Int} {M : gM} (h : ¬ M 9 a 2 = 3) : K99 t a w R M = some M := by
  unfold K99
  rw [if_neg h, if_neg h]
theorem judgeC {A : gM} {t a w : Nat} {R f : Int} (hR : f_X10_resultMade w A = R) (hf : f_X8_failsAt t (A 9 a 6) R A = f) : (f = 0 → f_X2_judge t a w A = DC t a w R A) ∧ (f ≠ 0 → f_X2_judge t a w A = if failA A a 9 a 7 < 3 then some (gU (failA A a) 9 a 2 1) else if (if 1 < failA A a 7 t 11 then (1 : Int) else 0) = 0 then some (gU (failA A a) 9 a 2 4) else DC t a w R (failA A a)) := by
  have E := judge_JC t a w A
  have ff : gU (f_X2_tally 3 A) 9 a 7 (wI (f_X2_tally 3 A 9 a 7 + 1)) = failA A a := by
    rw [show f_X2_tally 3 A = taA A 3 from taC (k := 3) (by decide)]
    unfold failA
    rw [But_q taA_o rfl]
  rw [hR, hf, ff] at E
  unfold JC at E
  refine ⟨fun z => ?_, fun z => ?_⟩
  · rw [if_pos z, if_pos z, if_pos z] at E
    exact E
  · rw [if_neg z, if_neg z, if_neg z, K99_no (by rw [gU_s]; decide), K99_no (by rw [gU_s]; decide)] at E
    exact E
