/-! ### DONE, in the reference -/
def S5 (M : gM) (t a : Nat) (R : Int) (w : Nat) (x : Int) : gM := gU (gU (gU (gU (gU M 60 0 a 3) 61 0 a R) 62 0 a (w : Int)) 67 0 t (M 56 0 w)) 64 0 a x
theorem S5_o {M : gM} {t a : Nat} {R : Int} {w : Nat} {x : Int} : But [60, 61, 62, 64, 67] (S5 M t a R w x) M := But_u (But_u (But_u (But_u (But_u But_r rfl) rfl) rfl) rfl) rfl
theorem S5_64 {M : gM} {t a : Nat} {R : Int} {w : Nat} {x : Int} : S5 M t a R w x 64 0 a = x := gU_s _ _ _ _ _
theorem DM_eq {B B3 : gM} {w t s : Nat} {r67 R : Int} (ht14 : t < 14) (hs : s < 4) (hw : w < 4) (e54 : B 54 0 w = ((4 * t + s : Nat) : Int)) : DM (w : Int) B r67 R B3 = if 0 < B3 63 0 (4 * t + s) then some (flB (taB (S5 B3 t (4 * t + s) R w 1) 4) t) else f_X12_keep (B3 57 0 w) r67 (B3 58 0 w) R (w : Int) (S5 B3 t (4 * t + s) R w 0) := by
  have g4 : (0 : Int) ≤ (w : Int) ∧ (w : Int) < 4 := by omega
  have g5 : (0 : Int) ≤ 4 ∧ (4 : Int) < 5 := by decide
  have g14 : (0 : Int) ≤ (t : Int) ∧ (t : Int) < 14 := by omega
  have gA : (0 : Int) ≤ ((4 * t + s : Nat) : Int) ∧ ((4 * t + s : Nat) : Int) < 56 := by omega
  obtain ⟨d1, -⟩ := td4 ht14 hs
  have r56 : gU (gU (gU B3 60 0 (4 * t + s) 3) 61 0 (4 * t + s) R) 62 0 (4 * t + s) (w : Int) 56 = B3 56 := by rw [gU_r (by decide), gU_r (by decide), gU_r (by decide)]
  have r63 : gU (gU (gU (gU B3 60 0 (4 * t + s) 3) 61 0 (4 * t + s) R) 62 0 (4 * t + s) (w : Int)) 67 0 t (B3 56 0 w) 63 = B3 63 := by rw [gU_r (by decide), gU_r (by decide), gU_r (by decide), gU_r (by decide)]
  have fold : ∀ x : Int, gU (gU (gU (gU (gU B3 60 0 (4 * t + s) 3) 61 0 (4 * t + s) R) 62 0 (4 * t + s) (w : Int)) 67 0 t (B3 56 0 w)) 64 0 (4 * t + s) x = S5 B3 t (4 * t + s) R w x := fun _ => rfl
  have r57 : ∀ x : Int, S5 B3 t (4 * t + s) R w x 57 = B3 57 := fun x => But_q S5_o rfl
  have r58 : ∀ x : Int, S5 B3 t (4 * t + s) R w x 58 = B3 58 := fun x => But_q S5_o rfl
  unfold DM
  dsimp only [oj]
  rw [Int.toNat_natCast, e54, d1, Int.toNat_natCast, Int.toNat_natCast, og_t gA, og_t gA, og_t gA, og_t g4, og_t g14, og_t gA, r56, r63, fold, fold, og_t gA, og_t gA, og_t gA, og_t gA, S5_64, S5_64, if_neg ne10, if_pos rfl, og_t g4, og_t g4, og_t g5, og_t g5, og_t g14, og_t g14, og_t g14, r57, r58, ob_r]
  by_cases q : 0 < B3 63 0 (4 * t + s)
  · rw [if_pos q, if_pos q]
    unfold flB
    rw [show gU (S5 B3 t (4 * t + s) R w 1) 68 0 4 (wI (S5 B3 t (4 * t + s) R w 1 68 0 4 + 1)) = taB (S5 B3 t (4 * t + s) R w 1) 4 from rfl]
    by_cases y : gAnd (gShr (taB (S5 B3 t (4 * t + s) R w 1) 4 29 0 43) (t : Int)) 1 = 0
    · rw [if_pos y, if_pos y, gU_r (by decide)]
    · rw [if_neg y, if_neg y, gU_r (by decide)]
  · rw [if_neg q, if_neg q]
