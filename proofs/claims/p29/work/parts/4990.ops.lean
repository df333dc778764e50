/-! ### targets and actions by their numbers -/
theorem tAt {A : gM} {n t : Nat} (h : A 2 0 5 = (n : Int)) (hn : n ≤ 14) (ht : t < n) : f_X5_targetAt (t : Int) A = t := by
  unfold f_X5_targetAt
  rw [if_neg (by omega), if_pos (by rw [h]; omega), if_pos (by omega)]
  rfl
theorem tAt_no {A : gM} {n : Nat} {v : Int} (h : A 2 0 5 = (n : Int)) (hv : ¬ (0 ≤ v ∧ v < (n : Int))) : f_X5_targetAt v A = 14 := by
  unfold f_X5_targetAt
  by_cases q : v < 0
  · rw [if_pos q]
  · rw [if_neg q, if_neg (by rw [h]; omega)]
theorem aAt {A : gM} {t s : Nat} (hs : s < 4) : f_X8_actionAt t (s : Int) A = 4 * t + s := by
  show (if (s : Int) < 0 then 4 * t + 0 else if (s : Int) < 4 then 4 * t + (s : Int).toNat else 4 * t + 0) = 4 * t + s
  rw [if_neg (by omega), if_pos (by omega)]
  rfl
theorem isT {B : gM} {n : Nat} (h : B 29 0 7 = (n : Int)) (hn : n ≤ 14) (v : Int) : f_X12_isTarget v B = if 0 ≤ v ∧ v < (n : Int) then 1 else 0 := by
  unfold f_X12_isTarget
  rw [inn, h, wI_m (by omega)]
  by_cases q : 0 ≤ v ∧ v < (n : Int)
  · rw [if_pos q, if_pos (by omega)]
  · rw [if_neg q, if_neg (by omega)]
theorem cTar {A : gM} {n : Nat} (h : A 2 0 5 = (n : Int)) (v : Int) : f_X11_checkTarget v A = if 0 ≤ v ∧ v < (n : Int) then some (Sum.inr ()) else some (Sum.inl 2) := by
  unfold f_X11_checkTarget
  rw [isB, h]
  by_cases q : 0 ≤ v ∧ v < (n : Int)
  · rw [if_pos q, if_pos q, if_neg (by decide)]
  · rw [if_neg q, if_neg q, if_pos rfl]
theorem isN (B : gM) (t : Nat) : f_X12_isNeeded (t : Int) B = if gAnd (gShr (B 29 0 37) (t : Int)) 1 = 1 then 1 else 0 := rfl
theorem w4 {t s : Nat} (ht : t < 100) (hs : s < 100) : wI (wI (4 * (t : Int)) + (s : Int)) = ((4 * t + s : Nat) : Int) := by
  rw [show (4 * (t : Int)) = ((4 * t : Nat) : Int) by omega, wI_n (by omega), show (((4 * t : Nat) : Int) + (s : Int)) = ((4 * t + s : Nat) : Int) by omega, wI_n (by omega)]
