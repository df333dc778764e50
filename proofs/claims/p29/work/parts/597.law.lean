/-! ## p29: the law, from the beginning -/
def gMI : gM := fun r i k => match r with
  | 4 => if k = 9 then 1 else 0
  | 7 => if k = 0 then (if i = 14 then -1 else ((i % 16 : Nat) : Int)) else if k = 9 then 5 else 0
  | 9 => if k = 0 then (if 56 ≤ i then -1 else (((i / 4) % 16 : Nat) : Int)) else if k = 1 then ((i % 4 : Nat) : Int) else if k = 2 then -1 else 0
  | 11 => if k = 0 then ((i % 4 : Nat) : Int) else if k = 1 then (if i = 0 then 1 else 0) else if k = 2 then -1 else if k = 3 then -1 else 0
  | 29 => if k = 19 then 1 else 0
  | 53 => if k = 0 then 1 else 0
  | 54 => -1
  | 59 => -1
  | 67 => -1
  | _ => 0
theorem z9 (x : Int) (h : 0 ≤ x) : (0 : Int) ≤ 0 ∧ (0 : Int) ≤ x := ⟨Int.le_refl _, h⟩
theorem Rel_ini : Rel 0 gMI gMI := by
  have no : ∀ t s, ¬ aOK gMI 0 t s := fun t s q => absurd q.1 (Nat.not_lt_zero _)
  refine ⟨0, ?_, ?_, ?_, ?_, ?_, ?_, ?_⟩
  · exact ⟨⟨0, by decide, rfl, rfl⟩, rfl, rfl, rfl, rfl, rfl, fun _ => z9 999 (by decide), fun _ => z9 9 (by decide), fun _ => z9 9 (by decide), fun _ => z9 15 (by decide), fun _ => z9 999 (by decide)⟩
  · refine ⟨by decide, rfl, rfl, ⟨0, by decide, rfl, rfl, fun k q => absurd q (Nat.not_lt_zero _)⟩, fun t ht => ?_, fun t => ⟨rfl, rfl, rfl, rfl, rfl, rfl⟩, fun t q => absurd q (Nat.not_lt_zero _)⟩
    show (if t = 14 then (-1 : Int) else ((t % 16 : Nat) : Int)) = (t : Int)
    rw [if_neg (by omega), Nat.mod_eq_of_lt (by omega)]
  · exact ⟨0, 0, by decide, by decide, Or.inl rfl, rfl, rfl, rfl, fun e q => absurd q (Nat.not_lt_zero _)⟩
  · exact ⟨rfl, rfl, Or.inr rfl, Or.inl rfl, rfl, rfl⟩
  · refine ⟨fun w => ⟨rfl, rfl, rfl, rfl, rfl, rfl, rfl⟩, fun w hw => ⟨?_, ⟨?_, ?_⟩, (⟨by decide, by decide⟩ : (-1 : Int) ≤ -1 ∧ (-1 : Int) ≤ 3), (⟨by decide, by decide⟩ : nmI 0)⟩, fun w _ => Or.inl rfl, fun w v _ _ _ _ _ => Or.inl rfl⟩
    · show ((w % 4 : Nat) : Int) = (w : Int)
      rw [Nat.mod_eq_of_lt hw]
    · show (0 : Int) ≤ if w = 0 then 1 else 0
      by_cases e : w = 0
      · rw [if_pos e]; decide
      · rw [if_neg e]; decide
    · show (if w = 0 then (1 : Int) else 0) ≤ 9
      by_cases e : w = 0
      · rw [if_pos e]; decide
      · rw [if_neg e]; decide
  · refine ⟨rfl, rfl, Or.inl rfl, ⟨0, by decide, rfl⟩, ⟨0, Nat.le_refl _, rfl, ⟨0, by decide, rfl⟩, fun t _ => ⟨Int.le_refl _, fun q => absurd q (by decide)⟩⟩, ⟨0, Nat.le_refl _, rfl, rfl, fun a => ⟨Int.le_refl _, Int.le_refl _⟩⟩, fun a => ⟨rfl, rfl, rfl, rfl, z9 100002 (by decide), z9 3 (by decide), (⟨by decide, by decide⟩ : nmI 0), Or.inl rfl⟩, fun t s ht hs => ⟨?_, ?_, fun q => absurd q.1 (no t s), fun _ => rfl⟩, fun t _ => ⟨rfl, (⟨by decide, by decide⟩ : (1 : Int) ≤ 5 ∧ (5 : Int) ≤ 50), rfl, (⟨by decide, by decide⟩ : nmI 0)⟩, fun t s _ q => absurd q (no t s), fun t s _ _ _ => rfl, fun t s _ q => absurd q (no t s)⟩
    · show (if 56 ≤ 4 * t + s then (-1 : Int) else ((((4 * t + s) / 4) % 16 : Nat) : Int)) = (t : Int)
      have n56 : ¬ 56 ≤ 4 * t + s := by omega
      have e : ((4 * t + s) / 4) % 16 = t := by omega
      rw [if_neg n56, e]
    · show (((4 * t + s) % 4 : Nat) : Int) = (s : Int)
      have e : (4 * t + s) % 4 = s := by omega
      rw [e]
  · exact ⟨fun _ t s _ q => absurd q (no t s), fun q => absurd q (by decide)⟩
theorem law_pure (xs : Nat → Int32) (L : Nat) : f_P_law xs L gMI = some () := by
  have h0 : IV 0 gMI gMI 0 0 := ⟨RA_n Rel_ini rfl, rfl, fun e q => absurd q (show ¬ ((e : Int) < 0) by omega), fun t q => absurd q (Nat.not_lt_zero _), by decide, fun u q => absurd q (Nat.not_lt_zero _)⟩
  obtain ⟨A', B', T', c', y1, y2, y3⟩ := L15_go (k308 := fun (y2_15_308 : Int) (y3_15_308 : Int) (M_15_308 : gM) => f_P_law_L311 (fun (y2_311_556 : Int) (M_311_556 : gM) => og (y2_311_556 = 1) <| some ()) xs L y3_15_308 10 y2_15_308 0 M_15_308) (xs := xs) (L := L) 6 0 0 0 gMI gMI rfl h0 rfl
  obtain ⟨A2, z⟩ := L311_go (k556 := fun (y2_311_556 : Int) (M_311_556 : gM) => og (y2_311_556 = 1) <| some ()) (xs := xs) (L := L) 9 0 c' A' B' rfl (show c' + 46 * 9 < 600 by omega) y3
  unfold f_P_law
  exact y2.trans (z.trans (og_t rfl))
