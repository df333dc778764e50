/-! ### the cache: entries by their places -/
theorem xor40 : ∀ x : Fin 80, ¬ gXor ((x : Nat) : Int) 40 < 0 := by decide
theorem fMod {x : Nat} (h : x < 80) (M : gM) : f_J9_floorMod_7cf53 (x : Int) 40 M = some ((x % 40 : Nat) : Int) := by
  unfold f_J9_floorMod_7cf53
  rw [og_t (by decide), if_neg (xor40 ⟨x, h⟩), show (40 : Int) = ((40 : Nat) : Int) from rfl, gRem_n (by omega) (by decide) (by decide)]
theorem eAt {A : gM} {z f v : Nat} (h1 : A 3 0 1 = (f : Int)) (h2 : A 3 0 2 = (z : Int)) (hf : f < 40) (hz : z ≤ 40) (hv : v < z) : f_X1_entryAt (v : Int) A = some (some ((f + v) % 40)) := by
  unfold f_X1_entryAt
  rw [if_neg (by omega), if_pos (by rw [h2]; omega), h1, show ((f : Int) + (v : Int)) = ((f + v : Nat) : Int) from rfl, wI_n (by omega), fMod (by omega), ob_s, og_t ⟨by omega, by have := Nat.mod_lt (f + v) (show 0 < 40 by decide); omega⟩]
  rfl
theorem eAt_no {A : gM} {z : Nat} {v : Int} (h2 : A 3 0 2 = (z : Int)) (hv : ¬ (0 ≤ v ∧ v < (z : Int))) : f_X1_entryAt v A = some none := by
  unfold f_X1_entryAt
  by_cases h : v < 0
  · rw [if_pos h]
  · rw [if_neg h, if_neg (by rw [h2]; omega)]
theorem om_none {β : Type} (a : β) (b : Nat → β) : om none a b = a := rfl
theorem om_some {β : Type} (x : Nat) (a : β) (b : Nat → β) : om (some x) a b = b x := rfl
