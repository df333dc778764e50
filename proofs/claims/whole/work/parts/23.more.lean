/-! ## more rows -/
def gArr (r n : Nat) : Prop := (∀ (G : gG) (i : Nat) (m0 : Nat → Int), gCell G r i m0 = .inl (G.2.2 0, n, .inl (fun k => iI (m0 k)))) ∧ (∀ k, gZ r k = false) ∧ n < 2147483648 ∧ r ≠ 11
theorem iI_nat (n : Nat) : Int32.ofNat n = iI (n : Int) := Int32.ofInt_eq_ofNat.symm
def om {β : Type} (o : Option Nat) (a : β) (b : Nat → β) : β := match o with
  | none => a
  | some x => b x
theorem om_n {β : Type} {a : β} {b : Nat → β} {r : β} (h : om none a b = r) : a = r := h
theorem om_s {β : Type} {a : β} {b : Nat → β} {x : Nat} {r : β} (h : om (some x) a b = r) : b x = r := h
theorem gAct_lt {x : Int} {a : Nat} (h : x < 60) (e : gAct x = some a) : a < 60 := by
  unfold gAct at e
  by_cases q : x < 0
  · rw [if_pos q] at e; cases e
  · rw [if_neg q] at e; cases e; omega
theorem gArr_12 : gArr 12 16 := ⟨fun _ _ _ => rfl, fun _ => rfl, by decide, by decide⟩
theorem gArr_13 : gArr 13 4 := ⟨fun _ _ _ => rfl, fun _ => rfl, by decide, by decide⟩
theorem gArr_14 : gArr 14 4 := ⟨fun _ _ _ => rfl, fun _ => rfl, by decide, by decide⟩
theorem gArr_15 : gArr 15 30 := ⟨fun _ _ _ => rfl, fun _ => rfl, by decide, by decide⟩
theorem gArr_16 : gArr 16 30 := ⟨fun _ _ _ => rfl, fun _ => rfl, by decide, by decide⟩
theorem gArr_17 : gArr 17 4 := ⟨fun _ _ _ => rfl, fun _ => rfl, by decide, by decide⟩
theorem gArr_18 : gArr 18 4 := ⟨fun _ _ _ => rfl, fun _ => rfl, by decide, by decide⟩
theorem gArr_19 : gArr 19 4 := ⟨fun _ _ _ => rfl, fun _ => rfl, by decide, by decide⟩
theorem gArr_20 : gArr 20 4 := ⟨fun _ _ _ => rfl, fun _ => rfl, by decide, by decide⟩
theorem gArr_21 : gArr 21 14 := ⟨fun _ _ _ => rfl, fun _ => rfl, by decide, by decide⟩
theorem gArr_22 : gArr 22 14 := ⟨fun _ _ _ => rfl, fun _ => rfl, by decide, by decide⟩
theorem gArr_23 : gArr 23 14 := ⟨fun _ _ _ => rfl, fun _ => rfl, by decide, by decide⟩
theorem gArr_24 : gArr 24 5 := ⟨fun _ _ _ => rfl, fun _ => rfl, by decide, by decide⟩
theorem gPutA (G : gG) (i : Nat) (m0 : Nat → Int) (a : Nat) : gCell G 11 i (g1 m0 3 (a : Int)) = .inr (10, ([.int (iI (m0 0)), .int (iI (m0 1)), .int (iI (m0 2)), va_re (gAd G 9) (gAct (m0 3)), .int (iI (m0 4)), .int (iI (m0 5)), .int (iI (m0 6)), .int (iI (m0 7))] : List Value).set 3 (.ref (gAd G 9 a))) := by
  have h : va_re (gAd G 9) (gAct (a : Int)) = .ref (gAd G 9 a) := by
    rw [gAct_nat]; rfl
  show (Sum.inr (10, [.int (iI (m0 0)), .int (iI (m0 1)), .int (iI (m0 2)), va_re (gAd G 9) (gAct (a : Int)), .int (iI (m0 4)), .int (iI (m0 5)), .int (iI (m0 6)), .int (iI (m0 7))]) : va_E) = _
  rw [h]; rfl
