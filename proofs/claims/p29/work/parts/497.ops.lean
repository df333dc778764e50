theorem ring_ne {f e v : Nat} (hf : f < 40) (he : e < 40) (hv : v < 40) (h : e ≠ v) : (f + e) % 40 ≠ (f + v) % 40 := by omega
/-- a call without an answer -/
def SimV (R R2 : gM → gM → Prop) (fL : gM → Option (Int × gM)) (fM : gM → Option gM) : Prop := ∀ A B, R A B → ∃ r A' B', fL A = some (r, A') ∧ fM B = some B' ∧ B' 29 0 0 = r ∧ R2 A' B' ∧ (∀ q, 29 ≤ q → q ≠ 75 → A' q = A q) ∧ ∀ q, q < 29 ∨ q = 75 → B' q = B q
theorem SimV_law {R R2 : gM → gM → Prop} {fL : gM → Option (Int × gM)} {fM : gM → Option gM} (h : SimV R R2 fL fM) (h1 : Two R) (h2 : Two R2) {M : gM} (hI : R M M) : ∃ r M1 M2, fL M = some (r, M1) ∧ fM M1 = some M2 ∧ M2 29 0 0 = r ∧ R2 M2 M2 := by
  obtain ⟨r, M1, B0, a1, -, -, -, a2, -⟩ := h M M hI
  obtain ⟨r3, M3, M2, b1, b2, b3, b5, -, b6⟩ := h M M1 (h1 M M M M1 (fun q _ => rfl) a2 hI)
  rw [a1] at b1
  cases b1
  exact ⟨r, M1, M2, a1, b2, b3, h2 M1 M2 M2 M2 (fun q hq => b6 q (Or.inl hq)) (fun q _ _ => rfl) b5⟩
