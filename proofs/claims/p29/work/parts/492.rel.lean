/-- what an input of a target is by the settings of now -/
def chB (B : gM) (p k : Nat) : Int := if B 43 0 (4 * p + k) = -1 ∨ B 31 0 (B 44 0 (4 * p + k)).toNat = B 45 0 (4 * p + k) then B 42 0 (4 * p + k) else B 43 0 (4 * p + k)
/-- u is a target that t takes in now -/
def isI (B : gM) (t u : Nat) : Prop := ∃ k : Nat, (k : Int) < B 41 0 t ∧ chB B t k = 16 + (u : Int)
def pls (x y : Int) : Int := gRem (wI (wI (wI (31 * x) + y) + 1)) 100003
/-- the digest of a target by the results of the build -/
def dgS (B : gM) (t : Nat) : Int := itr (fun s x => pls x (B 61 0 (4 * t + s))) (B 38 0 t).toNat 0 7
/-- the build: c calls were made so far -/
def RB (A B : gM) (n c : Nat) : Prop := A 4 0 6 = B 29 0 37 ∧ A 4 0 8 = B 29 0 36 ∧ (B 29 0 36 = 0 ∨ B 29 0 36 = 1 ∧ 1 ≤ A 4 0 7) ∧ (∃ r : Nat, r < 2 ^ n ∧ B 29 0 37 = (r : Int)) ∧
  (∃ b : Nat, b ≤ c ∧ A 4 0 7 = (b : Int) ∧ (∃ f : Nat, f < 16384 ∧ B 29 0 43 = (f : Int)) ∧ ∀ t, t < 14 → A 7 t 12 ≤ (b : Int) ∧ (1 ≤ b → (A 7 t 12 = (b : Int) ↔ gAnd (gShr (B 29 0 43) (t : Int)) 1 = 1))) ∧
  (∃ w : Nat, w ≤ 50 * c ∧ A 0 0 5 = (w : Int) ∧ B 29 0 48 = (w : Int) ∧ ∀ a, 0 ≤ B 65 0 a ∧ B 65 0 a ≤ 200 * (c : Int)) ∧
  (∀ a, A 9 a 3 = B 61 0 a ∧ A 9 a 4 = B 62 0 a ∧ A 9 a 6 = B 65 0 a ∧ A 9 a 7 = B 63 0 a ∧ (0 ≤ B 61 0 a ∧ B 61 0 a ≤ 100002) ∧ (0 ≤ B 62 0 a ∧ B 62 0 a ≤ 3) ∧ (-2147483648 ≤ B 63 0 a ∧ B 63 0 a ≤ 2147483647) ∧ (B 64 0 a = 0 ∨ B 64 0 a = 1)) ∧
  (∀ t s, t < 14 → s < 4 → A 9 (4 * t + s) 0 = (t : Int) ∧ A 9 (4 * t + s) 1 = (s : Int) ∧ (aOK B n t s ∧ ndd B t → A 9 (4 * t + s) 2 = B 60 0 (4 * t + s) ∧ (0 ≤ B 60 0 (4 * t + s) ∧ B 60 0 (4 * t + s) ≤ 5) ∧ (B 60 0 (4 * t + s) = 3 → A 9 (4 * t + s) 5 = B 64 0 (4 * t + s))) ∧ (¬ (aOK B n t s ∧ ndd B t) → A 9 (4 * t + s) 2 = -1)) ∧
  (∀ t, t < 14 → A 7 t 9 = (if B 67 0 t = -1 then 5 else B 67 0 t) ∧ (1 ≤ A 7 t 9 ∧ A 7 t 9 ≤ 50) ∧ A 7 t 11 = B 66 0 t ∧ nmI (B 66 0 t)) ∧
  (∀ t s, s < 4 → aOK B n t s → ndd B t → B 60 0 (4 * t + s) = 3 → A 23 0 t = dgS B t) ∧
  (∀ t s, t < 14 → s < 4 → ¬ aOK B n t s → B 63 0 (4 * t + s) = 0) ∧
  ∀ t s, s < 4 → aOK B n t s → ndd B t → (B 60 0 (4 * t + s) = 0 → B 63 0 (4 * t + s) = 0) ∧ (B 60 0 (4 * t + s) ≠ 3 → B 64 0 (4 * t + s) = 0)
/-- while a build goes on, and when it has ended -/
def RG (B : gM) (n : Nat) : Prop := (B 29 0 36 = 0 → ∀ t s, s < 4 → aOK B n t s → ndd B t → 3 ≤ B 60 0 (4 * t + s)) ∧ (B 29 0 36 = 1 → (∃ t s, s < 4 ∧ aOK B n t s ∧ ndd B t ∧ B 60 0 (4 * t + s) < 3) ∧
  (∀ t u, t < n → ndd B t → isI B t u → ndd B u) ∧
  (∀ t s, s < 4 → aOK B n t s → ndd B t → (B 60 0 (4 * t + s) = 1 ∨ B 60 0 (4 * t + s) = 2) → ∀ u, isI B t u → ∀ v, v < 4 → aOK B n u v → B 60 0 (4 * u + v) = 3) ∧
  (∀ t s, s < 4 → aOK B n t s → ndd B t → B 60 0 (4 * t + s) = 0 → ∃ u v, isI B t u ∧ v < 4 ∧ aOK B n u v ∧ B 60 0 (4 * u + v) < 3) ∧
  (∀ t s, s < 4 → aOK B n t s → ndd B t → B 60 0 (4 * t + s) = 2 → ∃ w, w < 4 ∧ B 54 0 w = ((4 * t + s : Nat) : Int)))
/-- all that holds between two calls, c of them made -/
def Rel (c : Nat) (A B : gM) : Prop := ∃ n : Nat, RS A B ∧ RT A B n ∧ RC A B ∧ RO A B ∧ RW A B n ∧ RB A B n c ∧ RG B n
theorem RB_two {n c : Nat} : Two (fun A B => RB A B n c) := fun A B A' B' hA hB h => by
  show RB A' B' n c
  have h : RB A B n c := h
  unfold RB aOK ndd dgS at h ⊢
  simp only [hA 0 (by decide), hA 4 (by decide), hA 7 (by decide), hA 9 (by decide), hA 23 (by decide), hB 29 (by decide) (by decide), hB 38 (by decide) (by decide), hB 60 (by decide) (by decide), hB 61 (by decide) (by decide), hB 62 (by decide) (by decide), hB 63 (by decide) (by decide), hB 64 (by decide) (by decide), hB 65 (by decide) (by decide), hB 66 (by decide) (by decide), hB 67 (by decide) (by decide)]
  exact h
theorem RG_two {n : Nat} {B B' : gM} (hB : ∀ q, 29 ≤ q → q ≠ 75 → B' q = B q) (h : RG B n) : RG B' n := by
  unfold RG aOK ndd isI chB at h ⊢
  simp only [hB 29 (by decide) (by decide), hB 31 (by decide) (by decide), hB 38 (by decide) (by decide), hB 41 (by decide) (by decide), hB 42 (by decide) (by decide), hB 43 (by decide) (by decide), hB 44 (by decide) (by decide), hB 45 (by decide) (by decide), hB 54 (by decide) (by decide), hB 60 (by decide) (by decide)]
  exact h
theorem Rel_two {c : Nat} : Two (Rel c) := fun A B A' B' hA hB h => by
  obtain ⟨n, h1, h2, h3, h4, h5, h6, h7⟩ := h
  exact ⟨n, RS_two A B A' B' hA hB h1, RT_two A B A' B' hA hB h2, RC_two A B A' B' hA hB h3, RO_two A B A' B' hA hB h4, RW_two A B A' B' hA hB h5, RB_two A B A' B' hA hB h6, RG_two hB h7⟩
theorem RB_up {A B : gM} {n c : Nat} (h : RB A B n c) : RB A B n (c + 1) := by
  obtain ⟨h1, h2, h3, h4, ⟨b, hb, hb2⟩, ⟨w, hw, hw2⟩, h7⟩ := h
  exact ⟨h1, h2, h3, h4, ⟨b, by omega, hb2⟩, ⟨w, by omega, hw2.1, hw2.2.1, fun a => ⟨(hw2.2.2 a).1, by have := (hw2.2.2 a).2; omega⟩⟩, h7⟩
theorem Rel_up {c : Nat} {A B : gM} (h : Rel c A B) : Rel (c + 1) A B := by
  obtain ⟨n, h1, h2, h3, h4, h5, h6, h7⟩ := h
  exact ⟨n, h1, h2, h3, h4, h5, RB_up h6, h7⟩
/-- the reference's word on what it threw is in no relation -/
theorem Rel_thr {c : Nat} {A B : gM} (v : Int) (h : Rel c A B) : Rel c A (gU B 29 0 0 v) := by
  obtain ⟨n, h1, h2, h3, h4, h5, h6, h7⟩ := h
  refine ⟨n, ?_, ?_, ?_, ?_, ?_, ?_, ?_⟩
  · unfold RS at h1 ⊢
    simp (disch := decide) only [gU_r, gU_k]
    exact h1
  · unfold RT RI RD at h2 ⊢
    simp (disch := decide) only [gU_r, gU_k]
    exact h2
  · unfold RC RE at h3 ⊢
    simp (disch := decide) only [gU_r, gU_k]
    exact h3
  · unfold RO at h4 ⊢
    simp (disch := decide) only [gU_r, gU_k]
    exact h4
  · unfold RW aOK ndd at h5 ⊢
    simp (disch := decide) only [gU_r, gU_k]
    exact h5
  · unfold RB aOK ndd dgS at h6 ⊢
    simp (disch := decide) only [gU_r, gU_k]
    exact h6
  · unfold RG aOK ndd isI chB at h7 ⊢
    simp (disch := decide) only [gU_r, gU_k]
    exact h7
theorem Rel_out {c : Nat} {A B : gM} (v : Int) (h : Rel c A B) : Rel c (gU A 75 0 0 v) B := Rel_two A B _ B (fun q hq => gU_r (by omega)) (fun q _ _ => rfl) h
