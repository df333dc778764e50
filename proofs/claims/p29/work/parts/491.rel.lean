/-! ## Level 2: how the class's memory A and the reference's memory B belong together -/
/-- the sources -/
def RS (A B : gM) : Prop := (∃ z : Nat, z ≤ 30 ∧ A 1 0 5 = (z : Int) ∧ B 29 0 4 = (z : Int)) ∧ A 12 0 = B 30 0 ∧ A 13 0 = B 31 0 ∧ A 14 0 = B 32 0 ∧ A 15 0 = B 33 0 ∧ A 16 0 = B 34 0 ∧ (∀ k, 0 ≤ B 30 0 k ∧ B 30 0 k ≤ 999) ∧ (∀ k, 0 ≤ B 31 0 k ∧ B 31 0 k ≤ 9) ∧ (∀ k, 0 ≤ B 32 0 k ∧ B 32 0 k ≤ 9) ∧ (∀ k, 0 ≤ B 33 0 k ∧ B 33 0 k ≤ 15) ∧ ∀ k, 0 ≤ B 34 0 k ∧ B 34 0 k ≤ 999
/-- a row of inputs: number i of the class, p of the reference; its things are below 16 + n -/
def RI (A B : gM) (i p n : Nat) : Prop := ∃ z : Nat, z ≤ 4 ∧ A 8 i 5 = (z : Int) ∧ B 41 0 p = (z : Int) ∧ ∀ k, k < z → A 17 i k = B 42 0 (4 * p + k) ∧ A 18 i k = B 43 0 (4 * p + k) ∧ A 19 i k = B 44 0 (4 * p + k) ∧ A 20 i k = B 45 0 (4 * p + k) ∧ (0 ≤ B 42 0 (4 * p + k) ∧ B 42 0 (4 * p + k) < 16 + (n : Int)) ∧ (-1 ≤ B 43 0 (4 * p + k) ∧ B 43 0 (4 * p + k) < 16 + (n : Int)) ∧ (0 ≤ B 44 0 (4 * p + k) ∧ B 44 0 (4 * p + k) ≤ 3) ∧ (0 ≤ B 45 0 (4 * p + k) ∧ B 45 0 (4 * p + k) ≤ 9)
/-- what was told of a target -/
def RD (B : gM) (t : Nat) : Prop := (0 ≤ B 35 0 t ∧ B 35 0 t ≤ 2) ∧ (0 ≤ B 36 0 t ∧ B 36 0 t ≤ 3) ∧ (0 ≤ B 37 0 t ∧ B 37 0 t ≤ 9) ∧ (1 ≤ B 38 0 t ∧ B 38 0 t ≤ 4) ∧ (-1 ≤ B 39 0 t ∧ B 39 0 t ≤ 65535) ∧ (0 ≤ B 40 0 t ∧ B 40 0 t ≤ 3) ∧ (B 35 0 t ≠ 2 → B 40 0 t = 0)
/-- the targets, n of them told -/
def RT (A B : gM) (n : Nat) : Prop := n ≤ 14 ∧ A 2 0 5 = (n : Int) ∧ B 29 0 7 = (n : Int) ∧ RI A B 15 14 n ∧ (∀ t, t < 14 → A 7 t 0 = (t : Int)) ∧ (∀ t, A 7 t 3 = B 35 0 t ∧ A 7 t 4 = B 36 0 t ∧ A 7 t 5 = B 37 0 t ∧ A 7 t 6 = B 38 0 t ∧ A 7 t 7 = B 39 0 t ∧ A 7 t 8 = B 40 0 t) ∧ ∀ t, t < n → RI A B t t t ∧ RD B t
/-- an entry: place p of the class's ring, e of the reference's rows -/
def RE (A B : gM) (p e : Nat) : Prop := A 10 p 0 = B 46 0 e ∧ A 10 p 1 = B 47 0 e ∧ A 10 p 2 = B 48 0 e ∧ A 10 p 3 = B 49 0 e ∧ A 10 p 4 = B 50 0 e ∧ A 10 p 5 = B 51 0 e ∧ (B 52 0 e = 0 ∧ A 10 p 6 = 1 ∨ B 52 0 e = 1 ∧ A 10 p 6 = 0) ∧ (0 ≤ B 46 0 e ∧ B 46 0 e ≤ 100002) ∧ (0 ≤ B 49 0 e ∧ B 49 0 e ≤ 100002) ∧ (0 ≤ B 50 0 e ∧ B 50 0 e ≤ 3)
/-- the cache: z entries, the first at place f of the ring -/
def RC (A B : gM) : Prop := ∃ z f : Nat, z ≤ 40 ∧ f < 40 ∧ (f = 0 ∨ z = 40) ∧ A 3 0 1 = (f : Int) ∧ A 3 0 2 = (z : Int) ∧ B 29 0 21 = (z : Int) ∧ ∀ e, e < z → RE A B ((f + e) % 40) e
/-- ways, counts and looks -/
def RO (A B : gM) : Prop := A 4 0 9 = B 29 0 19 ∧ A 4 0 10 = B 29 0 20 ∧ (B 29 0 19 = 0 ∨ B 29 0 19 = 1) ∧ (B 29 0 20 = 0 ∨ B 29 0 20 = 1) ∧ A 24 0 = B 68 0 ∧ A 0 0 6 = B 29 0 49
/-- a target is needed by the build -/
def ndd (B : gM) (t : Nat) : Prop := gAnd (gShr (B 29 0 37) (t : Int)) 1 = 1
/-- an action of a target that was told -/
def aOK (B : gM) (n t s : Nat) : Prop := t < n ∧ (s : Int) < B 38 0 t
/-- the workers -/
def RW (A B : gM) (n : Nat) : Prop := (∀ w, A 11 w 1 = B 53 0 w ∧ A 11 w 2 = B 59 0 w ∧ A 11 w 3 = B 54 0 w ∧ A 11 w 4 = B 57 0 w ∧ A 11 w 5 = B 58 0 w ∧ A 11 w 6 = B 55 0 w ∧ A 11 w 7 = B 56 0 w) ∧ (∀ w, w < 4 → A 11 w 0 = (w : Int) ∧ (0 ≤ B 53 0 w ∧ B 53 0 w ≤ 9) ∧ (-1 ≤ B 59 0 w ∧ B 59 0 w ≤ 3) ∧ nmI (B 55 0 w)) ∧
  (∀ w, w < 4 → B 54 0 w = -1 ∨ ∃ t s : Nat, B 54 0 w = ((4 * t + s : Nat) : Int) ∧ s < 4 ∧ aOK B n t s ∧ ndd B t ∧ B 60 0 (4 * t + s) = 2 ∧ 1 ≤ B 55 0 w ∧ B 55 0 w ≤ 50 ∧ 1 ≤ B 56 0 w ∧ B 56 0 w ≤ 50 ∧ 0 < B 53 0 w ∧ 0 ≤ B 57 0 w ∧ B 57 0 w ≤ 100002 ∧ -1 ≤ B 58 0 w ∧ B 58 0 w ≤ 999 ∧ (B 39 0 t = -1 → B 58 0 w = -1)) ∧
  (∀ w v, w < 4 → v < 4 → 1 ≤ w → 1 ≤ v → w ≠ v → B 54 0 w = -1 ∨ B 54 0 w ≠ B 54 0 v)
/-- a call, on both sides, keeps what R says: the class's half from A, the reference's from B -/
def Sim (R R2 : gM → gM → Prop) (fL fM : gM → Option (Int × gM)) : Prop := ∀ A B, R A B → ∃ r A' r' B', fL A = some (r, A') ∧ fM B = some (r', B') ∧ B' 29 0 0 = r ∧ (r = 0 → A' 75 0 0 = r') ∧ R2 A' B' ∧ (∀ q, 29 ≤ q → q ≠ 75 → A' q = A q) ∧ ∀ q, q < 29 ∨ q = 75 → B' q = B q
/-- what R says rests on the class's regions of A and the reference's of B alone -/
def Two (R : gM → gM → Prop) : Prop := ∀ A B A' B', (∀ q, q < 29 → A' q = A q) → (∀ q, 29 ≤ q → q ≠ 75 → B' q = B q) → R A B → R A' B'
theorem Sim_law {R R2 : gM → gM → Prop} {fL fM : gM → Option (Int × gM)} (h : Sim R R2 fL fM) (h1 : Two R) (h2 : Two R2) {M : gM} (hI : R M M) : ∃ r M1 r' M2, fL M = some (r, M1) ∧ fM M1 = some (r', M2) ∧ M2 29 0 0 = r ∧ (r = 0 → M2 75 0 0 = r') ∧ R2 M2 M2 := by
  obtain ⟨r, M1, r0, B0, a1, -, -, -, -, a2, -⟩ := h M M hI
  obtain ⟨r3, M3, r', M2, b1, b2, b3, b4, b5, -, b6⟩ := h M M1 (h1 M M M M1 (fun q _ => rfl) a2 hI)
  rw [a1] at b1
  cases b1
  refine ⟨r, M1, r', M2, a1, b2, b3, fun hr => ?_, ?_⟩
  · rw [b6 75 (Or.inr rfl)]
    exact b4 hr
  · exact h2 M1 M2 M2 M2 (fun q hq => b6 q (Or.inl hq)) (fun q _ _ => rfl) b5
theorem RS_two : Two RS := fun A B A' B' hA hB h => by
  unfold RS at h ⊢
  rw [hA 1 (by decide), hA 12 (by decide), hA 13 (by decide), hA 14 (by decide), hA 15 (by decide), hA 16 (by decide), hB 29 (by decide) (by decide), hB 30 (by decide) (by decide), hB 31 (by decide) (by decide), hB 32 (by decide) (by decide), hB 33 (by decide) (by decide), hB 34 (by decide) (by decide)]
  exact h
theorem RI_two {i p n : Nat} : Two (fun A B => RI A B i p n) := fun A B A' B' hA hB h => by
  show RI A' B' i p n
  have h : RI A B i p n := h
  unfold RI at h ⊢
  simp only [hA 8 (by decide), hA 17 (by decide), hA 18 (by decide), hA 19 (by decide), hA 20 (by decide), hB 41 (by decide) (by decide), hB 42 (by decide) (by decide), hB 43 (by decide) (by decide), hB 44 (by decide) (by decide), hB 45 (by decide) (by decide)]
  exact h
theorem RD_two {t : Nat} {B B' : gM} (hB : ∀ q, 29 ≤ q → q ≠ 75 → B' q = B q) (h : RD B t) : RD B' t := by
  unfold RD at h ⊢
  rw [hB 35 (by decide) (by decide), hB 36 (by decide) (by decide), hB 37 (by decide) (by decide), hB 38 (by decide) (by decide), hB 39 (by decide) (by decide), hB 40 (by decide) (by decide)]
  exact h
theorem RT_two {n : Nat} : Two (fun A B => RT A B n) := fun A B A' B' hA hB h => by
  show RT A' B' n
  have h : RT A B n := h
  obtain ⟨h1, h2, h3, h4, h5, h6, h7⟩ := h
  refine ⟨h1, ?_, ?_, RI_two A B A' B' hA hB h4, ?_, ?_, fun t ht => ⟨RI_two A B A' B' hA hB (h7 t ht).1, RD_two hB (h7 t ht).2⟩⟩
  · rw [hA 2 (by decide)]; exact h2
  · rw [hB 29 (by decide) (by decide)]; exact h3
  · rw [hA 7 (by decide)]; exact h5
  · rw [hA 7 (by decide), hB 35 (by decide) (by decide), hB 36 (by decide) (by decide), hB 37 (by decide) (by decide), hB 38 (by decide) (by decide), hB 39 (by decide) (by decide), hB 40 (by decide) (by decide)]; exact h6
theorem RC_two : Two RC := fun A B A' B' hA hB h => by
  unfold RC RE at h ⊢
  simp only [hA 3 (by decide), hA 10 (by decide), hB 29 (by decide) (by decide), hB 46 (by decide) (by decide), hB 47 (by decide) (by decide), hB 48 (by decide) (by decide), hB 49 (by decide) (by decide), hB 50 (by decide) (by decide), hB 51 (by decide) (by decide), hB 52 (by decide) (by decide)]
  exact h
theorem RO_two : Two RO := fun A B A' B' hA hB h => by
  unfold RO at h ⊢
  rw [hA 4 (by decide), hA 24 (by decide), hA 0 (by decide), hB 29 (by decide) (by decide), hB 68 (by decide) (by decide)]
  exact h
theorem RW_two {n : Nat} : Two (fun A B => RW A B n) := fun A B A' B' hA hB h => by
  show RW A' B' n
  have h : RW A B n := h
  unfold RW aOK ndd at h ⊢
  simp only [hA 11 (by decide), hB 29 (by decide) (by decide), hB 38 (by decide) (by decide), hB 39 (by decide) (by decide), hB 53 (by decide) (by decide), hB 54 (by decide) (by decide), hB 55 (by decide) (by decide), hB 56 (by decide) (by decide), hB 57 (by decide) (by decide), hB 58 (by decide) (by decide), hB 59 (by decide) (by decide), hB 60 (by decide) (by decide)]
  exact h
