/-! ### loops at large; what each part of the relation rests on -/
theorem lp {α γ : Type} {F : Nat → α → Int → γ} {B : Nat} {P : Nat → α → Prop} {Q : γ → Prop}
    (hs : ∀ n i x, i < B → P i x → (∃ x', F (n + 1) x (i : Int) = F n x' ((i + 1 : Nat) : Int) ∧ P (i + 1) x') ∨ Q (F (n + 1) x (i : Int)))
    (hK : ∀ n x, P B x → Q (F (n + 1) x (B : Int))) :
    ∀ m n i x, i + m = B → m < n → P i x → Q (F n x (i : Int)) := by
  intro m
  induction m with
  | zero =>
    intro n i x e h hp
    obtain ⟨n', rfl⟩ : ∃ n', n = n' + 1 := ⟨n - 1, by omega⟩
    have e : i = B := by omega
    subst e
    exact hK n' x hp
  | succ m ih =>
    intro n i x e h hp
    obtain ⟨n', rfl⟩ : ∃ n', n = n' + 1 := ⟨n - 1, by omega⟩
    rcases hs n' i x (by omega) hp with ⟨x', h1, h2⟩ | h1
    · rw [h1]
      exact ih n' (i + 1) x' (by omega) (by omega) h2
    · exact h1
/-- from i = 0 with the fuel 64 -/
theorem lp0 {α γ : Type} {F : Nat → α → Int → γ} (B : Nat) (P : Nat → α → Prop) (Q : γ → Prop) (hB : B < 64) (x : α)
    (hp : P 0 x)
    (hs : ∀ n i x, i < B → P i x → (∃ x', F (n + 1) x (i : Int) = F n x' ((i + 1 : Nat) : Int) ∧ P (i + 1) x') ∨ Q (F (n + 1) x (i : Int)))
    (hK : ∀ n x, P B x → Q (F (n + 1) x (B : Int))) : Q (F 64 x 0) := lp hs hK B 64 0 x (by omega) hB hp
theorem lpd {α γ : Type} {F : Nat → α → Int → γ} {B : Nat} {P : Nat → α → Prop} {Q : γ → Prop}
    (hs : ∀ n i x, i < B → P (i + 1) x → (∃ x', F (n + 1) x (i : Int) = F n x' ((i : Int) - 1) ∧ P i x') ∨ Q (F (n + 1) x (i : Int)))
    (hK : ∀ n x, P 0 x → Q (F (n + 1) x (-1))) :
    ∀ m n x, m ≤ B → m < n → P m x → Q (F n x ((m : Int) - 1)) := by
  intro m
  induction m with
  | zero =>
    intro n x _ h hp
    obtain ⟨n', rfl⟩ : ∃ n', n = n' + 1 := ⟨n - 1, by omega⟩
    exact hK n' x hp
  | succ m ih =>
    intro n x hB h hp
    obtain ⟨n', rfl⟩ : ∃ n', n = n' + 1 := ⟨n - 1, by omega⟩
    rw [show (((m + 1 : Nat) : Int) - 1) = (m : Int) by omega]
    rcases hs n' m x (by omega) hp with ⟨x', h1, h2⟩ | h1
    · rw [h1]
      exact ih n' x' (by omega) (by omega) h2
    · exact h1
theorem lpd0 {α γ : Type} {F : Nat → α → Int → γ} (B : Nat) (P : Nat → α → Prop) (Q : γ → Prop) (hB : B < 64) (x : α)
    (hp : P B x)
    (hs : ∀ n i x, i < B → P (i + 1) x → (∃ x', F (n + 1) x (i : Int) = F n x' ((i : Int) - 1) ∧ P i x') ∨ Q (F (n + 1) x (i : Int)))
    (hK : ∀ n x, P 0 x → Q (F (n + 1) x (-1))) : Q (F 64 x ((B : Int) - 1)) := lpd hs hK B 64 x (Nat.le_refl _) hB hp
/-- a memory is another one but for these regions -/
def But (L : List Nat) (A' A : gM) : Prop := ∀ q, q ∉ L → A' q = A q
theorem But_r {L : List Nat} {A : gM} : But L A A := fun _ _ => rfl
theorem But_q {L : List Nat} {A A' : gM} (h : But L A' A) {q : Nat} (hq : L.contains q = false) : A' q = A q := h q (fun m => by rw [List.contains_iff_mem.mpr m] at hq; cases hq)
theorem But_l {L : List Nat} {A A' : gM} (h : But L A' A) {K : List Nat} (hd : K.all (fun q => !L.contains q) = true) : ∀ q, q ∈ K → A' q = A q := fun q hq => But_q h (by have := List.all_eq_true.mp hd q hq; simpa using this)
theorem But_t {L : List Nat} {A A1 A2 : gM} (h1 : But L A1 A) (h2 : But L A2 A1) : But L A2 A := fun q hq => (h2 q hq).trans (h1 q hq)
theorem But_w {L K : List Nat} {A A1 : gM} (h1 : But L A1 A) (hd : L.all (fun q => K.contains q) = true) : But K A1 A := fun q hq => h1 q (fun m => hq (by have := List.all_eq_true.mp hd q m; exact List.contains_iff_mem.mp this))
theorem But_u {L : List Nat} {A A' : gM} (h : But L A' A) {r i k : Nat} {v : Int} (hr : L.contains r = true) : But L (gU A' r i k v) A := fun q hq => by
  rw [gU_r (fun e => hq (by rw [e]; exact List.contains_iff_mem.mp hr))]
  exact h q hq
theorem But_c {L : List Nat} {A A' : gM} (h : But L A' A) (hd : L.all (fun q => decide (q < 29 ∨ q = 75)) = true) : ∀ q, 29 ≤ q → q ≠ 75 → A' q = A q := fun q h1 h2 => h q (fun m => by have := of_decide_eq_true (List.all_eq_true.mp hd q m); omega)
theorem But_m {L : List Nat} {A A' : gM} (h : But L A' A) (hd : L.all (fun q => decide (29 ≤ q ∧ q ≠ 75)) = true) : ∀ q, q < 29 ∨ q = 75 → A' q = A q := fun q h1 => h q (fun m => by have := of_decide_eq_true (List.all_eq_true.mp hd q m); omega)
theorem RS_c {A B A' B' : gM} (h : RS A B) (hA : ∀ q, q ∈ [12, 13, 14, 15, 16] → A' q 0 = A q 0) (a5 : A' 1 0 5 = A 1 0 5) (hB : ∀ q, q ∈ [30, 31, 32, 33, 34] → B' q = B q) (b4 : B' 29 0 4 = B 29 0 4) : RS A' B' := by
  unfold RS at h ⊢
  rw [hA 12 (by decide), hA 13 (by decide), hA 14 (by decide), hA 15 (by decide), hA 16 (by decide), a5, b4, hB 30 (by decide), hB 31 (by decide), hB 32 (by decide), hB 33 (by decide), hB 34 (by decide)]
  exact h
theorem RI_c {A B A' B' : gM} {i p n : Nat} (h : RI A B i p n) (a8 : A' 8 i 5 = A 8 i 5) (hA : ∀ q, q ∈ [17, 18, 19, 20] → A' q i = A q i) (b41 : B' 41 0 p = B 41 0 p) (hB : ∀ q, q ∈ [42, 43, 44, 45] → ∀ k, k < 4 → B' q 0 (4 * p + k) = B q 0 (4 * p + k)) : RI A' B' i p n := by
  obtain ⟨z, h1, h2, h3, h4⟩ := h
  refine ⟨z, h1, by rw [a8, h2], by rw [b41, h3], fun k hk => ?_⟩
  rw [hA 17 (by decide), hA 18 (by decide), hA 19 (by decide), hA 20 (by decide), hB 42 (by decide) k (by omega), hB 43 (by decide) k (by omega), hB 44 (by decide) k (by omega), hB 45 (by decide) k (by omega)]
  exact h4 k hk
theorem RI_up {A B : gM} {i p n m : Nat} (h : RI A B i p n) (hm : n ≤ m) : RI A B i p m := by
  obtain ⟨z, h1, h2, h3, h4⟩ := h
  refine ⟨z, h1, h2, h3, fun k hk => ?_⟩
  obtain ⟨q1, q2, q3, q4, q5, q6, q7⟩ := h4 k hk
  exact ⟨q1, q2, q3, q4, by omega, by omega, q7⟩
theorem RD_c {B B' : gM} {t : Nat} (h : RD B t) (hB : ∀ q, q ∈ [35, 36, 37, 38, 39, 40] → B' q 0 t = B q 0 t) : RD B' t := by
  unfold RD at h ⊢
  rw [hB 35 (by decide), hB 36 (by decide), hB 37 (by decide), hB 38 (by decide), hB 39 (by decide), hB 40 (by decide)]
  exact h
theorem RT_c {A B A' B' : gM} {n : Nat} (h : RT A B n) (hA : ∀ q, q ∈ [8, 17, 18, 19, 20] → A' q = A q) (a2 : A' 2 0 5 = A 2 0 5) (a7 : ∀ t k, k = 0 ∨ 3 ≤ k ∧ k ≤ 8 → A' 7 t k = A 7 t k) (hB : ∀ q, q ∈ [35, 36, 37, 38, 39, 40, 41, 42, 43, 44, 45] → B' q = B q) (b7 : B' 29 0 7 = B 29 0 7) : RT A' B' n := by
  obtain ⟨h1, h2, h3, h4, h5, h6, h7⟩ := h
  have key : ∀ {i p m : Nat}, RI A B i p m → RI A' B' i p m := fun {i p m} h => RI_c h (by rw [hA 8 (by decide)]) (fun q hq => by rw [hA q (by revert q; decide)]) (by rw [hB 41 (by decide)]) (fun q hq k _ => by rw [hB q (by revert q; decide)])
  refine ⟨h1, by rw [a2, h2], by rw [b7, h3], key h4, fun t ht => by rw [a7 t 0 (Or.inl rfl), h5 t ht], fun t => ?_, fun t ht => ⟨key (h7 t ht).1, RD_c (h7 t ht).2 (fun q hq => by rw [hB q (by revert q; decide)])⟩⟩
  rw [a7 t 3 (by omega), a7 t 4 (by omega), a7 t 5 (by omega), a7 t 6 (by omega), a7 t 7 (by omega), a7 t 8 (by omega), hB 35 (by decide), hB 36 (by decide), hB 37 (by decide), hB 38 (by decide), hB 39 (by decide), hB 40 (by decide)]
  exact h6 t
theorem RC_c {A B A' B' : gM} (h : RC A B) (a3 : A' 3 = A 3) (a10 : A' 10 = A 10) (hB : ∀ q, q ∈ [46, 47, 48, 49, 50, 51, 52] → B' q = B q) (b21 : B' 29 0 21 = B 29 0 21) : RC A' B' := by
  unfold RC RE at h ⊢
  rw [a3, a10, b21, hB 46 (by decide), hB 47 (by decide), hB 48 (by decide), hB 49 (by decide), hB 50 (by decide), hB 51 (by decide), hB 52 (by decide)]
  exact h
theorem RO_c {A B A' B' : gM} (h : RO A B) (a9 : A' 4 0 9 = A 4 0 9) (a10 : A' 4 0 10 = A 4 0 10) (a24 : A' 24 = A 24) (a6 : A' 0 0 6 = A 0 0 6) (b19 : B' 29 0 19 = B 29 0 19) (b20 : B' 29 0 20 = B 29 0 20) (b49 : B' 29 0 49 = B 29 0 49) (b68 : B' 68 = B 68) : RO A' B' := by
  unfold RO at h ⊢
  rw [a9, a10, a24, a6, b19, b20, b49, b68]
  exact h
theorem RW_c {A B A' B' : gM} {n : Nat} (h : RW A B n) (a11 : A' 11 = A 11) (hB : ∀ q, q ∈ [38, 39, 53, 54, 55, 56, 57, 58, 59, 60] → B' q = B q) (b37 : B' 29 0 37 = B 29 0 37) : RW A' B' n := by
  unfold RW aOK ndd at h ⊢
  simp only [a11, b37, hB 38 (by decide), hB 39 (by decide), hB 53 (by decide), hB 54 (by decide), hB 55 (by decide), hB 56 (by decide), hB 57 (by decide), hB 58 (by decide), hB 59 (by decide), hB 60 (by decide)]
  exact h
theorem RB_c {A B A' B' : gM} {n c : Nat} (h : RB A B n c) (a9 : A' 9 = A 9) (a23 : A' 23 0 = A 23 0) (a6 : A' 4 0 6 = A 4 0 6) (a8 : A' 4 0 8 = A 4 0 8) (a4 : A' 4 0 7 = A 4 0 7) (a7 : ∀ t k, k = 9 ∨ k = 11 ∨ k = 12 → A' 7 t k = A 7 t k) (a5 : A' 0 0 5 = A 0 0 5) (hB : ∀ q, q ∈ [38, 60, 61, 62, 63, 64, 65, 66, 67] → B' q = B q) (b37 : B' 29 0 37 = B 29 0 37) (b36 : B' 29 0 36 = B 29 0 36) (b43 : B' 29 0 43 = B 29 0 43) (b48 : B' 29 0 48 = B 29 0 48) : RB A' B' n c := by
  have c9 : ∀ t, A' 7 t 9 = A 7 t 9 := fun t => a7 t 9 (by omega)
  have c11 : ∀ t, A' 7 t 11 = A 7 t 11 := fun t => a7 t 11 (by omega)
  have c12 : ∀ t, A' 7 t 12 = A 7 t 12 := fun t => a7 t 12 (by omega)
  unfold RB aOK ndd dgS at h ⊢
  simp only [a9, a23, a6, a8, a4, c9, c11, c12, a5, b37, b36, b43, b48, hB 38 (by decide), hB 60 (by decide), hB 61 (by decide), hB 62 (by decide), hB 63 (by decide), hB 64 (by decide), hB 65 (by decide), hB 66 (by decide), hB 67 (by decide)]
  exact h
theorem RG_c {B B' : gM} {n : Nat} (h : RG B n) (hB : ∀ q, q ∈ [31, 38, 41, 42, 43, 44, 45, 54, 60] → B' q = B q) (b36 : B' 29 0 36 = B 29 0 36) (b37 : B' 29 0 37 = B 29 0 37) : RG B' n := by
  unfold RG aOK ndd isI chB at h ⊢
  simp only [b36, b37, hB 31 (by decide), hB 38 (by decide), hB 41 (by decide), hB 42 (by decide), hB 43 (by decide), hB 44 (by decide), hB 45 (by decide), hB 54 (by decide), hB 60 (by decide)]
  exact h
theorem chB_c {B B' : gM} {t k : Nat} (b31 : B' 31 = B 31) (hk : k < 4) (hB : ∀ q, q ∈ [42, 43, 44, 45] → ∀ k, k < 4 → B' q 0 (4 * t + k) = B q 0 (4 * t + k)) : chB B' t k = chB B t k := by
  unfold chB
  rw [b31, hB 42 (by decide) k hk, hB 43 (by decide) k hk, hB 44 (by decide) k hk, hB 45 (by decide) k hk]
theorem isI_c {B B' : gM} {t u z : Nat} (hz : B 41 0 t = (z : Int)) (hz4 : z ≤ 4) (b41 : B' 41 0 t = B 41 0 t) (b31 : B' 31 = B 31) (hB : ∀ q, q ∈ [42, 43, 44, 45] → ∀ k, k < 4 → B' q 0 (4 * t + k) = B q 0 (4 * t + k)) : isI B' t u ↔ isI B t u := by
  unfold isI
  rw [b41]
  constructor
  · rintro ⟨k, h1, h2⟩
    exact ⟨k, h1, by rw [← chB_c b31 (by omega) hB]; exact h2⟩
  · rintro ⟨k, h1, h2⟩
    exact ⟨k, h1, by rw [chB_c b31 (by omega) hB]; exact h2⟩
theorem RG_i {B B' : gM} {n : Nat} (h : RG B n) (hI : ∀ t u, t < n → (isI B' t u ↔ isI B t u)) (b36 : B' 29 0 36 = B 29 0 36) (b37 : B' 29 0 37 = B 29 0 37) (b38 : B' 38 = B 38) (b54 : B' 54 = B 54) (b60 : B' 60 = B 60) : RG B' n := by
  unfold RG aOK ndd at h ⊢
  simp only [b36, b37, b38, b54, b60]
  obtain ⟨h1, h2⟩ := h
  refine ⟨h1, fun q => ?_⟩
  obtain ⟨g1, g2, g3, g4, g5⟩ := h2 q
  refine ⟨g1, fun t u ht hn hi => g2 t u ht hn ((hI t u ht).mp hi), fun t s hs ho hn hx u hi => g3 t s hs ho hn hx u ((hI t u ho.1).mp hi), fun t s hs ho hn hx => ?_, g5⟩
  obtain ⟨u, v, i1, i2⟩ := g4 t s hs ho hn hx
  exact ⟨u, v, (hI t u ho.1).mpr i1, i2⟩
