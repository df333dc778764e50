/-! ### an action, a worker changes: what holds on -/
theorem four {t s t' s' : Nat} (hs : s < 4) (hs' : s' < 4) (h : 4 * t + s = 4 * t' + s') : t = t' ∧ s = s' := by omega
def W12 (A B : gM) : Prop := (∀ w, A 11 w 1 = B 53 0 w ∧ A 11 w 2 = B 59 0 w ∧ A 11 w 3 = B 54 0 w ∧ A 11 w 4 = B 57 0 w ∧ A 11 w 5 = B 58 0 w ∧ A 11 w 6 = B 55 0 w ∧ A 11 w 7 = B 56 0 w) ∧ (∀ w, w < 4 → A 11 w 0 = (w : Int) ∧ (0 ≤ B 53 0 w ∧ B 53 0 w ≤ 9) ∧ (-1 ≤ B 59 0 w ∧ B 59 0 w ≤ 3) ∧ nmI (B 55 0 w))
/-- a worker at an action, with l ticks left at least -/
def atA (l : Int) (B : gM) (n w t s : Nat) : Prop := B 54 0 w = ((4 * t + s : Nat) : Int) ∧ s < 4 ∧ aOK B n t s ∧ ndd B t ∧ B 60 0 (4 * t + s) = 2 ∧ l ≤ B 55 0 w ∧ B 55 0 w ≤ 50 ∧ 1 ≤ B 56 0 w ∧ B 56 0 w ≤ 50 ∧ 0 < B 53 0 w ∧ 0 ≤ B 57 0 w ∧ B 57 0 w ≤ 100002 ∧ -1 ≤ B 58 0 w ∧ B 58 0 w ≤ 999 ∧ (B 39 0 t = -1 → B 58 0 w = -1)
def W3 (l : Int) (B : gM) (n : Nat) : Prop := ∀ w, w < 4 → B 54 0 w = -1 ∨ ∃ t s : Nat, atA l B n w t s
def W4 (B : gM) : Prop := ∀ w v, w < 4 → v < 4 → 1 ≤ w → 1 ≤ v → w ≠ v → B 54 0 w = -1 ∨ B 54 0 w ≠ B 54 0 v
theorem RW_iff {A B : gM} {n : Nat} : RW A B n ↔ W12 A B ∧ W3 1 B n ∧ W4 B := ⟨fun h => ⟨⟨h.1, h.2.1⟩, h.2.2.1, h.2.2.2⟩, fun h => ⟨h.1.1, h.1.2, h.2.1, h.2.2⟩⟩
def G0 (B : gM) (n : Nat) : Prop := ∃ t s, s < 4 ∧ aOK B n t s ∧ ndd B t ∧ B 60 0 (4 * t + s) < 3
def G1 (B : gM) (n : Nat) : Prop := ∀ t u, t < n → ndd B t → isI B t u → ndd B u
def G2 (B : gM) (n : Nat) : Prop := ∀ t s, s < 4 → aOK B n t s → ndd B t → (B 60 0 (4 * t + s) = 1 ∨ B 60 0 (4 * t + s) = 2) → ∀ u, isI B t u → ∀ v, v < 4 → aOK B n u v → B 60 0 (4 * u + v) = 3
def G3 (B : gM) (n : Nat) : Prop := ∀ t s, s < 4 → aOK B n t s → ndd B t → B 60 0 (4 * t + s) = 0 → ∃ u v, isI B t u ∧ v < 4 ∧ aOK B n u v ∧ B 60 0 (4 * u + v) < 3
def G4 (B : gM) (n : Nat) : Prop := ∀ t s, s < 4 → aOK B n t s → ndd B t → B 60 0 (4 * t + s) = 2 → ∃ w, w < 4 ∧ B 54 0 w = ((4 * t + s : Nat) : Int)
theorem RG_1 {B : gM} {n : Nat} (h : RG B n) (hg : B 29 0 36 = 1) : G0 B n ∧ G1 B n ∧ G2 B n ∧ G3 B n ∧ G4 B n := h.2 hg
theorem RG_of {B : gM} {n : Nat} (hg : B 29 0 36 = 1) (h : G0 B n ∧ G1 B n ∧ G2 B n ∧ G3 B n ∧ G4 B n) : RG B n := ⟨fun q => absurd (hg.symm.trans q) ne10, fun _ => h⟩
/-- B' is told as B is, and needs the same -/
def TdN (B B' : gM) : Prop := Td B B' ∧ B' 29 0 37 = B 29 0 37
theorem isI_t {B B' : gM} (h : Td B B') (t u : Nat) : isI B' t u ↔ isI B t u := by
  unfold isI chB
  rw [h 31 (by decide), h 41 (by decide), h 42 (by decide), h 43 (by decide), h 44 (by decide), h 45 (by decide)]
theorem aOK_t {B B' : gM} (h : Td B B') (n t s : Nat) : aOK B' n t s ↔ aOK B n t s := by
  unfold aOK
  rw [h 38 (by decide)]
theorem ndd_t {B B' : gM} (h : TdN B B') (t : Nat) : ndd B' t ↔ ndd B t := by
  unfold ndd
  rw [h.2]
theorem G1_t {B B' : gM} {n : Nat} (hT : TdN B B') (h : G1 B n) : G1 B' n := fun t u ht hn hi => (ndd_t hT u).mpr (h t u ht ((ndd_t hT t).mp hn) ((isI_t hT.1 t u).mp hi))
theorem G2_act {B B' : gM} {n t s : Nat} (hT : TdN B B') (h : G2 B n) (hs : s < 4) (hne : ∀ a, a ≠ 4 * t + s → B' 60 0 a = B 60 0 a) (hold : B 60 0 (4 * t + s) ≠ 3) (hao : aOK B n t s) (hnew : (B' 60 0 (4 * t + s) = 1 ∨ B' 60 0 (4 * t + s) = 2) → ∀ u, isI B t u → ∀ v, v < 4 → aOK B n u v → B 60 0 (4 * u + v) = 3) : G2 B' n := by
  intro t' s' hs' ho hn hx u hi v hv hov
  have ho := (aOK_t hT.1 n t' s').mp ho
  have hn := (ndd_t hT t').mp hn
  have hi := (isI_t hT.1 t' u).mp hi
  have hov := (aOK_t hT.1 n u v).mp hov
  have key : B 60 0 (4 * u + v) = 3 := by
    by_cases e : 4 * t' + s' = 4 * t + s
    · rw [e] at hx
      obtain ⟨e1, e2⟩ := four hs' hs e
      subst e1
      exact hnew hx u hi v hv hov
    · rw [hne _ e] at hx
      exact h t' s' hs' ho hn hx u hi v hv hov
  by_cases e : 4 * u + v = 4 * t + s
  · rw [e] at key
    exact absurd key hold
  · rw [hne _ e]
    exact key
theorem G4_act {B B' : gM} {n t s : Nat} (hT : TdN B B') (h : G4 B n) (hs : s < 4) (hne : ∀ a, a ≠ 4 * t + s → B' 60 0 a = B 60 0 a) (hw : ∀ w, w < 4 → B 54 0 w ≠ ((4 * t + s : Nat) : Int) → B 54 0 w ≠ -1 → ∃ v, v < 4 ∧ B' 54 0 v = B 54 0 w) (hnew : B' 60 0 (4 * t + s) = 2 → ∃ w, w < 4 ∧ B' 54 0 w = ((4 * t + s : Nat) : Int)) : G4 B' n := by
  intro t' s' hs' ho hn hx
  have ho := (aOK_t hT.1 n t' s').mp ho
  have hn := (ndd_t hT t').mp hn
  by_cases e : 4 * t' + s' = 4 * t + s
  · rw [e] at hx ⊢
    exact hnew hx
  · rw [hne _ e] at hx
    obtain ⟨w, w1, w2⟩ := h t' s' hs' ho hn hx
    obtain ⟨v, v1, v2⟩ := hw w w1 (by rw [w2]; intro q; exact e (Int.ofNat_inj.mp q)) (by rw [w2]; omega)
    exact ⟨v, v1, by rw [v2, w2]⟩
/-- what RB asks, when action 4 t + s and target t alone have changed -/
theorem RB_act {A B A' B' : gM} {n c t s : Nat} (h : RB A B n c) (hT4 : ∀ t, t < n → B 38 0 t ≤ 4) (hT : TdN B B') (ht : t < 14) (hs : s < 4) (hao : aOK B n t s) (hnd : ndd B t)
    (a46 : A' 4 0 6 = A 4 0 6) (a48 : A' 4 0 8 = A 4 0 8) (a47 : A' 4 0 7 = A 4 0 7) (a05 : A' 0 0 5 = A 0 0 5) (b36 : B' 29 0 36 = B 29 0 36) (b48 : B' 29 0 48 = B 29 0 48)
    (a9 : ∀ a, a ≠ 4 * t + s → A' 9 a = A 9 a) (b60 : ∀ q, q ∈ [60, 61, 62, 63, 64, 65] → ∀ a, a ≠ 4 * t + s → B' q 0 a = B q 0 a)
    (a7 : ∀ t', t' ≠ t → A' 7 t' 9 = A 7 t' 9 ∧ A' 7 t' 11 = A 7 t' 11) (b67 : ∀ t', t' ≠ t → B' 66 0 t' = B 66 0 t' ∧ B' 67 0 t' = B 67 0 t') (a23 : ∀ t', t' ≠ t → A' 23 0 t' = A 23 0 t')
    (hfl : (∃ f : Nat, f < 16384 ∧ B' 29 0 43 = (f : Int)) ∧ ∀ b : Nat, A 4 0 7 = (b : Int) → ∀ t', t' < 14 → A' 7 t' 12 ≤ (b : Int) ∧ (1 ≤ b → (A' 7 t' 12 = (b : Int) ↔ gAnd (gShr (B' 29 0 43) (t' : Int)) 1 = 1)))
    (l0 : A' 9 (4 * t + s) 0 = A 9 (4 * t + s) 0 ∧ A' 9 (4 * t + s) 1 = A 9 (4 * t + s) 1)
    (l1 : A' 9 (4 * t + s) 3 = B' 61 0 (4 * t + s) ∧ A' 9 (4 * t + s) 4 = B' 62 0 (4 * t + s) ∧ A' 9 (4 * t + s) 6 = B' 65 0 (4 * t + s) ∧ A' 9 (4 * t + s) 7 = B' 63 0 (4 * t + s) ∧ (0 ≤ B' 61 0 (4 * t + s) ∧ B' 61 0 (4 * t + s) ≤ 100002) ∧ (0 ≤ B' 62 0 (4 * t + s) ∧ B' 62 0 (4 * t + s) ≤ 3) ∧ (-2147483648 ≤ B' 63 0 (4 * t + s) ∧ B' 63 0 (4 * t + s) ≤ 2147483647) ∧ (B' 64 0 (4 * t + s) = 0 ∨ B' 64 0 (4 * t + s) = 1))
    (l2 : A' 9 (4 * t + s) 2 = B' 60 0 (4 * t + s) ∧ (0 ≤ B' 60 0 (4 * t + s) ∧ B' 60 0 (4 * t + s) ≤ 5) ∧ (B' 60 0 (4 * t + s) = 3 → A' 9 (4 * t + s) 5 = B' 64 0 (4 * t + s)))
    (l3 : 0 ≤ B' 65 0 (4 * t + s) ∧ B' 65 0 (4 * t + s) ≤ 200 * (c : Int))
    (l4 : A' 7 t 9 = (if B' 67 0 t = -1 then 5 else B' 67 0 t) ∧ (1 ≤ A' 7 t 9 ∧ A' 7 t 9 ≤ 50) ∧ A' 7 t 11 = B' 66 0 t ∧ nmI (B' 66 0 t))
    (l5 : ∀ s', s' < 4 → aOK B n t s' → B' 60 0 (4 * t + s') = 3 → A' 23 0 t = dgS B' t)
    (l6 : (B' 60 0 (4 * t + s) = 0 → B' 63 0 (4 * t + s) = 0) ∧ (B' 60 0 (4 * t + s) ≠ 3 → B' 64 0 (4 * t + s) = 0)) : RB A' B' n c := by
  obtain ⟨k1, k2, k3, ⟨r, hr, k4⟩, ⟨b, hb, hb2⟩, ⟨w, hw, hw2⟩, k7, k8, k9, k10, k11, k12⟩ := h
  refine ⟨by rw [a46, hT.2]; exact k1, by rw [a48, b36]; exact k2, by rw [b36, a47]; exact k3, ⟨r, hr, by rw [hT.2]; exact k4⟩, ⟨b, hb, by rw [a47]; exact hb2.1, hfl.1, hfl.2 b hb2.1⟩, ⟨w, hw, by rw [a05]; exact hw2.1, by rw [b48]; exact hw2.2.1, fun a => ?_⟩, fun a => ?_, fun t' s' ht' hs' => ?_, fun t' ht' => ?_, fun t' s' hs' ho hd h3 => ?_, fun t' s' ht' hs' ho => ?_, fun t' s' hs' ho hd => ?_⟩
  · by_cases e : a = 4 * t + s
    · rw [e]; exact l3
    · rw [b60 65 (by decide) a e]; exact hw2.2.2 a
  · by_cases e : a = 4 * t + s
    · rw [e]; exact l1
    · rw [a9 a e, b60 61 (by decide) a e, b60 62 (by decide) a e, b60 63 (by decide) a e, b60 64 (by decide) a e, b60 65 (by decide) a e]
      exact k7 a
  · rw [aOK_t hT.1, ndd_t hT]
    obtain ⟨m1, m2, m3, m4⟩ := k8 t' s' ht' hs'
    by_cases e : 4 * t' + s' = 4 * t + s
    · obtain ⟨e1, e2⟩ := four hs' hs e
      subst e1 e2
      exact ⟨l0.1.trans m1, l0.2.trans m2, fun _ => l2, fun q => absurd ⟨hao, hnd⟩ q⟩
    · rw [a9 _ e, b60 60 (by decide) _ e, b60 64 (by decide) _ e]
      exact ⟨m1, m2, m3, m4⟩
  · by_cases e : t' = t
    · rw [e]; exact l4
    · rw [(a7 t' e).1, (a7 t' e).2, (b67 t' e).1, (b67 t' e).2]
      exact k9 t' ht'
  · have ho := (aOK_t hT.1 n t' s').mp ho
    have hd := (ndd_t hT t').mp hd
    by_cases e : t' = t
    · subst e
      exact l5 s' hs' ho h3
    · have ne : ∀ i, i < 4 → 4 * t' + i ≠ 4 * t + s := fun i hi q => e (four hi hs q).1
      rw [b60 60 (by decide) _ (ne s' hs')] at h3
      rw [a23 t' e, k10 t' s' hs' ho hd h3]
      unfold dgS
      rw [hT.1 38 (by decide)]
      have q : (B 38 0 t').toNat ≤ 4 := by have := hT4 t' ho.1; omega
      · exact itr_congr (P := fun _ _ => True) (B := (B 38 0 t').toNat) (fun i x hi _ => ⟨by
          show pls x _ = pls x _
          rw [b60 61 (by decide) _ (ne i (Nat.lt_of_lt_of_le hi q))], trivial⟩) _ 0 7 (by omega) trivial
  · rw [aOK_t hT.1] at ho
    have e : 4 * t' + s' ≠ 4 * t + s := fun q => by
      obtain ⟨e1, e2⟩ := four hs' hs q
      subst e1 e2
      exact ho hao
    rw [b60 63 (by decide) _ e]
    exact k11 t' s' ht' hs' ho
  · have ho := (aOK_t hT.1 n t' s').mp ho
    have hd := (ndd_t hT t').mp hd
    by_cases e : 4 * t' + s' = 4 * t + s
    · rw [e]; exact l6
    · rw [b60 60 (by decide) _ e, b60 63 (by decide) _ e, b60 64 (by decide) _ e]
      exact k12 t' s' hs' ho hd
