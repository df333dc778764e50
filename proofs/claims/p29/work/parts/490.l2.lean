/-! ## Level 2: the two memories alone: tools -/
theorem gU_s (M : gM) (r i k : Nat) (v : Int) : gU M r i k v r i k = v := if_pos ⟨rfl, rfl, rfl⟩
theorem gU_r {r' : Nat} {M : gM} {r i k : Nat} {v : Int} (h : r' ≠ r) : gU M r i k v r' = M r' := by
  funext i' k'
  exact if_neg (fun q => h q.1)
theorem gU_i {i' : Nat} {M : gM} {r i k : Nat} {v : Int} (h : i' ≠ i) : gU M r i k v r i' = M r i' := by
  funext k'
  exact if_neg (fun q => h q.2.1)
theorem gU_k {k' : Nat} {M : gM} {r i k : Nat} {v : Int} (h : k' ≠ k) : gU M r i k v r i k' = M r i k' := if_neg (fun q => h q.2.2)
/-- a loop's step, m times from i on upward -/
def itr {α : Type} (st : Nat → α → α) : Nat → Nat → α → α
  | 0, _, x => x
  | m + 1, i, x => itr st m (i + 1) (st i x)
/-- a loop's step from m - 1 down to 0 -/
def dtr {α : Type} (st : Nat → α → α) : Nat → α → α
  | 0, x => x
  | m + 1, x => dtr st m (st m x)
/-- the first of i .. i + m - 1 that is so -/
def ffd (c : Nat → Bool) : Nat → Nat → Option Nat
  | 0, _ => none
  | m + 1, i => if c i = true then some i else ffd c m (i + 1)
theorem loop_up {α β : Type} {F : Nat → α → Int → Option β} {B : Nat} {K : α → Option β} {st : Nat → α → α} {P : Nat → α → Prop}
    (hs : ∀ n i x, i < B → P i x → F (n + 1) x (i : Int) = F n (st i x) ((i + 1 : Nat) : Int) ∧ P (i + 1) (st i x))
    (hK : ∀ n x, P B x → F (n + 1) x (B : Int) = K x) :
    ∀ m n i x, i + m = B → m < n → P i x → F n x (i : Int) = K (itr st m i x) ∧ P B (itr st m i x) := by
  intro m
  induction m with
  | zero =>
    intro n i x e h hp
    obtain ⟨n', rfl⟩ : ∃ n', n = n' + 1 := ⟨n - 1, by omega⟩
    have e : i = B := by omega
    subst e
    exact ⟨hK n' x hp, hp⟩
  | succ m ih =>
    intro n i x e h hp
    obtain ⟨n', rfl⟩ : ∃ n', n = n' + 1 := ⟨n - 1, by omega⟩
    obtain ⟨h1, h2⟩ := hs n' i x (by omega) hp
    rw [h1]
    exact ih n' (i + 1) (st i x) (by omega) (by omega) h2
theorem loop_dn {α β : Type} {F : Nat → α → Int → Option β} {B : Nat} {K : α → Option β} {st : Nat → α → α} {P : Nat → α → Prop}
    (hs : ∀ n i x, i < B → P (i + 1) x → F (n + 1) x (i : Int) = F n (st i x) ((i : Int) - 1) ∧ P i (st i x))
    (hK : ∀ n x, P 0 x → F (n + 1) x (-1) = K x) :
    ∀ m n x, m ≤ B → m < n → P m x → F n x ((m : Int) - 1) = K (dtr st m x) ∧ P 0 (dtr st m x) := by
  intro m
  induction m with
  | zero =>
    intro n x _ h hp
    obtain ⟨n', rfl⟩ : ∃ n', n = n' + 1 := ⟨n - 1, by omega⟩
    exact ⟨hK n' x hp, hp⟩
  | succ m ih =>
    intro n x hB h hp
    obtain ⟨n', rfl⟩ : ∃ n', n = n' + 1 := ⟨n - 1, by omega⟩
    obtain ⟨h1, h2⟩ := hs n' m x (by omega) hp
    rw [show (((m + 1 : Nat) : Int) - 1) = (m : Int) by omega, h1]
    exact ih n' (st m x) (by omega) (by omega) h2
theorem loop_ff {β : Type} {F : Nat → Int → Option β} {B : Nat} {c : Nat → Bool} {ret : Nat → Option β} {K : Option β}
    (hs : ∀ n i, i < B → F (n + 1) (i : Int) = if c i = true then ret i else F n ((i + 1 : Nat) : Int))
    (hK : ∀ n, F (n + 1) (B : Int) = K) :
    ∀ m n i, i + m = B → m < n → F n (i : Int) = match ffd c m i with
      | some j => ret j
      | none => K := by
  intro m
  induction m with
  | zero =>
    intro n i e h
    obtain ⟨n', rfl⟩ : ∃ n', n = n' + 1 := ⟨n - 1, by omega⟩
    have e : i = B := by omega
    subst e
    exact hK n'
  | succ m ih =>
    intro n i e h
    obtain ⟨n', rfl⟩ : ∃ n', n = n' + 1 := ⟨n - 1, by omega⟩
    rw [hs n' i (by omega)]
    unfold ffd
    by_cases hc : c i = true
    · rw [if_pos hc, if_pos hc]
    · rw [if_neg hc, if_neg hc]
      exact ih n' (i + 1) (by omega) (by omega)
theorem itr_congr {α : Type} {s1 s2 : Nat → α → α} {P : Nat → α → Prop} {B : Nat} (h : ∀ i x, i < B → P i x → s1 i x = s2 i x ∧ P (i + 1) (s1 i x)) : ∀ m i x, i + m ≤ B → P i x → itr s1 m i x = itr s2 m i x := by
  intro m
  induction m with
  | zero => intro i x _ _; rfl
  | succ m ih =>
    intro i x e hp
    obtain ⟨h1, h2⟩ := h i x (by omega) hp
    show itr s1 m (i + 1) (s1 i x) = itr s2 m (i + 1) (s2 i x)
    rw [← h1]
    exact ih (i + 1) _ (by omega) h2
theorem itr_inv {α : Type} {st : Nat → α → α} {P : Nat → α → Prop} {B : Nat} (h : ∀ i x, i < B → P i x → P (i + 1) (st i x)) : ∀ m i x, i + m ≤ B → P i x → P (i + m) (itr st m i x) := by
  intro m
  induction m with
  | zero => intro i x _ hp; exact hp
  | succ m ih =>
    intro i x e hp
    have := ih (i + 1) (st i x) (by omega) (h i x (by omega) hp)
    rw [show i + 1 + m = i + (m + 1) by omega] at this
    exact this
theorem dtr_congr {α : Type} {s1 s2 : Nat → α → α} {P : Nat → α → Prop} {B : Nat} (h : ∀ i x, i < B → P (i + 1) x → s1 i x = s2 i x ∧ P i (s1 i x)) : ∀ m x, m ≤ B → P m x → dtr s1 m x = dtr s2 m x := by
  intro m
  induction m with
  | zero => intro x _ _; rfl
  | succ m ih =>
    intro x e hp
    obtain ⟨h1, h2⟩ := h m x (by omega) hp
    show dtr s1 m (s1 m x) = dtr s2 m (s2 m x)
    rw [← h1]
    exact ih _ (by omega) h2
theorem ffd_some {c : Nat → Bool} : ∀ {m i j : Nat}, ffd c m i = some j → i ≤ j ∧ j < i + m ∧ c j = true ∧ ∀ k, i ≤ k → k < j → c k = false := by
  intro m
  induction m with
  | zero => intro i j h; cases h
  | succ m ih =>
    intro i j h
    unfold ffd at h
    by_cases hc : c i = true
    · rw [if_pos hc] at h
      cases h
      exact ⟨Nat.le_refl _, by omega, hc, fun k h1 h2 => absurd h1 (by omega)⟩
    · rw [if_neg hc] at h
      obtain ⟨h1, h2, h3, h4⟩ := ih h
      refine ⟨by omega, by omega, h3, fun k q1 q2 => ?_⟩
      rcases Nat.lt_or_ge i k with q | q
      · exact h4 k (by omega) q2
      · have : k = i := by omega
        subst this
        exact Bool.eq_false_iff.mpr hc
theorem ffd_none {c : Nat → Bool} : ∀ {m i : Nat}, ffd c m i = none → ∀ k, i ≤ k → k < i + m → c k = false := by
  intro m
  induction m with
  | zero => intro i _ k h1 h2; omega
  | succ m ih =>
    intro i h k h1 h2
    unfold ffd at h
    by_cases hc : c i = true
    · rw [if_pos hc] at h
      cases h
    · rw [if_neg hc] at h
      rcases Nat.lt_or_ge i k with q | q
      · exact ih h k (by omega) (by omega)
      · have : k = i := by omega
        subst this
        exact Bool.eq_false_iff.mpr hc
theorem ffd_congr {c d : Nat → Bool} : ∀ {m i : Nat}, (∀ k, i ≤ k → k < i + m → c k = d k) → ffd c m i = ffd d m i := by
  intro m
  induction m with
  | zero => intro i _; rfl
  | succ m ih =>
    intro i h
    unfold ffd
    rw [h i (Nat.le_refl _) (by omega), ih (fun k h1 h2 => h k (by omega) (by omega))]
theorem wI_n {n : Nat} (h : n < 2147483648) : wI (n : Int) = (n : Int) := wI_eq ⟨by omega, by omega⟩
theorem wI_s {n : Nat} (h : n + 1 < 2147483648) : wI ((n : Int) + 1) = ((n + 1 : Nat) : Int) := by rw [wI_eq ⟨by omega, by omega⟩]; rfl
theorem wI_p {n : Nat} (h : n < 2147483648) : wI ((n : Int) + (-1)) = (n : Int) - 1 := by rw [wI_eq ⟨by omega, by omega⟩]; rfl
theorem wI_m {n : Nat} (h : n < 2147483648) : wI ((n : Int) - 1) = (n : Int) - 1 := wI_eq ⟨by omega, by omega⟩
theorem gRem_n {a b : Nat} (ha : a < 2147483648) (hb : 0 < b) (hb2 : b < 2147483648) : gRem (a : Int) (b : Int) = ((a % b : Nat) : Int) := by
  unfold gRem
  rw [Int.ofNat_tmod]
  exact wI_n (by have := Nat.mod_lt a hb; omega)
/-- rows that are read inside and outside their bounds -/
theorem at_in {r i n k : Nat} {A : gM} (h : k < n) : f_X11_at r i n (k : Int) A = A r i k := by
  unfold f_X11_at
  rw [if_neg (by omega), if_pos (by omega)]
  rfl
theorem at_neg {r i n : Nat} {v : Int} {A : gM} (h : v < 0) : f_X11_at r i n v A = -1 := by
  unfold f_X11_at
  rw [if_pos h]
theorem store_in {r i n k : Nat} {v : Int} {A : gM} (h : k < n) : f_X11_store r i n (k : Int) v A = gU A r i k v := by
  unfold f_X11_store
  rw [if_neg (by omega), if_pos (by omega)]
  rfl
theorem store_neg {r i n : Nat} {x v : Int} {A : gM} (h : x < 0) : f_X11_store r i n x v A = A := by
  unfold f_X11_store
  rw [if_pos h]
theorem gCmp_eq (a : Int) : gCmp a a = 0 := by
  unfold gCmp
  simp
