/-! ### the graph: inputs, needed targets -/
theorem isTg (v : Int) (M : gM) : f_X11_isTarget v M = if v < 16 then 0 else 1 := rfl
theorem chC {A B : gM} {i p n k : Nat} (hs : A 13 0 = B 31 0) (h : RI A B i p n) (hk : (k : Int) < B 41 0 p) : f_X6_chosen i (k : Int) A = chB B p k ∧ 0 ≤ chB B p k ∧ chB B p k < 16 + (n : Int) := by
  obtain ⟨z, h1, h2, h3, h4⟩ := h
  have hkz : k < z := by rw [h3] at hk; omega
  obtain ⟨q1, q2, q3, q4, q5, q6, q7, q8⟩ := h4 k hkz
  have hk4 : k < 4 := by omega
  obtain ⟨s, hs'⟩ : ∃ s : Nat, B 44 0 (4 * p + k) = (s : Int) := ⟨(B 44 0 (4 * p + k)).toNat, by omega⟩
  unfold f_X6_chosen chB
  dsimp only [oj]
  rw [at_in hk4, at_in hk4, at_in hk4, at_in hk4, q1, q2, q3, q4, hs', at_in (show s < 4 by omega), hs, Int.toNat_natCast]
  by_cases e : B 43 0 (4 * p + k) = -1
  · rw [if_pos e, if_neg (show ¬ ((1 : Int) = 0) by decide), if_pos (Or.inl e)]
    exact ⟨rfl, by omega, by omega⟩
  · rw [if_neg e]
    by_cases e2 : B 31 0 s = B 45 0 (4 * p + k)
    · rw [if_pos e2, if_neg (show ¬ ((1 : Int) = 0) by decide), if_pos (Or.inr e2)]
      exact ⟨rfl, by omega, by omega⟩
    · rw [if_neg e2, if_pos rfl, if_neg (fun q => by rcases q with q | q; exact e q; exact e2 q)]
      exact ⟨rfl, by omega, by omega⟩
theorem c60 {p k z : Nat} (hp : p < 15) (hk : k < z) (hz : z ≤ 4) : (0 : Int) ≤ ((4 * p + k : Nat) : Int) ∧ ((4 * p + k : Nat) : Int) < 60 := by omega
theorem ask1 (M : gM) : f_X12_asked 1 M = (1, gU M 29 0 0 0) := rfl
theorem ask0 (M : gM) : f_X12_asked 0 M = (0, gU M 29 0 0 1) := rfl
theorem ne10 : ¬ ((1 : Int) = 0) := by decide
theorem inO {A B : gM} {i p n k : Nat} (h : RI A B i p n) (hp : p < 15) (hk : (k : Int) < B 41 0 p) : f_X12_inputOf (p : Int) (k : Int) B = some (chB B p k) := by
  obtain ⟨z, h1, h2, h3, h4⟩ := h
  have hkz : k < z := by rw [h3] at hk; omega
  have c0 := c60 hp hkz h1
  obtain ⟨q1, q2, q3, q4, q5, q6, q7, q8⟩ := h4 k hkz
  have w : wI (wI (4 * (p : Int)) + (k : Int)) = ((4 * p + k : Nat) : Int) := w4 (by omega) (by omega)
  unfold f_X12_inputOf chB
  dsimp only [oj]
  rw [w, og_t c0, og_t c0, og_t c0, Int.toNat_natCast]
  by_cases e : B 43 0 (4 * p + k) = -1
  · rw [if_pos e, if_pos (Or.inl e)]
  · rw [if_neg e, og_t (by omega), og_t c0, og_t c0]
    by_cases e2 : B 31 0 (B 44 0 (4 * p + k)).toNat = B 45 0 (4 * p + k)
    · rw [if_pos e2, if_pos (Or.inr e2)]
    · rw [if_neg e2, if_neg (fun q => by rcases q with q | q; exact e q; exact e2 q)]
def ibS (B : gM) (t : Nat) (k : Nat) (x : Nat) : Nat := if chB B t k < 16 then x else x ||| 2 ^ ((chB B t k).toNat - 16)
/-- the targets that a target takes in, a bit each -/
def ibN (B : gM) (t : Nat) : Nat := itr (ibS B t) (B 41 0 t).toNat 0 0
theorem ch_in {A B : gM} {n t k : Nat} (hS : RS A B) (hT : RT A B n) (ht : t < n) (hk : (k : Int) < B 41 0 t) : 0 ≤ chB B t k ∧ chB B t k < 16 + (t : Int) := (chC hS.2.2.1 (hT.2.2.2.2.2.2 t ht).1 hk).2
theorem szT {A B : gM} {n t : Nat} (hT : RT A B n) (ht : t < n) : ∃ z : Nat, z ≤ 4 ∧ A 8 t 5 = (z : Int) ∧ B 41 0 t = (z : Int) := by
  obtain ⟨z, h1, h2, h3, -⟩ := (hT.2.2.2.2.2.2 t ht).1
  exact ⟨z, h1, h2, h3⟩
theorem ibS_lt {A B : gM} {n t k x : Nat} (hS : RS A B) (hT : RT A B n) (ht : t < n) (hk : (k : Int) < B 41 0 t) (hx : x < 16384) : ibS B t k x < 16384 := by
  have h14 := hT.1
  have q := ch_in hS hT ht hk
  unfold ibS
  by_cases e : chB B t k < 16
  · rw [if_pos e]; exact hx
  · rw [if_neg e]; exact or_14 hx (pow_14 (by omega))
theorem ib_bits {A B : gM} {n t : Nat} (hS : RS A B) (hT : RT A B n) (ht : t < n) : ibN B t < 16384 ∧ ∀ u, (ibN B t).testBit u = true ↔ isI B t u := by
  obtain ⟨z, z1, z2, z3⟩ := szT hT ht
  have key := itr_inv (st := ibS B t) (P := fun i x => x < 16384 ∧ ∀ u, x.testBit u = true ↔ ∃ k, k < i ∧ chB B t k = 16 + (u : Int)) (B := z) (fun i x hi hp => by
    have q := ch_in hS hT ht (k := i) (by rw [z3]; omega)
    refine ⟨ibS_lt hS hT ht (by rw [z3]; omega) hp.1, fun u => ?_⟩
    unfold ibS
    by_cases e : chB B t i < 16
    · rw [if_pos e, hp.2 u]
      constructor
      · rintro ⟨k, k1, k2⟩; exact ⟨k, by omega, k2⟩
      · rintro ⟨k, k1, k2⟩
        rcases (show k < i ∨ k = i by omega) with k3 | k3
        · exact ⟨k, k3, k2⟩
        · subst k3; omega
    · rw [if_neg e, or_bit, hp.2 u, pow_bit]
      constructor
      · rintro (⟨k, k1, k2⟩ | k1)
        · exact ⟨k, by omega, k2⟩
        · exact ⟨i, by omega, by omega⟩
      · rintro ⟨k, k1, k2⟩
        rcases (show k < i ∨ k = i by omega) with k3 | k3
        · exact Or.inl ⟨k, k3, k2⟩
        · subst k3; exact Or.inr (by omega)) z 0 0 (by omega) ⟨by omega, fun u => by
      rw [Nat.zero_testBit]
      exact ⟨fun q => absurd q (by decide), fun ⟨k, k1, _⟩ => absurd k1 (by omega)⟩⟩
  have e : ibN B t = itr (ibS B t) z 0 0 := by unfold ibN; rw [z3]; rfl
  rw [e]
  refine ⟨key.1, fun u => ?_⟩
  rw [key.2 u]
  unfold isI
  rw [z3]
  constructor
  · rintro ⟨k, k1, k2⟩; exact ⟨k, by omega, k2⟩
  · rintro ⟨k, k1, k2⟩; exact ⟨k, by omega, k2⟩
theorem isI_lt {A B : gM} {n t u : Nat} (hS : RS A B) (hT : RT A B n) (ht : t < n) (h : isI B t u) : u < t := by
  obtain ⟨k, k1, k2⟩ := h
  have := ch_in hS hT ht k1
  omega
theorem inTc {A B : gM} {n t : Nat} (hS : RS A B) (hT : RT A B n) (ht : t < n) : f_X5_inputTargets t A = some ((ibN B t : Nat) : Int) := by
  obtain ⟨z, z1, z2, z3⟩ := szT hT ht
  have h14 := hT.1
  have key := loop_up (F := fun n (x : Nat) i => f_X5_inputTargets_L4 (fun (y2_4_49 : Int) => some y2_4_49) t A n (x : Int) i) (B := z) (K := fun x => some (x : Int)) (st := ibS B t) (P := fun _ x => x < 16384) (fun n i x hi hp => by
      refine ⟨?_, ibS_lt hS hT ht (by rw [z3]; omega) hp⟩
      obtain ⟨c1, c2, c3⟩ := chC hS.2.2.1 (hT.2.2.2.2.2.2 t ht).1 (k := i) (by rw [z3]; omega)
      show f_X5_inputTargets_L4 _ t A (n + 1) (x : Int) (i : Int) = _
      rw [f_X5_inputTargets_L4, z2, if_pos (by omega), c1]
      dsimp only [oj]
      rw [isTg, wI_s (by omega)]
      unfold ibS
      by_cases e : chB B t i < 16
      · rw [if_pos e, if_pos rfl, if_pos e]
      · obtain ⟨u, hu⟩ : ∃ u : Nat, chB B t i = 16 + (u : Int) := ⟨(chB B t i).toNat - 16, by omega⟩
        rw [if_neg e, if_neg (show ¬ ((1 : Int) = 0) by decide), if_neg e, hu, show (16 + (u : Int) - 16) = (u : Int) by omega, wI_n (by omega), gShl_n (by omega), gOr_n (by omega) (lt14_31 (pow_14 (by omega))), show (16 + (u : Int)).toNat - 16 = u by omega])
    (fun n x hp => by
      show f_X5_inputTargets_L4 _ t A (n + 1) (x : Int) (z : Int) = _
      rw [f_X5_inputTargets_L4, z2, if_neg (by omega)]) z 64 0 0 (by omega) (by omega) (by decide)
  have e : ibN B t = itr (ibS B t) z 0 0 := by unfold ibN; rw [z3]; rfl
  rw [e]
  exact key.1
def wnS (B : gM) (t x : Nat) : Nat := if x.testBit t = true then x ||| ibN B t else x
/-- some targets and all that they need -/
def wnN (B : gM) (m x : Nat) : Nat := dtr (wnS B) m x
theorem wnS_lt {A B : gM} {n t x : Nat} (hS : RS A B) (hT : RT A B n) (ht : t < n) (hx : x < 16384) : wnS B t x < 16384 := by
  unfold wnS
  by_cases e : x.testBit t = true
  · rw [if_pos e]; exact or_14 hx (ib_bits hS hT ht).1
  · rw [if_neg e]; exact hx
theorem wnC {A B : gM} {n x : Nat} (hS : RS A B) (hT : RT A B n) (hx : x < 16384) : f_X5_withNeeded (x : Int) A = some ((wnN B n x : Nat) : Int) ∧ wnN B n x < 16384 := by
  have h14 := hT.1
  have hA := hT.2.1
  unfold f_X5_withNeeded
  rw [hA, wI_m (by omega)]
  exact loop_dn (F := fun n (x : Nat) i => f_X5_withNeeded_L9 (fun (y2_9_40 : Int) => some y2_9_40) A n (x : Int) i) (B := n) (K := fun x => some (x : Int)) (st := wnS B) (P := fun _ x => x < 16384) (fun m i x hi hp => by
      refine ⟨?_, wnS_lt hS hT hi hp⟩
      show f_X5_withNeeded_L9 _ A (m + 1) (x : Int) (i : Int) = _
      rw [f_X5_withNeeded_L9, if_neg (by omega)]
      dsimp only [oj]
      rw [tAt hA h14 hi, inTc hS hT hi, ob_s, wI_p (by omega)]
      unfold wnS
      by_cases e : x.testBit i = true
      · rw [if_pos (show f_X11_bitOf (x : Int) (i : Int) A = 1 from (bit_1 (by omega) (by omega)).mpr e), if_pos e, gOr_n (by omega) (lt14_31 (ib_bits hS hT hi).1)]
      · rw [if_neg (show ¬ f_X11_bitOf (x : Int) (i : Int) A = 1 from fun q => e ((bit_1 (by omega) (by omega)).mp q)), if_neg e])
    (fun m x hp => by
      show f_X5_withNeeded_L9 _ A (m + 1) (x : Int) (-1) = _
      rw [f_X5_withNeeded_L9, if_pos (by decide)]) n 64 x (Nat.le_refl _) (by omega) hx
theorem itr_or (B : gM) (t y : Nat) : ∀ m i x, itr (ibS B t) m i (y ||| x) = y ||| itr (ibS B t) m i x := by
  intro m
  induction m with
  | zero => intro i x; rfl
  | succ m ih =>
    intro i x
    show itr (ibS B t) m (i + 1) (ibS B t i (y ||| x)) = y ||| itr (ibS B t) m (i + 1) (ibS B t i x)
    rw [← ih]
    congr 1
    unfold ibS
    by_cases e : chB B t i < 16
    · rw [if_pos e, if_pos e]
    · rw [if_neg e, if_neg e, Nat.or_assoc]
theorem wnM {A B : gM} {n x : Nat} (hS : RS A B) (hT : RT A B n) (hx : x < 16384) : f_X12_neededBy (x : Int) B = some ((wnN B n x : Nat) : Int) := by
  have h14 := hT.1
  have hB := hT.2.2.1
  unfold f_X12_neededBy
  rw [hB, wI_m (by omega)]
  refine (loop_dn (F := fun n (x : Nat) i => f_X12_neededBy_L9 (fun (y2_9_78 : Int) => some y2_9_78) B n (x : Int) i) (B := n) (K := fun x => some (x : Int)) (st := wnS B) (P := fun _ x => x < 16384) (fun m i x hi hp => ?_) (fun m x hp => ?_) n 64 x (Nat.le_refl _) (by omega) hx).1
  · refine ⟨?_, wnS_lt hS hT hi hp⟩
    show f_X12_neededBy_L9 _ B (m + 1) (x : Int) (i : Int) = _
    rw [f_X12_neededBy_L9, if_neg (by omega)]
    obtain ⟨z, z1, z2, z3⟩ := szT hT hi
    rw [wI_p (by omega)]
    by_cases e : x.testBit i = true
    · have hRI := (hT.2.2.2.2.2.2 i hi).1
      have key := loop_up (F := fun n (y : Nat) k => f_X12_neededBy_L16 (fun (y2_16_72 : Int) => f_X12_neededBy_L9 (fun (y2_9_78 : Int) => some y2_9_78) B m y2_16_72 ((i : Int) - 1)) (i : Int) B n (y : Int) k) (B := z) (K := fun y => f_X12_neededBy_L9 (fun (y2_9_78 : Int) => some y2_9_78) B m (y : Int) ((i : Int) - 1)) (st := ibS B i) (P := fun _ y => y < 16384 ∧ y.testBit i = true) (fun n k y hk hp => by
          have q := ch_in hS hT hi (k := k) (by rw [z3]; omega)
          refine ⟨?_, ibS_lt hS hT hi (by rw [z3]; omega) hp.1, ?_⟩
          · show f_X12_neededBy_L16 _ (i : Int) B (n + 1) (y : Int) (k : Int) = _
            rw [f_X12_neededBy_L16, og_t (by omega), Int.toNat_natCast, z3, if_pos (by omega), if_pos ((bit_1 (by omega) (by omega)).mpr hp.2), inO hRI (by omega) (by rw [z3]; omega), ob_s]
            dsimp only [oj]
            rw [wI_s (by omega)]
            unfold ibS
            by_cases e : chB B i k < 16
            · rw [if_pos e, if_pos e, show gOr (y : Int) 0 = ((y ||| 0 : Nat) : Int) from gOr_n (by omega) (by decide), Nat.or_zero]
            · obtain ⟨u, hu⟩ : ∃ u : Nat, chB B i k = 16 + (u : Int) := ⟨(chB B i k).toNat - 16, by omega⟩
              rw [if_neg e, if_neg e, hu, show (16 + (u : Int) - 16) = (u : Int) by omega, wI_n (by omega), gShl_n (by omega), gOr_n (by omega) (lt14_31 (pow_14 (by omega))), show (16 + (u : Int)).toNat - 16 = u by omega]
          · unfold ibS
            by_cases e : chB B i k < 16
            · rw [if_pos e]; exact hp.2
            · rw [if_neg e]; exact (or_bit _ _ _).mpr (Or.inl hp.2))
        (fun n y hp => by
          show f_X12_neededBy_L16 _ (i : Int) B (n + 1) (y : Int) (z : Int) = _
          rw [f_X12_neededBy_L16, og_t (by omega), Int.toNat_natCast, z3, if_neg (by omega)]) z 64 0 x (by omega) (by omega) ⟨hp, e⟩
      have e2 : wnS B i x = itr (ibS B i) z 0 x := by
        unfold wnS ibN
        rw [if_pos e, z3, Int.toNat_natCast, ← itr_or, Nat.or_zero]
      show _ = f_X12_neededBy_L9 (fun (y2_9_78 : Int) => some y2_9_78) B m (wnS B i x : Int) ((i : Int) - 1)
      rw [e2]
      exact key.1
    · have e3 : ¬ gAnd (gShr (x : Int) (i : Int)) 1 = 1 := fun q => e ((bit_1 (by omega) (by omega)).mp q)
      show _ = f_X12_neededBy_L9 (fun (y2_9_78 : Int) => some y2_9_78) B m (wnS B i x : Int) ((i : Int) - 1)
      unfold wnS
      rw [if_neg e, f_X12_neededBy_L16, og_t (by omega), Int.toNat_natCast, z3, if_neg e3]
      by_cases e4 : (0 : Int) < (z : Int)
      · rw [if_pos e4]
      · rw [if_neg e4]
  · show f_X12_neededBy_L9 _ B (m + 1) (x : Int) (-1) = _
    rw [f_X12_neededBy_L9, if_pos (by decide)]
/-- what wnN is: it holds the roots, is closed, and is the least such -/
theorem wn_sub {B : gM} : ∀ m x u, x.testBit u = true → (wnN B m x).testBit u = true := by
  intro m
  induction m with
  | zero => intro x u h; exact h
  | succ m ih =>
    intro x u h
    refine ih (wnS B m x) u ?_
    unfold wnS
    by_cases e : x.testBit m = true
    · rw [if_pos e]; exact (or_bit _ _ _).mpr (Or.inl h)
    · rw [if_neg e]; exact h
theorem wn_min {A B : gM} {n : Nat} (hS : RS A B) (hT : RT A B n) {S : Nat → Prop} (hc : ∀ t u, t < n → S t → isI B t u → S u) : ∀ m x, m ≤ n → (∀ u, x.testBit u = true → S u) → ∀ u, (wnN B m x).testBit u = true → S u := by
  intro m
  induction m with
  | zero => intro x _ h u hu; exact h u hu
  | succ m ih =>
    intro x hm h
    refine ih (wnS B m x) (by omega) (fun u hu => ?_)
    unfold wnS at hu
    by_cases e : x.testBit m = true
    · rw [if_pos e, or_bit] at hu
      rcases hu with q | q
      · exact h u q
      · exact hc m u (by omega) (h m e) (((ib_bits hS hT (show m < n by omega)).2 u).mp q)
    · rw [if_neg e] at hu
      exact h u hu
theorem wn_hi {A B : gM} {n : Nat} (hS : RS A B) (hT : RT A B n) : ∀ m x u, m ≤ n → m ≤ u → ((wnN B m x).testBit u = true ↔ x.testBit u = true) := by
  intro m
  induction m with
  | zero => intro x u _ _; exact Iff.rfl
  | succ m ih =>
    intro x u hm hu
    show (wnN B m (wnS B m x)).testBit u = true ↔ _
    rw [ih (wnS B m x) u (by omega) (by omega)]
    unfold wnS
    by_cases e : x.testBit m = true
    · rw [if_pos e, or_bit, (ib_bits hS hT (show m < n by omega)).2 u]
      constructor
      · rintro (q | q)
        · exact q
        · have := isI_lt hS hT (by omega) q; omega
      · exact Or.inl
    · rw [if_neg e]
theorem wn_cl {A B : gM} {n : Nat} (hS : RS A B) (hT : RT A B n) : ∀ m x t u, m ≤ n → t < m → (wnN B m x).testBit t = true → isI B t u → (wnN B m x).testBit u = true := by
  intro m
  induction m with
  | zero => intro x t u _ ht; omega
  | succ m ih =>
    intro x t u hm ht h hi
    rcases (show t < m ∨ t = m by omega) with q | q
    · exact ih (wnS B m x) t u (by omega) q h hi
    · subst q
      have h1 : (wnS B t x).testBit t = true := (wn_hi hS hT t (wnS B t x) t (by omega) (Nat.le_refl _)).mp h
      have h2 : x.testBit t = true := by
        unfold wnS at h1
        by_cases e : x.testBit t = true
        · exact e
        · rw [if_neg e] at h1; exact absurd h1 e
      refine wn_sub t (wnS B t x) u ?_
      unfold wnS
      rw [if_pos h2, or_bit]
      exact Or.inr (((ib_bits hS hT (show t < n by omega)).2 u).mpr hi)
theorem wn_lt {A B : gM} {n : Nat} (hS : RS A B) (hT : RT A B n) {x : Nat} (hx : x < 2 ^ n) : wnN B n x < 2 ^ n := by
  apply Nat.lt_pow_two_of_testBit
  intro i hi
  have q := wn_hi hS hT n x i (Nat.le_refl _) hi
  rw [Nat.testBit_lt_two_pow (Nat.lt_of_lt_of_le hx (Nat.pow_le_pow_right (by decide) hi))] at q
  exact Bool.eq_false_iff.mpr (fun e => absurd (q.mp e) (by decide))
/-- what one target needs: itself, and what its inputs need -/
theorem wn_rec {A B : gM} {n t : Nat} (hS : RS A B) (hT : RT A B n) (ht : t < n) (u : Nat) : (wnN B n (2 ^ t)).testBit u = true ↔ (u = t ∨ ∃ v, isI B t v ∧ (wnN B n (2 ^ v)).testBit u = true) := by
  constructor
  · intro h
    refine wn_min hS hT (S := fun u => u = t ∨ ∃ v, isI B t v ∧ (wnN B n (2 ^ v)).testBit u = true) (fun a b ha hs hi => ?_) n (2 ^ t) (Nat.le_refl _) (fun a ha => Or.inl ((pow_bit t a).mp ha)) u h
    rcases hs with q | ⟨v, v1, v2⟩
    · subst q
      exact Or.inr ⟨b, hi, wn_sub n _ b ((pow_bit b b).mpr rfl)⟩
    · exact Or.inr ⟨v, v1, wn_cl hS hT n _ a b (Nat.le_refl _) ha v2 hi⟩
  · rintro (q | ⟨v, v1, v2⟩)
    · subst q
      exact wn_sub n _ u ((pow_bit u u).mpr rfl)
    · refine wn_min hS hT (S := fun u => (wnN B n (2 ^ t)).testBit u = true) (fun a b ha hs hi => wn_cl hS hT n _ a b (Nat.le_refl _) ha hs hi) n (2 ^ v) (Nat.le_refl _) (fun a ha => ?_) u v2
      rw [pow_bit] at ha
      subst ha
      exact wn_cl hS hT n _ t a (Nat.le_refl _) ht (wn_sub n _ t ((pow_bit t t).mpr rfl)) v1
theorem S_needed {c : Nat} (v1 : Int) : Sim (Rel c) (Rel (c + 1)) (f_L_needed v1) (f_X12_needed v1) := by
  intro A B h
  have h0 := h
  obtain ⟨n, h1, h2, h3, h4, h5, h6, h7⟩ := h0
  have hA := h2.2.1
  have hB := h2.2.2.1
  have hn := h2.1
  by_cases ht : 0 ≤ v1 ∧ v1 < (n : Int)
  · obtain ⟨t, rfl⟩ : ∃ t : Nat, v1 = (t : Int) := ⟨v1.toNat, by omega⟩
    have htn : t < n := by omega
    have e1 : f_L_needed (t : Int) A = some (0, gU A 75 0 0 ((wnN B n (2 ^ t) : Nat) : Int)) := by
      simp only [f_L_needed, f_X11_needed]
      rw [cTar hA, if_pos ht, ob_s, ox_r, gShl_n (by omega), (wnC h1 h2 (pow_14 (by omega))).1]
      rfl
    have e2 : f_X12_needed (t : Int) B = some (((wnN B n (2 ^ t) : Nat) : Int), gU B 29 0 0 0) := by
      have h1' : RS A (gU B 29 0 0 0) := RS_c h1 (fun _ _ => rfl) rfl (fun q hq => gU_r (fun e => by rw [e] at hq; revert hq; decide)) (gU_k (by decide))
      have h2' : RT A (gU B 29 0 0 0) n := RT_c h2 (fun _ _ => rfl) rfl (fun _ _ _ => rfl) (fun q hq => gU_r (fun e => by rw [e] at hq; revert hq; decide)) (gU_k (by decide))
      have q := wnM h1' h2' (pow_14 (show t < 14 by omega))
      have q2 : wnN (gU B 29 0 0 0) n (2 ^ t) = wnN B n (2 ^ t) := by
        unfold wnN wnS ibN ibS chB
        simp (disch := decide) only [gU_r]
      rw [q2] at q
      unfold f_X12_needed
      rw [isT hB hn, if_pos ht, ask1]
      dsimp only
      rw [if_neg ne10, gShl_n (by omega), q]
      rfl
    exact ⟨_, _, _, _, e1, e2, gU_s _ _ _ _ _, fun _ => gU_s _ _ _ _ _, Rel_out _ (Rel_thr _ (Rel_up h)), fun q q1 q2 => gU_r (by omega), fun q hq => gU_r (by omega)⟩
  · have e1 : f_L_needed v1 A = some (1, A) := by
      simp [f_L_needed, f_X11_needed, cTar hA, ht, ob_s, ox_l, ol_l']
    have e2 : f_X12_needed v1 B = some (0, gU B 29 0 0 1) := by
      simp [f_X12_needed, f_X12_asked, isT hB hn, ht]
    exact ⟨_, _, _, _, e1, e2, gU_s _ _ _ _ _, fun q => absurd q (by decide), Rel_thr _ (Rel_up h), fun q _ _ => rfl, fun q hq => gU_r (by omega)⟩
