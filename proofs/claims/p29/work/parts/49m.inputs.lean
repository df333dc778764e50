/-! ### how the inputs of a target stand -/
def unf (B : gM) (n t : Nat) : Prop := ∃ u v, isI B t u ∧ v < 4 ∧ aOK B n u v ∧ B 60 0 (4 * u + v) < 3
def bad (B : gM) (n t : Nat) : Prop := ∃ u v, isI B t u ∧ v < 4 ∧ aOK B n u v ∧ 3 < B 60 0 (4 * u + v)
/-- the class's states of the actions of a target are the reference's -/
def stE (A B : gM) (n u : Nat) : Prop := ∀ v, v < 4 → (aOK B n u v → A 9 (4 * u + v) 2 = B 60 0 (4 * u + v) ∧ 0 ≤ B 60 0 (4 * u + v) ∧ B 60 0 (4 * u + v) ≤ 5) ∧ (¬ aOK B n u v → A 9 (4 * u + v) 2 = -1)
theorem stE_of {A B : gM} {n c u : Nat} (h : RB A B n c) (hu : u < 14) (hn : ndd B u) : stE A B n u := fun v hv => by
  obtain ⟨-, -, g1, g2⟩ := h.2.2.2.2.2.2.2.1 u v hu hv
  exact ⟨fun q => ⟨(g1 ⟨q, hn⟩).1, (g1 ⟨q, hn⟩).2.1.1, (g1 ⟨q, hn⟩).2.1.2⟩, fun q => g2 (fun p => q p.1)⟩
theorem isU (a : Nat) (M : gM) : f_X0_isUnfinished a M = if M 9 a 2 = 0 ∨ M 9 a 2 = 1 ∨ M 9 a 2 = 2 then 1 else 0 := by
  unfold f_X0_isUnfinished
  dsimp only [oj]
  by_cases h0 : M 9 a 2 = 0
  · rw [if_pos h0, if_pos (Or.inl h0)]
  · rw [if_neg h0]
    by_cases h1 : M 9 a 2 = 1
    · rw [if_pos h1, if_pos (Or.inr (Or.inl h1))]
    · rw [if_neg h1]
      by_cases h2 : M 9 a 2 = 2
      · rw [if_pos h2, if_pos (Or.inr (Or.inr h2))]
      · rw [if_neg h2, if_neg (fun q => by rcases q with q | q | q; exact h0 q; exact h1 q; exact h2 q)]
theorem all_s1 {P : Nat → Prop} {s : Nat} : (∀ v : Nat, v < s + 1 → P v) ↔ ((∀ v : Nat, v < s → P v) ∧ P s) := by
  constructor
  · intro b; exact ⟨fun v q => b v (by omega), b s (by omega)⟩
  · rintro ⟨b, d⟩ v q
    rcases (show v < s ∨ v = s by omega) with q | q
    · exact b v q
    · rw [q]; exact d
theorem ex_s1 {P : Nat → Prop} {s : Nat} : (∃ v : Nat, v < s + 1 ∧ P v) ↔ ((∃ v : Nat, v < s ∧ P v) ∨ P s) := by
  constructor
  · rintro ⟨v, q, p⟩
    rcases (show v < s ∨ v = s by omega) with q | q
    · exact Or.inl ⟨v, q, p⟩
    · rw [q] at p; exact Or.inr p
  · rintro (⟨v, q, p⟩ | p)
    · exact ⟨v, by omega, p⟩
    · exact ⟨s, by omega, p⟩
theorem ne53 : ¬ ((3 : Int) = 5) := by decide
theorem isU1 {a : Nat} {M : gM} (h : 0 ≤ M 9 a 2 ∧ M 9 a 2 < 3) : f_X0_isUnfinished a M = 1 := by
  rw [isU, if_pos (show M 9 a 2 = 0 ∨ M 9 a 2 = 1 ∨ M 9 a 2 = 2 by omega)]
theorem isU0 {a : Nat} {M : gM} (h : M 9 a 2 < 0 ∨ 3 ≤ M 9 a 2) : f_X0_isUnfinished a M = 0 := by
  rw [isU, if_neg (show ¬ (M 9 a 2 = 0 ∨ M 9 a 2 = 1 ∨ M 9 a 2 = 2) by omega)]
theorem soi51 {A B : gM} {n u t : Nat} {z2 z4 x : Int} {k : Int → Option Int} (hE : stE A B n u) (hx : x = 3 ∨ x = 5) : (f_X5_stateOfInputs_L51 k t z2 z4 u 4 A 64 x 0 = some 0 ∧ ∃ v, v < 4 ∧ aOK B n u v ∧ B 60 0 (4 * u + v) < 3) ∨ ∃ x', f_X5_stateOfInputs_L51 k t z2 z4 u 4 A 64 x 0 = k x' ∧ (x' = 3 ∨ x' = 5) ∧ (x' = 5 ↔ x = 5 ∨ ∃ v, v < 4 ∧ aOK B n u v ∧ 3 < B 60 0 (4 * u + v)) ∧ ∀ v, v < 4 → aOK B n u v → 3 ≤ B 60 0 (4 * u + v) := by
  refine lp0 (F := fun n (x : Int) i => f_X5_stateOfInputs_L51 k t z2 z4 u 4 A n x i) 4 (fun i y => (y = 3 ∨ y = 5) ∧ (y = 5 ↔ x = 5 ∨ ∃ v, v < i ∧ aOK B n u v ∧ 3 < B 60 0 (4 * u + v)) ∧ ∀ v, v < i → aOK B n u v → 3 ≤ B 60 0 (4 * u + v)) (fun r => (r = some 0 ∧ ∃ v, v < 4 ∧ aOK B n u v ∧ B 60 0 (4 * u + v) < 3) ∨ ∃ x', r = k x' ∧ (x' = 3 ∨ x' = 5) ∧ (x' = 5 ↔ x = 5 ∨ ∃ v, v < 4 ∧ aOK B n u v ∧ 3 < B 60 0 (4 * u + v)) ∧ ∀ v, v < 4 → aOK B n u v → 3 ≤ B 60 0 (4 * u + v)) (by decide) x ⟨hx, ⟨Or.inl, fun q => q.resolve_right (fun ⟨v, q, _⟩ => absurd q (Nat.not_lt_zero _))⟩, fun v q => absurd q (Nat.not_lt_zero _)⟩ (fun m i y hi hp => ?_) (fun m y hp => ?_)
  · obtain ⟨p1, p2, p3⟩ := hp
    obtain ⟨s1, s2⟩ := hE i hi
    have g4 : (0 : Int) ≤ (i : Int) ∧ (i : Int) < 4 := by omega
    have w1 : wI ((i : Int) + 1) = ((i + 1 : Nat) : Int) := wI_s (by omega)
    have st : f_X5_stateOfInputs_L51 k t z2 z4 u 4 A (m + 1) y (i : Int) = if f_X0_isUnfinished (4 * u + i) A = 0 then (if A 9 (4 * u + i) 2 = 4 then f_X5_stateOfInputs_L51 k t z2 z4 u 4 A m 5 ((i + 1 : Nat) : Int) else if A 9 (4 * u + i) 2 = 5 then f_X5_stateOfInputs_L51 k t z2 z4 u 4 A m 5 ((i + 1 : Nat) : Int) else f_X5_stateOfInputs_L51 k t z2 z4 u 4 A m y ((i + 1 : Nat) : Int)) else some 0 := by
      rw [f_X5_stateOfInputs_L51, if_pos g4.2, og_t g4, Int.toNat_natCast]
      dsimp only [oj]
      rw [w1]
    show _ ∨ _
    by_cases ho : aOK B n u i
    · obtain ⟨e, l, hh⟩ := s1 ho
      by_cases h3 : B 60 0 (4 * u + i) < 3
      · refine Or.inr (Or.inl ⟨?_, i, hi, ho, h3⟩)
        show f_X5_stateOfInputs_L51 k t z2 z4 u 4 A (m + 1) y (i : Int) = _
        rw [st, isU1 (by rw [e]; exact ⟨l, h3⟩), if_neg ne10]
      · have nu : f_X0_isUnfinished (4 * u + i) A = 0 := isU0 (Or.inr (by rw [e]; exact Int.not_lt.mp h3))
        by_cases h4 : B 60 0 (4 * u + i) = 3
        · refine Or.inl ⟨y, ?_, p1, ?_, ?_⟩
          · show f_X5_stateOfInputs_L51 k t z2 z4 u 4 A (m + 1) y (i : Int) = _
            rw [st, if_pos nu, if_neg (show ¬ A 9 (4 * u + i) 2 = 4 by rw [e, h4]; decide), if_neg (show ¬ A 9 (4 * u + i) 2 = 5 by rw [e, h4]; decide)]
          · rw [ex_s1 (s := i), p2]
            exact ⟨fun q => q.elim Or.inl (fun q => Or.inr (Or.inl q)), fun q => q.elim Or.inl (fun q => q.elim Or.inr (fun q => absurd q.2 (by omega)))⟩
          · rw [all_s1 (s := i)]; exact ⟨p3, fun _ => by omega⟩
        · refine Or.inl ⟨5, ?_, Or.inr rfl, ?_, ?_⟩
          · show f_X5_stateOfInputs_L51 k t z2 z4 u 4 A (m + 1) y (i : Int) = _
            rw [st, if_pos nu]
            by_cases h5 : A 9 (4 * u + i) 2 = 4
            · rw [if_pos h5]
            · rw [if_neg h5, if_pos (show A 9 (4 * u + i) 2 = 5 by rw [e] at h5 ⊢; omega)]
          · exact ⟨fun _ => Or.inr ⟨i, by omega, ho, by omega⟩, fun _ => rfl⟩
          · rw [all_s1 (s := i)]; exact ⟨p3, fun _ => by omega⟩
    · have e := s2 ho
      refine Or.inl ⟨y, ?_, p1, ?_, ?_⟩
      · show f_X5_stateOfInputs_L51 k t z2 z4 u 4 A (m + 1) y (i : Int) = _
        rw [st, isU0 (Or.inl (by rw [e]; decide)), if_pos rfl, if_neg (show ¬ A 9 (4 * u + i) 2 = 4 by rw [e]; decide), if_neg (show ¬ A 9 (4 * u + i) 2 = 5 by rw [e]; decide)]
      · rw [ex_s1 (s := i), p2]
        exact ⟨fun q => q.elim Or.inl (fun q => Or.inr (Or.inl q)), fun q => q.elim Or.inl (fun q => q.elim Or.inr (fun q => absurd q.1 ho))⟩
      · rw [all_s1 (s := i)]; exact ⟨p3, fun q => absurd q ho⟩
  · obtain ⟨p1, p2, p3⟩ := hp
    refine Or.inr ⟨y, ?_, p1, p2, p3⟩
    show f_X5_stateOfInputs_L51 k t z2 z4 u 4 A (m + 1) y ((4 : Nat) : Int) = _
    rw [f_X5_stateOfInputs_L51, if_neg (by decide)]
theorem soiC {A B : gM} {n t : Nat} (hS : RS A B) (hT : RT A B n) (ht : t < n) (hE : ∀ u, isI B t u → stE A B n u) : (f_X5_stateOfInputs t A = some 0 ∧ unf B n t) ∨ (f_X5_stateOfInputs t A = some 5 ∧ ¬ unf B n t ∧ bad B n t) ∨ (f_X5_stateOfInputs t A = some 3 ∧ ¬ unf B n t ∧ ¬ bad B n t) := by
  have h14 := hT.1
  have ht64 : t < 64 := by omega
  have hA := hT.2.1
  have hnum := hT.2.2.2.2.1 t (by omega)
  obtain ⟨ib1, ib2⟩ := ib_bits hS hT ht
  unfold f_X5_stateOfInputs
  rw [inTc hS hT ht, ob_s]
  refine lp0 (F := fun m (x : Int) i => f_X5_stateOfInputs_L11 (fun (y3_11_107 : Int) => some y3_11_107) t ((ibN B t : Nat) : Int) A m x i) t (fun i y => (y = 3 ∨ y = 5) ∧ (y = 5 ↔ ∃ u, u < i ∧ isI B t u ∧ ∃ v, v < 4 ∧ aOK B n u v ∧ 3 < B 60 0 (4 * u + v)) ∧ ∀ u, u < i → isI B t u → ∀ v, v < 4 → aOK B n u v → 3 ≤ B 60 0 (4 * u + v)) (fun r => (r = some 0 ∧ unf B n t) ∨ (r = some 5 ∧ ¬ unf B n t ∧ bad B n t) ∨ (r = some 3 ∧ ¬ unf B n t ∧ ¬ bad B n t)) ht64 3 ⟨Or.inl rfl, ⟨fun q => absurd q ne53, fun ⟨u, q, _⟩ => absurd q (Nat.not_lt_zero _)⟩, fun v q => absurd q (Nat.not_lt_zero _)⟩ (fun m i y hi hp => ?_) (fun m y hp => ?_)
  · obtain ⟨p1, p2, p3⟩ := hp
    have hin : i < n := by omega
    have w1 : wI ((i : Int) + 1) = ((i + 1 : Nat) : Int) := wI_s (by omega)
    have bi := bit_0 (lt14_31 ib1) (show i < 31 by omega)
    have hlt : (i : Int) < (t : Int) := by omega
    by_cases e : (ibN B t).testBit i = true
    · have hi' := (ib2 i).mp e
      rcases soi51 (t := t) (z2 := ((ibN B t : Nat) : Int)) (z4 := (i : Int)) (k := fun (y3_51_101 : Int) => f_X5_stateOfInputs_L11 (fun (y3_11_107 : Int) => some y3_11_107) t ((ibN B t : Nat) : Int) A m y3_51_101 ((i + 1 : Nat) : Int)) (hE i hi') p1 with ⟨q1, v, q2⟩ | ⟨x', q1, q2, q3, q4⟩
      · refine Or.inr (Or.inl ⟨?_, i, v, hi', q2⟩)
        show f_X5_stateOfInputs_L11 _ t _ A (m + 1) y (i : Int) = _
        rw [f_X5_stateOfInputs_L11, hnum, if_pos hlt]
        dsimp only [oj]
        rw [if_neg (show ¬ f_X11_bitOf ((ibN B t : Nat) : Int) (i : Int) A = 0 from fun q => by rw [bi.mp q] at e; cases e), tAt hA h14 hin, w1]
        exact q1
      · refine Or.inl ⟨x', ?_, q2, ?_, ?_⟩
        · show f_X5_stateOfInputs_L11 _ t _ A (m + 1) y (i : Int) = _
          rw [f_X5_stateOfInputs_L11, hnum, if_pos hlt]
          dsimp only [oj]
          rw [if_neg (show ¬ f_X11_bitOf ((ibN B t : Nat) : Int) (i : Int) A = 0 from fun q => by rw [bi.mp q] at e; cases e), tAt hA h14 hin, w1]
          exact q1
        · rw [q3, p2, ex_s1 (s := i)]
          exact ⟨fun q => q.elim Or.inl (fun q => Or.inr ⟨hi', q⟩), fun q => q.elim Or.inl (fun q => Or.inr q.2)⟩
        · rw [all_s1 (s := i)]; exact ⟨p3, fun _ => q4⟩
    · refine Or.inl ⟨y, ?_, p1, ?_, ?_⟩
      · show f_X5_stateOfInputs_L11 _ t _ A (m + 1) y (i : Int) = _
        rw [f_X5_stateOfInputs_L11, hnum, if_pos hlt]
        dsimp only [oj]
        rw [if_pos (show f_X11_bitOf ((ibN B t : Nat) : Int) (i : Int) A = 0 from bi.mpr (Bool.eq_false_iff.mpr e)), w1]
      · rw [p2, ex_s1 (s := i)]
        exact ⟨Or.inl, fun q => q.elim id (fun q => absurd ((ib2 i).mpr q.1) e)⟩
      · rw [all_s1 (s := i)]; exact ⟨p3, fun q => absurd ((ib2 i).mpr q) e⟩
  · obtain ⟨p1, p2, p3⟩ := hp
    have en : f_X5_stateOfInputs_L11 (fun (y3_11_107 : Int) => some y3_11_107) t ((ibN B t : Nat) : Int) A (m + 1) y (t : Int) = some y := by
      rw [f_X5_stateOfInputs_L11, hnum, if_neg (Int.lt_irrefl _)]
    have nu : ¬ unf B n t := fun ⟨u, v, q1, q2, q3, q4⟩ => by
      have := p3 u (isI_lt hS hT ht q1) q1 v q2 q3
      omega
    show _ ∨ _
    rcases p1 with e | e
    · refine Or.inr (Or.inr ⟨en.trans (by rw [e]), nu, fun ⟨u, v, q1, q2, q3, q4⟩ => ?_⟩)
      have := p2.mpr ⟨u, isI_lt hS hT ht q1, q1, v, q2, q3, q4⟩
      rw [e] at this
      exact ne53 this
    · refine Or.inr (Or.inl ⟨en.trans (by rw [e]), nu, ?_⟩)
      obtain ⟨u, q0, q1, v, q2⟩ := p2.mp e
      exact ⟨u, v, q1, q2⟩
theorem ops34 {B : gM} {n u m0 : Nat} {z1 z2 z5 x3 x4 : Int} {k : Int → Int → Option gM} (hu : u < 14) (hn : u < n) (hm : B 38 0 u = (m0 : Int)) (hm4 : m0 ≤ 4) (h3 : x3 = 0 ∨ x3 = 1) (h4 : x4 = 0 ∨ x4 = 1) : ∃ y3 y4, f_X12_opensOne_L34 k z1 z2 z5 (u : Int) B 64 x3 x4 0 = k y3 y4 ∧ (y3 = 0 ∨ y3 = 1) ∧ (y4 = 0 ∨ y4 = 1) ∧ (y3 = 1 ↔ x3 = 1 ∨ ∃ v, v < 4 ∧ aOK B n u v ∧ B 60 0 (4 * u + v) < 3) ∧ (y4 = 1 ↔ x4 = 1 ∨ ∃ v, v < 4 ∧ aOK B n u v ∧ 3 < B 60 0 (4 * u + v)) := by
  have hm64 : m0 < 64 := by omega
  have g14 : (0 : Int) ≤ (u : Int) ∧ (u : Int) < 14 := by omega
  have gz : ¬ (u : Int) < 0 := by omega
  have hao : ∀ v : Nat, (v < 4 ∧ aOK B n u v) ↔ v < m0 := fun v => by
    unfold aOK
    rw [hm]
    omega
  have e1 : ∀ P : Nat → Prop, (∃ v, v < 4 ∧ aOK B n u v ∧ P v) ↔ ∃ v, v < m0 ∧ P v := fun P =>
    ⟨fun ⟨v, a, b, c⟩ => ⟨v, (hao v).mp ⟨a, b⟩, c⟩, fun ⟨v, a, c⟩ => ⟨v, ((hao v).mpr a).1, ((hao v).mpr a).2, c⟩⟩
  rw [e1 (fun v => B 60 0 (4 * u + v) < 3), e1 (fun v => 3 < B 60 0 (4 * u + v))]
  refine lp0 (F := fun n (x : Int × Int) i => f_X12_opensOne_L34 k z1 z2 z5 (u : Int) B n x.1 x.2 i) m0 (fun i y => (y.1 = 0 ∨ y.1 = 1) ∧ (y.2 = 0 ∨ y.2 = 1) ∧ (y.1 = 1 ↔ x3 = 1 ∨ ∃ v, v < i ∧ B 60 0 (4 * u + v) < 3) ∧ (y.2 = 1 ↔ x4 = 1 ∨ ∃ v, v < i ∧ 3 < B 60 0 (4 * u + v))) (fun r => ∃ y3 y4, r = k y3 y4 ∧ (y3 = 0 ∨ y3 = 1) ∧ (y4 = 0 ∨ y4 = 1) ∧ (y3 = 1 ↔ x3 = 1 ∨ ∃ v, v < m0 ∧ B 60 0 (4 * u + v) < 3) ∧ (y4 = 1 ↔ x4 = 1 ∨ ∃ v, v < m0 ∧ 3 < B 60 0 (4 * u + v))) hm64 (x3, x4) ⟨h3, h4, ⟨Or.inl, fun q => q.resolve_right (fun ⟨v, q, _⟩ => absurd q (Nat.not_lt_zero _))⟩, ⟨Or.inl, fun q => q.resolve_right (fun ⟨v, q, _⟩ => absurd q (Nat.not_lt_zero _))⟩⟩ (fun m i y hi hp => Or.inl ?_) (fun m y hp => ⟨y.1, y.2, ?_, hp⟩)
  · obtain ⟨p1, p2, p3, p4⟩ := hp
    have w : wI (wI (4 * (u : Int)) + (i : Int)) = ((4 * u + i : Nat) : Int) := w4 (by omega) (by omega)
    have g56 : (0 : Int) ≤ ((4 * u + i : Nat) : Int) ∧ ((4 * u + i : Nat) : Int) < 56 := by omega
    have w1 : wI ((i : Int) + 1) = ((i + 1 : Nat) : Int) := wI_s (by omega)
    have him : (i : Int) < (m0 : Int) := by omega
    have s3 : (if B 60 0 (4 * u + i) < 3 then (1 : Int) else 0) = 0 ∨ (if B 60 0 (4 * u + i) < 3 then (1 : Int) else 0) = 1 := by
      by_cases q : B 60 0 (4 * u + i) < 3
      · rw [if_pos q]; exact Or.inr rfl
      · rw [if_neg q]; exact Or.inl rfl
    have s4 : (if 3 < B 60 0 (4 * u + i) then (1 : Int) else 0) = 0 ∨ (if 3 < B 60 0 (4 * u + i) then (1 : Int) else 0) = 1 := by
      by_cases q : 3 < B 60 0 (4 * u + i)
      · rw [if_pos q]; exact Or.inr rfl
      · rw [if_neg q]; exact Or.inl rfl
    obtain ⟨r1, r2⟩ := gOr01 p1 s3
    obtain ⟨r3, r4⟩ := gOr01 p2 s4
    refine ⟨(gOr y.1 (if B 60 0 (4 * u + i) < 3 then 1 else 0), gOr y.2 (if 3 < B 60 0 (4 * u + i) then 1 else 0)), ?_, r1, r3, ?_, ?_⟩
    · show f_X12_opensOne_L34 k z1 z2 z5 (u : Int) B (m + 1) y.1 y.2 (i : Int) = f_X12_opensOne_L34 k z1 z2 z5 (u : Int) B m (gOr y.1 (if B 60 0 (4 * u + i) < 3 then 1 else 0)) (gOr y.2 (if 3 < B 60 0 (4 * u + i) then 1 else 0)) ((i + 1 : Nat) : Int)
      rw [f_X12_opensOne_L34, if_neg gz, og_t g14, Int.toNat_natCast, hm, if_pos him, w, og_t g56]
      dsimp only [oj]
      rw [w1, og_t g56, og_t g56, Int.toNat_natCast]
      by_cases q1 : B 60 0 (4 * u + i) < 3
      · rw [if_pos q1, if_pos q1]
        by_cases q2 : 3 < B 60 0 (4 * u + i)
        · rw [if_pos q2, if_pos q2]
        · rw [if_neg q2, if_neg q2]
      · rw [if_neg q1, if_neg q1]
        by_cases q2 : 3 < B 60 0 (4 * u + i)
        · rw [if_pos q2, if_pos q2]
        · rw [if_neg q2, if_neg q2]
    · show gOr y.1 _ = 1 ↔ _
      rw [r2, p3, ex_s1 (s := i)]
      by_cases q1 : B 60 0 (4 * u + i) < 3
      · rw [if_pos q1]; exact ⟨fun _ => Or.inr (Or.inr q1), fun _ => Or.inr rfl⟩
      · rw [if_neg q1]
        exact ⟨fun q => q.elim (fun q => q.elim Or.inl (fun q => Or.inr (Or.inl q))) (fun q => absurd q ne01), fun q => q.elim (fun q => Or.inl (Or.inl q)) (fun q => q.elim (fun q => Or.inl (Or.inr q)) (fun q => absurd q q1))⟩
    · show gOr y.2 _ = 1 ↔ _
      rw [r4, p4, ex_s1 (s := i)]
      by_cases q1 : 3 < B 60 0 (4 * u + i)
      · rw [if_pos q1]; exact ⟨fun _ => Or.inr (Or.inr q1), fun _ => Or.inr rfl⟩
      · rw [if_neg q1]
        exact ⟨fun q => q.elim (fun q => q.elim Or.inl (fun q => Or.inr (Or.inl q))) (fun q => absurd q ne01), fun q => q.elim (fun q => Or.inl (Or.inl q)) (fun q => q.elim (fun q => Or.inl (Or.inr q)) (fun q => absurd q q1))⟩
  · show f_X12_opensOne_L34 k z1 z2 z5 (u : Int) B (m + 1) y.1 y.2 (m0 : Int) = _
    rw [f_X12_opensOne_L34, if_neg gz, og_t g14, Int.toNat_natCast, hm, if_neg (Int.lt_irrefl _)]
theorem ops8 {A B : gM} {n t : Nat} {z2 : Int} {k : Int → Int → Option gM} (hS : RS A B) (hT : RT A B n) (ht : t < n) : ∃ y3 y4, f_X12_opensOne_L8 k (t : Int) z2 B 64 0 0 0 = k y3 y4 ∧ (y3 = 0 ∨ y3 = 1) ∧ (y4 = 0 ∨ y4 = 1) ∧ (y3 = 1 ↔ unf B n t) ∧ (y4 = 1 ↔ bad B n t) := by
  obtain ⟨z, z1, z2', z3⟩ := szT hT ht
  have hz : z < 64 := by omega
  have h14 := hT.1
  have hRI := (hT.2.2.2.2.2.2 t ht).1
  have g15 : (0 : Int) ≤ (t : Int) ∧ (t : Int) < 15 := by omega
  have t15 : t < 15 := by omega
  refine lp0 (F := fun m (x : Int × Int) i => f_X12_opensOne_L8 k (t : Int) z2 B m x.1 x.2 i) z (fun i y => (y.1 = 0 ∨ y.1 = 1) ∧ (y.2 = 0 ∨ y.2 = 1) ∧ (y.1 = 1 ↔ ∃ j, j < i ∧ ∃ u : Nat, chB B t j = 16 + (u : Int) ∧ ∃ v, v < 4 ∧ aOK B n u v ∧ B 60 0 (4 * u + v) < 3) ∧ (y.2 = 1 ↔ ∃ j, j < i ∧ ∃ u : Nat, chB B t j = 16 + (u : Int) ∧ ∃ v, v < 4 ∧ aOK B n u v ∧ 3 < B 60 0 (4 * u + v))) (fun r => ∃ y3 y4, r = k y3 y4 ∧ (y3 = 0 ∨ y3 = 1) ∧ (y4 = 0 ∨ y4 = 1) ∧ (y3 = 1 ↔ unf B n t) ∧ (y4 = 1 ↔ bad B n t)) hz (0, 0) ⟨Or.inl rfl, Or.inl rfl, ⟨fun q => absurd q ne01, fun ⟨v, q, _⟩ => absurd q (Nat.not_lt_zero _)⟩, ⟨fun q => absurd q ne01, fun ⟨v, q, _⟩ => absurd q (Nat.not_lt_zero _)⟩⟩ (fun m i y hi hp => Or.inl ?_) (fun m y hp => ?_)
  · obtain ⟨p1, p2, p3, p4⟩ := hp
    have hiB : (i : Int) < B 41 0 t := by rw [z3]; exact Int.ofNat_lt.mpr hi
    have c := ch_in hS hT ht hiB
    have w1 : wI ((i : Int) + 1) = ((i + 1 : Nat) : Int) := wI_s (by omega)
    show ∃ x' : Int × Int, f_X12_opensOne_L8 k (t : Int) z2 B (m + 1) y.1 y.2 (i : Int) = f_X12_opensOne_L8 k (t : Int) z2 B m x'.1 x'.2 ((i + 1 : Nat) : Int) ∧ _
    rw [f_X12_opensOne_L8, og_t g15, Int.toNat_natCast, if_pos hiB, inO hRI t15 hiB, ob_s, w1]
    by_cases e : chB B t i < 16
    · have hneg : wI (chB B t i - 16) < 0 := by rw [wI_eq (by unfold nmI; omega)]; omega
      refine ⟨y, ?_, p1, p2, ?_, ?_⟩
      · rw [f_X12_opensOne_L34, if_pos hneg]
      · rw [ex_s1 (s := i), p3]
        exact ⟨Or.inl, fun q => q.elim id (fun ⟨u, q, _⟩ => absurd q (by omega))⟩
      · rw [ex_s1 (s := i), p4]
        exact ⟨Or.inl, fun q => q.elim id (fun ⟨u, q, _⟩ => absurd q (by omega))⟩
    · obtain ⟨u, hu⟩ : ∃ u : Nat, chB B t i = 16 + (u : Int) := ⟨(chB B t i).toNat - 16, by omega⟩
      have hun : u < n := by omega
      have hu14 : u < 14 := by omega
      obtain ⟨m0, m1, m2, m3, m4⟩ := shT hT hun
      have w2 : wI (chB B t i - 16) = (u : Int) := by rw [hu, show 16 + (u : Int) - 16 = (u : Int) by omega, wI_n (by omega)]
      obtain ⟨y3, y4, q1, q2, q3, q4, q5⟩ := ops34 (z1 := (t : Int)) (z2 := z2) (z5 := (i : Int)) (k := fun (y3_34_107 : Int) (y4_34_107 : Int) => f_X12_opensOne_L8 k (t : Int) z2 B m y3_34_107 y4_34_107 ((i + 1 : Nat) : Int)) hu14 hun m4 m2 p1 p2
      refine ⟨(y3, y4), ?_, q2, q3, ?_, ?_⟩
      · rw [w2]; exact q1
      · show y3 = 1 ↔ _
        rw [q4, p3, ex_s1 (s := i)]
        exact ⟨fun q => q.elim Or.inl (fun q => Or.inr ⟨u, hu, q⟩), fun q => q.elim Or.inl (fun ⟨u', q, q'⟩ => Or.inr ((show u' = u by omega) ▸ q'))⟩
      · show y4 = 1 ↔ _
        rw [q5, p4, ex_s1 (s := i)]
        exact ⟨fun q => q.elim Or.inl (fun q => Or.inr ⟨u, hu, q⟩), fun q => q.elim Or.inl (fun ⟨u', q, q'⟩ => Or.inr ((show u' = u by omega) ▸ q'))⟩
  · obtain ⟨p1, p2, p3, p4⟩ := hp
    refine ⟨y.1, y.2, ?_, p1, p2, p3.trans ?_, p4.trans ?_⟩
    · show f_X12_opensOne_L8 k (t : Int) z2 B (m + 1) y.1 y.2 (z : Int) = _
      rw [f_X12_opensOne_L8, og_t g15, Int.toNat_natCast, z3, if_neg (Int.lt_irrefl _)]
    · unfold unf isI
      rw [z3]
      constructor
      · rintro ⟨j, j1, u, j2, v, j3⟩; exact ⟨u, v, ⟨j, Int.ofNat_lt.mpr j1, j2⟩, j3⟩
      · rintro ⟨u, v, ⟨j, j1, j2⟩, j3⟩; exact ⟨j, Int.ofNat_lt.mp j1, u, j2, v, j3⟩
    · unfold bad isI
      rw [z3]
      constructor
      · rintro ⟨j, j1, u, j2, v, j3⟩; exact ⟨u, v, ⟨j, Int.ofNat_lt.mpr j1, j2⟩, j3⟩
      · rintro ⟨u, v, ⟨j, j1, j2⟩, j3⟩; exact ⟨j, Int.ofNat_lt.mp j1, u, j2, v, j3⟩
