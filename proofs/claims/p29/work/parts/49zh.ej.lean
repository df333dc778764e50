/-! ### an action that nobody is at any more -/
def EJ (A B : gM) (n c t s : Nat) : Prop := RS A B ∧ RT A B n ∧ RC A B ∧ RO A B ∧ (W12 A B ∧ W3 0 B n ∧ W4 B) ∧ RB A B n c ∧ G1 B n ∧ G2 B n ∧ (∀ t' s', s' < 4 → aOK B n t' s' → ndd B t' → 4 * t' + s' ≠ 4 * t + s → B 60 0 (4 * t' + s') = 2 → ∃ w, w < 4 ∧ B 54 0 w = ((4 * t' + s' : Nat) : Int)) ∧ s < 4 ∧ aOK B n t s ∧ ndd B t ∧ B 60 0 (4 * t + s) = 2 ∧ ∀ w, w < 4 → B 54 0 w ≠ ((4 * t + s : Nat) : Int)
theorem EJ_act {A B A' B' : gM} {n c t s : Nat} (h : EJ A B n c t s) (h1 : RS A' B') (h2 : RT A' B' n) (h3 : RC A' B') (h4 : RO A' B') (h6 : RB A' B' n c) (hT : TdN B B') (a11 : A' 11 = A 11) (b5 : ∀ q, q ∈ [53, 54, 55, 56, 57, 58, 59] → B' q = B q) (hne : ∀ x, x ≠ 4 * t + s → B' 60 0 x = B 60 0 x) (h2' : B' 60 0 (4 * t + s) ≠ 2) : SJ 0 A' B' n c := by
  obtain ⟨-, -, -, -, ⟨i1, i2, i3⟩, -, g1', g2, g4, hs, hao, hnd, h60, hno⟩ := h
  refine ⟨h1, h2, h3, h4, ⟨⟨fun w => ?_, fun w hw => ?_⟩, W3_act i2 (Int.le_refl 0) hT (fun v hv => Or.inr (Or.inr ⟨fun q hq => by rw [b5 q (by simp only [List.mem_cons, List.not_mem_nil, or_false] at hq ⊢; omega)], fun x hx h2x => ?_⟩)), W4_sub i3 (fun v _ => Or.inr (by rw [b5 54 (by decide)]))⟩, h6, G1_t hT g1', G2_act hT g2 hs hne (by rw [h60]; decide) hao (fun _ => g2 t s hs hao hnd (Or.inr h60)), ?_⟩
  · rw [a11, b5 53 (by decide), b5 54 (by decide), b5 55 (by decide), b5 56 (by decide), b5 57 (by decide), b5 58 (by decide), b5 59 (by decide)]
    exact i1.1 w
  · rw [a11, b5 53 (by decide), b5 55 (by decide), b5 59 (by decide)]
    exact i1.2 w hw
  · have nx : x ≠ 4 * t + s := fun e => hno v hv (by rw [hx, e])
    rw [hne x nx]; exact h2x
  · intro t' s' hs' ho hn hx
    have ho' := (aOK_t hT.1 n t' s').mp ho
    have hn' := (ndd_t hT t').mp hn
    rw [b5 54 (by decide)]
    by_cases e : 4 * t' + s' = 4 * t + s
    · rw [e] at hx; exact absurd hx h2'
    · rw [hne _ e] at hx
      exact g4 t' s' hs' ho' hn' e hx
theorem EJ_free {A B A1 B2 : gM} {n c w t s : Nat} (h : SJ 0 A B n c) (hw : w < 4) (hat : atA 0 B n w t s) (fA : But [11] A1 A) (a11 : ∀ x j, A1 11 x j = if x < 4 ∧ B 54 0 x = ((4 * t + s : Nat) : Int) ∧ (j = 2 ∨ j = 3) then (if x = w ∧ j = 2 then B 36 0 t else -1) else A 11 x j) (fB : But [54, 59] B2 B) (b54 : ∀ x, B2 54 0 x = if x < 4 ∧ B 54 0 x = ((4 * t + s : Nat) : Int) then -1 else B 54 0 x) (b59 : ∀ x, B2 59 0 x = if x < 4 ∧ B 54 0 x = ((4 * t + s : Nat) : Int) then (if x = w then B 36 0 t else -1) else B 59 0 x) : EJ A1 B2 n c t s := by
  obtain ⟨h1, h2, h3, h4, ⟨i1, i2, i3⟩, h6, g1', g2, g4⟩ := h
  obtain ⟨-, hs, hao, hnd, h60, -⟩ := id hat
  have n1 : (-1 : Int) ≠ ((4 * t + s : Nat) : Int) := by omega
  have tN : TdN B B2 := TdN_9 (But_w fB rfl)
  have q60 : B2 60 = B 60 := But_q fB rfl
  obtain ⟨x1, x2, -, -, -⟩ : (G1 B n → G1 B2 n) ∧ (G2 B n → G2 B2 n) ∧ True ∧ True ∧ True := ⟨G1_t tN, fun hg => G2_act tN hg hs (fun _ _ => by rw [q60]) (by rw [h60]; decide) hao (fun _ => hg t s hs hao hnd (Or.inr h60)), trivial, trivial, trivial⟩
  have hno : ∀ x, x < 4 → B2 54 0 x ≠ ((4 * t + s : Nat) : Int) := fun x hx e => by
    rw [b54] at e
    by_cases q : x < 4 ∧ B 54 0 x = ((4 * t + s : Nat) : Int)
    · rw [if_pos q] at e; exact n1 e
    · rw [if_neg q] at e; exact q ⟨hx, e⟩
  have h36 : 0 ≤ B 36 0 t ∧ B 36 0 t ≤ 3 := (h2.2.2.2.2.2.2 t hao.1).2.2.1
  refine ⟨RS_9 h1 (But_w fA rfl) (But_w fB rfl), RT_9 h2 (But_w fA rfl) (But_w fB rfl), RC_9 h3 (But_w fA rfl) (But_w fB rfl), RO_c h4 (by rw [But_q fA rfl]) (by rw [But_q fA rfl]) (But_q fA rfl) (by rw [But_q fA rfl]) (by rw [But_q fB rfl]) (by rw [But_q fB rfl]) (by rw [But_q fB rfl]) (But_q fB rfl), ⟨⟨fun x => ?_, fun x hx => ?_⟩, W3_act i2 (Int.le_refl 0) tN (fun v hv => ?_), W4_sub i3 (fun v hv => ?_)⟩, RB_c h6 (But_q fA rfl) (by rw [But_q fA rfl]) (by rw [But_q fA rfl]) (by rw [But_q fA rfl]) (by rw [But_q fA rfl]) (fun t k _ => by rw [But_q fA rfl]) (by rw [But_q fA rfl]) (But_l fB rfl) (by rw [But_q fB rfl]) (by rw [But_q fB rfl]) (by rw [But_q fB rfl]) (by rw [But_q fB rfl]), x1 g1', x2 g2, ?_, hs, (aOK_t tN.1 n t s).mpr hao, (ndd_t tN t).mpr hnd, by rw [q60]; exact h60, hno⟩
  · obtain ⟨e1, e2, e3, e4, e5, e6, e7⟩ := i1.1 x
    have nj : ∀ j, j ≠ 2 → j ≠ 3 → A1 11 x j = A 11 x j := fun j j2 j3 => by rw [a11, if_neg (fun z => z.2.2.elim j2 j3)]
    rw [nj 1 (by decide) (by decide), nj 4 (by decide) (by decide), nj 5 (by decide) (by decide), nj 6 (by decide) (by decide), nj 7 (by decide) (by decide), show B2 53 = B 53 from But_q fB rfl, show B2 55 = B 55 from But_q fB rfl, show B2 56 = B 56 from But_q fB rfl, show B2 57 = B 57 from But_q fB rfl, show B2 58 = B 58 from But_q fB rfl, b54, b59]
    by_cases q : x < 4 ∧ B 54 0 x = ((4 * t + s : Nat) : Int)
    · have k2 : A1 11 x 2 = (if x = w then B 36 0 t else -1) := by
        rw [a11, if_pos ⟨q.1, q.2, Or.inl rfl⟩]
        by_cases e : x = w
        · rw [if_pos ⟨e, rfl⟩, if_pos e]
        · rw [if_neg (fun z => e z.1), if_neg e]
      have k3 : A1 11 x 3 = -1 := by
        rw [a11, if_pos ⟨q.1, q.2, Or.inr rfl⟩, if_neg (fun z => absurd z.2 (by decide))]
      rw [if_pos q, if_pos q]
      exact ⟨e1, k2, k3, e4, e5, e6, e7⟩
    · have nq : ∀ j, ¬ (x < 4 ∧ B 54 0 x = ((4 * t + s : Nat) : Int) ∧ (j = 2 ∨ j = 3)) := fun j z => q ⟨z.1, z.2.1⟩
      rw [if_neg q, if_neg q, a11, if_neg (nq 2), a11, if_neg (nq 3)]
      exact ⟨e1, e2, e3, e4, e5, e6, e7⟩
  · obtain ⟨z1, z2, z3, z4⟩ := i1.2 x hx
    rw [a11, if_neg (fun z => absurd z.2.2 (by decide)), show B2 53 = B 53 from But_q fB rfl, show B2 55 = B 55 from But_q fB rfl, b59]
    refine ⟨z1, z2, ?_, z4⟩
    by_cases q : x < 4 ∧ B 54 0 x = ((4 * t + s : Nat) : Int)
    · rw [if_pos q]
      by_cases e : x = w
      · rw [if_pos e]; omega
      · rw [if_neg e]; decide
    · rw [if_neg q]; exact z3
  · rw [b54]
    by_cases q : v < 4 ∧ B 54 0 v = ((4 * t + s : Nat) : Int)
    · rw [if_pos q]; exact Or.inl rfl
    · refine Or.inr (Or.inr ⟨fun y hy => ?_, fun x _ h2x => by rw [q60]; exact h2x⟩)
      by_cases y54 : y = 54
      · rw [y54, b54, if_neg q]
      · have : B2 y = B y := fB y (by simp only [List.mem_cons, List.not_mem_nil, or_false] at hy ⊢; omega)
        rw [this]
  · rw [b54]
    by_cases q : v < 4 ∧ B 54 0 v = ((4 * t + s : Nat) : Int)
    · rw [if_pos q]; exact Or.inl rfl
    · rw [if_neg q]; exact Or.inr rfl
  · intro t' s' hs' ho hn hne hx
    obtain ⟨w', hw', e'⟩ := g4 t' s' hs' ((aOK_t tN.1 n t' s').mp ho) ((ndd_t tN t').mp hn) (by rw [← q60]; exact hx)
    exact ⟨w', hw', by rw [b54, if_neg (fun z => hne (Int.ofNat_inj.mp (e'.symm.trans z.2))), e']⟩
