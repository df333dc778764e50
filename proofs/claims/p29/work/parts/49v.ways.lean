/-! ### ways -/
def tk (B : gM) (u : Nat) : Int := if B 67 0 u = -1 then 5 else B 67 0 u
def mxW (B : gM) (n m u : Nat) (W : Nat → Int) (mx : Int) : Prop := 0 ≤ mx ∧ (∀ v, m ≤ v → v < n → ndd B v → isI B v u → W v ≤ mx) ∧ (mx = 0 ∨ ∃ v, m ≤ v ∧ v < n ∧ ndd B v ∧ isI B v u ∧ W v = mx)
/-- W are the ways of the needed targets from m on -/
def isW (B : gM) (n m : Nat) (W : Nat → Int) : Prop := ∀ u, m ≤ u → u < n → ndd B u → ∃ mx, mxW B n m u W mx ∧ W u = tk B u + mx
theorem mxW_eq {B : gM} {n m m' u : Nat} {W W' : Nat → Int} {mx mx' : Int} (h : mxW B n m u W mx) (h' : mxW B n m' u W' mx') (e : ∀ v, v < n → ndd B v → isI B v u → m ≤ v ∧ m' ≤ v ∧ W v = W' v) : mx = mx' := by
  obtain ⟨a1, a2, a3⟩ := h
  obtain ⟨b1, b2, b3⟩ := h'
  apply Int.le_antisymm
  · rcases a3 with q | ⟨v, v0, v1, v2, v3, v4⟩
    · rw [q]; exact b1
    · have := e v v1 v2 v3
      rw [← v4, this.2.2]
      exact b2 v this.2.1 v1 v2 v3
  · rcases b3 with q | ⟨v, v0, v1, v2, v3, v4⟩
    · rw [q]; exact a1
    · have := e v v1 v2 v3
      rw [← v4, ← this.2.2]
      exact a2 v this.1 v1 v2 v3
theorem isW_eq {A B : gM} {n m m' : Nat} {W W' : Nat → Int} (hS : RS A B) (hT : RT A B n) (h : isW B n m W) (h' : isW B n m' W') : ∀ d u, u + d = n → m ≤ u → m' ≤ u → ndd B u → u < n → W u = W' u := by
  intro d
  induction d using Nat.strongRecOn with
  | _ d ih =>
    intro u hd hm hm' hn hu
    obtain ⟨mx, h1, h2⟩ := h u hm hu hn
    obtain ⟨mx', h1', h2'⟩ := h' u hm' hu hn
    have e := mxW_eq h1 h1' (fun v v1 v2 v3 => by
      have hv := isI_lt hS hT v1 v3
      exact ⟨by omega, by omega, ih (n - v) (by omega) v (by omega) (by omega) (by omega) v2 v1⟩)
    rw [h2, h2', e]
theorem hasM {A B : gM} {n v u : Nat} (hS : RS A B) (hT : RT A B n) (hv : v < n) (hu : u < 14) : (f_X12_hasInput (v : Int) (u : Int) B = some 1 ∧ isI B v u) ∨ (f_X12_hasInput (v : Int) (u : Int) B = some 0 ∧ ¬ isI B v u) := by
  obtain ⟨z, z1, z2, z3⟩ := szT hT hv
  have hz : z < 64 := by omega
  have g15 : (0 : Int) ≤ (v : Int) ∧ (v : Int) < 15 := by have := hT.1; omega
  have v15 : v < 15 := by have := hT.1; omega
  have hRI := (hT.2.2.2.2.2.2 v hv).1
  have wu : wI (16 + (u : Int)) = 16 + (u : Int) := by rw [wI_eq (by unfold nmI; omega)]
  have key : ∃ x : Int, f_X12_hasInput (v : Int) (u : Int) B = some x ∧ (x = 0 ∨ x = 1) ∧ (x = 1 ↔ ∃ k, k < z ∧ chB B v k = 16 + (u : Int)) := by
    unfold f_X12_hasInput
    refine lp0 (F := fun n (x : Int) i => f_X12_hasInput_L5 (fun (y3_5_44 : Int) => some y3_5_44) (v : Int) (u : Int) B n x i) z (fun i x => (x = 0 ∨ x = 1) ∧ (x = 1 ↔ ∃ k, k < i ∧ chB B v k = 16 + (u : Int))) (fun r => ∃ x : Int, r = some x ∧ (x = 0 ∨ x = 1) ∧ (x = 1 ↔ ∃ k, k < z ∧ chB B v k = 16 + (u : Int))) hz 0 ⟨Or.inl rfl, fun q => absurd q ne01, fun ⟨k, q, _⟩ => absurd q (Nat.not_lt_zero _)⟩ (fun m i x hi hp => Or.inl ?_) (fun m x hp => ⟨x, ?_, hp⟩)
    · have hiB : (i : Int) < B 41 0 v := by rw [z3]; exact Int.ofNat_lt.mpr hi
      obtain ⟨r1, r2⟩ := gOr01 hp.1 (show (if chB B v i = 16 + (u : Int) then (1 : Int) else 0) = 0 ∨ (if chB B v i = 16 + (u : Int) then (1 : Int) else 0) = 1 by
        by_cases q : chB B v i = 16 + (u : Int)
        · rw [if_pos q]; exact Or.inr rfl
        · rw [if_neg q]; exact Or.inl rfl)
      have w1 : wI ((i : Int) + 1) = ((i + 1 : Nat) : Int) := wI_s (by omega)
      refine ⟨_, ?_, r1, ?_⟩
      · show f_X12_hasInput_L5 _ (v : Int) (u : Int) B (m + 1) x (i : Int) = _
        rw [f_X12_hasInput_L5, og_t g15, Int.toNat_natCast, if_pos hiB, inO hRI v15 hiB, ob_s]
        dsimp only [oj]
        rw [w1, wu]
        by_cases q : chB B v i = 16 + (u : Int)
        · rw [if_pos q, if_pos q]
        · rw [if_neg q, if_neg q]
      · rw [r2, hp.2, ex_s1 (s := i)]
        by_cases q : chB B v i = 16 + (u : Int)
        · rw [if_pos q]; exact ⟨fun _ => Or.inr q, fun _ => Or.inr rfl⟩
        · rw [if_neg q]; exact ⟨fun z => z.elim Or.inl (fun z => absurd z ne01), fun z => z.elim Or.inl (fun z => absurd z q)⟩
    · show f_X12_hasInput_L5 _ (v : Int) (u : Int) B (m + 1) x (z : Int) = _
      rw [f_X12_hasInput_L5, og_t g15, Int.toNat_natCast, z3, if_neg (Int.lt_irrefl _)]
  obtain ⟨x, x1, x2, x3⟩ := key
  have x4 : x = 1 ↔ isI B v u := by
    rw [x3]
    unfold isI
    rw [z3]
    exact ⟨fun ⟨k, a, b⟩ => ⟨k, Int.ofNat_lt.mpr a, b⟩, fun ⟨k, a, b⟩ => ⟨k, Int.ofNat_lt.mp a, b⟩⟩
  rcases x2 with q | q
  · exact Or.inr ⟨by rw [x1, q], fun z => by have := x4.mpr z; omega⟩
  · exact Or.inl ⟨by rw [x1, q], x4.mp q⟩
/-- a memory that is B but for the ways -/
theorem has_73 {B M : gM} (h : But [73] M B) (v u : Int) : f_X12_hasInput v u M = f_X12_hasInput v u B := by
  have hT : Td B M := fun q hq => h q (fun m => by rw [List.mem_singleton.mp m] at hq; revert hq; decide)
  have key : ∀ k n x i, f_X12_hasInput_L5 k v u M n x i = f_X12_hasInput_L5 k v u B n x i := by
    intro k n
    induction n with
    | zero => intro x i; rfl
    | succ n ih =>
      intro x i
      rw [f_X12_hasInput_L5, f_X12_hasInput_L5, hT 41 (by decide), inO_t hT]
      congr 1
      by_cases q : i < B 41 0 v.toNat
      · rw [if_pos q, if_pos q]
        congr 1
        funext r
        dsimp only [oj]
        rw [ih, ih]
      · rw [if_neg q, if_neg q]
  unfold f_X12_hasInput
  exact key _ _ _ _
theorem tk_in {A B : gM} {n c u : Nat} (h : RB A B n c) (hu : u < 14) : A 7 u 9 = tk B u ∧ 1 ≤ tk B u ∧ tk B u ≤ 50 := by
  obtain ⟨a, b, -⟩ := h.2.2.2.2.2.2.2.2.1 u hu
  unfold tk
  rw [← a]
  exact ⟨rfl, b⟩
/-- the greatest way of those that take u in, on the reference's side -/
theorem way30 {A B M : gM} {n u : Nat} {z1 : Int} {k : Int → Option (Int × gM)} (hS : RS A B) (hT : RT A B n) (hu : u < n) (hM : But [73] M B) : ∃ mx, f_X12_wayOf_L30 k z1 (u : Int) M 64 0 ((u + 1 : Nat) : Int) = k mx ∧ mxW B n (u + 1) u (fun v => M 73 0 v) mx := by
  have h14 := hT.1
  have u14 : u < 14 := Nat.lt_of_lt_of_le hu h14
  have hd : n - (u + 1) < 64 := by omega
  have hsum : u + 1 + (n - (u + 1)) = n := by omega
  have hB7 : M 29 0 7 = (n : Int) := by rw [But_q hM rfl]; exact hT.2.2.1
  refine lp (F := fun m (x : Int) i => f_X12_wayOf_L30 k z1 (u : Int) M m x i) (B := n) (P := fun i x => 0 ≤ x ∧ (∀ v, u + 1 ≤ v → v < i → ndd B v → isI B v u → M 73 0 v ≤ x) ∧ (x = 0 ∨ ∃ v, u + 1 ≤ v ∧ v < n ∧ ndd B v ∧ isI B v u ∧ M 73 0 v = x)) (Q := fun r => ∃ mx, r = k mx ∧ mxW B n (u + 1) u (fun v => M 73 0 v) mx) (fun m i x hi hp => ?_) (fun m x hp => ⟨x, ?_, hp⟩) (n - (u + 1)) 64 (u + 1) 0 hsum hd ⟨Int.le_refl _, fun v a b => absurd a (Nat.not_le.mpr b), Or.inl rfl⟩
  · obtain ⟨p1, p2, p3⟩ := hp
    have w1 : wI ((i : Int) + 1) = ((i + 1 : Nat) : Int) := wI_s (by omega)
    have hin : (i : Int) < (n : Int) := Int.ofNat_lt.mpr hi
    have g14 : (0 : Int) ≤ (i : Int) ∧ (i : Int) < 14 := ⟨Int.natCast_nonneg i, Int.ofNat_lt.mpr (Nat.lt_of_lt_of_le hi h14)⟩
    have step : f_X12_wayOf_L30 k z1 (u : Int) M (m + 1) x (i : Int) = if f_X12_isNeeded (i : Int) M = 0 then f_X12_wayOf_L30 k z1 (u : Int) M m x ((i + 1 : Nat) : Int) else ob (f_X12_hasInput (i : Int) (u : Int) B) fun r52 => if r52 = 0 then f_X12_wayOf_L30 k z1 (u : Int) M m x ((i + 1 : Nat) : Int) else if x < M 73 0 i then f_X12_wayOf_L30 k z1 (u : Int) M m (M 73 0 i) ((i + 1 : Nat) : Int) else f_X12_wayOf_L30 k z1 (u : Int) M m x ((i + 1 : Nat) : Int) := by
      rw [f_X12_wayOf_L30, hB7, if_pos hin]
      dsimp only [oj]
      rw [has_73 hM, w1, Int.toNat_natCast]
      simp only [og_t g14]
    have nN : f_X12_isNeeded (i : Int) M = f_X12_isNeeded (i : Int) B := by
      unfold f_X12_isNeeded
      rw [But_q hM rfl]
    have stay : (¬ (ndd B i ∧ isI B i u) ∨ M 73 0 i ≤ x) → f_X12_wayOf_L30 k z1 (u : Int) M (m + 1) x (i : Int) = f_X12_wayOf_L30 k z1 (u : Int) M m x ((i + 1 : Nat) : Int) → ∃ x', f_X12_wayOf_L30 k z1 (u : Int) M (m + 1) x (i : Int) = f_X12_wayOf_L30 k z1 (u : Int) M m x' ((i + 1 : Nat) : Int) ∧ 0 ≤ x' ∧ (∀ v, u + 1 ≤ v → v < i + 1 → ndd B v → isI B v u → M 73 0 v ≤ x') ∧ (x' = 0 ∨ ∃ v, u + 1 ≤ v ∧ v < n ∧ ndd B v ∧ isI B v u ∧ M 73 0 v = x') := fun q e => ⟨x, e, p1, fun v a b c d => by
      by_cases ev : v = i
      · rw [ev] at c d ⊢
        rcases q with q | q
        · exact absurd ⟨c, d⟩ q
        · exact q
      · exact p2 v a (lt_ne b ev) c d, p3⟩
    refine Or.inl ?_
    by_cases hn : ndd B i
    · have i1 : f_X12_isNeeded (i : Int) M = 1 := by rw [nN]; exact if_pos hn
      rcases hasM hS hT hi u14 with ⟨q1, q2⟩ | ⟨q1, q2⟩
      · by_cases q3 : x < M 73 0 i
        · refine ⟨M 73 0 i, ?_, Int.le_trans p1 (Int.le_of_lt q3), fun v a b c d => ?_, Or.inr ⟨i, isI_lt hS hT hi q2, hi, hn, q2, rfl⟩⟩
          · show f_X12_wayOf_L30 k z1 (u : Int) M (m + 1) x (i : Int) = _
            rw [step, i1, if_neg ne10, q1, ob_s, if_neg ne10, if_pos q3]
          · by_cases ev : v = i
            · rw [ev]; exact Int.le_refl _
            · exact Int.le_trans (p2 v a (lt_ne b ev) c d) (Int.le_of_lt q3)
        · exact stay (Or.inr (Int.not_lt.mp q3)) (by rw [step, i1, if_neg ne10, q1, ob_s, if_neg ne10, if_neg q3])
      · exact stay (Or.inl (fun z => q2 z.2)) (by rw [step, i1, if_neg ne10, q1, ob_s, if_pos rfl])
    · exact stay (Or.inl (fun z => hn z.1)) (by rw [step, nN, show f_X12_isNeeded (i : Int) B = 0 from if_neg hn, if_pos rfl])
  · show f_X12_wayOf_L30 k z1 (u : Int) M (m + 1) x (n : Int) = _
    rw [f_X12_wayOf_L30, hB7, if_neg (Int.lt_irrefl _)]
