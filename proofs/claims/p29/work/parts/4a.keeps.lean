/-! ### what the questions scribble on -/
theorem Rel_b {c : Nat} {A B A' B' : gM} (h : Rel c A B) (fA : But [21, 22] A' A) (fB : But [73, 74] B' B) : Rel c A' B' := by
  obtain ⟨n, h1, h2, h3, h4, h5, h6, h7⟩ := h
  exact ⟨n, RS_c h1 (fun q hq => by rw [But_l fA (K := [12, 13, 14, 15, 16]) rfl q hq]) (by rw [But_q fA rfl]) (But_l fB rfl) (by rw [But_q fB rfl]), RT_c h2 (But_l fA rfl) (by rw [But_q fA rfl]) (fun t k _ => by rw [But_q fA rfl]) (But_l fB rfl) (by rw [But_q fB rfl]), RC_c h3 (But_q fA rfl) (But_q fA rfl) (But_l fB rfl) (by rw [But_q fB rfl]), RO_c h4 (by rw [But_q fA rfl]) (by rw [But_q fA rfl]) (But_q fA rfl) (by rw [But_q fA rfl]) (by rw [But_q fB rfl]) (by rw [But_q fB rfl]) (by rw [But_q fB rfl]) (But_q fB rfl), RW_c h5 (But_q fA rfl) (But_l fB rfl) (by rw [But_q fB rfl]), RB_c h6 (But_q fA rfl) (by rw [But_q fA rfl]) (by rw [But_q fA rfl]) (by rw [But_q fA rfl]) (by rw [But_q fA rfl]) (fun t k _ => by rw [But_q fA rfl]) (by rw [But_q fA rfl]) (But_l fB rfl) (by rw [But_q fB rfl]) (by rw [But_q fB rfl]) (by rw [But_q fB rfl]) (by rw [But_q fB rfl]), RG_c h7 (But_l fB rfl) (by rw [But_q fB rfl]) (by rw [But_q fB rfl])⟩
theorem Rel_f {c : Nat} {A B A' B' : gM} (h : Rel c A B) (fA : But [7] A' A) (a7 : ∀ t k, k ≠ 10 → A' 7 t k = A 7 t k) (fB : But [73, 74] B' B) : Rel c A' B' := by
  obtain ⟨n, h1, h2, h3, h4, h5, h6, h7⟩ := h
  exact ⟨n, RS_c h1 (fun q hq => by rw [But_l fA (K := [12, 13, 14, 15, 16]) rfl q hq]) (by rw [But_q fA rfl]) (But_l fB rfl) (by rw [But_q fB rfl]), RT_c h2 (But_l fA rfl) (by rw [But_q fA rfl]) (fun t k hk => a7 t k (by omega)) (But_l fB rfl) (by rw [But_q fB rfl]), RC_c h3 (But_q fA rfl) (But_q fA rfl) (But_l fB rfl) (by rw [But_q fB rfl]), RO_c h4 (by rw [But_q fA rfl]) (by rw [But_q fA rfl]) (But_q fA rfl) (by rw [But_q fA rfl]) (by rw [But_q fB rfl]) (by rw [But_q fB rfl]) (by rw [But_q fB rfl]) (But_q fB rfl), RW_c h5 (But_q fA rfl) (But_l fB rfl) (by rw [But_q fB rfl]), RB_c h6 (But_q fA rfl) (by rw [But_q fA rfl]) (by rw [But_q fA rfl]) (by rw [But_q fA rfl]) (by rw [But_q fA rfl]) (fun t k hk => a7 t k (by omega)) (by rw [But_q fA rfl]) (But_l fB rfl) (by rw [But_q fB rfl]) (by rw [But_q fB rfl]) (by rw [But_q fB rfl]) (by rw [But_q fB rfl]), RG_c h7 (But_l fB rfl) (by rw [But_q fB rfl]) (by rw [But_q fB rfl])⟩
theorem OKB_p {A B M : gM} {n c : Nat} (h1 : RS A B) (h2 : RT A B n) (h6 : RB A B n c) (hM : OKB M B) : RS A M ∧ RT A M n ∧ RB A M n c := by
  obtain ⟨b1, b2⟩ := hM
  exact ⟨RS_c h1 (fun _ _ => rfl) rfl (But_l b1 rfl) (b2 4 (by decide) (by decide)), RT_c h2 (fun _ _ => rfl) rfl (fun _ _ _ => rfl) (But_l b1 rfl) (b2 7 (by decide) (by decide)), RB_c h6 rfl rfl rfl rfl rfl (fun _ _ _ => rfl) rfl (But_l b1 rfl) (b2 37 (by decide) (by decide)) (b2 36 (by decide) (by decide)) (b2 43 (by decide) (by decide)) (b2 48 (by decide) (by decide))⟩
/-! ### what all that a target needs is -/
def AS (B : gM) (n : Nat) (P : Nat → Prop) (t : Nat) : Prop := ∀ u, (wnN B n (2 ^ t)).testBit u = true → P u
theorem AS_rec {A B : gM} {n t : Nat} {P : Nat → Prop} (hS : RS A B) (hT : RT A B n) (ht : t < n) : AS B n P t ↔ P t ∧ ∀ v, isI B t v → AS B n P v := by
  constructor
  · intro h
    exact ⟨h t ((wn_rec hS hT ht t).mpr (Or.inl rfl)), fun v hv u hu => h u ((wn_rec hS hT ht u).mpr (Or.inr ⟨v, hv, hu⟩))⟩
  · rintro ⟨h1, h2⟩ u hu
    rcases (wn_rec hS hT ht u).mp hu with q | ⟨v, v1, v2⟩
    · rw [q]; exact h1
    · exact h2 v v1 u v2
/-- all actions of a needed target are DONE; none as a flake, if y = 0 -/
def dnP (B : gM) (n : Nat) (y : Int) (u : Nat) : Prop := ndd B u ∧ ∀ s, s < 4 → aOK B n u s → B 60 0 (4 * u + s) = 3 ∧ (y = 0 → B 64 0 (4 * u + s) = 0)
theorem aOK_lt {A B : gM} {n t s z : Nat} (ht : t < n) (z4 : B 38 0 t = (z : Int)) : aOK B n t s ↔ s < z := by
  unfold aOK
  rw [z4]
  exact ⟨fun q => Int.ofNat_lt.mp q.2, fun q => ⟨ht, Int.ofNat_lt.mpr q⟩⟩
/-- an action of the class is DONE -/
theorem st3 {A B : gM} {n c t s : Nat} (hT : RT A B n) (hRB : RB A B n c) (hs : s < 4) (hao : aOK B n t s) : A 9 (4 * t + s) 2 = 3 ↔ ndd B t ∧ B 60 0 (4 * t + s) = 3 := by
  have h14 : t < 14 := Nat.lt_of_lt_of_le hao.1 hT.1
  obtain ⟨-, -, g1, g2⟩ := hRB.2.2.2.2.2.2.2.1 t s h14 hs
  by_cases hd : ndd B t
  · rw [(g1 ⟨hao, hd⟩).1]
    exact ⟨fun q => ⟨hd, q⟩, fun q => q.2⟩
  · rw [g2 (fun z => hd z.2)]
    exact ⟨fun q => absurd q (by decide), fun q => absurd q.1 hd⟩
theorem st5 {A B : gM} {n c t s : Nat} (hT : RT A B n) (hRB : RB A B n c) (hs : s < 4) (hao : aOK B n t s) (hd : ndd B t) (h3 : B 60 0 (4 * t + s) = 3) : A 9 (4 * t + s) 5 = B 64 0 (4 * t + s) := by
  have h14 : t < 14 := Nat.lt_of_lt_of_le hao.1 hT.1
  obtain ⟨-, -, g1, -⟩ := hRB.2.2.2.2.2.2.2.1 t s h14 hs
  exact (g1 ⟨hao, hd⟩).2.2 h3
/-- the class: all actions of a target are DONE -/
theorem adC {A B : gM} {n c t : Nat} (hT : RT A B n) (hRB : RB A B n c) (ht : t < n) : (f_X8_isAllDone t A = some 1 ∧ dnP B n 1 t) ∨ (f_X8_isAllDone t A = some 0 ∧ ¬ dnP B n 1 t) := by
  obtain ⟨z, z1, z2, z3, z4⟩ := shT hT ht
  have hz : z < 64 := by omega
  have ao : ∀ s, aOK B n t s ↔ s < z := fun s => aOK_lt (A := A) ht z4
  unfold f_X8_isAllDone
  refine lp0 (F := fun m (_ : Unit) i => f_X8_isAllDone_L2 (some 1) t A m i) z (fun i _ => ∀ s, s < i → A 9 (4 * t + s) 2 = 3) (fun r => (r = some 1 ∧ dnP B n 1 t) ∨ (r = some 0 ∧ ¬ dnP B n 1 t)) hz () (fun s q => absurd q (Nat.not_lt_zero _)) (fun m i _ hi hp => ?_) (fun m _ hp => Or.inl ⟨?_, ?_, fun s hs ho => ?_⟩)
  · have hi4 : i < 4 := Nat.lt_of_lt_of_le hi z2
    have hao := (ao i).mpr hi
    have w1 : wI ((i : Int) + 1) = ((i + 1 : Nat) : Int) := wI_s (by omega)
    have step : f_X8_isAllDone_L2 (some 1) t A (m + 1) (i : Int) = if A 9 (4 * t + i) 2 = 3 then f_X8_isAllDone_L2 (some 1) t A m ((i + 1 : Nat) : Int) else some 0 := by
      rw [f_X8_isAllDone_L2, z3, if_pos (Int.ofNat_lt.mpr hi), aAt hi4, w1]
    by_cases e : A 9 (4 * t + i) 2 = 3
    · refine Or.inl ⟨(), by show f_X8_isAllDone_L2 (some 1) t A (m + 1) (i : Int) = _; rw [step, if_pos e], fun s hs => ?_⟩
      by_cases q : s = i
      · rw [q]; exact e
      · exact hp s (lt_ne hs q)
    · refine Or.inr (Or.inr ⟨by show f_X8_isAllDone_L2 (some 1) t A (m + 1) (i : Int) = _; rw [step, if_neg e], fun q => e ?_⟩)
      exact (st3 hT hRB hi4 hao).mpr ⟨q.1, (q.2 i hi4 hao).1⟩
  · show f_X8_isAllDone_L2 (some 1) t A (m + 1) (z : Int) = _
    rw [f_X8_isAllDone_L2, z3, if_neg (Int.lt_irrefl _)]
  · exact ((st3 hT hRB (by decide) ((ao 0).mpr z1)).mp (hp 0 z1)).1
  · exact ⟨((st3 hT hRB hs ho).mp (hp s ((ao s).mp ho))).2, fun q => absurd q ne10⟩
/-- the class: a target is sound by itself -/
theorem saC {A B : gM} {n c t : Nat} (hT : RT A B n) (hRB : RB A B n c) (ht : t < n) : (f_X8_isSoundAlone t A = some 1 ∧ dnP B n 0 t) ∨ (f_X8_isSoundAlone t A = some 0 ∧ ¬ dnP B n 0 t) := by
  obtain ⟨z, z1, z2, z3, z4⟩ := shT hT ht
  have hz : z < 64 := by omega
  have ao : ∀ s, aOK B n t s ↔ s < z := fun s => aOK_lt (A := A) ht z4
  unfold f_X8_isSoundAlone
  refine lp0 (F := fun m (_ : Unit) i => f_X8_isSoundAlone_L2 (some 1) t A m i) z (fun i _ => ∀ s, s < i → A 9 (4 * t + s) 2 = 3 ∧ A 9 (4 * t + s) 5 = 0) (fun r => (r = some 1 ∧ dnP B n 0 t) ∨ (r = some 0 ∧ ¬ dnP B n 0 t)) hz () (fun s q => absurd q (Nat.not_lt_zero _)) (fun m i _ hi hp => ?_) (fun m _ hp => Or.inl ⟨?_, ?_, fun s hs ho => ?_⟩)
  · have hi4 : i < 4 := Nat.lt_of_lt_of_le hi z2
    have hao := (ao i).mpr hi
    have w1 : wI ((i : Int) + 1) = ((i + 1 : Nat) : Int) := wI_s (by omega)
    have step : f_X8_isSoundAlone_L2 (some 1) t A (m + 1) (i : Int) = if A 9 (4 * t + i) 2 = 3 ∧ A 9 (4 * t + i) 5 = 0 then f_X8_isSoundAlone_L2 (some 1) t A m ((i + 1 : Nat) : Int) else some 0 := by
      rw [f_X8_isSoundAlone_L2, z3, if_pos (Int.ofNat_lt.mpr hi), aAt hi4, w1]
      unfold f_X0_isSound
      by_cases e : A 9 (4 * t + i) 2 = 3
      · rw [if_pos e]
        by_cases e2 : A 9 (4 * t + i) 5 = 0
        · rw [if_pos e2, if_neg ne10, if_pos ⟨e, e2⟩]
        · rw [if_neg e2, if_pos rfl, if_neg (fun q => e2 q.2)]
      · rw [if_neg e, if_pos rfl, if_neg (fun q => e q.1)]
    by_cases e : A 9 (4 * t + i) 2 = 3 ∧ A 9 (4 * t + i) 5 = 0
    · refine Or.inl ⟨(), by show f_X8_isSoundAlone_L2 (some 1) t A (m + 1) (i : Int) = _; rw [step, if_pos e], fun s hs => ?_⟩
      by_cases q : s = i
      · rw [q]; exact e
      · exact hp s (lt_ne hs q)
    · refine Or.inr (Or.inr ⟨by show f_X8_isSoundAlone_L2 (some 1) t A (m + 1) (i : Int) = _; rw [step, if_neg e], fun q => e ?_⟩)
      have q3 := (q.2 i hi4 hao).1
      refine ⟨(st3 hT hRB hi4 hao).mpr ⟨q.1, q3⟩, ?_⟩
      rw [st5 hT hRB hi4 hao q.1 q3]
      exact (q.2 i hi4 hao).2 rfl
  · show f_X8_isSoundAlone_L2 (some 1) t A (m + 1) (z : Int) = _
    rw [f_X8_isSoundAlone_L2, z3, if_neg (Int.lt_irrefl _)]
  · exact ((st3 hT hRB (by decide) ((ao 0).mpr z1)).mp (hp 0 z1).1).1
  · obtain ⟨p1, p2⟩ := hp s ((ao s).mp ho)
    obtain ⟨q1, q2⟩ := (st3 hT hRB hs ho).mp p1
    refine ⟨q2, fun _ => ?_⟩
    rw [← st5 hT hRB hs ho q1 q2]
    exact p2
/-- the class: the sound targets -/
theorem stC {A B : gM} {n c : Nat} (hS : RS A B) (hT : RT A B n) (hRB : RB A B n c) : ∃ g : Nat, f_X5_soundTargets A = some (g : Int) ∧ g < 16384 ∧ ∀ u, u < n → (g.testBit u = true ↔ AS B n (dnP B n 0) u) := by
  have h14 := hT.1
  have hn64 : n < 64 := by omega
  unfold f_X5_soundTargets
  refine lp0 (F := fun m (g : Nat) i => f_X5_soundTargets_L4 (fun (y1_4_49 : Int) => some y1_4_49) A m (g : Int) i) n (fun t g => g < 16384 ∧ (∀ u, u < t → (g.testBit u = true ↔ AS B n (dnP B n 0) u)) ∧ ∀ u, t ≤ u → g.testBit u = false) (fun r => ∃ g : Nat, r = some (g : Int) ∧ g < 16384 ∧ ∀ u, u < n → (g.testBit u = true ↔ AS B n (dnP B n 0) u)) hn64 0 ⟨by decide, fun u q => absurd q (Nat.not_lt_zero _), fun u _ => Nat.zero_testBit u⟩ (fun m t g ht hp => Or.inl ?_) (fun m g hp => ⟨g, ?_, hp.1, hp.2.1⟩)
  · obtain ⟨p1, p2, p3⟩ := hp
    have t31 : t < 31 := by omega
    have t14 : t < 14 := Nat.lt_of_lt_of_le ht h14
    have w1 : wI ((t : Int) + 1) = ((t + 1 : Nat) : Int) := wI_s (by omega)
    obtain ⟨ib1, ib2⟩ := ib_bits hS hT ht
    have hsub : (gAnd ((ibN B t : Nat) : Int) (gXor (g : Int) (-1)) = 0) ↔ ∀ u, isI B t u → AS B n (dnP B n 0) u := by
      rw [sub_n (lt14_31 ib1)]
      constructor
      · intro h u hu
        have ut := isI_lt hS hT ht hu
        exact (p2 u ut).mp (h u (Nat.lt_trans ut t31) ((ib2 u).mpr hu))
      · intro h u _ hu
        have hi := (ib2 u).mp hu
        exact (p2 u (isI_lt hS hT ht hi)).mpr (h u hi)
    have hrec := AS_rec (P := dnP B n 0) hS hT ht
    have yes : AS B n (dnP B n 0) t → (g ||| 2 ^ t) < 16384 ∧ (∀ u, u < t + 1 → ((g ||| 2 ^ t).testBit u = true ↔ AS B n (dnP B n 0) u)) ∧ ∀ u, t + 1 ≤ u → (g ||| 2 ^ t).testBit u = false := fun ha => by
      refine ⟨or_14 p1 (pow_14 t14), fun u hu => ?_, fun u hu => ?_⟩
      · rw [or_set]
        by_cases e : u = t
        · rw [e]; exact ⟨fun _ => ha, fun _ => Or.inr rfl⟩
        · exact ⟨fun q => (p2 u (lt_ne hu e)).mp (q.resolve_right e), fun q => Or.inl ((p2 u (lt_ne hu e)).mpr q)⟩
      · refine Bool.eq_false_iff.mpr (fun q => ?_)
        rcases or_set.mp q with z | z
        · rw [p3 u (Nat.le_of_succ_le hu)] at z; cases z
        · omega
    have no : ¬ AS B n (dnP B n 0) t → g < 16384 ∧ (∀ u, u < t + 1 → (g.testBit u = true ↔ AS B n (dnP B n 0) u)) ∧ ∀ u, t + 1 ≤ u → g.testBit u = false := fun ha => by
      refine ⟨p1, fun u hu => ?_, fun u hu => p3 u (Nat.le_of_succ_le hu)⟩
      by_cases e : u = t
      · rw [e, p3 t (Nat.le_refl _)]
        exact ⟨fun q => (by cases q), fun q => absurd q ha⟩
      · exact p2 u (lt_ne hu e)
    have step : ∀ r : Int, f_X8_isSoundAlone t A = some r → f_X5_soundTargets_L4 (fun (y1_4_49 : Int) => some y1_4_49) A (m + 1) (g : Int) (t : Int) = if r = 0 then f_X5_soundTargets_L4 (fun (y1_4_49 : Int) => some y1_4_49) A m (g : Int) ((t + 1 : Nat) : Int) else if gAnd ((ibN B t : Nat) : Int) (gXor (g : Int) (-1)) = 0 then f_X5_soundTargets_L4 (fun (y1_4_49 : Int) => some y1_4_49) A m ((g ||| 2 ^ t : Nat) : Int) ((t + 1 : Nat) : Int) else f_X5_soundTargets_L4 (fun (y1_4_49 : Int) => some y1_4_49) A m (g : Int) ((t + 1 : Nat) : Int) := fun r hr => by
      rw [f_X5_soundTargets_L4, hT.2.1, if_pos (Int.ofNat_lt.mpr ht), tAt hT.2.1 h14 ht, hr, ob_s]
      dsimp only [oj]
      rw [inTc hS hT ht, ob_s, w1, gShl_n t31, gOr_n (lt14_31 p1) (lt14_31 (pow_14 t14))]
    show ∃ x' : Nat, f_X5_soundTargets_L4 _ A (m + 1) (g : Int) (t : Int) = f_X5_soundTargets_L4 _ A m (x' : Int) ((t + 1 : Nat) : Int) ∧ _
    rcases saC hT hRB ht with ⟨q1, q2⟩ | ⟨q1, q2⟩
    · by_cases e : gAnd ((ibN B t : Nat) : Int) (gXor (g : Int) (-1)) = 0
      · exact ⟨g ||| 2 ^ t, by rw [step 1 q1, if_neg ne10, if_pos e], yes (hrec.mpr ⟨q2, hsub.mp e⟩)⟩
      · exact ⟨g, by rw [step 1 q1, if_neg ne10, if_neg e], no (fun z => e (hsub.mpr (hrec.mp z).2))⟩
    · exact ⟨g, by rw [step 0 q1, if_pos rfl], no (fun z => q2 (hrec.mp z).1)⟩
  · show f_X5_soundTargets_L4 _ A (m + 1) (g : Int) (n : Int) = _
    rw [f_X5_soundTargets_L4, hT.2.1, if_neg (Int.lt_irrefl _)]
