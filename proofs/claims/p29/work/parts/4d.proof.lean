/-! ### proof -/
def prB (B : gM) (t : Nat) : Int := itr (fun s x => pls (pls x (B 61 0 (4 * t + s))) (B 62 0 (4 * t + s))) (B 38 0 t).toNat 0 7
def prI (B : gM) (P : Nat → Int) (t k : Nat) (x : Int) : Int := if chB B t k < 16 then x else pls x (P ((chB B t k).toNat - 16))
def prV (B : gM) (P : Nat → Int) (t : Nat) : Int := itr (prI B P t) (B 41 0 t).toNat 0 (prB B t)
theorem prV_c {A B : gM} {n t : Nat} {P P' : Nat → Int} (hT : RT A B n) (ht : t < n) (h : ∀ u, isI B t u → P u = P' u) : prV B P t = prV B P' t := by
  obtain ⟨z, z1, z2, z3⟩ := szT hT ht
  unfold prV
  rw [z3, Int.toNat_natCast]
  refine itr_congr (P := fun _ _ => True) (B := z) (fun i x hi _ => ⟨?_, trivial⟩) z 0 _ (by omega) trivial
  unfold prI
  by_cases e : chB B t i < 16
  · rw [if_pos e, if_pos e]
  · have hu : isI B t ((chB B t i).toNat - 16) := ⟨i, by rw [z3]; exact Int.ofNat_lt.mpr hi, by omega⟩
    rw [if_neg e, if_neg e, h _ hu]
theorem pr5 {A M B : gM} {n c t : Nat} {k : Int → Option Int} (hT : RT A B n) (hRB : RB A B n c) (ht : t < n) (hM : But [21] M A) : f_X5_proofOverInputs_L5 k t M 64 7 0 = k (prB B t) := by
  obtain ⟨z, z1, z2, z3, z4⟩ := shT hT ht
  have e7 : M 7 t 6 = (z : Int) := by rw [But_q hM rfl]; exact z3
  have hz : z < 64 := by omega
  have key := (loop_up (F := fun m (x : Int) i => f_X5_proofOverInputs_L5 k t M m x i) (B := z) (K := k) (st := fun s x => pls (pls x (B 61 0 (4 * t + s))) (B 62 0 (4 * t + s))) (P := fun _ _ => True) (fun m i x hi _ => ⟨by
    have hi4 : i < 4 := Nat.lt_of_lt_of_le hi z2
    have w1 : wI ((i : Int) + 1) = ((i + 1 : Nat) : Int) := wI_s (by omega)
    obtain ⟨y1, y2, -⟩ := hRB.2.2.2.2.2.2.1 (4 * t + i)
    show f_X5_proofOverInputs_L5 k t M (m + 1) x (i : Int) = _
    rw [f_X5_proofOverInputs_L5, e7, if_pos (Int.ofNat_lt.mpr hi), aAt hi4, show M 9 = A 9 from But_q hM rfl, y1, y2, w1]
    rfl, trivial⟩) (fun m x _ => by
    show f_X5_proofOverInputs_L5 k t M (m + 1) x (z : Int) = _
    rw [f_X5_proofOverInputs_L5, e7, if_neg (Int.lt_irrefl _)]) z 64 0 7 (by omega) hz trivial).1
  unfold prB
  rw [z4, Int.toNat_natCast]
  exact key
theorem pr46 {A M B : gM} {n t : Nat} {x0 : Int} (hS : RS A B) (hT : RT A B n) (ht : t < n) (hM : But [21] M A) : f_X5_proofOverInputs_L46 (fun (y2_46_98 : Int) => some y2_46_98) t M 64 x0 0 = some (itr (prI B (M 21 0) t) (B 41 0 t).toNat 0 x0) := by
  obtain ⟨z, z1, z2, z3⟩ := szT hT ht
  have h14 := hT.1
  have e8 : M 8 t 5 = (z : Int) := by rw [But_q hM rfl]; exact z2
  have hz : z < 64 := by omega
  have key := (loop_up (F := fun m (x : Int) i => f_X5_proofOverInputs_L46 (fun (y2_46_98 : Int) => some y2_46_98) t M m x i) (B := z) (K := fun y => some y) (st := prI B (M 21 0) t) (P := fun _ _ => True) (fun m i x hi _ => ⟨by
    have w1 : wI ((i : Int) + 1) = ((i + 1 : Nat) : Int) := wI_s (by omega)
    have hiB : (i : Int) < B 41 0 t := by rw [z3]; exact Int.ofNat_lt.mpr hi
    obtain ⟨c1, c2, c3⟩ := chC hS.2.2.1 (hT.2.2.2.2.2.2 t ht).1 hiB
    have ch : f_X6_chosen t (i : Int) M = chB B t i := by
      rw [← c1]
      unfold f_X6_chosen f_X11_at
      rw [But_q hM rfl, But_q hM rfl, But_q hM rfl, But_q hM rfl, But_q hM rfl]
    show f_X5_proofOverInputs_L46 _ t M (m + 1) x (i : Int) = _
    rw [f_X5_proofOverInputs_L46, e8, if_pos (Int.ofNat_lt.mpr hi), ch, w1]
    dsimp only [oj]
    rw [isTg]
    unfold prI
    by_cases e : chB B t i < 16
    · rw [if_pos e, if_pos rfl, if_pos e]
    · obtain ⟨u, hu⟩ : ∃ u : Nat, chB B t i = 16 + (u : Int) := ⟨(chB B t i).toNat - 16, by omega⟩
      have u14 : u < 14 := by omega
      have w2 : wI (16 + (u : Int) - 16) = (u : Int) := by rw [show 16 + (u : Int) - 16 = (u : Int) by omega, wI_n (by omega)]
      have w3 : (16 + (u : Int)).toNat - 16 = u := by omega
      rw [if_neg e, if_neg ne10, if_neg e, hu, w2, at_in u14, w3]
      rfl, trivial⟩) (fun m x _ => by
    show f_X5_proofOverInputs_L46 _ t M (m + 1) x (z : Int) = _
    rw [f_X5_proofOverInputs_L46, e8, if_neg (Int.lt_irrefl _)]) z 64 0 x0 (by omega) hz trivial).1
  rw [z3, Int.toNat_natCast]
  exact key
theorem prC {A M B : gM} {n c t : Nat} (hS : RS A B) (hT : RT A B n) (hRB : RB A B n c) (ht : t < n) (hM : But [21] M A) : f_X5_proofOverInputs t M = some (prV B (M 21 0) t) := by
  unfold f_X5_proofOverInputs
  rw [pr5 hT hRB ht hM, pr46 hS hT ht hM]
  rfl
/-- P are the proofs of the targets below m that are in S -/
def isP (B : gM) (S : Nat → Prop) (P : Nat → Int) (m : Nat) : Prop := ∀ u, u < m → S u → P u = prV B P u
theorem isP_step {A B : gM} {n t : Nat} {S : Nat → Prop} {P P' : Nat → Int} (hS : RS A B) (hT : RT A B n) (ht : t < n) (h : isP B S P t) (hne : ∀ u, u ≠ t → P' u = P u) (heq : S t → P' t = prV B P t) : isP B S P' (t + 1) := by
  intro u hu hs
  have hun : u < n := by omega
  have key : prV B P' u = prV B P u := prV_c hT hun (fun v hv => hne v (by have := isI_lt hS hT hun hv; omega))
  rw [key]
  by_cases e : u = t
  · rw [e] at hs ⊢
    exact heq hs
  · rw [hne u e]
    exact h u (lt_ne hu e) hs
theorem isP_eq {A B : gM} {n m m' : Nat} {S S' : Nat → Prop} {P P' : Nat → Int} (hS : RS A B) (hT : RT A B n) (hm : m ≤ n) (h : isP B S P m) (h' : isP B S' P' m') (hcl : ∀ t u, t < m → S t → isI B t u → S u) (hSS : ∀ t, t < m → S t → S' t) (hmm : m ≤ m') : ∀ t, t < m → S t → P t = P' t := by
  intro t
  induction t using Nat.strongRecOn with
  | _ t ih =>
    intro ht hs
    have htn : t < n := Nat.lt_of_lt_of_le ht hm
    rw [h t ht hs, h' t (Nat.lt_of_lt_of_le ht hmm) (hSS t ht hs)]
    exact prV_c hT htn (fun u hu => by
      have ut := isI_lt hS hT htn hu
      exact ih u ut (Nat.lt_trans ut ht) (hcl t u ht hs hu))
theorem poC {A B : gM} {n c t : Nat} (hS : RS A B) (hT : RT A B n) (hRB : RB A B n c) (ht : t < n) : ∃ A' : gM, f_X5_proofOf (t : Int) A = some (A' 21 0 t, A') ∧ But [21] A' A ∧ isP B (fun _ => True) (A' 21 0) (t + 1) := by
  have h14 := hT.1
  have t14 : t < 14 := Nat.lt_of_lt_of_le ht h14
  have hz : t + 1 < 64 := by omega
  unfold f_X5_proofOf
  refine lp0 (F := fun m M i => f_X5_proofOf_L2 (fun (M_2_30 : gM) => some (((f_X11_at 21 0 14 (t : Int) M_2_30), M_2_30))) (t : Int) m i M) (t + 1) (fun i M => But [21] M A ∧ isP B (fun _ => True) (M 21 0) i) (fun r => ∃ A' : gM, r = some (A' 21 0 t, A') ∧ But [21] A' A ∧ isP B (fun _ => True) (A' 21 0) (t + 1)) hz A ⟨But_r, fun u q => absurd q (Nat.not_lt_zero _)⟩ (fun m i M hi hp => Or.inl ?_) (fun m M hp => ⟨M, ?_, hp⟩)
  · obtain ⟨p1, p2⟩ := hp
    have hin : i < n := by omega
    have i14 : i < 14 := Nat.lt_of_lt_of_le hin h14
    have nit : ¬ (t : Int) < (i : Int) := by omega
    have w1 : wI ((i : Int) + 1) = ((i + 1 : Nat) : Int) := wI_s (by omega)
    have m2 : M 2 0 5 = (n : Int) := by rw [But_q p1 rfl]; exact hT.2.1
    refine ⟨gU M 21 0 i (prV B (M 21 0) i), ?_, But_u p1 rfl, isP_step hS hT hin p2 (fun u hu => gU_k hu) (fun _ => gU_s _ _ _ _ _)⟩
    show f_X5_proofOf_L2 _ (t : Int) (m + 1) (i : Int) M = _
    rw [f_X5_proofOf_L2, if_neg nit, tAt m2 h14 hin, prC hS hT hRB hin p1, ob_s, w1, store_in i14]
  · have tt : (t : Int) < ((t + 1 : Nat) : Int) := by omega
    show f_X5_proofOf_L2 _ (t : Int) (m + 1) ((t + 1 : Nat) : Int) M = _
    rw [f_X5_proofOf_L2, if_pos tt, at_in t14]
theorem p75 {M B : gM} {A : gM} {n t : Nat} {k : Int → Option (Int × gM)} {v1 N : Int} (hT : RT A B n) (ht : t < n) (hM : But [74] M B) : f_X12_proof_L75 k v1 N (t : Int) M 64 7 0 = k (prB B t) := by
  obtain ⟨z, z1, z2, z3, z4⟩ := shT hT ht
  have h14 : t < 14 := Nat.lt_of_lt_of_le ht hT.1
  have g14 : (0 : Int) ≤ (t : Int) ∧ (t : Int) < 14 := by omega
  have e38 : M 38 0 t = (z : Int) := by rw [But_q hM rfl]; exact z4
  have hz : z < 64 := by omega
  have key := (loop_up (F := fun m (x : Int) i => f_X12_proof_L75 k v1 N (t : Int) M m x i) (B := z) (K := k) (st := fun s x => pls (pls x (B 61 0 (4 * t + s))) (B 62 0 (4 * t + s))) (P := fun _ _ => True) (fun m i x hi _ => ⟨by
    have hi4 : i < 4 := Nat.lt_of_lt_of_le hi z2
    have g56 : (0 : Int) ≤ ((4 * t + i : Nat) : Int) ∧ ((4 * t + i : Nat) : Int) < 56 := by omega
    have w : wI (wI (4 * (t : Int)) + (i : Int)) = ((4 * t + i : Nat) : Int) := w4 (Nat.lt_trans h14 (by decide)) (Nat.lt_trans hi4 (by decide))
    have w1 : wI ((i : Int) + 1) = ((i + 1 : Nat) : Int) := wad1 (Nat.le_trans (Nat.le_of_lt hi4) (by decide))
    show f_X12_proof_L75 k v1 N (t : Int) M (m + 1) x (i : Int) = _
    rw [f_X12_proof_L75, og_t g14, Int.toNat_natCast, e38, if_pos (Int.ofNat_lt.mpr hi), w, og_t g56, og_t g56, Int.toNat_natCast, show M 61 = B 61 from But_q hM rfl, show M 62 = B 62 from But_q hM rfl, w1]
    rfl, trivial⟩) (fun m x _ => by
    show f_X12_proof_L75 k v1 N (t : Int) M (m + 1) x (z : Int) = _
    rw [f_X12_proof_L75, og_t g14, Int.toNat_natCast, e38, if_neg (Int.lt_irrefl _)]) z 64 0 7 (by omega) hz trivial).1
  unfold prB
  rw [z4, Int.toNat_natCast]
  exact key
theorem p127 {A M B : gM} {n t : Nat} {k : Int → Option (Int × gM)} {v1 N x0 : Int} (hS : RS A B) (hT : RT A B n) (ht : t < n) (hM : But [74] M B) : f_X12_proof_L127 k v1 N (t : Int) M 64 x0 0 = k (itr (prI B (M 74 0) t) (B 41 0 t).toNat 0 x0) := by
  obtain ⟨z, z1, z2, z3⟩ := szT hT ht
  have h14 := hT.1
  have g15 : (0 : Int) ≤ (t : Int) ∧ (t : Int) < 15 := by omega
  have t15 : t < 15 := by omega
  have e41 : M 41 0 t = (z : Int) := by rw [But_q hM rfl]; exact z3
  have hz : z < 64 := by omega
  have hTd : Td B M := fun q hq => hM q (fun m => by rw [List.mem_singleton.mp m] at hq; revert hq; decide)
  have hRI := (hT.2.2.2.2.2.2 t ht).1
  have key := (loop_up (F := fun m (x : Int) i => f_X12_proof_L127 k v1 N (t : Int) M m x i) (B := z) (K := k) (st := prI B (M 74 0) t) (P := fun _ _ => True) (fun m i x hi _ => ⟨by
    have w1 : wI ((i : Int) + 1) = ((i + 1 : Nat) : Int) := wI_s (by omega)
    have hiB : (i : Int) < B 41 0 t := by rw [z3]; exact Int.ofNat_lt.mpr hi
    obtain ⟨c2, c3⟩ := ch_in hS hT ht hiB
    show f_X12_proof_L127 k v1 N (t : Int) M (m + 1) x (i : Int) = _
    rw [f_X12_proof_L127, og_t g15, Int.toNat_natCast, e41, if_pos (Int.ofNat_lt.mpr hi), inO_t hTd, inO hRI t15 hiB, ob_s, w1]
    dsimp only [oj]
    unfold prI
    by_cases e : chB B t i < 16
    · rw [if_pos e, if_pos e]
    · obtain ⟨u, hu⟩ : ∃ u : Nat, chB B t i = 16 + (u : Int) := ⟨(chB B t i).toNat - 16, by omega⟩
      have g14 : (0 : Int) ≤ (u : Int) ∧ (u : Int) < 14 := by omega
      have w2 : wI (16 + (u : Int) - 16) = (u : Int) := by rw [show 16 + (u : Int) - 16 = (u : Int) by omega, wI_n (by omega)]
      have w3 : (16 + (u : Int)).toNat - 16 = u := by omega
      rw [if_neg e, if_neg e, hu, w2, og_t g14, Int.toNat_natCast, w3]
      rfl, trivial⟩) (fun m x _ => by
    show f_X12_proof_L127 k v1 N (t : Int) M (m + 1) x (z : Int) = _
    rw [f_X12_proof_L127, og_t g15, Int.toNat_natCast, e41, if_neg (Int.lt_irrefl _)]) z 64 0 x0 (by omega) hz trivial).1
  rw [z3, Int.toNat_natCast]
  exact key
theorem poM {A B : gM} {n t N : Nat} (hS : RS A B) (hT : RT A B n) (ht : t < n) (hN : N < 16384) : ∃ B' : gM, f_X12_proof_L54 (fun (M_54_196 : gM) => og ((0 : Int) ≤ (t : Int) ∧ ((t : Int) : Int) < 14) <| some ((M_54_196 74 0 (t : Int).toNat, M_54_196))) (t : Int) (N : Int) 64 0 B = some (B' 74 0 t, B') ∧ But [74] B' B ∧ isP B (fun u => N.testBit u = true) (B' 74 0) (t + 1) := by
  have h14 := hT.1
  have t14 : t < 14 := Nat.lt_of_lt_of_le ht h14
  have g14 : (0 : Int) ≤ (t : Int) ∧ (t : Int) < 14 := by omega
  have hz : t + 1 < 64 := by omega
  refine lp0 (F := fun m M i => f_X12_proof_L54 (fun (M_54_196 : gM) => og ((0 : Int) ≤ (t : Int) ∧ ((t : Int) : Int) < 14) <| some ((M_54_196 74 0 (t : Int).toNat, M_54_196))) (t : Int) (N : Int) m i M) (t + 1) (fun i M => But [74] M B ∧ isP B (fun u => N.testBit u = true) (M 74 0) i) (fun r => ∃ B' : gM, r = some (B' 74 0 t, B') ∧ But [74] B' B ∧ isP B (fun u => N.testBit u = true) (B' 74 0) (t + 1)) hz B ⟨But_r, fun u q => absurd q (Nat.not_lt_zero _)⟩ (fun m i M hi hp => Or.inl ?_) (fun m M hp => ⟨M, ?_, hp⟩)
  · obtain ⟨p1, p2⟩ := hp
    have hin : i < n := by omega
    have i14 : i < 14 := Nat.lt_of_lt_of_le hin h14
    have i31 : i < 31 := Nat.lt_trans i14 (by decide)
    have gi14 : (0 : Int) ≤ (i : Int) ∧ (i : Int) < 14 := by omega
    have nit : ¬ (t : Int) < (i : Int) := by omega
    have w1 : wI ((i : Int) + 1) = ((i + 1 : Nat) : Int) := wI_s (by omega)
    by_cases b : N.testBit i = true
    · refine ⟨gU M 74 0 i (prV B (M 74 0) i), ?_, But_u p1 rfl, isP_step hS hT hin p2 (fun u hu => gU_k hu) (fun _ => gU_s _ _ _ _ _)⟩
      show f_X12_proof_L54 _ (t : Int) (N : Int) (m + 1) (i : Int) M = _
      rw [f_X12_proof_L54, if_neg nit]
      dsimp only [oj]
      rw [if_pos ((bit_1 (lt14_31 hN) i31).mpr b), w1, p75 hT hin p1]
      refine (p127 hS hT hin p1).trans ?_
      rw [og_t gi14, Int.toNat_natCast]
      rfl
    · refine ⟨M, ?_, p1, isP_step hS hT hin p2 (fun _ _ => rfl) (fun q => absurd q b)⟩
      show f_X12_proof_L54 _ (t : Int) (N : Int) (m + 1) (i : Int) M = _
      rw [f_X12_proof_L54, if_neg nit]
      dsimp only [oj]
      rw [if_neg (fun q => b ((bit_1 (lt14_31 hN) i31).mp q)), w1]
  · have tt : (t : Int) < ((t + 1 : Nat) : Int) := by omega
    show f_X12_proof_L54 _ (t : Int) (N : Int) (m + 1) ((t + 1 : Nat) : Int) M = _
    rw [f_X12_proof_L54, if_pos tt, og_t g14, Int.toNat_natCast]
/-- the class: all actions of some targets are DONE -/
theorem iaC {A B : gM} {n c t : Nat} (hS : RS A B) (hT : RT A B n) (hRB : RB A B n c) (ht : t < n) : (f_X5_isAllDone ((wnN B n (2 ^ t) : Nat) : Int) A = some 1 ∧ AS B n (dnP B n 1) t) ∨ (f_X5_isAllDone ((wnN B n (2 ^ t) : Nat) : Int) A = some 0 ∧ ¬ AS B n (dnP B n 1) t) := by
  have h14 := hT.1
  have hn64 : n < 64 := by omega
  have hN : wnN B n (2 ^ t) < 2 ^ n := wn_lt hS hT (Nat.pow_lt_pow_right (by decide) ht)
  have hN31 := lt14_31 (p14 hN h14)
  have hbit : ∀ u, (wnN B n (2 ^ t)).testBit u = true → u < n := fun u hu => by
    rcases Nat.lt_or_ge u n with q | q
    · exact q
    · rw [Nat.testBit_lt_two_pow (Nat.lt_of_lt_of_le hN (Nat.pow_le_pow_right (by decide) q))] at hu
      cases hu
  unfold f_X5_isAllDone
  refine lp0 (F := fun m (_ : Unit) i => f_X5_isAllDone_L2 (some 1) ((wnN B n (2 ^ t) : Nat) : Int) A m i) n (fun i _ => ∀ u, u < i → (wnN B n (2 ^ t)).testBit u = true → dnP B n 1 u) (fun r => (r = some 1 ∧ AS B n (dnP B n 1) t) ∨ (r = some 0 ∧ ¬ AS B n (dnP B n 1) t)) hn64 () (fun u q => absurd q (Nat.not_lt_zero _)) (fun m i _ hi hp => ?_) (fun m _ hp => Or.inl ⟨?_, fun u hu => hp u (hbit u hu) hu⟩)
  · have hin : (i : Int) < (n : Int) := Int.ofNat_lt.mpr hi
    have i31 : i < 31 := by omega
    have w1 : wI ((i : Int) + 1) = ((i + 1 : Nat) : Int) := wI_s (by omega)
    show (∃ _x : Unit, f_X5_isAllDone_L2 (some 1) ((wnN B n (2 ^ t) : Nat) : Int) A (m + 1) (i : Int) = f_X5_isAllDone_L2 (some 1) ((wnN B n (2 ^ t) : Nat) : Int) A m ((i + 1 : Nat) : Int) ∧ _) ∨ _
    have nx : dnP B n 1 i ∨ ¬ (wnN B n (2 ^ t)).testBit i = true → ∀ u, u < i + 1 → (wnN B n (2 ^ t)).testBit u = true → dnP B n 1 u := fun q u hu hb => by
      by_cases e : u = i
      · rw [e] at hb ⊢
        exact q.resolve_right (fun y => y hb)
      · exact hp u (lt_ne hu e) hb
    have step : f_X5_isAllDone_L2 (some 1) ((wnN B n (2 ^ t) : Nat) : Int) A (m + 1) (i : Int) = if f_X11_bitOf ((wnN B n (2 ^ t) : Nat) : Int) (i : Int) A = 1 then (ob (f_X8_isAllDone i A) fun r24 => if r24 = 0 then some 0 else f_X5_isAllDone_L2 (some 1) ((wnN B n (2 ^ t) : Nat) : Int) A m ((i + 1 : Nat) : Int)) else f_X5_isAllDone_L2 (some 1) ((wnN B n (2 ^ t) : Nat) : Int) A m ((i + 1 : Nat) : Int) := by
      rw [f_X5_isAllDone_L2, hT.2.1, if_pos hin, tAt hT.2.1 h14 hi, w1]
      rfl
    rw [step]
    by_cases b : (wnN B n (2 ^ t)).testBit i = true
    · rw [if_pos (show f_X11_bitOf ((wnN B n (2 ^ t) : Nat) : Int) (i : Int) A = 1 from (bit_1 hN31 i31).mpr b)]
      rcases adC hT hRB hi with ⟨q1, q2⟩ | ⟨q1, q2⟩
      · exact Or.inl ⟨(), by rw [q1, ob_s, if_neg ne10], nx (Or.inl q2)⟩
      · exact Or.inr (Or.inr ⟨by rw [q1, ob_s, if_pos rfl], fun y => q2 (y i b)⟩)
    · rw [if_neg (show ¬ f_X11_bitOf ((wnN B n (2 ^ t) : Nat) : Int) (i : Int) A = 1 from fun q => b ((bit_1 hN31 i31).mp q))]
      exact Or.inl ⟨(), rfl, nx (Or.inr b)⟩
  · show f_X5_isAllDone_L2 (some 1) ((wnN B n (2 ^ t) : Nat) : Int) A (m + 1) (n : Int) = _
    rw [f_X5_isAllDone_L2, hT.2.1, if_neg (Int.lt_irrefl _)]
theorem S_proof {c : Nat} (v1 : Int) : Sim (Rel c) (Rel (c + 1)) (f_L_proof v1) (f_X12_proof v1) := by
  intro A B h
  have h0 := h
  obtain ⟨n, h1, h2, h3, h4, h5, h6, h7⟩ := h0
  have hA := h2.2.1
  have hB := h2.2.2.1
  have hn := h2.1
  by_cases ht : 0 ≤ v1 ∧ v1 < (n : Int)
  · obtain ⟨t, rfl⟩ : ∃ t : Nat, v1 = (t : Int) := ⟨v1.toNat, by omega⟩
    have htn : t < n := by omega
    have t14 : t < 14 := by omega
    have t31 : t < 31 := by omega
    obtain ⟨w1, w2⟩ := wnC h1 h2 (pow_14 t14)
    have cl : ∀ x : Int, f_X5_isAllDone ((wnN B n (2 ^ t) : Nat) : Int) A = some x → f_X11_proof (t : Int) A = ob (f_X11_checkState x A) fun r22 => ox r22 fun _ => ob (f_X5_proofOf (t : Int) A) fun r30 => some (Sum.inr ((r30.1, r30.2))) := fun x hx => by
      unfold f_X11_proof
      rw [cTar hA, if_pos ht, ob_s, ox_r, gShl_n t31, w1, ob_s, hx, ob_s]
    obtain ⟨x, x1, x2, x3⟩ := isM (y := 1) h1 h2 htn
    have i1 : ndd B t → f_X12_isNeeded (t : Int) B = 1 := fun q => if_pos q
    have i0 : ¬ ndd B t → f_X12_isNeeded (t : Int) B = 0 := fun q => if_neg q
    rcases iaC h1 h2 h6 htn with ⟨q1, q2⟩ | ⟨q1, q2⟩
    · have hd : ndd B t := ((AS_rec h1 h2 htn).mp q2).1.1
      have k1 := RS_0 0 h1
      have k2 := RT_0 0 h2
      have hR := Rel_thr 0 (Rel_up h)
      obtain ⟨A', a1, a2, a3⟩ := poC h1 h2 h6 htn
      obtain ⟨B', b1, b2, b3⟩ := poM k1 k2 htn w2
      have b3' : isP B (fun u => (wnN B n (2 ^ t)).testBit u = true) (B' 74 0) (t + 1) := fun u hu hs => by
        rw [b3 u hu hs]
        unfold prV prI prB chB
        simp (disch := decide) only [gU_r]
      have eq := isP_eq (n := n) h1 h2 (Nat.succ_le_of_lt htn) b3' a3 (fun a b ha hb hi => wn_cl h1 h2 n _ a b (Nat.le_refl _) (by omega) hb hi) (fun _ _ _ => trivial) (Nat.le_refl _) t (Nat.lt_succ_self t) (wn_sub n _ t ((pow_bit t t).mpr rfl))
      have e1 : f_L_proof (t : Int) A = some (0, gU A' 75 0 0 (A' 21 0 t)) := by
        unfold f_L_proof
        rw [cl 1 q1, cSta, if_neg ne10, ob_s, ox_r, a1, ob_s, ob_s]
        rfl
      have e2 : f_X12_proof (t : Int) B = some (B' 74 0 t, B') := by
        have xx : x = 1 := x3.mpr q2
        have q := wnM k1 k2 (pow_14 t14)
        rw [wn_t (Td_OKB (OKB_0 0))] at q
        unfold f_X12_proof
        dsimp only [oj]
        rw [isT hB hn, if_pos ht, if_neg ne10, i1 hd, if_neg ne10, x1, ob_s, xx, if_neg ne10, asked_11]
        dsimp only
        rw [if_neg ne10, gShl_n t31, q, ob_s]
        exact b1
      refine ⟨_, _, _, _, e1, e2, ?_, fun _ => ?_, Rel_out _ (Rel_b hR (But_w a2 rfl) (But_w b2 rfl)), fun q y1 y2 => ?_, fun q hq => ?_⟩
      · rw [But_q b2 rfl, gU_s]
      · rw [gU_s]; exact eq.symm
      · rw [gU_r y2]; exact But_c a2 rfl q y1 y2
      · rw [But_m b2 rfl q hq]; exact gU_r (by omega)
    · have e1 : f_L_proof (t : Int) A = some (2, A) := by
        unfold f_L_proof
        rw [cl 0 q1, cSta, if_pos rfl, ob_s, ox_l]
        rfl
      have e2 : f_X12_proof (t : Int) B = some (0, gU B 29 0 0 2) := by
        have x0 : x = 0 := x2.resolve_right (fun y => q2 (x3.mp y))
        unfold f_X12_proof
        dsimp only [oj]
        rw [isT hB hn, if_pos ht, if_neg ne10, asked_10, asked_11, x1, ob_s, x0, if_pos rfl]
        dsimp only
        rw [if_pos rfl]
        by_cases hd : ndd B t
        · rw [i1 hd, if_neg ne10]
        · rw [i0 hd, if_pos rfl]
      exact ⟨_, _, _, _, e1, e2, gU_s _ _ _ _ _, fun q => absurd q (by decide), Rel_thr _ (Rel_up h), fun q _ _ => rfl, fun q hq => gU_r (by omega)⟩
  · have e1 : f_L_proof v1 A = some (1, A) := by
      unfold f_L_proof f_X11_proof
      rw [cTar hA, if_neg ht, ob_s, ox_l]
      rfl
    have e2 : f_X12_proof v1 B = some (0, gU B 29 0 0 1) := by
      unfold f_X12_proof
      dsimp only [oj]
      rw [isT hB hn, if_neg ht, if_pos rfl, asked_0]
      dsimp only
      rw [if_pos rfl]
    exact ⟨_, _, _, _, e1, e2, gU_s _ _ _ _ _, fun q => absurd q (by decide), Rel_thr _ (Rel_up h), fun q _ _ => rfl, fun q hq => gU_r (by omega)⟩
