/-! ### needing -/
def hasI (B : gM) (t : Nat) (v : Int) : Prop := ∃ k : Nat, (k : Int) < B 41 0 t ∧ chB B t k = v
def NDg (B : gM) (n : Nat) (v : Int) (t : Nat) : Prop := (16 ≤ v ∧ (wnN B n (2 ^ t)).testBit (v - 16).toNat = true) ∨ (v < 16 ∧ ∃ u, (wnN B n (2 ^ t)).testBit u = true ∧ u < n ∧ hasI B u v)
theorem wn_le {A B : gM} {n t u : Nat} (hS : RS A B) (hT : RT A B n) (ht : t < n) (h : (wnN B n (2 ^ t)).testBit u = true) : u ≤ t := by
  refine wn_min hS hT (S := fun u => u ≤ t) (fun a b ha hs hi => ?_) n (2 ^ t) (Nat.le_refl _) (fun a ha => ?_) u h
  · have := isI_lt hS hT ha hi; omega
  · rw [pow_bit] at ha; omega
theorem NDg_self {B : gM} {n t : Nat} : NDg B n (16 + (t : Int)) t := Or.inl ⟨by omega, by rw [show (16 + (t : Int) - 16).toNat = t by omega]; exact wn_sub n _ t ((pow_bit t t).mpr rfl)⟩
theorem NDg_rec {A B : gM} {n t : Nat} {v : Int} (hS : RS A B) (hT : RT A B n) (ht : t < n) : NDg B n v t ↔ (v = 16 + (t : Int) ∨ hasI B t v ∨ ∃ u, isI B t u ∧ NDg B n v u) := by
  constructor
  · rintro (⟨h1, h2⟩ | ⟨h1, u, h2, h3, h4⟩)
    · rcases (wn_rec hS hT ht _).mp h2 with q | ⟨w, w1, w2⟩
      · exact Or.inl (by omega)
      · exact Or.inr (Or.inr ⟨w, w1, Or.inl ⟨h1, w2⟩⟩)
    · rcases (wn_rec hS hT ht _).mp h2 with q | ⟨w, w1, w2⟩
      · rw [q] at h4; exact Or.inr (Or.inl h4)
      · exact Or.inr (Or.inr ⟨w, w1, Or.inr ⟨h1, u, w2, h3, h4⟩⟩)
  · rintro (q | q | ⟨u, u1, u2⟩)
    · rw [q]; exact NDg_self
    · by_cases e : v < 16
      · exact Or.inr ⟨e, t, wn_sub n _ t ((pow_bit t t).mpr rfl), ht, q⟩
      · obtain ⟨k, k1, k2⟩ := q
        refine Or.inl ⟨by omega, (wn_rec hS hT ht _).mpr (Or.inr ⟨(v - 16).toNat, ⟨k, k1, by omega⟩, ?_⟩)⟩
        exact wn_sub n _ _ ((pow_bit _ _).mpr rfl)
    · rcases u2 with ⟨h1, h2⟩ | ⟨h1, w, h2, h3, h4⟩
      · exact Or.inl ⟨h1, (wn_rec hS hT ht _).mpr (Or.inr ⟨u, u1, h2⟩)⟩
      · exact Or.inr ⟨h1, w, (wn_rec hS hT ht _).mpr (Or.inr ⟨u, u1, h2⟩), h3, h4⟩
theorem hasC {A B : gM} {n t : Nat} (v : Int) (hS : RS A B) (hT : RT A B n) (ht : t < n) : (f_X5_hasInput t v A = some 1 ∧ hasI B t v) ∨ (f_X5_hasInput t v A = some 0 ∧ ¬ hasI B t v) := by
  obtain ⟨z, z1, z2, z3⟩ := szT hT ht
  unfold f_X5_hasInput
  refine lp0 (F := fun n (_ : Unit) i => f_X5_hasInput_L2 (some 0) t v A n i) z (fun i _ => ∀ k, k < i → chB B t k ≠ v) (fun r => (r = some 1 ∧ hasI B t v) ∨ (r = some 0 ∧ ¬ hasI B t v)) (by omega) () (fun k hk => absurd hk (by omega)) (fun m i _ hi hp => ?_) (fun m _ hp => ?_)
  · obtain ⟨c1, c2, c3⟩ := chC hS.2.2.1 (hT.2.2.2.2.2.2 t ht).1 (k := i) (by rw [z3]; omega)
    by_cases e : chB B t i = v
    · refine Or.inr (Or.inl ⟨?_, i, by rw [z3]; omega, e⟩)
      show f_X5_hasInput_L2 _ t v A (m + 1) (i : Int) = _
      rw [f_X5_hasInput_L2, z2, if_pos (by omega), c1, if_pos e]
    · refine Or.inl ⟨(), ?_, fun k hk => ?_⟩
      · show f_X5_hasInput_L2 _ t v A (m + 1) (i : Int) = _
        rw [f_X5_hasInput_L2, z2, if_pos (by omega), c1, if_neg e, wI_s (by omega)]
      · rcases (show k < i ∨ k = i by omega) with q | q
        · exact hp k q
        · rw [q]; exact e
  · refine Or.inr ⟨?_, ?_⟩
    · show f_X5_hasInput_L2 _ t v A (m + 1) (z : Int) = _
      rw [f_X5_hasInput_L2, z2, if_neg (by omega)]
    · rintro ⟨k, k1, k2⟩
      exact hp k (by omega) k2
theorem tovC {A B : gM} {n : Nat} {v : Int} (hS : RS A B) (hT : RT A B n) (hv : 0 ≤ v ∧ v < 16 + (n : Int)) : ∃ y : Nat, f_X5_targetsOver v A = some (y : Int) ∧ y < 16384 ∧ ∀ u, y.testBit u = true ↔ u < n ∧ NDg B n v u := by
  have h14 := hT.1
  have hA := hT.2.1
  have main : ∀ x : Nat, x < 16384 → (∀ u, x.testBit u = true ↔ v = 16 + (u : Int)) → ∃ y : Nat, f_X5_targetsOver_L20 (fun (y2_20_68 : Int) => some y2_20_68) v A 64 (x : Int) 0 = some (y : Int) ∧ y < 16384 ∧ ∀ u, y.testBit u = true ↔ u < n ∧ NDg B n v u := by
    intro x hx hb
    refine lp0 (F := fun n (x : Nat) i => f_X5_targetsOver_L20 (fun (y2_20_68 : Int) => some y2_20_68) v A n (x : Int) i) n (fun i y => y < 16384 ∧ ∀ u, y.testBit u = true ↔ (v = 16 + (u : Int) ∨ (u < i ∧ NDg B n v u))) (fun r => ∃ y : Nat, r = some (y : Int) ∧ y < 16384 ∧ ∀ u, y.testBit u = true ↔ u < n ∧ NDg B n v u) (by omega) x ⟨hx, fun u => by rw [hb u]; exact ⟨Or.inl, fun q => q.resolve_right (fun z => absurd z.1 (by omega))⟩⟩ (fun m t y ht hp => ?_) (fun m y hp => ?_)
    · obtain ⟨ib1, ib2⟩ := ib_bits hS hT ht
      have hr := NDg_rec (v := v) hS hT ht
      have hcap : (gAnd ((ibN B t : Nat) : Int) (y : Int) = 0) ↔ ¬ ∃ u, isI B t u ∧ NDg B n v u := by
        rw [and0_n (by omega) (by omega)]
        constructor
        · rintro h ⟨u, u1, u2⟩
          have ult := isI_lt hS hT ht u1
          have q := h u (by omega) ((ib2 u).mpr u1)
          have q2 := (hp.2 u).mpr (Or.inr ⟨ult, u2⟩)
          rw [q] at q2
          cases q2
        · intro h u hu q
          refine Bool.eq_false_iff.mpr (fun q2 => h ⟨u, (ib2 u).mp q, ?_⟩)
          rcases (hp.2 u).mp q2 with z | z
          · rw [z]; exact NDg_self
          · exact z.2
      have w1 : wI ((t : Int) + 1) = ((t + 1 : Nat) : Int) := wI_s (by omega)
      have step : ((hasI B t v ∨ ∃ u, isI B t u ∧ NDg B n v u) → f_X5_targetsOver_L20 (fun (y2_20_68 : Int) => some y2_20_68) v A (m + 1) (y : Int) (t : Int) = f_X5_targetsOver_L20 (fun (y2_20_68 : Int) => some y2_20_68) v A m ((y ||| 2 ^ t : Nat) : Int) ((t + 1 : Nat) : Int)) ∧ (¬ (hasI B t v ∨ ∃ u, isI B t u ∧ NDg B n v u) → f_X5_targetsOver_L20 (fun (y2_20_68 : Int) => some y2_20_68) v A (m + 1) (y : Int) (t : Int) = f_X5_targetsOver_L20 (fun (y2_20_68 : Int) => some y2_20_68) v A m (y : Int) ((t + 1 : Nat) : Int)) := by
        rw [f_X5_targetsOver_L20, hA, if_pos (by omega), tAt hA h14 ht, inTc hS hT ht, ob_s]
        dsimp only [oj]
        rw [w1, gShl_n (by omega), gOr_n (by omega) (lt14_31 (pow_14 (by omega)))]
        by_cases e : ∃ u, isI B t u ∧ NDg B n v u
        · rw [if_neg (fun q => (hcap.mp q) e)]
          exact ⟨fun _ => rfl, fun q => absurd (Or.inr e) q⟩
        · rw [if_pos (hcap.mpr e)]
          rcases hasC v hS hT ht with ⟨q1, q2⟩ | ⟨q1, q2⟩
          · rw [q1, ob_s, if_neg ne10]
            exact ⟨fun _ => rfl, fun q => absurd (Or.inl q2) q⟩
          · rw [q1, ob_s, if_pos rfl]
            exact ⟨fun q => absurd q (fun z => z.elim q2 e), fun _ => rfl⟩
      refine Or.inl ?_
      show ∃ x', f_X5_targetsOver_L20 (fun (y2_20_68 : Int) => some y2_20_68) v A (m + 1) (y : Int) (t : Int) = _ ∧ _
      by_cases e : hasI B t v ∨ ∃ u, isI B t u ∧ NDg B n v u
      · rw [step.1 e]
        refine ⟨y ||| 2 ^ t, rfl, or_14 hp.1 (pow_14 (by omega)), fun u => ?_⟩
        rw [or_bit, hp.2 u, pow_bit]
        have hnd := hr.mpr (Or.inr e)
        constructor
        · rintro ((q | q) | q)
          · exact Or.inl q
          · exact Or.inr ⟨by omega, q.2⟩
          · rw [q]; exact Or.inr ⟨by omega, hnd⟩
        · rintro (q | q)
          · exact Or.inl (Or.inl q)
          · by_cases hu : u = t
            · exact Or.inr hu
            · exact Or.inl (Or.inr ⟨by omega, q.2⟩)
      · rw [step.2 e]
        refine ⟨y, rfl, hp.1, fun u => ?_⟩
        rw [hp.2 u]
        constructor
        · rintro (q | q)
          · exact Or.inl q
          · exact Or.inr ⟨by omega, q.2⟩
        · rintro (q | q)
          · exact Or.inl q
          · by_cases hu : u = t
            · rw [hu] at q
              rcases hr.mp q.2 with z | z
              · rw [hu]; exact Or.inl z
              · exact absurd z e
            · exact Or.inr ⟨by omega, q.2⟩
    · refine ⟨y, ?_, hp.1, fun u => ?_⟩
      · show f_X5_targetsOver_L20 (fun (y2_20_68 : Int) => some y2_20_68) v A (m + 1) (y : Int) (n : Int) = _
        rw [f_X5_targetsOver_L20, hA, if_neg (by omega)]
      · rw [hp.2 u]
        constructor
        · rintro (q | q)
          · refine ⟨by omega, ?_⟩
            rw [q]; exact NDg_self
          · exact q
        · exact Or.inr
  unfold f_X5_targetsOver
  dsimp only [oj]
  rw [isTg]
  by_cases e : v < 16
  · rw [if_pos e, if_pos rfl]
    exact main 0 (by decide) (fun u => by
      rw [Nat.zero_testBit]
      exact ⟨fun q => absurd q (by decide), fun q => by omega⟩)
  · rw [if_neg e, if_neg ne10]
    obtain ⟨x, hx⟩ : ∃ x : Nat, v = 16 + (x : Int) := ⟨(v - 16).toNat, by omega⟩
    have w2 : wI (v - 16) = (x : Int) := by rw [hx, show 16 + (x : Int) - 16 = (x : Int) by omega, wI_n (by omega)]
    rw [w2, gShl_n (by omega)]
    exact main (2 ^ x) (pow_14 (by omega)) (fun u => by
      rw [pow_bit]
      omega)
theorem or01 : gOr 0 0 = 0 ∧ gOr 0 1 = 1 ∧ gOr 1 0 = 1 ∧ gOr 1 1 = 1 := by decide +kernel
theorem gOr01 {x y : Int} (hx : x = 0 ∨ x = 1) (hy : y = 0 ∨ y = 1) : (gOr x y = 0 ∨ gOr x y = 1) ∧ (gOr x y = 1 ↔ x = 1 ∨ y = 1) := by
  obtain ⟨o1, o2, o3, o4⟩ := or01
  rcases hx with rfl | rfl <;> rcases hy with rfl | rfl
  · rw [o1]; exact ⟨Or.inl rfl, by omega⟩
  · rw [o2]; exact ⟨Or.inr rfl, by omega⟩
  · rw [o3]; exact ⟨Or.inr rfl, by omega⟩
  · rw [o4]; exact ⟨Or.inr rfl, by omega⟩
theorem ne01 : ¬ ((0 : Int) = 1) := by decide
/-- the files that are inputs of what a target needs, as the reference looks for them -/
theorem ndM {A B : gM} {n t : Nat} {v : Int} {k : Int → Option (Int × gM)} {z2 z3 : Int} (hS : RS A B) (hT : RT A B n) (ht : t < n) (hv : v < 16) : ∃ x : Int, f_X12_needing_L73 k v z2 z3 ((wnN B n (2 ^ t) : Nat) : Int) B 64 0 0 = k x ∧ (x = 0 ∨ x = 1) ∧ (x = 1 ↔ NDg B n v t) := by
  have h14 := hT.1
  have hB := hT.2.2.1
  have wlt := (wnC hS hT (pow_14 (show t < 14 by omega))).2
  refine lp0 (F := fun n (x : Int) i => f_X12_needing_L73 k v z2 z3 ((wnN B _ (2 ^ t) : Nat) : Int) B n x i) n (fun i x => (x = 0 ∨ x = 1) ∧ (x = 1 ↔ ∃ u, (wnN B n (2 ^ t)).testBit u = true ∧ u < i ∧ hasI B u v)) (fun r => ∃ x : Int, r = k x ∧ (x = 0 ∨ x = 1) ∧ (x = 1 ↔ NDg B n v t)) (by omega) 0 ⟨Or.inl rfl, fun q => absurd q ne01, fun ⟨u, _, q, _⟩ => absurd q (by omega)⟩ (fun m i x hi hp => Or.inl ?_) (fun m x hp => ⟨x, ?_, hp.1, hp.2.trans ?_⟩)
  · obtain ⟨z, y1, y2, y3⟩ := szT hT hi
    have hRI := (hT.2.2.2.2.2.2 i hi).1
    show ∃ x', f_X12_needing_L73 k v z2 z3 ((wnN B n (2 ^ t) : Nat) : Int) B (m + 1) x (i : Int) = f_X12_needing_L73 k v z2 z3 ((wnN B n (2 ^ t) : Nat) : Int) B m x' ((i + 1 : Nat) : Int) ∧ _
    rw [f_X12_needing_L73, hB, if_pos (by omega), if_pos hv, wI_s (by omega)]
    by_cases e : (wnN B n (2 ^ t)).testBit i = true
    · refine lp0 (F := fun n2 (y : Int) j => f_X12_needing_L91 (fun (y5_91_142 : Int) => f_X12_needing_L73 k v z2 z3 ((wnN B n (2 ^ t) : Nat) : Int) B m y5_91_142 ((i + 1 : Nat) : Int)) v z2 z3 ((wnN B n (2 ^ t) : Nat) : Int) (i : Int) B n2 y j) z (fun j y => (y = 0 ∨ y = 1) ∧ (y = 1 ↔ x = 1 ∨ ∃ k : Nat, k < j ∧ chB B i k = v)) (fun r => ∃ x', r = f_X12_needing_L73 k v z2 z3 ((wnN B n (2 ^ t) : Nat) : Int) B m x' ((i + 1 : Nat) : Int) ∧ (x' = 0 ∨ x' = 1) ∧ (x' = 1 ↔ ∃ u, (wnN B n (2 ^ t)).testBit u = true ∧ u < i + 1 ∧ hasI B u v)) (by omega) x ⟨hp.1, Or.inl, fun q => q.resolve_right (fun ⟨k, q, _⟩ => absurd q (by omega))⟩ (fun m2 j y hj hq => Or.inl ?_) (fun m2 y hq => ⟨y, ?_, hq.1, hq.2.trans ?_⟩)
      · refine ⟨gOr y (if chB B i j = v then 1 else 0), ?_, ?_⟩
        · show f_X12_needing_L91 _ v z2 z3 _ (i : Int) B (m2 + 1) y (j : Int) = _
          rw [f_X12_needing_L91, og_t (by omega), Int.toNat_natCast, y3, if_pos (by omega), if_pos ((bit_1 (by omega) (by omega)).mpr e), inO hRI (by omega) (by rw [y3]; omega), ob_s]
          dsimp only [oj]
          rw [wI_s (by omega)]
          by_cases e2 : chB B i j = v
          · rw [if_pos e2, if_pos e2]
          · rw [if_neg e2, if_neg e2]
        · have q := gOr01 hq.1 (show (if chB B i j = v then (1 : Int) else 0) = 0 ∨ (if chB B i j = v then (1 : Int) else 0) = 1 by
            by_cases e2 : chB B i j = v
            · rw [if_pos e2]; exact Or.inr rfl
            · rw [if_neg e2]; exact Or.inl rfl)
          refine ⟨q.1, q.2.trans ?_⟩
          rw [hq.2]
          constructor
          · rintro ((a | ⟨k, k1, k2⟩) | a)
            · exact Or.inl a
            · exact Or.inr ⟨k, by omega, k2⟩
            · by_cases e2 : chB B i j = v
              · exact Or.inr ⟨j, by omega, e2⟩
              · rw [if_neg e2] at a; exact absurd a ne01
          · rintro (a | ⟨k, k1, k2⟩)
            · exact Or.inl (Or.inl a)
            · rcases (show k < j ∨ k = j by omega) with b | b
              · exact Or.inl (Or.inr ⟨k, b, k2⟩)
              · rw [b] at k2; exact Or.inr (if_pos k2)
      · show f_X12_needing_L91 _ v z2 z3 _ (i : Int) B (m2 + 1) y (z : Int) = _
        rw [f_X12_needing_L91, og_t (by omega), Int.toNat_natCast, y3, if_neg (by omega)]
      · rw [hp.2]
        constructor
        · rintro (⟨u, u1, u2, u3⟩ | ⟨k, k1, k2⟩)
          · exact ⟨u, u1, by omega, u3⟩
          · exact ⟨i, e, by omega, k, by rw [y3]; omega, k2⟩
        · rintro ⟨u, u1, u2, u3⟩
          rcases (show u < i ∨ u = i by omega) with b | b
          · exact Or.inl ⟨u, u1, b, u3⟩
          · rw [b] at u3
            obtain ⟨k, k1, k2⟩ := u3
            exact Or.inr ⟨k, by rw [y3] at k1; omega, k2⟩
    · refine ⟨x, ?_, hp.1, hp.2.trans ?_⟩
      · have e3 : ¬ gAnd (gShr ((wnN B n (2 ^ t) : Nat) : Int) (i : Int)) 1 = 1 := fun q => e ((bit_1 (by omega) (by omega)).mp q)
        show f_X12_needing_L91 _ v z2 z3 _ (i : Int) B 64 x 0 = _
        rw [f_X12_needing_L91, og_t (by omega), Int.toNat_natCast, y3, if_neg e3]
        by_cases e4 : (0 : Int) < (z : Int)
        · rw [if_pos e4]
        · rw [if_neg e4]
      · constructor
        · rintro ⟨u, u1, u2, u3⟩; exact ⟨u, u1, by omega, u3⟩
        · rintro ⟨u, u1, u2, u3⟩
          rcases (show u < i ∨ u = i by omega) with b | b
          · exact ⟨u, u1, b, u3⟩
          · rw [b] at u1; exact absurd u1 e
  · show f_X12_needing_L73 k v z2 z3 _ B (m + 1) x (n : Int) = _
    rw [f_X12_needing_L73, hB, if_neg (by omega)]
  · constructor
    · rintro ⟨u, u1, u2, u3⟩; exact Or.inr ⟨hv, u, u1, u2, u3⟩
    · rintro (⟨a, _⟩ | ⟨_, u, u1, u2, u3⟩)
      · omega
      · exact ⟨u, u1, u2, u3⟩
theorem tovM {A B : gM} {n : Nat} {v : Int} {k : Int → Option (Int × gM)} (hS : RS A B) (hT : RT A B n) (hv : 0 ≤ v ∧ v < 16 + (n : Int)) : ∃ y : Nat, f_X12_needing_L27 k v B 64 0 0 = k (y : Int) ∧ y < 16384 ∧ ∀ u, y.testBit u = true ↔ u < n ∧ NDg B n v u := by
  have h14 := hT.1
  have hB := hT.2.2.1
  refine lp0 (F := fun n (x : Nat) i => f_X12_needing_L27 k v B n (x : Int) i) n (fun i y => y < 16384 ∧ ∀ u, y.testBit u = true ↔ u < i ∧ NDg B n v u) (fun r => ∃ y : Nat, r = k (y : Int) ∧ y < 16384 ∧ ∀ u, y.testBit u = true ↔ u < n ∧ NDg B n v u) (by omega) 0 ⟨by decide, fun u => by
    rw [Nat.zero_testBit]
    exact ⟨fun q => absurd q (by decide), fun q => absurd q.1 (by omega)⟩⟩ (fun m t y ht hp => Or.inl ?_) (fun m y hp => ⟨y, ?_, hp.1, hp.2⟩)
  · show ∃ x' : Nat, f_X12_needing_L27 k v B (m + 1) (y : Int) (t : Int) = f_X12_needing_L27 k v B m (x' : Int) ((t + 1 : Nat) : Int) ∧ _
    have w1 : wI ((t : Int) + 1) = ((t + 1 : Nat) : Int) := wI_s (by omega)
    have fin : ∀ x : Int, (x = 0 ∨ x = 1) → (x = 1 ↔ NDg B n v t) → ∃ x' : Nat, (if x = 0 then f_X12_needing_L27 k v B m (gOr (y : Int) 0) ((t + 1 : Nat) : Int) else f_X12_needing_L27 k v B m (gOr (y : Int) ((2 ^ t : Nat) : Int)) ((t + 1 : Nat) : Int)) = f_X12_needing_L27 k v B m (x' : Int) ((t + 1 : Nat) : Int) ∧ x' < 16384 ∧ ∀ u, x'.testBit u = true ↔ u < t + 1 ∧ NDg B n v u := by
      intro x hx hx2
      by_cases e : x = 0
      · have hno : ¬ NDg B n v t := fun q => by have := hx2.mpr q; omega
        refine ⟨y, ?_, hp.1, fun u => ?_⟩
        · rw [if_pos e, show gOr (y : Int) 0 = ((y ||| 0 : Nat) : Int) from gOr_n (by omega) (by decide), Nat.or_zero]
        · rw [hp.2 u]
          constructor
          · rintro ⟨a, b⟩; exact ⟨by omega, b⟩
          · rintro ⟨a, b⟩
            by_cases hu : u = t
            · rw [hu] at b; exact absurd b hno
            · exact ⟨by omega, b⟩
      · have hyes : NDg B n v t := hx2.mp (by omega)
        refine ⟨y ||| 2 ^ t, ?_, or_14 hp.1 (pow_14 (by omega)), fun u => ?_⟩
        · rw [if_neg e, gOr_n (by omega) (lt14_31 (pow_14 (by omega)))]
        · rw [or_bit, hp.2 u, pow_bit]
          constructor
          · rintro (⟨a, b⟩ | a)
            · exact ⟨by omega, b⟩
            · rw [a]; exact ⟨by omega, hyes⟩
          · rintro ⟨a, b⟩
            by_cases hu : u = t
            · exact Or.inr hu
            · exact Or.inl ⟨by omega, b⟩
    rw [f_X12_needing_L27, hB, if_pos (by omega), gShl_n (by omega), wnM hS hT (pow_14 (by omega)), ob_s]
    dsimp only [oj]
    rw [w1]
    by_cases e : v < 16
    · rw [if_pos e]
      obtain ⟨x, x1, x2, x3⟩ := ndM (k := fun (y5_73_148 : Int) => if y5_73_148 = 0 then f_X12_needing_L27 k v B m (gOr (y : Int) 0) ((t + 1 : Nat) : Int) else f_X12_needing_L27 k v B m (gOr (y : Int) ((2 ^ t : Nat) : Int)) ((t + 1 : Nat) : Int)) (z2 := (y : Int)) (z3 := (t : Int)) hS hT ht e
      rw [x1]
      exact fin x x2 x3
    · obtain ⟨w, hw⟩ : ∃ w : Nat, v = 16 + (w : Int) := ⟨(v - 16).toNat, by omega⟩
      have w2 : wI (v - 16) = (w : Int) := by rw [hw, show 16 + (w : Int) - 16 = (w : Int) by omega, wI_n (by omega)]
      have wlt := (wnC hS hT (pow_14 (show t < 14 by omega))).2
      rw [if_neg e, w2]
      by_cases e2 : (wnN B n (2 ^ t)).testBit w = true
      · rw [if_pos ((bit_1 (by omega) (by omega)).mpr e2), f_X12_needing_L73, hB, if_pos (by omega), if_neg e]
        exact fin 1 (Or.inr rfl) ⟨fun _ => Or.inl ⟨by omega, by rw [show (v - 16).toNat = w by omega]; exact e2⟩, fun _ => rfl⟩
      · rw [if_neg (fun q => e2 ((bit_1 (by omega) (by omega)).mp q)), f_X12_needing_L73, hB, if_pos (by omega), if_neg e]
        refine fin 0 (Or.inl rfl) ⟨fun q => absurd q ne01, fun q => ?_⟩
        rcases q with ⟨_, b⟩ | ⟨b, _⟩
        · rw [show (v - 16).toNat = w by omega] at b
          exact absurd b e2
        · omega
  · show f_X12_needing_L27 k v B (m + 1) (y : Int) (n : Int) = _
    rw [f_X12_needing_L27, hB, if_neg (by omega)]
theorem RS_0 {A B : gM} (v : Int) (h : RS A B) : RS A (gU B 29 0 0 v) := RS_c h (fun _ _ => rfl) rfl (fun q hq => gU_r (fun e => by rw [e] at hq; revert hq; decide)) (gU_k (by decide))
theorem RT_0 {A B : gM} {n : Nat} (v : Int) (h : RT A B n) : RT A (gU B 29 0 0 v) n := RT_c h (fun _ _ => rfl) rfl (fun _ _ _ => rfl) (fun q hq => gU_r (fun e => by rw [e] at hq; revert hq; decide)) (gU_k (by decide))
theorem chB_0 {B : gM} (v : Int) (t k : Nat) : chB (gU B 29 0 0 v) t k = chB B t k := by
  unfold chB
  simp (disch := decide) only [gU_r]
theorem wnN_0 {B : gM} (v : Int) (n x : Nat) : wnN (gU B 29 0 0 v) n x = wnN B n x := by
  unfold wnN wnS ibN ibS chB
  simp (disch := decide) only [gU_r]
theorem hasI_0 {B : gM} (v : Int) (t : Nat) (w : Int) : hasI (gU B 29 0 0 v) t w = hasI B t w := by
  unfold hasI chB
  simp (disch := decide) only [gU_r]
theorem asked_11 (M : gM) : f_X12_asked_ 1 1 M = (1, gU M 29 0 0 0) := by
  simp [f_X12_asked_, oj, gU_s]
theorem asked_10 (M : gM) : f_X12_asked_ 1 0 M = (0, gU M 29 0 0 2) := by
  simp [f_X12_asked_, oj, gU_s]
theorem asked_0 (v : Int) (M : gM) : f_X12_asked_ 0 v M = (0, gU M 29 0 0 1) := by
  simp [f_X12_asked_, oj, gU_s]
theorem S_needing {c : Nat} {v1 : Int} (hv1 : nmI v1) : Sim (Rel c) (Rel (c + 1)) (f_L_needing v1) (f_X12_needing v1) := by
  intro A B h
  have h0 := h
  obtain ⟨n, h1, h2, h3, h4, h5, h6, h7⟩ := h0
  have hA := h2.2.1
  have hB := h2.2.2.1
  have hn := h2.1
  by_cases h0 : 0 ≤ v1
  · by_cases hv : v1 < 16 + (n : Int)
    · obtain ⟨y, y1, y2, y3⟩ := tovC h1 h2 ⟨h0, hv⟩
      obtain ⟨x, x1, x2, x3⟩ := tovM (k := fun (y2_27_169 : Int) => some ((y2_27_169, gU B 29 0 0 0))) (RS_0 0 h1) (RT_0 0 h2) ⟨h0, hv⟩
      have exy : x = y := bits_ext (fun u => by
        rw [x3 u, y3 u]
        unfold NDg
        rw [wnN_0]
        simp only [hasI_0])
      have e1 : f_L_needing v1 A = some (0, gU A 75 0 0 (y : Int)) := by
        simp only [f_L_needing, f_X11_needing, oj]
        rw [if_neg (by omega), cArg, if_neg ne10, ob_s, ox_r, cThg hA hn hv1, if_pos hv, ob_s, ox_r, y1]
        rfl
      have e2 : f_X12_needing v1 B = some ((y : Int), gU B 29 0 0 0) := by
        unfold f_X12_needing
        dsimp only [oj]
        rw [if_neg (by omega), isInp hB hn hv1, if_pos hv, asked_11]
        dsimp only
        rw [if_neg ne10, x1, exy]
      exact ⟨_, _, _, _, e1, e2, gU_s _ _ _ _ _, fun _ => gU_s _ _ _ _ _, Rel_out _ (Rel_thr _ (Rel_up h)), fun q q1 q2 => gU_r (by omega), fun q hq => gU_r (by omega)⟩
    · have e1 : f_L_needing v1 A = some (2, A) := by
        simp only [f_L_needing, f_X11_needing, oj]
        rw [if_neg (by omega), cArg, if_neg ne10, ob_s, ox_r, cThg hA hn hv1, if_neg hv, ob_s, ox_l]
        rfl
      have e2 : f_X12_needing v1 B = some (0, gU B 29 0 0 2) := by
        unfold f_X12_needing
        dsimp only [oj]
        rw [if_neg (by omega), isInp hB hn hv1, if_neg hv, asked_10]
        dsimp only
        rw [if_pos rfl]
      exact ⟨_, _, _, _, e1, e2, gU_s _ _ _ _ _, fun q => absurd q (by decide), Rel_thr _ (Rel_up h), fun q _ _ => rfl, fun q hq => gU_r (by omega)⟩
  · have e1 : f_L_needing v1 A = some (1, A) := by
      simp only [f_L_needing, f_X11_needing, oj]
      rw [if_pos (by omega), cArg, if_pos rfl, ob_s, ox_l]
      rfl
    have e2 : f_X12_needing v1 B = some (0, gU B 29 0 0 1) := by
      unfold f_X12_needing
      dsimp only [oj]
      rw [if_pos (by omega), asked_0]
      dsimp only
      rw [if_pos rfl]
    exact ⟨_, _, _, _, e1, e2, gU_s _ _ _ _ _, fun q => absurd q (by decide), Rel_thr _ (Rel_up h), fun q _ _ => rfl, fun q hq => gU_r (by omega)⟩
