theorem way_b {n i : Nat} {tk mx : Int} (hi : i < n) (hn : n ≤ 14) (h1 : 1 ≤ tk) (h2 : tk ≤ 50) (h3 : 0 ≤ mx) (h4 : mx ≤ 50 * ((n : Int) - ((i + 1 : Nat) : Int))) : wI (tk + mx) = tk + mx ∧ 1 ≤ tk + mx ∧ tk + mx ≤ 50 * ((n : Int) - (i : Int)) := by
  refine ⟨wI_eq (by unfold nmI; omega), by omega, by omega⟩
theorem isW_ext {B : gM} {n m : Nat} {W W' : Nat → Int} {A : gM} (hS : RS A B) (hT : RT A B n) (h : isW B n (m + 1) W) (e : ∀ u, m + 1 ≤ u → W' u = W u) (hm : m < n) (hnew : ndd B m → ∃ mx, mxW B n (m + 1) m W mx ∧ W' m = tk B m + mx) : isW B n m W' := by
  intro u hu hun hd
  have tr : ∀ {x mx}, m ≤ x → mxW B n (m + 1) x W mx → mxW B n m x W' mx := fun {x mx} hx q => by
    obtain ⟨q1, q2, q3⟩ := q
    refine ⟨q1, fun v a b c d => ?_, ?_⟩
    · have hv := isI_lt hS hT b d
      rw [e v (Nat.lt_of_le_of_lt hx hv)]
      exact q2 v (Nat.lt_of_le_of_lt hx hv) b c d
    · rcases q3 with q3 | ⟨v, a, b, c, d, f⟩
      · exact Or.inl q3
      · exact Or.inr ⟨v, Nat.le_of_succ_le a, b, c, d, by rw [e v a, f]⟩
  by_cases eu : u = m
  · subst eu
    obtain ⟨mx, x1, x2⟩ := hnew hd
    exact ⟨mx, tr (Nat.le_refl _) x1, x2⟩
  · have hu' : m + 1 ≤ u := Nat.lt_of_le_of_ne hu (fun q => eu q.symm)
    obtain ⟨mx, x1, x2⟩ := h u hu' hun hd
    exact ⟨mx, tr hu x1, by rw [e u hu', x2]⟩
theorem wayM {A B M0 : gM} {n c t : Nat} (hS : RS A B) (hT : RT A B n) (hRB : RB A B n c) (hM : But [73] M0 B) (ht : t < n) (hd : ndd B t) : ∃ M' : gM, f_X12_wayOf (t : Int) M0 = some (M' 73 0 t, M') ∧ But [73] M' B ∧ isW B n t (fun u => M' 73 0 u) := by
  have h14 := hT.1
  have hn64 : n < 64 := by omega
  have hB7 : M0 29 0 7 = (n : Int) := by rw [But_q hM rfl]; exact hT.2.2.1
  unfold f_X12_wayOf
  rw [hB7, wI_m (by omega)]
  refine lpd0 (F := fun m (x : Int × gM) i => f_X12_wayOf_L9 (fun (y2_9_132 : Int) (M_9_132 : gM) => some ((y2_9_132, M_9_132))) (t : Int) m x.1 i x.2) n (fun m x => t ≤ m ∧ But [73] x.2 B ∧ isW B n m (fun u => x.2 73 0 u) ∧ (∀ u, m ≤ u → u < n → ndd B u → 1 ≤ x.2 73 0 u ∧ x.2 73 0 u ≤ 50 * ((n : Int) - (u : Int))) ∧ (m < n → ndd B m → x.1 = x.2 73 0 m)) (fun r => ∃ M' : gM, r = some (M' 73 0 t, M') ∧ But [73] M' B ∧ isW B n t (fun u => M' 73 0 u)) hn64 (0, M0) ⟨Nat.le_of_lt ht, hM, fun u a b => absurd a (Nat.not_le.mpr b), fun u a b => absurd a (Nat.not_le.mpr b), fun q => absurd q (Nat.lt_irrefl _)⟩ (fun m i x hi hp => ?_) (fun m x hp => ?_)
  · obtain ⟨p0, p1, p2, p3, p4⟩ := hp
    by_cases hit : (i : Int) < (t : Int)
    · have e : i + 1 = t := by omega
      refine Or.inr ⟨x.2, ?_, p1, e ▸ p2⟩
      show f_X12_wayOf_L9 _ (t : Int) (m + 1) x.1 (i : Int) x.2 = _
      rw [f_X12_wayOf_L9, if_pos hit, p4 (by omega) (e ▸ hd), e]
    · have wp : wI ((i : Int) + (-1)) = (i : Int) - 1 := wI_p (by omega)
      have wq : wI ((i : Int) + 1) = ((i + 1 : Nat) : Int) := wI_s (by omega)
      have hti : t ≤ i := by omega
      have i14 : i < 14 := Nat.lt_of_lt_of_le hi h14
      have g14 : (0 : Int) ≤ (i : Int) ∧ (i : Int) < 14 := ⟨Int.natCast_nonneg i, Int.ofNat_lt.mpr i14⟩
      have nN : f_X12_isNeeded (i : Int) x.2 = f_X12_isNeeded (i : Int) B := by
        unfold f_X12_isNeeded
        rw [But_q p1 rfl]
      show (∃ x' : Int × gM, f_X12_wayOf_L9 _ (t : Int) (m + 1) x.1 (i : Int) x.2 = f_X12_wayOf_L9 _ (t : Int) m x'.1 ((i : Int) - 1) x'.2 ∧ _) ∨ _
      by_cases hn : ndd B i
      · obtain ⟨mx, r1, r2⟩ := way30 (z1 := (t : Int)) (k := fun (y4_30_90 : Int) => og ((0 : Int) ≤ (i : Int) ∧ ((i : Int) : Int) < 14) <| oj (fun (xs2_115 : Int) => og ((0 : Int) ≤ (i : Int) ∧ ((i : Int) : Int) < 14) <| og ((0 : Int) ≤ (i : Int) ∧ ((i : Int) : Int) < 14) <| f_X12_wayOf_L9 (fun (y2_9_132 : Int) (M_9_132 : gM) => some ((y2_9_132, M_9_132))) (t : Int) m ((gU x.2 73 0 (i : Int).toNat (wI (xs2_115 + y4_30_90))) 73 0 (i : Int).toNat) (wI ((i : Int) + (-1))) (gU x.2 73 0 (i : Int).toNat (wI (xs2_115 + y4_30_90)))) fun k115 => if x.2 67 0 (i : Int).toNat = (-1) then (k115 5) else (og ((0 : Int) ≤ (i : Int) ∧ ((i : Int) : Int) < 14) <| k115 (x.2 67 0 (i : Int).toNat))) hS hT hi p1
        obtain ⟨-, tk1, tk2⟩ := tk_in hRB i14
        have mb : mx ≤ 50 * ((n : Int) - ((i + 1 : Nat) : Int)) := by
          rcases r2.2.2 with q | ⟨v, v0, v1, v2, v3, v4⟩
          · omega
          · have v4' : x.2 73 0 v = mx := v4
            have := (p3 v v0 v1 v2).2
            omega
        obtain ⟨b1, b2, b3⟩ := way_b hi h14 tk1 tk2 r2.1 mb
        have etk : (if x.2 67 0 i = -1 then 5 else x.2 67 0 i) = tk B i := by
          unfold tk
          rw [But_q p1 rfl]
        refine Or.inl ⟨(tk B i + mx, gU x.2 73 0 i (tk B i + mx)), ?_, hti, But_u p1 rfl, ?_, fun u a b c => ?_, fun _ _ => (gU_s _ _ _ _ _).symm⟩
        · rw [f_X12_wayOf_L9, if_neg hit]
          dsimp only [oj]
          rw [nN, show f_X12_isNeeded (i : Int) B = 1 from if_pos hn, if_neg ne10, wq]
          refine r1.trans ?_
          rw [og_t g14]
          dsimp only [oj]
          rw [Int.toNat_natCast, wp]
          by_cases e : x.2 67 0 i = -1
          · rw [if_pos e, og_t g14, og_t g14, gU_s]
            rw [if_pos e] at etk
            rw [etk, b1]
          · rw [if_neg e, og_t g14, og_t g14, og_t g14, gU_s]
            rw [if_neg e] at etk
            rw [etk, b1]
        · refine isW_ext hS hT p2 (fun u hu => ?_) hi (fun _ => ⟨mx, r2, gU_s _ _ _ _ _⟩)
          exact gU_k (Nat.ne_of_gt hu)
        · show 1 ≤ gU x.2 73 0 i (tk B i + mx) 73 0 u ∧ gU x.2 73 0 i (tk B i + mx) 73 0 u ≤ 50 * ((n : Int) - (u : Int))
          by_cases e : u = i
          · rw [e, gU_s]; exact ⟨b2, b3⟩
          · rw [gU_k e]
            exact p3 u (Nat.lt_of_le_of_ne a (fun q => e q.symm)) b c
      · refine Or.inl ⟨x, ?_, hti, p1, isW_ext hS hT p2 (fun _ _ => rfl) hi (fun q => absurd q hn), fun u a b c => ?_, fun _ q => absurd q hn⟩
        · rw [f_X12_wayOf_L9, if_neg hit]
          dsimp only [oj]
          rw [nN, show f_X12_isNeeded (i : Int) B = 0 from if_neg hn, if_pos rfl, wp]
        · exact p3 u (Nat.lt_of_le_of_ne a (fun q => hn (q ▸ c))) b c
  · obtain ⟨p0, p1, p2, p3, p4⟩ := hp
    have e : t = 0 := Nat.le_zero.mp p0
    subst e
    refine ⟨x.2, ?_, p1, p2⟩
    show f_X12_wayOf_L9 _ ((0 : Nat) : Int) (m + 1) x.1 (-1) x.2 = _
    rw [f_X12_wayOf_L9, if_pos (by decide), p4 ht hd]
def gmx (a b : Int) : Int := if a < b then b else a
theorem gmx_le (a b : Int) : a ≤ gmx a b ∧ b ≤ gmx a b ∧ (gmx a b = a ∨ gmx a b = b) := by
  unfold gmx
  by_cases h : a < b
  · rw [if_pos h]; exact ⟨Int.le_of_lt h, Int.le_refl _, Or.inr rfl⟩
  · rw [if_neg h]; exact ⟨Int.le_refl _, Int.not_lt.mp h, Or.inl rfl⟩
theorem gmx_2 (a b : Int) : gmx (gmx a b) b = gmx a b := by
  unfold gmx
  by_cases h : a < b
  · rw [if_pos h, if_neg (Int.lt_irrefl _)]
  · rw [if_neg h, if_neg h]
theorem sprC {A B M : gM} {n t : Nat} (hS : RS A B) (hT : RT A B n) (ht : t < n) (hM : But [7] M A) (hM7 : ∀ t k, k ≠ 10 → M 7 t k = A 7 t k) : ∃ M' : gM, f_X5_spreadWay t M = some M' ∧ But [7] M' A ∧ (∀ t k, k ≠ 10 → M' 7 t k = A 7 t k) ∧ ∀ u, u < n → (isI B t u → M' 7 u 10 = gmx (M 7 u 10) (M 7 t 10)) ∧ (¬ isI B t u → M' 7 u 10 = M 7 u 10) := by
  obtain ⟨z, z1, z2, z3⟩ := szT hT ht
  have h14 := hT.1
  have hz : z < 64 := by omega
  have key : ∃ M' : gM, f_X5_spreadWay t M = some M' ∧ But [7] M' A ∧ (∀ t k, k ≠ 10 → M' 7 t k = A 7 t k) ∧ M' 7 t 10 = M 7 t 10 ∧ ∀ u, u < n → ((∃ j, j < z ∧ chB B t j = 16 + (u : Int)) → M' 7 u 10 = gmx (M 7 u 10) (M 7 t 10)) ∧ (¬ (∃ j, j < z ∧ chB B t j = 16 + (u : Int)) → M' 7 u 10 = M 7 u 10) := by
    unfold f_X5_spreadWay
    refine lp0 (F := fun m x i => f_X5_spreadWay_L2 (fun (M_2_50 : gM) => some M_2_50) t m i x) z (fun i x => But [7] x A ∧ (∀ t k, k ≠ 10 → x 7 t k = A 7 t k) ∧ x 7 t 10 = M 7 t 10 ∧ ∀ u, u < n → ((∃ j, j < i ∧ chB B t j = 16 + (u : Int)) → x 7 u 10 = gmx (M 7 u 10) (M 7 t 10)) ∧ (¬ (∃ j, j < i ∧ chB B t j = 16 + (u : Int)) → x 7 u 10 = M 7 u 10)) (fun r => ∃ M' : gM, r = some M' ∧ But [7] M' A ∧ (∀ t k, k ≠ 10 → M' 7 t k = A 7 t k) ∧ M' 7 t 10 = M 7 t 10 ∧ ∀ u, u < n → ((∃ j, j < z ∧ chB B t j = 16 + (u : Int)) → M' 7 u 10 = gmx (M 7 u 10) (M 7 t 10)) ∧ (¬ (∃ j, j < z ∧ chB B t j = 16 + (u : Int)) → M' 7 u 10 = M 7 u 10)) hz M ⟨hM, hM7, rfl, fun u _ => ⟨fun ⟨j, q, _⟩ => absurd q (Nat.not_lt_zero _), fun _ => rfl⟩⟩ (fun m i x hi hp => Or.inl ?_) (fun m x hp => ⟨x, ?_, hp⟩)
    · obtain ⟨p1, p2, p3, p4⟩ := hp
      have hiB : (i : Int) < B 41 0 t := by rw [z3]; exact Int.ofNat_lt.mpr hi
      have hiz : (i : Int) < (z : Int) := Int.ofNat_lt.mpr hi
      have c := ch_in hS hT ht hiB
      have w1 : wI ((i : Int) + 1) = ((i + 1 : Nat) : Int) := wI_s (by omega)
      have ch : f_X6_chosen t (i : Int) x = chB B t i := by
        have : f_X6_chosen t (i : Int) x = f_X6_chosen t (i : Int) A := by
          unfold f_X6_chosen f_X11_at
          rw [But_q p1 rfl, But_q p1 rfl, But_q p1 rfl, But_q p1 rfl, But_q p1 rfl]
        rw [this]
        exact (chC hS.2.2.1 (hT.2.2.2.2.2.2 t ht).1 hiB).1
      have z8 : x 8 t 5 = (z : Int) := by rw [But_q p1 rfl]; exact z2
      have x2 : x 2 0 5 = (n : Int) := by rw [But_q p1 rfl]; exact hT.2.1
      have step : ∀ y, f_X5_targetAt (wI (chB B t i - 16)) x = y → f_X5_spreadWay_L2 (fun (M_2_50 : gM) => some M_2_50) t (m + 1) (i : Int) x = f_X5_spreadWay_L2 (fun (M_2_50 : gM) => some M_2_50) t m ((i + 1 : Nat) : Int) (gU x 7 y 10 (gmx (x 7 y 10) (x 7 t 10))) := fun y hy => by
        rw [f_X5_spreadWay_L2, z8, if_pos hiz, ch, hy, w1]
        rfl
      by_cases e : chB B t i < 16
      · have neg : ¬ (0 ≤ wI (chB B t i - 16) ∧ wI (chB B t i - 16) < (n : Int)) := by
          rw [wI_eq (by unfold nmI; omega)]
          omega
        refine ⟨_, step 14 (tAt_no x2 neg), But_u p1 rfl, fun t' k hk => ?_, ?_, fun u hu => ?_⟩
        · rw [gU_ne (fun q => hk q.2.2)]; exact p2 t' k hk
        · rw [gU_ne (fun q => by have := q.2.1; omega)]; exact p3
        · rw [gU_ne (fun q => by have := q.2.1; omega), ex_s1 (s := i)]
          obtain ⟨a, b⟩ := p4 u hu
          exact ⟨fun q => q.elim a (fun q => absurd q (by omega)), fun q => b (fun z => q (Or.inl z))⟩
      · obtain ⟨u0, hu0⟩ : ∃ u0 : Nat, chB B t i = 16 + (u0 : Int) := ⟨(chB B t i).toNat - 16, by omega⟩
        have hu0n : u0 < n := by omega
        have hu0t : u0 < t := by omega
        have w2 : wI (chB B t i - 16) = (u0 : Int) := by rw [hu0, show 16 + (u0 : Int) - 16 = (u0 : Int) by omega, wI_n (by omega)]
        refine ⟨_, step u0 (by rw [w2]; exact tAt x2 h14 hu0n), But_u p1 rfl, fun t' k hk => ?_, ?_, fun u hu => ?_⟩
        · rw [gU_ne (fun q => hk q.2.2)]; exact p2 t' k hk
        · rw [gU_ne (fun q => Nat.ne_of_gt hu0t q.2.1)]; exact p3
        · rw [ex_s1 (s := i)]
          obtain ⟨a, b⟩ := p4 u hu
          by_cases eu : u = u0
          · rw [eu] at a b ⊢
            rw [gU_s, p3]
            refine ⟨fun _ => ?_, fun q => absurd (Or.inr hu0) q⟩
            by_cases q : ∃ j, j < i ∧ chB B t j = 16 + (u0 : Int)
            · rw [a q, gmx_2]
            · rw [b q]
          · rw [gU_ne (fun q => eu q.2.1)]
            exact ⟨fun q => q.elim a (fun q => absurd (by omega) eu), fun q => b (fun z => q (Or.inl z))⟩
    · show f_X5_spreadWay_L2 _ t (m + 1) (z : Int) x = _
      rw [f_X5_spreadWay_L2, But_q hp.1 rfl, z2, if_neg (Int.lt_irrefl _)]
  obtain ⟨M', q1, q2, q3, -, q5⟩ := key
  refine ⟨M', q1, q2, q3, fun u hu => ?_⟩
  have e : isI B t u ↔ ∃ j, j < z ∧ chB B t j = 16 + (u : Int) := by
    unfold isI
    rw [z3]
    exact ⟨fun ⟨k, a, b⟩ => ⟨k, Int.ofNat_lt.mp a, b⟩, fun ⟨k, a, b⟩ => ⟨k, Int.ofNat_lt.mpr a, b⟩⟩
  rw [e]
  exact q5 u hu
