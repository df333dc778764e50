theorem fwC {A B : gM} {n c : Nat} (hS : RS A B) (hT : RT A B n) (hRB : RB A B n c) : ∃ A' : gM, f_X5_findWays (A 4 0 6) A = some A' ∧ But [7] A' A ∧ (∀ t k, k ≠ 10 → A' 7 t k = A 7 t k) ∧ isW B n 0 (fun u => A' 7 u 10) := by
  have h14 := hT.1
  have hn64 : n < 64 := by omega
  have hA := hT.2.1
  have e46 : A 4 0 6 = B 29 0 37 := hRB.1
  unfold f_X5_findWays
  refine lp0 (F := fun m x i => f_X5_findWays_L2 (fun (M_2_25 : gM) => f_X5_findWays_L32 (fun (M_32_75 : gM) => some M_32_75) (A 4 0 6) 64 (wI ((M_2_25 2 0 5) - 1)) M_2_25) (A 4 0 6) m i x) n (fun i x => But [7] x A ∧ (∀ t k, k ≠ 10 → x 7 t k = A 7 t k) ∧ ∀ u, u < i → x 7 u 10 = 0) (fun r => ∃ A' : gM, r = some A' ∧ But [7] A' A ∧ (∀ t k, k ≠ 10 → A' 7 t k = A 7 t k) ∧ isW B n 0 (fun u => A' 7 u 10)) hn64 A ⟨But_r, fun _ _ _ => rfl, fun u q => absurd q (Nat.not_lt_zero _)⟩ (fun m i x hi hp => Or.inl ⟨gU x 7 i 10 0, ?_, But_u hp.1 rfl, fun t k hk => ?_, fun u hu => ?_⟩) (fun m x hp => ?_)
  · have w1 : wI ((i : Int) + 1) = ((i + 1 : Nat) : Int) := wI_s (by omega)
    have x2 : x 2 0 5 = (n : Int) := by rw [But_q hp.1 rfl]; exact hA
    show f_X5_findWays_L2 _ (A 4 0 6) (m + 1) (i : Int) x = _
    rw [f_X5_findWays_L2, x2, if_pos (Int.ofNat_lt.mpr hi), tAt x2 h14 hi, w1]
  · rw [gU_ne (fun q => hk q.2.2)]; exact hp.2.1 t k hk
  · by_cases e : u = i
    · rw [e, gU_s]
    · rw [gU_ne (fun q => e q.2.1)]
      exact hp.2.2 u (lt_ne hu e)
  · obtain ⟨p1, p2, p3⟩ := hp
    have x2 : x 2 0 5 = (n : Int) := by rw [But_q p1 rfl]; exact hA
    show ∃ A' : gM, f_X5_findWays_L2 _ (A 4 0 6) (m + 1) (n : Int) x = some A' ∧ _
    rw [f_X5_findWays_L2, x2, if_neg (Int.lt_irrefl _), wI_m (Nat.lt_trans hn64 (by decide))]
    refine lpd0 (F := fun m (x : gM) i => f_X5_findWays_L32 (fun (M_32_75 : gM) => some M_32_75) (A 4 0 6) m i x) n (fun m x => But [7] x A ∧ (∀ t k, k ≠ 10 → x 7 t k = A 7 t k) ∧ isW B n m (fun u => x 7 u 10) ∧ (∀ u, m ≤ u → u < n → ndd B u → 1 ≤ x 7 u 10 ∧ x 7 u 10 ≤ 50 * ((n : Int) - (u : Int))) ∧ ∀ u, u < m → mxW B n m u (fun u => x 7 u 10) (x 7 u 10)) (fun r => ∃ A' : gM, r = some A' ∧ But [7] A' A ∧ (∀ t k, k ≠ 10 → A' 7 t k = A 7 t k) ∧ isW B n 0 (fun u => A' 7 u 10)) hn64 x ⟨p1, p2, fun u a b => absurd a (Nat.not_le.mpr b), fun u a b => absurd a (Nat.not_le.mpr b), fun u hu => ?_⟩ (fun m i x hi hp => Or.inl ?_) (fun m x hp => ?_)
    · show 0 ≤ x 7 u 10 ∧ _
      rw [p3 u hu]
      exact ⟨Int.le_refl _, fun v a b => absurd a (Nat.not_le.mpr b), Or.inl rfl⟩
    · obtain ⟨p1, p2, p3, p4, p5⟩ := hp
      have i14 : i < 14 := Nat.lt_of_lt_of_le hi h14
      have i31 : i < 31 := Nat.lt_trans i14 (by decide)
      have nneg : ¬ (i : Int) < 0 := Int.not_lt.mpr (Int.natCast_nonneg i)
      have wp : wI ((i : Int) + (-1)) = (i : Int) - 1 := wI_p (Nat.lt_trans i31 (by decide))
      have x2 : x 2 0 5 = (n : Int) := by rw [But_q p1 rfl]; exact hA
      show ∃ x' : gM, f_X5_findWays_L32 _ (A 4 0 6) (m + 1) (i : Int) x = f_X5_findWays_L32 _ (A 4 0 6) m ((i : Int) - 1) x' ∧ _
      by_cases hn : ndd B i
      · have bt : f_X11_bitOf (A 4 0 6) (i : Int) x = 1 := by rw [e46]; exact hn
        obtain ⟨tk0, tk1, tk2⟩ := tk_in hRB i14
        have q5 := p5 i (Nat.lt_succ_self i)
        have mb : x 7 i 10 ≤ 50 * ((n : Int) - ((i + 1 : Nat) : Int)) := by
          rcases q5.2.2 with q | ⟨v, v0, v1, v2, v3, v4⟩
          · have : x 7 i 10 = 0 := q
            omega
          · have v4' : x 7 v 10 = x 7 i 10 := v4
            have := (p4 v v0 v1 v2).2
            omega
        obtain ⟨b1, b2, b3⟩ := way_b hi h14 tk1 tk2 q5.1 mb
        have sw : wI (x 7 i 10 + x 7 i 9) = tk B i + x 7 i 10 := by rw [p2 i 9 (by decide), tk0, Int.add_comm, b1]
        have f1 : But [7] (gU x 7 i 10 (tk B i + x 7 i 10)) A := But_u p1 rfl
        obtain ⟨M', r1, r2, r3, r4⟩ := sprC hS hT hi f1 (fun t k hk => by rw [gU_ne (fun q => hk q.2.2)]; exact p2 t k hk)
        have hW : ∀ u, i + 1 ≤ u → u < n → M' 7 u 10 = x 7 u 10 := fun u hu hun => by
          rw [(r4 u hun).2 (fun q => by have := isI_lt hS hT hi q; omega), gU_ne (fun q => by have := q.2.1; omega)]
        have hi' : M' 7 i 10 = tk B i + x 7 i 10 := by
          rw [(r4 i hi).2 (fun q => absurd (isI_lt hS hT hi q) (Nat.lt_irrefl _)), gU_s]
        refine ⟨M', ?_, r2, r3, ?_, fun u a b c => ?_, fun u hu => ?_⟩
        · rw [f_X5_findWays_L32, if_neg nneg]
          dsimp only [oj]
          rw [if_pos bt, tAt x2 h14 hi, sw, r1, ob_s, wp]
        · intro u hu hun hd
          by_cases eu : u = i
          · subst eu
            refine ⟨x 7 u 10, ⟨q5.1, fun v a b c d => ?_, ?_⟩, hi'⟩
            · have hv := isI_lt hS hT b d
              show M' 7 v 10 ≤ _
              rw [hW v hv b]
              exact q5.2.1 v hv b c d
            · rcases q5.2.2 with q | ⟨v, a, b, c', d, f⟩
              · exact Or.inl q
              · exact Or.inr ⟨v, Nat.le_of_succ_le a, b, c', d, (hW v a b).trans f⟩
          · have hu' : i + 1 ≤ u := Nat.lt_of_le_of_ne hu (fun q => eu q.symm)
            obtain ⟨mx, y1, y2⟩ := p3 u hu' hun hd
            refine ⟨mx, ⟨y1.1, fun v a b c d => ?_, ?_⟩, (hW u hu' hun).trans y2⟩
            · have hv := isI_lt hS hT b d
              show M' 7 v 10 ≤ _
              rw [hW v (Nat.lt_of_le_of_lt hu hv) b]
              exact y1.2.1 v (Nat.lt_of_le_of_lt hu hv) b c d
            · rcases y1.2.2 with q | ⟨v, a, b, c', d, f⟩
              · exact Or.inl q
              · exact Or.inr ⟨v, Nat.le_of_succ_le a, b, c', d, (hW v a b).trans f⟩
        · by_cases e : u = i
          · rw [e, hi']; exact ⟨b2, b3⟩
          · have hu' : i + 1 ≤ u := Nat.lt_of_le_of_ne a (fun q => e q.symm)
            rw [hW u hu' b]
            exact p4 u hu' b c
        · have hun : u < n := Nat.lt_trans hu hi
          obtain ⟨y1, y2, y3⟩ := p5 u (Nat.lt_succ_of_lt hu)
          have ei : gU x 7 i 10 (tk B i + x 7 i 10) 7 i 10 = tk B i + x 7 i 10 := gU_s _ _ _ _ _
          have eu : gU x 7 i 10 (tk B i + x 7 i 10) 7 u 10 = x 7 u 10 := gU_ne (fun q => absurd q.2.1 (Nat.ne_of_lt hu))
          have hx : ∀ v, i + 1 ≤ v → v < n → (fun u => M' 7 u 10) v = x 7 v 10 := hW
          by_cases hI : isI B i u
          · have em : M' 7 u 10 = gmx (x 7 u 10) (tk B i + x 7 i 10) := by rw [(r4 u hun).1 hI, eu, ei]
            obtain ⟨g1, g2, g3⟩ := gmx_le (x 7 u 10) (tk B i + x 7 i 10)
            rw [← em] at g1 g2 g3
            refine ⟨Int.le_trans y1 g1, fun v a b c d => ?_, ?_⟩
            · by_cases ev : v = i
              · rw [ev]
                show M' 7 i 10 ≤ _
                rw [hi']
                exact g2
              · have hv : i + 1 ≤ v := Nat.lt_of_le_of_ne a (fun q => ev q.symm)
                rw [hx v hv b]
                exact Int.le_trans (y2 v hv b c d) g1
            · rcases g3 with q | q
              · rcases y3 with y3 | ⟨v, a, b, c', d, f⟩
                · exact Or.inl (q.trans y3)
                · exact Or.inr ⟨v, Nat.le_of_succ_le a, b, c', d, ((hx v a b).trans f).trans q.symm⟩
              · exact Or.inr ⟨i, Nat.le_refl _, hi, hn, hI, hi'.trans q.symm⟩
          · have em : M' 7 u 10 = x 7 u 10 := by rw [(r4 u hun).2 hI, eu]
            refine ⟨by rw [em]; exact y1, fun v a b c d => ?_, ?_⟩
            · by_cases ev : v = i
              · rw [ev] at d; exact absurd d hI
              · have hv : i + 1 ≤ v := Nat.lt_of_le_of_ne a (fun q => ev q.symm)
                rw [hx v hv b, em]
                exact y2 v hv b c d
            · rcases y3 with y3 | ⟨v, a, b, c', d, f⟩
              · exact Or.inl (em.trans y3)
              · exact Or.inr ⟨v, Nat.le_of_succ_le a, b, c', d, ((hx v a b).trans f).trans em.symm⟩
      · have bt : ¬ f_X11_bitOf (A 4 0 6) (i : Int) x = 1 := by rw [e46]; exact hn
        refine ⟨x, ?_, p1, p2, fun u hu hun hd => ?_, fun u a b c => p4 u (Nat.lt_of_le_of_ne a (fun q => hn (q ▸ c))) b c, fun u hu => ?_⟩
        · rw [f_X5_findWays_L32, if_neg nneg]
          dsimp only [oj]
          rw [if_neg bt, wp]
        · have hu' : i + 1 ≤ u := Nat.lt_of_le_of_ne hu (fun q => hn (q ▸ hd))
          obtain ⟨mx, y1, y2⟩ := p3 u hu' hun hd
          refine ⟨mx, ⟨y1.1, fun v a b c d => ?_, ?_⟩, y2⟩
          · exact y1.2.1 v (Nat.lt_of_le_of_lt hu (isI_lt hS hT b d)) b c d
          · rcases y1.2.2 with q | ⟨v, a, b, c', d, f⟩
            · exact Or.inl q
            · exact Or.inr ⟨v, Nat.le_of_succ_le a, b, c', d, f⟩
        · obtain ⟨y1, y2, y3⟩ := p5 u (Nat.lt_succ_of_lt hu)
          refine ⟨y1, fun v a b c d => ?_, ?_⟩
          · exact y2 v (Nat.lt_of_le_of_ne a (fun q => hn (q ▸ c))) b c d
          · rcases y3 with y3 | ⟨v, a, b, c', d, f⟩
            · exact Or.inl y3
            · exact Or.inr ⟨v, Nat.le_of_succ_le a, b, c', d, f⟩
    · exact ⟨x, by
        show f_X5_findWays_L32 _ (A 4 0 6) (m + 1) (-1) x = _
        rw [f_X5_findWays_L32, if_pos (by decide)], hp.1, hp.2.1, hp.2.2.1⟩
