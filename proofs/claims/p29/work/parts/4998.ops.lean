theorem ne_a {n k : Nat} (h : n < k) (h2 : k < 16) : n ≠ 15 := by omega
theorem ne_15 {n : Nat} (h : n < 14) : 15 ≠ n := by omega
theorem ne_15' {n : Nat} (h : n < 14) : n ≠ 15 := by omega
theorem lt_15 {n : Nat} (h : n < 14) : n < 15 := by omega
theorem ne_14 {n : Nat} (h : n < 14) : 14 ≠ n := by omega
theorem ne_29 {q k : Nat} (h : 29 ≤ q) (hk : k < 29) : q ≠ k := by omega
theorem wn12 {n : Nat} (hn : n < 14) : wI ((n : Int) + 1) = (n : Int) + 1 ∧ wI ((n : Int) + 1 - 1) = (n : Int) := by
  refine ⟨?_, ?_⟩
  · rw [wI_s (by omega)]; omega
  · rw [show (n : Int) + 1 - 1 = (n : Int) by omega, wI_n (by omega)]
theorem gU_ne {M : gM} {r i k r' i' k' : Nat} {v : Int} (h : ¬ (r' = r ∧ i' = i ∧ k' = k)) : gU M r i k v r' i' k' = M r' i' k' := if_neg h
theorem dsc_old {n t k : Nat} {v1 v2 v3 v4 v5 v6 w : Int} {A : gM} (hk : t ≠ n ∨ k = 0 ∨ 9 ≤ k) : f_X8_describe n v1 v2 v3 v4 v5 v6 (gU A 2 0 5 w) 7 t k = A 7 t k := by
  unfold f_X8_describe
  rw [gU_ne (by omega), gU_ne (by omega), gU_ne (by omega), gU_ne (by omega), gU_ne (by omega), gU_ne (by omega), gU_ne (by omega)]
theorem dsc_new {n : Nat} {v1 v2 v3 v4 v5 v6 : Int} {A : gM} : f_X8_describe n v1 v2 v3 v4 v5 v6 A 7 n 3 = v1 ∧ f_X8_describe n v1 v2 v3 v4 v5 v6 A 7 n 4 = v2 ∧ f_X8_describe n v1 v2 v3 v4 v5 v6 A 7 n 5 = v3 ∧ f_X8_describe n v1 v2 v3 v4 v5 v6 A 7 n 6 = v4 ∧ f_X8_describe n v1 v2 v3 v4 v5 v6 A 7 n 7 = v5 ∧ f_X8_describe n v1 v2 v3 v4 v5 v6 A 7 n 8 = v6 := by
  unfold f_X8_describe
  refine ⟨?_, ?_, ?_, ?_, ?_, ?_⟩
  · rw [gU_k (by decide), gU_k (by decide), gU_k (by decide), gU_k (by decide), gU_k (by decide), gU_s]
  · rw [gU_k (by decide), gU_k (by decide), gU_k (by decide), gU_k (by decide), gU_s]
  · rw [gU_k (by decide), gU_k (by decide), gU_k (by decide), gU_s]
  · rw [gU_k (by decide), gU_k (by decide), gU_s]
  · rw [gU_k (by decide), gU_s]
  · rw [gU_s]
theorem S_target {c : Nat} (v1 v2 v3 v4 v5 v6 : Int) : Sim (Rel c) (Rel (c + 1)) (f_L_target v1 v2 v3 v4 v5 v6) (f_X12_target v1 v2 v3 v4 v5 v6) := by
  intro A B h
  have h0 := h
  obtain ⟨n, h1, h2, h3, h4, h5, h6, h7⟩ := h0
  have h2' := h2
  obtain ⟨hn, hA, hB, ⟨z, hz, r1, r2, r3⟩, t5, t6, t7⟩ := h2'
  have hgo : A 4 0 8 = B 29 0 36 := h6.2.1
  by_cases ho : okT v1 v2 v3 v4 v5 v6
  · by_cases hs : 0 < B 41 0 14 ∧ B 29 0 36 = 0 ∧ n < 14
    · have hs' : 0 < A 8 15 5 ∧ A 4 0 8 = 0 ∧ n < 14 := by rw [r1, ← r2, hgo]; exact hs
      obtain ⟨s1, s2, s3⟩ := hs
      have d8 : f_X8_describe n v1 v2 v3 v4 v5 v6 (gU A 2 0 5 ((n : Int) + 1)) 8 15 5 = (z : Int) := by
        unfold f_X8_describe
        simp (disch := decide) only [gU_r]
        exact r1
      obtain ⟨A1, e1, e2, e3, e4, e5⟩ := bec (A := f_X8_describe n v1 v2 v3 v4 v5 v6 (gU A 2 0 5 ((n : Int) + 1))) (i := n) (j := 15) (ne_15 s3) hz d8
      obtain ⟨B1, m1, m2, m3, m4, m5⟩ := layB (B := gU (gU (gU (gU (gU (gU (gU B 29 0 0 0) 35 0 n v1) 36 0 n v2) 37 0 n v3) 38 0 n v4) 39 0 n v5) 40 0 n v6) (p := 14) (q := n) (by decide) (lt_15 s3) (ne_14 s3)
      have fA1 : But [2, 7, 8, 17, 18, 19, 20] A1 A := by
        refine But_t ?_ (But_w e2 rfl)
        unfold f_X8_describe
        exact But_u (But_u (But_u (But_u (But_u (But_u (But_u But_r rfl) rfl) rfl) rfl) rfl) rfl) rfl
      have fB1 : But [29, 35, 36, 37, 38, 39, 40, 41, 42, 43, 44, 45] B1 B := But_t (But_u (But_u (But_u (But_u (But_u (But_u (But_u But_r rfl) rfl) rfl) rfl) rfl) rfl) rfl) (But_w m2 rfl)
      have a7 : ∀ t k, A1 7 t k = f_X8_describe n v1 v2 v3 v4 v5 v6 (gU A 2 0 5 ((n : Int) + 1)) 7 t k := fun t k => by rw [But_q e2 rfl]
      have d7 : ∀ t k, t ≠ n ∨ k = 0 ∨ 9 ≤ k → f_X8_describe n v1 v2 v3 v4 v5 v6 (gU A 2 0 5 ((n : Int) + 1)) 7 t k = A 7 t k := fun t k hk => by
        exact dsc_old hk
      have b29' : ∀ j, j ≠ 0 → B1 29 0 j = B 29 0 j := fun j hj => by
        rw [But_q m2 rfl, gU_r (by decide), gU_r (by decide), gU_r (by decide), gU_r (by decide), gU_r (by decide), gU_r (by decide), gU_k hj]
      have b7 : B1 29 0 7 = (n : Int) := by rw [b29' 7 (by decide), hB]
      obtain ⟨w1, w2⟩ := wn12 s3
      have f1 : f_L_target v1 v2 v3 v4 v5 v6 A = some (0, gU (gU A1 8 15 5 0) 75 0 0 (n : Int)) := by
        unfold f_L_target
        rw [tgC hA ho hs', e1]
        show some _ = some _
        rw [gU_r (by decide), a7, d7 n 0 (Or.inr (Or.inl rfl)), t5 n s3]
      have f2 : f_X12_target v1 v2 v3 v4 v5 v6 B = some ((n : Int), gU (gU B1 41 0 14 0) 29 0 7 ((n : Int) + 1)) := by
        rw [tgB hB ho ⟨s1, s2, s3⟩]
        show ob (f_X12_lay ((14 : Nat) : Int) _ _) _ = _
        rw [m1, ob_s, b7, w1, gU_s, w2]
      have b35 : ∀ r, r ∈ [35, 36, 37, 38, 39, 40] → B1 r = gU (gU (gU (gU (gU (gU (gU B 29 0 0 0) 35 0 n v1) 36 0 n v2) 37 0 n v3) 38 0 n v4) 39 0 n v5) 40 0 n v6 r := But_l m2 rfl
      have i41 : ∀ M : gM, ∀ r, r ∈ [35, 36, 37, 38, 39, 40, 42, 43, 44, 45] → ∀ v w, gU (gU M 41 0 14 v) 29 0 7 w r = M r := fun M r hr v w => by
        rw [gU_r (fun e => by rw [e] at hr; revert hr; decide), gU_r (fun e => by rw [e] at hr; revert hr; decide)]
      have j35 : ∀ t, B1 35 0 t = if t = n then v1 else B 35 0 t := fun t => by
        rw [b35 35 (by decide), gU_r (by decide), gU_r (by decide), gU_r (by decide), gU_r (by decide), gU_r (by decide), gU_same, gU_r (by decide)]; rfl
      have j36 : ∀ t, B1 36 0 t = if t = n then v2 else B 36 0 t := fun t => by
        rw [b35 36 (by decide), gU_r (by decide), gU_r (by decide), gU_r (by decide), gU_r (by decide), gU_same, gU_r (by decide), gU_r (by decide)]; rfl
      have j37 : ∀ t, B1 37 0 t = if t = n then v3 else B 37 0 t := fun t => by
        rw [b35 37 (by decide), gU_r (by decide), gU_r (by decide), gU_r (by decide), gU_same, gU_r (by decide), gU_r (by decide), gU_r (by decide)]; rfl
      have j38 : ∀ t, B1 38 0 t = if t = n then v4 else B 38 0 t := fun t => by
        rw [b35 38 (by decide), gU_r (by decide), gU_r (by decide), gU_same, gU_r (by decide), gU_r (by decide), gU_r (by decide), gU_r (by decide)]; rfl
      have j39 : ∀ t, B1 39 0 t = if t = n then v5 else B 39 0 t := fun t => by
        rw [b35 39 (by decide), gU_r (by decide), gU_same, gU_r (by decide), gU_r (by decide), gU_r (by decide), gU_r (by decide), gU_r (by decide)]; rfl
      have j40 : ∀ t, B1 40 0 t = if t = n then v6 else B 40 0 t := fun t => by
        rw [b35 40 (by decide), gU_same, gU_r (by decide), gU_r (by decide), gU_r (by decide), gU_r (by decide), gU_r (by decide), gU_r (by decide)]; rfl
      have k42 : ∀ r, r ∈ [42, 43, 44, 45] → gU (gU (gU (gU (gU (gU (gU B 29 0 0 0) 35 0 n v1) 36 0 n v2) 37 0 n v3) 38 0 n v4) 39 0 n v5) 40 0 n v6 r = B r := But_l (L := [29, 35, 36, 37, 38, 39, 40]) (But_u (But_u (But_u (But_u (But_u (But_u (But_u But_r rfl) rfl) rfl) rfl) rfl) rfl) rfl) rfl
      have k41 : gU (gU (gU (gU (gU (gU (gU B 29 0 0 0) 35 0 n v1) 36 0 n v2) 37 0 n v3) 38 0 n v4) 39 0 n v5) 40 0 n v6 41 = B 41 := by
        rw [gU_r (by decide), gU_r (by decide), gU_r (by decide), gU_r (by decide), gU_r (by decide), gU_r (by decide), gU_r (by decide)]
      have ad : ∀ r, r ∈ [8, 17, 18, 19, 20] → f_X8_describe n v1 v2 v3 v4 v5 v6 (gU A 2 0 5 ((n : Int) + 1)) r = A r := by
        unfold f_X8_describe
        exact But_l (L := [2, 7]) (But_u (But_u (But_u (But_u (But_u (But_u (But_u But_r rfl) rfl) rfl) rfl) rfl) rfl) rfl) rfl
      have a81 : ∀ M : gM, ∀ r, r ≠ 8 → gU M 8 15 5 0 r = M r := fun M r hr => gU_r hr
      refine ⟨_, _, _, _, f1, f2, ?_, fun _ => gU_s _ _ _ _ _, Rel_out _ (Rel_up (Rel_tell s3 h1 h2 h3 h4 h5 h6 h7 s2 (But_u fA1 rfl) ?_ ?_ ?_ (But_u (But_u fB1 rfl) rfl) ?_ (gU_s _ _ _ _ _) ?_ ?_ ?_ ?_ ?_ ?_ ?_)), fun q q1 q2 => ?_, ?_⟩
      · rw [gU_k (by decide), gU_r (by decide), But_q m2 rfl, gU_r (by decide), gU_r (by decide), gU_r (by decide), gU_r (by decide), gU_r (by decide), gU_r (by decide), gU_s]
      · rw [gU_r (by decide), But_q e2 rfl]
        unfold f_X8_describe
        rw [gU_r (by decide), gU_r (by decide), gU_r (by decide), gU_r (by decide), gU_r (by decide), gU_r (by decide), gU_s]
      · intro t k hk
        rw [gU_r (by decide), a7, d7 t k hk]
      · intro q hq i i1 i2
        by_cases q8 : q = 8
        · rw [q8, gU_i i2, e3 8 (by decide) i i1, ad 8 (by decide)]
        · rw [gU_r q8, e3 q hq i i1, ad q hq]
      · intro j j0 j7
        rw [gU_k j7, gU_r (by decide)]
        exact b29' j j0
      · intro r hr t ht
        rw [i41 B1 r (by revert hr; revert r; decide)]
        simp only [List.mem_cons, List.not_mem_nil, or_false] at hr
        rcases hr with rfl | rfl | rfl | rfl | rfl | rfl
        · rw [j35, if_neg ht]
        · rw [j36, if_neg ht]
        · rw [j37, if_neg ht]
        · rw [j38, if_neg ht]
        · rw [j39, if_neg ht]
        · rw [j40, if_neg ht]
      · intro t ht h14
        rw [gU_r (by decide), gU_k h14, m3 t ht, k41]
      · intro r hr j hj
        rw [i41 B1 r (by revert hr; revert r; decide), (m5 r hr).1 j (Or.inl hj), k42 r hr]
      · rw [gU_r (by decide), a7, a7, a7, a7, a7, a7, i41 B1 35 (by decide), i41 B1 36 (by decide), i41 B1 37 (by decide), i41 B1 38 (by decide), i41 B1 39 (by decide), i41 B1 40 (by decide), j35, j36, j37, j38, j39, j40]
        simp only [if_true]
        exact dsc_new
      · unfold RD
        rw [i41 B1 35 (by decide), i41 B1 36 (by decide), i41 B1 37 (by decide), i41 B1 38 (by decide), i41 B1 39 (by decide), i41 B1 40 (by decide), j35, j36, j37, j38, j39, j40]
        simp only [if_true]
        obtain ⟨o1, o2, o3, o4, o5, o6, o7, o8⟩ := ho
        exact ⟨o1, o2, o3, o4, o6, o7, o8⟩
      · refine ⟨z, hz, ?_, ?_, fun k hk => ?_⟩
        · rw [gU_i (ne_15' s3), e4]
        · rw [gU_r (by decide), gU_k (Nat.ne_of_lt s3), m4, k41, r2]
        · rw [a81 _ 17 (by decide), a81 _ 18 (by decide), a81 _ 19 (by decide), a81 _ 20 (by decide), e5 17 (by decide) k hk, e5 18 (by decide) k hk, e5 19 (by decide) k hk, e5 20 (by decide) k hk, ad 17 (by decide), ad 18 (by decide), ad 19 (by decide), ad 20 (by decide), i41 B1 42 (by decide), i41 B1 43 (by decide), i41 B1 44 (by decide), i41 B1 45 (by decide), (m5 42 (by decide)).2 k (Nat.lt_of_lt_of_le hk hz), (m5 43 (by decide)).2 k (Nat.lt_of_lt_of_le hk hz), (m5 44 (by decide)).2 k (Nat.lt_of_lt_of_le hk hz), (m5 45 (by decide)).2 k (Nat.lt_of_lt_of_le hk hz), k42 42 (by decide), k42 43 (by decide), k42 44 (by decide), k42 45 (by decide)]
          exact r3 k hk
      · refine ⟨0, Nat.zero_le _, gU_s _ _ _ _ _, ?_, fun k hk => absurd hk (Nat.not_lt_zero _)⟩
        rw [gU_r (by decide), gU_s]; rfl
      · rw [gU_r q2, gU_r (ne_29 q1 (by decide))]
        exact But_c fA1 rfl q q1 q2
      · exact But_m (But_u (But_u fB1 rfl) rfl) rfl
    · have hs' : ¬ (0 < A 8 15 5 ∧ A 4 0 8 = 0 ∧ n < 14) := by rw [r1, ← r2, hgo]; exact hs
      have e1 : f_L_target v1 v2 v3 v4 v5 v6 A = some (2, A) := by
        unfold f_L_target
        rw [tgC_3 hA ho hs']
        rfl
      exact ⟨_, _, _, _, e1, tgB_3 hB ho hs, gU_s _ _ _ _ _, fun q => absurd q (by decide), Rel_thr _ (Rel_up h), fun q _ _ => rfl, fun q hq => gU_r (by omega)⟩
  · have e1 : f_L_target v1 v2 v3 v4 v5 v6 A = some (1, A) := by
      unfold f_L_target
      rw [tgC_1 ho]
      rfl
    exact ⟨_, _, _, _, e1, tgB_1 ho, gU_s _ _ _ _ _, fun q => absurd q (by decide), Rel_thr _ (Rel_up h), fun q _ _ => rfl, fun q hq => gU_r (by omega)⟩
