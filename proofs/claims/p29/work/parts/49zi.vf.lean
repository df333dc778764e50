/-! ### what becomes of an action that nobody is at -/
theorem RB_vf {A B A' B' : gM} {n c t s : Nat} {v f : Int} (h2 : RT A B n) (h6 : RB A B n c) (hs : s < 4) (hao : aOK B n t s) (hnd : ndd B t) (h60 : B 60 0 (4 * t + s) = 2) (fA : But [9] A' A) (a9 : ∀ x k, A' 9 x k = if x = 4 * t + s ∧ k = 2 then v else if x = 4 * t + s ∧ k = 7 then f else A 9 x k) (fB : But [60, 63] B' B) (b60 : ∀ x, B' 60 0 x = if x = 4 * t + s then v else B 60 0 x) (b63 : ∀ x, B' 63 0 x = if x = 4 * t + s then f else B 63 0 x) (hv : 0 ≤ v ∧ v ≤ 5) (v3 : v ≠ 3) (hf : -2147483648 ≤ f ∧ f ≤ 2147483647) (hvf : v = 0 → f = 0) : RB A' B' n c := by
  have ht14 : t < 14 := Nat.lt_of_lt_of_le hao.1 h2.1
  have tN : TdN B B' := TdN_b (But_w fB rfl) (by rw [But_q fB rfl])
  obtain ⟨y1, y2, y3, y4, y5, y6, y7, y8⟩ := h6.2.2.2.2.2.2.1 (4 * t + s)
  have n64 : B 64 0 (4 * t + s) = 0 := (h6.2.2.2.2.2.2.2.2.2.2.2 t s hs hao hnd).2 (by rw [h60]; decide)
  have ro : ∀ x, x ≠ 4 * t + s → A' 9 x = A 9 x := fun x hx => funext fun k => by
    rw [a9, if_neg (fun z => hx z.1), if_neg (fun z => hx z.1)]
  have rk : ∀ k, k ≠ 2 → k ≠ 7 → A' 9 (4 * t + s) k = A 9 (4 * t + s) k := fun k k2 k7 => by
    rw [a9, if_neg (fun z => k2 z.2), if_neg (fun z => k7 z.2)]
  have r2 : A' 9 (4 * t + s) 2 = v := by rw [a9, if_pos ⟨rfl, rfl⟩]
  have r7 : A' 9 (4 * t + s) 7 = f := by rw [a9, if_neg (fun z => absurd z.2 (by decide)), if_pos ⟨rfl, rfl⟩]
  refine RB_act h6 (sh4 h2) tN ht14 hs hao hnd (by rw [But_q fA rfl]) (by rw [But_q fA rfl]) (by rw [But_q fA rfl]) (by rw [But_q fA rfl]) (by rw [But_q fB rfl]) (by rw [But_q fB rfl]) ro (fun q hq a ha => ?_) (fun t' _ => by rw [But_q fA rfl]; exact ⟨rfl, rfl⟩) (fun t' _ => by rw [But_q fB rfl, But_q fB rfl]; exact ⟨rfl, rfl⟩) (fun t' ht' => by rw [But_q fA rfl]) ?_ ?_ ?_ ?_ ?_ ?_ ?_ ?_
  · simp only [List.mem_cons, List.not_mem_nil, or_false] at hq
    rcases hq with rfl | rfl | rfl | rfl | rfl | rfl
    · rw [b60, if_neg ha]
    · rw [But_q fB rfl]
    · rw [But_q fB rfl]
    · rw [b63, if_neg ha]
    · rw [But_q fB rfl]
    · rw [But_q fB rfl]
  · rw [But_q fB rfl, But_q fA rfl]
    exact fl0 h6
  · exact ⟨rk 0 (by decide) (by decide), rk 1 (by decide) (by decide)⟩
  · rw [rk 3 (by decide) (by decide), rk 4 (by decide) (by decide), rk 6 (by decide) (by decide), r7, b63, if_pos rfl, show B' 61 = B 61 from But_q fB rfl, show B' 62 = B 62 from But_q fB rfl, show B' 64 = B 64 from But_q fB rfl, show B' 65 = B 65 from But_q fB rfl]
    exact ⟨y1, y2, y3, rfl, y5, y6, hf, y8⟩
  · rw [r2, b60, if_pos rfl]
    exact ⟨rfl, hv, fun z => absurd z v3⟩
  · rw [But_q fB rfl]
    exact at0 h6 _
  · rw [But_q fA rfl, But_q fB rfl, But_q fB rfl]
    exact h6.2.2.2.2.2.2.2.2.1 t ht14
  · intro s' hs' ho' h3
    have e : ¬ 4 * t + s' = 4 * t + s := fun z => by rw [z, b60, if_pos rfl] at h3; exact v3 h3
    rw [b60, if_neg e] at h3
    rw [But_q fA rfl, dgS_t tN.1 (But_q fB rfl)]
    exact h6.2.2.2.2.2.2.2.2.2.1 t s' hs' ho' hnd h3
  · rw [b60, if_pos rfl, b63, if_pos rfl, show B' 64 = B 64 from But_q fB rfl, n64]
    exact ⟨hvf, fun _ => rfl⟩
/-- v is what becomes of it -/
theorem EJ_vf {A B A' B' : gM} {n c t s : Nat} {v f : Int} (h : EJ A B n c t s) (fA : But [9] A' A) (a9 : ∀ x k, A' 9 x k = if x = 4 * t + s ∧ k = 2 then v else if x = 4 * t + s ∧ k = 7 then f else A 9 x k) (fB : But [60, 63] B' B) (b60 : ∀ x, B' 60 0 x = if x = 4 * t + s then v else B 60 0 x) (b63 : ∀ x, B' 63 0 x = if x = 4 * t + s then f else B 63 0 x) (hv : 0 ≤ v ∧ v ≤ 5) (v3 : v ≠ 3) (v2 : v ≠ 2) (hf : -2147483648 ≤ f ∧ f ≤ 2147483647) (hvf : v = 0 → f = 0) : SJ 0 A' B' n c := by
  have hJ := h
  obtain ⟨h1, h2, h3, h4, -, h6, -, -, -, hs, hao, hnd, h60, -⟩ := h
  exact EJ_act hJ (RS_9 h1 (But_w fA rfl) (But_w fB rfl)) (RT_9 h2 (But_w fA rfl) (But_w fB rfl)) (RC_9 h3 (But_w fA rfl) (But_w fB rfl)) (RO_c h4 (by rw [But_q fA rfl]) (by rw [But_q fA rfl]) (But_q fA rfl) (by rw [But_q fA rfl]) (by rw [But_q fB rfl]) (by rw [But_q fB rfl]) (by rw [But_q fB rfl]) (But_q fB rfl)) (RB_vf h2 h6 hs hao hnd h60 fA a9 fB b60 b63 hv v3 hf hvf) (TdN_9 (But_w fB rfl)) (But_q fA rfl) (But_l fB rfl) (fun x hx => by rw [b60, if_neg hx]) (by rw [b60, if_pos rfl]; exact v2)
/-- what leaves the workers and the states of actions alone keeps EJ -/
theorem EJ_keep {A B A' B' : gM} {n c t s : Nat} (h : EJ A B n c t s) (h1 : RS A' B') (h2 : RT A' B' n) (h3 : RC A' B') (h4 : RO A' B') (h6 : RB A' B' n c) (hT : TdN B B') (a11 : A' 11 = A 11) (b5 : ∀ q, q ∈ [53, 54, 55, 56, 57, 58, 59] → B' q = B q) (b60 : B' 60 = B 60) : EJ A' B' n c t s := by
  obtain ⟨-, -, -, -, ⟨i1, i2, i3⟩, -, g1', g2, g4, hs, hao, hnd, h60, hno⟩ := h
  refine ⟨h1, h2, h3, h4, ⟨⟨fun w => ?_, fun w hw => ?_⟩, W3_act i2 (Int.le_refl 0) hT (fun v hv => Or.inr (Or.inr ⟨fun q hq => by rw [b5 q (by simp only [List.mem_cons, List.not_mem_nil, or_false] at hq ⊢; omega)], fun x _ h2x => by rw [b60]; exact h2x⟩)), W4_sub i3 (fun v _ => Or.inr (by rw [b5 54 (by decide)]))⟩, h6, G1_t hT g1', G2_act hT g2 hs (fun _ _ => by rw [b60]) (by rw [h60]; decide) hao (fun _ => g2 t s hs hao hnd (Or.inr h60)), ?_, hs, (aOK_t hT.1 n t s).mpr hao, (ndd_t hT t).mpr hnd, by rw [b60]; exact h60, fun w hw => by rw [b5 54 (by decide)]; exact hno w hw⟩
  · rw [a11, b5 53 (by decide), b5 54 (by decide), b5 55 (by decide), b5 56 (by decide), b5 57 (by decide), b5 58 (by decide), b5 59 (by decide)]
    exact i1.1 w
  · rw [a11, b5 53 (by decide), b5 55 (by decide), b5 59 (by decide)]
    exact i1.2 w hw
  · intro t' s' hs' ho hn hne hx
    rw [b5 54 (by decide)]
    rw [b60] at hx
    exact g4 t' s' hs' ((aOK_t hT.1 n t' s').mp ho) ((ndd_t hT t').mp hn) hne hx
theorem EJ_ta {A B : gM} {n c t s k : Nat} (h : EJ A B n c t s) : EJ (taA A k) (taB B k) n c t s := by
  have hJ := h
  obtain ⟨h1, h2, h3, h4, -, h6, -⟩ := h
  exact EJ_keep hJ (RS_9 h1 (But_w taA_o rfl) (But_w taB_o rfl)) (RT_9 h2 (But_w taA_o rfl) (But_w taB_o rfl)) (RC_9 h3 (But_w taA_o rfl) (But_w taB_o rfl)) (RO_ta h4) (RB_ta h6) (TdN_9 (But_w taB_o rfl)) (But_q taA_o rfl) (But_l taB_o rfl) (But_q taB_o rfl)
/-- the failures are counted up -/
theorem EJ_f {A B : gM} {n c t s : Nat} {f : Int} (h : EJ A B n c t s) (hf : -2147483648 ≤ f ∧ f ≤ 2147483647) : EJ (gU A 9 (4 * t + s) 7 f) (gU B 63 0 (4 * t + s) f) n c t s := by
  have hJ := h
  obtain ⟨h1, h2, h3, h4, -, h6, -, -, -, hs, hao, hnd, h60, -⟩ := h
  have fA : But [9] (gU A 9 (4 * t + s) 7 f) A := But_u But_r rfl
  have fB : But [63] (gU B 63 0 (4 * t + s) f) B := But_u But_r rfl
  have ht14 : t < 14 := Nat.lt_of_lt_of_le hao.1 h2.1
  have e2 : A 9 (4 * t + s) 2 = 2 := ((h6.2.2.2.2.2.2.2.1 t s ht14 hs).2.2.1 ⟨hao, hnd⟩).1.trans h60
  refine EJ_keep hJ (RS_9 h1 (But_w fA rfl) (But_w fB rfl)) (RT_9 h2 (But_w fA rfl) (But_w fB rfl)) (RC_9 h3 (But_w fA rfl) (But_w fB rfl)) (RO_c h4 (by rw [But_q fA rfl]) (by rw [But_q fA rfl]) (But_q fA rfl) (by rw [But_q fA rfl]) (by rw [But_q fB rfl]) (by rw [But_q fB rfl]) (by rw [But_q fB rfl]) (But_q fB rfl)) (RB_vf (v := 2) (f := f) h2 h6 hs hao hnd h60 fA (fun x k => ?_) (But_w fB rfl) (fun x => ?_) (fun x => ?_) (by decide) (by decide) hf (fun z => absurd z (by decide))) (TdN_9 (But_w fB rfl)) (But_q fA rfl) (But_l fB rfl) (But_q fB rfl)
  · by_cases e : x = 4 * t + s
    · rw [e]
      by_cases k2 : k = 2
      · rw [k2, if_pos ⟨rfl, rfl⟩, gU_k (by decide), e2]
      · rw [if_neg (fun z => k2 z.2)]
        by_cases k7 : k = 7
        · rw [k7, if_pos ⟨rfl, rfl⟩, gU_s]
        · rw [if_neg (fun z => k7 z.2), gU_k k7]
    · rw [if_neg (fun z => e z.1), if_neg (fun z => e z.1), gU_ne (fun z => e z.2.1)]
  · rw [But_q fB rfl]
    by_cases e : x = 4 * t + s
    · rw [if_pos e, e, h60]
    · rw [if_neg e]
  · by_cases e : x = 4 * t + s
    · rw [if_pos e, e, gU_s]
    · rw [if_neg e, gU_k e]
