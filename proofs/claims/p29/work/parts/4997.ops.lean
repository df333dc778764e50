/-! ### a target is told -/
theorem p14 {r n : Nat} (hr : r < 2 ^ n) (hn : n ≤ 14) : r < 16384 := Nat.lt_of_lt_of_le hr (show 2 ^ n ≤ 2 ^ 14 from Nat.pow_le_pow_right (by decide) hn)
theorem Rel_tell {c n : Nat} {A B A' B' : gM} (hn14 : n < 14) (h1 : RS A B) (h2 : RT A B n) (h3 : RC A B) (h4 : RO A B) (h5 : RW A B n) (h6 : RB A B n c) (h7 : RG B n) (hg : B 29 0 36 = 0)
    (fA : But [2, 7, 8, 17, 18, 19, 20] A' A) (a2 : A' 2 0 5 = (n : Int) + 1) (a7 : ∀ t k, t ≠ n ∨ k = 0 ∨ 9 ≤ k → A' 7 t k = A 7 t k) (a8 : ∀ q, q ∈ [8, 17, 18, 19, 20] → ∀ i, i ≠ n → i ≠ 15 → A' q i = A q i)
    (fB : But [29, 35, 36, 37, 38, 39, 40, 41, 42, 43, 44, 45] B' B) (b29 : ∀ j, j ≠ 0 → j ≠ 7 → B' 29 0 j = B 29 0 j) (b7 : B' 29 0 7 = (n : Int) + 1) (b35 : ∀ q, q ∈ [35, 36, 37, 38, 39, 40] → ∀ t, t ≠ n → B' q 0 t = B q 0 t) (b41 : ∀ t, t ≠ n → t ≠ 14 → B' 41 0 t = B 41 0 t) (b42 : ∀ q, q ∈ [42, 43, 44, 45] → ∀ j, j < 4 * n → B' q 0 j = B q 0 j)
    (hnew : A' 7 n 3 = B' 35 0 n ∧ A' 7 n 4 = B' 36 0 n ∧ A' 7 n 5 = B' 37 0 n ∧ A' 7 n 6 = B' 38 0 n ∧ A' 7 n 7 = B' 39 0 n ∧ A' 7 n 8 = B' 40 0 n) (hRD : RD B' n) (hRI : RI A' B' n n n) (hrow : RI A' B' 15 14 (n + 1)) : Rel c A' B' := by
  obtain ⟨t1, t2, t3, t4, t5, t6, t7⟩ := h2
  have c38 : ∀ t, t ≠ n → B' 38 0 t = B 38 0 t := b35 38 (by decide)
  have c37 : B' 29 0 37 = B 29 0 37 := b29 37 (by decide) (by decide)
  have c36 : B' 29 0 36 = B 29 0 36 := b29 36 (by decide) (by decide)
  have ndn : ¬ ndd B n := by
    obtain ⟨-, -, -, ⟨r, hr, e⟩, -⟩ := h6
    intro q
    unfold ndd at q
    rw [e, bit_1 (lt14_31 (p14 hr t1)) (show n < 31 by omega)] at q
    rw [Nat.testBit_lt_two_pow hr] at q
    cases q
  have hnd : ∀ t, ndd B' t ↔ ndd B t := fun t => by unfold ndd; rw [c37]
  have hao : ∀ t s, ndd B t → (aOK B' (n + 1) t s ↔ aOK B n t s) := fun t s hd => by
    unfold aOK
    by_cases e : t = n
    · rw [e] at hd; exact absurd hd ndn
    · rw [c38 t e]; omega
  have hao2 : ∀ t s, aOK B n t s → aOK B' (n + 1) t s := fun t s hd => by
    unfold aOK at hd ⊢
    rw [c38 t (by omega)]
    exact ⟨by omega, hd.2⟩
  refine ⟨n + 1, RS_c h1 (fun q hq => by rw [But_l fA (K := [12, 13, 14, 15, 16]) rfl q hq]) (by rw [But_q fA rfl]) (But_l fB rfl) (b29 4 (by decide) (by decide)), ⟨by omega, by rw [a2]; omega, by rw [b7]; omega, hrow, fun t ht => by rw [a7 t 0 (by omega), t5 t ht], fun t => ?_, fun t ht => ?_⟩, RC_c h3 (But_q fA rfl) (But_q fA rfl) (But_l fB rfl) (b29 21 (by decide) (by decide)), RO_c h4 (by rw [But_q fA rfl]) (by rw [But_q fA rfl]) (But_q fA rfl) (by rw [But_q fA rfl]) (b29 19 (by decide) (by decide)) (b29 20 (by decide) (by decide)) (b29 49 (by decide) (by decide)) (But_q fB rfl), ?_, ?_, ?_⟩
  · by_cases e : t = n
    · rw [e]; exact hnew
    · rw [a7 t 3 (by omega), a7 t 4 (by omega), a7 t 5 (by omega), a7 t 6 (by omega), a7 t 7 (by omega), a7 t 8 (by omega), b35 35 (by decide) t e, b35 36 (by decide) t e, b35 37 (by decide) t e, b35 38 (by decide) t e, b35 39 (by decide) t e, b35 40 (by decide) t e]
      exact t6 t
  · by_cases e : t = n
    · rw [e]; exact ⟨hRI, hRD⟩
    · refine ⟨RI_c (t7 t (by omega)).1 (by rw [a8 8 (by decide) t e (by omega)]) (fun q hq => a8 q (List.mem_cons_of_mem _ hq) t e (by omega)) (b41 t e (by omega)) (fun q hq k hk => b42 q hq _ (by omega)), RD_c (t7 t (by omega)).2 (fun q hq => b35 q hq t e)⟩
  · obtain ⟨w1, w2, w3, w4⟩ := h5
    have f11 : A' 11 = A 11 := But_q fA rfl
    have fr : ∀ q, q ∈ [53, 54, 55, 56, 57, 58, 59, 60] → B' q = B q := But_l fB rfl
    refine ⟨?_, ?_, fun w hw => ?_, ?_⟩
    · rw [f11, fr 53 (by decide), fr 54 (by decide), fr 55 (by decide), fr 56 (by decide), fr 57 (by decide), fr 58 (by decide), fr 59 (by decide)]
      exact w1
    · rw [f11, fr 53 (by decide), fr 55 (by decide), fr 59 (by decide)]
      exact w2
    · rw [fr 53 (by decide), fr 54 (by decide), fr 55 (by decide), fr 56 (by decide), fr 57 (by decide), fr 58 (by decide), fr 60 (by decide)]
      rcases w3 w hw with q | ⟨t, s, q1, q2, q3, q4, q5⟩
      · exact Or.inl q
      · refine Or.inr ⟨t, s, q1, q2, hao2 t s q3, (hnd t).mpr q4, ?_⟩
        rw [b35 39 (by decide) t (fun e => by rw [e] at q3; exact absurd q3.1 (by omega))]
        exact q5
    · rw [fr 54 (by decide)]
      exact w4
  · obtain ⟨k1, k2, k3, ⟨r, hr, k4⟩, ⟨b, hb, hb2⟩, ⟨w, hw, hw2⟩, k7, k8, k9, k10, k11, k12⟩ := h6
    have f9 : A' 9 = A 9 := But_q fA rfl
    have f4 : A' 4 = A 4 := But_q fA rfl
    have f0 : A' 0 = A 0 := But_q fA rfl
    have f23 : A' 23 = A 23 := But_q fA rfl
    have fr : ∀ q, q ∈ [60, 61, 62, 63, 64, 65, 66, 67] → B' q = B q := But_l fB rfl
    refine ⟨by rw [f4, c37]; exact k1, by rw [f4, c36]; exact k2, by rw [f4, c36]; exact k3, ⟨r, by rw [Nat.pow_succ]; omega, by rw [c37]; exact k4⟩, ⟨b, hb, ?_⟩, ⟨w, hw, ?_⟩, ?_, ?_, ?_, ?_, ?_, ?_⟩
    · rw [f4, b29 43 (by decide) (by decide)]
      refine ⟨hb2.1, hb2.2.1, fun t ht => ?_⟩
      rw [a7 t 12 (by omega)]
      exact hb2.2.2 t ht
    · rw [f0, b29 48 (by decide) (by decide), fr 65 (by decide)]
      exact hw2
    · rw [f9, fr 61 (by decide), fr 62 (by decide), fr 63 (by decide), fr 64 (by decide), fr 65 (by decide)]
      exact k7
    · intro t s ht hs
      rw [f9, fr 60 (by decide), fr 64 (by decide)]
      obtain ⟨m1, m2, m3, m4⟩ := k8 t s ht hs
      refine ⟨m1, m2, fun q => ?_, fun q => ?_⟩
      · have q2 := (hnd t).mp q.2
        exact m3 ⟨(hao t s q2).mp q.1, q2⟩
      · exact m4 (fun p => q ⟨hao2 t s p.1, (hnd t).mpr p.2⟩)
    · intro t ht
      rw [a7 t 9 (by omega), a7 t 11 (by omega), fr 66 (by decide), fr 67 (by decide)]
      exact k9 t ht
    · intro t s hs ho hd h3
      have hd := (hnd t).mp hd
      have ho := (hao t s hd).mp ho
      rw [fr 60 (by decide)] at h3
      rw [f23, k10 t s hs ho hd h3]
      unfold dgS
      rw [fr 61 (by decide), c38 t (fun e => by rw [e] at hd; exact ndn hd)]
    · intro t s ht hs ho
      rw [fr 63 (by decide)]
      exact k11 t s ht hs (fun q => ho (hao2 t s q))
    · intro t s hs ho hd
      have hd := (hnd t).mp hd
      have ho := (hao t s hd).mp ho
      rw [fr 60 (by decide), fr 63 (by decide), fr 64 (by decide)]
      exact k12 t s hs ho hd
  · refine ⟨fun _ t s hs ho hd => ?_, fun q => ?_⟩
    · have hd := (hnd t).mp hd
      have ho := (hao t s hd).mp ho
      rw [But_q fB rfl]
      exact h7.1 hg t s hs ho hd
    · rw [c36, hg] at q
      cases q
theorem tellN {A : gM} {n : Nat} (h : A 2 0 5 = (n : Int)) (hn : n < 14) : f_X5_tellNext A = (n, gU A 2 0 5 ((n : Int) + 1)) := by
  unfold f_X5_tellNext
  dsimp only [oj]
  rw [h, if_pos (by omega), gU_s]
  unfold f_X5_targetAt
  have w1 : wI ((n : Int) + 1) = (n : Int) + 1 := by rw [wI_s (by omega)]; omega
  have w2 : wI ((n : Int) + 1 - 1) = (n : Int) := by rw [show (n : Int) + 1 - 1 = (n : Int) by omega, wI_n (by omega)]
  rw [w1, w2, gU_s, if_neg (by omega), if_pos (by omega), if_pos (by omega)]
  rfl
def okT (v1 v2 v3 v4 v5 v6 : Int) : Prop := (0 ≤ v1 ∧ v1 ≤ 2) ∧ (0 ≤ v2 ∧ v2 ≤ 3) ∧ (0 ≤ v3 ∧ v3 ≤ 9) ∧ (1 ≤ v4 ∧ v4 ≤ 4) ∧ (v1 ≠ 2 → v4 = 1) ∧ (-1 ≤ v5 ∧ v5 ≤ 65535) ∧ (0 ≤ v6 ∧ v6 ≤ 3) ∧ (v1 ≠ 2 → v6 = 0)
theorem tgC {A : gM} {n : Nat} {v1 v2 v3 v4 v5 v6 : Int} (hA : A 2 0 5 = (n : Int)) (ho : okT v1 v2 v3 v4 v5 v6) (hs : 0 < A 8 15 5 ∧ A 4 0 8 = 0 ∧ n < 14) : f_X11_target v1 v2 v3 v4 v5 v6 A = ob (f_X6_become n 15 (f_X8_describe n v1 v2 v3 v4 v5 v6 (gU A 2 0 5 ((n : Int) + 1)))) fun r182 => some (Sum.inr (((gU r182 8 15 5 0) 7 n 0, gU r182 8 15 5 0))) := by
  obtain ⟨o1, o2, o3, o4, o5, o6, o7, o8⟩ := ho
  obtain ⟨s1, s2, s3⟩ := hs
  have hf : ¬ v4 < 1 := by omega
  by_cases e : v1 = 2
  · by_cases e5 : v5 = -1
    · simp [f_X11_target, oj, isB, cArg, cSta, ob_s, ox_r, e, o2, show v2 < 4 by omega, o3, show v3 < 10 by omega, hf, show ¬ (4 < v4) by omega, e5, o7, show v6 < 4 by omega, s1, s2, hA, show (n : Int) < 14 by omega, tellN hA s3]
    · simp [f_X11_target, oj, isB, cArg, cSta, ob_s, ox_r, e, o2, show v2 < 4 by omega, o3, show v3 < 10 by omega, hf, show ¬ (4 < v4) by omega, e5, show 0 ≤ v5 by omega, show v5 < 65536 by omega, o7, show v6 < 4 by omega, s1, s2, hA, show (n : Int) < 14 by omega, tellN hA s3]
  · have e4 := o5 e
    have e6 := o8 e
    subst e4 e6
    by_cases e5 : v5 = -1
    · simp [f_X11_target, oj, isB, cArg, cSta, ob_s, ox_r, e, o1, show v1 < 3 by omega, o2, show v2 < 4 by omega, o3, show v3 < 10 by omega, e5, s1, s2, hA, show (n : Int) < 14 by omega, tellN hA s3]
    · simp [f_X11_target, oj, isB, cArg, cSta, ob_s, ox_r, e, o1, show v1 < 3 by omega, o2, show v2 < 4 by omega, o3, show v3 < 10 by omega, e5, show 0 ≤ v5 by omega, show v5 < 65536 by omega, s1, s2, hA, show (n : Int) < 14 by omega, tellN hA s3]
theorem tgC_3 {A : gM} {n : Nat} {v1 v2 v3 v4 v5 v6 : Int} (hA : A 2 0 5 = (n : Int)) (ho : okT v1 v2 v3 v4 v5 v6) (hs : ¬ (0 < A 8 15 5 ∧ A 4 0 8 = 0 ∧ n < 14)) : f_X11_target v1 v2 v3 v4 v5 v6 A = some (Sum.inl 3) := by
  obtain ⟨o1, o2, o3, o4, o5, o6, o7, o8⟩ := ho
  have hf : ¬ v4 < 1 := by omega
  have key : (¬ 0 < A 8 15 5) ∨ (0 < A 8 15 5 ∧ ¬ A 4 0 8 = 0) ∨ (0 < A 8 15 5 ∧ A 4 0 8 = 0 ∧ ¬ (n : Int) < 14) := by
    by_cases s1 : 0 < A 8 15 5
    · by_cases s2 : A 4 0 8 = 0
      · exact Or.inr (Or.inr ⟨s1, s2, fun q => hs ⟨s1, s2, by omega⟩⟩)
      · exact Or.inr (Or.inl ⟨s1, s2⟩)
    · exact Or.inl s1
  by_cases e : v1 = 2
  · by_cases e5 : v5 = -1
    · rcases key with s1 | ⟨s1, s2⟩ | ⟨s1, s2, s3⟩
      · simp [f_X11_target, oj, isB, cArg, cSta, ob_s, ox_r, ox_l, hA, o2, show v2 < 4 by omega, o3, show v3 < 10 by omega, e, hf, show ¬ (4 < v4) by omega, o7, show v6 < 4 by omega, e5, s1]
      · simp [f_X11_target, oj, isB, cArg, cSta, ob_s, ox_r, ox_l, hA, o2, show v2 < 4 by omega, o3, show v3 < 10 by omega, e, hf, show ¬ (4 < v4) by omega, o7, show v6 < 4 by omega, e5, s1, s2]
      · simp [f_X11_target, oj, isB, cArg, cSta, ob_s, ox_r, ox_l, hA, o2, show v2 < 4 by omega, o3, show v3 < 10 by omega, e, hf, show ¬ (4 < v4) by omega, o7, show v6 < 4 by omega, e5, s1, s2, s3]
    · rcases key with s1 | ⟨s1, s2⟩ | ⟨s1, s2, s3⟩
      · simp [f_X11_target, oj, isB, cArg, cSta, ob_s, ox_r, ox_l, hA, o2, show v2 < 4 by omega, o3, show v3 < 10 by omega, e, hf, show ¬ (4 < v4) by omega, o7, show v6 < 4 by omega, e5, show 0 ≤ v5 by omega, show v5 < 65536 by omega, s1]
      · simp [f_X11_target, oj, isB, cArg, cSta, ob_s, ox_r, ox_l, hA, o2, show v2 < 4 by omega, o3, show v3 < 10 by omega, e, hf, show ¬ (4 < v4) by omega, o7, show v6 < 4 by omega, e5, show 0 ≤ v5 by omega, show v5 < 65536 by omega, s1, s2]
      · simp [f_X11_target, oj, isB, cArg, cSta, ob_s, ox_r, ox_l, hA, o2, show v2 < 4 by omega, o3, show v3 < 10 by omega, e, hf, show ¬ (4 < v4) by omega, o7, show v6 < 4 by omega, e5, show 0 ≤ v5 by omega, show v5 < 65536 by omega, s1, s2, s3]
  · have e4 := o5 e
    have e6 := o8 e
    subst e4 e6
    by_cases e5 : v5 = -1
    · rcases key with s1 | ⟨s1, s2⟩ | ⟨s1, s2, s3⟩
      · simp [f_X11_target, oj, isB, cArg, cSta, ob_s, ox_r, ox_l, hA, o2, show v2 < 4 by omega, o3, show v3 < 10 by omega, e, o1, show v1 < 3 by omega, e5, s1]
      · simp [f_X11_target, oj, isB, cArg, cSta, ob_s, ox_r, ox_l, hA, o2, show v2 < 4 by omega, o3, show v3 < 10 by omega, e, o1, show v1 < 3 by omega, e5, s1, s2]
      · simp [f_X11_target, oj, isB, cArg, cSta, ob_s, ox_r, ox_l, hA, o2, show v2 < 4 by omega, o3, show v3 < 10 by omega, e, o1, show v1 < 3 by omega, e5, s1, s2, s3]
    · rcases key with s1 | ⟨s1, s2⟩ | ⟨s1, s2, s3⟩
      · simp [f_X11_target, oj, isB, cArg, cSta, ob_s, ox_r, ox_l, hA, o2, show v2 < 4 by omega, o3, show v3 < 10 by omega, e, o1, show v1 < 3 by omega, e5, show 0 ≤ v5 by omega, show v5 < 65536 by omega, s1]
      · simp [f_X11_target, oj, isB, cArg, cSta, ob_s, ox_r, ox_l, hA, o2, show v2 < 4 by omega, o3, show v3 < 10 by omega, e, o1, show v1 < 3 by omega, e5, show 0 ≤ v5 by omega, show v5 < 65536 by omega, s1, s2]
      · simp [f_X11_target, oj, isB, cArg, cSta, ob_s, ox_r, ox_l, hA, o2, show v2 < 4 by omega, o3, show v3 < 10 by omega, e, o1, show v1 < 3 by omega, e5, show 0 ≤ v5 by omega, show v5 < 65536 by omega, s1, s2, s3]
theorem tgC_1 {A : gM} {v1 v2 v3 v4 v5 v6 : Int} (ho : ¬ okT v1 v2 v3 v4 v5 v6) : f_X11_target v1 v2 v3 v4 v5 v6 A = some (Sum.inl 1) := by
  by_cases b1 : 0 ≤ v1 ∧ v1 < 3
  rotate_left
  · simp [f_X11_target, oj, isB, cArg, ob_s, ox_r, ox_l, b1]
  by_cases b2 : 0 ≤ v2 ∧ v2 < 4
  rotate_left
  · simp [f_X11_target, oj, isB, cArg, ob_s, ox_r, ox_l, b1, b2]
  by_cases b3 : 0 ≤ v3 ∧ v3 < 10
  rotate_left
  · simp [f_X11_target, oj, isB, cArg, ob_s, ox_r, ox_l, b1, b2, b3]
  by_cases b4 : v4 < 1
  · simp [f_X11_target, oj, isB, cArg, ob_s, ox_r, ox_l, b1, b2, b3, b4]
  by_cases e : v1 = 2
  · by_cases b5 : 4 < v4
    · simp [f_X11_target, oj, isB, cArg, ob_s, ox_r, ox_l, b2, b3, b4, e, b5]
    by_cases e5 : v5 = -1
    · by_cases b6 : 0 ≤ v6 ∧ v6 < 4
      · exact absurd ⟨by omega, by omega, by omega, by omega, fun q => absurd e q, by omega, by omega, fun q => absurd e q⟩ ho
      · simp [f_X11_target, oj, isB, cArg, ob_s, ox_r, ox_l, b2, b3, b4, e, b5, e5, b6]
    · by_cases b7 : 0 ≤ v5 ∧ v5 < 65536
      · by_cases b6 : 0 ≤ v6 ∧ v6 < 4
        · exact absurd ⟨by omega, by omega, by omega, by omega, fun q => absurd e q, by omega, by omega, fun q => absurd e q⟩ ho
        · simp [f_X11_target, oj, isB, cArg, ob_s, ox_r, ox_l, b2, b3, b4, e, b5, e5, b7, b6]
      · simp [f_X11_target, oj, isB, cArg, ob_s, ox_r, ox_l, b2, b3, b4, e, b5, e5, b7]
  · by_cases b5 : 1 < v4
    · simp [f_X11_target, oj, isB, cArg, ob_s, ox_r, ox_l, b1, b2, b3, b4, e, b5]
    by_cases e5 : v5 = -1
    · by_cases b6 : 0 ≤ v6 ∧ v6 < 1
      · exact absurd ⟨by omega, by omega, by omega, by omega, fun q => by omega, by omega, by omega, fun q => by omega⟩ ho
      · simp [f_X11_target, oj, isB, cArg, ob_s, ox_r, ox_l, b1, b2, b3, b4, e, b5, e5, b6]
    · by_cases b7 : 0 ≤ v5 ∧ v5 < 65536
      · by_cases b6 : 0 ≤ v6 ∧ v6 < 1
        · exact absurd ⟨by omega, by omega, by omega, by omega, fun q => by omega, by omega, by omega, fun q => by omega⟩ ho
        · simp [f_X11_target, oj, isB, cArg, ob_s, ox_r, ox_l, b1, b2, b3, b4, e, b5, e5, b7, b6]
      · simp [f_X11_target, oj, isB, cArg, ob_s, ox_r, ox_l, b1, b2, b3, b4, e, b5, e5, b7]
theorem tgB_1 {A : gM} {v1 v2 v3 v4 v5 v6 : Int} (ho : ¬ okT v1 v2 v3 v4 v5 v6) : f_X12_target v1 v2 v3 v4 v5 v6 A = some (0, gU A 29 0 0 1) := by
  by_cases b1 : 0 ≤ v1 ∧ v1 ≤ 2
  rotate_left
  · simp [f_X12_target, oj, inn, f_X12_asked_, gU_s, og, b1]
  by_cases b2 : 0 ≤ v2 ∧ v2 ≤ 3
  rotate_left
  · simp [f_X12_target, oj, inn, f_X12_asked_, gU_s, og, b1, b2]
  by_cases b3 : 0 ≤ v3 ∧ v3 ≤ 9
  rotate_left
  · simp [f_X12_target, oj, inn, f_X12_asked_, gU_s, og, b1, b2, b3]
  by_cases e : v1 = 2
  · by_cases b4 : 1 ≤ v4 ∧ v4 ≤ 4
    rotate_left
    · simp [f_X12_target, oj, inn, f_X12_asked_, gU_s, og, b2, b3, e, b4]
    by_cases b5 : -1 ≤ v5 ∧ v5 ≤ 65535
    rotate_left
    · simp [f_X12_target, oj, inn, f_X12_asked_, gU_s, og, b2, b3, e, b4, b5]
    by_cases b6 : 0 ≤ v6 ∧ v6 ≤ 3
    · exact absurd ⟨by omega, by omega, by omega, by omega, fun q => absurd e q, by omega, by omega, fun q => absurd e q⟩ ho
    · simp [f_X12_target, oj, inn, f_X12_asked_, gU_s, og, b2, b3, e, b4, b5, b6]
  · by_cases b4 : 1 ≤ v4 ∧ v4 ≤ 1
    rotate_left
    · simp [f_X12_target, oj, inn, f_X12_asked_, gU_s, og, b1, b2, b3, e, b4]
    by_cases b5 : -1 ≤ v5 ∧ v5 ≤ 65535
    rotate_left
    · simp [f_X12_target, oj, inn, f_X12_asked_, gU_s, og, b1, b2, b3, e, b4, b5]
    by_cases b6 : 0 ≤ v6 ∧ v6 ≤ 0
    · exact absurd ⟨by omega, by omega, by omega, by omega, fun q => by omega, by omega, by omega, fun q => by omega⟩ ho
    · simp [f_X12_target, oj, inn, f_X12_asked_, gU_s, og, b1, b2, b3, e, b4, b5, b6]
theorem tgB_3 {B : gM} {n : Nat} {v1 v2 v3 v4 v5 v6 : Int} (hB : B 29 0 7 = (n : Int)) (ho : okT v1 v2 v3 v4 v5 v6) (hs : ¬ (0 < B 41 0 14 ∧ B 29 0 36 = 0 ∧ n < 14)) : f_X12_target v1 v2 v3 v4 v5 v6 B = some (0, gU B 29 0 0 2) := by
  obtain ⟨o1, o2, o3, o4, o5, o6, o7, o8⟩ := ho
  have key : (¬ 0 < B 41 0 14) ∨ (0 < B 41 0 14 ∧ ¬ B 29 0 36 = 0) ∨ (0 < B 41 0 14 ∧ B 29 0 36 = 0 ∧ ¬ (n : Int) < 14) := by
    by_cases s1 : 0 < B 41 0 14
    · by_cases s2 : B 29 0 36 = 0
      · exact Or.inr (Or.inr ⟨s1, s2, fun q => hs ⟨s1, s2, by omega⟩⟩)
      · exact Or.inr (Or.inl ⟨s1, s2⟩)
    · exact Or.inl s1
  by_cases e : v1 = 2
  · rcases key with s1 | ⟨s1, s2⟩ | ⟨s1, s2, s3⟩
    · simp [f_X12_target, oj, f_X12_asked_, gU_s, og, hB, inn, o2, o3, e, o4, o6, o7, s1]
    · simp [f_X12_target, oj, f_X12_asked_, gU_s, og, hB, inn, o2, o3, e, o4, o6, o7, s1, s2]
    · simp [f_X12_target, oj, f_X12_asked_, gU_s, og, hB, inn, o2, o3, e, o4, o6, o7, s1, s2, s3]
  · have e4 := o5 e
    have e6 := o8 e
    subst e4 e6
    rcases key with s1 | ⟨s1, s2⟩ | ⟨s1, s2, s3⟩
    · simp [f_X12_target, oj, f_X12_asked_, gU_s, og, hB, inn, o2, o3, e, o1, o6, s1]
    · simp [f_X12_target, oj, f_X12_asked_, gU_s, og, hB, inn, o2, o3, e, o1, o6, s1, s2]
    · simp [f_X12_target, oj, f_X12_asked_, gU_s, og, hB, inn, o2, o3, e, o1, o6, s1, s2, s3]
theorem tgB {B : gM} {n : Nat} {v1 v2 v3 v4 v5 v6 : Int} (hB : B 29 0 7 = (n : Int)) (ho : okT v1 v2 v3 v4 v5 v6) (hs : 0 < B 41 0 14 ∧ B 29 0 36 = 0 ∧ n < 14) : f_X12_target v1 v2 v3 v4 v5 v6 B = ob (f_X12_lay 14 (n : Int) (gU (gU (gU (gU (gU (gU (gU B 29 0 0 0) 35 0 n v1) 36 0 n v2) 37 0 n v3) 38 0 n v4) 39 0 n v5) 40 0 n v6)) fun r196 => some ((wI (((gU (gU r196 41 0 14 0) 29 0 7 (wI ((r196 29 0 7) + 1))) 29 0 7) - 1), gU (gU r196 41 0 14 0) 29 0 7 (wI ((r196 29 0 7) + 1)))) := by
  obtain ⟨o1, o2, o3, o4, o5, o6, o7, o8⟩ := ho
  obtain ⟨s1, s2, s3⟩ := hs
  have n14 : (n : Int) < 14 := by omega
  have g7 : gU B 29 0 0 0 29 0 7 = (n : Int) := by rw [gU_k (by decide), hB]
  have r41 : ∀ M : gM, gU M 41 0 14 0 29 = M 29 := fun M => gU_r (by decide)
  by_cases e : v1 = 2
  · simp [f_X12_target, oj, inn, f_X12_asked_, gU_s, og, hB, o2, o3, o6, e, o4, o7, s1, s2, n14]
    simp (disch := decide) only [gU_r, g7]
    simp [n14]
  · have e4 := o5 e
    have e6 := o8 e
    subst e4 e6
    simp [f_X12_target, oj, inn, f_X12_asked_, gU_s, og, hB, o1, o2, o3, o6, e, s1, s2, n14]
    simp (disch := decide) only [gU_r, g7]
    simp [n14]
