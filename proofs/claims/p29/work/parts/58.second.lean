/-! ## p29: the second build -/
def HJ (B : gM) (n N t s : Nat) (X : gM) : Prop := HI B n N t s X ∧ (N.testBit t = true → (s : Int) ≤ B 38 0 t)
theorem hj_next {A B X : gM} {n N t s : Nat} (hT : RT A B n) (hN : N < 2 ^ n) (h : HJ B n N t s X) (hall : ndd X t → ∀ s', aOK X n t s' → s' < s) : HJ B n N (t + 1) 0 X := by
  obtain ⟨h1, h2⟩ := h
  have hN14 : N < 16384 := p14 hN hT.1
  have e37 : X 29 0 37 = (N : Int) := h1.2.2.2.2.2.1
  have hTd : Td B X := h1.2.2.2.1
  have hs0 : N.testBit t = true → (s : Int) = B 38 0 t := fun q => by
    have htn := bit_lt hN q
    obtain ⟨m, m1, m2, -, m4⟩ := shT hT htn
    have t31 : t < 31 := Nat.lt_of_lt_of_le (Nat.lt_of_lt_of_le htn hT.1) (by decide)
    have hd : ndd X t := by
      unfold ndd
      rw [e37]
      exact (bit_1 (lt14_31 hN14) t31).mpr q
    have hl := hall hd (m - 1) ((aOK_t hTd n t (m - 1)).mpr ⟨htn, by rw [m4]; omega⟩)
    have := h2 q
    rw [m4] at this ⊢
    omega
  obtain ⟨x1, x2, x3, x4, x5, x6, x7, x8, x9, x10, x11, x12⟩ := h1
  have key : ∀ t' s', aOK X n t' s' → ndd X t' → (bef (t + 1) 0 t' s' ↔ bef t s t' s') := fun t' s' ho hd => by
    unfold bef
    by_cases e : t' = t
    · subst e
      have := hall hd s' ho
      omega
    · omega
  refine ⟨⟨x1, x2, x3, x4, x5, x6, x7, x8, fun t' s' q hs' ho hd => x9 t' s' ((key t' s' ho hd).mp q) hs' ho hd, fun t' s' q hs' ho hd => x10 t' s' (fun z => q ((key t' s' ho hd).mpr z)) hs' ho hd, x11, ?_⟩, fun q => ?_⟩
  · rw [x12, opn_s]
    congr 1
    by_cases q : N.testBit t = true
    · have := hs0 q
      rw [if_pos q, if_pos q]
      by_cases y : N.testBit (t + 1) = true
      · rw [if_pos y]; omega
      · rw [if_neg y]; omega
    · rw [if_neg q, if_neg q]
      by_cases y : N.testBit (t + 1) = true
      · rw [if_pos y]
      · rw [if_neg y]
  · obtain ⟨m, m1, m2, -, m4⟩ := shT hT (bit_lt hN q)
    rw [m4]
    omega
/-- the second build of sound targets ends at once, by hits alone, with the same results -/
theorem bldH {A B : gM} {n c S : Nat} (hc : c ≤ 600) (h : RA n c A B) (hg : B 29 0 36 = 0) (hX : XX B n) (h40 : B 29 0 21 ≠ 40) (hS0 : 0 < S) (hSn : S < 2 ^ n) (hsnd : ∀ t, S.testBit t = true → snd B n t) (hn : n ≤ 6) (hsh : ∀ t, t < n → B 38 0 t ≤ 2) : ∃ A' B' : gM, f_X11_build (S : Int) A = some (Sum.inr (((opn B (wnN B n S) n : Nat) : Int), A')) ∧ 1 ≤ opn B (wnN B n S) n ∧ RA n (c + 1) A' B' ∧ B' 29 0 36 = 0 ∧ XX B' n ∧ Td B B' ∧ B' 53 = B 53 ∧ B' 30 = B 30 ∧ B' 29 0 21 = B 29 0 21 ∧ B' 29 0 37 = ((wnN B n S : Nat) : Int) ∧ wnN B n S < 2 ^ n ∧ (∀ t s, s < 4 → aOK B n t s → (wnN B n S).testBit t = true → B' 60 0 (4 * t + s) = 3 ∧ B' 61 0 (4 * t + s) = B 61 0 (4 * t + s) ∧ B' 64 0 (4 * t + s) = 0) ∧ B' 68 0 0 = B 68 0 0 ∧ B' 68 0 1 = wI (B 68 0 1 + ((opn B (wnN B n S) n : Nat) : Int)) := by
  obtain ⟨h1, h2, h3, h4, h5, h6, h7⟩ := id h
  have hNn := wn_lt h1 h2 hSn
  obtain ⟨A2, B2, hSI, hb1, hA3, fA, fB, b29, e37, hN, b60⟩ := bld0 hc h hg hS0 hSn
  have tD : Td B B2 := fun q hq => fB q (fun m => by simp only [List.mem_cons, List.not_mem_nil, or_false] at m hq; omega)
  have hX2 := XX_0 hSI fB (b29 21 (by decide) (by decide) (by decide)) hX.2.1 (b60 60 (by decide))
  have hP2 := PM_0 hn (fun t ht => by rw [But_q fB rfl]; exact hsh t ht) b60
  have hsn : ∀ t, t < n → (wnN B n S).testBit t = true → dnP B n 0 t := fun t _ q => by
    obtain ⟨r, r1, r2⟩ := (wn_union h1 h2 t).mp q
    exact hsnd r r1 t r2
  have f0 : But [29] (gU B2 29 0 36 0) B2 := But_u But_r rfl
  have nb0 : ∀ t' s', ¬ bef 0 0 t' s' := fun t' s' q => by unfold bef at q; omega
  have tN0 : TdN B2 (gU B2 29 0 36 0) := TdN_b (But_w f0 rfl) (gU_k (by decide))
  have ini : HJ B n (wnN B n S) 0 0 (gU B2 29 0 36 0) := by
    refine ⟨⟨XX_g hX2, PM_g hP2, ⟨fun _ _ => rfl, rfl⟩, fun q hq => (tN0.1 q hq).trans (tD q hq), by rw [But_q f0 rfl, But_q fB rfl], by rw [gU_k (by decide)]; exact e37, fun q hq => by rw [f0 q (fun m => by simp only [List.mem_cons, List.not_mem_nil, or_false] at m hq; omega), fB q (fun m => by simp only [List.mem_cons, List.not_mem_nil, or_false] at m hq; omega)], by rw [gU_k (by decide)]; exact b29 21 (by decide) (by decide) (by decide), fun t' s' q => absurd q (nb0 t' s'), fun t' s' _ hs' ho' _ => ?_, by rw [But_q f0 rfl, But_q fB rfl], ?_⟩, fun q => ?_⟩
    · rw [But_q f0 rfl, But_q f0 rfl]
      exact ⟨b60 60 (by decide) t' s' ho'.1 hs', b60 64 (by decide) t' s' ho'.1 hs'⟩
    · rw [But_q f0 rfl, But_q fB rfl]
      have e0 : opn B (wnN B n S) 0 + (if (wnN B n S).testBit 0 = true then 0 else 0) = 0 := by
        by_cases y : (wnN B n S).testBit 0 = true
        · rw [if_pos y]; rfl
        · rw [if_neg y]; rfl
      rw [e0]
      rfl
    · obtain ⟨m, m1, m2, -, m4⟩ := shT h2 (bit_lt hNn q)
      rw [m4]
      omega
  obtain ⟨A3, B3, t1, t2, t3, t4, t5, t6, t7, t8, hF⟩ := setCMX (XI := HJ B n (wnN B n S)) (fun t s A9 X X1 g hJ hs hao hnd hx ho => by
    obtain ⟨q1, q2⟩ := hx
    refine ⟨hi_step h1 h2 hX h40 hN hsn hJ hs hao hnd q1 ho, fun _ => ?_⟩
    have o := hao.2
    rw [q1.2.2.2.1 38 (by decide)] at o
    omega) (fun t s X hx hall => hj_next h2 hNn hx hall) ini hSI hb1
  obtain ⟨⟨x1, x2, x3, x4, x5, x6, x7, x8, x9, x10, x11, x12⟩, -⟩ := hF
  obtain ⟨t, ht⟩ := bit_of hS0
  have htn := bit_lt hSn ht
  have h38 : 1 ≤ B 38 0 t := (h2.2.2.2.2.2.2 t htn).2.2.2.2.1.1
  have pos := opn_pos (B := B) (wn_sub (B := B) n S t ht) h38 n htn
  have don : ∀ t s, s < 4 → aOK B n t s → (wnN B n S).testBit t = true → B3 60 0 (4 * t + s) = 3 ∧ B3 61 0 (4 * t + s) = B 61 0 (4 * t + s) ∧ B3 64 0 (4 * t + s) = 0 := fun t s hs ho q => by
    have t31 : t < 31 := Nat.lt_of_lt_of_le (Nat.lt_of_lt_of_le ho.1 h2.1) (by decide)
    refine x9 t s (Or.inl ho.1) hs ((aOK_t x4 n t s).mpr ho) ?_
    unfold ndd
    rw [x6]
    exact (bit_1 (lt14_31 hN) t31).mpr q
  have hRA : RA n (c + 1) A3 B3 := ⟨t3.1, t3.2.1, t3.2.2.1, t3.2.2.2.1, t3.2.2.2.2.1, t3.2.2.2.2.2.1, t4⟩
  have g0 : B3 29 0 36 = 0 := by
    rcases t3.2.2.2.2.2.1.2.2.1 with q | ⟨q, -⟩
    · exact q
    · obtain ⟨⟨t', s', q1, q2, q3, q4⟩, -⟩ := t4.2 q
      have o' := (aOK_t x4 n t' s').mp q2
      have t31 : t' < 31 := Nat.lt_of_lt_of_le (Nat.lt_of_lt_of_le o'.1 h2.1) (by decide)
      have nb : (wnN B n S).testBit t' = true := by
        unfold ndd at q3
        rw [x6] at q3
        exact (bit_1 (lt14_31 hN) t31).mp q3
      rw [(don t' s' q1 o' nb).1] at q4
      exact absurd q4 (by decide)
  have e68 : B3 68 0 1 = hk (B 68 0 1) (opn B (wnN B n S) n) := by
    rw [x12]
    congr 1
    by_cases y : (wnN B n S).testBit n = true
    · rw [if_pos y]; rfl
    · rw [if_neg y]; rfl
  refine ⟨A3, B3, hA3 A3 t1, pos, hRA, g0, x1, x4, by rw [But_q t7 rfl, But_q fB rfl], x5, x8, x6, hNn, don, x11, ?_⟩
  obtain ⟨k, hk'⟩ : ∃ k, opn B (wnN B n S) n = k + 1 := ⟨opn B (wnN B n S) n - 1, by omega⟩
  rw [e68, hk', hk_s]
