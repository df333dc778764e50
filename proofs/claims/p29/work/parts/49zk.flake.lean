/-! ### a flake is noted -/
def flB (B : gM) (t : Nat) : gM := gU (gU B 66 0 t (wI (B 66 0 t + (if gAnd (gShr (B 29 0 43) (t : Int)) 1 = 0 then 1 else 0)))) 29 0 43 (gOr (B 29 0 43) (gShl 1 (t : Int)))
theorem flB_o {B : gM} {t : Nat} : But [29, 66] (flB B t) B := But_u (But_u But_r rfl) rfl
theorem or_same {f t : Nat} (h : f.testBit t = true) : f ||| 2 ^ t = f := bits_ext fun u => by
  rw [or_bit, pow_bit]
  exact ⟨fun q => q.elim id (fun z => by rw [z]; exact h), Or.inl⟩
theorem or_set {f t u : Nat} : ((f ||| 2 ^ t).testBit u = true) ↔ (f.testBit u = true ∨ u = t) := by rw [or_bit, pow_bit]
theorem b1_of {A B : gM} {n c b : Nat} (h6 : RB A B n c) (hg : B 29 0 36 = 1) (eb : A 4 0 7 = (b : Int)) : 1 ≤ b := by
  rcases h6.2.2.1 with q | q
  · exact absurd (hg.symm.trans q) ne10
  · have := q.2
    omega
theorem SJ_fl {A B : gM} {n c t s : Nat} {l : Int} (h : SJ l A B n c) (hs : s < 4) (hao : aOK B n t s) (hnd : ndd B t) (hg : B 29 0 36 = 1) : SJ l (f_X8_noteFlakeIn t (A 4 0 7) A) (flB B t) n c ∧ But [7] (f_X8_noteFlakeIn t (A 4 0 7) A) A := by
  have hJ := h
  obtain ⟨h1, h2, h3, h4, -, h6, -⟩ := h
  have ht14 : t < 14 := Nat.lt_of_lt_of_le hao.1 h2.1
  have t31 : t < 31 := Nat.lt_trans ht14 (by decide)
  obtain ⟨b, hb, eb, -⟩ := h6.2.2.2.2.1
  have b1 := b1_of h6 hg eb
  obtain ⟨⟨f, hf, ef⟩, p2⟩ := fl0 h6
  have q2 := p2 b eb
  have f31 := lt14_31 hf
  have o14 : f ||| 2 ^ t < 16384 := or_14 hf (pow_14 ht14)
  have eor : gOr (B 29 0 43) (gShl 1 (t : Int)) = ((f ||| 2 ^ t : Nat) : Int) := by
    rw [ef, gShl_n t31, gOr_n f31 (lt14_31 (pow_14 ht14))]
  obtain ⟨r1, r2, r3, r4⟩ := h6.2.2.2.2.2.2.2.2.1 t ht14
  by_cases e : f.testBit t = true
  · have b12 : A 7 t 12 = (b : Int) := ((q2 t ht14).2 b1).mpr (by rw [ef]; exact (bit_1 f31 t31).mpr e)
    have eA : f_X8_noteFlakeIn t (A 4 0 7) A = A := by
      unfold f_X8_noteFlakeIn
      rw [if_pos (b12.trans eb.symm)]
    have n0 : ¬ gAnd (gShr (B 29 0 43) (t : Int)) 1 = 0 := by
      rw [ef, (bit_1 f31 t31).mpr e]; exact ne10
    have eB : flB B t = B := by
      unfold flB
      rw [eor, or_same e, if_neg n0, Int.add_zero, wI_eq r4, gU_id rfl, gU_id ef]
    rw [eA, eB]
    exact ⟨hJ, But_r⟩
  · have e0 : f.testBit t = false := Bool.eq_false_iff.mpr e
    have b12 : ¬ A 7 t 12 = A 4 0 7 := fun z => e ((bit_1 f31 t31).mp (by rw [← ef]; exact ((q2 t ht14).2 b1).mp (z.trans eb)))
    have eA : f_X8_noteFlakeIn t (A 4 0 7) A = gU (gU A 7 t 12 (A 4 0 7)) 7 t 11 (wI (A 7 t 11 + 1)) := by
      unfold f_X8_noteFlakeIn
      rw [if_neg b12, gU_k (by decide)]
    have y0 : gAnd (gShr (B 29 0 43) (t : Int)) 1 = 0 := by rw [ef]; exact (bit_0 f31 t31).mpr e0
    have eB : flB B t = gU (gU B 66 0 t (wI (B 66 0 t + 1))) 29 0 43 ((f ||| 2 ^ t : Nat) : Int) := by
      unfold flB
      rw [eor, if_pos y0]
    have fA : But [7] (gU (gU A 7 t 12 (A 4 0 7)) 7 t 11 (wI (A 7 t 11 + 1))) A := But_u (But_u But_r rfl) rfl
    have fB : But [29, 66] (gU (gU B 66 0 t (wI (B 66 0 t + 1))) 29 0 43 ((f ||| 2 ^ t : Nat) : Int)) B := But_u (But_u But_r rfl) rfl
    have b29 : ∀ j, j ≠ 43 → gU (gU B 66 0 t (wI (B 66 0 t + 1))) 29 0 43 ((f ||| 2 ^ t : Nat) : Int) 29 0 j = B 29 0 j := fun j hj => by rw [gU_k hj, gU_r (by decide)]
    have n7 : ∀ t' k, k ≠ 11 → k ≠ 12 → gU (gU A 7 t 12 (A 4 0 7)) 7 t 11 (wI (A 7 t 11 + 1)) 7 t' k = A 7 t' k := fun t' k k1 k2 => by rw [gU_ne (fun z => k1 z.2.2), gU_ne (fun z => k2 z.2.2)]
    have m7 : ∀ t' k, t' ≠ t → gU (gU A 7 t 12 (A 4 0 7)) 7 t 11 (wI (A 7 t 11 + 1)) 7 t' k = A 7 t' k := fun t' k hk => by rw [gU_ne (fun z => hk z.2.1), gU_ne (fun z => hk z.2.1)]
    have v12 : gU (gU A 7 t 12 (A 4 0 7)) 7 t 11 (wI (A 7 t 11 + 1)) 7 t 12 = (b : Int) := by rw [gU_k (by decide), gU_s, eb]
    have v43 : gU (gU B 66 0 t (wI (B 66 0 t + 1))) 29 0 43 ((f ||| 2 ^ t : Nat) : Int) 29 0 43 = ((f ||| 2 ^ t : Nat) : Int) := gU_s _ _ _ _ _
    have v66 : gU (gU B 66 0 t (wI (B 66 0 t + 1))) 29 0 43 ((f ||| 2 ^ t : Nat) : Int) 66 0 t = wI (B 66 0 t + 1) := by rw [gU_r (by decide), gU_s]
    rw [eA, eB]
    refine ⟨SJ_keep hJ (RS_c h1 (fun q hq => by rw [But_l fA (K := [12, 13, 14, 15, 16]) rfl q hq]) (by rw [But_q fA rfl]) (But_l fB rfl) (b29 4 (by decide))) (RT_c h2 (But_l fA rfl) (by rw [But_q fA rfl]) (fun t' k hk => n7 t' k (by omega) (by omega)) (But_l fB rfl) (b29 7 (by decide))) (RC_c h3 (But_q fA rfl) (But_q fA rfl) (But_l fB rfl) (b29 21 (by decide))) (RO_c h4 (by rw [But_q fA rfl]) (by rw [But_q fA rfl]) (But_q fA rfl) (by rw [But_q fA rfl]) (b29 19 (by decide)) (b29 20 (by decide)) (b29 49 (by decide)) (But_q fB rfl)) (RB_7 h6 h2 hs hao hnd fA (But_w fB rfl) b29 (fun t' e' => ⟨m7 t' 9 e', m7 t' 11 e'⟩) (fun t' e' => ⟨by rw [gU_r (by decide), gU_k e'], by rw [But_q fB rfl]⟩) ?_ ?_) (TdN_b (But_w fB rfl) (b29 37 (by decide))) (But_q fA rfl) (But_l fB rfl) (But_q fB rfl), fA⟩
    · rw [v43]
      refine ⟨⟨_, o14, rfl⟩, fun b' hb' t' ht' => ?_⟩
      have bb : b' = b := Int.ofNat_inj.mp (hb'.symm.trans eb)
      rw [bb]
      have t'31 : t' < 31 := Nat.lt_trans ht' (by decide)
      rw [bit_1 (lt14_31 o14) t'31, or_set]
      by_cases et : t' = t
      · rw [et, v12]
        exact ⟨Int.le_refl _, fun _ => ⟨fun _ => Or.inr rfl, fun _ => rfl⟩⟩
      · rw [m7 t' 12 et]
        have z := q2 t' ht'
        rw [ef, bit_1 f31 t'31] at z
        exact ⟨z.1, fun w => (z.2 w).trans ⟨Or.inl, fun y => y.elim id (fun x => absurd x et)⟩⟩
    · rw [n7 t 9 (by decide) (by decide), gU_s, v66, show (gU (gU B 66 0 t (wI (B 66 0 t + 1))) 29 0 43 ((f ||| 2 ^ t : Nat) : Int)) 67 = B 67 from But_q fB rfl, r3]
      exact ⟨r1, r2, rfl, nmI_w _⟩
