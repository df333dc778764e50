/-! ### sound, in the reference -/
theorem idM {A M : gM} {n t : Nat} (hT : RT A M n) (ht : t < n) : ∃ x : Int, f_X12_isDone (t : Int) M = some x ∧ (x = 0 ∨ x = 1) ∧ (x = 1 ↔ dnP M n 1 t) := by
  obtain ⟨z, z1, z2, z3, z4⟩ := shT hT ht
  have hz : z < 64 := by omega
  have h14 : t < 14 := Nat.lt_of_lt_of_le ht hT.1
  have g14 : (0 : Int) ≤ (t : Int) ∧ (t : Int) < 14 := by omega
  have i01 : (f_X12_isNeeded (t : Int) M = 0 ∨ f_X12_isNeeded (t : Int) M = 1) ∧ (f_X12_isNeeded (t : Int) M = 1 ↔ ndd M t) := by
    unfold f_X12_isNeeded
    by_cases e : ndd M t
    · rw [if_pos (show gAnd (gShr (M 29 0 37) (t : Int)) 1 = 1 from e)]
      exact ⟨Or.inr rfl, fun _ => e, fun _ => rfl⟩
    · rw [if_neg (show ¬ gAnd (gShr (M 29 0 37) (t : Int)) 1 = 1 from e)]
      exact ⟨Or.inl rfl, fun q => absurd q ne01, fun q => absurd q e⟩
  have main : ∃ x : Int, f_X12_isDone (t : Int) M = some x ∧ (x = 0 ∨ x = 1) ∧ (x = 1 ↔ ndd M t ∧ ∀ s, s < z → M 60 0 (4 * t + s) = 3) := by
    unfold f_X12_isDone
    refine lp0 (F := fun m (x : Int) i => f_X12_isDone_L8 (fun (y2_8_46 : Int) => some y2_8_46) (t : Int) M m x i) z (fun i x => (x = 0 ∨ x = 1) ∧ (x = 1 ↔ ndd M t ∧ ∀ s, s < i → M 60 0 (4 * t + s) = 3)) (fun r => ∃ x : Int, r = some x ∧ (x = 0 ∨ x = 1) ∧ (x = 1 ↔ ndd M t ∧ ∀ s, s < z → M 60 0 (4 * t + s) = 3)) hz (f_X12_isNeeded (t : Int) M) ⟨i01.1, i01.2.trans ⟨fun q => ⟨q, fun s y => absurd y (Nat.not_lt_zero _)⟩, fun q => q.1⟩⟩ (fun m i x hi hp => Or.inl ?_) (fun m x hp => ⟨x, ?_, hp⟩)
    · have hi4 : i < 4 := Nat.lt_of_lt_of_le hi z2
      have g56 : (0 : Int) ≤ ((4 * t + i : Nat) : Int) ∧ ((4 * t + i : Nat) : Int) < 56 := by omega
      have w : wI (wI (4 * (t : Int)) + (i : Int)) = ((4 * t + i : Nat) : Int) := w4 (Nat.lt_trans h14 (by decide)) (Nat.lt_trans hi4 (by decide))
      have w1 : wI ((i : Int) + 1) = ((i + 1 : Nat) : Int) := wad1 (Nat.le_trans (Nat.le_of_lt hi4) (by decide))
      obtain ⟨r1, r2⟩ := gAnd01 hp.1 (show (if M 60 0 (4 * t + i) = 3 then (1 : Int) else 0) = 0 ∨ (if M 60 0 (4 * t + i) = 3 then (1 : Int) else 0) = 1 by
        by_cases q : M 60 0 (4 * t + i) = 3
        · rw [if_pos q]; exact Or.inr rfl
        · rw [if_neg q]; exact Or.inl rfl)
      refine ⟨gAnd x (if M 60 0 (4 * t + i) = 3 then 1 else 0), ?_, r1, ?_⟩
      · show f_X12_isDone_L8 _ (t : Int) M (m + 1) x (i : Int) = _
        rw [f_X12_isDone_L8, og_t g14, Int.toNat_natCast, z4, if_pos (Int.ofNat_lt.mpr hi), w, og_t g56]
        dsimp only [oj]
        rw [Int.toNat_natCast, w1]
        by_cases q : M 60 0 (4 * t + i) = 3
        · rw [if_pos q, if_pos q]
        · rw [if_neg q, if_neg q]
      · rw [r2, hp.2, all_s]
        by_cases q : M 60 0 (4 * t + i) = 3
        · rw [if_pos q]; exact ⟨fun y => ⟨y.1, q⟩, fun y => ⟨y.1, rfl⟩⟩
        · rw [if_neg q]; exact ⟨fun y => absurd y.2 ne01, fun y => absurd y.2 q⟩
    · show f_X12_isDone_L8 _ (t : Int) M (m + 1) x (z : Int) = _
      rw [f_X12_isDone_L8, og_t g14, Int.toNat_natCast, z4, if_neg (Int.lt_irrefl _)]
  obtain ⟨x, x1, x2, x3⟩ := main
  refine ⟨x, x1, x2, x3.trans ⟨fun q => ⟨q.1, fun s _ ho => ⟨q.2 s ((aOK_lt (A := A) ht z4).mp ho), fun y => absurd y ne10⟩⟩, fun q => ⟨q.1, fun s hs => (q.2 s (Nat.lt_of_lt_of_le hs z2) ((aOK_lt (A := A) ht z4).mpr hs)).1⟩⟩⟩
theorem is49 {A M : gM} {n t z : Nat} {k : Int → Option Int} {x0 y N : Int} (hT : RT A M n) (ht : t < n) (hz4 : z ≤ 4) (z4 : M 38 0 t = (z : Int)) (h0 : x0 = 0 ∨ x0 = 1) : ∃ x : Int, f_X12_isSound_L49 k y N (t : Int) M 64 x0 0 = k x ∧ (x = 0 ∨ x = 1) ∧ (x = 1 ↔ x0 = 1 ∧ (y = 0 → ∀ s, s < z → M 64 0 (4 * t + s) = 0)) := by
  have hz : z < 64 := by omega
  have h14 : t < 14 := Nat.lt_of_lt_of_le ht hT.1
  have g14 : (0 : Int) ≤ (t : Int) ∧ (t : Int) < 14 := by omega
  refine lp0 (F := fun m (x : Int) i => f_X12_isSound_L49 k y N (t : Int) M m x i) z (fun i x => (x = 0 ∨ x = 1) ∧ (x = 1 ↔ x0 = 1 ∧ (y = 0 → ∀ s, s < i → M 64 0 (4 * t + s) = 0))) (fun r => ∃ x : Int, r = k x ∧ (x = 0 ∨ x = 1) ∧ (x = 1 ↔ x0 = 1 ∧ (y = 0 → ∀ s, s < z → M 64 0 (4 * t + s) = 0))) hz x0 ⟨h0, fun q => ⟨q, fun _ s w => absurd w (Nat.not_lt_zero _)⟩, fun q => q.1⟩ (fun m i x hi hp => ?_) (fun m x hp => ⟨x, ?_, hp⟩)
  · have hi4 : i < 4 := Nat.lt_of_lt_of_le hi hz4
    have hiz : (i : Int) < (z : Int) := Int.ofNat_lt.mpr hi
    have g56 : (0 : Int) ≤ ((4 * t + i : Nat) : Int) ∧ ((4 * t + i : Nat) : Int) < 56 := by omega
    have w : wI (wI (4 * (t : Int)) + (i : Int)) = ((4 * t + i : Nat) : Int) := w4 (Nat.lt_trans h14 (by decide)) (Nat.lt_trans hi4 (by decide))
    have w1 : wI ((i : Int) + 1) = ((i + 1 : Nat) : Int) := wad1 (Nat.le_trans (Nat.le_of_lt hi4) (by decide))
    have step : f_X12_isSound_L49 k y N (t : Int) M (m + 1) x (i : Int) = if x = 0 then k x else if y = 0 then (if M 64 0 (4 * t + i) = 0 then f_X12_isSound_L49 k y N (t : Int) M m 1 ((i + 1 : Nat) : Int) else f_X12_isSound_L49 k y N (t : Int) M m 0 ((i + 1 : Nat) : Int)) else f_X12_isSound_L49 k y N (t : Int) M m 1 ((i + 1 : Nat) : Int) := by
      rw [f_X12_isSound_L49, og_t g14, Int.toNat_natCast, z4, if_pos hiz]
      dsimp only [oj]
      rw [w, og_t g56, Int.toNat_natCast, w1]
    show (∃ x', f_X12_isSound_L49 k y N (t : Int) M (m + 1) x (i : Int) = f_X12_isSound_L49 k y N (t : Int) M m x' ((i + 1 : Nat) : Int) ∧ _) ∨ ∃ x', f_X12_isSound_L49 k y N (t : Int) M (m + 1) x (i : Int) = k x' ∧ _
    rcases hp.1 with e | e
    · refine Or.inr ⟨0, by rw [step, if_pos e, e], Or.inl rfl, fun q => absurd q ne01, fun q => ?_⟩
      exact absurd (e.symm.trans (hp.2.mpr ⟨q.1, fun hy s hs => q.2 hy s (Nat.lt_trans hs hi)⟩)) ne01
    · have e0 : ¬ x = 0 := fun q => ne10 (e.symm.trans q)
      obtain ⟨q1, q2⟩ := hp.2.mp e
      by_cases hy : y = 0
      · by_cases q : M 64 0 (4 * t + i) = 0
        · refine Or.inl ⟨1, by rw [step, if_neg e0, if_pos hy, if_pos q], Or.inr rfl, fun _ => ⟨q1, fun _ s hs => ?_⟩, fun _ => rfl⟩
          by_cases es : s = i
          · rw [es]; exact q
          · exact q2 hy s (lt_ne hs es)
        · exact Or.inl ⟨0, by rw [step, if_neg e0, if_pos hy, if_neg q], Or.inl rfl, fun z => absurd z ne01, fun z => absurd (z.2 hy i (Nat.lt_succ_self i)) q⟩
      · exact Or.inl ⟨1, by rw [step, if_neg e0, if_neg hy], Or.inr rfl, fun _ => ⟨q1, fun z => absurd z hy⟩, fun _ => rfl⟩
  · show f_X12_isSound_L49 k y N (t : Int) M (m + 1) x (z : Int) = _
    rw [f_X12_isSound_L49, og_t g14, Int.toNat_natCast, z4, if_neg (Int.lt_irrefl _)]
theorem isM {A M : gM} {n t : Nat} {y : Int} (hS : RS A M) (hT : RT A M n) (ht : t < n) : ∃ x : Int, f_X12_isSound (t : Int) y M = some x ∧ (x = 0 ∨ x = 1) ∧ (x = 1 ↔ AS M n (dnP M n y) t) := by
  have h14 := hT.1
  have hn64 : n < 64 := by omega
  have t14 : t < 14 := Nat.lt_of_lt_of_le ht h14
  have t31 : t < 31 := Nat.lt_trans t14 (by decide)
  have hN : wnN M n (2 ^ t) < 2 ^ n := wn_lt hS hT (Nat.pow_lt_pow_right (by decide) ht)
  have hN31 := lt14_31 (p14 hN h14)
  have hbit : ∀ u, (wnN M n (2 ^ t)).testBit u = true → u < n := fun u hu => by
    rcases Nat.lt_or_ge u n with q | q
    · exact q
    · rw [Nat.testBit_lt_two_pow (Nat.lt_of_lt_of_le hN (Nat.pow_le_pow_right (by decide) q))] at hu
      cases hu
  have main : ∃ x : Int, f_X12_isSound (t : Int) y M = some x ∧ (x = 0 ∨ x = 1) ∧ (x = 1 ↔ ∀ u, u < n → (wnN M n (2 ^ t)).testBit u = true → dnP M n y u) := by
    unfold f_X12_isSound
    rw [gShl_n t31, wnM hS hT (pow_14 t14), ob_s]
    refine lp0 (F := fun m (x : Int) i => f_X12_isSound_L14 (fun (y4_14_104 : Int) => some y4_14_104) y ((wnN M n (2 ^ t) : Nat) : Int) M m x i) n (fun i x => (x = 0 ∨ x = 1) ∧ (x = 1 ↔ ∀ u, u < i → (wnN M n (2 ^ t)).testBit u = true → dnP M n y u)) (fun r => ∃ x : Int, r = some x ∧ (x = 0 ∨ x = 1) ∧ (x = 1 ↔ ∀ u, u < n → (wnN M n (2 ^ t)).testBit u = true → dnP M n y u)) hn64 1 ⟨Or.inr rfl, fun _ u q => absurd q (Nat.not_lt_zero _), fun _ => rfl⟩ (fun m i x hi hp => ?_) (fun m x hp => ⟨x, ?_, hp⟩)
    · have hin : (i : Int) < (n : Int) := Int.ofNat_lt.mpr hi
      have i31 : i < 31 := by omega
      have w1 : wI ((i : Int) + 1) = ((i + 1 : Nat) : Int) := wI_s (by omega)
      show (∃ x', f_X12_isSound_L14 _ y ((wnN M n (2 ^ t) : Nat) : Int) M (m + 1) x (i : Int) = f_X12_isSound_L14 _ y ((wnN M n (2 ^ t) : Nat) : Int) M m x' ((i + 1 : Nat) : Int) ∧ _) ∨ _
      rw [f_X12_isSound_L14, hT.2.2.1, if_pos hin]
      dsimp only [oj]
      rw [w1]
      rcases hp.1 with e | e
      · refine Or.inr ⟨0, by rw [if_pos e, e], Or.inl rfl, fun q => absurd q ne01, fun q => ?_⟩
        exact absurd (e.symm.trans (hp.2.mpr (fun u hu => q u (Nat.lt_trans hu hi)))) ne01
      · have e0 : ¬ x = 0 := fun q => ne10 (e.symm.trans q)
        have pa := hp.2.mp e
        rw [if_neg e0]
        by_cases b : (wnN M n (2 ^ t)).testBit i = true
        · obtain ⟨z, z1, z2, z3, z4⟩ := shT hT hi
          obtain ⟨x1, d1, d2, d3⟩ := idM hT hi
          obtain ⟨x2, f1, f2, f3⟩ := is49 (y := y) (N := ((wnN M n (2 ^ t) : Nat) : Int)) (k := fun (y4_49_98 : Int) => f_X12_isSound_L14 (fun (y4_14_104 : Int) => some y4_14_104) y ((wnN M n (2 ^ t) : Nat) : Int) M m y4_49_98 ((i + 1 : Nat) : Int)) hT hi z2 z4 d2
          have dn : x2 = 1 ↔ dnP M n y i := by
            rw [f3, d3]
            constructor
            · rintro ⟨q1, q2⟩
              exact ⟨q1.1, fun s hs ho => ⟨(q1.2 s hs ho).1, fun hy => q2 hy s ((aOK_lt (A := A) hi z4).mp ho)⟩⟩
            · rintro ⟨q1, q2⟩
              exact ⟨⟨q1, fun s hs ho => ⟨(q2 s hs ho).1, fun q => absurd q ne10⟩⟩, fun hy s hs => (q2 s (Nat.lt_of_lt_of_le hs z2) ((aOK_lt (A := A) hi z4).mpr hs)).2 hy⟩
          refine Or.inl ⟨x2, ?_, f2, dn.trans ⟨fun q u hu hb => ?_, fun q => q i (Nat.lt_succ_self i) b⟩⟩
          · rw [if_pos ((bit_1 hN31 i31).mpr b), d1, ob_s]
            exact f1
          · by_cases eu : u = i
            · rw [eu]; exact q
            · exact pa u (lt_ne hu eu) hb
        · refine Or.inl ⟨x, ?_, hp.1, ⟨fun _ u hu hb => ?_, fun _ => e⟩⟩
          · rw [if_neg (fun q => b ((bit_1 hN31 i31).mp q))]
          · by_cases eu : u = i
            · rw [eu] at hb; exact absurd hb b
            · exact pa u (lt_ne hu eu) hb
    · show f_X12_isSound_L14 _ y ((wnN M n (2 ^ t) : Nat) : Int) M (m + 1) x (n : Int) = _
      rw [f_X12_isSound_L14, hT.2.2.1, if_neg (Int.lt_irrefl _)]
  obtain ⟨x, x1, x2, x3⟩ := main
  exact ⟨x, x1, x2, x3.trans ⟨fun q u hu => q u (hbit u hu) hu, fun q u _ hu => q u hu⟩⟩
/-- what lies apart from it doesn't matter -/
theorem wn_t {B M : gM} {n x : Nat} (h : Td B M) : wnN M n x = wnN B n x := by
  have hc : ∀ t k, chB M t k = chB B t k := fun t k => by
    unfold chB
    rw [h 31 (by decide), h 42 (by decide), h 43 (by decide), h 44 (by decide), h 45 (by decide)]
  unfold wnN wnS ibN ibS
  simp only [hc, h 41 (by decide)]
theorem AS_t {B M : gM} {n t : Nat} {y : Int} (h : Td B M) (h37 : M 29 0 37 = B 29 0 37) (h60 : M 60 = B 60) (h64 : M 64 = B 64) : AS M n (dnP M n y) t ↔ AS B n (dnP B n y) t := by
  have d : ∀ u, dnP M n y u ↔ dnP B n y u := fun u => by
    unfold dnP ndd aOK
    rw [h37, h60, h64, h 38 (by decide)]
  unfold AS
  rw [wn_t h]
  exact ⟨fun q u hu => (d u).mp (q u hu), fun q u hu => (d u).mpr (q u hu)⟩
