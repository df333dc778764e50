/-! ## p29: the law's calls, one by one -/
theorem Rel_75 {c : Nat} {A B : gM} {v : Int} (h : Rel c (gU A 75 0 0 v) B) : Rel c A B := Rel_two (gU A 75 0 0 v) B A B (fun q hq => (gU_r (by omega)).symm) (fun _ _ _ => rfl) h
theorem op_of {fL fM : gM → Option (Int × gM)} {fX : Option (Nat ⊕ (Int × gM))} {b : Nat → Option (Int × gM)} {n c : Nat} {A B B' : gM} {r' : Int} (hS : Sim (Rel c) (Rel (c + 1)) fL fM) (hfL : fL A = ob fX fun r => ol r b fun v => some ((0, gU v.2 75 0 0 v.1))) (hb : ∀ e A1, b e ≠ some (0, A1)) (h : RA n c A B) (hM : fM B = some (r', B')) (h0 : B' 29 0 0 = 0) : ∃ A1, fX = some (Sum.inr (r', A1)) ∧ Rel (c + 1) A1 B' := by
  obtain ⟨r, A', r2, B2, q1, q2, q3, q4, q5, -⟩ := hS A B ⟨n, h⟩
  rw [hM] at q2
  obtain ⟨rfl, rfl⟩ : r' = r2 ∧ B' = B2 := by
    have := Option.some.inj q2
    exact ⟨congrArg Prod.fst this, congrArg Prod.snd this⟩
  have r0 : r = 0 := q3.symm.trans h0
  subst r0
  rw [hfL] at q1
  cases fX with
  | none => cases q1
  | some x =>
    cases x with
    | inl e => exact absurd q1 (hb e A')
    | inr p =>
      have e1 : gU p.2 75 0 0 p.1 = A' := congrArg Prod.snd (Option.some.inj q1)
      have e2 : p.1 = r' := by rw [← q4 rfl, ← e1, gU_s]
      rw [← e1] at q5
      exact ⟨p.2, by rw [← e2], Rel_75 q5⟩
theorem n1_0 {M A1 : gM} : ¬ (some ((1 : Int), M) = some (0, A1)) := fun q => absurd (congrArg Prod.fst (Option.some.inj q)) (show ¬ (1 : Int) = 0 by decide)
theorem n2_0 {M A1 : gM} : ¬ (some ((2 : Int), M) = some (0, A1)) := fun q => absurd (congrArg Prod.fst (Option.some.inj q)) (show ¬ (2 : Int) = 0 by decide)
theorem n3_0 {M A1 : gM} : ¬ (some ((3 : Int), M) = some (0, A1)) := fun q => absurd (congrArg Prod.fst (Option.some.inj q)) (show ¬ (3 : Int) = 0 by decide)
theorem b1_0 {M : gM} : ∀ (e : Nat) (A1 : gM), (if e = 1 then some ((1 : Int), M) else none) ≠ some (0, A1) := fun e A1 => by
  split
  · exact n1_0
  · intro q; cases q
theorem b13_0 {M : gM} : ∀ (e : Nat) (A1 : gM), (if e = 1 then some ((1 : Int), M) else (if e = 3 then some (2, M) else none)) ≠ some (0, A1) := fun e A1 => by
  split
  · exact n1_0
  · split
    · exact n2_0
    · intro q; cases q
theorem b123_0 {M : gM} : ∀ (e : Nat) (A1 : gM), (if e = 1 then some ((1 : Int), M) else (if e = 2 then some (2, M) else (if e = 3 then some (3, M) else none))) ≠ some (0, A1) := fun e A1 => by
  split
  · exact n1_0
  · split
    · exact n2_0
    · split
      · exact n3_0
      · intro q; cases q
theorem setB {B : gM} {k : Nat} {v : Int} (hk : k < 4) (hv : 0 ≤ v ∧ v ≤ 9) (hg : B 29 0 36 = 0) : f_X12_set (k : Int) v B = some (B 31 0 k, gU (gU B 29 0 0 0) 31 0 k v) := by
  simp [f_X12_set, oj, inn, show (k : Int) ≤ 3 by omega, hv.1, hv.2, f_X12_asked_, hg, og, gU_s, show (k : Int) < 4 by omega]
  simp (disch := decide) only [gU_r]
theorem setToolB {B : gM} {k : Nat} {v : Int} (hk : k < 4) (hv : 0 ≤ v ∧ v ≤ 9) (hg : B 29 0 36 = 0) : f_X12_setTool (k : Int) v B = some (B 32 0 k, gU (gU B 29 0 0 0) 32 0 k v) := by
  simp [f_X12_setTool, oj, inn, show (k : Int) ≤ 3 by omega, hv.1, hv.2, f_X12_asked_, hg, og, gU_s, show (k : Int) < 4 by omega]
  simp (disch := decide) only [gU_r]
theorem writeB {B : gM} {k z : Nat} {v2 : Int} (hk : k < 16) (hv : 0 ≤ v2 ∧ v2 ≤ 999) (hz : z ≤ 30) (z2 : B 29 0 4 = (z : Int)) : ∃ B', f_X12_write (k : Int) v2 B = some (B 30 0 k, B') ∧ But [29, 30, 33, 34] B' B ∧ (∀ j, j ≠ 0 → j ≠ 4 → B' 29 0 j = B 29 0 j) ∧ B' 29 0 0 = 0 := by
  have hB30 : gU B 29 0 0 0 30 0 k = B 30 0 k := by rw [gU_r (by decide)]
  have hk15 : (0 : Int) ≤ (k : Int) ∧ (k : Int) ≤ 15 := by omega
  have hk16 : (0 : Int) ≤ (k : Int) ∧ (k : Int) < 16 := by omega
  have ak : f_X12_asked 1 B = (1, gU B 29 0 0 0) := rfl
  by_cases he : B 30 0 k = v2
  · refine ⟨gU B 29 0 0 0, ?_, But_u But_r rfl, fun j j0 _ => gU_k j0, gU_s _ _ _ _ _⟩
    unfold f_X12_write
    dsimp only [oj]
    rw [inn, if_pos hk15, if_neg ne10, inn, if_pos hv, if_neg ne10, ak]
    dsimp only
    rw [if_neg ne10, og_t hk16, Int.toNat_natCast, if_pos (by rw [hB30]; exact he), hB30]
  · by_cases hz3 : z = 30
    · subst hz3
      obtain ⟨M, m1, m2, m3, m4⟩ := sftm (B := gU (gU B 29 0 0 0) 29 0 4 29) (fun (M_69_116 : gM) => og ((0 : Int) ≤ M_69_116 29 0 4 ∧ (M_69_116 29 0 4 : Int) < 30) <| og ((0 : Int) ≤ (gU M_69_116 33 0 (M_69_116 29 0 4).toNat (k : Int)) 29 0 4 ∧ ((gU M_69_116 33 0 (M_69_116 29 0 4).toNat (k : Int)) 29 0 4 : Int) < 30) <| og ((0 : Int) ≤ (k : Int) ∧ ((k : Int) : Int) < 16) <| some ((gU B 29 0 0 0 30 0 k, gU (gU (gU (gU M_69_116 33 0 (M_69_116 29 0 4).toNat (k : Int)) 34 0 ((gU M_69_116 33 0 (M_69_116 29 0 4).toNat (k : Int)) 29 0 4).toNat (gU B 29 0 0 0 30 0 k)) 29 0 4 (wI (((gU (gU M_69_116 33 0 (M_69_116 29 0 4).toNat (k : Int)) 34 0 ((gU M_69_116 33 0 (M_69_116 29 0 4).toNat (k : Int)) 29 0 4).toNat (gU B 29 0 0 0 30 0 k)) 29 0 4) + 1))) 30 0 k v2))) (k : Int) v2 (gU B 29 0 0 0 30 0 k) (gU_s _ _ _ _ _)
      have m5 : M 29 0 4 = 29 := by rw [But_q m2 rfl, gU_s]
      refine ⟨gU (gU (gU (gU M 33 0 29 (k : Int)) 34 0 29 (B 30 0 k)) 29 0 4 30) 30 0 k v2, ?_, ?_, ?_, ?_⟩
      · have m6 : gU B 29 0 0 0 29 0 4 = 30 := by rw [gU_k (by decide), z2]; rfl
        unfold f_X12_write
        dsimp only [oj]
        rw [inn, if_pos hk15, if_neg ne10, inn, if_pos hv, if_neg ne10, ak]
        dsimp only
        rw [if_neg ne10, og_t hk16, Int.toNat_natCast, if_neg (show ¬ gU B 29 0 0 0 30 0 k = v2 by rw [hB30]; exact he), if_pos m6, m6]
        rw [show wI (30 - 1 : Int) = 29 from rfl, m1, m5]
        rw [og_t (by decide), og_t (by rw [gU_r (by decide), m5]; decide), og_t hk16]
        simp (disch := decide) only [gU_r, m5, hB30]
        rfl
      · exact But_u (But_u (But_u (But_u (But_t (But_u (But_u But_r rfl) rfl) (But_w m2 rfl)) rfl) rfl) rfl) rfl
      · intro j j0 j4
        rw [gU_r (by decide), gU_k j4, gU_r (by decide), gU_r (by decide), But_q m2 rfl, gU_k j4, gU_k j0]
      · rw [gU_r (by decide), gU_k (by decide), gU_r (by decide), gU_r (by decide), But_q m2 rfl, gU_k (by decide), gU_s]
    · refine ⟨gU (gU (gU (gU (gU B 29 0 0 0) 33 0 z (k : Int)) 34 0 z (B 30 0 k)) 29 0 4 ((z : Int) + 1)) 30 0 k v2, ?_, ?_, ?_, ?_⟩
      · have m6 : gU B 29 0 0 0 29 0 4 = (z : Int) := by rw [gU_k (by decide), z2]
        unfold f_X12_write
        dsimp only [oj]
        rw [inn, if_pos hk15, if_neg ne10, inn, if_pos hv, if_neg ne10, ak]
        dsimp only
        rw [if_neg ne10, og_t hk16, Int.toNat_natCast, if_neg (show ¬ gU B 29 0 0 0 30 0 k = v2 by rw [hB30]; exact he), if_neg (show ¬ gU B 29 0 0 0 29 0 4 = 30 by rw [m6]; omega), hB30]
        rw [og_t (by rw [m6]; omega), og_t (by rw [gU_r (by decide), m6]; omega), og_t hk16]
        simp (disch := decide) only [gU_r, m6, hB30, Int.toNat_natCast, wI_s (show z + 1 < 2147483648 by omega)]
        rfl
      · exact But_u (But_u (But_u (But_u (But_u But_r rfl) rfl) rfl) rfl) rfl
      · intro j j0 j4
        rw [gU_r (by decide), gU_k j4, gU_r (by decide), gU_r (by decide), gU_k j0]
      · rw [gU_r (by decide), gU_k (by decide), gU_r (by decide), gU_r (by decide), gU_s]
theorem wr_P {A B : gM} {n c k : Nat} {v : Int} (h : RA n c A B) (hk : k < 16) (hv : 0 ≤ v ∧ v ≤ 999) : ∃ A1 B1 r, f_P_does 0 (k : Int) v A = some (r, A1) ∧ 0 ≤ r ∧ RA n (c + 1) A1 B1 ∧ But [29, 30, 31, 32, 33, 34] B1 B ∧ ∀ j, j ≠ 0 → j ≠ 4 → B1 29 0 j = B 29 0 j := by
  obtain ⟨z, hz, -, z2⟩ := h.1.1
  obtain ⟨B1, e1, e2, e3, e4⟩ := writeB hk hv hz z2
  obtain ⟨A1, a1, a2⟩ := op_of (S_write (k : Int) v) rfl b1_0 h e1 e4
  exact ⟨A1, B1, _, does_write a1, (h.1.2.2.2.2.2.2.1 k).1, RA_of (c' := c) a2 h.2.1 (e3 7 (by decide) (by decide)), But_w e2 rfl, e3⟩
theorem se_P {A B : gM} {n c k : Nat} {v : Int} (h : RA n c A B) (hg : B 29 0 36 = 0) (hk : k < 4) (hv : 0 ≤ v ∧ v ≤ 9) : ∃ A1 B1 r, f_P_does 1 (k : Int) v A = some (r, A1) ∧ 0 ≤ r ∧ RA n (c + 1) A1 B1 ∧ But [29, 30, 31, 32, 33, 34] B1 B ∧ ∀ j, j ≠ 0 → j ≠ 4 → B1 29 0 j = B 29 0 j := by
  have e1 := setB hk hv hg
  have e3 : ∀ j, j ≠ 0 → j ≠ 4 → gU (gU B 29 0 0 0) 31 0 k v 29 0 j = B 29 0 j := fun j j0 _ => by rw [gU_r (by decide), gU_k j0]
  obtain ⟨A1, a1, a2⟩ := op_of (S_set (k : Int) v) rfl b13_0 h e1 (by rw [gU_r (by decide), gU_s])
  exact ⟨A1, _, _, does_set a1, (h.1.2.2.2.2.2.2.2.1 k).1, RA_of (c' := c) a2 h.2.1 (e3 7 (by decide) (by decide)), But_u (But_u But_r rfl) rfl, e3⟩
theorem st_P {A B : gM} {n c k : Nat} {v : Int} (h : RA n c A B) (hg : B 29 0 36 = 0) (hk : k < 4) (hv : 0 ≤ v ∧ v ≤ 9) : ∃ A1 B1 r, f_P_does 2 (k : Int) v A = some (r, A1) ∧ 0 ≤ r ∧ RA n (c + 1) A1 B1 ∧ But [29, 30, 31, 32, 33, 34] B1 B ∧ ∀ j, j ≠ 0 → j ≠ 4 → B1 29 0 j = B 29 0 j := by
  have e1 := setToolB hk hv hg
  have e3 : ∀ j, j ≠ 0 → j ≠ 4 → gU (gU B 29 0 0 0) 32 0 k v 29 0 j = B 29 0 j := fun j j0 _ => by rw [gU_r (by decide), gU_k j0]
  obtain ⟨A1, a1, a2⟩ := op_of (S_setTool (k : Int) v) rfl b13_0 h e1 (by rw [gU_r (by decide), gU_s])
  exact ⟨A1, _, _, does_setTool a1, (h.1.2.2.2.2.2.2.2.2.1 k).1, RA_of (c' := c) a2 h.2.1 (e3 7 (by decide) (by decide)), But_u (But_u But_r rfl) rfl, e3⟩
theorem powB {B : gM} {w n : Nat} {v : Int} (hw : w < 4) (hv : 0 ≤ v ∧ v ≤ 9) (hW : W3 1 B n) (hn : n ≤ 14) : ∃ B', f_X12_setPower (w : Int) v B = some (B 53 0 w, B') ∧ But [29, 53, 54, 59, 60, 68] B' B ∧ (∀ j, j ≠ 0 → B' 29 0 j = B 29 0 j) ∧ B' 29 0 0 = 0 ∧ (∀ u, u ≠ w → B' 53 0 u = B 53 0 u) ∧ B' 53 0 w = v := by
  have pw53 : pwB B w v 53 0 w = v := by
    unfold pwB
    rw [gU_r (by decide), gU_r (by decide), gU_s]
  have pw0 : pwB B w v 29 0 0 = 0 := by
    unfold pwB
    rw [gU_r (by decide), gU_r (by decide), gU_r (by decide), gU_s]
  by_cases hp : B 53 0 w = v
  · refine ⟨gU B 29 0 0 0, ?_, But_u But_r rfl, fun j hj => gU_k hj, gU_s _ _ _ _ _, fun u _ => by rw [gU_r (by decide)], by rw [gU_r (by decide)]; exact hp⟩
    unfold f_X12_setPower
    dsimp only [oj]
    rw [inn, if_pos (show (0 : Int) ≤ (w : Int) ∧ (w : Int) ≤ 3 by omega), if_neg ne10, inn, if_pos hv, if_neg ne10, ask1]
    dsimp only
    rw [if_neg ne10, og_t (show (0 : Int) ≤ (w : Int) ∧ (w : Int) < 4 by omega), Int.toNat_natCast, if_pos (show gU B 29 0 0 0 53 0 w = v by rw [gU_r (by decide)]; exact hp), gU_r (by decide)]
  · have pk : ∀ u, u ≠ w → pwB B w v 53 0 u = B 53 0 u := fun u hu => pwB_k 53 (by decide) u hu
    rcases hW w hw with hb | ⟨t, s, hat⟩
    · exact ⟨pwB B w v, by rw [refB_pw hw hv hp _ hb, if_pos rfl], But_w pwB_o rfl, pwB_29, pw0, pk, pw53⟩
    · have at1 := hat.1
      have hs4 := hat.2.1
      have ht14 : t < 14 := Nat.lt_of_lt_of_le hat.2.2.1.1 hn
      have b56 : (0 : Int) ≤ ((4 * t + s : Nat) : Int) ∧ ((4 * t + s : Nat) : Int) < 56 := by omega
      have nm1 : ¬ ((4 * t + s : Nat) : Int) = -1 := by omega
      rcases wAtM ((4 * t + s : Nat) : Int) (pwB B w v) with ⟨u, u1, u2, u3, -⟩ | ⟨u2, u3⟩
      · exact ⟨pwB B w v, by rw [refB_pw hw hv hp _ at1, if_neg nm1, u2, ob_s, if_neg (show ¬ ((u : Int) = -1) by omega)], But_w pwB_o rfl, pwB_29, pw0, pk, pw53⟩
      · refine ⟨pw2B B w v (4 * t + s), ?_, pw2B_o, fun j hj => by rw [But_q pw2B_b rfl]; exact pwB_29 j hj, by rw [But_q pw2B_b rfl]; exact pw0, fun u hu => by rw [But_q pw2B_b rfl]; exact pk u hu, by rw [But_q pw2B_b rfl]; exact pw53⟩
        rw [refB_pw hw hv hp _ at1, if_neg nm1, u2, ob_s, if_pos rfl, og_t b56, Int.toNat_natCast]
        rfl
theorem po_P {A B : gM} {n c w : Nat} {v : Int} (h : RA n c A B) (hw : w < 4) (hv : 0 ≤ v ∧ v ≤ 9) : ∃ A1 B1 r, f_P_does 4 (w : Int) v A = some (r, A1) ∧ 0 ≤ r ∧ RA n (c + 1) A1 B1 ∧ But [29, 53, 54, 59, 60, 68] B1 B ∧ (∀ j, j ≠ 0 → B1 29 0 j = B 29 0 j) ∧ (∀ u, u ≠ w → B1 53 0 u = B 53 0 u) ∧ B1 53 0 w = v := by
  obtain ⟨i1, i2, i3⟩ := RW_iff.mp h.2.2.2.2.1
  obtain ⟨B1, e1, e2, e3, e4, e5, e6⟩ := powB hw hv i2 h.2.1.1
  obtain ⟨A1, a1, a2⟩ := op_of (S_setPower (w : Int) v) rfl b1_0 h e1 e4
  exact ⟨A1, B1, _, does_setPower a1, (i1.2 w hw).2.1.1, RA_of (c' := c) a2 h.2.1 (e3 7 (by decide)), e2, e3, e5, e6⟩
