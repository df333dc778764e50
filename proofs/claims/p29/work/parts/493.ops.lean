/-! ## Level 2: the plain calls -/
theorem isB (a b : Int) (M : gM) : f_X11_isBelow a b M = if 0 ≤ a ∧ a < b then 1 else 0 := by
  unfold f_X11_isBelow
  by_cases h : a < 0
  · rw [if_pos h, if_neg (by omega)]
  · by_cases h2 : a < b
    · rw [if_neg h, if_pos h2, if_pos (by omega)]
    · rw [if_neg h, if_neg h2, if_neg (by omega)]
theorem inn (v lo hi : Int) (M : gM) : f_X12_in v lo hi M = if lo ≤ v ∧ v ≤ hi then 1 else 0 := by
  unfold f_X12_in
  by_cases h : v < lo
  · rw [if_pos h, if_neg (by omega)]
  · by_cases h2 : hi < v
    · rw [if_neg h, if_pos h2, if_neg (by omega)]
    · rw [if_neg h, if_neg h2, if_pos (by omega)]
theorem ox_r {α β : Type} (v : α) (k : α → Option (Nat ⊕ β)) : ox (Sum.inr v) k = k v := rfl
theorem ox_l {α β : Type} (e : Nat) (k : α → Option (Nat ⊕ β)) : ox (Sum.inl e : Nat ⊕ α) k = some (Sum.inl e) := rfl
theorem ol_r' {α β : Type} (v : α) (a : Nat → Option β) (k : α → Option β) : ol (Sum.inr v) a k = k v := rfl
theorem ol_l' {α β : Type} (e : Nat) (a : Nat → Option β) (k : α → Option β) : ol (Sum.inl e) a k = a e := rfl
theorem cArg (v : Int) (M : gM) : f_X11_checkArgument v M = if v = 0 then some (Sum.inl 1) else some (Sum.inr ()) := rfl
theorem cSta (v : Int) (M : gM) : f_X11_checkState v M = if v = 0 then some (Sum.inl 3) else some (Sum.inr ()) := rfl
theorem S_set {c : Nat} (v1 v2 : Int) : Sim (Rel c) (Rel (c + 1)) (f_L_set v1 v2) (f_X12_set v1 v2) := by
  intro A B h
  have h0 := h
  obtain ⟨n, h1, h2, h3, h4, h5, h6, h7⟩ := h0
  have hgo : A 4 0 8 = B 29 0 36 := h6.2.1
  by_cases ha : (0 ≤ v1 ∧ v1 < 4) ∧ (0 ≤ v2 ∧ v2 < 10)
  · obtain ⟨⟨a1, a2⟩, a3, a4⟩ := ha
    by_cases hg : B 29 0 36 = 0
    · obtain ⟨k, rfl⟩ : ∃ k : Nat, v1 = (k : Int) := ⟨v1.toNat, by omega⟩
      have hk : k < 4 := by omega
      have e1 : f_L_set (k : Int) v2 A = some (0, gU (gU A 13 0 k v2) 75 0 0 (A 13 0 k)) := by
        simp [f_L_set, f_X11_set, oj, isB, a2, a3, a4, cArg, cSta, ob_s, ox_r, ol_r', hgo, hg, f_X11_exchange, at_in hk, store_in hk]
      have e2 : f_X12_set (k : Int) v2 B = some (B 31 0 k, gU (gU B 29 0 0 0) 31 0 k v2) := by
        simp [f_X12_set, oj, inn, show (k : Int) ≤ 3 by omega, a3, show v2 ≤ 9 by omega, f_X12_asked_, hg, og, gU_s, show (k : Int) < 4 by omega]
        simp (disch := decide) only [gU_r]
      refine ⟨_, _, _, _, e1, e2, ?_, ?_, ?_, ?_, ?_⟩
      · simp (disch := decide) only [gU_r, gU_s]
      · intro _
        rw [gU_s, h1.2.2.1]
      · refine Rel_out _ (Rel_up ⟨n, ?_, ?_, ?_, ?_, ?_, ?_, ?_⟩)
        · obtain ⟨q1, q2, q3, q4, q5, q6, q7, q8, q9⟩ := h1
          refine ⟨?_, ?_, ?_, ?_, ?_, ?_, ?_, ?_, ?_⟩
          · simp (disch := decide) only [gU_r, gU_k]; exact q1
          · simp (disch := decide) only [gU_r]; exact q2
          · rw [gU_same, gU_same, q3]
            simp (disch := decide) only [gU_r]
          · simp (disch := decide) only [gU_r]; exact q4
          · simp (disch := decide) only [gU_r]; exact q5
          · simp (disch := decide) only [gU_r]; exact q6
          · simp (disch := decide) only [gU_r]; exact q7
          · intro j
            rw [gU_same]
            simp (disch := decide) only [gU_r]
            unfold g1
            by_cases hj : j = k
            · rw [if_pos hj]; omega
            · rw [if_neg hj]; exact q8 j
          · simp (disch := decide) only [gU_r]; exact q9
        · unfold RT RI RD at h2 ⊢
          simp (disch := decide) only [gU_r, gU_k]
          exact h2
        · unfold RC RE at h3 ⊢
          simp (disch := decide) only [gU_r, gU_k]
          exact h3
        · unfold RO at h4 ⊢
          simp (disch := decide) only [gU_r, gU_k]
          exact h4
        · unfold RW aOK ndd at h5 ⊢
          simp (disch := decide) only [gU_r, gU_k]
          exact h5
        · unfold RB aOK ndd dgS at h6 ⊢
          simp (disch := decide) only [gU_r, gU_k]
          exact h6
        · refine ⟨?_, fun q => ?_⟩
          · have h7 := h7.1
            unfold aOK ndd at h7 ⊢
            simp (disch := decide) only [gU_r, gU_k]
            exact h7
          · simp (disch := decide) only [gU_r, gU_k] at q
            omega
      · intro q q1 q2
        rw [gU_r (by omega), gU_r (by omega)]
      · intro q hq
        rw [gU_r (by omega), gU_r (by omega)]
    · have e1 : f_L_set v1 v2 A = some (2, A) := by
        simp [f_L_set, f_X11_set, oj, isB, a1, a2, a3, a4, cArg, cSta, ob_s, ox_r, ox_l, ol_l', hgo, hg]
      have e2 : f_X12_set v1 v2 B = some (0, gU B 29 0 0 2) := by
        simp [f_X12_set, oj, inn, a1, show v1 ≤ 3 by omega, a3, show v2 ≤ 9 by omega, f_X12_asked_, hg, gU_s]
      refine ⟨_, _, _, _, e1, e2, gU_s _ _ _ _ _, fun q => absurd q (by decide), Rel_thr _ (Rel_up h), fun q _ _ => rfl, fun q hq => gU_r (by omega)⟩
  · have e1 : f_L_set v1 v2 A = some (1, A) := by
      by_cases b1 : 0 ≤ v1 ∧ v1 < 4
      · have b2 : ¬ (0 ≤ v2 ∧ v2 < 10) := fun q => ha ⟨b1, q⟩
        simp [f_L_set, f_X11_set, oj, isB, b1, b2, cArg, ob_s, ox_l, ol_l']
      · simp [f_L_set, f_X11_set, oj, isB, b1, cArg, ob_s, ox_l, ol_l']
    have e2 : f_X12_set v1 v2 B = some (0, gU B 29 0 0 1) := by
      by_cases b1 : 0 ≤ v1 ∧ v1 ≤ 3
      · have b2 : ¬ (0 ≤ v2 ∧ v2 ≤ 9) := fun q => ha ⟨by omega, by omega⟩
        simp [f_X12_set, oj, inn, b1, b2, f_X12_asked_, gU_s]
      · simp [f_X12_set, oj, inn, b1, f_X12_asked_, gU_s]
    refine ⟨_, _, _, _, e1, e2, gU_s _ _ _ _ _, fun q => absurd q (by decide), Rel_thr _ (Rel_up h), fun q _ _ => rfl, fun q hq => gU_r (by omega)⟩
theorem S_setTool {c : Nat} (v1 v2 : Int) : Sim (Rel c) (Rel (c + 1)) (f_L_setTool v1 v2) (f_X12_setTool v1 v2) := by
  intro A B h
  have h0 := h
  obtain ⟨n, h1, h2, h3, h4, h5, h6, h7⟩ := h0
  have hgo : A 4 0 8 = B 29 0 36 := h6.2.1
  by_cases ha : (0 ≤ v1 ∧ v1 < 4) ∧ (0 ≤ v2 ∧ v2 < 10)
  · obtain ⟨⟨a1, a2⟩, a3, a4⟩ := ha
    by_cases hg : B 29 0 36 = 0
    · obtain ⟨k, rfl⟩ : ∃ k : Nat, v1 = (k : Int) := ⟨v1.toNat, by omega⟩
      have hk : k < 4 := by omega
      have e1 : f_L_setTool (k : Int) v2 A = some (0, gU (gU A 14 0 k v2) 75 0 0 (A 14 0 k)) := by
        simp [f_L_setTool, f_X11_setTool, oj, isB, a2, a3, a4, cArg, cSta, ob_s, ox_r, ol_r', hgo, hg, f_X11_exchange, at_in hk, store_in hk]
      have e2 : f_X12_setTool (k : Int) v2 B = some (B 32 0 k, gU (gU B 29 0 0 0) 32 0 k v2) := by
        simp [f_X12_setTool, oj, inn, show (k : Int) ≤ 3 by omega, a3, show v2 ≤ 9 by omega, f_X12_asked_, hg, og, gU_s, show (k : Int) < 4 by omega]
        simp (disch := decide) only [gU_r]
      refine ⟨_, _, _, _, e1, e2, ?_, ?_, ?_, ?_, ?_⟩
      · simp (disch := decide) only [gU_r, gU_s]
      · intro _
        rw [gU_s, h1.2.2.2.1]
      · refine Rel_out _ (Rel_up ⟨n, ?_, ?_, ?_, ?_, ?_, ?_, ?_⟩)
        · obtain ⟨q1, q2, q3, q4, q5, q6, q7, q8, q9⟩ := h1
          refine ⟨?_, ?_, ?_, ?_, ?_, ?_, ?_, ?_, ?_⟩
          · simp (disch := decide) only [gU_r, gU_k]; exact q1
          · simp (disch := decide) only [gU_r]; exact q2
          · simp (disch := decide) only [gU_r]; exact q3
          · rw [gU_same, gU_same, q4]
            simp (disch := decide) only [gU_r]
          · simp (disch := decide) only [gU_r]; exact q5
          · simp (disch := decide) only [gU_r]; exact q6
          · simp (disch := decide) only [gU_r]; exact q7
          · simp (disch := decide) only [gU_r]; exact q8
          · refine ⟨fun j => ?_, ?_⟩
            · rw [gU_same]
              simp (disch := decide) only [gU_r]
              unfold g1
              by_cases hj : j = k
              · rw [if_pos hj]; omega
              · rw [if_neg hj]; exact q9.1 j
            · simp (disch := decide) only [gU_r]; exact q9.2
        · unfold RT RI RD at h2 ⊢
          simp (disch := decide) only [gU_r, gU_k]
          exact h2
        · unfold RC RE at h3 ⊢
          simp (disch := decide) only [gU_r, gU_k]
          exact h3
        · unfold RO at h4 ⊢
          simp (disch := decide) only [gU_r, gU_k]
          exact h4
        · unfold RW aOK ndd at h5 ⊢
          simp (disch := decide) only [gU_r, gU_k]
          exact h5
        · unfold RB aOK ndd dgS at h6 ⊢
          simp (disch := decide) only [gU_r, gU_k]
          exact h6
        · refine ⟨?_, fun q => ?_⟩
          · have h7 := h7.1
            unfold aOK ndd at h7 ⊢
            simp (disch := decide) only [gU_r, gU_k]
            exact h7
          · simp (disch := decide) only [gU_r, gU_k] at q
            omega
      · intro q q1 q2
        rw [gU_r (by omega), gU_r (by omega)]
      · intro q hq
        rw [gU_r (by omega), gU_r (by omega)]
    · have e1 : f_L_setTool v1 v2 A = some (2, A) := by
        simp [f_L_setTool, f_X11_setTool, oj, isB, a1, a2, a3, a4, cArg, cSta, ob_s, ox_r, ox_l, ol_l', hgo, hg]
      have e2 : f_X12_setTool v1 v2 B = some (0, gU B 29 0 0 2) := by
        simp [f_X12_setTool, oj, inn, a1, show v1 ≤ 3 by omega, a3, show v2 ≤ 9 by omega, f_X12_asked_, hg, gU_s]
      refine ⟨_, _, _, _, e1, e2, gU_s _ _ _ _ _, fun q => absurd q (by decide), Rel_thr _ (Rel_up h), fun q _ _ => rfl, fun q hq => gU_r (by omega)⟩
  · have e1 : f_L_setTool v1 v2 A = some (1, A) := by
      by_cases b1 : 0 ≤ v1 ∧ v1 < 4
      · have b2 : ¬ (0 ≤ v2 ∧ v2 < 10) := fun q => ha ⟨b1, q⟩
        simp [f_L_setTool, f_X11_setTool, oj, isB, b1, b2, cArg, ob_s, ox_l, ol_l']
      · simp [f_L_setTool, f_X11_setTool, oj, isB, b1, cArg, ob_s, ox_l, ol_l']
    have e2 : f_X12_setTool v1 v2 B = some (0, gU B 29 0 0 1) := by
      by_cases b1 : 0 ≤ v1 ∧ v1 ≤ 3
      · have b2 : ¬ (0 ≤ v2 ∧ v2 ≤ 9) := fun q => ha ⟨by omega, by omega⟩
        simp [f_X12_setTool, oj, inn, b1, b2, f_X12_asked_, gU_s]
      · simp [f_X12_setTool, oj, inn, b1, f_X12_asked_, gU_s]
    refine ⟨_, _, _, _, e1, e2, gU_s _ _ _ _ _, fun q => absurd q (by decide), Rel_thr _ (Rel_up h), fun q _ _ => rfl, fun q hq => gU_r (by omega)⟩
