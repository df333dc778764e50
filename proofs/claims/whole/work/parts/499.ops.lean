theorem S_entry {c : Nat} (v1 v2 : Int) : Sim (Rel c) (Rel (c + 1)) (f_L_entry v1 v2) (f_X12_entry v1 v2) := by
  intro A B h
  have h0 := h
  obtain ⟨n, h1, h2, ⟨z, f, p1, p2, p3, p4, p5, p6, p7⟩, h4, h5, h6, h7⟩ := h0
  by_cases ha : 0 ≤ v1 ∧ v1 < (z : Int)
  · obtain ⟨v, rfl⟩ : ∃ v : Nat, v1 = (v : Int) := ⟨v1.toNat, by omega⟩
    have hv : v < z := by omega
    have hat := eAt p4 p5 p2 p1 hv
    have hin : (v : Int) ≤ wI (B 29 0 21 - 1) := by rw [p6, wI_m (by omega)]; omega
    have h40 : (v : Int) < 40 := by omega
    by_cases hb : 0 ≤ v2 ∧ v2 ≤ 6
    · have e1 : f_L_entry (v : Int) v2 A = some (0, gU A 75 0 0 (f_X3_tell ((f + v) % 40) v2 A)) := by
        simp [f_L_entry, f_X11_entry, hat, ob_s, oj, om_some, isB, hb.1, show v2 < 7 by omega, ol_r']
      have e2 : f_X12_entry (v : Int) v2 B = some (f_X3_tell ((f + v) % 40) v2 A, gU B 29 0 0 0) := by
        obtain ⟨q1, q2, q3, q4, q5, q6, q7, -⟩ := p7 v hv
        have hr : ∀ r : Nat, r ≠ 29 → gU B 29 0 0 0 r = B r := fun r hr => gU_r hr
        rcases (show v2 = 0 ∨ v2 = 1 ∨ v2 = 2 ∨ v2 = 3 ∨ v2 = 4 ∨ v2 = 5 ∨ v2 = 6 by omega) with rfl | rfl | rfl | rfl | rfl | rfl | rfl
        · simp [f_X12_entry, oj, inn, hin, f_X12_asked, og, h40, f_X3_tell, hr, q1]
        · simp [f_X12_entry, oj, inn, hin, f_X12_asked, og, h40, f_X3_tell, hr, q2]
        · simp [f_X12_entry, oj, inn, hin, f_X12_asked, og, h40, f_X3_tell, hr, q3]
        · simp [f_X12_entry, oj, inn, hin, f_X12_asked, og, h40, f_X3_tell, hr, q4]
        · simp [f_X12_entry, oj, inn, hin, f_X12_asked, og, h40, f_X3_tell, hr, q5]
        · rcases q7 with ⟨a, b⟩ | ⟨a, b⟩ <;> simp [f_X12_entry, oj, inn, hin, f_X12_asked, og, h40, f_X3_tell, hr, a, b]
        · by_cases hs : B 51 0 v = f_X12_signature (B 46 0 v) (B 49 0 v) (B 50 0 v) B
          · have hs' : A 10 ((f + v) % 40) 5 = f_X3_rightSignature ((f + v) % 40) A := by
              unfold f_X3_rightSignature f_X11_plus
              rw [q6, q1, q4, q5, hs]
              rfl
            have hs2 : B 51 0 v = f_X12_signature (B 46 0 v) (B 49 0 v) (B 50 0 v) (gU B 29 0 0 0) := hs
            simp [f_X12_entry, oj, inn, hin, f_X12_asked, og, h40, f_X3_tell, hr, f_X12_isSigned, f_X3_isRightlySigned, ← hs2, ← hs', ob_s]
          · have hs' : ¬ A 10 ((f + v) % 40) 5 = f_X3_rightSignature ((f + v) % 40) A := by
              unfold f_X3_rightSignature f_X11_plus
              rw [q6, q1, q4, q5]
              exact hs
            have hs2 : ¬ B 51 0 v = f_X12_signature (B 46 0 v) (B 49 0 v) (B 50 0 v) (gU B 29 0 0 0) := hs
            simp [f_X12_entry, oj, inn, hin, f_X12_asked, og, h40, f_X3_tell, hr, f_X12_isSigned, f_X3_isRightlySigned, hs2, hs', ob_s]
      exact ⟨_, _, _, _, e1, e2, gU_s _ _ _ _ _, fun _ => gU_s _ _ _ _ _, Rel_out _ (Rel_thr _ (Rel_up h)), fun q q1 q2 => gU_r (by omega), fun q hq => gU_r (by omega)⟩
    · have e1 : f_L_entry (v : Int) v2 A = some (1, A) := by
        have hb' : ¬ (0 ≤ v2 ∧ v2 < 7) := fun q => hb ⟨q.1, by omega⟩
        simp [f_L_entry, f_X11_entry, hat, ob_s, oj, om_some, isB, hb', ol_l']
      have e2 : f_X12_entry (v : Int) v2 B = some (0, gU B 29 0 0 1) := by
        simp [f_X12_entry, oj, inn, hin, hb, f_X12_asked]
      exact ⟨_, _, _, _, e1, e2, gU_s _ _ _ _ _, fun q => absurd q (by decide), Rel_thr _ (Rel_up h), fun q _ _ => rfl, fun q hq => gU_r (by omega)⟩
  · have e1 : f_L_entry v1 v2 A = some (1, A) := by
      simp [f_L_entry, f_X11_entry, eAt_no p5 ha, ob_s, oj, om_none, ol_l']
    have e2 : f_X12_entry v1 v2 B = some (0, gU B 29 0 0 1) := by
      have hin : ¬ (0 ≤ v1 ∧ v1 ≤ wI (B 29 0 21 - 1)) := by rw [p6, wI_m (by omega)]; omega
      simp [f_X12_entry, oj, inn, hin, f_X12_asked]
    exact ⟨_, _, _, _, e1, e2, gU_s _ _ _ _ _, fun q => absurd q (by decide), Rel_thr _ (Rel_up h), fun q _ _ => rfl, fun q hq => gU_r (by omega)⟩
