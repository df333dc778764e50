theorem Rel_thr2 {c : Nat} {M : gM} (v : Int) (h : Rel c M M) : Rel (c + 1) (gU M 29 0 0 v) (gU M 29 0 0 v) := Rel_two M (gU M 29 0 0 v) _ _ (fun q hq => gU_r (by omega)) (fun _ _ _ => rfl) (Rel_thr v (Rel_up h))
theorem Q_entries {c : Nat} {M : gM} (h : Rel c M M) : f_X11_entries M = (f_X12_entries M).1 ∧ Rel (c + 1) (f_X12_entries M).2 (f_X12_entries M).2 := by
  refine ⟨?_, Rel_thr2 0 h⟩
  obtain ⟨n, h1, h2, ⟨z, f, q1, q2, q3, q4, q5, q6, q7⟩, h4, h5, h6, h7⟩ := h
  show M 3 0 2 = gU M 29 0 0 0 29 0 21
  rw [gU_k (by decide), q5, q6]
theorem Q_goesOn {c : Nat} {M : gM} (h : Rel c M M) : f_X11_goesOn M = (f_X12_goesOn M).1 ∧ Rel (c + 1) (f_X12_goesOn M).2 (f_X12_goesOn M).2 := by
  refine ⟨?_, Rel_thr2 0 h⟩
  obtain ⟨n, h1, h2, h3, h4, h5, h6, h7⟩ := h
  show M 4 0 8 = gU M 29 0 0 0 29 0 36
  rw [gU_k (by decide), h6.2.1]
theorem S_count {c : Nat} (v1 : Int) : Sim (Rel c) (Rel (c + 1)) (f_L_count v1) (f_X12_count v1) := by
  intro A B h
  have h0 := h
  obtain ⟨n, h1, h2, h3, h4, h5, h6, h7⟩ := h0
  by_cases ha : 0 ≤ v1 ∧ v1 < 5
  · obtain ⟨k, rfl⟩ : ∃ k : Nat, v1 = (k : Int) := ⟨v1.toNat, by omega⟩
    have hk : k < 5 := by omega
    have e1 : f_L_count (k : Int) A = some (0, gU A 75 0 0 (A 24 0 k)) := by
      simp [f_L_count, f_X11_count, isB, ha.2, cArg, ob_s, ox_r, ol_r', at_in hk]
    have e2 : f_X12_count (k : Int) B = some (B 68 0 k, gU B 29 0 0 0) := by
      simp [f_X12_count, inn, show (k : Int) ≤ 4 by omega, f_X12_asked, og, ha.2]
      simp (disch := decide) only [gU_r]
    refine ⟨_, _, _, _, e1, e2, gU_s _ _ _ _ _, fun _ => ?_, Rel_out _ (Rel_thr _ (Rel_up h)), fun q q1 q2 => gU_r (by omega), fun q hq => gU_r (by omega)⟩
    rw [gU_s, h4.2.2.2.2.1]
  · have e1 : f_L_count v1 A = some (1, A) := by
      simp [f_L_count, f_X11_count, isB, ha, cArg, ob_s, ox_l, ol_l']
    have e2 : f_X12_count v1 B = some (0, gU B 29 0 0 1) := by
      have hb : ¬ (0 ≤ v1 ∧ v1 ≤ 4) := fun q => ha ⟨by omega, by omega⟩
      simp [f_X12_count, inn, hb, f_X12_asked]
    exact ⟨_, _, _, _, e1, e2, gU_s _ _ _ _ _, fun q => absurd q (by decide), Rel_thr _ (Rel_up h), fun q _ _ => rfl, fun q hq => gU_r (by omega)⟩
