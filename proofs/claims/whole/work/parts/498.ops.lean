theorem S_lose {c : Nat} (v1 : Int) : Sim (Rel c) (Rel (c + 1)) (f_L_lose v1) (f_X12_lose v1) := by
  intro A B h
  have h0 := h
  obtain ⟨n, h1, h2, ⟨z, f, p1, p2, p3, p4, p5, p6, p7⟩, h4, h5, h6, h7⟩ := h0
  by_cases ha : 0 ≤ v1 ∧ v1 < (z : Int)
  · obtain ⟨v, rfl⟩ : ∃ v : Nat, v1 = (v : Int) := ⟨v1.toNat, by omega⟩
    have hv : v < z := by omega
    have hat := eAt p4 p5 p2 p1 hv
    have hin : (v : Int) ≤ wI (B 29 0 21 - 1) := by rw [p6, wI_m (by omega)]; omega
    obtain ⟨x, hx1, hx2⟩ : ∃ x : Int, A 10 ((f + v) % 40) 6 = x ∧ (x = 1 ∧ B 52 0 v = 0 ∨ x = 0 ∧ B 52 0 v = 1) := by
      obtain ⟨q1, q2, q3, q4, q5, q6, q7, -⟩ := p7 v hv
      rcases q7 with ⟨a, b⟩ | ⟨a, b⟩
      · exact ⟨1, b, Or.inl ⟨rfl, a⟩⟩
      · exact ⟨0, b, Or.inr ⟨rfl, a⟩⟩
    have e1 : f_L_lose (v : Int) A = some (0, gU (gU A 10 ((f + v) % 40) 6 0) 75 0 0 x) := by
      rcases hx2 with ⟨rfl, -⟩ | ⟨rfl, -⟩ <;> simp [f_L_lose, f_X11_lose, hat, ob_s, oj, om_some, ol_r', hx1]
    have e2 : f_X12_lose (v : Int) B = some (x, gU (gU B 29 0 0 0) 52 0 v 1) := by
      have hr : gU B 29 0 0 0 52 0 v = B 52 0 v := by rw [gU_r (by decide)]
      rcases hx2 with ⟨rfl, q⟩ | ⟨rfl, q⟩ <;> simp [f_X12_lose, oj, inn, hin, f_X12_asked, og, show (v : Int) < 40 by omega, hr, q]
    refine ⟨_, _, _, _, e1, e2, ?_, fun _ => gU_s _ _ _ _ _, Rel_out _ (Rel_up ⟨n, ?_, ?_, ?_, ?_, ?_, ?_, ?_⟩), ?_, ?_⟩
    · simp (disch := decide) only [gU_r, gU_s]
    · unfold RS at h1 ⊢
      simp (disch := decide) only [gU_r, gU_k]
      exact h1
    · unfold RT RI RD at h2 ⊢
      simp (disch := decide) only [gU_r, gU_k]
      exact h2
    · refine ⟨z, f, p1, p2, p3, ?_, ?_, ?_, fun e he => ?_⟩
      · simp (disch := decide) only [gU_r]; exact p4
      · simp (disch := decide) only [gU_r]; exact p5
      · simp (disch := decide) only [gU_r, gU_k]; exact p6
      · have q := p7 e he
        unfold RE at q ⊢
        by_cases hev : e = v
        · subst hev
          simp (disch := decide) only [gU_r, gU_k, gU_s]
          obtain ⟨q1, q2, q3, q4, q5, q6, q7, q8, q9, q10⟩ := q
          exact ⟨q1, q2, q3, q4, q5, q6, Or.inr ⟨trivial, trivial⟩, q8, q9, q10⟩
        · have hne := ring_ne p2 (show e < 40 by omega) (show v < 40 by omega) hev
          simp (disch := decide) only [gU_r, gU_i hne, gU_k hev]
          exact q
    · unfold RO at h4 ⊢
      simp (disch := decide) only [gU_r, gU_k]
      exact h4
    · unfold RW aOK ndd at h5 ⊢
      simp (disch := decide) only [gU_r, gU_k]
      exact h5
    · unfold RB aOK ndd dgS at h6 ⊢
      simp (disch := decide) only [gU_r, gU_k]
      exact h6
    · unfold RG aOK ndd isI chB at h7 ⊢
      simp (disch := decide) only [gU_r, gU_k]
      exact h7
    · intro q q1 q2
      rw [gU_r (by omega), gU_r (by omega)]
    · intro q hq
      rw [gU_r (by omega), gU_r (by omega)]
  · have e1 : f_L_lose v1 A = some (1, A) := by
      simp [f_L_lose, f_X11_lose, eAt_no p5 ha, ob_s, oj, om_none, ol_l']
    have e2 : f_X12_lose v1 B = some (0, gU B 29 0 0 1) := by
      have hin : ¬ (0 ≤ v1 ∧ v1 ≤ wI (B 29 0 21 - 1)) := by rw [p6, wI_m (by omega)]; omega
      simp [f_X12_lose, oj, inn, hin, f_X12_asked]
    exact ⟨_, _, _, _, e1, e2, gU_s _ _ _ _ _, fun q => absurd q (by decide), Rel_thr _ (Rel_up h), fun q _ _ => rfl, fun q hq => gU_r (by omega)⟩
