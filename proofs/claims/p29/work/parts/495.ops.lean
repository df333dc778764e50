theorem S_setWays {c : Nat} {M : gM} (x y x2 y2 : Int) (hx : x = x2 ∧ (x2 = 0 ∨ x2 = 1)) (hy : y = y2 ∧ (y2 = 0 ∨ y2 = 1)) (h : Rel c M M) : Rel (c + 1) (f_X12_setWays x2 y2 (f_X11_setWays x y M)) (f_X12_setWays x2 y2 (f_X11_setWays x y M)) := by
  obtain ⟨n, h1, h2, h3, h4, h5, h6, h7⟩ := Rel_up h
  unfold f_X12_setWays f_X11_setWays
  refine ⟨n, ?_, ?_, ?_, ?_, ?_, ?_, ?_⟩
  · unfold RS at h1 ⊢
    simp (disch := decide) only [gU_r, gU_k]
    exact h1
  · unfold RT RI RD at h2 ⊢
    simp (disch := decide) only [gU_r, gU_k]
    exact h2
  · unfold RC RE at h3 ⊢
    simp (disch := decide) only [gU_r, gU_k]
    exact h3
  · obtain ⟨q1, q2, q3, q4, q5, q6⟩ := h4
    unfold RO
    simp (disch := decide) only [gU_r, gU_k, gU_s]
    exact ⟨hx.1, hy.1, hx.2, hy.2, q5, q6⟩
  · unfold RW aOK ndd at h5 ⊢
    simp (disch := decide) only [gU_r, gU_k]
    exact h5
  · unfold RB aOK ndd dgS at h6 ⊢
    simp (disch := decide) only [gU_r, gU_k]
    exact h6
  · unfold RG aOK ndd isI chB at h7 ⊢
    simp (disch := decide) only [gU_r, gU_k]
    exact h7
