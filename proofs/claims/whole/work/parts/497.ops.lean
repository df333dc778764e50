theorem ring_ne {f e v : Nat} (hf : f < 40) (he : e < 40) (hv : v < 40) (h : e ≠ v) : (f + e) % 40 ≠ (f + v) % 40 := by omega
/-- a call without an answer -/
def SimV (R R2 : gM → gM → Prop) (fL : gM → Option (Int × gM)) (fM : gM → Option gM) : Prop := ∀ A B, R A B → ∃ r A' B', fL A = some (r, A') ∧ fM B = some B' ∧ B' 29 0 0 = r ∧ R2 A' B' ∧ (∀ q, 29 ≤ q → q ≠ 75 → A' q = A q) ∧ ∀ q, q < 29 ∨ q = 75 → B' q = B q
theorem SimV_law {R R2 : gM → gM → Prop} {fL : gM → Option (Int × gM)} {fM : gM → Option gM} (h : SimV R R2 fL fM) (h1 : Two R) (h2 : Two R2) {M : gM} (hI : R M M) : ∃ r M1 M2, fL M = some (r, M1) ∧ fM M1 = some M2 ∧ M2 29 0 0 = r ∧ R2 M2 M2 := by
  obtain ⟨r, M1, B0, a1, -, -, -, a2, -⟩ := h M M hI
  obtain ⟨r3, M3, M2, b1, b2, b3, b5, -, b6⟩ := h M M1 (h1 M M M M1 (fun q _ => rfl) a2 hI)
  rw [a1] at b1
  cases b1
  exact ⟨r, M1, M2, a1, b2, b3, h2 M1 M2 M2 M2 (fun q hq => b6 q (Or.inl hq)) (fun q _ _ => rfl) b5⟩
theorem S_lie {c : Nat} (v1 v2 : Int) : SimV (Rel c) (Rel (c + 1)) (f_L_lie v1 v2) (f_X12_lie v1 v2) := by
  intro A B h
  have h0 := h
  obtain ⟨n, h1, h2, ⟨z, f, p1, p2, p3, p4, p5, p6, p7⟩, h4, h5, h6, h7⟩ := h0
  by_cases ha : 0 ≤ v1 ∧ v1 < (z : Int)
  · obtain ⟨v, rfl⟩ : ∃ v : Nat, v1 = (v : Int) := ⟨v1.toNat, by omega⟩
    have hv : v < z := by omega
    have hat := eAt p4 p5 p2 p1 hv
    by_cases hb : 0 ≤ v2 ∧ v2 ≤ 100002
    · have e1 : f_L_lie (v : Int) v2 A = some (0, gU A 10 ((f + v) % 40) 3 v2) := by
        simp [f_L_lie, f_X11_lie, hat, ob_s, oj, om_some, isB, hb.1, show v2 < 100003 by omega, ol_r']
      have e2 : f_X12_lie (v : Int) v2 B = some (gU (gU B 29 0 0 0) 49 0 v v2) := by
        have hin : (v : Int) ≤ wI (B 29 0 21 - 1) := by rw [p6, wI_m (by omega)]; omega
        simp [f_X12_lie, oj, inn, hin, hb, f_X12_asked, og, show (v : Int) < 40 by omega]
      refine ⟨_, _, _, e1, e2, ?_, Rel_up ⟨n, ?_, ?_, ?_, ?_, ?_, ?_, ?_⟩, ?_, ?_⟩
      · simp (disch := decide) only [gU_r, gU_s]
      · unfold RS at h1 ⊢
        simp (disch := decide) only [gU_r, gU_k]
        exact h1
      · unfold RT RI RD at h2 ⊢
        simp (disch := decide) only [gU_r, gU_k]
        exact h2
      · refine ⟨z, f, p1, p2, p3, ?_, ?_, ?_, fun e he => ?_⟩
        · simp (disch := decide) only [gU_r]; exact p4
        · simp (disch := decide) only [gU_r]; exact p5
        · simp (disch := decide) only [gU_r, gU_k]; exact p6
        · have q := p7 e he
          unfold RE at q ⊢
          by_cases hev : e = v
          · subst hev
            simp (disch := decide) only [gU_r, gU_k, gU_s]
            obtain ⟨q1, q2, q3, q4, q5, q6, q7, q8, q9, q10⟩ := q
            exact ⟨q1, q2, q3, trivial, q5, q6, q7, q8, hb, q10⟩
          · have hne := ring_ne p2 (show e < 40 by omega) (show v < 40 by omega) hev
            simp (disch := decide) only [gU_r, gU_i hne, gU_k hev]
            exact q
      · unfold RO at h4 ⊢
        simp (disch := decide) only [gU_r, gU_k]
        exact h4
      · unfold RW aOK ndd at h5 ⊢
        simp (disch := decide) only [gU_r, gU_k]
        exact h5
      · unfold RB aOK ndd dgS at h6 ⊢
        simp (disch := decide) only [gU_r, gU_k]
        exact h6
      · unfold RG aOK ndd isI chB at h7 ⊢
        simp (disch := decide) only [gU_r, gU_k]
        exact h7
      · intro q q1 q2
        rw [gU_r (by omega)]
      · intro q hq
        rw [gU_r (by omega), gU_r (by omega)]
    · have e1 : f_L_lie (v : Int) v2 A = some (1, A) := by
        have hb' : ¬ (0 ≤ v2 ∧ v2 < 100003) := fun q => hb ⟨q.1, by omega⟩
        simp [f_L_lie, f_X11_lie, hat, ob_s, oj, om_some, isB, hb', ol_l']
      have e2 : f_X12_lie (v : Int) v2 B = some (gU B 29 0 0 1) := by
        have hin : (v : Int) ≤ wI (B 29 0 21 - 1) := by rw [p6, wI_m (by omega)]; omega
        simp [f_X12_lie, oj, inn, hin, hb, f_X12_asked]
      exact ⟨_, _, _, e1, e2, gU_s _ _ _ _ _, Rel_thr _ (Rel_up h), fun q _ _ => rfl, fun q hq => gU_r (by omega)⟩
  · have e1 : f_L_lie v1 v2 A = some (1, A) := by
      simp [f_L_lie, f_X11_lie, eAt_no p5 ha, ob_s, oj, om_none, ol_l']
    have e2 : f_X12_lie v1 v2 B = some (gU B 29 0 0 1) := by
      have hin : ¬ (0 ≤ v1 ∧ v1 ≤ wI (B 29 0 21 - 1)) := by rw [p6, wI_m (by omega)]; omega
      simp [f_X12_lie, oj, inn, hin, f_X12_asked]
    exact ⟨_, _, _, e1, e2, gU_s _ _ _ _ _, Rel_thr _ (Rel_up h), fun q _ _ => rfl, fun q hq => gU_r (by omega)⟩
