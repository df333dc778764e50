/-! ## p29: the law's telling -/
theorem RA_n {A B : gM} {n c : Nat} (h : Rel c A B) (h7 : B 29 0 7 = (n : Int)) : RA n c A B := by
  obtain ⟨n', h1, h2, h3⟩ := h
  have e : n' = n := Int.ofNat_inj.mp (h2.2.2.1.symm.trans h7)
  subst e
  exact ⟨h1, h2, h3⟩
theorem P_input {v1 v2 v3 v4 v : Int} {M M' : gM} (h : f_X11_input v1 v2 v3 v4 M = some (Sum.inr (v, M'))) : f_P_input v1 v2 v3 v4 M = some (v, M') := by
  unfold f_P_input
  rw [h]
  rfl
theorem P_target {v1 v2 v3 v4 v5 v6 v : Int} {M M' : gM} (h : f_X11_target v1 v2 v3 v4 v5 v6 M = some (Sum.inr (v, M'))) : f_P_target v1 v2 v3 v4 v5 v6 M = some (v, M') := by
  unfold f_P_target
  rw [h]
  rfl
theorem in_P {A B : gM} {n c z : Nat} {v1 v2 v3 v4 : Int} (h : RA n c A B) (hv1 : nmI v1) (hv2 : nmI v2) (ho : okIn v1 v2 v3 v4) (hq : v1 < 16 + (n : Int) ∧ v2 < 16 + (n : Int)) (hz : z < 4) (h41 : B 41 0 14 = (z : Int)) : ∃ A1 B1, f_P_input v1 v2 v3 v4 A = some ((z : Int) + 1, A1) ∧ RA n (c + 1) A1 B1 ∧ But [29, 41, 42, 43, 44, 45] B1 B ∧ (∀ j, j ≠ 0 → B1 29 0 j = B 29 0 j) ∧ B1 41 0 14 = (z : Int) + 1 := by
  have e1 := inpB_ok h.2.1.2.2.1 h.2.1.1 hv1 hv2 ho hq hz h41
  have e3 : ∀ j, j ≠ 0 → (gU (gU (gU (gU (gU (gU B 29 0 0 0) 42 0 (56 + z) v1) 43 0 (56 + z) v2) 44 0 (56 + z) v3) 45 0 (56 + z) v4) 41 0 14 ((z : Int) + 1)) 29 0 j = B 29 0 j := fun j hj => by
    rw [gU_r (by decide), gU_r (by decide), gU_r (by decide), gU_r (by decide), gU_r (by decide), gU_k hj]
  obtain ⟨A1, a1, a2⟩ := op_of (S_input v3 v4 hv1 hv2) rfl b123_0 h e1 (by rw [gU_r (by decide), gU_r (by decide), gU_r (by decide), gU_r (by decide), gU_r (by decide), gU_s])
  exact ⟨A1, _, P_input a1, RA_of (c' := c) a2 h.2.1 (e3 7 (by decide)), But_u (But_u (But_u (But_u (But_u (But_u But_r rfl) rfl) rfl) rfl) rfl) rfl, e3, gU_s _ _ _ _ _⟩
theorem targB {B : gM} {n : Nat} {v1 v2 v3 v4 v5 v6 : Int} (hB : B 29 0 7 = (n : Int)) (ho : okT v1 v2 v3 v4 v5 v6) (hs : 0 < B 41 0 14 ∧ B 29 0 36 = 0 ∧ n < 14) : ∃ B', f_X12_target v1 v2 v3 v4 v5 v6 B = some ((n : Int), B') ∧ But [29, 35, 36, 37, 38, 39, 40, 41, 42, 43, 44, 45] B' B ∧ (∀ j, j ≠ 0 → j ≠ 7 → B' 29 0 j = B 29 0 j) ∧ B' 29 0 0 = 0 ∧ B' 29 0 7 = ((n + 1 : Nat) : Int) ∧ B' 41 0 14 = 0 ∧ (∀ t, B' 35 0 t = if t = n then v1 else B 35 0 t) ∧ ∀ t, B' 38 0 t = if t = n then v4 else B 38 0 t := by
  have s3 := hs.2.2
  obtain ⟨B1, m1, m2, m3, m4, m5⟩ := layB (B := gU (gU (gU (gU (gU (gU (gU B 29 0 0 0) 35 0 n v1) 36 0 n v2) 37 0 n v3) 38 0 n v4) 39 0 n v5) 40 0 n v6) (p := 14) (q := n) (by decide) (lt_15 s3) (ne_14 s3)
  have fB1 : But [29, 35, 36, 37, 38, 39, 40, 41, 42, 43, 44, 45] B1 B := But_t (But_u (But_u (But_u (But_u (But_u (But_u (But_u But_r rfl) rfl) rfl) rfl) rfl) rfl) rfl) (But_w m2 rfl)
  have b29' : ∀ j, j ≠ 0 → B1 29 0 j = B 29 0 j := fun j hj => by
    rw [But_q m2 rfl, gU_r (by decide), gU_r (by decide), gU_r (by decide), gU_r (by decide), gU_r (by decide), gU_r (by decide), gU_k hj]
  have b7 : B1 29 0 7 = (n : Int) := by rw [b29' 7 (by decide), hB]
  obtain ⟨w1, w2⟩ := wn12 s3
  refine ⟨gU (gU B1 41 0 14 0) 29 0 7 ((n : Int) + 1), ?_, But_u (But_u fB1 rfl) rfl, ?_, ?_, gU_s _ _ _ _ _, ?_, ?_, ?_⟩
  · rw [tgB hB ho hs]
    show ob (f_X12_lay ((14 : Nat) : Int) _ _) _ = _
    rw [m1, ob_s, b7, w1, gU_s, w2]
  · intro j j0 j7
    rw [gU_k j7, gU_r (by decide)]
    exact b29' j j0
  · rw [gU_k (by decide), gU_r (by decide), But_q m2 rfl, gU_r (by decide), gU_r (by decide), gU_r (by decide), gU_r (by decide), gU_r (by decide), gU_r (by decide), gU_s]
  · rw [gU_r (by decide), gU_s]
  · intro t
    rw [gU_r (by decide), gU_r (by decide), But_q m2 rfl, gU_r (by decide), gU_r (by decide), gU_r (by decide), gU_r (by decide), gU_r (by decide), gU_same, gU_r (by decide)]
    rfl
  · intro t
    rw [gU_r (by decide), gU_r (by decide), But_q m2 rfl, gU_r (by decide), gU_r (by decide), gU_same, gU_r (by decide), gU_r (by decide), gU_r (by decide), gU_r (by decide)]
    rfl
theorem tg_P {A B : gM} {n c : Nat} {v1 v2 v3 v4 v5 v6 : Int} (h : RA n c A B) (ho : okT v1 v2 v3 v4 v5 v6) (hs : 0 < B 41 0 14 ∧ B 29 0 36 = 0 ∧ n < 14) : ∃ A1 B1, f_P_target v1 v2 v3 v4 v5 v6 A = some ((n : Int), A1) ∧ RA (n + 1) (c + 1) A1 B1 ∧ But [29, 35, 36, 37, 38, 39, 40, 41, 42, 43, 44, 45] B1 B ∧ (∀ j, j ≠ 0 → j ≠ 7 → B1 29 0 j = B 29 0 j) ∧ B1 41 0 14 = 0 ∧ (∀ t, B1 35 0 t = if t = n then v1 else B 35 0 t) ∧ ∀ t, B1 38 0 t = if t = n then v4 else B 38 0 t := by
  obtain ⟨B1, e1, e2, e3, e4, e5, e6, e7, e8⟩ := targB h.2.1.2.2.1 ho hs
  obtain ⟨A1, a1, a2⟩ := op_of (S_target v1 v2 v3 v4 v5 v6) rfl b13_0 h e1 e4
  exact ⟨A1, B1, P_target a1, RA_n a2 e5, e2, e3, e6, e7, e8⟩
theorem sw_P {A B : gM} {n c : Nat} {x y : Int} (hx : x = 0 ∨ x = 1) (hy : y = 0 ∨ y = 1) (h : RA n c A B) : ∃ B1, RA n (c + 1) (f_X11_setWays x y A) B1 ∧ But [29] B1 B ∧ ∀ j, j ≠ 19 → j ≠ 20 → B1 29 0 j = B 29 0 j := by
  obtain ⟨h1, h2, h3, h4, h5, h6, h7⟩ := h
  have h6 := RB_up h6
  refine ⟨gU (gU B 29 0 19 x) 29 0 20 y, ?_, But_u (But_u But_r rfl) rfl, fun j j1 j2 => by rw [gU_k j2, gU_k j1]⟩
  unfold f_X11_setWays
  refine ⟨?_, ?_, ?_, ?_, ?_, ?_, ?_⟩
  · unfold RS at h1 ⊢
    simp (disch := decide) only [gU_r, gU_k]
    exact h1
  · unfold RT RI RD at h2 ⊢
    simp (disch := decide) only [gU_r, gU_k]
    exact h2
  · unfold RC RE at h3 ⊢
    simp (disch := decide) only [gU_r, gU_k]
    exact h3
  · obtain ⟨q1, q2, q3, q4, q5, q6⟩ := h4
    unfold RO
    simp (disch := decide) only [gU_r, gU_k, gU_s]
    exact ⟨trivial, trivial, hx, hy, q5, q6⟩
  · unfold RW aOK ndd at h5 ⊢
    simp (disch := decide) only [gU_r, gU_k]
    exact h5
  · unfold RB aOK ndd dgS at h6 ⊢
    simp (disch := decide) only [gU_r, gU_k]
    exact h6
  · unfold RG aOK ndd isI chB at h7 ⊢
    simp (disch := decide) only [gU_r, gU_k]
    exact h7
/-- what the law keeps -/
def IV (T : Nat) (A B : gM) (n c : Nat) : Prop := RA n c A B ∧ B 29 0 36 = 0 ∧ XE B ∧ (∀ t, t < n → B 38 0 t ≤ 2) ∧ T < 2 ^ n ∧ ∀ u, u < n → (T.testBit u = true ↔ B 35 0 u = 2)
theorem IV_fr {A B A' B' : gM} {T n c c' : Nat} (h : IV T A B n c) (h' : RA n c' A' B') (h36 : B' 29 0 36 = B 29 0 36) (h21 : B' 29 0 21 = B 29 0 21) (hq : ∀ q, q ∈ [35, 38, 46, 47, 48, 49, 50, 51, 52] → B' q = B q) : IV T A' B' n c' := by
  obtain ⟨-, i2, i3, i4, i5, i6⟩ := h
  refine ⟨h', h36.trans i2, XE_c i3 h21 (fun q m => hq q (by simp only [List.mem_cons, List.not_mem_nil, or_false] at m ⊢; omega)), ?_, i5, ?_⟩
  · rw [hq 38 (by decide)]; exact i4
  · rw [hq 35 (by decide)]; exact i6
