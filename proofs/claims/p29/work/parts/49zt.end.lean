/-! ### the end of an action at a worker, both -/
theorem endCM {A B : gM} {n c w t s : Nat} (h : SJ 0 A B n c) (hw : w < 4) (hat : atA 0 B n w t s) (hg : B 29 0 36 = 1) (hc : c ≤ 600) : ∃ A' B' : gM, f_X2_end w A = some A' ∧ f_X12_ends (w : Int) B = some B' ∧ SJ 0 A' B' n c ∧ B' 55 = B 55 ∧ (∀ x, B' 54 0 x = if x < 4 ∧ B 54 0 x = ((4 * t + s : Nat) : Int) then -1 else B 54 0 x) ∧ B' 29 0 36 = 1 ∧ B' 29 0 48 = B 29 0 48 ∧ B' 65 = B 65 ∧ But [3, 7, 9, 10, 11, 23, 24] A' A ∧ But [29, 46, 47, 48, 49, 50, 51, 52, 54, 59, 60, 61, 62, 63, 64, 66, 67, 68] B' B ∧ B' 29 0 0 = B 29 0 0 := by
  have hat0 := hat
  obtain ⟨e54, hs, hao, hnd, h60, l1, l2, p1, p2, p3, p4, p5, p6, p7, p8⟩ := hat
  obtain ⟨h1, h2, h3, h4, ⟨i12, i3, i4⟩, h6, -⟩ := id h
  have ht := hao.1
  have ht14 : t < 14 := Nat.lt_of_lt_of_le ht h2.1
  obtain ⟨B2, mE, fB, b54, b59⟩ := freeM i4 hw ht14 hat0
  obtain ⟨A', d1, d2, d7, fA, a11⟩ := freeC (t := t) i12 hw e54 (h2.2.2.2.2.2.1 t).2.1
  have hJ := EJ_free h hw hat0 fA a11 fB b54 b59
  have gA : gAct (A 11 w 3) = some (4 * t + s) := (gAct_iff _ _).mpr ((i12.1 w).2.2.1.trans e54)
  have e90 : A 9 (4 * t + s) 0 = (t : Int) := (h6.2.2.2.2.2.2.2.1 t s ht14 hs).1
  have q29 : B2 29 = B 29 := But_q fB rfl
  have q56 : B2 56 = B 56 := But_q fB rfl
  have q55 : B2 55 = B 55 := But_q fB rfl
  have q65 : B2 65 = B 65 := But_q fB rfl
  have hk := key_in hJ.1 hJ.2.1 hJ.2.2.2.2.2.1 ht hs
  have hR := res_in (B := B2) (C := B2 30 0) (t := t) hk (fun k _ => hJ.1.2.2.2.2.2.2.1 k)
  obtain ⟨c1, c0⟩ := endC hJ gA e90 h2.2.1 d1 rfl rfl
  obtain ⟨m1, m0⟩ := endM hJ hw e54 rfl (by rw [show B2 39 = B 39 from But_q fB rfl, show B2 58 = B 58 from But_q fB rfl]; exact p8)
  rw [mE]
  by_cases hsm : same B2 t w (keyS B2 (B2 30 0) (dgS B2) t s)
  · rw [c1 hsm, m1 hsm]
    by_cases hb : brk B2 t (keyS B2 (B2 30 0) (dgS B2) t s) = 0
    · rw [if_pos hb, if_pos hb]
      obtain ⟨A3, B3, x1, x2, x3, x4, x5, x6⟩ := judgeCM (B := B) hJ hw e54 (by rw [q29]; exact hg) hc (by rw [q56]; exact ⟨p1, p2⟩) hk hsm hR
      exact ⟨A3, B3, x1, x2, x3, by rw [But_q x4 rfl, q55], fun x => by rw [But_q x4 rfl, b54], by rw [x5 36 (by decide) (by decide), q29]; exact hg, by rw [x5 48 (by decide) (by decide), q29], by rw [But_q x4 rfl, q65], But_t (But_w fA rfl) (But_w x6 rfl), But_t (But_w fB rfl) (But_w x4 rfl), by rw [x5 0 (by decide) (by decide), q29]⟩
    · rw [if_neg hb, if_neg hb]
      exact ⟨_, _, rfl, rfl, EJ_set hJ (by decide) (by decide) (by decide), by rw [gU_r (by decide), q55], fun x => by rw [gU_r (by decide), b54], by rw [gU_r (by decide), q29]; exact hg, by rw [gU_r (by decide), q29], by rw [gU_r (by decide), q65], But_u (But_w fA rfl) rfl, But_u (But_w fB rfl) rfl, by rw [gU_r (by decide), q29]⟩
  · rw [c0 hsm, m0 hsm]
    exact ⟨_, _, rfl, rfl, EJ_open (EJ_ta hJ), by rw [gU_r (by decide), gU_r (by decide), But_q taB_o rfl, q55], fun x => by rw [gU_r (by decide), gU_r (by decide), But_q taB_o rfl, b54], by rw [gU_r (by decide), gU_r (by decide), But_q taB_o rfl, q29]; exact hg, by rw [gU_r (by decide), gU_r (by decide), But_q taB_o rfl, q29], by rw [gU_r (by decide), gU_r (by decide), But_q taB_o rfl, q65], But_u (But_u (But_t (But_w fA rfl) (But_w taA_o rfl)) rfl) rfl, But_u (But_u (But_t (But_w fB rfl) (But_w taB_o rfl)) rfl) rfl, by rw [gU_r (by decide), gU_r (by decide), But_q taB_o rfl, q29]⟩
