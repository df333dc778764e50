/-! ### the judgement, both -/
theorem judgeCM {A1 B2 B : gM} {n c w t s : Nat} {K : Int} (hJ : EJ A1 B2 n c t s) (hw : w < 4) (e54 : B 54 0 w = ((4 * t + s : Nat) : Int)) (hg : B2 29 0 36 = 1) (hc : c ≤ 600) (hx : 1 ≤ B2 56 0 w ∧ B2 56 0 w ≤ 50) (hk : 0 ≤ K ∧ K ≤ 100002) (hsm : same B2 t w K) (hR : 0 ≤ res B2 (B2 30 0) t K ∧ res B2 (B2 30 0) t K ≤ 100002) : ∃ A' B' : gM, f_X2_judge t (4 * t + s) w A1 = some A' ∧ JM (w : Int) B (fnd B2 t K) B2 = some B' ∧ SJ 0 A' B' n c ∧ But [29, 46, 47, 48, 49, 50, 51, 52, 60, 61, 62, 63, 64, 66, 67, 68] B' B2 ∧ (∀ j, j ≠ 21 → j ≠ 43 → B' 29 0 j = B2 29 0 j) ∧ But [3, 7, 9, 10, 23, 24] A' A1 := by
  obtain ⟨h1, h2, h3, h4, ⟨⟨i1, i1b⟩, -⟩, h6, g1', g2, -, hs, hao, hnd, h60, -⟩ := id hJ
  have ht := hao.1
  have ht14 : t < 14 := Nat.lt_of_lt_of_le ht h2.1
  have e4 : A1 11 w 4 = B2 57 0 w := (i1 w).2.2.2.1
  have e5 : A1 11 w 5 = B2 58 0 w := (i1 w).2.2.2.2.1
  have mk : f_X10_resultMade w A1 = res B2 (B2 30 0) t K := by
    unfold f_X10_resultMade
    rw [e4, e5, hsm.1, hsm.2, ← h1.2.1, ← cntC (i := 0) h2 hk]
    exact resC h2 hk (fun k _ => by rw [h1.2.1]; exact h1.2.2.2.2.2.2.1 k)
  have jm := JM_flz (c := c) h2 ht hs hw e54 hk hsm
  obtain ⟨jc0, jc1⟩ := judgeC (a := 4 * t + s) mk (flzC (a := 4 * t + s) h2 h6 ht hc hR)
  have z01 : flz B2 t (4 * t + s) (res B2 (B2 30 0) t K) = 0 ∨ flz B2 t (4 * t + s) (res B2 (B2 30 0) t K) = 1 := by
    unfold flz
    by_cases q : B2 35 0 t = 2
    · rw [if_pos q]
      by_cases y : gRem (res B2 (B2 30 0) t K) 4 = 0
      · rw [if_pos y]; exact Or.inr rfl
      · rw [if_neg y]
        by_cases z : gRem (wI (wI (3 * B2 65 0 (4 * t + s)) + res B2 (B2 30 0) t K)) 5 < B2 40 0 t
        · rw [if_pos z]; exact Or.inr rfl
        · rw [if_neg z]; exact Or.inl rfl
    · rw [if_neg q]; exact Or.inl rfl
  rcases z01 with z | z
  · rw [z] at jm
    rw [jc0 z, jm, FM_0]
    obtain ⟨A', B', x1, x2, x3, x4, x5, x6⟩ := doneCM (B := B) hJ hw e54 hg hR hx hsm.1 hk rfl
    exact ⟨A', B', x1, x2, x3, But_w x4 rfl, x5, x6⟩
  · rw [z] at jm
    rw [jc1 (by rw [z]; exact ne10), jm, FM_1 ht14 hs e54]
    have hF := EJ_fail hJ
    have y4 : A1 9 (4 * t + s) 7 = B2 63 0 (4 * t + s) := (h6.2.2.2.2.2.2.1 (4 * t + s)).2.2.2.1
    have r3 : A1 7 t 11 = B2 66 0 t := (h6.2.2.2.2.2.2.2.2.1 t ht14).2.2.1
    have f97 : failA A1 (4 * t + s) 9 (4 * t + s) 7 = failB B2 (4 * t + s) 63 0 (4 * t + s) := by
      unfold failA failB
      rw [gU_s, gU_s, y4]
    have f711 : failA A1 (4 * t + s) 7 t 11 = B2 66 0 t := by rw [But_q failA_o rfl, r3]
    have fb29 : failB B2 (4 * t + s) 29 = B2 29 := But_q failB_o rfl
    rw [f97, f711]
    by_cases q : failB B2 (4 * t + s) 63 0 (4 * t + s) < 3
    · rw [if_pos q, if_pos q]
      exact ⟨_, _, rfl, rfl, EJ_set hF (by decide) (by decide) (by decide), But_u (But_w failB_o rfl) rfl, fun j _ _ => by rw [gU_r (by decide), fb29], But_u (But_w failA_o rfl) rfl⟩
    · rw [if_neg q, if_neg q]
      by_cases y : B2 66 0 t < 2
      · rw [if_pos y, if_neg (show ¬ 1 < B2 66 0 t by omega), if_pos rfl]
        exact ⟨_, _, rfl, rfl, EJ_set hF (by decide) (by decide) (by decide), But_u (But_w failB_o rfl) rfl, fun j _ _ => by rw [gU_r (by decide), fb29], But_u (But_w failA_o rfl) rfl⟩
      · rw [if_neg y, if_pos (show 1 < B2 66 0 t by omega), if_neg ne10]
        obtain ⟨A', B', x1, x2, x3, x4, x5, x6⟩ := doneCM (B := B) (r67 := fnd B2 t K) hF hw e54 (by rw [fb29]; exact hg) hR (by rw [But_q failB_o rfl]; exact hx) (by rw [But_q failB_o rfl]; exact hsm.1) hk (by unfold fnd; rw [But_q failB_o rfl])
        exact ⟨A', B', x1, x2, x3, But_t (But_w failB_o rfl) (But_w x4 rfl), fun j j1 j2 => by rw [x5 j j1 j2, fb29], But_t (But_w failA_o rfl) x6⟩
