theorem S_result {c : Nat} (v1 v2 : Int) : Sim (Rel c) (Rel (c + 1)) (f_L_result v1 v2) (f_X12_result v1 v2) := by
  intro A B h
  have h0 := h
  obtain ⟨n, h1, ⟨hn, hA, hB, -, -, hd, hr⟩, h3, h4, h5, h6, h7⟩ := h0
  have hac := h6.2.2.2.2.2.2.2.1
  by_cases ht : 0 ≤ v1 ∧ v1 < (n : Int)
  · obtain ⟨t, rfl⟩ : ∃ t : Nat, v1 = (t : Int) := ⟨v1.toNat, by omega⟩
    have htn : t < n := by omega
    have hD := (hr t htn).2.2.2.2.1
    have h38 : A 7 t 6 = B 38 0 t := (hd t).2.2.2.1
    have hw : wI (B 38 0 t - 1) = B 38 0 t - 1 := wI_eq ⟨by omega, by omega⟩
    by_cases hs : 0 ≤ v2 ∧ v2 < B 38 0 t
    · obtain ⟨s, rfl⟩ : ∃ s : Nat, v2 = (s : Int) := ⟨v2.toNat, by omega⟩
      have hs4 : s < 4 := by omega
      obtain ⟨-, -, g1, g2⟩ := hac t s (by omega) hs4
      have e1 : f_L_result (t : Int) (s : Int) A = some (0, gU A 75 0 0 (if A 9 (4 * t + s) 2 = 3 then A 9 (4 * t + s) 3 else -1)) := by
        by_cases h3 : A 9 (4 * t + s) 2 = 3
        · simp [f_L_result, f_X11_result, f_X11_checkedAction, cTar hA, htn, ob_s, ox_r, tAt hA hn htn, isB, h38, hs.2, cArg, aAt hs4, ol_r', h3]
        · simp [f_L_result, f_X11_result, f_X11_checkedAction, cTar hA, htn, ob_s, ox_r, tAt hA hn htn, isB, h38, hs.2, cArg, aAt hs4, ol_r', h3]
      have e2 : f_X12_result (t : Int) (s : Int) B = some (if A 9 (4 * t + s) 2 = 3 then A 9 (4 * t + s) 3 else -1, gU B 29 0 0 0) := by
        have hle : (s : Int) ≤ B 38 0 t - 1 := by omega
        have hr9 : gU B 29 0 0 0 60 = B 60 := gU_r (by decide)
        have hr8 : gU B 29 0 0 0 61 = B 61 := gU_r (by decide)
        have h61 : A 9 (4 * t + s) 3 = B 61 0 (4 * t + s) := (h6.2.2.2.2.2.2.1 (4 * t + s)).1
        have h56 : (4 * (t : Int) + (s : Int)) < 56 := by omega
        have hz : (0 : Int) ≤ 4 * (t : Int) + (s : Int) := by omega
        have hnat : (4 * (t : Int) + (s : Int)).toNat = 4 * t + s := by omega
        by_cases hnd : ndd B t
        · have hnd2 : gAnd (gShr (gU B 29 0 0 0 29 0 37) (t : Int)) 1 = 1 := hnd
          rw [(g1 ⟨⟨htn, hs.2⟩, hnd⟩).1, h61]
          by_cases h3 : B 60 0 (4 * t + s) = 3
          · simp [f_X12_result, oj, isT hB hn, htn, og, show (t : Int) < 14 by omega, inn, hw, hle, f_X12_asked_, gU_s, isN, hnd2, w4 (show t < 100 by omega) (show s < 100 by omega), h56, hr9, hr8, h3, hz, hnat]
          · simp [f_X12_result, oj, isT hB hn, htn, og, show (t : Int) < 14 by omega, inn, hw, hle, f_X12_asked_, gU_s, isN, hnd2, w4 (show t < 100 by omega) (show s < 100 by omega), h56, hr9, hr8, h3, hz, hnat]
        · have hnd2 : ¬ gAnd (gShr (gU B 29 0 0 0 29 0 37) (t : Int)) 1 = 1 := hnd
          rw [g2 (fun q => hnd q.2)]
          simp [f_X12_result, oj, isT hB hn, htn, og, show (t : Int) < 14 by omega, inn, hw, hle, f_X12_asked_, gU_s, isN, hnd2]
      exact ⟨_, _, _, _, e1, e2, gU_s _ _ _ _ _, fun _ => gU_s _ _ _ _ _, Rel_out _ (Rel_thr _ (Rel_up h)), fun q q1 q2 => gU_r (by omega), fun q hq => gU_r (by omega)⟩
    · have e1 : f_L_result (t : Int) v2 A = some (2, A) := by
        simp [f_L_result, f_X11_result, f_X11_checkedAction, cTar hA, htn, ob_s, ox_r, ox_l, tAt hA hn htn, isB, h38, hs, cArg, ol_l']
      have e2 : f_X12_result (t : Int) v2 B = some (0, gU B 29 0 0 2) := by
        have hle : ¬ (0 ≤ v2 ∧ v2 ≤ B 38 0 t - 1) := fun q => hs ⟨q.1, by omega⟩
        simp [f_X12_result, oj, isT hB hn, htn, og, show (t : Int) < 14 by omega, inn, hw, hle, f_X12_asked_, gU_s]
      exact ⟨_, _, _, _, e1, e2, gU_s _ _ _ _ _, fun q => absurd q (by decide), Rel_thr _ (Rel_up h), fun q _ _ => rfl, fun q hq => gU_r (by omega)⟩
  · have e1 : f_L_result v1 v2 A = some (1, A) := by
      simp [f_L_result, f_X11_result, f_X11_checkedAction, cTar hA, ht, ob_s, ox_l, ol_l']
    have e2 : f_X12_result v1 v2 B = some (0, gU B 29 0 0 1) := by
      simp [f_X12_result, oj, isT hB hn, ht, f_X12_asked_, gU_s]
    exact ⟨_, _, _, _, e1, e2, gU_s _ _ _ _ _, fun q => absurd q (by decide), Rel_thr _ (Rel_up h), fun q _ _ => rfl, fun q hq => gU_r (by omega)⟩
