theorem cpC {A : gM} {n t : Nat} {v2 : Int} (hA : A 2 0 5 = (n : Int)) (ht : t < n) (hv : 0 ≤ v2 ∧ v2 < 10) (hg : A 4 0 8 = 0) (hn : n < 14) : f_X11_copy (t : Int) v2 A = ob (f_X6_become n t (f_X8_describe n (A 7 t 3) (A 7 t 4) v2 (A 7 t 6) (A 7 t 7) (A 7 t 8) (gU A 2 0 5 ((n : Int) + 1)))) fun r97 => some (Sum.inr ((r97 7 n 0, r97))) := by
  have t0 : gU A 2 0 5 ((n : Int) + 1) 7 = A 7 := gU_r (by decide)
  simp [f_X11_copy, oj, cTar hA, ht, isB, hv, cArg, cSta, ob_s, ox_r, hg, hA, show (n : Int) < 14 by omega, tellN hA hn, tAt hA (by omega) ht, t0]
theorem cpC_no {A : gM} {n t : Nat} {v2 : Int} (hA : A 2 0 5 = (n : Int)) (ht : t < n) (hv : 0 ≤ v2 ∧ v2 < 10) (hs : ¬ (A 4 0 8 = 0 ∧ n < 14)) : f_X11_copy (t : Int) v2 A = some (Sum.inl 3) := by
  by_cases hg : A 4 0 8 = 0
  · have hn : ¬ (n : Int) < 14 := fun q => hs ⟨hg, by omega⟩
    simp [f_X11_copy, oj, cTar hA, ht, isB, hv, cArg, cSta, ob_s, ox_r, ox_l, hg, hA, hn]
  · simp [f_X11_copy, oj, cTar hA, ht, isB, hv, cArg, cSta, ob_s, ox_r, ox_l, hg, hA]
theorem cpB {B : gM} {n t : Nat} {v2 : Int} (hB : B 29 0 7 = (n : Int)) (ht : t < n) (hv : 0 ≤ v2 ∧ v2 ≤ 9) (hg : B 29 0 36 = 0) (hn : n < 14) : f_X12_copy (t : Int) v2 B = ob (f_X12_lay (t : Int) (n : Int) (gU (gU (gU (gU (gU (gU (gU B 29 0 0 0) 35 0 n (B 35 0 t)) 36 0 n (B 36 0 t)) 37 0 n v2) 38 0 n (B 38 0 t)) 39 0 n (B 39 0 t)) 40 0 n (B 40 0 t))) fun r151 => some ((wI (((gU r151 29 0 7 (wI ((r151 29 0 7) + 1))) 29 0 7) - 1), gU r151 29 0 7 (wI ((r151 29 0 7) + 1)))) := by
  have n14 : (n : Int) < 14 := by omega
  have t14 : (t : Int) < 14 := by omega
  have hne : ¬ (n : Int) = 14 := by omega
  have g7 : gU B 29 0 0 0 29 0 7 = (n : Int) := by rw [gU_k (by decide), hB]
  have ga : (0 : Int) ≤ (n : Int) ∧ (n : Int) < 14 := by omega
  have gt : (0 : Int) ≤ (t : Int) ∧ (t : Int) < 14 := by omega
  unfold f_X12_copy
  dsimp only [oj]
  rw [isT hB (by omega), if_pos (show 0 ≤ (t : Int) ∧ (t : Int) < (n : Int) by omega), if_neg (show ¬ ((1 : Int) = 0) by decide), inn, if_pos hv, if_neg (show ¬ ((1 : Int) = 0) by decide), hg, if_pos rfl, hB, if_neg hne, gU_s, if_neg (show ¬ ((0 : Int) < 0) by decide)]
  simp (maxSteps := 10000000) (disch := decide) only [gU_r, g7, Int.toNat_natCast, og, if_pos ga, if_pos gt]
theorem S_copy {c : Nat} (v1 v2 : Int) : Sim (Rel c) (Rel (c + 1)) (f_L_copy v1 v2) (f_X12_copy v1 v2) := by
  intro A B h
  have h0 := h
  obtain ⟨n, h1, h2, h3, h4, h5, h6, h7⟩ := h0
  have h2' := h2
  obtain ⟨hn, hA, hB, hrow, t5, t6, t7⟩ := h2'
  have hgo : A 4 0 8 = B 29 0 36 := h6.2.1
  by_cases ht : 0 ≤ v1 ∧ v1 < (n : Int)
  · obtain ⟨t, rfl⟩ : ∃ t : Nat, v1 = (t : Int) := ⟨v1.toNat, by omega⟩
    have htn : t < n := by omega
    by_cases hv : 0 ≤ v2 ∧ v2 < 10
    · by_cases hs : B 29 0 36 = 0 ∧ n < 14
      · have hs' : A 4 0 8 = 0 := by rw [hgo]; exact hs.1
        obtain ⟨s2, s3⟩ := hs
        have x1 : t ≠ n := by omega
        have x2 : t < 15 := by omega
        have x3 : n < 15 := by omega
        have x4 : 15 ≠ n := by omega
        have x5 : 0 ≤ v2 ∧ v2 ≤ 9 := by omega
        have x6 : ∀ k, k < 4 → 4 * n + 4 ≤ 4 * 14 + k := fun k hk => by omega
        have x7 : 14 ≠ n := by omega
        have x8 : ∀ x : Int, x < 16 + (t : Int) → x < 16 + (n : Int) := fun x hx => by omega
        obtain ⟨⟨z, hz, r1, r2, r3⟩, hRD⟩ := t7 t htn
        have d8 : f_X8_describe n (A 7 t 3) (A 7 t 4) v2 (A 7 t 6) (A 7 t 7) (A 7 t 8) (gU A 2 0 5 ((n : Int) + 1)) 8 t 5 = (z : Int) := by
          unfold f_X8_describe
          simp (disch := decide) only [gU_r]
          exact r1
        obtain ⟨A1, e1, e2, e3, e4, e5⟩ := bec (A := f_X8_describe n (A 7 t 3) (A 7 t 4) v2 (A 7 t 6) (A 7 t 7) (A 7 t 8) (gU A 2 0 5 ((n : Int) + 1))) (i := n) (j := t) x1 hz d8
        obtain ⟨B1, m1, m2, m3, m4, m5⟩ := layB (B := gU (gU (gU (gU (gU (gU (gU B 29 0 0 0) 35 0 n (B 35 0 t)) 36 0 n (B 36 0 t)) 37 0 n v2) 38 0 n (B 38 0 t)) 39 0 n (B 39 0 t)) 40 0 n (B 40 0 t)) (p := t) (q := n) x2 x3 x1
        have fA1 : But [2, 7, 8, 17, 18, 19, 20] A1 A := by
          refine But_t ?_ (But_w e2 rfl)
          unfold f_X8_describe
          exact But_u (But_u (But_u (But_u (But_u (But_u (But_u But_r rfl) rfl) rfl) rfl) rfl) rfl) rfl
        have fB1 : But [29, 35, 36, 37, 38, 39, 40, 41, 42, 43, 44, 45] B1 B := But_t (But_u (But_u (But_u (But_u (But_u (But_u (But_u But_r rfl) rfl) rfl) rfl) rfl) rfl) rfl) (But_w m2 rfl)
        have a7 : ∀ x k, A1 7 x k = f_X8_describe n (A 7 t 3) (A 7 t 4) v2 (A 7 t 6) (A 7 t 7) (A 7 t 8) (gU A 2 0 5 ((n : Int) + 1)) 7 x k := fun x k => by rw [But_q e2 rfl]
        have d7 : ∀ x k, x ≠ n ∨ k = 0 ∨ 9 ≤ k → f_X8_describe n (A 7 t 3) (A 7 t 4) v2 (A 7 t 6) (A 7 t 7) (A 7 t 8) (gU A 2 0 5 ((n : Int) + 1)) 7 x k = A 7 x k := fun x k hk => by
          exact dsc_old hk
        have b29' : ∀ j, j ≠ 0 → B1 29 0 j = B 29 0 j := fun j hj => by
          rw [But_q m2 rfl, gU_r (by decide), gU_r (by decide), gU_r (by decide), gU_r (by decide), gU_r (by decide), gU_r (by decide), gU_k hj]
        have b7 : B1 29 0 7 = (n : Int) := by rw [b29' 7 (by decide), hB]
        obtain ⟨w1, w2⟩ := wn12 s3
        have f1 : f_L_copy (t : Int) v2 A = some (0, gU A1 75 0 0 (n : Int)) := by
          unfold f_L_copy
          rw [cpC hA htn hv hs' s3, e1]
          show some _ = some _
          rw [a7, d7 n 0 (Or.inr (Or.inl rfl)), t5 n s3]
        have f2 : f_X12_copy (t : Int) v2 B = some ((n : Int), gU B1 29 0 7 ((n : Int) + 1)) := by
          rw [cpB hB htn x5 s2 s3, m1, ob_s, b7, w1, gU_s, w2]
        have b35 : ∀ r, r ∈ [35, 36, 37, 38, 39, 40] → B1 r = gU (gU (gU (gU (gU (gU (gU B 29 0 0 0) 35 0 n (B 35 0 t)) 36 0 n (B 36 0 t)) 37 0 n v2) 38 0 n (B 38 0 t)) 39 0 n (B 39 0 t)) 40 0 n (B 40 0 t) r := But_l m2 rfl
        have i41 : ∀ M : gM, ∀ r, r ∈ [35, 36, 37, 38, 39, 40, 41, 42, 43, 44, 45] → ∀ w, gU M 29 0 7 w r = M r := fun M r hr w => gU_r (fun e => by rw [e] at hr; revert hr; decide)
        have j35 : ∀ x, B1 35 0 x = if x = n then B 35 0 t else B 35 0 x := fun x => by
          rw [b35 35 (by decide), gU_r (by decide), gU_r (by decide), gU_r (by decide), gU_r (by decide), gU_r (by decide), gU_same, gU_r (by decide)]; rfl
        have j36 : ∀ x, B1 36 0 x = if x = n then B 36 0 t else B 36 0 x := fun x => by
          rw [b35 36 (by decide), gU_r (by decide), gU_r (by decide), gU_r (by decide), gU_r (by decide), gU_same, gU_r (by decide), gU_r (by decide)]; rfl
        have j37 : ∀ x, B1 37 0 x = if x = n then v2 else B 37 0 x := fun x => by
          rw [b35 37 (by decide), gU_r (by decide), gU_r (by decide), gU_r (by decide), gU_same, gU_r (by decide), gU_r (by decide), gU_r (by decide)]; rfl
        have j38 : ∀ x, B1 38 0 x = if x = n then B 38 0 t else B 38 0 x := fun x => by
          rw [b35 38 (by decide), gU_r (by decide), gU_r (by decide), gU_same, gU_r (by decide), gU_r (by decide), gU_r (by decide), gU_r (by decide)]; rfl
        have j39 : ∀ x, B1 39 0 x = if x = n then B 39 0 t else B 39 0 x := fun x => by
          rw [b35 39 (by decide), gU_r (by decide), gU_same, gU_r (by decide), gU_r (by decide), gU_r (by decide), gU_r (by decide), gU_r (by decide)]; rfl
        have j40 : ∀ x, B1 40 0 x = if x = n then B 40 0 t else B 40 0 x := fun x => by
          rw [b35 40 (by decide), gU_same, gU_r (by decide), gU_r (by decide), gU_r (by decide), gU_r (by decide), gU_r (by decide), gU_r (by decide)]; rfl
        have k41 : ∀ r, r ∈ [41, 42, 43, 44, 45] → gU (gU (gU (gU (gU (gU (gU B 29 0 0 0) 35 0 n (B 35 0 t)) 36 0 n (B 36 0 t)) 37 0 n v2) 38 0 n (B 38 0 t)) 39 0 n (B 39 0 t)) 40 0 n (B 40 0 t) r = B r := But_l (L := [29, 35, 36, 37, 38, 39, 40]) (But_u (But_u (But_u (But_u (But_u (But_u (But_u But_r rfl) rfl) rfl) rfl) rfl) rfl) rfl) rfl
        have ad : ∀ r, r ∈ [8, 17, 18, 19, 20] → f_X8_describe n (A 7 t 3) (A 7 t 4) v2 (A 7 t 6) (A 7 t 7) (A 7 t 8) (gU A 2 0 5 ((n : Int) + 1)) r = A r := by
          unfold f_X8_describe
          exact But_l (L := [2, 7]) (But_u (But_u (But_u (But_u (But_u (But_u (But_u But_r rfl) rfl) rfl) rfl) rfl) rfl) rfl) rfl
        refine ⟨_, _, _, _, f1, f2, ?_, fun _ => gU_s _ _ _ _ _, Rel_out _ (Rel_up (Rel_tell s3 h1 h2 h3 h4 h5 h6 h7 s2 fA1 ?_ ?_ ?_ (But_u fB1 rfl) ?_ (gU_s _ _ _ _ _) ?_ ?_ ?_ ?_ ?_ ?_ ?_)), fun q q1 q2 => ?_, ?_⟩
        · rw [gU_k (by decide), But_q m2 rfl, gU_r (by decide), gU_r (by decide), gU_r (by decide), gU_r (by decide), gU_r (by decide), gU_r (by decide), gU_s]
        · rw [But_q e2 rfl]
          unfold f_X8_describe
          rw [gU_r (by decide), gU_r (by decide), gU_r (by decide), gU_r (by decide), gU_r (by decide), gU_r (by decide), gU_s]
        · intro x k hk
          rw [a7, d7 x k hk]
        · intro q hq i i1 i2
          rw [e3 q hq i i1, ad q hq]
        · intro j j0 j7
          rw [gU_k j7]
          exact b29' j j0
        · intro r hr x hx
          rw [i41 B1 r (by revert hr; revert r; decide)]
          simp only [List.mem_cons, List.not_mem_nil, or_false] at hr
          rcases hr with rfl | rfl | rfl | rfl | rfl | rfl
          · rw [j35, if_neg hx]
          · rw [j36, if_neg hx]
          · rw [j37, if_neg hx]
          · rw [j38, if_neg hx]
          · rw [j39, if_neg hx]
          · rw [j40, if_neg hx]
        · intro x hx h14
          rw [i41 B1 41 (by decide), m3 x hx, k41 41 (by decide)]
        · intro r hr j hj
          rw [i41 B1 r (by revert hr; revert r; decide), (m5 r hr).1 j (Or.inl hj), k41 r (List.mem_cons_of_mem _ hr)]
        · rw [a7, a7, a7, a7, a7, a7, i41 B1 35 (by decide), i41 B1 36 (by decide), i41 B1 37 (by decide), i41 B1 38 (by decide), i41 B1 39 (by decide), i41 B1 40 (by decide), j35, j36, j37, j38, j39, j40]
          simp only [if_true]
          obtain ⟨x1, x2, x3, x4, x5, x6⟩ := t6 t
          rw [← x1, ← x2, ← x4, ← x5, ← x6]
          exact dsc_new
        · unfold RD
          rw [i41 B1 35 (by decide), i41 B1 36 (by decide), i41 B1 37 (by decide), i41 B1 38 (by decide), i41 B1 39 (by decide), i41 B1 40 (by decide), j35, j36, j37, j38, j39, j40]
          simp only [if_true]
          obtain ⟨o1, o2, o3, o4, o6, o7, o8⟩ := hRD
          exact ⟨o1, o2, x5, o4, o6, o7, o8⟩
        · refine ⟨z, hz, e4, ?_, fun k hk => ?_⟩
          · rw [i41 B1 41 (by decide), m4, k41 41 (by decide), r2]
          · rw [e5 17 (by decide) k hk, e5 18 (by decide) k hk, e5 19 (by decide) k hk, e5 20 (by decide) k hk, ad 17 (by decide), ad 18 (by decide), ad 19 (by decide), ad 20 (by decide), i41 B1 42 (by decide), i41 B1 43 (by decide), i41 B1 44 (by decide), i41 B1 45 (by decide), (m5 42 (by decide)).2 k (Nat.lt_of_lt_of_le hk hz), (m5 43 (by decide)).2 k (Nat.lt_of_lt_of_le hk hz), (m5 44 (by decide)).2 k (Nat.lt_of_lt_of_le hk hz), (m5 45 (by decide)).2 k (Nat.lt_of_lt_of_le hk hz), k41 42 (by decide), k41 43 (by decide), k41 44 (by decide), k41 45 (by decide)]
            obtain ⟨y1, y2, y3, y4, y5, y6, y7⟩ := r3 k hk
            exact ⟨y1, y2, y3, y4, ⟨y5.1, x8 _ y5.2⟩, ⟨y6.1, x8 _ y6.2⟩, y7⟩
        · refine RI_up (RI_c hrow (by rw [e3 8 (by decide) 15 x4, ad 8 (by decide)]) (fun q hq => by rw [e3 q (List.mem_cons_of_mem _ hq) 15 x4, ad q (List.mem_cons_of_mem _ hq)]) ?_ (fun r hr k hk => ?_)) (Nat.le_succ n)
          · rw [i41 B1 41 (by decide), m3 14 x7, k41 41 (by decide)]
          · rw [i41 B1 r (by revert hr; revert r; decide), (m5 r hr).1 _ (Or.inr (x6 k hk)), k41 r (List.mem_cons_of_mem _ hr)]
        · rw [gU_r q2]
          exact But_c fA1 rfl q q1 q2
        · exact But_m (But_u fB1 rfl) rfl
      · have hs' : ¬ (A 4 0 8 = 0 ∧ n < 14) := by rw [hgo]; exact hs
        have e1 : f_L_copy (t : Int) v2 A = some (3, A) := by
          unfold f_L_copy
          rw [cpC_no hA htn hv hs']
          rfl
        have e2 : f_X12_copy (t : Int) v2 B = some (0, gU B 29 0 0 3) := by
          by_cases hg : B 29 0 36 = 0
          · have h14 : (n : Int) = 14 := by
              rcases Nat.lt_or_ge n 14 with q | q
              · exact absurd ⟨hg, q⟩ hs
              · omega
            unfold f_X12_copy
            dsimp only [oj]
            rw [isT hB hn, if_pos ht, if_neg (show ¬ ((1 : Int) = 0) by decide), inn, if_pos (show 0 ≤ v2 ∧ v2 ≤ 9 by omega), if_neg (show ¬ ((1 : Int) = 0) by decide), hg, if_pos rfl, hB, if_pos h14, gU_s, if_pos (show (0 : Int) < 3 by decide)]
          · simp [f_X12_copy, oj, isT hB hn, htn, inn, hv.1, show v2 ≤ 9 by omega, hg, gU_s]
        exact ⟨_, _, _, _, e1, e2, gU_s _ _ _ _ _, fun q => absurd q (by decide), Rel_thr _ (Rel_up h), fun q _ _ => rfl, fun q hq => gU_r (by omega)⟩
    · have e1 : f_L_copy (t : Int) v2 A = some (2, A) := by
        simp [f_L_copy, f_X11_copy, oj, cTar hA, htn, isB, hv, cArg, ob_s, ox_r, ox_l, ol_l']
      have e2 : f_X12_copy (t : Int) v2 B = some (0, gU B 29 0 0 2) := by
        have hv' : ¬ (0 ≤ v2 ∧ v2 ≤ 9) := by omega
        simp [f_X12_copy, oj, isT hB hn, htn, inn, hv', gU_s]
      exact ⟨_, _, _, _, e1, e2, gU_s _ _ _ _ _, fun q => absurd q (by decide), Rel_thr _ (Rel_up h), fun q _ _ => rfl, fun q hq => gU_r (by omega)⟩
  · have e1 : f_L_copy v1 v2 A = some (1, A) := by
      simp [f_L_copy, f_X11_copy, oj, cTar hA, ht, ob_s, ox_l, ol_l']
    have e2 : f_X12_copy v1 v2 B = some (0, gU B 29 0 0 1) := by
      simp [f_X12_copy, oj, isT hB hn, ht, gU_s]
    exact ⟨_, _, _, _, e1, e2, gU_s _ _ _ _ _, fun q => absurd q (by decide), Rel_thr _ (Rel_up h), fun q _ _ => rfl, fun q hq => gU_r (by omega)⟩
