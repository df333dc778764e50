/-! ### write -/
def sft (m : Nat → Int) : Nat → Int := fun j => if j < 29 then m (j + 1) else m j
/-- a row of changes with one more behind, z there before -/
def wrt (z : Nat) (m : Nat → Int) (v : Int) : Nat → Int := if z = 30 then g1 (sft m) 29 v else g1 m z v
theorem sftc {A : gM} (h5 : A 1 0 5 = ((30 : Nat) : Int)) : ∃ A', f_X7_forgetFirstChange A = some A' ∧ But [1, 15, 16] A' A ∧ A' 1 0 5 = 29 ∧ A' 15 0 = sft (A 15 0) ∧ A' 16 0 = sft (A 16 0) := by
  unfold f_X7_forgetFirstChange
  refine lp (F := fun n M i => f_X7_forgetFirstChange_L2 (fun (M_2_52 : gM) => some (gU M_2_52 1 0 5 (wI ((M_2_52 1 0 5) - 1)))) n i M) (B := 30) (P := fun i M => But [15, 16] M A ∧ (∀ j, M 15 0 j = if j + 1 < i then A 15 0 (j + 1) else A 15 0 j) ∧ ∀ j, M 16 0 j = if j + 1 < i then A 16 0 (j + 1) else A 16 0 j) (Q := fun r => ∃ A', r = some A' ∧ But [1, 15, 16] A' A ∧ A' 1 0 5 = 29 ∧ A' 15 0 = sft (A 15 0) ∧ A' 16 0 = sft (A 16 0)) ?_ ?_ 29 64 1 A rfl (by decide) ⟨But_r, fun j => ?_, fun j => ?_⟩
  · intro n i M hi hp
    obtain ⟨p1, p2, p3⟩ := hp
    by_cases h0 : i = 0
    · subst h0
      have q : M 1 0 5 = 30 := by rw [But_q p1 rfl, h5]; rfl
      refine Or.inl ⟨M, ?_, p1, fun j => ?_, fun j => ?_⟩
      · show f_X7_forgetFirstChange_L2 _ (n + 1) ((0 : Nat) : Int) M = _
        rw [f_X7_forgetFirstChange_L2, if_pos (by rw [q]; decide)]
        rw [show wI (((0 : Nat) : Int) - 1) = -1 from rfl, store_neg (by decide), store_neg (by decide), show wI (((0 : Nat) : Int) + 1) = ((0 + 1 : Nat) : Int) from rfl]
      · rw [p2 j, if_neg (by omega), if_neg (by omega)]
      · rw [p3 j, if_neg (by omega), if_neg (by omega)]
    · obtain ⟨e, rfl⟩ : ∃ e, i = e + 1 := ⟨i - 1, by omega⟩
      have q : M 1 0 5 = 30 := by rw [But_q p1 rfl, h5]; rfl
      have w1 : wI (((e + 1 : Nat) : Int) - 1) = (e : Int) := by rw [wI_m (by omega)]; omega
      refine Or.inl ⟨gU (gU M 15 0 e (M 15 0 (e + 1))) 16 0 e (M 16 0 (e + 1)), ?_, ?_, ?_, ?_⟩
      · show f_X7_forgetFirstChange_L2 _ (n + 1) ((e + 1 : Nat) : Int) M = _
        rw [f_X7_forgetFirstChange_L2, if_pos (by rw [q]; omega), w1, wI_s (show e + 1 + 1 < 2147483648 by omega), at_in (show e + 1 < 30 by omega), store_in (show e < 30 by omega), at_in (show e + 1 < 30 by omega), store_in (show e < 30 by omega), gU_r (by decide)]
      · exact But_u (But_u p1 rfl) rfl
      · intro j
        rw [gU_r (by decide), gU_same]
        unfold g1
        rw [p2 j, p2 (e + 1)]
        by_cases hj : j = e
        · subst hj
          rw [if_pos rfl, if_neg (by omega), if_pos (by omega)]
        · rw [if_neg hj]
          by_cases h2 : j + 1 < e + 1
          · rw [if_pos h2, if_pos (by omega)]
          · rw [if_neg h2, if_neg (by omega)]
      · intro j
        rw [gU_same]
        unfold g1
        rw [gU_r (by decide), p3 j, p3 (e + 1)]
        by_cases hj : j = e
        · subst hj
          rw [if_pos rfl, if_neg (by omega), if_pos (by omega)]
        · rw [if_neg hj]
          by_cases h2 : j + 1 < e + 1
          · rw [if_pos h2, if_pos (by omega)]
          · rw [if_neg h2, if_neg (by omega)]
  · intro n M hp
    obtain ⟨p1, p2, p3⟩ := hp
    have q : M 1 0 5 = 30 := by rw [But_q p1 rfl, h5]; rfl
    refine ⟨gU M 1 0 5 29, ?_, But_u (But_w p1 rfl) rfl, gU_s _ _ _ _ _, ?_, ?_⟩
    · show f_X7_forgetFirstChange_L2 _ (n + 1) ((30 : Nat) : Int) M = _
      rw [f_X7_forgetFirstChange_L2, if_neg (by rw [q]; decide), q]
      rfl
    · funext j
      rw [gU_r (by decide), p2 j]
      unfold sft
      by_cases h2 : j < 29
      · rw [if_pos h2, if_pos (by omega)]
      · rw [if_neg h2, if_neg (by omega)]
    · funext j
      rw [gU_r (by decide), p3 j]
      unfold sft
      by_cases h2 : j < 29
      · rw [if_pos h2, if_pos (by omega)]
      · rw [if_neg h2, if_neg (by omega)]
  · rw [if_neg (by omega)]
  · rw [if_neg (by omega)]
theorem sftm {B : gM} (k : gM → Option (Int × gM)) (z1 z2 z3 : Int) (h4 : B 29 0 4 = 29) : ∃ B', f_X12_write_L69 k z1 z2 z3 64 0 B = k B' ∧ But [33, 34] B' B ∧ B' 33 0 = sft (B 33 0) ∧ B' 34 0 = sft (B 34 0) := by
  refine lp0 (F := fun n M i => f_X12_write_L69 k z1 z2 z3 n i M) 29 (fun i M => But [33, 34] M B ∧ (∀ j, M 33 0 j = if j < i then B 33 0 (j + 1) else B 33 0 j) ∧ ∀ j, M 34 0 j = if j < i then B 34 0 (j + 1) else B 34 0 j) (fun r => ∃ B', r = k B' ∧ But [33, 34] B' B ∧ B' 33 0 = sft (B 33 0) ∧ B' 34 0 = sft (B 34 0)) (by decide) B ⟨But_r, fun j => ?_, fun j => ?_⟩ ?_ ?_
  · rw [if_neg (by omega)]
  · rw [if_neg (by omega)]
  · intro n e M he hp
    obtain ⟨p1, p2, p3⟩ := hp
    have q : M 29 0 4 = 29 := by rw [But_q p1 rfl, h4]
    refine Or.inl ⟨gU (gU M 33 0 e (M 33 0 (e + 1))) 34 0 e (M 34 0 (e + 1)), ?_, ?_, ?_, ?_⟩
    · show f_X12_write_L69 k z1 z2 z3 (n + 1) (e : Int) M = _
      rw [f_X12_write_L69, if_pos (by rw [q]; omega), wI_s (by omega), og_t (by omega), og_t (by omega), og_t (by omega), og_t (by omega), Int.toNat_natCast, Int.toNat_natCast, gU_r (by decide)]
    · exact But_u (But_u p1 rfl) rfl
    · intro j
      rw [gU_r (by decide), gU_same]
      unfold g1
      rw [p2 j, p2 (e + 1)]
      by_cases hj : j = e
      · subst hj
        rw [if_pos rfl, if_neg (by omega), if_pos (by omega)]
      · rw [if_neg hj]
        by_cases h2 : j < e
        · rw [if_pos h2, if_pos (by omega)]
        · rw [if_neg h2, if_neg (by omega)]
    · intro j
      rw [gU_same]
      unfold g1
      rw [gU_r (by decide), p3 j, p3 (e + 1)]
      by_cases hj : j = e
      · subst hj
        rw [if_pos rfl, if_neg (by omega), if_pos (by omega)]
      · rw [if_neg hj]
        by_cases h2 : j < e
        · rw [if_pos h2, if_pos (by omega)]
        · rw [if_neg h2, if_neg (by omega)]
  · intro n M hp
    obtain ⟨p1, p2, p3⟩ := hp
    have q : M 29 0 4 = 29 := by rw [But_q p1 rfl, h4]
    refine ⟨M, ?_, p1, funext p2, funext p3⟩
    show f_X12_write_L69 k z1 z2 z3 (n + 1) ((29 : Nat) : Int) M = _
    rw [f_X12_write_L69, if_neg (by rw [q]; decide)]
theorem keepc {A : gM} {z : Nat} (hz : z ≤ 30) (h5 : A 1 0 5 = (z : Int)) (file v : Int) : ∃ A', f_X7_keepChange file v A = some A' ∧ But [1, 15, 16] A' A ∧ A' 1 0 5 = (if z = 30 then 30 else (z : Int) + 1) ∧ A' 15 0 = wrt z (A 15 0) file ∧ A' 16 0 = wrt z (A 16 0) v := by
  by_cases h : z = 30
  · subst h
    obtain ⟨M, e1, e2, e3, e4, e5⟩ := sftc h5
    refine ⟨gU (gU (gU M 15 0 29 file) 16 0 29 v) 1 0 5 30, ?_, ?_, ?_, ?_, ?_⟩
    · unfold f_X7_keepChange
      dsimp only [oj]
      rw [if_pos (by rw [h5]; rfl), e1]
      show some _ = some _
      rw [e3, show (29 : Int) = ((29 : Nat) : Int) from rfl, store_in (by decide), gU_r (by decide), e3, show (29 : Int) = ((29 : Nat) : Int) from rfl, store_in (by decide), gU_r (by decide), gU_r (by decide), e3]
      rfl
    · exact But_u (But_u (But_u e2 rfl) rfl) rfl
    · rw [gU_s]; rfl
    · rw [gU_r (by decide), gU_r (by decide), gU_same, e4]; rfl
    · rw [gU_r (by decide), gU_same, gU_r (by decide), e5]; rfl
  · refine ⟨gU (gU (gU A 15 0 z file) 16 0 z v) 1 0 5 ((z : Int) + 1), ?_, ?_, ?_, ?_, ?_⟩
    · unfold f_X7_keepChange
      dsimp only [oj]
      rw [if_neg (by rw [h5]; omega)]
      show some _ = some _
      rw [h5, store_in (by omega), gU_r (by decide), h5, store_in (by omega), gU_r (by decide), gU_r (by decide), h5, wI_s (by omega)]
      rfl
    · exact But_u (But_u (But_u But_r rfl) rfl) rfl
    · rw [gU_s, if_neg h]
    · rw [gU_r (by decide), gU_r (by decide), gU_same, wrt, if_neg h]
    · rw [gU_r (by decide), gU_same, gU_r (by decide), wrt, if_neg h]
theorem wrt_in {z : Nat} {m : Nat → Int} {v lo hi : Int} (h : ∀ k, lo ≤ m k ∧ m k ≤ hi) (hv : lo ≤ v ∧ v ≤ hi) : ∀ k, lo ≤ wrt z m v k ∧ wrt z m v k ≤ hi := by
  intro k
  unfold wrt g1 sft
  by_cases h1 : z = 30
  · rw [if_pos h1]
    show lo ≤ (if k = 29 then v else if k < 29 then m (k + 1) else m k) ∧ (if k = 29 then v else if k < 29 then m (k + 1) else m k) ≤ hi
    by_cases h2 : k = 29
    · rw [if_pos h2]; exact hv
    · rw [if_neg h2]
      by_cases h3 : k < 29
      · rw [if_pos h3]; exact h _
      · rw [if_neg h3]; exact h _
  · rw [if_neg h1]
    show lo ≤ (if k = z then v else m k) ∧ (if k = z then v else m k) ≤ hi
    by_cases h2 : k = z
    · rw [if_pos h2]; exact hv
    · rw [if_neg h2]; exact h _
theorem S_write {c : Nat} (v1 v2 : Int) : Sim (Rel c) (Rel (c + 1)) (f_L_write v1 v2) (f_X12_write v1 v2) := by
  intro A B h
  have h0 := h
  obtain ⟨n, ⟨⟨z, hz, z1, z2⟩, s12, s13, s14, s15, s16, s30, s31, s32, s33, s34⟩, h2, h3, h4, h5, h6, h7⟩ := h0
  by_cases ha : (0 ≤ v1 ∧ v1 < 16) ∧ (0 ≤ v2 ∧ v2 < 1000)
  · obtain ⟨⟨a1, a2⟩, a3, a4⟩ := ha
    obtain ⟨k, rfl⟩ : ∃ k : Nat, v1 = (k : Int) := ⟨v1.toNat, by omega⟩
    have hk : k < 16 := by omega
    have hb : A 12 0 k = B 30 0 k := by rw [s12]
    by_cases he : B 30 0 k = v2
    · have e1 : f_L_write (k : Int) v2 A = some (0, gU (gU A 12 0 k v2) 75 0 0 v2) := by
        simp [f_L_write, f_X11_write, oj, isB, a2, a3, a4, cArg, ob_s, ox_r, ol_r', f_X7_rewrite, f_X11_exchange, at_in hk, store_in hk, hb, he]
      have e2 : f_X12_write (k : Int) v2 B = some (v2, gU B 29 0 0 0) := by
        simp [f_X12_write, oj, inn, show (k : Int) ≤ 15 by omega, a3, show v2 ≤ 999 by omega, f_X12_asked, og, show (k : Int) < 16 by omega]
        simp (disch := decide) only [gU_r]
        simp [he]
      have hA' : gU A 12 0 k v2 12 0 = A 12 0 := by
        rw [gU_same]
        funext j
        unfold g1
        by_cases hj : j = k
        · rw [if_pos hj, hj, hb, he]
        · rw [if_neg hj]
      have hfr : But [12] (gU A 12 0 k v2) A := But_u But_r rfl
      refine ⟨_, _, _, _, e1, e2, gU_s _ _ _ _ _, fun _ => gU_s _ _ _ _ _, Rel_out _ (Rel_thr _ (Rel_up ⟨n, ?_, ?_, ?_, ?_, ?_, ?_, h7⟩)), fun q q1 q2 => ?_, fun q hq => gU_r (by omega)⟩
      · refine RS_c ⟨⟨z, hz, z1, z2⟩, s12, s13, s14, s15, s16, s30, s31, s32, s33, s34⟩ (fun q hq => ?_) (by rw [gU_r (by decide)]) (fun _ _ => rfl) rfl
        by_cases q12 : q = 12
        · rw [q12, hA']
        · rw [gU_r q12]
      · exact RT_c h2 (But_l hfr rfl) (by rw [gU_r (by decide)]) (fun t k _ => by rw [gU_r (by decide)]) (fun _ _ => rfl) rfl
      · exact RC_c h3 (But_q hfr rfl) (But_q hfr rfl) (fun _ _ => rfl) rfl
      · exact RO_c h4 (by rw [gU_r (by decide)]) (by rw [gU_r (by decide)]) (But_q hfr rfl) (by rw [gU_r (by decide)]) rfl rfl rfl rfl
      · exact RW_c h5 (But_q hfr rfl) (fun _ _ => rfl) rfl
      · exact RB_c h6 (But_q hfr rfl) (by rw [gU_r (by decide)]) (by rw [gU_r (by decide)]) (by rw [gU_r (by decide)]) (by rw [gU_r (by decide)]) (fun t k _ => by rw [gU_r (by decide)]) (by rw [gU_r (by decide)]) (fun _ _ => rfl) rfl rfl rfl rfl
      · rw [gU_r (by omega), gU_r (by omega)]
    · obtain ⟨A1, e1, e2, e3, e4, e5⟩ := keepc (A := gU A 12 0 k v2) hz (by rw [gU_r (by decide), z1]) (k : Int) (B 30 0 k)
      have hfA : But [1, 12, 15, 16] A1 A := But_t (But_u But_r rfl) (But_w e2 rfl)
      rw [gU_r (by decide)] at e4 e5
      have a12 : A1 12 0 = g1 (A 12 0) k v2 := by rw [But_q e2 rfl, gU_same]
      have f1 : f_L_write (k : Int) v2 A = some (0, gU A1 75 0 0 (B 30 0 k)) := by
        simp [f_L_write, f_X11_write, oj, isB, a2, a3, a4, cArg, ob_s, ox_r, ol_r', f_X7_rewrite, f_X11_exchange, at_in hk, store_in hk, hb, he, e1]
      have f2 : ∃ B', f_X12_write (k : Int) v2 B = some (B 30 0 k, B') ∧ But [29, 30, 33, 34] B' B ∧ (∀ j, j ≠ 0 → j ≠ 4 → B' 29 0 j = B 29 0 j) ∧ B' 29 0 0 = 0 ∧ B' 29 0 4 = (if z = 30 then 30 else (z : Int) + 1) ∧ B' 30 0 = g1 (B 30 0) k v2 ∧ B' 33 0 = wrt z (B 33 0) (k : Int) ∧ B' 34 0 = wrt z (B 34 0) (B 30 0 k) := by
        have hB30 : gU B 29 0 0 0 30 0 k = B 30 0 k := by rw [gU_r (by decide)]
        have hk15 : (k : Int) ≤ 15 := by omega
        have hv9 : v2 ≤ 999 := by omega
        by_cases hz3 : z = 30
        · subst hz3
          obtain ⟨M, m1, m2, m3, m4⟩ := sftm (B := gU (gU B 29 0 0 0) 29 0 4 29) (fun (M_69_116 : gM) => og ((0 : Int) ≤ M_69_116 29 0 4 ∧ (M_69_116 29 0 4 : Int) < 30) <| og ((0 : Int) ≤ (gU M_69_116 33 0 (M_69_116 29 0 4).toNat (k : Int)) 29 0 4 ∧ ((gU M_69_116 33 0 (M_69_116 29 0 4).toNat (k : Int)) 29 0 4 : Int) < 30) <| og ((0 : Int) ≤ (k : Int) ∧ ((k : Int) : Int) < 16) <| some ((gU B 29 0 0 0 30 0 k, gU (gU (gU (gU M_69_116 33 0 (M_69_116 29 0 4).toNat (k : Int)) 34 0 ((gU M_69_116 33 0 (M_69_116 29 0 4).toNat (k : Int)) 29 0 4).toNat (gU B 29 0 0 0 30 0 k)) 29 0 4 (wI (((gU (gU M_69_116 33 0 (M_69_116 29 0 4).toNat (k : Int)) 34 0 ((gU M_69_116 33 0 (M_69_116 29 0 4).toNat (k : Int)) 29 0 4).toNat (gU B 29 0 0 0 30 0 k)) 29 0 4) + 1))) 30 0 k v2))) (k : Int) v2 (gU B 29 0 0 0 30 0 k) (gU_s _ _ _ _ _)
          have m5 : M 29 0 4 = 29 := by rw [But_q m2 rfl, gU_s]
          refine ⟨gU (gU (gU (gU M 33 0 29 (k : Int)) 34 0 29 (B 30 0 k)) 29 0 4 30) 30 0 k v2, ?_, ?_, ?_, ?_, ?_, ?_, ?_, ?_⟩
          · have m6 : gU B 29 0 0 0 29 0 4 = 30 := by rw [gU_k (by decide), z2]; rfl
            have ak : f_X12_asked 1 B = (1, gU B 29 0 0 0) := rfl
            unfold f_X12_write
            dsimp only [oj]
            rw [inn, if_pos (show 0 ≤ (k : Int) ∧ (k : Int) ≤ 15 by omega), if_neg (show ¬ ((1 : Int) = 0) by decide), inn, if_pos (show 0 ≤ v2 ∧ v2 ≤ 999 by omega), if_neg (show ¬ ((1 : Int) = 0) by decide), ak]
            dsimp only
            rw [if_neg (show ¬ ((1 : Int) = 0) by decide), og_t (show (0 : Int) ≤ (k : Int) ∧ (k : Int) < 16 by omega), Int.toNat_natCast, if_neg (show ¬ gU B 29 0 0 0 30 0 k = v2 by rw [hB30]; exact he), if_pos m6, m6]
            rw [show wI (30 - 1 : Int) = 29 from rfl, m1, m5]
            rw [og_t (by decide), og_t (by rw [gU_r (by decide), m5]; decide), og_t (by omega)]
            simp (disch := decide) only [gU_r, m5, hB30]
            rfl
          · exact But_u (But_u (But_u (But_u (But_t (But_u (But_u But_r rfl) rfl) (But_w m2 rfl)) rfl) rfl) rfl) rfl
          · intro j j0 j4
            rw [gU_r (by decide), gU_k j4, gU_r (by decide), gU_r (by decide), But_q m2 rfl, gU_k j4, gU_k j0]
          · rw [gU_r (by decide), gU_k (by decide), gU_r (by decide), gU_r (by decide), But_q m2 rfl, gU_k (by decide), gU_s]
          · rw [gU_r (by decide), gU_s]; rfl
          · rw [gU_same, gU_r (by decide), gU_r (by decide), gU_r (by decide), But_q m2 rfl, gU_r (by decide), gU_r (by decide)]
          · rw [gU_r (by decide), gU_r (by decide), gU_r (by decide), gU_same, m3, gU_r (by decide), gU_r (by decide)]; rfl
          · rw [gU_r (by decide), gU_r (by decide), gU_same, gU_r (by decide), m4, gU_r (by decide), gU_r (by decide)]; rfl
        · refine ⟨gU (gU (gU (gU (gU B 29 0 0 0) 33 0 z (k : Int)) 34 0 z (B 30 0 k)) 29 0 4 ((z : Int) + 1)) 30 0 k v2, ?_, ?_, ?_, ?_, ?_, ?_, ?_, ?_⟩
          · have m6 : gU B 29 0 0 0 29 0 4 = (z : Int) := by rw [gU_k (by decide), z2]
            have ak : f_X12_asked 1 B = (1, gU B 29 0 0 0) := rfl
            unfold f_X12_write
            dsimp only [oj]
            rw [inn, if_pos (show 0 ≤ (k : Int) ∧ (k : Int) ≤ 15 by omega), if_neg (show ¬ ((1 : Int) = 0) by decide), inn, if_pos (show 0 ≤ v2 ∧ v2 ≤ 999 by omega), if_neg (show ¬ ((1 : Int) = 0) by decide), ak]
            dsimp only
            rw [if_neg (show ¬ ((1 : Int) = 0) by decide), og_t (show (0 : Int) ≤ (k : Int) ∧ (k : Int) < 16 by omega), Int.toNat_natCast, if_neg (show ¬ gU B 29 0 0 0 30 0 k = v2 by rw [hB30]; exact he), if_neg (show ¬ gU B 29 0 0 0 29 0 4 = 30 by rw [m6]; omega), hB30]
            rw [og_t (by rw [m6]; omega), og_t (by rw [gU_r (by decide), m6]; omega), og_t (by omega)]
            simp (disch := decide) only [gU_r, m6, hB30, Int.toNat_natCast, wI_s (show z + 1 < 2147483648 by omega)]
            rfl
          · exact But_u (But_u (But_u (But_u (But_u But_r rfl) rfl) rfl) rfl) rfl
          · intro j j0 j4
            rw [gU_r (by decide), gU_k j4, gU_r (by decide), gU_r (by decide), gU_k j0]
          · rw [gU_r (by decide), gU_k (by decide), gU_r (by decide), gU_r (by decide), gU_s]
          · rw [gU_r (by decide), gU_s, if_neg hz3]
          · rw [gU_same, gU_r (by decide), gU_r (by decide), gU_r (by decide), gU_r (by decide)]
          · rw [gU_r (by decide), gU_r (by decide), gU_r (by decide), gU_same, gU_r (by decide), wrt, if_neg hz3]
          · rw [gU_r (by decide), gU_r (by decide), gU_same, gU_r (by decide), gU_r (by decide), wrt, if_neg hz3]
      obtain ⟨B', f2, g1', g2, g3, g4, g5, g6, g7⟩ := f2
      refine ⟨_, _, _, _, f1, f2, g3, fun _ => gU_s _ _ _ _ _, Rel_out _ (Rel_up ⟨n, ?_, ?_, ?_, ?_, ?_, ?_, ?_⟩), fun q q1 q2 => ?_, But_m g1' rfl⟩
      · refine ⟨⟨if z = 30 then 30 else z + 1, ?_, ?_, ?_⟩, ?_, ?_, ?_, ?_, ?_, ?_, ?_, ?_, ?_, ?_⟩
        · by_cases hz3 : z = 30
          · rw [if_pos hz3]; omega
          · rw [if_neg hz3]; omega
        · rw [e3]
          by_cases hz3 : z = 30
          · rw [if_pos hz3, if_pos hz3]; rfl
          · rw [if_neg hz3, if_neg hz3]; rfl
        · rw [g4]
          by_cases hz3 : z = 30
          · rw [if_pos hz3, if_pos hz3]; rfl
          · rw [if_neg hz3, if_neg hz3]; rfl
        · rw [a12, g5, s12]
        · rw [But_q hfA rfl, But_q g1' rfl, s13]
        · rw [But_q hfA rfl, But_q g1' rfl, s14]
        · rw [e4, g6, s15]
        · rw [e5, g7, s16]
        · intro j
          rw [g5]
          unfold g1
          by_cases hj : j = k
          · rw [if_pos hj]; omega
          · rw [if_neg hj]; exact s30 j
        · rw [But_q g1' rfl]; exact s31
        · rw [But_q g1' rfl]; exact s32
        · rw [g6]; exact wrt_in s33 (by omega)
        · rw [g7]; exact wrt_in s34 (s30 k)
      · exact RT_c h2 (But_l hfA rfl) (by rw [But_q hfA rfl]) (fun t k _ => by rw [But_q hfA rfl]) (But_l g1' rfl) (g2 7 (by decide) (by decide))
      · exact RC_c h3 (But_q hfA rfl) (But_q hfA rfl) (But_l g1' rfl) (g2 21 (by decide) (by decide))
      · exact RO_c h4 (by rw [But_q hfA rfl]) (by rw [But_q hfA rfl]) (But_q hfA rfl) (by rw [But_q hfA rfl]) (g2 19 (by decide) (by decide)) (g2 20 (by decide) (by decide)) (g2 49 (by decide) (by decide)) (But_q g1' rfl)
      · exact RW_c h5 (But_q hfA rfl) (But_l g1' rfl) (g2 37 (by decide) (by decide))
      · exact RB_c h6 (But_q hfA rfl) (by rw [But_q hfA rfl]) (by rw [But_q hfA rfl]) (by rw [But_q hfA rfl]) (by rw [But_q hfA rfl]) (fun t k _ => by rw [But_q hfA rfl]) (by rw [But_q hfA rfl]) (But_l g1' rfl) (g2 37 (by decide) (by decide)) (g2 36 (by decide) (by decide)) (g2 43 (by decide) (by decide)) (g2 48 (by decide) (by decide))
      · exact RG_c h7 (But_l g1' rfl) (g2 36 (by decide) (by decide)) (g2 37 (by decide) (by decide))
      · rw [gU_r q2]
        exact But_c hfA rfl q q1 q2
  · have e1 : f_L_write v1 v2 A = some (1, A) := by
      by_cases b1 : 0 ≤ v1 ∧ v1 < 16
      · have b2 : ¬ (0 ≤ v2 ∧ v2 < 1000) := fun q => ha ⟨b1, q⟩
        simp [f_L_write, f_X11_write, oj, isB, b1, b2, cArg, ob_s, ox_l, ol_l']
      · simp [f_L_write, f_X11_write, oj, isB, b1, cArg, ob_s, ox_l, ol_l']
    have e2 : f_X12_write v1 v2 B = some (0, gU B 29 0 0 1) := by
      by_cases b1 : 0 ≤ v1 ∧ v1 ≤ 15
      · have b2 : ¬ (0 ≤ v2 ∧ v2 ≤ 999) := fun q => ha ⟨by omega, by omega⟩
        simp [f_X12_write, oj, inn, b1, b2, f_X12_asked]
      · simp [f_X12_write, oj, inn, b1, f_X12_asked]
    exact ⟨_, _, _, _, e1, e2, gU_s _ _ _ _ _, fun q => absurd q (by decide), Rel_thr _ (Rel_up h), fun q _ _ => rfl, fun q hq => gU_r (by omega)⟩
