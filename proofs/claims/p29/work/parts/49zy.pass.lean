/-! ### pass -/
theorem RB_now {A B : gM} {n c w : Nat} (h : RB A B n c) (hw : w + 1 ≤ 50 * c) : RB (gU A 0 0 5 ((w + 1 : Nat) : Int)) (gU B 29 0 48 ((w + 1 : Nat) : Int)) n c := by
  unfold RB aOK ndd dgS at h ⊢
  simp (disch := decide) only [gU_r, gU_k, gU_s]
  obtain ⟨k1, k2, k3, k4, k5, ⟨w', q1, q2, q3, q4⟩, kr⟩ := h
  exact ⟨k1, k2, k3, k4, k5, ⟨w + 1, hw, rfl, rfl, q4⟩, kr⟩
theorem RG_now {B : gM} {n : Nat} {v : Int} (h : RG B n) : RG (gU B 29 0 48 v) n := RG_c h (fun q hq => gU_r (by simp only [List.mem_cons, List.not_mem_nil, or_false] at hq; omega)) (gU_k (by decide)) (gU_k (by decide))
theorem R4_now {A B : gM} {n : Nat} {v : Int} (h1 : RS A B) (h2 : RT A B n) (h3 : RC A B) (h4 : RO A B) (h5 : RW A B n) : RS (gU A 0 0 5 v) (gU B 29 0 48 v) ∧ RT (gU A 0 0 5 v) (gU B 29 0 48 v) n ∧ RC (gU A 0 0 5 v) (gU B 29 0 48 v) ∧ RO (gU A 0 0 5 v) (gU B 29 0 48 v) ∧ RW (gU A 0 0 5 v) (gU B 29 0 48 v) n := by
  have fA : But [0] (gU A 0 0 5 v) A := But_u But_r rfl
  have fB : But [29] (gU B 29 0 48 v) B := But_u But_r rfl
  have b29 : ∀ j, j ≠ 48 → gU B 29 0 48 v 29 0 j = B 29 0 j := fun j hj => gU_k hj
  exact ⟨RS_c h1 (fun q hq => by rw [But_l fA (K := [12, 13, 14, 15, 16]) rfl q hq]) (by rw [But_q fA rfl]) (But_l fB rfl) (b29 4 (by decide)), RT_c h2 (But_l fA rfl) (by rw [But_q fA rfl]) (fun t k _ => by rw [But_q fA rfl]) (But_l fB rfl) (b29 7 (by decide)), RC_c h3 (But_q fA rfl) (But_q fA rfl) (But_l fB rfl) (b29 21 (by decide)), RO_c h4 (by rw [But_q fA rfl]) (by rw [But_q fA rfl]) (But_q fA rfl) (gU_k (by decide)) (b29 19 (by decide)) (b29 20 (by decide)) (b29 49 (by decide)) (But_q fB rfl), RW_c h5 (But_q fA rfl) (But_l fB rfl) (b29 37 (by decide))⟩
theorem SI_now {A B : gM} {n c w : Nat} (h : SI A B n c) (hw : w + 1 ≤ 50 * c) : SI (gU A 0 0 5 ((w + 1 : Nat) : Int)) (gU B 29 0 48 ((w + 1 : Nat) : Int)) n c := by
  obtain ⟨h1, h2, h3, h4, h5, h6, g1', g2, g4⟩ := h
  obtain ⟨q1, q2, q3, q4, q5⟩ := R4_now (v := ((w + 1 : Nat) : Int)) h1 h2 h3 h4 h5
  have fB : But [29] (gU B 29 0 48 ((w + 1 : Nat) : Int)) B := But_u But_r rfl
  have tN : TdN B (gU B 29 0 48 ((w + 1 : Nat) : Int)) := TdN_b (But_w fB rfl) (gU_k (by decide))
  obtain ⟨x1, x2, x3, -⟩ := G_b (n := n) tN (show gU B 29 0 48 ((w + 1 : Nat) : Int) 60 = B 60 from But_q fB rfl) (But_q fB rfl)
  exact ⟨q1, q2, q3, q4, q5, RB_now h6 hw, x1 g1', x2 g2, x3 g4⟩
/-- all that holds, with n targets -/
def RA (n c : Nat) (A B : gM) : Prop := RS A B ∧ RT A B n ∧ RC A B ∧ RO A B ∧ RW A B n ∧ RB A B n c ∧ RG B n
def PI (n c i : Nat) (A B : gM) : Prop := RA n (c + 1) A B ∧ (∃ w : Nat, w ≤ 50 * c + i ∧ A 0 0 5 = (w : Int)) ∧ ∀ a, B 65 0 a ≤ 200 * (c : Int) + 4 * (i : Int)
def fPA : List Nat := [0, 3, 4, 7, 9, 10, 11, 23, 24]
def fPB : List Nat := [29, 46, 47, 48, 49, 50, 51, 52, 54, 55, 56, 57, 58, 59, 60, 61, 62, 63, 64, 65, 66, 67, 68, 73]
theorem pn1 {w c i : Nat} (hw : w ≤ 50 * c + i) (hi : i < 50) : w + 1 ≤ 50 * (c + 1) ∧ w + 1 ≤ 50 * c + (i + 1) := by omega
theorem pn2 {w c : Nat} (hw : w ≤ 50 * c + 50) (hc : c < 600) : wI ((w : Int) + 1) = ((w + 1 : Nat) : Int) := wI_s (by omega)
theorem pn3 {x : Int} {c i : Nat} (h : x ≤ 200 * (c : Int) + 4 * (i : Int)) : x ≤ 200 * (c : Int) + 4 * ((i + 1 : Nat) : Int) ∧ x ≤ 200 * (c : Int) + 4 * ((i + 1 : Nat) : Int) - 4 := by omega
theorem pn4 {c i : Nat} (hi : i < 50) : 200 * (c : Int) + 4 * ((i + 1 : Nat) : Int) ≤ 200 * ((c + 1 : Nat) : Int) := by omega
/-- a tick, on both sides -/
theorem PI_step {A B : gM} {n c i : Nat} (hc : c < 600) (hi : i < 50) (h : PI n c i A B) : ∃ A1 A' B' : gM, (if A 4 0 8 = 0 then some A else f_X2_passTick A) = some A1 ∧ gU A1 0 0 5 (wI (A1 0 0 5 + 1)) = A' ∧ (if B 29 0 36 = 0 then some (gU B 29 0 48 (wI (B 29 0 48 + 1))) else ob (f_X12_builds B) fun r31 => f_X12_opens (gU r31 29 0 48 (wI (r31 29 0 48 + 1)))) = some B' ∧ PI n c (i + 1) A' B' ∧ But fPA A' A ∧ But fPB B' B ∧ B' 29 0 0 = B 29 0 0 := by
  obtain ⟨⟨h1, h2, h3, h4, h5, h6, h7⟩, ⟨w, hw, ew⟩, hx⟩ := h
  obtain ⟨w1, w2⟩ := pn1 hw hi
  have e48 : B 29 0 48 = (w : Int) := by
    obtain ⟨w', -, q2, q3, -⟩ := h6.2.2.2.2.2.1
    exact q3.trans (q2.symm.trans ew)
  have ww := pn2 (Nat.le_trans hw (Nat.add_le_add_left (Nat.le_of_lt hi) _)) hc
  have e8 : A 4 0 8 = B 29 0 36 := h6.2.1
  by_cases hg : B 29 0 36 = 0
  · obtain ⟨q1, q2, q3, q4, q5⟩ := R4_now (v := ((w + 1 : Nat) : Int)) h1 h2 h3 h4 h5
    refine ⟨A, _, _, if_pos (e8.trans hg), rfl, if_pos hg, ⟨?_, ⟨w + 1, w2, ?_⟩, fun a => ?_⟩, But_u But_r rfl, But_u But_r rfl, gU_k (by decide)⟩
    · rw [ew, e48, ww]
      exact ⟨q1, q2, q3, q4, q5, RB_now h6 w1, RG_now h7⟩
    · rw [ew, ww, gU_s]
    · rw [gU_r (by decide)]
      exact (pn3 (hx a)).1
  · have hg1 : B 29 0 36 = 1 := by
      rcases h6.2.2.1 with q | q
      · exact absurd q hg
      · exact q.1
    obtain ⟨y0, y1, y2, y3, y4⟩ := h7.2 hg1
    have hMI : MI A B n (c + 1) := ⟨⟨h1, h2, h3, h4, h5, h6, y1, y2, y4⟩, hg1, y0, y3⟩
    obtain ⟨A1, B1, f, t1, t2, hSI, t4, t5, t6, t7, fA, fB, t8⟩ := tick1 (x := 200 * (c : Int) + 4 * ((i + 1 : Nat) : Int)) hMI hc (fun a => (pn3 (hx a)).2) (pn4 hi)
    have b48 : B1 29 0 48 = (w : Int) := t5.trans e48
    have a5 : A1 0 0 5 = (w : Int) := by rw [But_q fA rfl]; exact ew
    have hb1 : 1 ≤ A1 4 0 7 := by
      rcases hSI.2.2.2.2.2.1.2.2.1 with q | q
      · exact absurd (t4.symm.trans q) ne10
      · exact q.2
    have hS2 := SI_now (w := w) hSI w1
    have ref : ∀ B', f_X12_opens (gU B1 29 0 48 ((w + 1 : Nat) : Int)) = some B' → (if B 29 0 36 = 0 then some (gU B 29 0 48 (wI (B 29 0 48 + 1))) else ob (f_X12_builds B) fun r31 => f_X12_opens (gU r31 29 0 48 (wI (r31 29 0 48 + 1)))) = some B' := fun B' q => by
      rw [if_neg hg, t2, ob_s, b48, ww]
      exact q
    have cl : ∀ A2, (if f = 0 then some A1 else f_X2_settle A1) = some A2 → (if A 4 0 8 = 0 then some A else f_X2_passTick A) = some A2 := fun A2 q => by
      rw [if_neg (fun z => hg (e8.symm.trans z)), t1]
      exact q
    have gB : But fPB (gU B1 29 0 48 ((w + 1 : Nat) : Int)) B := But_u fB rfl
    rcases t7 with hf | ⟨hf, g0, g3⟩
    · obtain ⟨A2, B2, s1, s2, s3, s4, s5, s6, s7, s8⟩ := setCM hSI hb1
      obtain ⟨A2', B2', r1, r2, r3, r4, r5, r6, r7, r8⟩ := setCM hS2 (by rw [gU_r (by decide)]; exact hb1)
      rw [set_w, s1] at r1
      have eA : gU A2 0 0 5 ((w + 1 : Nat) : Int) = A2' := Option.some.inj r1
      have a52 : A2 0 0 5 = (w : Int) := by rw [But_q s5 rfl]; exact a5
      refine ⟨A2, A2', B2', cl A2 (by rw [if_neg (by rw [hf]; exact ne10)]; exact s1), by rw [a52, ww]; exact eA, ref B2' r2, ⟨⟨r3.1, r3.2.1, r3.2.2.1, r3.2.2.2.1, r3.2.2.2.2.1, r3.2.2.2.2.2.1, r4⟩, ⟨w + 1, w2, by rw [← eA, gU_s]⟩, fun a => ?_⟩, ?_, But_t gB (But_w r7 rfl), ?_⟩
      · rw [But_q r7 rfl, gU_r (by decide)]
        exact t6 a
      · rw [← eA]
        exact But_u (But_t (But_w fA rfl) (But_w s5 rfl)) rfl
      · rw [r8 0 (by decide), gU_k (by decide)]
        exact t8
    · have fB2 : But [29] (gU B1 29 0 48 ((w + 1 : Nat) : Int)) B1 := But_u But_r rfl
      have tN : TdN B1 (gU B1 29 0 48 ((w + 1 : Nat) : Int)) := TdN_b (But_w fB2 rfl) (gU_k (by decide))
      obtain ⟨x1, x2, x3, x4, x5⟩ := G_b (n := n) tN (show gU B1 29 0 48 ((w + 1 : Nat) : Int) 60 = B1 60 from But_q fB2 rfl) (But_q fB2 rfl)
      have g36 : gU B1 29 0 48 ((w + 1 : Nat) : Int) 29 0 36 = 1 := by rw [gU_k (by decide)]; exact t4
      have os := opens_same hS2 (by rw [gU_r (by decide)]; exact hb1) (x4 g3) (x5 g0) g36
      refine ⟨A1, _, _, cl A1 (if_pos hf), by rw [a5, ww], ref _ os, ⟨⟨hS2.1, hS2.2.1, hS2.2.2.1, hS2.2.2.2.1, hS2.2.2.2.2.1, hS2.2.2.2.2.2.1, ?_⟩, ⟨w + 1, w2, gU_s _ _ _ _ _⟩, fun a => ?_⟩, But_u (But_w fA rfl) rfl, gB, ?_⟩
      · exact ⟨fun z => absurd (g36.symm.trans z) ne10, fun _ => ⟨x5 g0, hS2.2.2.2.2.2.2.1, hS2.2.2.2.2.2.2.2.1, x4 g3, hS2.2.2.2.2.2.2.2.2⟩⟩
      · rw [gU_r (by decide)]
        exact t6 a
      · rw [gU_k (by decide)]
        exact t8
theorem passL {n c : Nat} {v : Nat} (hc : c < 600) (hv : v ≤ 50) : ∀ (d i n1 n2 : Nat) (A B : gM), i + d = v → d < n1 → d < n2 → PI n c i A B → ∃ A' B' : gM, f_X11_pass_L21 (fun (M_21_59 : gM) => some (Sum.inr ((M_21_59 0 0 5, M_21_59)))) (v : Int) n1 (i : Int) A = some (Sum.inr (A' 0 0 5, A')) ∧ f_X12_pass_L18 (fun (M_18_67 : gM) => some ((M_18_67 29 0 48, M_18_67))) (v : Int) n2 (i : Int) B = some (B' 29 0 48, B') ∧ PI n c v A' B' ∧ But fPA A' A ∧ But fPB B' B ∧ B' 29 0 0 = B 29 0 0 := by
  intro d
  induction d with
  | zero =>
    intro i n1 n2 A B hd h1 h2 h
    obtain ⟨m1, rfl⟩ : ∃ m, n1 = m + 1 := ⟨n1 - 1, by omega⟩
    obtain ⟨m2, rfl⟩ : ∃ m, n2 = m + 1 := ⟨n2 - 1, by omega⟩
    have e : i = v := by omega
    subst e
    refine ⟨A, B, ?_, ?_, h, But_r, But_r, rfl⟩
    · rw [f_X11_pass_L21, if_neg (Int.lt_irrefl _)]
    · rw [f_X12_pass_L18, if_neg (Int.lt_irrefl _)]
  | succ d ih =>
    intro i n1 n2 A B hd h1 h2 h
    obtain ⟨m1, rfl⟩ : ∃ m, n1 = m + 1 := ⟨n1 - 1, by omega⟩
    obtain ⟨m2, rfl⟩ : ∃ m, n2 = m + 1 := ⟨n2 - 1, by omega⟩
    have hi : i < 50 := by omega
    have hiv : (i : Int) < (v : Int) := by omega
    have j1 : (i + 1) + d = v := by omega
    have j2 : d < m1 := by omega
    have j3 : d < m2 := by omega
    have w1 : wI ((i : Int) + 1) = ((i + 1 : Nat) : Int) := wI_s (by omega)
    obtain ⟨A1, A2, B2, s1, s2, s3, s4, s5, s6, s7⟩ := PI_step hc hi h
    obtain ⟨A', B', r1, r2, r3, r4, r5, r6⟩ := ih (i + 1) m1 m2 A2 B2 j1 j2 j3 s4
    refine ⟨A', B', ?_, ?_, r3, But_t s5 r4, But_t s6 r5, r6.trans s7⟩
    · rw [f_X11_pass_L21, if_pos hiv]
      dsimp only [oj]
      rw [w1, ← r1]
      by_cases q : A 4 0 8 = 0
      · rw [if_pos q] at s1 ⊢
        rw [Option.some.inj s1, s2]
      · rw [if_neg q] at s1 ⊢
        rw [s1, ob_s, s2]
    · rw [f_X12_pass_L18, if_pos hiv]
      dsimp only [oj]
      rw [w1, ← r2]
      by_cases q : B 29 0 36 = 0
      · rw [if_pos q] at s3 ⊢
        rw [Option.some.inj s3]
      · rw [if_neg q] at s3 ⊢
        cases hb : f_X12_builds B with
        | none => rw [hb] at s3; cases s3
        | some r31 =>
          rw [hb, ob_s] at s3
          rw [ob_s, s3, ob_s]
theorem S_pass {c : Nat} (hc : c < 600) (v1 : Int) : Sim (Rel c) (Rel (c + 1)) (f_L_pass v1) (f_X12_pass v1) := by
  intro A B h
  have h0 := h
  obtain ⟨n, h1, h2, h3, h4, h5, h6, h7⟩ := h0
  by_cases hv : 1 ≤ v1 ∧ v1 ≤ 50
  · obtain ⟨v, rfl⟩ : ∃ v : Nat, v1 = (v : Int) := ⟨v1.toNat, by omega⟩
    have hv50 : v ≤ 50 := by omega
    have hv64 : v < 64 := by omega
    obtain ⟨w, hw, ew, ew2, hat⟩ := h6.2.2.2.2.2.1
    have hThr := Rel_thr (c := c + 1) 0 (Rel_up h)
    have hP : PI n c 0 A (gU B 29 0 0 0) := by
      refine ⟨⟨RS_0 0 h1, RT_0 0 h2, RC_c h3 rfl rfl (fun q hq => gU_r (by simp only [List.mem_cons, List.not_mem_nil, or_false] at hq; omega)) (gU_k (by decide)), RO_c h4 rfl rfl rfl rfl (gU_k (by decide)) (gU_k (by decide)) (gU_k (by decide)) (gU_r (by decide)), RW_c h5 rfl (fun q hq => gU_r (by simp only [List.mem_cons, List.not_mem_nil, or_false] at hq; omega)) (gU_k (by decide)), RB_c (RB_up h6) rfl rfl rfl rfl rfl (fun _ _ _ => rfl) rfl (fun q hq => gU_r (by simp only [List.mem_cons, List.not_mem_nil, or_false] at hq; omega)) (gU_k (by decide)) (gU_k (by decide)) (gU_k (by decide)) (gU_k (by decide)), RG_c h7 (fun q hq => gU_r (by simp only [List.mem_cons, List.not_mem_nil, or_false] at hq; omega)) (gU_k (by decide)) (gU_k (by decide))⟩, ⟨w, hw, ew⟩, fun a => ?_⟩
      rw [gU_r (by decide)]
      have := (hat a).2
      omega
    obtain ⟨A', B', r1, r2, r3, r4, r5, r6⟩ := passL hc hv50 v 0 64 64 A (gU B 29 0 0 0) (Nat.zero_add v) hv64 hv64 hP
    have r1' : f_X11_pass_L21 (fun (M_21_59 : gM) => some (Sum.inr ((M_21_59 0 0 5, M_21_59)))) (v : Int) 64 0 A = some (Sum.inr (A' 0 0 5, A')) := r1
    have r2' : f_X12_pass_L18 (fun (M_18_67 : gM) => some ((M_18_67 29 0 48, M_18_67))) (v : Int) 64 0 (gU B 29 0 0 0) = some (B' 29 0 48, B') := r2
    have e1 : f_L_pass (v : Int) A = some (0, gU A' 75 0 0 (A' 0 0 5)) := by
      unfold f_L_pass f_X11_pass
      dsimp only [oj]
      rw [if_neg (Int.not_lt.mpr hv.1), if_neg (Int.not_lt.mpr hv.2), cArg, if_neg ne10, ob_s, ox_r, r1', ob_s]
      rfl
    have e2 : f_X12_pass (v : Int) B = some (B' 29 0 48, B') := by
      unfold f_X12_pass
      rw [inn, if_pos hv, show f_X12_asked 1 B = (1, gU B 29 0 0 0) from rfl, if_neg ne10]
      exact r2'
    obtain ⟨w', -, q2, q3, -⟩ := r3.1.2.2.2.2.2.1.2.2.2.2.2.1
    refine ⟨_, _, _, _, e1, e2, by rw [r6, gU_s], fun _ => by rw [gU_s, q2, q3], Rel_out _ ⟨n, r3.1⟩, fun q q1 q2 => ?_, fun q hq => ?_⟩
    · rw [gU_r q2]
      exact But_c r4 rfl q q1 q2
    · rw [But_m r5 rfl q hq]
      exact gU_r (by omega)
  · have e1 : f_L_pass v1 A = some (1, A) := by
      unfold f_L_pass f_X11_pass
      dsimp only [oj]
      by_cases a : v1 < 1
      · rw [if_pos a, cArg, if_pos rfl, ob_s, ox_l]
        rfl
      · rw [if_neg a, if_pos (show 50 < v1 by omega), cArg, if_pos rfl, ob_s, ox_l]
        rfl
    have e2 : f_X12_pass v1 B = some (0, gU B 29 0 0 1) := by
      unfold f_X12_pass
      rw [inn, if_neg hv, show f_X12_asked 0 B = (0, gU B 29 0 0 1) from rfl, if_pos rfl]
    exact ⟨_, _, _, _, e1, e2, gU_s _ _ _ _ _, fun q => absurd q (by decide), Rel_thr _ (Rel_up h), fun q _ _ => rfl, fun q hq => gU_r (by omega)⟩
