def bgA (A : gM) (N b : Nat) : gM := gU (gU A 4 0 6 (N : Int)) 4 0 7 ((b : Int) + 1)
def bgB (B : gM) (N : Nat) : gM := gU (gU (gU B 29 0 0 0) 29 0 37 (N : Int)) 29 0 43 0
theorem bgA_o {A : gM} {N b : Nat} : But [4] (bgA A N b) A := But_u (But_u But_r rfl) rfl
theorem bgB_o {B : gM} {N : Nat} : But [29] (bgB B N) B := But_u (But_u (But_u But_r rfl) rfl) rfl
theorem bgB_29 {B : gM} {N : Nat} : ∀ j, j ≠ 0 → j ≠ 37 → j ≠ 43 → bgB B N 29 0 j = B 29 0 j := fun j h1 h2 h3 => by
  unfold bgB
  rw [gU_k h3, gU_k h2, gU_k h1]
theorem gsr0 (t : Nat) : ¬ gAnd (gShr 0 (t : Int)) 1 = 1 := fun q => by
  by_cases h : t < 31
  · have := (bit_1 (a := 0) (by decide) h).mp q
    rw [Nat.zero_testBit] at this
    cases this
  · have e : gShr 0 (t : Int) = 0 := by
      unfold gShr
      rw [iI_0]
      have : ∀ x : Int32, (0 : Int32) >>> x = 0 := fun x => by
        apply Int32.toBitVec_inj.1
        rw [Int32.toBitVec_shiftRight]
        simp
      rw [this]
      rfl
    rw [e] at q
    exact absurd q (by decide)
theorem up65 {x : Int} {c : Nat} (h : 0 ≤ x ∧ x ≤ 200 * (c : Int)) : 0 ≤ x ∧ x ≤ 200 * ((c + 1 : Nat) : Int) := by omega
/-- all that holds when a build was begun, ahead of the first look at what is OPEN -/
theorem SI_bg {A B A2 B2 : gM} {n c N b : Nat} (h1 : RS A B) (h2 : RT A B n) (h3 : RC A B) (h4 : RO A B) (h5 : RW A B n) (h6 : RB A B n c) (h7 : RG B n) (hg : B 29 0 36 = 0) (hb : A 4 0 7 = (b : Int)) (hN : N < 2 ^ n) (hcl : ∀ t u, t < n → N.testBit t = true → isI B t u → N.testBit u = true)
    (fA : But [9] A2 (bgA A N b)) (a27 : ∀ a k, k ≠ 2 → k ≠ 7 → A2 9 a k = A 9 a k) (aN : ∀ t s : Nat, t < n → (s : Int) < B 38 0 t → A2 9 (4 * t + s) 2 = (if N.testBit t = true then 0 else -1) ∧ A2 9 (4 * t + s) 7 = 0) (aO : ∀ a, (∀ t s : Nat, t < n → (s : Int) < B 38 0 t → a ≠ 4 * t + s) → A2 9 a = A 9 a)
    (fB : But [60, 63, 64] B2 (bgB B N)) (bN : ∀ q, q ∈ [60, 63, 64] → (∀ t s, t < n → s < 4 → B2 q 0 (4 * t + s) = 0) ∧ ∀ a, 4 * n ≤ a → B2 q 0 a = B q 0 a) : SI A2 B2 n (c + 1) := by
  have gA : But [4, 9] A2 A := But_t (But_w bgA_o rfl) (But_w fA rfl)
  have gB : But [29, 60, 63, 64] B2 B := But_t (But_w bgB_o rfl) (But_w fB rfl)
  have b29 : ∀ j, j ≠ 0 → j ≠ 37 → j ≠ 43 → B2 29 0 j = B 29 0 j := fun j x1 x2 x3 => by rw [But_q fB rfl, bgB_29 j x1 x2 x3]
  have a4 : ∀ j, j ≠ 6 → j ≠ 7 → A2 4 0 j = A 4 0 j := fun j x1 x2 => by
    rw [But_q fA rfl]
    unfold bgA
    rw [gU_k x2, gU_k x1]
  have e37 : B2 29 0 37 = (N : Int) := by
    rw [But_q fB rfl]
    unfold bgB
    rw [gU_k (by decide), gU_s]
  have e43 : B2 29 0 43 = 0 := by
    rw [But_q fB rfl]
    unfold bgB
    rw [gU_s]
  have e46 : A2 4 0 6 = (N : Int) := by
    rw [But_q fA rfl]
    unfold bgA
    rw [gU_k (by decide), gU_s]
  have e47 : A2 4 0 7 = (b : Int) + 1 := by
    rw [But_q fA rfl]
    unfold bgA
    rw [gU_s]
  have n14 := h2.1
  have hN14 := p14 hN n14
  have nd : ∀ t, t < 31 → (ndd B2 t ↔ N.testBit t = true) := fun t ht => by
    unfold ndd
    rw [e37]
    exact bit_1 (lt14_31 hN14) ht
  have tD : Td B B2 := fun q hq => gB q (fun m => by simp only [List.mem_cons, List.not_mem_nil, or_false] at m hq; omega)
  have ao : ∀ t s, aOK B2 n t s ↔ aOK B n t s := fun t s => aOK_t tD n t s
  have b60 : ∀ t s, s < 4 → aOK B2 n t s → B2 60 0 (4 * t + s) = 0 := fun t s hs ho => (bN 60 (by decide)).1 t s ho.1 hs
  have lt31 : ∀ {t}, t < n → t < 31 := fun {t} ht => Nat.lt_of_lt_of_le (Nat.lt_of_lt_of_le ht n14) (by decide)
  have idle : ∀ w, w < 4 → B 54 0 w = -1 := fun w hw => by
    rcases (RW_iff.mp h5).2.1 w hw with q | ⟨t, s, q⟩
    · exact q
    · have := busy_g h7 (Or.inl hg) q
      rw [hg] at this
      exact absurd this ne01
  obtain ⟨k1, k2, k3, k4, ⟨b', hb', hb2⟩, ⟨w, hw, hw2⟩, k7, k8, k9, k10, k11, k12⟩ := h6
  have ebb : b' = b := Int.ofNat_inj.mp (hb2.1.symm.trans hb)
  subst ebb
  have far : ∀ a, 4 * n ≤ a → ∀ t s : Nat, t < n → (s : Int) < B 38 0 t → a ≠ 4 * t + s := fun a ha t s ht hs => by
    have := sh4 h2 t ht
    omega
  have cas : ∀ a, (∃ t s, t < n ∧ s < 4 ∧ a = 4 * t + s) ∨ 4 * n ≤ a := fun a => by
    rcases Nat.lt_or_ge a (4 * n) with q | q
    · exact Or.inl ⟨a / 4, a % 4, by omega, by omega, by omega⟩
    · exact Or.inr q
  have nao : ∀ t s, s < 4 → ¬ aOK B n t s → ∀ t' s' : Nat, t' < n → (s' : Int) < B 38 0 t' → 4 * t + s ≠ 4 * t' + s' := fun t s hs ho t' s' ht' hs' q => by
    have h4' := sh4 h2 t' ht'
    have e := four hs (show s' < 4 by omega) q
    rw [e.1, e.2] at ho
    exact ho ⟨ht', hs'⟩
  have up : (b' : Int) + 1 = ((b' + 1 : Nat) : Int) := rfl
  refine ⟨RS_c h1 (fun q hq => by rw [But_l gA (K := [12, 13, 14, 15, 16]) rfl q hq]) (by rw [But_q gA rfl]) (But_l gB rfl) (b29 4 (by decide) (by decide) (by decide)), RT_c h2 (But_l gA rfl) (by rw [But_q gA rfl]) (fun t k _ => by rw [But_q gA rfl]) (But_l gB rfl) (b29 7 (by decide) (by decide) (by decide)), RC_c h3 (But_q gA rfl) (But_q gA rfl) (But_l gB rfl) (b29 21 (by decide) (by decide) (by decide)), RO_c h4 (a4 9 (by decide) (by decide)) (a4 10 (by decide) (by decide)) (But_q gA rfl) (by rw [But_q gA rfl]) (b29 19 (by decide) (by decide) (by decide)) (b29 20 (by decide) (by decide) (by decide)) (b29 49 (by decide) (by decide) (by decide)) (But_q gB rfl), ?_, ?_, ?_, ?_, ?_⟩
  · obtain ⟨i1, i2, i3⟩ := RW_iff.mp h5
    refine RW_iff.mpr ⟨⟨?_, ?_⟩, fun w hw => Or.inl (by rw [But_q gB rfl]; exact idle w hw), W4_sub i3 (fun v hv => Or.inl (by rw [But_q gB rfl]; exact idle v hv))⟩
    · rw [But_q gA rfl, But_q gB rfl, But_q gB rfl, But_q gB rfl, But_q gB rfl, But_q gB rfl, But_q gB rfl, But_q gB rfl]
      exact i1.1
    · rw [But_q gA rfl, But_q gB rfl, But_q gB rfl, But_q gB rfl]
      exact i1.2
  · refine ⟨by rw [e46, e37], by rw [a4 8 (by decide) (by decide), b29 36 (by decide) (by decide) (by decide)]; exact k2, by rw [b29 36 (by decide) (by decide) (by decide)]; exact k3.imp id (fun z => ⟨z.1, by rw [e47.trans up]; omega⟩), ⟨N, hN, e37⟩, ⟨b' + 1, Nat.succ_le_succ hb', e47.trans up, ⟨0, by decide, e43⟩, fun t ht => ?_⟩, ⟨w, Nat.le_trans hw (Nat.mul_le_mul_left 50 (Nat.le_succ c)), by rw [But_q gA rfl]; exact hw2.1, by rw [b29 48 (by decide) (by decide) (by decide)]; exact hw2.2.1, by rw [But_q gB rfl]; exact fun a => up65 (hw2.2.2 a)⟩, fun a => ?_, fun t s ht hs => ?_, fun t ht => ?_, fun t s hs ho hd hx => ?_, fun t s ht hs ho => ?_, fun t s hs ho hd => ?_⟩
    · rw [But_q gA rfl, e43]
      have q := (hb2.2.2 t ht).1
      refine ⟨by omega, fun _ => ⟨fun z => by omega, fun z => absurd z (gsr0 t)⟩⟩
    · obtain ⟨y1, y2, y3, y4, y5, y6, y7, y8⟩ := k7 a
      rw [a27 a 3 (by decide) (by decide), a27 a 4 (by decide) (by decide), a27 a 6 (by decide) (by decide), show B2 61 = B 61 from But_q gB rfl, show B2 62 = B 62 from But_q gB rfl, show B2 65 = B 65 from But_q gB rfl]
      rcases cas a with ⟨t, s, ht, hs, rfl⟩ | q
      · rw [(bN 63 (by decide)).1 t s ht hs, (bN 64 (by decide)).1 t s ht hs]
        refine ⟨y1, y2, y3, ?_, y5, y6, ⟨by decide, by decide⟩, Or.inl rfl⟩
        by_cases ho : aOK B n t s
        · exact (aN t s ht ho.2).2
        · rw [aO _ (nao t s hs ho), y4]
          exact k11 t s (Nat.lt_of_lt_of_le ht n14) hs ho
      · rw [(bN 63 (by decide)).2 a q, (bN 64 (by decide)).2 a q, aO a (far a q)]
        exact ⟨y1, y2, y3, y4, y5, y6, y7, y8⟩
    · obtain ⟨m1, m2, m3, m4⟩ := k8 t s ht hs
      refine ⟨(a27 _ 0 (by decide) (by decide)).trans m1, (a27 _ 1 (by decide) (by decide)).trans m2, fun q => ?_, fun q => ?_⟩
      · have ho := (ao t s).mp q.1
        have hb := (nd t (lt31 ho.1)).mp q.2
        rw [b60 t s hs q.1]
        refine ⟨?_, ⟨Int.le_refl _, by decide⟩, fun z => absurd z (by decide)⟩
        rw [(aN t s ho.1 ho.2).1, if_pos hb]
      · by_cases ho : aOK B n t s
        · rw [(aN t s ho.1 ho.2).1, if_neg (fun z => q ⟨(ao t s).mpr ho, (nd t (lt31 ho.1)).mpr z⟩)]
        · rw [aO _ (nao t s hs ho)]
          exact m4 (fun z => ho z.1)
    · rw [But_q gA rfl, But_q gB rfl, But_q gB rfl]
      exact k9 t ht
    · rw [b60 t s hs ho] at hx
      exact absurd hx (by decide)
    · have ho' : ¬ aOK B n t s := fun z => ho ((ao t s).mpr z)
      rcases Nat.lt_or_ge t n with q | q
      · exact (bN 63 (by decide)).1 t s q hs
      · rw [(bN 63 (by decide)).2 _ (Nat.le_trans (Nat.mul_le_mul_left 4 q) (Nat.le_add_right _ _))]
        exact k11 t s ht hs ho'
    · rw [(bN 63 (by decide)).1 t s ho.1 hs, (bN 64 (by decide)).1 t s ho.1 hs]
      exact ⟨fun _ => rfl, fun _ => rfl⟩
  · intro t u ht hd hi
    have hi := (isI_t tD t u).mp hi
    have hu := isI_lt h1 h2 ht hi
    exact (nd u (lt31 (Nat.lt_trans hu ht))).mpr (hcl t u ht ((nd t (lt31 ht)).mp hd) hi)
  · intro t s hs ho hd hx
    rw [b60 t s hs ho] at hx
    exact absurd hx (by decide)
  · intro t s hs ho hd hx
    rw [b60 t s hs ho] at hx
    exact absurd hx (by decide)
theorem gU_2 {M : gM} {r i k : Nat} {v w : Int} : gU (gU M r i k v) r i k w = gU M r i k w := by
  funext q x y
  unfold gU
  by_cases e : q = r ∧ x = i ∧ y = k
  · rw [if_pos e, if_pos e]
  · rw [if_neg e, if_neg e, if_neg e]
theorem opens_1 (M : gM) (v : Int) : f_X12_opens (gU M 29 0 36 v) = f_X12_opens M := by
  unfold f_X12_opens
  rw [gU_2]
theorem wb1 {b c : Nat} (h : b ≤ c) (hc : c ≤ 600) : wI ((b : Int) + 1) = (b : Int) + 1 := by
  rw [wI_s (by omega)]
  rfl
theorem S_build {c : Nat} (hc : c ≤ 600) (v1 : Int) : Sim (Rel c) (Rel (c + 1)) (f_L_build v1) (f_X12_build v1) := by
  intro A B h
  have h0 := h
  obtain ⟨n, h1, h2, h3, h4, h5, h6, h7⟩ := h0
  have hA := h2.2.1
  have hB := h2.2.2.1
  have hn := h2.1
  have n31 : n < 31 := Nat.lt_of_le_of_lt hn (by decide)
  have hgo : A 4 0 8 = B 29 0 36 := h6.2.1
  by_cases hv : 0 < v1 ∧ v1 < ((2 ^ n : Nat) : Int)
  · by_cases hg : B 29 0 36 = 0
    · obtain ⟨x, rfl⟩ : ∃ x : Nat, v1 = (x : Int) := ⟨v1.toNat, (Int.toNat_of_nonneg (Int.le_of_lt hv.1)).symm⟩
      have hx : x < 2 ^ n := Int.ofNat_lt.mp hv.2
      have hx14 := p14 hx hn
      obtain ⟨q1, q2⟩ := wnC h1 h2 hx14
      have hN := wn_lt h1 h2 hx
      obtain ⟨b, hb1, hb, -⟩ := h6.2.2.2.2.1
      have hT1 : RT (bgA A (wnN B n x) b) B n := RT_c h2 (But_l bgA_o rfl) (by rw [But_q bgA_o rfl]) (fun t k _ => by rw [But_q bgA_o rfl]) (fun _ _ => rfl) rfl
      obtain ⟨A2, r1, r2, r3, r4, r5⟩ := begL (k := fun (y2_26_96 : Int) (M_26_96 : gM) => ob (f_X2_settle M_26_96) fun r97 => some ((y2_26_96, r97))) hT1 q2 (show bgA A (wnN B n x) b 4 0 6 = _ by unfold bgA; rw [gU_k (by decide), gU_s])
      obtain ⟨B2, s1, s2, s3⟩ := bldL (M0 := bgB B (wnN B n x)) (k := fun (y2_58_146 : Int) (M_58_146 : gM) => ob (f_X12_opens (gU M_58_146 29 0 36 1)) fun r152 => some ((y2_58_146, r152))) h2 q2 (by unfold bgB; rw [gU_k (by decide), gU_s]) (by rw [bgB_29 7 (by decide) (by decide) (by decide)]; exact hB) (But_q bgB_o rfl)
      have hSI := SI_bg h1 h2 h3 h4 h5 h6 h7 hg hb hN (fun t u ht hd hi => wn_cl h1 h2 n x t u (Nat.le_refl _) ht hd hi) r2 (fun a k k2 k7 => (r3 a k k2 k7).trans (by rw [But_q bgA_o rfl])) r4 (fun a ha => (r5 a ha).trans (by rw [But_q bgA_o rfl])) s2 (fun q hq => ⟨(s3 q hq).1, fun a ha => ((s3 q hq).2 a ha).trans (by rw [bgB_o q (fun m => by simp only [List.mem_cons, List.not_mem_nil, or_false] at m hq; omega)])⟩)
      obtain ⟨A3, B3, t1, t2, t3, t4, t5, t6, t7, t8⟩ := setCM hSI (by
        rw [But_q r2 rfl]
        unfold bgA
        rw [gU_s]
        omega)
      have w1 := wb1 hb1 hc
      have e1 : f_L_build (x : Int) A = some (0, gU A3 75 0 0 ((opn B (wnN B n x) n : Nat) : Int)) := by
        unfold f_L_build f_X11_build
        dsimp only [oj]
        rw [if_pos hv.1, hA, gShl_n n31, if_pos hv.2, cArg, if_neg ne10, ob_s, ox_r, if_pos (hgo.trans hg), cSta, if_neg ne10, ob_s, ox_r]
        unfold f_X2_begin
        rw [q1, ob_s, gU_k (by decide), hb, w1]
        show ob (ob (f_X2_begin_L26 (fun (y2_26_96 : Int) (M_26_96 : gM) => ob (f_X2_settle M_26_96) fun r97 => some ((y2_26_96, r97))) 64 0 0 (bgA A (wnN B n x) b)) _) _ = _
        rw [r1, t1]
        rfl
      have e2 : f_X12_build (x : Int) B = some (((opn B (wnN B n x) n : Nat) : Int), B3) := by
        unfold f_X12_build
        dsimp only [oj]
        rw [if_pos hv.1, hB, gShl_n n31, if_pos hv.2, hg, if_pos rfl, asked_11]
        dsimp only
        rw [if_neg ne10, wnM (RS_0 0 h1) (RT_0 0 h2) hx14, ob_s, wnN_0]
        show f_X12_build_L58 (fun (y2_58_146 : Int) (M_58_146 : gM) => ob (f_X12_opens (gU M_58_146 29 0 36 1)) fun r152 => some ((y2_58_146, r152))) 64 0 0 (bgB B (wnN B n x)) = _
        rw [s1, opens_1, t2]
        rfl
      have f3 : But [4, 9, 23, 24] A3 A := But_t (But_t (But_w bgA_o rfl) (But_w r2 rfl)) t5
      have g3 : But [29, 60, 61, 62, 63, 64, 68] B3 B := But_t (But_t (But_w bgB_o rfl) (But_w s2 rfl)) (But_w t7 rfl)
      refine ⟨_, _, _, _, e1, e2, ?_, fun _ => gU_s _ _ _ _ _, Rel_out _ ⟨n, t3.1, t3.2.1, t3.2.2.1, t3.2.2.2.1, t3.2.2.2.2.1, t3.2.2.2.2.2.1, t4⟩, fun q q1 q2 => ?_, But_m g3 rfl⟩
      · rw [t8 0 (by decide), But_q s2 rfl]
        unfold bgB
        rw [gU_k (by decide), gU_k (by decide), gU_s]
      · rw [gU_r q2]
        exact But_c f3 rfl q q1 q2
    · have e1 : f_L_build v1 A = some (2, A) := by
        unfold f_L_build f_X11_build
        dsimp only [oj]
        rw [if_pos hv.1, hA, gShl_n n31, if_pos hv.2, cArg, if_neg ne10, ob_s, ox_r, if_neg (fun q => hg (hgo.symm.trans q)), cSta, if_pos rfl, ob_s, ox_l]
        rfl
      have e2 : f_X12_build v1 B = some (0, gU B 29 0 0 2) := by
        unfold f_X12_build
        dsimp only [oj]
        rw [if_pos hv.1, hB, gShl_n n31, if_pos hv.2, if_neg hg, asked_10]
        dsimp only
        rw [if_pos rfl]
      exact ⟨_, _, _, _, e1, e2, gU_s _ _ _ _ _, fun q => absurd q (by decide), Rel_thr _ (Rel_up h), fun q _ _ => rfl, fun q hq => gU_r (by omega)⟩
  · have e1 : f_L_build v1 A = some (1, A) := by
      unfold f_L_build f_X11_build
      dsimp only [oj]
      rw [hA, gShl_n n31]
      by_cases a : 0 < v1
      · rw [if_pos a, if_neg (fun q => hv ⟨a, q⟩), cArg, if_pos rfl, ob_s, ox_l]
        rfl
      · rw [if_neg a, cArg, if_pos rfl, ob_s, ox_l]
        rfl
    have e2 : f_X12_build v1 B = some (0, gU B 29 0 0 1) := by
      unfold f_X12_build
      dsimp only [oj]
      rw [hB, gShl_n n31]
      by_cases a : 0 < v1
      · rw [if_pos a, if_neg (fun q => hv ⟨a, q⟩)]
        by_cases g : B 29 0 36 = 0
        · rw [if_pos g, asked_0]
          dsimp only
          rw [if_pos rfl]
        · rw [if_neg g, asked_0]
          dsimp only
          rw [if_pos rfl]
      · rw [if_neg a]
        by_cases g : B 29 0 36 = 0
        · rw [if_pos g, asked_0]
          dsimp only
          rw [if_pos rfl]
        · rw [if_neg g, asked_0]
          dsimp only
          rw [if_pos rfl]
    exact ⟨_, _, _, _, e1, e2, gU_s _ _ _ _ _, fun q => absurd q (by decide), Rel_thr _ (Rel_up h), fun q _ _ => rfl, fun q hq => gU_r (by omega)⟩
