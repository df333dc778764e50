/-! ## p29: a build is begun, and passes to its end -/
theorem does_pass {v2 v3 v : Int} {M M' : gM} (h : f_X11_pass v2 M = some (Sum.inr (v, M'))) : f_P_does 7 v2 v3 M = some (v, M') := by
  unfold f_P_does
  rw [if_neg (by decide), if_neg (by decide), if_neg (by decide), if_neg (by decide), if_neg (by decide), if_neg (by decide), if_neg (by decide), if_pos rfl, h]
  rfl
theorem does_build {v2 v3 v : Int} {M M' : gM} (h : f_X11_build v2 M = some (Sum.inr (v, M'))) : f_P_does 6 v2 v3 M = some (v, M') := by
  unfold f_P_does
  rw [if_neg (by decide), if_neg (by decide), if_neg (by decide), if_neg (by decide), if_neg (by decide), if_neg (by decide), if_pos rfl, h]
  rfl
theorem b1z (b : Nat) : (1 : Int) ≤ (b : Int) + 1 := by omega
/-- the build's beginning, up to its settling -/
theorem bld0 {A B : gM} {n c x : Nat} (hc : c ≤ 600) (h : RA n c A B) (hg : B 29 0 36 = 0) (hx0 : 0 < x) (hx : x < 2 ^ n) : ∃ A2 B2 : gM, SI A2 B2 n (c + 1) ∧ 1 ≤ A2 4 0 7 ∧ (∀ A3, f_X2_settle A2 = some A3 → f_X11_build (x : Int) A = some (Sum.inr (((opn B (wnN B n x) n : Nat) : Int), A3))) ∧ But [4, 9] A2 A ∧ But [29, 60, 63, 64] B2 B ∧ (∀ j, j ≠ 0 → j ≠ 37 → j ≠ 43 → B2 29 0 j = B 29 0 j) ∧ B2 29 0 37 = ((wnN B n x : Nat) : Int) ∧ wnN B n x < 16384 ∧ ∀ q, q ∈ [60, 63, 64] → ∀ t s, t < n → s < 4 → B2 q 0 (4 * t + s) = 0 := by
  obtain ⟨h1, h2, h3, h4, h5, h6, h7⟩ := h
  have hA := h2.2.1
  have hB := h2.2.2.1
  have hn := h2.1
  have n31 : n < 31 := Nat.lt_of_le_of_lt hn (by decide)
  have hgo : A 4 0 8 = B 29 0 36 := h6.2.1
  have hv1 : 0 < (x : Int) := by omega
  have hv2 : (x : Int) < ((2 ^ n : Nat) : Int) := Int.ofNat_lt.mpr hx
  have hx14 := p14 hx hn
  obtain ⟨q1, q2⟩ := wnC h1 h2 hx14
  have hN := wn_lt h1 h2 hx
  obtain ⟨b, hb1, hb, -⟩ := h6.2.2.2.2.1
  have hT1 : RT (bgA A (wnN B n x) b) B n := RT_c h2 (But_l bgA_o rfl) (by rw [But_q bgA_o rfl]) (fun t k _ => by rw [But_q bgA_o rfl]) (fun _ _ => rfl) rfl
  obtain ⟨A2, r1, r2, r3, r4, r5⟩ := begL (k := fun (y2_26_96 : Int) (M_26_96 : gM) => ob (f_X2_settle M_26_96) fun r97 => some ((y2_26_96, r97))) hT1 q2 (show bgA A (wnN B n x) b 4 0 6 = _ by unfold bgA; rw [gU_k (by decide), gU_s])
  obtain ⟨B2, s1, s2, s3⟩ := bldL (M0 := bgB B (wnN B n x)) (k := fun (y2_58_146 : Int) (M_58_146 : gM) => ob (f_X12_opens (gU M_58_146 29 0 36 1)) fun r152 => some ((y2_58_146, r152))) h2 q2 (by unfold bgB; rw [gU_k (by decide), gU_s]) (by rw [bgB_29 7 (by decide) (by decide) (by decide)]; exact hB) (But_q bgB_o rfl)
  have hSI := SI_bg h1 h2 h3 h4 h5 h6 h7 hg hb hN (fun t u ht hd hi => wn_cl h1 h2 n x t u (Nat.le_refl _) ht hd hi) r2 (fun a k k2 k7 => (r3 a k k2 k7).trans (by rw [But_q bgA_o rfl])) r4 (fun a ha => (r5 a ha).trans (by rw [But_q bgA_o rfl])) s2 (fun q hq => ⟨(s3 q hq).1, fun a ha => ((s3 q hq).2 a ha).trans (by rw [bgB_o q (fun m => by simp only [List.mem_cons, List.not_mem_nil, or_false] at m hq; omega)])⟩)
  have w1 := wb1 hb1 hc
  refine ⟨A2, B2, hSI, ?_, fun A3 t1 => ?_, But_t (But_w bgA_o rfl) (But_w r2 rfl), But_t (But_w bgB_o rfl) (But_w s2 rfl), fun j j1 j2 j3 => by rw [But_q s2 rfl, bgB_29 j j1 j2 j3], ?_, q2, fun q hq => (s3 q hq).1⟩
  · rw [But_q r2 rfl]
    unfold bgA
    rw [gU_s]
    exact b1z b
  · unfold f_X11_build
    dsimp only [oj]
    rw [if_pos hv1, hA, gShl_n n31, if_pos hv2, cArg, if_neg ne10, ob_s, ox_r, if_pos (hgo.trans hg), cSta, if_neg ne10, ob_s, ox_r]
    unfold f_X2_begin
    rw [q1, ob_s, gU_k (by decide), hb, w1]
    show ob (f_X2_begin_L26 (fun (y2_26_96 : Int) (M_26_96 : gM) => ob (f_X2_settle M_26_96) fun r97 => some ((y2_26_96, r97))) 64 0 0 (bgA A (wnN B n x) b)) _ = _
    rw [r1, t1]
    rfl
  · rw [But_q s2 rfl]
    unfold bgB
    rw [gU_k (by decide), gU_s]
theorem opn_pos {B : gM} {N t : Nat} (hN : N.testBit t = true) (h1 : 1 ≤ B 38 0 t) : ∀ m, t < m → 1 ≤ opn B N m := by
  intro m
  induction m with
  | zero => intro q; exact absurd q (Nat.not_lt_zero _)
  | succ m ih =>
    intro q
    rw [opn_s]
    by_cases e : t = m
    · subst e
      rw [if_pos hN]
      omega
    · have := ih (by omega)
      omega
theorem bit_of {x : Nat} (h : 0 < x) : ∃ t, x.testBit t = true := by
  refine Classical.byContradiction (fun no => ?_)
  have e : x = 0 := bits_ext (fun t => ⟨fun q => absurd ⟨t, q⟩ no, fun q => by rw [Nat.zero_testBit] at q; cases q⟩)
  omega
theorem bit_lt {x n t : Nat} (hx : x < 2 ^ n) (h : x.testBit t = true) : t < n := by
  refine Classical.byContradiction (fun no => ?_)
  rw [Nat.testBit_lt_two_pow (Nat.lt_of_lt_of_le hx (Nat.pow_le_pow_right (by decide) (Nat.not_lt.mp no)))] at h
  cases h
def f150 (a : Nat) : Int := if a / 4 < 6 ∧ a % 4 < 2 then 150 else 0
theorem f150_s : sm f150 56 ≤ 1800 := by decide
theorem XX_0 {A2 B2 B : gM} {n c : Nat} (h : SI A2 B2 n c) (fB : But [29, 60, 63, 64] B2 B) (h21 : B2 29 0 21 = B 29 0 21) (hE : XE B) (h60 : ∀ t s, t < n → s < 4 → B2 60 0 (4 * t + s) = 0) : XX B2 n := by
  obtain ⟨h1, h2, h3, h4, h5, h6, g1', g2, g4⟩ := h
  refine ⟨g1', XE_c hE h21 (But_l fB rfl), fun t s hs ho _ h3 => ?_, fun w t s hw hs h54 => ?_⟩
  · rw [h60 t s ho.1 hs] at h3
    exact absurd h3 (by decide)
  · rcases (RW_iff.mp h5).2.1 w hw with z | ⟨t', s', z1, z2, z3, z4, z5, -⟩
    · rw [z] at h54; omega
    · rw [h60 t' s' z3.1 z2] at z5
      exact absurd z5 (by decide)
theorem PM_0 {B2 : gM} {n : Nat} (hn : n ≤ 6) (hsh : ∀ t, t < n → B2 38 0 t ≤ 2) (h60 : ∀ q, q ∈ [60, 63, 64] → ∀ t s, t < n → s < 4 → B2 q 0 (4 * t + s) = 0) : PM B2 n 1800 := by
  refine ⟨f150, fun a => ?_, f150_s, fun t s hs ho _ _ => ?_⟩
  · unfold f150
    by_cases q : a / 4 < 6 ∧ a % 4 < 2
    · rw [if_pos q]; decide
    · rw [if_neg q]; decide
  · have s2 : s < 2 := by
      have := ho.2
      have := hsh t ho.1
      omega
    have t6 := ho.1
    rw [h60 60 (by decide) t s ho.1 hs, h60 63 (by decide) t s ho.1 hs]
    refine ⟨by decide, by decide, fun _ => ?_, fun z => absurd z (by decide)⟩
    unfold f150
    rw [if_pos (by omega)]
    decide
/-- the first build: it begins -/
theorem bldX {A B : gM} {n c x : Nat} (hc : c ≤ 600) (h : RA n c A B) (hg : B 29 0 36 = 0) (hx0 : 0 < x) (hx : x < 2 ^ n) (hE : XE B) (hn : n ≤ 6) (hsh : ∀ t, t < n → B 38 0 t ≤ 2) : ∃ (m : Int) (A' B' : gM), f_X11_build (x : Int) A = some (Sum.inr (m, A')) ∧ 0 < m ∧ RA n (c + 1) A' B' ∧ XX B' n ∧ PG B' n 1800 ∧ But [4, 9, 23, 24] A' A ∧ But [29, 60, 61, 62, 63, 64, 68] B' B ∧ B' 29 0 37 = ((wnN B n x : Nat) : Int) ∧ wnN B n x < 16384 ∧ ∀ j, j ≠ 0 → j ≠ 36 → j ≠ 37 → j ≠ 43 → B' 29 0 j = B 29 0 j := by
  obtain ⟨A2, B2, hSI, hb1, hA3, fA, fB, b29, e37, hN, b60⟩ := bld0 hc h hg hx0 hx
  have hX := XX_0 hSI fB (b29 21 (by decide) (by decide) (by decide)) hE (b60 60 (by decide))
  have hP := PM_0 hn (fun t ht => by rw [But_q fB rfl]; exact hsh t ht) b60
  obtain ⟨A3, B3, t1, t2, t3, t4, t5, t6, t7, t8, tX, tP⟩ := setXP hSI hb1 hX hP
  obtain ⟨t, ht⟩ := bit_of hx0
  have htn := bit_lt hx ht
  have h38 : 1 ≤ B 38 0 t := (h.2.1.2.2.2.2.2.2 t htn).2.2.2.2.1.1
  have pos := opn_pos (B := B) (wn_sub (B := B) n x t ht) h38 n htn
  refine ⟨_, A3, B3, hA3 A3 t1, by omega, ⟨t3.1, t3.2.1, t3.2.2.1, t3.2.2.2.1, t3.2.2.2.2.1, t3.2.2.2.2.2.1, t4⟩, tX, Or.inr tP, But_t (But_w fA rfl) t5, But_t (But_w fB rfl) (But_w t7 rfl), ?_, hN, fun j j1 j2 j3 j4 => ?_⟩
  · rw [t8 37 (by decide)]; exact e37
  · rw [t8 j j2]; exact b29 j j1 j3 j4
theorem N50 {k : Nat} : (1800 : Int) - 50 * (k : Int) - 50 = 1800 - 50 * ((k + 1 : Nat) : Int) := by omega
/-- it passes to its end -/
theorem endsP {kont : Int → gM → Option (Int × gM)} {n : Nat} : ∀ (d k c : Nat) (A B : gM), d + k = 36 → c + d < 600 → RA n c A B → XX B n → PG B n (1800 - 50 * (k : Int)) → PW B → ∃ (A' B' : gM) (c' : Nat), c' ≤ c + d ∧ f_P_ends_L4 kont (d + 25) 1 (k : Int) A = kont 1 A' ∧ RA n c' A' B' ∧ XX B' n ∧ B' 29 0 36 = 0 ∧ But fPA A' A ∧ But fPB B' B := by
  intro d
  induction d with
  | zero =>
    intro k c A B hk hc h hX hP hp
    have k36 : k = 36 := by omega
    subst k36
    have g0 := PG_0 h hP (by decide)
    refine ⟨A, B, c, Nat.le_refl _, ?_, h, hX, g0, But_r, But_r⟩
    have e8 : f_X11_goesOn A = 0 := h.2.2.2.2.2.1.2.1.trans g0
    rw [f_P_ends_L4, if_pos (by decide), if_neg ne10, if_pos e8]
  | succ d ih =>
    intro k c A B hk hc h hX hP hp
    have hk60 : (k : Int) < 60 := by omega
    have e8 : f_X11_goesOn A = B 29 0 36 := h.2.2.2.2.2.1.2.1
    by_cases g0 : B 29 0 36 = 0
    · refine ⟨A, B, c, by omega, ?_, h, hX, g0, But_r, But_r⟩
      rw [show d + 1 + 25 = (d + 25) + 1 by omega, f_P_ends_L4, if_pos hk60, if_neg ne10, if_pos (e8.trans g0)]
    · obtain ⟨A1, B1, r1, r2, r3, r4, r5, r6, r7⟩ := passX (by omega) h hX hP hp
      rw [N50] at r7
      have hp1 : PW B1 := by
        obtain ⟨w, q1, q2⟩ := hp
        exact ⟨w, q1, by rw [But_q r5 rfl]; exact q2⟩
      obtain ⟨A', B', c', y1, y2, y3, y4, y5, y6, y7⟩ := ih (k + 1) (c + 1) A1 B1 (by omega) (by omega) r3 r6 r7 hp1
      refine ⟨A', B', c', by omega, ?_, y3, y4, y5, But_t r4 y6, But_t r5 y7⟩
      have w1 : wI ((k : Int) + 1) = ((k + 1 : Nat) : Int) := wI_s (by omega)
      rw [show d + 1 + 25 = (d + 25) + 1 by omega, f_P_ends_L4, if_pos hk60, if_neg ne10, if_neg (fun z => g0 (e8.symm.trans z)), does_pass r1, ob_s]
      dsimp only [oj]
      rw [if_pos r2, w1]
      exact y2
theorem endsPX {A B : gM} {n c : Nat} (hc : c + 36 < 600) (h : RA n c A B) (hX : XX B n) (hP : PG B n 1800) (hp : PW B) : ∃ (A' B' : gM) (c' : Nat), c' ≤ c + 36 ∧ f_P_ends A = some (1, A') ∧ RA n c' A' B' ∧ XX B' n ∧ B' 29 0 36 = 0 ∧ But fPA A' A ∧ But fPB B' B := by
  obtain ⟨A', B', c', y1, y2, y3, y4, y5, y6, y7⟩ := endsP (kont := fun (y1_4_45 : Int) (M_4_45 : gM) => if y1_4_45 = 0 then (some ((0, M_4_45))) else (if (f_X11_goesOn M_4_45) = 0 then (some ((1, M_4_45))) else (some ((0, M_4_45))))) 36 0 c A B rfl hc h hX hP hp
  refine ⟨A', B', c', y1, ?_, y3, y4, y5, y6, y7⟩
  have e8 : f_X11_goesOn A' = 0 := y3.2.2.2.2.2.1.2.1.trans y5
  unfold f_P_ends
  refine Eq.trans y2 ?_
  show (if (1 : Int) = 0 then _ else if f_X11_goesOn A' = 0 then some ((1 : Int), A') else _) = _
  rw [if_neg ne10, if_pos e8]
