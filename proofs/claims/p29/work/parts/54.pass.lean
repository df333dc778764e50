/-! ## p29: a tick, and fifty of them -/
def PW (B : gM) : Prop := ∃ w, w < 4 ∧ 0 < B 53 0 w
theorem tick1X {A B : gM} {n c : Nat} {x N : Int} (h : MI A B n c) (hc : c ≤ 600) (hx : ∀ a, B 65 0 a ≤ x - 4) (hxc : x ≤ 200 * (c : Int)) (hX : XX B n) (hP : PM B n N) (hp : PW B) : ∃ (A1 B1 : gM) (f : Int), f_X2_passTick A = (if f = 0 then some A1 else (f_X2_settle A1)) ∧ f_X12_builds B = some B1 ∧ SI A1 B1 n c ∧ B1 29 0 36 = 1 ∧ B1 29 0 48 = B 29 0 48 ∧ (∀ a, B1 65 0 a ≤ x) ∧ (f = 1 ∨ (f = 0 ∧ G0 B1 n ∧ G3 B1 n)) ∧ But [3, 7, 9, 10, 11, 23, 24] A1 A ∧ But [29, 46, 47, 48, 49, 50, 51, 52, 54, 55, 56, 57, 58, 59, 60, 61, 62, 63, 64, 65, 66, 67, 68, 73] B1 B ∧ B1 29 0 0 = B 29 0 0 ∧ XX B1 n ∧ PM B1 n (N - 1) := by
  obtain ⟨h1, h2, -, -, -, h6, -⟩ := h.1
  obtain ⟨Aw, w1, w2, w3, w4⟩ := fwC h1 h2 h6
  have hMw : MI Aw B n c := MI_f h w2 w3 But_r
  obtain ⟨A2, B2, b1, b2, hM2, hx2, fA2, fB2, hX2, hP2, hE2⟩ := begLoopX (W := fun u => Aw 7 u 10) (x := x) (k := SPB K147) hc 4 0 64 64 Aw B (nIdl_4 B) (by decide) (by decide) (by decide) hMw (fun _ _ => rfl) w4 hx hxc hX hP
  have hp2 : ∃ w, w < 4 ∧ 0 < B2 53 0 w := by
    obtain ⟨w, q1, q2⟩ := hp
    exact ⟨w, q1, by rw [But_q fB2 rfl]; exact q2⟩
  obtain ⟨rt, rs, r1, r2, r3, r4⟩ := runs hM2 hp2 hE2
  obtain ⟨A3, B3, s1, s2, hM3, fA3, fB3, hX3, hP3, hR3⟩ := spCMX K147 hM2 hX2 hP2
  have tN3 : TdN B2 B3 := TdN_9 (But_w fB3 rfl)
  obtain ⟨i1, i2, i3⟩ := RW_iff.mp hM3.1.2.2.2.2.1
  obtain ⟨A4, d1, fA4, d2⟩ := spdC (k := fun (M_25_46 : gM) => f_X2_passTick_L59 (fun (y1_59_93 : Int) (M_59_93 : gM) => if y1_59_93 = 0 then (some M_59_93) else (ob (f_X2_settle M_59_93) fun r98 => some r98)) 4 64 0 0 M_25_46) i1 i2
  obtain ⟨B4, e1, fB4, e2⟩ := spdM (k := fun (M_149_184 : gM) => f_X12_builds_L186 (fun (M_186_221 : gM) => some M_186_221) 64 0 M_149_184) i1 i2
  obtain ⟨hJ, hg, g0, g3⟩ := spdR hM3 fA4 d2 fB4 e2
  have hP4 : PM B4 n (N - 1) := PM_sp hM3.1.2.1.1 hP3 i2 fB4 (fun w q => (e2 w).1 q) ⟨rt, rs, r1, (aOK_t tN3.1 n rt rs).mpr r2, (ndd_t tN3 rt).mpr r3, hR3 _ r4⟩
  have hX4 : XX B4 n := XX_fr hX3 (TdN_9 (But_w fB4 rfl)) (But_q fB4 rfl) (by rw [But_q fB4 rfl]) (But_l fB4 rfl)
  obtain ⟨A5, B5, f, x1, x2, x3, x4, x5, x6, fA5, fB5, x7, x8, hX5, hP5⟩ := endsLX (k := fun (y1_59_93 : Int) (M_59_93 : gM) => if y1_59_93 = 0 then (some M_59_93) else (ob (f_X2_settle M_59_93) fun r98 => some r98)) (k' := fun (M_186_221 : gM) => some M_186_221) hc 4 0 64 64 A4 B4 0 rfl (by decide) (by decide) hJ hg (fun y q => absurd q (Nat.not_lt_zero _)) hX4 hP4
  have q29 : B4 29 = B 29 := (But_q fB4 rfl).trans ((But_q fB3 rfl).trans (But_q fB2 rfl))
  have q65 : B4 65 = B2 65 := (But_q fB4 rfl).trans (But_q fB3 rfl)
  refine ⟨A5, B5, f, ?_, ?_, SJ_1.mpr x3, x4, by rw [x5, q29], fun a => by rw [x6, q65]; exact hx2 a, ?_, ?_, ?_, by rw [x7, q29], hX5, hP5⟩
  · have b1' : f_X2_beginReady_L13 (fun (M_13_72 : gM) => some M_13_72) 64 0 Aw = some A2 := b1
    rw [tick_cut]
    unfold f_X2_beginReady
    rw [w1, ob_s, b1', ob_s, s1, ob_s]
    show f_X2_passTick_L25 _ 4 64 0 A3 = _
    rw [d1]
    show f_X2_passTick_L59 _ 4 64 0 ((0 : Nat) : Int) A4 = _
    rw [x1, ob_r]
  · rw [builds_cut, b2, s2]
    show f_X12_builds_L149 _ 64 0 B3 = _
    rw [e1]
    exact x2
  · rcases x8 with q | ⟨q1, q2, q3⟩
    · exact Or.inl q
    · refine Or.inr ⟨q1, ?_, ?_⟩
      · rw [q3]; exact g0
      · rw [q3]; exact g3
  · exact But_t (But_t (But_t (But_t (But_w w2 rfl) (But_w fA2 rfl)) (But_w fA3 rfl)) (But_w fA4 rfl)) fA5
  · exact But_t (But_t (But_t (But_w fB2 rfl) (But_w fB3 rfl)) (But_w fB4 rfl)) (But_w fB5 rfl)
/-- the build has ended, or goes on for N ticks at most -/
def PG (B : gM) (n : Nat) (N : Int) : Prop := B 29 0 36 = 0 ∨ PM B n N
theorem XX_48 {B : gM} {n : Nat} {v : Int} (h : XX B n) : XX (gU B 29 0 48 v) n := by
  have fB : But [29] (gU B 29 0 48 v) B := But_u But_r rfl
  exact XX_fr h (TdN_b (But_w fB rfl) (gU_k (by decide))) (But_q fB rfl) (gU_k (by decide)) (But_l fB rfl)
theorem PM_48 {B : gM} {n : Nat} {N v : Int} (h : PM B n N) : PM (gU B 29 0 48 v) n N := by
  have fB : But [29] (gU B 29 0 48 v) B := But_u But_r rfl
  exact PM_fr h (TdN_b (But_w fB rfl) (gU_k (by decide))) (But_l fB rfl)
theorem PI_stepX {A B : gM} {n c i : Nat} {N : Int} (hc : c < 600) (hi : i < 50) (h : PI n c i A B) (hX : XX B n) (hP : PG B n N) (hp : PW B) : ∃ A1 A' B' : gM, (if A 4 0 8 = 0 then some A else f_X2_passTick A) = some A1 ∧ gU A1 0 0 5 (wI (A1 0 0 5 + 1)) = A' ∧ PI n c (i + 1) A' B' ∧ But fPA A' A ∧ But fPB B' B ∧ XX B' n ∧ PG B' n (N - 1) ∧ A' 0 0 5 = A 0 0 5 + 1 := by
  obtain ⟨⟨h1, h2, h3, h4, h5, h6, h7⟩, ⟨w, hw, ew⟩, hx⟩ := h
  obtain ⟨w1, w2⟩ := pn1 hw hi
  have e48 : B 29 0 48 = (w : Int) := by
    obtain ⟨w', -, q2, q3, -⟩ := h6.2.2.2.2.2.1
    exact q3.trans (q2.symm.trans ew)
  have ww := pn2 (Nat.le_trans hw (Nat.add_le_add_left (Nat.le_of_lt hi) _)) hc
  have e8 : A 4 0 8 = B 29 0 36 := h6.2.1
  by_cases hg : B 29 0 36 = 0
  · obtain ⟨q1, q2, q3, q4, q5⟩ := R4_now (v := ((w + 1 : Nat) : Int)) h1 h2 h3 h4 h5
    refine ⟨A, _, gU B 29 0 48 ((w + 1 : Nat) : Int), if_pos (e8.trans hg), rfl, ⟨?_, ⟨w + 1, w2, ?_⟩, fun a => ?_⟩, But_u But_r rfl, But_u But_r rfl, XX_48 hX, Or.inl (by rw [gU_k (by decide)]; exact hg), ?_⟩
    · rw [ew, ww]
      exact ⟨q1, q2, q3, q4, q5, RB_now h6 w1, RG_now h7⟩
    · rw [ew, ww, gU_s]
    · rw [gU_r (by decide)]
      exact (pn3 (hx a)).1
    · rw [ew, ww, gU_s]
      rfl
  · have hg1 : B 29 0 36 = 1 := by
      rcases h6.2.2.1 with q | q
      · exact absurd q hg
      · exact q.1
    have hPM : PM B n N := hP.resolve_left hg
    obtain ⟨y0, y1, y2, y3, y4⟩ := h7.2 hg1
    have hMI : MI A B n (c + 1) := ⟨⟨h1, h2, h3, h4, h5, h6, y1, y2, y4⟩, hg1, y0, y3⟩
    obtain ⟨A1, B1, f, t1, t2, hSI, t4, t5, t6, t7, fA, fB, t8, tX, tP⟩ := tick1X (x := 200 * (c : Int) + 4 * ((i + 1 : Nat) : Int)) hMI hc (fun a => (pn3 (hx a)).2) (pn4 hi) hX hPM hp
    have b48 : B1 29 0 48 = (w : Int) := t5.trans e48
    have a5 : A1 0 0 5 = (w : Int) := by rw [But_q fA rfl]; exact ew
    have hb1 : 1 ≤ A1 4 0 7 := by
      rcases hSI.2.2.2.2.2.1.2.2.1 with q | q
      · exact absurd (t4.symm.trans q) ne10
      · exact q.2
    have hS2 := SI_now (w := w) hSI w1
    have cl : ∀ A2, (if f = 0 then some A1 else f_X2_settle A1) = some A2 → (if A 4 0 8 = 0 then some A else f_X2_passTick A) = some A2 := fun A2 q => by
      rw [if_neg (fun z => hg (e8.symm.trans z)), t1]
      exact q
    have gB : But fPB (gU B1 29 0 48 ((w + 1 : Nat) : Int)) B := But_u fB rfl
    rcases t7 with hf | ⟨hf, g0, g3⟩
    · obtain ⟨A2, B2, s1, s2, s3, s4, s5, s6, s7, s8⟩ := setCM hSI hb1
      obtain ⟨A2', B2', r1, r2, r3, r4, r5, r6, r7, r8, rX, rP⟩ := setXP hS2 (by rw [gU_r (by decide)]; exact hb1) (XX_48 (v := ((w + 1 : Nat) : Int)) tX) (PM_48 (v := ((w + 1 : Nat) : Int)) tP)
      rw [set_w, s1] at r1
      have eA : gU A2 0 0 5 ((w + 1 : Nat) : Int) = A2' := Option.some.inj r1
      have a52 : A2 0 0 5 = (w : Int) := by rw [But_q s5 rfl]; exact a5
      refine ⟨A2, A2', B2', cl A2 (by rw [if_neg (by rw [hf]; exact ne10)]; exact s1), by rw [a52, ww]; exact eA, ⟨⟨r3.1, r3.2.1, r3.2.2.1, r3.2.2.2.1, r3.2.2.2.2.1, r3.2.2.2.2.2.1, r4⟩, ⟨w + 1, w2, by rw [← eA, gU_s]⟩, fun a => ?_⟩, ?_, But_t gB (But_w r7 rfl), rX, Or.inr rP, ?_⟩
      · rw [But_q r7 rfl, gU_r (by decide)]
        exact t6 a
      · rw [← eA]
        exact But_u (But_t (But_w fA rfl) (But_w s5 rfl)) rfl
      · rw [← eA, gU_s, ew]
        rfl
    · have fB2 : But [29] (gU B1 29 0 48 ((w + 1 : Nat) : Int)) B1 := But_u But_r rfl
      have tN : TdN B1 (gU B1 29 0 48 ((w + 1 : Nat) : Int)) := TdN_b (But_w fB2 rfl) (gU_k (by decide))
      obtain ⟨x1, x2, x3, x4, x5⟩ := G_b (n := n) tN (show gU B1 29 0 48 ((w + 1 : Nat) : Int) 60 = B1 60 from But_q fB2 rfl) (But_q fB2 rfl)
      have g36 : gU B1 29 0 48 ((w + 1 : Nat) : Int) 29 0 36 = 1 := by rw [gU_k (by decide)]; exact t4
      refine ⟨A1, _, gU B1 29 0 48 ((w + 1 : Nat) : Int), cl A1 (if_pos hf), by rw [a5, ww], ⟨⟨hS2.1, hS2.2.1, hS2.2.2.1, hS2.2.2.2.1, hS2.2.2.2.2.1, hS2.2.2.2.2.2.1, ?_⟩, ⟨w + 1, w2, gU_s _ _ _ _ _⟩, fun a => ?_⟩, But_u (But_w fA rfl) rfl, gB, XX_48 tX, Or.inr (PM_48 tP), ?_⟩
      · exact ⟨fun z => absurd (g36.symm.trans z) ne10, fun _ => ⟨x5 g0, hS2.2.2.2.2.2.2.1, hS2.2.2.2.2.2.2.2.1, x4 g3, hS2.2.2.2.2.2.2.2.2⟩⟩
      · rw [gU_r (by decide)]
        exact t6 a
      · rw [gU_s, ew]
        rfl
theorem N1 {N : Int} {d : Nat} : N - 1 - (d : Int) = N - ((d + 1 : Nat) : Int) := by omega
theorem A1d {x y z : Int} {d : Nat} (h1 : y = x + 1) (h2 : z = y + (d : Int)) : z = x + ((d + 1 : Nat) : Int) := by omega
theorem passLX {n c : Nat} {v : Nat} (hc : c < 600) (hv : v ≤ 50) : ∀ (d i n1 : Nat) (A B : gM) (N : Int), i + d = v → d < n1 → PI n c i A B → XX B n → PG B n N → PW B → ∃ A' B' : gM, f_X11_pass_L21 (fun (M_21_59 : gM) => some (Sum.inr ((M_21_59 0 0 5, M_21_59)))) (v : Int) n1 (i : Int) A = some (Sum.inr (A' 0 0 5, A')) ∧ PI n c v A' B' ∧ But fPA A' A ∧ But fPB B' B ∧ XX B' n ∧ PG B' n (N - (d : Int)) ∧ A' 0 0 5 = A 0 0 5 + (d : Int) := by
  intro d
  induction d with
  | zero =>
    intro i n1 A B N hd h1 h hX hP hp
    obtain ⟨m1, rfl⟩ : ∃ m, n1 = m + 1 := ⟨n1 - 1, by omega⟩
    have e : i = v := by omega
    subst e
    refine ⟨A, B, ?_, h, But_r, But_r, hX, ?_, ?_⟩
    · rw [f_X11_pass_L21, if_neg (Int.lt_irrefl _)]
    · rw [show N - ((0 : Nat) : Int) = N from Int.sub_zero N]; exact hP
    · exact (Int.add_zero _).symm
  | succ d ih =>
    intro i n1 A B N hd h1 h hX hP hp
    obtain ⟨m1, rfl⟩ : ∃ m, n1 = m + 1 := ⟨n1 - 1, by omega⟩
    have hi : i < 50 := by omega
    have hiv : (i : Int) < (v : Int) := by omega
    have j1 : (i + 1) + d = v := by omega
    have j2 : d < m1 := by omega
    have w1 : wI ((i : Int) + 1) = ((i + 1 : Nat) : Int) := wI_s (by omega)
    obtain ⟨A1, A2, B2, s1, s2, s4, s5, s6, sX, sP, s8⟩ := PI_stepX hc hi h hX hP hp
    have hp2 : PW B2 := by
      obtain ⟨w, q1, q2⟩ := hp
      exact ⟨w, q1, by rw [But_q s6 rfl]; exact q2⟩
    obtain ⟨A', B', r1, r3, r4, r5, rX, rP, r8⟩ := ih (i + 1) m1 A2 B2 (N - 1) j1 j2 s4 sX sP hp2
    refine ⟨A', B', ?_, r3, But_t s5 r4, But_t s6 r5, rX, by rw [← N1]; exact rP, A1d s8 r8⟩
    rw [f_X11_pass_L21, if_pos hiv]
    dsimp only [oj]
    rw [w1, ← r1]
    by_cases q : A 4 0 8 = 0
    · rw [if_pos q] at s1 ⊢
      rw [Option.some.inj s1, s2]
    · rw [if_neg q] at s1 ⊢
      rw [s1, ob_s, s2]
theorem passX {A B : gM} {n c : Nat} {N : Int} (hc : c < 600) (h : RA n c A B) (hX : XX B n) (hP : PG B n N) (hp : PW B) : ∃ A' B' : gM, f_X11_pass 50 A = some (Sum.inr (A' 0 0 5, A')) ∧ 0 < A' 0 0 5 ∧ RA n (c + 1) A' B' ∧ But fPA A' A ∧ But fPB B' B ∧ XX B' n ∧ PG B' n (N - 50) := by
  obtain ⟨h1, h2, h3, h4, h5, h6, h7⟩ := h
  obtain ⟨w, hw, ew, ew2, hat⟩ := h6.2.2.2.2.2.1
  have hPI : PI n c 0 A B := ⟨⟨h1, h2, h3, h4, h5, RB_up h6, h7⟩, ⟨w, hw, ew⟩, fun a => by have := (hat a).2; omega⟩
  obtain ⟨A', B', r1, r3, r4, r5, rX, rP, r8⟩ := passLX (v := 50) hc (by decide) 50 0 64 A B N rfl (by decide) hPI hX hP hp
  refine ⟨A', B', ?_, ?_, r3.1, r4, r5, rX, rP⟩
  · have r1' : f_X11_pass_L21 (fun (M_21_59 : gM) => some (Sum.inr ((M_21_59 0 0 5, M_21_59)))) 50 64 0 A = some (Sum.inr (A' 0 0 5, A')) := r1
    unfold f_X11_pass
    dsimp only [oj]
    rw [if_neg (by decide), if_neg (by decide), cArg, if_neg ne10, ob_s, ox_r, r1']
  · rw [r8, ew]
    omega
/-- a build that may go on for no tick more has ended -/
theorem PG_0 {A B : gM} {n c : Nat} {N : Int} (h : RA n c A B) (hP : PG B n N) (hN : N ≤ 0) : B 29 0 36 = 0 := by
  obtain ⟨h1, h2, h3, h4, h5, h6, h7⟩ := h
  rcases hP with q | ⟨f, f1, f2, f3⟩
  · exact q
  · rcases h6.2.2.1 with q | ⟨q, -⟩
    · exact q
    · obtain ⟨⟨t, s, hs, ho, hd, hlt⟩, -⟩ := h7.2 q
      obtain ⟨i1, i2, i3⟩ := RW_iff.mp h5
      obtain ⟨p1, p2, p3, p4⟩ := f3 t s hs ho hd hlt
      have h56 : 4 * t + s < 56 := by
        have := ho.1
        have := h2.1
        omega
      have le := sm_at f1 56 h56
      have pos : 1 ≤ f (4 * t + s) := by
        by_cases e : B 60 0 (4 * t + s) = 2
        · obtain ⟨w, w1, w2, w3⟩ := p4 e
          have l1 : 1 ≤ B 55 0 w := by
            rcases i2 w w1 with z | ⟨t', s', z⟩
            · rw [z] at w2; omega
            · exact z.2.2.2.2.2.1
          omega
        · have := p3 e
          omega
      omega
