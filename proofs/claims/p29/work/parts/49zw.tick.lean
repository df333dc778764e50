/-! ### a tick of a build -/
def K15 (M_15 : gM) : Option gM := f_X2_passTick_L25 (fun (M_25_46 : gM) => f_X2_passTick_L59 (fun (y1_59_93 : Int) (M_59_93 : gM) => if y1_59_93 = 0 then (some M_59_93) else (ob (f_X2_settle M_59_93) fun r98 => some r98)) 4 64 0 0 M_25_46) 4 64 0 M_15
theorem tick_cut (M : gM) : f_X2_passTick M = ob (f_X2_beginReady M) fun r1 => ob (if r1 4 0 10 = 0 then some r1 else f_X2_speculate r1) K15 := by
  unfold f_X2_passTick
  congr 1
  funext r1
  show (if r1 4 0 10 = 0 then K15 r1 else ob (f_X2_speculate r1) fun r12 => K15 r12) = _
  by_cases e : r1 4 0 10 = 0
  · rw [if_pos e, if_pos e]
    rfl
  · rw [if_neg e, if_neg e]
def K147 (M_147 : gM) : Option gM := f_X12_builds_L149 (fun (M_149_184 : gM) => f_X12_builds_L186 (fun (M_186_221 : gM) => some M_186_221) 64 0 M_149_184) 64 0 M_147
theorem builds_cut (M : gM) : f_X12_builds M = ob (f_X12_next M) fun r1 => ob (f_X12_idle r1.2) fun r6 => f_X12_builds_L10 (SPB K147) 64 r1.1 r6 r1.2 := rfl
theorem tick1 {A B : gM} {n c : Nat} {x : Int} (h : MI A B n c) (hc : c ≤ 600) (hx : ∀ a, B 65 0 a ≤ x - 4) (hxc : x ≤ 200 * (c : Int)) : ∃ (A1 B1 : gM) (f : Int), f_X2_passTick A = (if f = 0 then some A1 else (f_X2_settle A1)) ∧ f_X12_builds B = some B1 ∧ SI A1 B1 n c ∧ B1 29 0 36 = 1 ∧ B1 29 0 48 = B 29 0 48 ∧ (∀ a, B1 65 0 a ≤ x) ∧ (f = 1 ∨ (f = 0 ∧ G0 B1 n ∧ G3 B1 n)) ∧ But [3, 7, 9, 10, 11, 23, 24] A1 A ∧ But [29, 46, 47, 48, 49, 50, 51, 52, 54, 55, 56, 57, 58, 59, 60, 61, 62, 63, 64, 65, 66, 67, 68, 73] B1 B ∧ B1 29 0 0 = B 29 0 0 := by
  obtain ⟨h1, h2, -, -, -, h6, -⟩ := h.1
  obtain ⟨Aw, w1, w2, w3, w4⟩ := fwC h1 h2 h6
  have hMw : MI Aw B n c := MI_f h w2 w3 But_r
  obtain ⟨A2, B2, b1, b2, hM2, hx2, fA2, fB2⟩ := begLoop (W := fun u => Aw 7 u 10) (x := x) (k := SPB K147) hc 4 0 64 64 Aw B (nIdl_4 B) (by decide) (by decide) (by decide) hMw (fun _ _ => rfl) w4 hx hxc
  obtain ⟨A3, B3, s1, s2, hM3, fA3, fB3⟩ := spCM K147 hM2
  obtain ⟨i1, i2, i3⟩ := RW_iff.mp hM3.1.2.2.2.2.1
  obtain ⟨A4, d1, fA4, d2⟩ := spdC (k := fun (M_25_46 : gM) => f_X2_passTick_L59 (fun (y1_59_93 : Int) (M_59_93 : gM) => if y1_59_93 = 0 then (some M_59_93) else (ob (f_X2_settle M_59_93) fun r98 => some r98)) 4 64 0 0 M_25_46) i1 i2
  obtain ⟨B4, e1, fB4, e2⟩ := spdM (k := fun (M_149_184 : gM) => f_X12_builds_L186 (fun (M_186_221 : gM) => some M_186_221) 64 0 M_149_184) i1 i2
  obtain ⟨hJ, hg, g0, g3⟩ := spdR hM3 fA4 d2 fB4 e2
  obtain ⟨A5, B5, f, x1, x2, x3, x4, x5, x6, fA5, fB5, x7, x8⟩ := endsL (k := fun (y1_59_93 : Int) (M_59_93 : gM) => if y1_59_93 = 0 then (some M_59_93) else (ob (f_X2_settle M_59_93) fun r98 => some r98)) (k' := fun (M_186_221 : gM) => some M_186_221) hc 4 0 64 64 A4 B4 0 rfl (by decide) (by decide) hJ hg (fun y q => absurd q (Nat.not_lt_zero _))
  have q29 : B4 29 = B 29 := (But_q fB4 rfl).trans ((But_q fB3 rfl).trans (But_q fB2 rfl))
  have q65 : B4 65 = B2 65 := (But_q fB4 rfl).trans (But_q fB3 rfl)
  refine ⟨A5, B5, f, ?_, ?_, SJ_1.mpr x3, x4, by rw [x5, q29], fun a => by rw [x6, q65]; exact hx2 a, ?_, ?_, ?_, by rw [x7, q29]⟩
  · have b1' : f_X2_beginReady_L13 (fun (M_13_72 : gM) => some M_13_72) 64 0 Aw = some A2 := b1
    rw [tick_cut]
    unfold f_X2_beginReady
    rw [w1, ob_s, b1', ob_s, s1, ob_s]
    show f_X2_passTick_L25 _ 4 64 0 A3 = _
    rw [d1]
    show f_X2_passTick_L59 _ 4 64 0 ((0 : Nat) : Int) A4 = _
    rw [x1, ob_r]
  · rw [builds_cut, b2, s2]
    show f_X12_builds_L149 _ 64 0 B3 = _
    rw [e1]
    exact x2
  · rcases x8 with q | ⟨q1, q2, q3⟩
    · exact Or.inl q
    · refine Or.inr ⟨q1, ?_, ?_⟩
      · rw [q3]; exact g0
      · rw [q3]; exact g3
  · exact But_t (But_t (But_t (But_t (But_w w2 rfl) (But_w fA2 rfl)) (But_w fA3 rfl)) (But_w fA4 rfl)) fA5
  · exact But_t (But_t (But_t (But_w fB2 rfl) (But_w fB3 rfl)) (But_w fB4 rfl)) (But_w fB5 rfl)
