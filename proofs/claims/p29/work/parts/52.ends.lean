/-! ## p29: whoever has no tick left ends, and nothing is in vain -/
theorem keepX {B B' : gM} {z : Nat} {key file con r w : Int} (hz : z ≤ 40) (h2 : B 29 0 21 = (z : Int)) (hE : XE B) (hr : r = rfc key file con) (hk : f_X12_keep key file con r w B = some B') : XE B' ∧ EM B B' ∧ (B' 29 0 21 = 40 ∨ ∃ e : Nat, (e : Int) < B' 29 0 21 ∧ B' 46 0 e = key ∧ B' 47 0 e = file ∧ B' 48 0 e = con) ∧ But [29, 46, 47, 48, 49, 50, 51, 52] B' B ∧ ∀ j, j ≠ 21 → B' 29 0 j = B 29 0 j := by
  rcases kpM (key := key) (file := file) (con := con) (r := r) (w := w) hz h2 with ⟨q1, e, e1, e2⟩ | ⟨-, M, l, q1, ql, q2, q3, q4⟩
  · have eB := Option.some.inj (hk.symm.trans q1)
    subst eB
    exact ⟨hE, EM_r rfl (fun _ _ => rfl), Or.inr ⟨e, by rw [h2]; exact Int.ofNat_lt.mpr e1, e2.1, e2.2.1, e2.2.2.1⟩, But_r, fun _ _ => rfl⟩
  · have eB := Option.some.inj (hk.symm.trans q1)
    obtain ⟨c0, c1, c2, c3, c4, c5, c6⟩ := rw7_c (B := M) (e := l) (v0 := key) (v1 := file) (v2 := con) (v3 := r) (v4 := w) (v5 := sg3 key r w) (v6 := 0)
    have hl40 : l < 40 := by
      rw [ql]
      by_cases e : z = 40
      · rw [if_pos e]; decide
      · rw [if_neg e]; omega
    have e21 : B' 29 0 21 = (l : Int) + 1 := by rw [eB, gU_s]
    have rr : ∀ q, q ≠ 29 → B' q = rw7 M l key file con r w (sg3 key r w) 0 q := fun q hq => by rw [eB, gU_r hq]
    have d0 : ∀ x, B' 46 0 x = if x = l then key else M 46 0 x := fun x => by rw [rr 46 (by decide)]; exact c0 x
    have d1 : ∀ x, B' 47 0 x = if x = l then file else M 47 0 x := fun x => by rw [rr 47 (by decide)]; exact c1 x
    have d2 : ∀ x, B' 48 0 x = if x = l then con else M 48 0 x := fun x => by rw [rr 48 (by decide)]; exact c2 x
    have d3 : ∀ x, B' 49 0 x = if x = l then r else M 49 0 x := fun x => by rw [rr 49 (by decide)]; exact c3 x
    have d4 : ∀ x, B' 50 0 x = if x = l then w else M 50 0 x := fun x => by rw [rr 50 (by decide)]; exact c4 x
    have d5 : ∀ x, B' 51 0 x = if x = l then sg3 key r w else M 51 0 x := fun x => by rw [rr 51 (by decide)]; exact c5 x
    have d6 : ∀ x, B' 52 0 x = if x = l then 0 else M 52 0 x := fun x => by rw [rr 52 (by decide)]; exact c6 x
    have old : ∀ e, e < l → ∃ e' : Nat, (e' : Int) < B 29 0 21 ∧ ∀ q, q ∈ [46, 47, 48, 49, 50, 51, 52] → M q 0 e = B q 0 e' := fun e he => by
      by_cases e40 : z = 40
      · rw [if_pos e40] at ql
        refine ⟨e + 1, by rw [h2]; omega, fun q hq => ?_⟩
        rw [q4 q hq, if_pos ⟨e40, by omega⟩]
      · rw [if_neg e40] at ql
        refine ⟨e, by rw [h2]; omega, fun q hq => ?_⟩
        rw [q4 q hq, if_neg (fun y => e40 y.1)]
    refine ⟨fun e he => ?_, ⟨fun q => ?_, ?_⟩, Or.inr ⟨l, by rw [e21]; omega, by rw [d0, if_pos rfl], by rw [d1, if_pos rfl], by rw [d2, if_pos rfl]⟩, ?_, fun j hj => ?_⟩
    · unfold sgB
      rw [d0, d1, d2, d3, d4, d5, d6]
      by_cases e' : e = l
      · rw [if_pos e', if_pos e', if_pos e', if_pos e', if_pos e', if_pos e', if_pos e']
        exact ⟨rfl, rfl, hr⟩
      · rw [if_neg e', if_neg e', if_neg e', if_neg e', if_neg e', if_neg e', if_neg e']
        rw [e21] at he
        obtain ⟨y, y1, y2⟩ := old e (by omega)
        rw [y2 46 (by decide), y2 47 (by decide), y2 48 (by decide), y2 49 (by decide), y2 50 (by decide), y2 51 (by decide), y2 52 (by decide)]
        exact hE y y1
    · rw [e21]
      have e40 : z = 40 := by rw [h2] at q; omega
      rw [if_pos e40] at ql
      rw [ql]
      rfl
    · by_cases e40 : z = 40
      · rw [if_pos e40] at ql
        exact Or.inl (by rw [e21, ql]; rfl)
      · rw [if_neg e40] at ql
        refine Or.inr ⟨by rw [e21, h2]; omega, fun e he => ?_⟩
        rw [h2] at he
        have ne : ¬ e = l := by omega
        have nz : ¬ (z = 40 ∧ e < 39) := fun y => e40 y.1
        rw [d0, d1, d2, if_neg ne, if_neg ne, if_neg ne, q4 46 (by decide), q4 47 (by decide), q4 48 (by decide), if_neg nz, if_neg nz, if_neg nz]
        exact ⟨rfl, rfl, rfl⟩
    · rw [eB]
      exact But_u (But_t (But_w q2 rfl) (But_w rw7_o rfl)) rfl
    · rw [eB, gU_k hj, But_q rw7_o rfl]
      exact q3 j hj
theorem pc3 {x l v : Int} (h0 : 0 ≤ l) (h3 : (2 - x) * 50 + l ≤ v) : (3 - (x + 1)) * 50 ≤ v := by omega
theorem end_XP {A B B2 B' : gM} {n c w t s : Nat} {N : Int} (h : SJ 0 A B n c) (hX : XX B n) (hP : PM B n N) (hat : atA 0 B n w t s) (fB : But [54, 59] B2 B) (b54 : ∀ x, B2 54 0 x = if x < 4 ∧ B 54 0 x = ((4 * t + s : Nat) : Int) then -1 else B 54 0 x) (f2 : But [29, 46, 47, 48, 49, 50, 51, 52, 60, 61, 62, 63, 64, 66, 67, 68] B' B2) (h37 : B' 29 0 37 = B2 29 0 37)
    (b60 : ∀ x, x ≠ 4 * t + s → B' 60 0 x = B2 60 0 x) (b61 : ∀ x, x ≠ 4 * t + s → B' 61 0 x = B2 61 0 x) (b63 : ∀ x, x ≠ 4 * t + s → B' 63 0 x = B2 63 0 x) (b64 : ∀ x, x ≠ 4 * t + s → B' 64 0 x = B2 64 0 x) (hE : XE B') (hM : EM B2 B')
    (hnew : B' 60 0 (4 * t + s) = 3 → brk B t (KK B t s) = 0 ∧ B' 61 0 (4 * t + s) = res B (B 30 0) t (KK B t s) ∧ (B' 64 0 (4 * t + s) = 0 → hasE B' t (KK B t s)))
    (hpc : 3 ≤ B' 60 0 (4 * t + s) ∨ (B' 60 0 (4 * t + s) = 1 ∧ B' 63 0 (4 * t + s) = B 63 0 (4 * t + s) + 1 ∧ B' 63 0 (4 * t + s) ≤ 2)) : XX B' n ∧ PM B' n N := by
  obtain ⟨e54, hs, hao, hnd, h60, -⟩ := id hat
  obtain ⟨h1, h2, h3, h4, ⟨i12, i3, i4⟩, h6, g1', g2, g4⟩ := id h
  have fA : But [29, 46, 47, 48, 49, 50, 51, 52, 54, 59, 60, 61, 62, 63, 64, 66, 67, 68] B' B := But_t (But_w fB rfl) (But_w f2 rfl)
  have q29 : B2 29 = B 29 := But_q fB rfl
  have tN : TdN B B' := TdN_b (But_w fA rfl) (by rw [h37, q29])
  have q54 : B' 54 = B2 54 := But_q f2 rfl
  have q55 : B' 55 = B 55 := But_q fA rfl
  have q57 : B' 57 = B 57 := But_q fA rfl
  have q58 : B' 58 = B 58 := But_q fA rfl
  have h3' : B 60 0 (4 * t + s) ≠ 3 := by rw [h60]; decide
  have hD : inD B n t := fun u hu y hy ho => g2 t s hs hao hnd (Or.inr h60) u hu y hy ho
  have hM' : EM B B' := by
    unfold EM at hM ⊢
    rw [q29, show B2 46 = B 46 from But_q fB rfl, show B2 47 = B 47 from But_q fB rfl, show B2 48 = B 48 from But_q fB rfl] at hM
    exact hM
  refine ⟨XX_act h1 h2 i3 g2 hX tN (But_q fA rfl) hs h3' (fun x hx => by rw [b60 x hx, But_q fB rfl]) (fun x hx => by rw [b61 x hx, But_q fB rfl]) (fun x hx => by rw [b64 x hx, But_q fB rfl]) hE hM' hao.1 (fun v hv => ?_) (fun q => ⟨hD, hnew q⟩), PM_act hP tN hs (fun x hx => by rw [b60 x hx, But_q fB rfl]) (fun x hx => by rw [b63 x hx, But_q fB rfl]) (fun v hv z _ => ?_) (fun v hv => ?_)⟩
  · rw [q54, b54]
    by_cases e : v < 4 ∧ B 54 0 v = ((4 * t + s : Nat) : Int)
    · rw [if_pos e]; exact Or.inl rfl
    · rw [if_neg e]; exact Or.inr (Or.inl ⟨rfl, by rw [q57], by rw [q58]⟩)
  · rw [q54, b54, if_neg (fun y => z y.2), q55]
    exact ⟨rfl, rfl⟩
  · intro q
    rcases hpc with y | ⟨y1, y2, y3⟩
    · omega
    · obtain ⟨p1, p2, -, p4⟩ := hv (by rw [h60]; decide)
      obtain ⟨w', r1, r2, r3⟩ := p4 h60
      have l0 : 0 ≤ B 55 0 w' := by
        rcases i3 w' r1 with z | ⟨t', s', z⟩
        · rw [z] at r2; omega
        · exact z.2.2.2.2.2.1
      rw [y1, y2]
      refine ⟨by omega, by rw [← y2]; exact y3, fun _ => pc3 l0 r3, fun z => absurd z (by decide)⟩
theorem wI_1 {x : Int} (h : 0 ≤ x) (h2 : x ≤ 2) : wI (x + 1) = x + 1 := wI_eq (by unfold nmI; omega)
theorem doneX {A B B2 B3 B' : gM} {n c w t s : Nat} {N R r67 : Int} (h : SJ 0 A B n c) (hX : XX B n) (hP : PM B n N) (hat : atA 0 B n w t s) (fB : But [54, 59] B2 B) (b54 : ∀ x, B2 54 0 x = if x < 4 ∧ B 54 0 x = ((4 * t + s : Nat) : Int) then -1 else B 54 0 x) (f3 : But [63, 68] B3 B2) (b63 : ∀ x, x ≠ 4 * t + s → B3 63 0 x = B2 63 0 x)
    (hb : brk B t (KK B t s) = 0) (hk : 0 ≤ KK B t s ∧ KK B t s ≤ 100002) (hR : R = res B (B 30 0) t (KK B t s)) (e67 : r67 = fnd B t (KK B t s)) (hsm : same B t w (KK B t s))
    (he : (if 0 < B3 63 0 (4 * t + s) then some (flB (taB (S5 B3 t (4 * t + s) R w 1) 4) t) else f_X12_keep (B3 57 0 w) r67 (B3 58 0 w) R (w : Int) (S5 B3 t (4 * t + s) R w 0)) = some B') : XX B' n ∧ PM B' n N := by
  have q29 : B3 29 = B2 29 := But_q f3 rfl
  have q29' : B2 29 = B 29 := But_q fB rfl
  have fS : ∀ x, But [60, 61, 62, 63, 64, 67, 68] (S5 B3 t (4 * t + s) R w x) B2 := fun x => But_t (But_w f3 rfl) (But_w S5_o rfl)
  have k60 : ∀ x y, y ≠ 4 * t + s → S5 B3 t (4 * t + s) R w x 60 0 y = B2 60 0 y := fun x y hy => by rw [S5_60, if_neg hy, But_q f3 rfl]
  have k61 : ∀ x y, y ≠ 4 * t + s → S5 B3 t (4 * t + s) R w x 61 0 y = B2 61 0 y := fun x y hy => by rw [S5_61, if_neg hy, But_q f3 rfl]
  have k63 : ∀ x y, y ≠ 4 * t + s → S5 B3 t (4 * t + s) R w x 63 0 y = B2 63 0 y := fun x y hy => by rw [But_q S5_o rfl, b63 y hy]
  have k64 : ∀ x y, y ≠ 4 * t + s → S5 B3 t (4 * t + s) R w x 64 0 y = B2 64 0 y := fun x y hy => by rw [S5_64a, if_neg hy, But_q f3 rfl]
  have xe2 : XE B2 := XE_c hX.2.1 (by rw [q29']) (But_l fB rfl)
  by_cases q : 0 < B3 63 0 (4 * t + s)
  · rw [if_pos q] at he
    have eB := Option.some.inj he
    have fT : But [60, 61, 62, 63, 64, 67, 68] (taB (S5 B3 t (4 * t + s) R w 1) 4) B2 := But_t (fS 1) (But_w taB_o rfl)
    have fF : But [29, 60, 61, 62, 63, 64, 66, 67, 68] B' B2 := by rw [← eB]; exact But_t (But_w fT rfl) (But_w flB_o rfl)
    have g : ∀ r, r ≠ 29 → r ≠ 66 → r ≠ 68 → B' r = S5 B3 t (4 * t + s) R w 1 r := fun r h1 h2 h3 => by
      rw [← eB, flB_o r (by simp only [List.mem_cons, List.not_mem_nil, or_false]; omega), taB_o r (by simp only [List.mem_cons, List.not_mem_nil, or_false]; omega)]
    have j29 : ∀ j, j ≠ 43 → B' 29 0 j = B2 29 0 j := fun j hj => by
      rw [← eB]
      unfold flB
      rw [gU_k hj, gU_r (by decide), But_q taB_o rfl, But_q S5_o rfl, q29]
    have e60 : B' 60 0 (4 * t + s) = 3 := by rw [g 60 (by decide) (by decide) (by decide), S5_60, if_pos rfl]
    refine end_XP h hX hP hat fB b54 (But_w fF rfl) (j29 37 (by decide)) (fun x hx => by rw [g 60 (by decide) (by decide) (by decide)]; exact k60 1 x hx) (fun x hx => by rw [g 61 (by decide) (by decide) (by decide)]; exact k61 1 x hx) (fun x hx => by rw [g 63 (by decide) (by decide) (by decide)]; exact k63 1 x hx) (fun x hx => by rw [g 64 (by decide) (by decide) (by decide)]; exact k64 1 x hx) (XE_c xe2 (j29 21 (by decide)) (But_l fF rfl)) (EM_r (j29 21 (by decide)) (But_l fF rfl)) (fun _ => ⟨hb, ?_, fun z => ?_⟩) (Or.inl (by rw [e60]; decide))
    · rw [g 61 (by decide) (by decide) (by decide), S5_61, if_pos rfl, hR]
    · rw [g 64 (by decide) (by decide) (by decide), S5_64] at z
      exact absurd z (by decide)
  · rw [if_neg q] at he
    have h0 := h
    obtain ⟨-, -, ⟨z, f, p1, p2, p3, p4, p5, p6, p7⟩, -⟩ := h
    have s21 : S5 B3 t (4 * t + s) R w 0 29 0 21 = (z : Int) := by rw [But_q (fS 0) rfl, q29']; exact p6
    have xeS : XE (S5 B3 t (4 * t + s) R w 0) := XE_c xe2 (by rw [But_q (fS 0) rfl]) (But_l (fS 0) rfl)
    have w57 : B3 57 0 w = KK B t s := by rw [But_q f3 rfl, But_q fB rfl]; exact hsm.1
    have w58 : B3 58 0 w = cnt B (B 30 0) t (KK B t s) := by rw [But_q f3 rfl, But_q fB rfl]; exact hsm.2
    rw [w57, w58] at he
    obtain ⟨x1, x2, x3, x4, x5⟩ := keepX p1 s21 xeS (by rw [hR, e67]; exact res_rfc hk) he
    have fF : But [29, 46, 47, 48, 49, 50, 51, 52, 60, 61, 62, 63, 64, 67, 68] B' B2 := But_t (But_w (fS 0) rfl) (But_w x4 rfl)
    have g : ∀ r, [29, 46, 47, 48, 49, 50, 51, 52].contains r = false → B' r = S5 B3 t (4 * t + s) R w 0 r := fun r hr => But_q x4 hr
    have e60 : B' 60 0 (4 * t + s) = 3 := by rw [g 60 rfl, S5_60, if_pos rfl]
    have hM2 : EM B2 B' := by
      have y := x2
      unfold EM at y ⊢
      rw [show S5 B3 t (4 * t + s) R w 0 29 = B2 29 from But_q (fS 0) rfl, show S5 B3 t (4 * t + s) R w 0 46 = B2 46 from But_q (fS 0) rfl, show S5 B3 t (4 * t + s) R w 0 47 = B2 47 from But_q (fS 0) rfl, show S5 B3 t (4 * t + s) R w 0 48 = B2 48 from But_q (fS 0) rfl] at y
      exact y
    have fA : But [29, 46, 47, 48, 49, 50, 51, 52, 54, 59, 60, 61, 62, 63, 64, 67, 68] B' B := But_t (But_w fB rfl) (But_w fF rfl)
    refine end_XP h0 hX hP hat fB b54 (But_w fF rfl) (by rw [x5 37 (by decide), But_q (fS 0) rfl]) (fun x hx => by rw [g 60 rfl]; exact k60 0 x hx) (fun x hx => by rw [g 61 rfl]; exact k61 0 x hx) (fun x hx => by rw [g 63 rfl]; exact k63 0 x hx) (fun x hx => by rw [g 64 rfl]; exact k64 0 x hx) x1 hM2 (fun _ => ⟨hb, ?_, fun _ => ?_⟩) (Or.inl (by rw [e60]; decide))
    · rw [g 61 rfl, S5_61, if_pos rfl, hR]
    · rcases x3 with y | ⟨e, y1, y2, y3, y4⟩
      · exact Or.inl y
      · refine Or.inr ⟨e, y1, y2, ?_, ?_⟩
        · rw [y3, e67]
          unfold fnd
          rw [But_q fA rfl]
        · rw [y4, show B' 30 = B 30 from But_q fA rfl]
          unfold cnt
          rw [But_q fA rfl]
theorem endX {A B B' : gM} {n c w t s : Nat} {N : Int} (h : SJ 0 A B n c) (hw : w < 4) (hat : atA 0 B n w t s) (hX : XX B n) (hP : PM B n N) (he : f_X12_ends (w : Int) B = some B') : XX B' n ∧ PM B' n N := by
  have hat0 := hat
  obtain ⟨e54, hs, hao, hnd, h60, l1, l2, p1, p2, p3, p4, p5, p6, p7, p8⟩ := hat
  obtain ⟨h1, h2, h3, h4, ⟨i12, i3, i4⟩, h6, -⟩ := id h
  have ht := hao.1
  have ht14 : t < 14 := Nat.lt_of_lt_of_le ht h2.1
  obtain ⟨B2, mE, fB, b54, b59⟩ := freeM i4 hw ht14 hat0
  obtain ⟨A', d1, d2, d7, fA, a11⟩ := freeC (t := t) i12 hw e54 (h2.2.2.2.2.2.1 t).2.1
  have hJ := EJ_free h hw hat0 fA a11 fB b54 b59
  have tN2 : TdN B B2 := TdN_9 (But_w fB rfl)
  have e30 : B2 30 = B 30 := But_q fB rfl
  have ek : KK B2 t s = KK B t s := by
    unfold KK
    rw [keyS_t tN2.1, e30, dgS_t tN2.1 (But_q fB rfl)]
  have sm0 := hX.2.2.2 w t s hw hs e54
  have hsm : same B2 t w (KK B2 t s) := by
    unfold same at sm0 ⊢
    rw [ek, show B2 57 = B 57 from But_q fB rfl, show B2 58 = B 58 from But_q fB rfl, cnt_td tN2.1, e30]
    exact sm0
  obtain ⟨m1, -⟩ := endM hJ hw e54 rfl (by rw [show B2 39 = B 39 from But_q fB rfl, show B2 58 = B 58 from But_q fB rfl]; exact p8)
  have m1 := m1 hsm
  have hk2 := key_in hJ.1 hJ.2.1 hJ.2.2.2.2.2.1 ht hs
  have hk : 0 ≤ KK B t s ∧ KK B t s ≤ 100002 := by rw [← ek]; exact hk2
  have jm := JM_flz (A1 := f_X10_rest w (A' 7 t 4) A') (c := c) (B2 := B2) hJ.2.1 ht hs hw e54 hk2 hsm
  have eK : keyS B2 (B2 30 0) (dgS B2) t s = KK B t s := ek
  rw [mE, m1, eK, brk_td tN2.1, fnd_td tN2.1] at he
  rw [eK, fnd_td tN2.1, res_td tN2.1, e30] at jm
  have q29 : B2 29 = B 29 := But_q fB rfl
  have xe2 : XE B2 := XE_c hX.2.1 (by rw [q29]) (But_l fB rfl)
  have e63 : B2 63 = B 63 := But_q fB rfl
  obtain ⟨f63, f63'⟩ : 0 ≤ B 63 0 (4 * t + s) ∧ B 63 0 (4 * t + s) ≤ 2 := by
    obtain ⟨f, -, -, f3⟩ := hP
    obtain ⟨y1, y2, -⟩ := f3 t s hs hao hnd (by rw [h60]; decide)
    exact ⟨y1, y2⟩
  -- a plain new state, none of them DONE
  have plain : ∀ (B3 : gM) (v : Int), But [63, 68] B3 B2 → (∀ x, x ≠ 4 * t + s → B3 63 0 x = B2 63 0 x) → (v = 4 ∨ v = 1 ∧ B3 63 0 (4 * t + s) = B 63 0 (4 * t + s) + 1 ∧ B3 63 0 (4 * t + s) ≤ 2) → XX (gU B3 60 0 (4 * t + s) v) n ∧ PM (gU B3 60 0 (4 * t + s) v) n N := fun B3 v f3 b63 hv => by
    have fG : But [60, 63, 68] (gU B3 60 0 (4 * t + s) v) B2 := But_u (But_w f3 rfl) rfl
    refine end_XP h hX hP hat0 fB b54 (But_w fG rfl) (by rw [But_q fG rfl]) (fun x hx => by rw [gU_k hx, But_q f3 rfl]) (fun x _ => by rw [But_q fG rfl]) (fun x hx => by rw [gU_r (by decide)]; exact b63 x hx) (fun x _ => by rw [But_q fG rfl]) (XE_c xe2 (by rw [But_q fG rfl]) (But_l fG rfl)) (EM_r (by rw [But_q fG rfl]) (But_l fG rfl)) (fun q => ?_) ?_
    · rw [gU_s] at q
      rcases hv with y | ⟨y, -⟩ <;> rw [y] at q <;> exact absurd q (by decide)
    · rw [gU_s, gU_r (by decide)]
      rcases hv with y | ⟨y, y2⟩
      · exact Or.inl (by rw [y]; decide)
      · exact Or.inr ⟨y, y2⟩
  by_cases hb : brk B t (KK B t s) = 0
  · rw [if_pos hb, jm] at he
    have dn : ∀ B3 : gM, But [63, 68] B3 B2 → (∀ x, x ≠ 4 * t + s → B3 63 0 x = B2 63 0 x) → DM (w : Int) B (fnd B t (KK B t s)) (res B (B 30 0) t (KK B t s)) B3 = some B' → XX B' n ∧ PM B' n N := fun B3 f3 b63 hd => by
      rw [DM_eq ht14 hs hw e54] at hd
      exact doneX h hX hP hat0 fB b54 f3 b63 hb hk rfl rfl sm0 hd
    have z01 : flz B2 t (4 * t + s) (res B (B 30 0) t (KK B t s)) = 0 ∨ flz B2 t (4 * t + s) (res B (B 30 0) t (KK B t s)) = 1 := by
      unfold flz
      by_cases q : B2 35 0 t = 2
      · rw [if_pos q]
        by_cases y : gRem (res B (B 30 0) t (KK B t s)) 4 = 0
        · rw [if_pos y]; exact Or.inr rfl
        · rw [if_neg y]
          by_cases z : gRem (wI (wI (3 * B2 65 0 (4 * t + s)) + res B (B 30 0) t (KK B t s))) 5 < B2 40 0 t
          · rw [if_pos z]; exact Or.inr rfl
          · rw [if_neg z]; exact Or.inl rfl
      · rw [if_neg q]; exact Or.inl rfl
    rcases z01 with z | z
    · rw [z, FM_0] at he
      exact dn B2 But_r (fun _ _ => rfl) he
    · rw [z, FM_1 ht14 hs e54] at he
      have fF : But [63, 68] (failB B2 (4 * t + s)) B2 := failB_o
      have bF : ∀ x, x ≠ 4 * t + s → failB B2 (4 * t + s) 63 0 x = B2 63 0 x := fun x hx => by
        unfold failB
        rw [gU_k hx, But_q taB_o rfl]
      have vF : failB B2 (4 * t + s) 63 0 (4 * t + s) = B 63 0 (4 * t + s) + 1 := by
        unfold failB
        rw [gU_s, e63, wI_1 f63 f63']
      by_cases q : failB B2 (4 * t + s) 63 0 (4 * t + s) < 3
      · rw [if_pos q] at he
        rw [← Option.some.inj he]
        exact plain _ 1 fF bF (Or.inr ⟨rfl, vF, by omega⟩)
      · rw [if_neg q] at he
        by_cases y : B2 66 0 t < 2
        · rw [if_pos y] at he
          rw [← Option.some.inj he]
          exact plain _ 4 fF bF (Or.inl rfl)
        · rw [if_neg y] at he
          exact dn _ fF bF he
  · rw [if_neg hb] at he
    rw [← Option.some.inj he]
    exact plain B2 4 But_r (fun _ _ => rfl) (Or.inl rfl)
theorem endsLX {n c : Nat} {N : Int} {k : Int → gM → Option gM} {k' : gM → Option gM} (hc : c ≤ 600) : ∀ (d i n1 n2 : Nat) (A B : gM) (f : Int), i + d = 4 → d < n1 → d < n2 → SJ 0 A B n c → B 29 0 36 = 1 → (∀ x, x < i → B 54 0 x = -1 ∨ 1 ≤ B 55 0 x) → XX B n → PM B n N → ∃ (A' B' : gM) (f' : Int), f_X2_passTick_L59 k 4 n1 f (i : Int) A = k f' A' ∧ f_X12_builds_L186 k' n2 (i : Int) B = k' B' ∧ SJ 1 A' B' n c ∧ B' 29 0 36 = 1 ∧ B' 29 0 48 = B 29 0 48 ∧ B' 65 = B 65 ∧ But [3, 7, 9, 10, 11, 23, 24] A' A ∧ But [29, 46, 47, 48, 49, 50, 51, 52, 54, 59, 60, 61, 62, 63, 64, 66, 67, 68] B' B ∧ B' 29 0 0 = B 29 0 0 ∧ (f' = 1 ∨ (f' = f ∧ A' = A ∧ B' = B)) ∧ XX B' n ∧ PM B' n N := by
  intro d
  induction d with
  | zero =>
    intro i n1 n2 A B f hi h1 h2 hJ hg hb hX hP
    obtain ⟨m1, rfl⟩ : ∃ m, n1 = m + 1 := ⟨n1 - 1, by omega⟩
    obtain ⟨m2, rfl⟩ : ∃ m, n2 = m + 1 := ⟨n2 - 1, by omega⟩
    have i4 : i = 4 := by omega
    subst i4
    refine ⟨A, B, f, ?_, ?_, SJ_01 hJ hb, hg, rfl, rfl, But_r, But_r, rfl, Or.inr ⟨rfl, rfl, rfl⟩, hX, hP⟩
    · rw [f_X2_passTick_L59, if_neg (by decide)]
    · rw [f_X12_builds_L186, if_neg (by decide)]
  | succ d ih =>
    intro i n1 n2 A B f hi h1 h2 hJ hg hb hX hP
    obtain ⟨m1, rfl⟩ : ∃ m, n1 = m + 1 := ⟨n1 - 1, by omega⟩
    obtain ⟨m2, rfl⟩ : ∃ m, n2 = m + 1 := ⟨n2 - 1, by omega⟩
    have hi4 : i < 4 := by omega
    have j1 : (i + 1) + d = 4 := by omega
    have j2 : d < m1 := by omega
    have j3 : d < m2 := by omega
    have g4 : (0 : Int) ≤ (i : Int) ∧ (i : Int) < 4 := by omega
    have w1 : wI ((i : Int) + 1) = ((i + 1 : Nat) : Int) := wI_s (by omega)
    obtain ⟨-, -, -, -, ⟨i1, i2, -⟩, -⟩ := id hJ
    have e3 : A 11 i 3 = B 54 0 i := (i1.1 i).2.2.1
    have e6 : A 11 i 6 = B 55 0 i := (i1.1 i).2.2.2.2.2.1
    have cl : f_X2_passTick_L59 k 4 (m1 + 1) f (i : Int) A = if f_X10_hasEnded i A = 0 then f_X2_passTick_L59 k 4 m1 f ((i + 1 : Nat) : Int) A else ob (f_X2_end i A) fun r82 => f_X2_passTick_L59 k 4 m1 1 ((i + 1 : Nat) : Int) r82 := by
      rw [f_X2_passTick_L59, if_pos g4.2, og_t g4, Int.toNat_natCast, w1]
      rfl
    have rf : f_X12_builds_L186 k' (m2 + 1) (i : Int) B = if B 54 0 i = -1 then f_X12_builds_L186 k' m2 ((i + 1 : Nat) : Int) B else if B 55 0 i = 0 then ob (f_X12_ends (i : Int) B) fun r212 => f_X12_builds_L186 k' m2 ((i + 1 : Nat) : Int) r212 else f_X12_builds_L186 k' m2 ((i + 1 : Nat) : Int) B := by
      rw [f_X12_builds_L186, if_pos g4.2, og_t g4, Int.toNat_natCast, w1]
      dsimp only [oj]
      rw [og_t g4]
    have skip : f_X10_hasEnded i A = 0 → f_X12_builds_L186 k' (m2 + 1) (i : Int) B = f_X12_builds_L186 k' m2 ((i + 1 : Nat) : Int) B → (B 54 0 i = -1 ∨ 1 ≤ B 55 0 i) → ∃ (A' B' : gM) (f' : Int), f_X2_passTick_L59 k 4 (m1 + 1) f (i : Int) A = k f' A' ∧ f_X12_builds_L186 k' (m2 + 1) (i : Int) B = k' B' ∧ SJ 1 A' B' n c ∧ B' 29 0 36 = 1 ∧ B' 29 0 48 = B 29 0 48 ∧ B' 65 = B 65 ∧ But [3, 7, 9, 10, 11, 23, 24] A' A ∧ But [29, 46, 47, 48, 49, 50, 51, 52, 54, 59, 60, 61, 62, 63, 64, 66, 67, 68] B' B ∧ B' 29 0 0 = B 29 0 0 ∧ (f' = 1 ∨ (f' = f ∧ A' = A ∧ B' = B)) ∧ XX B' n ∧ PM B' n N := fun q1 q2 q3 => by
      obtain ⟨A', B', f', x1, x2, x3⟩ := ih (i + 1) m1 m2 A B f j1 j2 j3 hJ hg (fun x hx => by
        by_cases e : x = i
        · rw [e]; exact q3
        · exact hb x (lt_ne hx e)) hX hP
      exact ⟨A', B', f', by rw [cl, if_pos q1]; exact x1, q2.trans x2, x3⟩
    rcases i2 i hi4 with q | ⟨t, s, q⟩
    · refine skip ?_ (by rw [rf, if_pos q]) (Or.inl q)
      unfold f_X10_hasEnded
      dsimp only [oj]
      rw [e3, q]
      rfl
    · obtain ⟨e54, hs, -, -, -, l1, l2, -⟩ := id q
      have n1 : ¬ B 54 0 i = -1 := by rw [e54]; omega
      have ga : gAct (A 11 i 3) = some (4 * t + s) := (gAct_iff _ _).mpr (e3.trans e54)
      have he : f_X10_hasEnded i A = if 0 < B 55 0 i then 0 else 1 := by
        unfold f_X10_hasEnded
        dsimp only [oj]
        rw [ga, om_some, e6]
      by_cases z : B 55 0 i = 0
      · obtain ⟨A1, B1, x1, x2, x3, x4, x5, x6, x7, x8, xa, xb, xc⟩ := endCM hJ hi4 q hg hc
        obtain ⟨hX1, hP1⟩ := endX hJ hi4 q hX hP x2
        obtain ⟨A', B', f', y1, y2, y3, y4, y5, y7, ya, yb, yc, y6, yX⟩ := ih (i + 1) m1 m2 A1 B1 1 j1 j2 j3 x3 x6 (fun x hx => by
          rw [x5, x4]
          by_cases e : x < 4 ∧ B 54 0 x = ((4 * t + s : Nat) : Int)
          · rw [if_pos e]; exact Or.inl rfl
          · rw [if_neg e]
            by_cases e' : x = i
            · exact absurd ⟨by rw [e']; exact hi4, by rw [e']; exact e54⟩ e
            · exact hb x (lt_ne hx e')) hX1 hP1
        refine ⟨A', B', f', ?_, ?_, y3, y4, y5.trans x7, y7.trans x8, But_t xa ya, But_t xb yb, yc.trans xc, Or.inl (y6.elim id (fun v => v.1)), yX⟩
        · have he1 : f_X10_hasEnded i A = 1 := by rw [he, z]; rfl
          rw [cl, he1, if_neg ne10, x1, ob_s]
          exact y1
        · rw [rf, if_neg n1, if_pos z, x2, ob_s]
          exact y2
      · have z1 : 0 < B 55 0 i := by omega
        exact skip (by rw [he, if_pos z1]) (by rw [rf, if_neg n1, if_neg z]) (Or.inr z1)
