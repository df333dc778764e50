theorem tallyC {A : gM} {k : Nat} (hk : k < 5) : f_X2_tally (k : Int) A = gU A 24 0 k (wI (A 24 0 k + 1)) := by
  unfold f_X2_tally
  rw [at_in hk, store_in hk]
theorem G3_act {B B' : gM} {n t s : Nat} (hT : TdN B B') (h : G3 B n) (hs : s < 4) (hne : ∀ a, a ≠ 4 * t + s → B' 60 0 a = B 60 0 a) (hlt : B' 60 0 (4 * t + s) < 3) (hn0 : B' 60 0 (4 * t + s) ≠ 0) : G3 B' n := by
  intro t' s' hs' ho hd hx
  by_cases e : 4 * t' + s' = 4 * t + s
  · rw [e] at hx; exact absurd hx hn0
  · rw [hne _ e] at hx
    obtain ⟨u, v, x1, x2, x3, x4⟩ := h t' s' hs' ((aOK_t hT.1 n _ _).mp ho) ((ndd_t hT _).mp hd) hx
    refine ⟨u, v, (isI_t hT.1 _ _).mpr x1, x2, (aOK_t hT.1 n _ _).mpr x3, ?_⟩
    by_cases e2 : 4 * u + v = 4 * t + s
    · rw [e2]; exact hlt
    · rw [hne _ e2]; exact x4
/-- both counts are counted up -/
theorem RO_tally {A B A' B' : gM} {k : Nat} (h : RO A B) (a9 : A' 4 0 9 = A 4 0 9) (a10 : A' 4 0 10 = A 4 0 10) (a6 : A' 0 0 6 = A 0 0 6) (b19 : B' 29 0 19 = B 29 0 19) (b20 : B' 29 0 20 = B 29 0 20) (b49 : B' 29 0 49 = B 29 0 49) (a24 : A' 24 0 = g1 (A 24 0) k (wI (A 24 0 k + 1))) (b68 : B' 68 0 = g1 (B 68 0) k (wI (B 68 0 k + 1))) : RO A' B' := by
  obtain ⟨o1, o2, o3, o4, o5, o6⟩ := h
  refine ⟨by rw [a9, b19]; exact o1, by rw [a10, b20]; exact o2, by rw [b19]; exact o3, by rw [b20]; exact o4, ?_, by rw [a6, b49]; exact o6⟩
  rw [a24, b68, o5]
def pw2A (A : gM) (w : Nat) (v : Int) (a : Nat) : gM := gU (gU (pwA A w v) 9 a 2 1) 24 0 2 (wI (A 24 0 2 + 1))
def pw2B (B : gM) (w : Nat) (v : Int) (a : Nat) : gM := gU (gU (pwB B w v) 60 0 a 1) 68 0 2 (wI (B 68 0 2 + 1))
theorem pw2A_o {A : gM} {w a : Nat} {v : Int} : But [9, 11, 24] (pw2A A w v a) A := But_u (But_u (But_w pwA_o rfl) rfl) rfl
theorem pw2B_o {B : gM} {w a : Nat} {v : Int} : But [29, 53, 54, 59, 60, 68] (pw2B B w v a) B := But_u (But_u (But_w pwB_o rfl) rfl) rfl
theorem pw2A_b {A : gM} {w a : Nat} {v : Int} : But [9, 24] (pw2A A w v a) (pwA A w v) := But_u (But_u But_r rfl) rfl
theorem pw2B_b {B : gM} {w a : Nat} {v : Int} : But [60, 68] (pw2B B w v a) (pwB B w v) := But_u (But_u But_r rfl) rfl
theorem pw2B_60 {B : gM} {w a : Nat} {v : Int} : ∀ x, pw2B B w v a 60 0 x = if x = a then 1 else B 60 0 x := fun x => by
  unfold pw2B
  rw [gU_r (by decide), gU_same, But_q pwB_o rfl]
  rfl
theorem pw2A_9 {A : gM} {w a : Nat} {v : Int} : ∀ x, x ≠ a → pw2A A w v a 9 x = A 9 x := fun x hx => by
  unfold pw2A
  rw [gU_r (by decide), gU_i hx, But_q pwA_o rfl]
theorem pw2A_9k {A : gM} {w a : Nat} {v : Int} : ∀ k, pw2A A w v a 9 a k = if k = 2 then 1 else A 9 a k := fun k => by
  unfold pw2A
  rw [gU_r (by decide), gU_same, But_q pwA_o rfl]
  rfl
theorem pw2Rel {c n w t s : Nat} {A B : gM} {v : Int} (hw : w < 4) (hv : 0 ≤ v ∧ v ≤ 9) (h1 : RS A B) (h2 : RT A B n) (h3 : RC A B) (h4 : RO A B) (h5 : RW A B n) (h6 : RB A B n c) (h7 : RG B n) (hat : atA 1 B n w t s) (hone : ∀ u, u < 4 → u ≠ w → B 54 0 u ≠ ((4 * t + s : Nat) : Int)) : Rel c (pw2A A w v (4 * t + s)) (pw2B B w v (4 * t + s)) := by
  obtain ⟨i1, i2, i3⟩ := RW_iff.mp h5
  have hg := busy_g h7 (h6.2.2.1.imp id (fun z => z.1)) hat
  obtain ⟨g0, g1', g2, g3, g4⟩ := RG_1 h7 hg
  obtain ⟨at1, hs, hao, hnd, h60, -⟩ := id hat
  have ht14 : t < 14 := Nat.lt_of_lt_of_le hao.1 h2.1
  have fA : But [9, 11, 24] (pw2A A w v (4 * t + s)) A := pw2A_o
  have fB : But [29, 53, 54, 59, 60, 68] (pw2B B w v (4 * t + s)) B := pw2B_o
  have b29 : ∀ j, j ≠ 0 → pw2B B w v (4 * t + s) 29 0 j = B 29 0 j := fun j hj => by rw [But_q pw2B_b rfl, pwB_29 j hj]
  have tN : TdN B (pw2B B w v (4 * t + s)) := TdN_b (But_w fB rfl) (b29 37 (by decide))
  have ne60 : ∀ a, a ≠ 4 * t + s → pw2B B w v (4 * t + s) 60 0 a = B 60 0 a := fun a ha => by rw [pw2B_60, if_neg ha]
  have n60 : pw2B B w v (4 * t + s) 60 0 (4 * t + s) = 1 := by rw [pw2B_60, if_pos rfl]
  obtain ⟨z1, z2, z3, z4⟩ := h6.2.2.2.2.2.2.2.1 t s ht14 hs
  have z3 := z3 ⟨hao, hnd⟩
  have k7 := h6.2.2.2.2.2.2.1 (4 * t + s)
  have k12 := h6.2.2.2.2.2.2.2.2.2.2.2 t s hs hao hnd
  refine ⟨n, RS_c h1 (fun q hq => by rw [But_l fA (K := [12, 13, 14, 15, 16]) rfl q hq]) (by rw [But_q fA rfl]) (But_l fB rfl) (b29 4 (by decide)), RT_c h2 (But_l fA rfl) (by rw [But_q fA rfl]) (fun t k _ => by rw [But_q fA rfl]) (But_l fB rfl) (b29 7 (by decide)), RC_c h3 (But_q fA rfl) (But_q fA rfl) (But_l fB rfl) (b29 21 (by decide)), ?_, RW_iff.mpr ⟨?_, ?_, ?_⟩, ?_, RG_of (by rw [b29 36 (by decide)]; exact hg) ⟨?_, G1_t tN g1', ?_, ?_, ?_⟩⟩
  · refine RO_tally (k := 2) h4 (by rw [But_q fA rfl]) (by rw [But_q fA rfl]) (by rw [But_q fA rfl]) (b29 19 (by decide)) (b29 20 (by decide)) (b29 49 (by decide)) ?_ ?_
    · unfold pw2A
      rw [gU_same, gU_r (by decide), But_q pwA_o rfl]
    · unfold pw2B
      rw [gU_same, gU_r (by decide), But_q pwB_o rfl]
  · have q := pwW hw hv i1
    refine ⟨?_, ?_⟩
    · rw [But_q pw2A_b rfl, But_q pw2B_b rfl, But_q pw2B_b rfl, But_q pw2B_b rfl, But_q pw2B_b rfl, But_q pw2B_b rfl, But_q pw2B_b rfl, But_q pw2B_b rfl]
      exact q.1
    · rw [But_q pw2A_b rfl, But_q pw2B_b rfl, But_q pw2B_b rfl, But_q pw2B_b rfl]
      exact q.2
  · refine W3_act i2 (Int.le_refl _) tN (fun u hu => ?_)
    by_cases e : u = w
    · exact Or.inl (by rw [But_q pw2B_b rfl, pwB_54, if_pos e])
    · refine Or.inr (Or.inr ⟨fun q hq => ?_, fun a ha h2 => ?_⟩)
      · rw [But_l pw2B_b (K := [53, 54, 55, 56, 57, 58]) rfl q hq]
        exact pwB_k q (by simp only [List.mem_cons, List.not_mem_nil, or_false] at hq ⊢; omega) u e
      · rw [ne60 a (fun q => hone u hu e (by rw [ha, q]))]
        exact h2
  · refine W4_sub i3 (fun u _ => ?_)
    rw [But_q pw2B_b rfl, pwB_54]
    by_cases e : u = w
    · rw [if_pos e]; exact Or.inl rfl
    · rw [if_neg e]; exact Or.inr rfl
  · refine RB_act h6 (fun t' ht' => by obtain ⟨y, y1, y2, y3, y4⟩ := shT h2 ht'; omega) tN ht14 hs hao hnd (by rw [But_q fA rfl]) (by rw [But_q fA rfl]) (by rw [But_q fA rfl]) (by rw [But_q fA rfl]) (b29 36 (by decide)) (b29 48 (by decide)) pw2A_9 (fun q hq a ha => ?_) (fun t' _ => by rw [But_q fA rfl]; exact ⟨rfl, rfl⟩) (fun t' _ => by rw [But_q fB rfl, But_q fB rfl]; exact ⟨rfl, rfl⟩) (fun t' _ => by rw [But_q fA rfl]) ?_ ?_ ?_ ?_ ?_ ?_ ?_ ?_
    · by_cases e : q = 60
      · rw [e]; exact ne60 a ha
      · rw [fB q (fun m => by simp only [List.mem_cons, List.not_mem_nil, or_false] at m hq; omega)]
    · rw [b29 43 (by decide), But_q fA rfl]
      obtain ⟨b, b1, b2, b3, b4⟩ := h6.2.2.2.2.1
      refine ⟨b3, fun b' hb' => ?_⟩
      have e : b' = b := Int.ofNat_inj.mp (hb'.symm.trans b2)
      rw [e]; exact b4
    · rw [pw2A_9k, pw2A_9k]; exact ⟨rfl, rfl⟩
    · rw [pw2A_9k, pw2A_9k, pw2A_9k, pw2A_9k, But_q fB rfl, But_q fB rfl, But_q fB rfl, But_q fB rfl, But_q fB rfl]
      exact k7
    · rw [pw2A_9k, n60]
      exact ⟨rfl, ⟨by decide, by decide⟩, fun q => absurd q (by decide)⟩
    · rw [But_q fB rfl]
      obtain ⟨y, y1, y2, y3, y4⟩ := h6.2.2.2.2.2.1
      exact y4 _
    · rw [But_q fA rfl, But_q fB rfl, But_q fB rfl]
      exact h6.2.2.2.2.2.2.2.2.1 t ht14
    · intro s' hs' ho' h3'
      rw [But_q fA rfl]
      have ne : 4 * t + s' ≠ 4 * t + s := fun q => by rw [q, n60] at h3'; exact absurd h3' (by decide)
      rw [ne60 _ ne] at h3'
      rw [h6.2.2.2.2.2.2.2.2.2.1 t s' hs' ho' hnd h3']
      unfold dgS
      rw [But_q fB rfl, But_q fB rfl]
    · rw [n60, But_q fB rfl]
      exact ⟨fun q => absurd q ne10, fun _ => k12.2 (by rw [h60]; decide)⟩
  · exact ⟨t, s, hs, (aOK_t tN.1 n _ _).mpr hao, (ndd_t tN _).mpr hnd, by rw [n60]; decide⟩
  · exact G2_act tN g2 hs ne60 (by rw [h60]; decide) hao (fun _ u hi y hy hoy => g2 t s hs hao hnd (Or.inr h60) u hi y hy hoy)
  · exact G3_act tN g3 hs ne60 (by rw [n60]; decide) (by rw [n60]; decide)
  · refine G4_act tN g4 hs ne60 (fun u hu hne _ => ?_) (fun q => by rw [n60] at q; exact absurd q (by decide))
    refine ⟨u, hu, ?_⟩
    rw [But_q pw2B_b rfl, pwB_54, if_neg (fun e => hne (by rw [e]; exact at1))]
theorem S_setPower {c : Nat} (v1 v2 : Int) : Sim (Rel c) (Rel (c + 1)) (f_L_setPower v1 v2) (f_X12_setPower v1 v2) := by
  intro A B h
  have h0 := h
  obtain ⟨n, h1, h2, h3, h4, h5, h6, h7⟩ := h0
  by_cases ha : (0 ≤ v1 ∧ v1 < 4) ∧ (0 ≤ v2 ∧ v2 < 10)
  · obtain ⟨⟨a1, a2⟩, a3, a4⟩ := ha
    obtain ⟨w, rfl⟩ : ∃ w : Nat, v1 = (w : Int) := ⟨v1.toNat, by omega⟩
    have hw : w < 4 := by omega
    have hv : 0 ≤ v2 ∧ v2 ≤ 9 := ⟨a3, by omega⟩
    obtain ⟨i1, i2, i3⟩ := RW_iff.mp h5
    obtain ⟨e1, e2, e3, -⟩ := i1.1 w
    by_cases hp : B 53 0 w = v2
    · have f1 : f_L_setPower (w : Int) v2 A = some (0, gU A 75 0 0 (B 53 0 w)) := by
        unfold f_L_setPower
        rw [clsA_pw hw ⟨a3, a4⟩, if_pos (by rw [e1, hp]), e1]
        rfl
      have f2 : f_X12_setPower (w : Int) v2 B = some (B 53 0 w, gU B 29 0 0 0) := by
        unfold f_X12_setPower
        dsimp only [oj]
        rw [inn, if_pos (show (0 : Int) ≤ (w : Int) ∧ (w : Int) ≤ 3 by omega), if_neg ne10, inn, if_pos hv, if_neg ne10, ask1]
        dsimp only
        rw [if_neg ne10, og_t (show (0 : Int) ≤ (w : Int) ∧ (w : Int) < 4 by omega), Int.toNat_natCast, if_pos (show gU B 29 0 0 0 53 0 w = v2 by rw [gU_r (by decide)]; exact hp), gU_r (by decide)]
      exact ⟨_, _, _, _, f1, f2, gU_s _ _ _ _ _, fun _ => gU_s _ _ _ _ _, Rel_out _ (Rel_thr _ (Rel_up h)), fun q q1 q2 => gU_r (by omega), fun q hq => gU_r (by omega)⟩
    · have cl : f_L_setPower (w : Int) v2 A = ob (f_X2_changePower w v2 A) fun r => some (0, gU r 75 0 0 (B 53 0 w)) := by
        unfold f_L_setPower
        rw [clsA_pw hw ⟨a3, a4⟩, if_neg (fun q => hp (by rw [← e1, ← q])), e1]
        cases f_X2_changePower w v2 A <;> rfl
      have frA : ∀ q, 29 ≤ q → q ≠ 75 → ∀ x, gU (pwA A w v2) 75 0 0 x q = A q := fun q q1 q2 x => by
        rw [gU_r q2]
        exact But_c pwA_o rfl q q1 q2
      rcases i2 w hw with hb | ⟨t, s, hat⟩
      · have f1 : f_L_setPower (w : Int) v2 A = some (0, gU (pwA A w v2) 75 0 0 (B 53 0 w)) := by
          rw [cl]
          unfold f_X2_changePower
          dsimp only [oj]
          rw [e3, hb, pwC]
          rfl
        have f2 : f_X12_setPower (w : Int) v2 B = some (B 53 0 w, pwB B w v2) := by
          rw [refB_pw hw hv hp _ hb, if_pos rfl]
        refine ⟨_, _, _, _, f1, f2, ?_, fun _ => gU_s _ _ _ _ _, Rel_out _ (Rel_up (pwRel hw hv h1 h2 h3 h4 h5 h6 h7 (Or.inl hb))), fun q q1 q2 => frA q q1 q2 _, But_m pwB_o rfl⟩
        unfold pwB
        rw [gU_r (by decide), gU_r (by decide), gU_r (by decide), gU_s]
      · have at1 := hat.1
        have hs4 := hat.2.1
        have ht14 : t < 14 := Nat.lt_of_lt_of_le hat.2.2.1.1 h2.1
        have b56 : (0 : Int) ≤ ((4 * t + s : Nat) : Int) ∧ ((4 * t + s : Nat) : Int) < 56 := by omega
        have nm1 : ¬ ((4 * t + s : Nat) : Int) = -1 := by omega
        have ga : gAct (A 11 w 3) = some (4 * t + s) := (gAct_iff _ _).mpr (by rw [e3, at1])
        have w3 : ∀ u, u < 4 → pwA A w v2 11 u 3 = pwB B w v2 54 0 u := fun u hu => ((pwW hw hv i1).1 u).2.2.1
        rcases wAtM ((4 * t + s : Nat) : Int) (pwB B w v2) with ⟨u, u1, u2, u3, -⟩ | ⟨u2, u3⟩
        · have une : u ≠ w := fun e => by
            rw [pwB_54, if_pos e] at u3
            exact nm1 u3.symm
          have any : f_X2_isAnyAt (4 * t + s) (pwA A w v2) = some 1 := by
            rcases isAnyC (4 * t + s) (pwA A w v2) with ⟨q, -⟩ | ⟨-, q⟩
            · exact q
            · exact absurd ((w3 u u1).trans u3) (q u u1)
          have f1 : f_L_setPower (w : Int) v2 A = some (0, gU (pwA A w v2) 75 0 0 (B 53 0 w)) := by
            rw [cl]
            unfold f_X2_changePower
            dsimp only [oj]
            rw [ga, pwC]
            show ob (ob (f_X2_isAnyAt (4 * t + s) (pwA A w v2)) _) _ = _
            rw [any]
            rfl
          have f2 : f_X12_setPower (w : Int) v2 B = some (B 53 0 w, pwB B w v2) := by
            rw [refB_pw hw hv hp _ at1, if_neg nm1, u2, ob_s, if_neg (show ¬ ((u : Int) = -1) by omega)]
          refine ⟨_, _, _, _, f1, f2, ?_, fun _ => gU_s _ _ _ _ _, Rel_out _ (Rel_up (pwRel hw hv h1 h2 h3 h4 h5 h6 h7 (Or.inr ⟨u, u1, une, ?_⟩))), fun q q1 q2 => frA q q1 q2 _, But_m pwB_o rfl⟩
          · unfold pwB
            rw [gU_r (by decide), gU_r (by decide), gU_r (by decide), gU_s]
          · rw [at1, ← u3, pwB_54, if_neg une]
        · have any : f_X2_isAnyAt (4 * t + s) (pwA A w v2) = some 0 := by
            rcases isAnyC (4 * t + s) (pwA A w v2) with ⟨-, x, x1, x2⟩ | ⟨q, -⟩
            · exact absurd ((w3 x x1).symm.trans x2) (u3 x x1)
            · exact q
          have f1 : f_L_setPower (w : Int) v2 A = some (0, gU (pw2A A w v2 (4 * t + s)) 75 0 0 (B 53 0 w)) := by
            rw [cl]
            unfold f_X2_changePower
            dsimp only [oj]
            rw [ga, pwC]
            show ob (ob (f_X2_isAnyAt (4 * t + s) (pwA A w v2)) _) _ = _
            rw [any, ob_s, if_pos rfl, ob_s, show (2 : Int) = ((2 : Nat) : Int) from rfl, tallyC (by decide), gU_r (by decide), But_q pwA_o rfl]
            rfl
          have f2 : f_X12_setPower (w : Int) v2 B = some (B 53 0 w, pw2B B w v2 (4 * t + s)) := by
            rw [refB_pw hw hv hp _ at1, if_neg nm1, u2, ob_s, if_pos rfl, og_t b56, Int.toNat_natCast]
            rfl
          refine ⟨_, _, _, _, f1, f2, ?_, fun _ => gU_s _ _ _ _ _, Rel_out _ (Rel_up (pw2Rel hw hv h1 h2 h3 h4 h5 h6 h7 hat (fun x hx xne q => ?_))), fun q q1 q2 => ?_, But_m pw2B_o rfl⟩
          · rw [But_q pw2B_b rfl]
            unfold pwB
            rw [gU_r (by decide), gU_r (by decide), gU_r (by decide), gU_s]
          · exact u3 x hx (by rw [pwB_54, if_neg xne, q])
          · rw [gU_r q2]
            exact But_c pw2A_o rfl q q1 q2
  · have e1 : f_L_setPower v1 v2 A = some (1, A) := by
      by_cases b1 : 0 ≤ v1 ∧ v1 < 4
      · have b2 : ¬ (0 ≤ v2 ∧ v2 < 10) := fun q => ha ⟨b1, q⟩
        simp [f_L_setPower, f_X11_setPower, oj, isB, b1, b2, cArg, ob_s, ox_l, ol_l']
      · simp [f_L_setPower, f_X11_setPower, oj, isB, b1, cArg, ob_s, ox_l, ol_l']
    have e2 : f_X12_setPower v1 v2 B = some (0, gU B 29 0 0 1) := by
      by_cases b1 : 0 ≤ v1 ∧ v1 ≤ 3
      · have b2 : ¬ (0 ≤ v2 ∧ v2 ≤ 9) := fun q => ha ⟨by omega, by omega⟩
        simp [f_X12_setPower, oj, inn, b1, b2, f_X12_asked]
      · simp [f_X12_setPower, oj, inn, b1, f_X12_asked]
    exact ⟨_, _, _, _, e1, e2, gU_s _ _ _ _ _, fun q => absurd q (by decide), Rel_thr _ (Rel_up h), fun q _ _ => rfl, fun q hq => gU_r (by omega)⟩
