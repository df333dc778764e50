/-! ## p29: what the questions answer -/
theorem does_state {v2 v3 v : Int} {M : gM} (h : f_X11_state v2 v3 M = some (Sum.inr v)) : f_P_does 8 v2 v3 M = some (v, M) := by
  unfold f_P_does
  rw [if_neg (by decide), if_neg (by decide), if_neg (by decide), if_neg (by decide), if_neg (by decide), if_neg (by decide), if_neg (by decide), if_neg (by decide), if_pos rfl, h]
  rfl
theorem does_result {v2 v3 v : Int} {M : gM} (h : f_X11_result v2 v3 M = some (Sum.inr v)) : f_P_does 9 v2 v3 M = some (v, M) := by
  unfold f_P_does
  rw [if_neg (by decide), if_neg (by decide), if_neg (by decide), if_neg (by decide), if_neg (by decide), if_neg (by decide), if_neg (by decide), if_neg (by decide), if_neg (by decide), if_pos rfl, h]
  rfl
theorem does_about {v2 v3 v : Int} {M M' : gM} (h : f_X11_about v2 v3 M = some (Sum.inr (v, M'))) : f_P_does 10 v2 v3 M = some (v, M') := by
  unfold f_P_does
  rw [if_neg (by decide), if_neg (by decide), if_neg (by decide), if_neg (by decide), if_neg (by decide), if_neg (by decide), if_neg (by decide), if_neg (by decide), if_neg (by decide), if_neg (by decide), if_pos rfl, h]
  rfl
theorem does_proof {v2 v3 v : Int} {M M' : gM} (h : f_X11_proof v2 M = some (Sum.inr (v, M'))) : f_P_does 11 v2 v3 M = some (v, M') := by
  unfold f_P_does
  rw [if_neg (by decide), if_neg (by decide), if_neg (by decide), if_neg (by decide), if_neg (by decide), if_neg (by decide), if_neg (by decide), if_neg (by decide), if_neg (by decide), if_neg (by decide), if_neg (by decide), if_pos rfl, h]
  rfl
theorem does_count {v2 v3 v : Int} {M : gM} (h : f_X11_count v2 M = some (Sum.inr v)) : f_P_does 12 v2 v3 M = some (v, M) := by
  unfold f_P_does
  rw [if_neg (by decide), if_neg (by decide), if_neg (by decide), if_neg (by decide), if_neg (by decide), if_neg (by decide), if_neg (by decide), if_neg (by decide), if_neg (by decide), if_neg (by decide), if_neg (by decide), if_neg (by decide), if_pos rfl, h]
  rfl
theorem does_needed {v2 v3 v : Int} {M : gM} (h : f_X11_needed v2 M = some (Sum.inr v)) : f_P_does 13 v2 v3 M = some (v, M) := by
  unfold f_P_does
  rw [if_neg (by decide), if_neg (by decide), if_neg (by decide), if_neg (by decide), if_neg (by decide), if_neg (by decide), if_neg (by decide), if_neg (by decide), if_neg (by decide), if_neg (by decide), if_neg (by decide), if_neg (by decide), if_neg (by decide), if_pos rfl, h]
  rfl
theorem does_write {v2 v3 v : Int} {M M' : gM} (h : f_X11_write v2 v3 M = some (Sum.inr (v, M'))) : f_P_does 0 v2 v3 M = some (v, M') := by
  unfold f_P_does
  rw [if_pos rfl, h]
  rfl
theorem does_set {v2 v3 v : Int} {M M' : gM} (h : f_X11_set v2 v3 M = some (Sum.inr (v, M'))) : f_P_does 1 v2 v3 M = some (v, M') := by
  unfold f_P_does
  rw [if_neg (by decide), if_pos rfl, h]
  rfl
theorem does_setTool {v2 v3 v : Int} {M M' : gM} (h : f_X11_setTool v2 v3 M = some (Sum.inr (v, M'))) : f_P_does 2 v2 v3 M = some (v, M') := by
  unfold f_P_does
  rw [if_neg (by decide), if_neg (by decide), if_pos rfl, h]
  rfl
theorem does_setPower {v2 v3 v : Int} {M M' : gM} (h : f_X11_setPower v2 v3 M = some (Sum.inr (v, M'))) : f_P_does 4 v2 v3 M = some (v, M') := by
  unfold f_P_does
  rw [if_neg (by decide), if_neg (by decide), if_neg (by decide), if_neg (by decide), if_pos rfl, h]
  rfl
theorem does_result1 {v2 v3 : Int} {M : gM} (h : f_X11_result v2 v3 M = some (Sum.inl 1)) : f_P_does 9 v2 v3 M = some (-8, M) := by
  unfold f_P_does
  rw [if_neg (by decide), if_neg (by decide), if_neg (by decide), if_neg (by decide), if_neg (by decide), if_neg (by decide), if_neg (by decide), if_neg (by decide), if_neg (by decide), if_pos rfl, h]
  rfl
theorem RA_of {A A' B B' : gM} {n c c' : Nat} (h : Rel c A' B') (hT : RT A B n) (h7 : B' 29 0 7 = B 29 0 7) : RA n c A' B' := by
  obtain ⟨n', h1, h2, h3⟩ := h
  have e : n' = n := by
    have e1 : (n' : Int) = (n : Int) := by rw [← h2.2.2.1, h7, hT.2.2.1]
    exact Int.ofNat_inj.mp e1
  subst e
  exact ⟨h1, h2, h3⟩
theorem RA_OK {A A' B : gM} {n c : Nat} (h : RA n c A B) (hA : OKA A' A) (h6 : A' 0 0 6 = A 0 0 6) : RA n c A' B := RA_of (c' := c) (Rel_OK (B' := B) ⟨n, h⟩ hA OKB_r (by rw [h6]; exact h.2.2.2.1.2.2.2.2.2)) h.2.1 rfl
theorem RA_21 {A A' B : gM} {n c : Nat} (h : RA n c A B) (fA : But [21] A' A) : RA n c A' B := RA_of (c' := c) (Rel_b (B' := B) ⟨n, h⟩ (But_w fA rfl) But_r) h.2.1 rfl
def snd (B : gM) (n t : Nat) : Prop := AS B n (dnP B n 0) t
theorem aboutC {A : gM} {n t : Nat} {v2 : Int} (hA : A 2 0 5 = (n : Int)) (hn : n ≤ 14) (ht : t < n) (hw : 0 ≤ v2 ∧ v2 < 6) : f_X11_about (t : Int) v2 A = if v2 = 0 then (ob (f_X5_soundTargets A) fun r64 => some (Sum.inr (((f_X11_bitOf r64 (t : Int) A), A)))) else if v2 = 1 then (ob (f_X4_isStale t A) fun r77 => if r77.1 = 0 then (some (Sum.inr ((0, r77.2)))) else (some (Sum.inr ((1, r77.2))))) else if v2 = 2 then (if (f_X8_isInQuarantine t A) = 0 then (some (Sum.inr ((0, A)))) else (some (Sum.inr ((1, A))))) else if v2 = 3 then (ob (f_X4_goodTargets (A 1 0 5) A) fun r113 => some (Sum.inr (((f_X11_bitOf r113.1 (t : Int) r113.2), r113.2)))) else if v2 = 4 then (ob (f_X4_digestOf t A) fun r126 => some (Sum.inr ((r126.1, r126.2)))) else ob (f_X2_wayOf t A) fun r135 => some (Sum.inr ((r135.1, r135.2))) := by
  have h1 : 0 ≤ (t : Int) ∧ (t : Int) < (n : Int) := by omega
  unfold f_X11_about
  rw [cTar hA, if_pos h1, ob_s, ox_r, isB, if_pos hw, cArg, if_neg ne10, ob_s, ox_r, tAt hA hn ht]
theorem rd_sound {A B : gM} {n c t : Nat} (h : RA n c A B) (ht : t < n) : (f_P_does 10 (t : Int) 0 A = some (1, A) ∧ snd B n t) ∨ (f_P_does 10 (t : Int) 0 A = some (0, A) ∧ ¬ snd B n t) := by
  obtain ⟨h1, h2, h3, h4, h5, h6, h7⟩ := h
  have t14 : t < 14 := Nat.lt_of_lt_of_le ht h2.1
  obtain ⟨g, s1, s2, s3⟩ := stC h1 h2 h6
  have e : f_X11_about (t : Int) 0 A = some (Sum.inr ((if g.testBit t = true then 1 else 0), A)) := by
    rw [aboutC h2.2.1 h2.1 ht (by decide), if_pos rfl, s1, ob_s, bit01 s2 t14]
  by_cases q : g.testBit t = true
  · rw [if_pos q] at e
    exact Or.inl ⟨does_about e, (s3 t ht).mp q⟩
  · rw [if_neg q] at e
    exact Or.inr ⟨does_about e, fun z => q ((s3 t ht).mpr z)⟩
/-- what is DONE is what it would be from nothing -/
theorem res_fr {A B : gM} {n : Nat} {C D : Nat → Int} (hS : RS A B) (hT : RT A B n) (h61 : ∀ a, 0 ≤ B 61 0 a ∧ B 61 0 a ≤ 100002) (hX : XX B n) (hC : ∀ k, k < 16 → C k = B 30 0 k) (hD : isD B C D n) : ∀ m t, t < m → t < n → ndd B t → (∀ s, s < 4 → aOK B n t s → B 60 0 (4 * t + s) = 3) → dgS B t = D t ∧ ∀ s, s < 4 → aOK B n t s → B 61 0 (4 * t + s) = frE B C D t s ∧ brk B t (keyS B C D t s) = 0 := by
  obtain ⟨g1', -, xd, -⟩ := hX
  have hC0 : ∀ k, k < 16 → 0 ≤ B 30 0 k ∧ B 30 0 k ≤ 999 := fun k _ => hS.2.2.2.2.2.2.1 k
  have hCC : ∀ k, k < 16 → 0 ≤ C k ∧ C k ≤ 999 := fun k hk => by rw [hC k hk]; exact hC0 k hk
  intro m
  induction m with
  | zero => intro t q; exact absurd q (Nat.not_lt_zero _)
  | succ m ih =>
    intro t q ht hd hall
    have key : ∀ s, s < 4 → aOK B n t s → B 61 0 (4 * t + s) = frE B C D t s ∧ brk B t (keyS B C D t s) = 0 := fun s hs ho => by
      obtain ⟨y1, y2, y3, -⟩ := xd t s hs ho hd (hall s hs ho)
      have hDu : ∀ u, isI B t u → dgS B u = D u := fun u hu => by
        have hut := isI_lt hS hT ht hu
        exact (ih u (by omega) (Nat.lt_trans hut ht) (g1' t u ht hd hu) (fun s' hs' ho' => y1 u hu s' hs' ho')).1
      have hD0 : ∀ u, isI B t u → 0 ≤ dgS B u ∧ dgS B u ≤ 100002 := fun u hu => dgS_in hT (Nat.lt_trans (isI_lt hS hT ht hu) ht) h61
      have e1 := frE_c (s := s) (C := B 30 0) (D := dgS B) (C' := C) (D' := D) hS hT ht hs (fun k hk => (hC k hk).symm) hC0 hDu hD0
      have e2 := keyS_c (s := s) (C := B 30 0) (D := dgS B) (C' := C) (D' := D) hS hT ht (fun k hk => (hC k hk).symm) hDu
      exact ⟨y3.trans e1, by rw [← e2]; exact y2⟩
    refine ⟨?_, key⟩
    obtain ⟨z, z1, z4, -, z38⟩ := shT hT ht
    rw [hD t ht]
    unfold dgS frV
    rw [z38, Int.toNat_natCast]
    exact itr_congr (P := fun _ _ => True) (B := z) (fun i x hi _ => ⟨by rw [(key i (Nat.lt_of_lt_of_le hi z4) ⟨ht, by rw [z38]; exact Int.ofNat_lt.mpr hi⟩).1], trivial⟩) z 0 7 (Nat.le_of_eq (Nat.zero_add z)) trivial
theorem rd_stale {A B : gM} {n c t : Nat} (h : RA n c A B) (hX : XX B n) (ht : t < n) : ∃ A', f_P_does 10 (t : Int) 1 A = some (0, A') ∧ RA n c A' B := by
  have hRA := h
  obtain ⟨h1, h2, h3, h4, h5, h6, h7⟩ := h
  have ab := aboutC (v2 := 1) h2.2.1 h2.1 ht (by decide)
  rw [if_neg ne10, if_pos rfl] at ab
  rcases adC h2 h6 ht with ⟨a1, a2⟩ | ⟨a1, a2⟩
  · obtain ⟨z, hz3, hz, hzB⟩ := h1.1
    obtain ⟨A2, g, b1, b2, b3, b4, b5, -⟩ := mkN h1 h2 hz hz3
    have hC0 : ∀ k, k < 16 → 0 ≤ A2 12 1 k ∧ A2 12 1 k ≤ 999 := fun k hk => by rw [b4 k hk]; exact h1.2.2.2.2.2.2.1 k
    have hin := isD_in h1 h2 (Nat.le_refl n) hC0 b5
    have hD0 : ∀ u, isI B t u → 0 ≤ A2 23 1 u ∧ A2 23 1 u ≤ 100002 := fun u hu => hin u (Nat.lt_trans (isI_lt h1 h2 ht hu) ht)
    have fr := (res_fr h1 h2 (fun a => (h6.2.2.2.2.2.2.1 a).2.2.2.2.1) hX b4 b5 (t + 1) t (Nat.lt_succ_self t) ht a2.1 (fun s hs ho => (a2.2 s hs ho).1)).2
    refine ⟨A2, does_about ?_, RA_OK hRA b2 (by rw [b3])⟩
    rw [ab]
    unfold f_X4_isStale
    rw [a1, ob_s, if_neg ne10, b1, ob_s]
    rcases staC h1 h2 h6 ht b2 hC0 hD0 with ⟨-, s, s1, s2⟩ | ⟨s1, -⟩
    · have s4 : s < 4 := by
        have := sh4 h2 t ht
        omega
      exact absurd (fr s s4 ⟨ht, s1⟩).1 s2
    · rw [s1, ob_s, if_pos rfl]
  · refine ⟨A, does_about ?_, hRA⟩
    rw [ab]
    unfold f_X4_isStale
    rw [a1, ob_s, if_pos rfl, ob_s, if_pos rfl]
theorem rd_good {A B : gM} {n c t : Nat} (h : RA n c A B) (hX : XX B n) (ht : t < n) (hs : snd B n t) (hk : ∀ u, (wnN B n (2 ^ t)).testBit u = true → B 35 0 u ≠ 2) : ∃ A', f_P_does 10 (t : Int) 3 A = some (1, A') ∧ RA n c A' B := by
  have hRA := h
  obtain ⟨h1, h2, h3, h4, h5, h6, h7⟩ := h
  have t14 : t < 14 := Nat.lt_of_lt_of_le ht h2.1
  have ab := aboutC (v2 := 3) h2.2.1 h2.1 ht (by decide)
  rw [if_neg (by decide), if_neg (by decide), if_neg (by decide), if_pos rfl] at ab
  obtain ⟨z, hz3, hz, hzB⟩ := h1.1
  obtain ⟨A2, g, b1, b2, b3, b4, b5, b6, b7, b8⟩ := mkN h1 h2 hz hz3
  have fr := res_fr h1 h2 (fun a => (h6.2.2.2.2.2.2.1 a).2.2.2.2.1) hX b4 b5
  have key : ∀ m u, u < m → u < n → snd B n u → (∀ v, (wnN B n (2 ^ u)).testBit v = true → B 35 0 v ≠ 2) → g.testBit u = true := by
    intro m
    induction m with
    | zero => intro u q; exact absurd q (Nat.not_lt_zero _)
    | succ m ih =>
      intro u q hu hsu hku
      obtain ⟨d1, d2⟩ := (AS_rec h1 h2 hu).mp hsu
      refine (b8 u hu).mpr ⟨fun v hv => ?_, fun s hs => ?_⟩
      · have hvu := isI_lt h1 h2 hu hv
        exact ih v (by omega) (Nat.lt_trans hvu hu) (d2 v hv) (fun y hy => hku y ((wn_rec h1 h2 hu y).mpr (Or.inr ⟨v, hv, hy⟩)))
      · have s4 : s < 4 := by
          have := sh4 h2 u hu
          omega
        refine ⟨((fr (u + 1) u (Nat.lt_succ_self u) hu d1.1 (fun s' hs' ho' => (d1.2 s' hs' ho').1)).2 s s4 ⟨hu, hs⟩).2, fun y => ?_⟩
        exact hku u (wn_sub n _ u ((pow_bit u u).mpr rfl)) y.1
  refine ⟨A2, does_about ?_, RA_OK hRA b2 (by rw [b3])⟩
  rw [ab]
  unfold f_X4_goodTargets
  rw [b1, ob_s, ob_s]
  dsimp only
  rw [b6, bit01 b7 t14, if_pos (key (t + 1) t (Nat.lt_succ_self t) ht hs hk)]
theorem rd_needed {A B : gM} {n c t : Nat} (h : RA n c A B) (ht : t < n) : f_P_does 13 (t : Int) 0 A = some (((wnN B n (2 ^ t) : Nat) : Int), A) ∧ wnN B n (2 ^ t) < 16384 := by
  obtain ⟨h1, h2, -⟩ := h
  have t14 : t < 14 := Nat.lt_of_lt_of_le ht h2.1
  obtain ⟨w1, w2⟩ := wnC h1 h2 (pow_14 t14)
  refine ⟨does_needed ?_, w2⟩
  have g1 : 0 ≤ (t : Int) ∧ (t : Int) < (n : Int) := by omega
  unfold f_X11_needed
  rw [cTar h2.2.1, if_pos g1, ob_s, ox_r, gShl_n (Nat.lt_of_lt_of_le t14 (by decide)), w1, ob_s]
theorem aOK_dec (B : gM) (n t s : Nat) : aOK B n t s ∨ ¬ aOK B n t s := Classical.em _
/-- what result says -/
def rsIs (B : gM) (n t k : Nat) (v : Int) : Prop := (aOK B n t k ∧ ndd B t ∧ B 60 0 (4 * t + k) = 3 ∧ v = B 61 0 (4 * t + k)) ∨ (aOK B n t k ∧ ¬ (ndd B t ∧ B 60 0 (4 * t + k) = 3) ∧ v = -1) ∨ (¬ aOK B n t k ∧ v = -8)
theorem rd_result {A B : gM} {n c t k : Nat} (h : RA n c A B) (ht : t < n) (hk : k < 4) : ∃ v, f_P_does 9 (t : Int) (k : Int) A = some (v, A) ∧ rsIs B n t k v ∧ nmI v := by
  obtain ⟨h1, h2, h3, h4, h5, h6, h7⟩ := h
  have g1 : 0 ≤ (t : Int) ∧ (t : Int) < (n : Int) := by omega
  have g0 : (0 : Int) ≤ (k : Int) := by omega
  have e38 : A 7 t 6 = B 38 0 t := (h2.2.2.2.2.2.1 t).2.2.2.1
  rcases aOK_dec B n t k with ho | ho
  · have ca : f_X11_checkedAction (t : Int) (k : Int) A = some (Sum.inr (4 * t + k)) := by
      unfold f_X11_checkedAction
      rw [cTar h2.2.1, if_pos g1, ob_s, ox_r, tAt h2.2.1 h2.1 ht, isB, e38, if_pos ⟨g0, ho.2⟩, cArg, if_neg ne10, ob_s, ox_r, aAt hk]
    have e61 : A 9 (4 * t + k) 3 = B 61 0 (4 * t + k) := (h6.2.2.2.2.2.2.1 (4 * t + k)).1
    have r61 := (h6.2.2.2.2.2.2.1 (4 * t + k)).2.2.2.2.1
    have s3 := st3 h2 h6 hk ho
    by_cases q : A 9 (4 * t + k) 2 = 3
    · refine ⟨B 61 0 (4 * t + k), does_result ?_, Or.inl ⟨ho, (s3.mp q).1, (s3.mp q).2, rfl⟩, by unfold nmI; omega⟩
      unfold f_X11_result
      rw [ca, ob_s, ox_r, if_pos q, e61]
    · refine ⟨-1, does_result ?_, Or.inr (Or.inl ⟨ho, fun z => q (s3.mpr z), rfl⟩), by unfold nmI; omega⟩
      unfold f_X11_result
      rw [ca, ob_s, ox_r, if_neg q]
  · refine ⟨-8, does_result1 ?_, Or.inr (Or.inr ⟨ho, rfl⟩), by unfold nmI; omega⟩
    have nb : ¬ (0 ≤ (k : Int) ∧ (k : Int) < B 38 0 t) := fun z => ho ⟨ht, z.2⟩
    unfold f_X11_result f_X11_checkedAction
    rw [cTar h2.2.1, if_pos g1, ob_s, ox_r, tAt h2.2.1 h2.1 ht, isB, e38, if_neg nb, cArg, if_pos rfl, ob_s, ox_l, ob_s, ox_l]
theorem rd_state {A B : gM} {n c t : Nat} (h : RA n c A B) (ht : t < n) : ∃ v, f_P_does 8 (t : Int) 0 A = some (v, A) ∧ (v = 3 ↔ ndd B t ∧ B 60 0 (4 * t + 0) = 3) := by
  obtain ⟨h1, h2, h3, h4, h5, h6, h7⟩ := h
  have g1 : 0 ≤ (t : Int) ∧ (t : Int) < (n : Int) := by omega
  have e38 : A 7 t 6 = B 38 0 t := (h2.2.2.2.2.2.1 t).2.2.2.1
  obtain ⟨z, z1, z4, -, z38⟩ := shT h2 ht
  have ho : aOK B n t 0 := ⟨ht, by rw [z38]; omega⟩
  have ca : f_X11_checkedAction (t : Int) 0 A = some (Sum.inr (4 * t + 0)) := by
    have a0 := aAt (A := A) (t := t) (s := 0) (by decide)
    unfold f_X11_checkedAction
    rw [cTar h2.2.1, if_pos g1, ob_s, ox_r, tAt h2.2.1 h2.1 ht, isB, e38, if_pos ⟨Int.le_refl 0, ho.2⟩, cArg, if_neg ne10, ob_s, ox_r]
    exact congrArg (fun y => some (Sum.inr y)) a0
  refine ⟨A 9 (4 * t + 0) 2, does_state ?_, st3 h2 h6 (by decide) ho⟩
  unfold f_X11_state
  rw [ca, ob_s, ox_r]
theorem prB_in {B : gM} {t z : Nat} (h61 : ∀ a, 0 ≤ B 61 0 a ∧ B 61 0 a ≤ 100002) (h62 : ∀ a, 0 ≤ B 62 0 a ∧ B 62 0 a ≤ 3) (hz : B 38 0 t = (z : Int)) : 0 ≤ prB B t ∧ prB B t ≤ 100002 := by
  unfold prB
  rw [hz, Int.toNat_natCast]
  exact itr_inv (P := fun _ x => 0 ≤ x ∧ x ≤ 100002) (B := z) (fun i x _ hx => pls_in (pls_in hx (by have := h61 (4 * t + i); omega)) (by have := h62 (4 * t + i); omega)) z 0 7 (Nat.le_of_eq (Nat.zero_add z)) (by decide)
theorem rd_proof {A B : gM} {n c t : Nat} (h : RA n c A B) (ht : t < n) (hs : snd B n t) : ∃ v A', f_P_does 11 (t : Int) 0 A = some (v, A') ∧ 0 ≤ v ∧ RA n c A' B := by
  have hRA := h
  obtain ⟨h1, h2, h3, h4, h5, h6, h7⟩ := h
  have g1 : 0 ≤ (t : Int) ∧ (t : Int) < (n : Int) := by omega
  have t14 : t < 14 := Nat.lt_of_lt_of_le ht h2.1
  obtain ⟨w1, w2⟩ := wnC h1 h2 (pow_14 t14)
  have hs1 : AS B n (dnP B n 1) t := fun u hu => ⟨(hs u hu).1, fun s q1 q2 => ⟨((hs u hu).2 s q1 q2).1, fun z => absurd z ne10⟩⟩
  rcases iaC h1 h2 h6 ht with ⟨q1, -⟩ | ⟨-, q2⟩
  · obtain ⟨A', a1, a2, a3⟩ := poC h1 h2 h6 ht
    have rng : ∀ m u, u < m → u < t + 1 → 0 ≤ A' 21 0 u ∧ A' 21 0 u ≤ 100002 := by
      intro m
      induction m with
      | zero => intro u q; exact absurd q (Nat.not_lt_zero _)
      | succ m ih =>
        intro u q hu
        have hun : u < n := by omega
        rw [a3 u hu trivial]
        obtain ⟨z, z1, z4, -, z38⟩ := shT h2 hun
        obtain ⟨y, y4, -, y41⟩ := szT h2 hun
        unfold prV
        rw [y41, Int.toNat_natCast]
        refine itr_inv (P := fun _ x => 0 ≤ x ∧ x ≤ 100002) (B := y) (fun i x hi hx => ?_) y 0 _ (Nat.le_of_eq (Nat.zero_add y)) (prB_in (fun a => (h6.2.2.2.2.2.2.1 a).2.2.2.2.1) (fun a => (h6.2.2.2.2.2.2.1 a).2.2.2.2.2.1) z38)
        unfold prI
        by_cases c16 : chB B u i < 16
        · rw [if_pos c16]; exact hx
        · rw [if_neg c16]
          have hc := ch_in h1 h2 hun (k := i) (by rw [y41]; exact Int.ofNat_lt.mpr hi)
          have := ih ((chB B u i).toNat - 16) (by omega) (by omega)
          exact pls_in hx (by omega)
    refine ⟨A' 21 0 t, A', does_proof ?_, (rng (t + 1) t (Nat.lt_succ_self t) (Nat.lt_succ_self t)).1, RA_21 hRA a2⟩
    unfold f_X11_proof
    rw [cTar h2.2.1, if_pos g1, ob_s, ox_r, gShl_n (Nat.lt_of_lt_of_le t14 (by decide)), w1, ob_s, q1, ob_s, cSta, if_neg ne10, ob_s, ox_r, a1, ob_s]
  · exact absurd hs1 q2
theorem rd_count {A B : gM} {n c i : Nat} (h : RA n c A B) (hi : i < 5) : f_P_does 12 (i : Int) 0 A = some (B 68 0 i, A) := by
  obtain ⟨h1, h2, h3, h4, h5, h6, h7⟩ := h
  have e24 : A 24 0 = B 68 0 := h4.2.2.2.2.1
  have g : 0 ≤ (i : Int) ∧ (i : Int) < 5 := by omega
  refine does_count ?_
  unfold f_X11_count
  rw [isB, if_pos g, cArg, if_neg ne10, ob_s, ox_r, at_in hi, e24]
theorem rd_entries {A B : gM} {n c : Nat} (h : RA n c A B) : f_X11_entries A = B 29 0 21 := by
  obtain ⟨-, -, ⟨z, f, -, -, -, -, p2, p3, -⟩, -⟩ := h
  exact p2.trans p3.symm
theorem rd_goes {A B : gM} {n c : Nat} (h : RA n c A B) : f_X11_goesOn A = B 29 0 36 := h.2.2.2.2.2.1.2.1
