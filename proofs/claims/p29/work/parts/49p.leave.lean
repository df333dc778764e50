def taA (A : gM) (k : Nat) : gM := gU A 24 0 k (wI (A 24 0 k + 1))
def taB (B : gM) (k : Nat) : gM := gU B 68 0 k (wI (B 68 0 k + 1))
theorem taA_o {A : gM} {k : Nat} : But [24] (taA A k) A := But_u But_r rfl
theorem taB_o {B : gM} {k : Nat} : But [68] (taB B k) B := But_u But_r rfl
theorem taC {A : gM} {k : Nat} (hk : k < 5) : f_X2_tally (k : Int) A = taA A k := tallyC hk
theorem RO_ta {A B : gM} {k : Nat} (h : RO A B) : RO (taA A k) (taB B k) := RO_tally (k := k) h (by rw [But_q taA_o rfl]) (by rw [But_q taA_o rfl]) (by rw [But_q taA_o rfl]) (by rw [But_q taB_o rfl]) (by rw [But_q taB_o rfl]) (by rw [But_q taB_o rfl]) (gU_same _ _ _ _ _) (gU_same _ _ _ _ _)
theorem RB_ta {A B : gM} {n c k : Nat} (h : RB A B n c) : RB (taA A k) (taB B k) n c := RB_c h (But_q taA_o rfl) (by rw [But_q taA_o rfl]) (by rw [But_q taA_o rfl]) (by rw [But_q taA_o rfl]) (by rw [But_q taA_o rfl]) (fun t k _ => by rw [But_q taA_o rfl]) (by rw [But_q taA_o rfl]) (But_l taB_o rfl) (by rw [But_q taB_o rfl]) (by rw [But_q taB_o rfl]) (by rw [But_q taB_o rfl]) (by rw [But_q taB_o rfl])
theorem G_b {B B' : gM} {n : Nat} (hT : TdN B B') (h60 : B' 60 = B 60) (h54 : B' 54 = B 54) : (G1 B n → G1 B' n) ∧ (G2 B n → G2 B' n) ∧ (G4 B n → G4 B' n) ∧ (G3 B n → G3 B' n) ∧ (G0 B n → G0 B' n) := by
  refine ⟨G1_t hT, fun h => ?_, fun h => ?_, fun h => ?_, fun h => ?_⟩
  · intro t s hs ho hd hx u hi v hv hov
    rw [h60] at hx ⊢
    exact h t s hs ((aOK_t hT.1 n _ _).mp ho) ((ndd_t hT _).mp hd) hx u ((isI_t hT.1 _ _).mp hi) v hv ((aOK_t hT.1 n _ _).mp hov)
  · intro t s hs ho hd hx
    rw [h60] at hx
    rw [h54]
    exact h t s hs ((aOK_t hT.1 n _ _).mp ho) ((ndd_t hT _).mp hd) hx
  · intro t s hs ho hd hx
    rw [h60] at hx ⊢
    obtain ⟨u, v, x1, x2, x3, x4⟩ := h t s hs ((aOK_t hT.1 n _ _).mp ho) ((ndd_t hT _).mp hd) hx
    exact ⟨u, v, (isI_t hT.1 _ _).mpr x1, x2, (aOK_t hT.1 n _ _).mpr x3, x4⟩
  · obtain ⟨t, s, x1, x2, x3, x4⟩ := h
    exact ⟨t, s, x1, (aOK_t hT.1 n _ _).mpr x2, (ndd_t hT _).mpr x3, by rw [h60]; exact x4⟩
theorem SI_ta {A B : gM} {n c k : Nat} (h : SI A B n c) : SI (taA A k) (taB B k) n c := by
  obtain ⟨h1, h2, h3, h4, h5, h6, g1', g2, g4⟩ := h
  have tN : TdN B (taB B k) := TdN_9 (But_w taB_o rfl)
  obtain ⟨x1, x2, x3, -⟩ := G_b (n := n) tN (show taB B k 60 = B 60 from But_q taB_o rfl) (But_q taB_o rfl)
  exact ⟨RS_9 h1 (But_w taA_o rfl) (But_w taB_o rfl), RT_9 h2 (But_w taA_o rfl) (But_w taB_o rfl), RC_9 h3 (But_w taA_o rfl) (But_w taB_o rfl), RO_ta h4, RW_c h5 (But_q taA_o rfl) (But_l taB_o rfl) (by rw [But_q taB_o rfl]), RB_ta h6, x1 g1', x2 g2, x3 g4⟩
/-- DONE by a hit -/
theorem SI_dn {A B : gM} {n c t s m : Nat} {r w : Int} (h : SI A B n c) (hs : s < 4) (hao : aOK B n t s) (hnd : ndd B t) (hm : B 38 0 t = (m : Int)) (h60 : B 60 0 (4 * t + s) = 0) (hr : 0 ≤ r ∧ r ≤ 100002) (hw : 0 ≤ w ∧ w ≤ 3) : SI (dnA A t s m r w) (dnB B (4 * t + s) r w) n c := by
  obtain ⟨h1, h2, h3, h4, h5, h6, g1', g2, g4⟩ := h
  have fA : But [9, 23] (dnA A t s m r w) A := dnA_o
  have fB : But [60, 61, 62] (dnB B (4 * t + s) r w) B := dnB_o
  have tN : TdN B (dnB B (4 * t + s) r w) := TdN_9 (But_w fB rfl)
  have ne60 : ∀ a, a ≠ 4 * t + s → dnB B (4 * t + s) r w 60 0 a = B 60 0 a := fun a ha => by rw [dnB_60, if_neg ha]
  have n60 : dnB B (4 * t + s) r w 60 0 (4 * t + s) = 3 := by rw [dnB_60, if_pos rfl]
  have k12 := h6.2.2.2.2.2.2.2.2.2.2.2 t s hs hao hnd
  have b63 := k12.1 h60
  have b64 := k12.2 (by rw [h60]; decide)
  refine ⟨RS_9 h1 (But_w fA rfl) (But_w fB rfl), RT_9 h2 (But_w fA rfl) (But_w fB rfl), RC_9 h3 (But_w fA rfl) (But_w fB rfl), RO_c h4 (by rw [But_q fA rfl]) (by rw [But_q fA rfl]) (But_q fA rfl) (by rw [But_q fA rfl]) (by rw [But_q fB rfl]) (by rw [But_q fB rfl]) (by rw [But_q fB rfl]) (But_q fB rfl), RW_st h5 (But_w fA rfl) (But_w fB rfl) ne60 (by rw [h60]; decide), ?_, G1_t tN g1', ?_, ?_⟩
  · refine RB_dn h6 h2 hs hao hnd hm hr hw (But_w fB rfl) dnB_60 dnB_61 dnB_62 (fun x => ?_)
    rw [But_q fB rfl]
    by_cases e : x = 4 * t + s
    · rw [if_pos e, e, b63, if_neg (Int.lt_irrefl _), b64]
    · rw [if_neg e]
  · exact G2_act tN g2 hs ne60 (by rw [h60]; decide) hao (fun q => by rw [n60] at q; exact absurd q (by decide))
  · exact G4_act tN g4 hs ne60 (fun u hu _ _ => ⟨u, hu, by rw [But_q fB rfl]⟩) (fun q => by rw [n60] at q; exact absurd q (by decide))
theorem stA_id {A : gM} {a : Nat} (h : A 9 a 2 = 0) : gU A 9 a 2 0 = A := by
  funext q i k
  unfold gU
  by_cases e : q = 9 ∧ i = a ∧ k = 2
  · rw [if_pos e, e.1, e.2.1, e.2.2, h]
  · rw [if_neg e]
theorem fc0 {A B : gM} (hS : RS A B) : ∀ k, k < 16 → 0 ≤ A 12 0 k ∧ A 12 0 k ≤ 999 := fun k _ => by
  rw [hS.2.1]; exact hS.2.2.2.2.2.2.1 k
theorem cnt_e {A B : gM} (hS : RS A B) (t : Nat) (key : Int) : cnt B (A 12 0) t key = cnt B (B 30 0) t key := by
  rw [hS.2.1]
theorem key_in {A B : gM} {n c t s : Nat} (hS : RS A B) (hT : RT A B n) (hB : RB A B n c) (ht : t < n) (hs : s < 4) : 0 ≤ keyS B (B 30 0) (dgS B) t s ∧ keyS B (B 30 0) (dgS B) t s ≤ 100002 := keyS_in hS hT ht hs (fun k _ => hS.2.2.2.2.2.2.1 k) (fun u hu => dgS_in hT (Nat.lt_trans (isI_lt hS hT ht hu) ht) (fun a => (hB.2.2.2.2.2.2.1 a).2.2.2.2.1))
/-- how the reference looks for a hit -/
theorem hitM {A B : gM} {n c t s z : Nat} (hS : RS A B) (hT : RT A B n) (hB : RB A B n c) (ht : t < n) (hs : s < 4) (hz : z ≤ 40) (h2 : B 29 0 21 = (z : Int)) : f_X12_hit ((4 * t + s : Nat) : Int) B = f_X12_hit_L40 (some (-1)) (t : Int) (keyS B (B 30 0) (dgS B) t s) (fnd B t (keyS B (B 30 0) (dgS B) t s)) (cnt B (B 30 0) t (keyS B (B 30 0) (dgS B) t s)) B 64 0 := by
  have h14 : t < 14 := Nat.lt_of_lt_of_le ht hT.1
  have hk := key_in hS hT hB ht hs
  obtain ⟨q1, q2⟩ := td4 h14 hs
  obtain ⟨r1, r2, r3, r4⟩ := r16 hk
  unfold f_X12_hit
  rw [keyM hS hT ht hs, ob_s, q1, fndM h14, ob_s]
  dsimp only [oj]
  unfold fnd cnt
  by_cases e : B 39 0 t = -1
  · rw [if_pos e, if_pos rfl, if_pos e]
  · rw [if_neg e, if_neg r4, og_t ⟨r1, r2⟩, if_neg e]
