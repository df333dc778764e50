/-! ### DONE; a flake is noted; what was made is kept -/
theorem SJ_keep {A B A' B' : gM} {n c : Nat} {l : Int} (h : SJ l A B n c) (h1 : RS A' B') (h2 : RT A' B' n) (h3 : RC A' B') (h4 : RO A' B') (h6 : RB A' B' n c) (hT : TdN B B') (a11 : A' 11 = A 11) (b5 : ∀ q, q ∈ [53, 54, 55, 56, 57, 58, 59] → B' q = B q) (b60 : B' 60 = B 60) : SJ l A' B' n c := by
  obtain ⟨-, -, -, -, ⟨i1, i2, i3⟩, -, g1', g2, g4⟩ := h
  obtain ⟨x1, x2, x3, -⟩ := G_b (n := n) hT b60 (b5 54 (by decide))
  refine ⟨h1, h2, h3, h4, ⟨⟨fun w => ?_, fun w hw => ?_⟩, W3_act i2 (Int.le_refl l) hT (fun v hv => Or.inr (Or.inr ⟨fun q hq => by rw [b5 q (by simp only [List.mem_cons, List.not_mem_nil, or_false] at hq ⊢; omega)], fun x _ h2x => by rw [b60]; exact h2x⟩)), W4_sub i3 (fun v _ => Or.inr (by rw [b5 54 (by decide)]))⟩, h6, x1 g1', x2 g2, x3 g4⟩
  · rw [a11, b5 53 (by decide), b5 54 (by decide), b5 55 (by decide), b5 56 (by decide), b5 57 (by decide), b5 58 (by decide), b5 59 (by decide)]
    exact i1.1 w
  · rw [a11, b5 53 (by decide), b5 55 (by decide), b5 59 (by decide)]
    exact i1.2 w hw
theorem RB_7 {A B A' B' : gM} {n c t s : Nat} (h6 : RB A B n c) (h2 : RT A B n) (hs : s < 4) (hao : aOK B n t s) (hnd : ndd B t) (fA : But [7] A' A) (fB : But [29, 66, 67] B' B) (b29 : ∀ j, j ≠ 43 → B' 29 0 j = B 29 0 j) (a7 : ∀ t', t' ≠ t → A' 7 t' 9 = A 7 t' 9 ∧ A' 7 t' 11 = A 7 t' 11) (b67 : ∀ t', t' ≠ t → B' 66 0 t' = B 66 0 t' ∧ B' 67 0 t' = B 67 0 t') (hfl : (∃ f : Nat, f < 16384 ∧ B' 29 0 43 = (f : Int)) ∧ ∀ b : Nat, A 4 0 7 = (b : Int) → ∀ t', t' < 14 → A' 7 t' 12 ≤ (b : Int) ∧ (1 ≤ b → (A' 7 t' 12 = (b : Int) ↔ gAnd (gShr (B' 29 0 43) (t' : Int)) 1 = 1))) (l4 : A' 7 t 9 = (if B' 67 0 t = -1 then 5 else B' 67 0 t) ∧ (1 ≤ A' 7 t 9 ∧ A' 7 t 9 ≤ 50) ∧ A' 7 t 11 = B' 66 0 t ∧ nmI (B' 66 0 t)) : RB A' B' n c := by
  have ht14 : t < 14 := Nat.lt_of_lt_of_le hao.1 h2.1
  have tN : TdN B B' := TdN_b (But_w fB rfl) (b29 37 (by decide))
  have k7 := h6.2.2.2.2.2.2.1 (4 * t + s)
  obtain ⟨k0, k1, k2, -⟩ := h6.2.2.2.2.2.2.2.1 t s ht14 hs
  have kz := h6.2.2.2.2.2.2.2.2.2.2.2 t s hs hao hnd
  have e9 : A' 9 = A 9 := But_q fA rfl
  have e60 : B' 60 = B 60 := But_q fB rfl
  have e61 : B' 61 = B 61 := But_q fB rfl
  have e62 : B' 62 = B 62 := But_q fB rfl
  have e63 : B' 63 = B 63 := But_q fB rfl
  have e64 : B' 64 = B 64 := But_q fB rfl
  have e65 : B' 65 = B 65 := But_q fB rfl
  refine RB_act h6 (sh4 h2) tN ht14 hs hao hnd (by rw [But_q fA rfl]) (by rw [But_q fA rfl]) (by rw [But_q fA rfl]) (by rw [But_q fA rfl]) (b29 36 (by decide)) (b29 48 (by decide)) (fun a _ => by rw [e9]) (fun q hq a _ => by rw [But_l fB (K := [60, 61, 62, 63, 64, 65]) rfl q hq]) a7 b67 (fun t' _ => by rw [But_q fA rfl]) hfl ?_ ?_ ?_ ?_ l4 ?_ ?_
  · rw [e9]; exact ⟨rfl, rfl⟩
  · rw [e9, e61, e62, e63, e64, e65]; exact k7
  · rw [e9, e60, e64]; exact k2 ⟨hao, hnd⟩
  · rw [e65]; exact at0 h6 _
  · intro s' hs' ho' h3
    rw [e60] at h3
    rw [But_q fA rfl, dgS_t tN.1 e61]
    exact h6.2.2.2.2.2.2.2.2.2.1 t s' hs' ho' hnd h3
  · rw [e60, e63, e64]; exact kz
/-- how long it took is noted -/
theorem EJ_67 {A B : gM} {n c t s : Nat} {x : Int} (h : EJ A B n c t s) (hx : 1 ≤ x ∧ x ≤ 50) : EJ (gU A 7 t 9 x) (gU B 67 0 t x) n c t s := by
  have hJ := h
  obtain ⟨h1, h2, h3, h4, -, h6, -, -, -, hs, hao, hnd, h60, -⟩ := h
  have fA : But [7] (gU A 7 t 9 x) A := But_u But_r rfl
  have fB : But [67] (gU B 67 0 t x) B := But_u But_r rfl
  have ht14 : t < 14 := Nat.lt_of_lt_of_le hao.1 h2.1
  have n7 : ∀ t' k, k ≠ 9 → gU A 7 t 9 x 7 t' k = A 7 t' k := fun t' k hk => gU_ne (fun z => hk z.2.2)
  have m7 : ∀ t' k, t' ≠ t → gU A 7 t 9 x 7 t' k = A 7 t' k := fun t' k hk => gU_ne (fun z => hk z.2.1)
  refine EJ_keep hJ (RS_c h1 (fun q hq => by rw [But_l fA (K := [12, 13, 14, 15, 16]) rfl q hq]) (by rw [But_q fA rfl]) (But_l fB rfl) (by rw [But_q fB rfl])) (RT_c h2 (But_l fA rfl) (by rw [But_q fA rfl]) (fun t' k hk => n7 t' k (by omega)) (But_l fB rfl) (by rw [But_q fB rfl])) (RC_c h3 (But_q fA rfl) (But_q fA rfl) (But_l fB rfl) (by rw [But_q fB rfl])) (RO_c h4 (by rw [But_q fA rfl]) (by rw [But_q fA rfl]) (But_q fA rfl) (by rw [But_q fA rfl]) (by rw [But_q fB rfl]) (by rw [But_q fB rfl]) (by rw [But_q fB rfl]) (But_q fB rfl)) (RB_7 h6 h2 hs hao hnd fA (But_w fB rfl) (fun j _ => by rw [But_q fB rfl]) (fun t' e => ⟨m7 t' 9 e, m7 t' 11 e⟩) (fun t' e => ⟨by rw [But_q fB rfl], gU_k e⟩) ?_ ?_) (TdN_b (But_w fB rfl) (by rw [But_q fB rfl])) (But_q fA rfl) (But_l fB rfl) (But_q fB rfl)
  · obtain ⟨p1, p2⟩ := fl0 h6
    rw [But_q fB rfl]
    exact ⟨p1, fun b hb t' ht' => by rw [n7 t' 12 (by decide)]; exact p2 b hb t' ht'⟩
  · obtain ⟨q1, q2, q3, q4⟩ := h6.2.2.2.2.2.2.2.2.1 t ht14
    have nx : ¬ x = -1 := by omega
    rw [gU_s, gU_s, if_neg nx, n7 t 11 (by decide), show gU B 67 0 t x 66 = B 66 from But_q fB rfl]
    exact ⟨rfl, hx, q3, q4⟩
theorem EJ_dn {A B B' : gM} {n c t s m : Nat} {r w : Int} (h : EJ A B n c t s) (hm : B 38 0 t = (m : Int)) (hr : 0 ≤ r ∧ r ≤ 100002) (hw : 0 ≤ w ∧ w ≤ 3) (fB : But [60, 61, 62, 64] B' B) (e60 : ∀ x, B' 60 0 x = if x = 4 * t + s then 3 else B 60 0 x) (e61 : ∀ x, B' 61 0 x = if x = 4 * t + s then r else B 61 0 x) (e62 : ∀ x, B' 62 0 x = if x = 4 * t + s then w else B 62 0 x) (e64 : ∀ x, B' 64 0 x = if x = 4 * t + s then (if 0 < B 63 0 (4 * t + s) then 1 else 0) else B 64 0 x) : SJ 0 (dnA A t s m r w) B' n c := by
  have hJ := h
  obtain ⟨h1, h2, h3, h4, -, h6, -, -, -, hs, hao, hnd, h60, -⟩ := h
  have fA : But [9, 23] (dnA A t s m r w) A := dnA_o
  exact EJ_act hJ (RS_9 h1 (But_w fA rfl) (But_w fB rfl)) (RT_9 h2 (But_w fA rfl) (But_w fB rfl)) (RC_9 h3 (But_w fA rfl) (But_w fB rfl)) (RO_c h4 (by rw [But_q fA rfl]) (by rw [But_q fA rfl]) (But_q fA rfl) (by rw [But_q fA rfl]) (by rw [But_q fB rfl]) (by rw [But_q fB rfl]) (by rw [But_q fB rfl]) (But_q fB rfl)) (RB_dn h6 h2 hs hao hnd hm hr hw fB e60 e61 e62 e64) (TdN_9 (But_w fB rfl)) (But_q fA rfl) (But_l fB rfl) (fun x hx => by rw [e60, if_neg hx]) (by rw [e60, if_pos rfl]; decide)
theorem SJ_ta {A B : gM} {n c k : Nat} {l : Int} (h : SJ l A B n c) : SJ l (taA A k) (taB B k) n c := by
  have hJ := h
  obtain ⟨h1, h2, h3, h4, -, h6, -⟩ := h
  exact SJ_keep hJ (RS_9 h1 (But_w taA_o rfl) (But_w taB_o rfl)) (RT_9 h2 (But_w taA_o rfl) (But_w taB_o rfl)) (RC_9 h3 (But_w taA_o rfl) (But_w taB_o rfl)) (RO_ta h4) (RB_ta h6) (TdN_9 (But_w taB_o rfl)) (But_q taA_o rfl) (But_l taB_o rfl) (But_q taB_o rfl)
/-- what was made is kept -/
theorem SJ_kp {A B : gM} {n c : Nat} {l : Int} {key file con r w : Int} (h : SJ l A B n c) (hk : 0 ≤ key ∧ key ≤ 100002) (hr : 0 ≤ r ∧ r ≤ 100002) (hw : 0 ≤ w ∧ w ≤ 3) : ∃ A' B' : gM, f_X1_keep key file con r w A = some A' ∧ f_X12_keep key file con r w B = some B' ∧ SJ l A' B' n c ∧ But [3, 10] A' A ∧ But [29, 46, 47, 48, 49, 50, 51, 52] B' B ∧ (∀ j, j ≠ 1 → j ≠ 2 → A' 3 0 j = A 3 0 j) ∧ ∀ j, j ≠ 21 → B' 29 0 j = B 29 0 j := by
  have hJ := h
  obtain ⟨h1, h2, h3, h4, -, h6, -⟩ := h
  obtain ⟨A', B', k1, k2, k3, fA, fB, a3, b29⟩ := kpCM (file := file) (con := con) h3 hk hr hw
  refine ⟨A', B', k1, k2, SJ_keep hJ (RS_c h1 (fun q hq => by rw [But_l fA (K := [12, 13, 14, 15, 16]) rfl q hq]) (by rw [But_q fA rfl]) (But_l fB rfl) (b29 4 (by decide))) (RT_c h2 (But_l fA rfl) (by rw [But_q fA rfl]) (fun t' k _ => by rw [But_q fA rfl]) (But_l fB rfl) (b29 7 (by decide))) k3 (RO_c h4 (by rw [But_q fA rfl]) (by rw [But_q fA rfl]) (But_q fA rfl) (by rw [But_q fA rfl]) (b29 19 (by decide)) (b29 20 (by decide)) (b29 49 (by decide)) (But_q fB rfl)) (RB_c h6 (But_q fA rfl) (by rw [But_q fA rfl]) (by rw [But_q fA rfl]) (by rw [But_q fA rfl]) (by rw [But_q fA rfl]) (fun t k _ => by rw [But_q fA rfl]) (by rw [But_q fA rfl]) (But_l fB rfl) (b29 37 (by decide)) (b29 36 (by decide)) (b29 43 (by decide)) (b29 48 (by decide))) (TdN_b (But_w fB rfl) (b29 37 (by decide))) (But_q fA rfl) (But_l fB rfl) (But_q fB rfl), fA, fB, a3, b29⟩
