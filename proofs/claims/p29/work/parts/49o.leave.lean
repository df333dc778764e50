/-! ### what is OPEN -/
def SI (A B : gM) (n c : Nat) : Prop := RS A B ∧ RT A B n ∧ RC A B ∧ RO A B ∧ RW A B n ∧ RB A B n c ∧ G1 B n ∧ G2 B n ∧ G4 B n
def inD (B : gM) (n t : Nat) : Prop := ∀ u, isI B t u → ∀ v, v < 4 → aOK B n u v → B 60 0 (4 * u + v) = 3
theorem keyEq {A B : gM} {n c t s : Nat} (hS : RS A B) (hT : RT A B n) (hB : RB A B n c) (h1 : G1 B n) (ht : t < n) (hd : ndd B t) (hD : inD B n t) : keyS B (A 12 0) (A 23 0) t s = keyS B (B 30 0) (dgS B) t s := by
  refine keyS_c hS hT ht (fun _ _ => by rw [hS.2.1]) (fun u hu => ?_)
  have hut := isI_lt hS hT ht hu
  have hun : u < n := Nat.lt_trans hut ht
  obtain ⟨m, m1, m2, m3, m4⟩ := shT hT hun
  have hao : aOK B n u 0 := ⟨hun, by rw [m4]; omega⟩
  exact hB.2.2.2.2.2.2.2.2.2.1 u 0 (by decide) hao (h1 t u ht hd hu) (hD u hu 0 (by decide) hao)
theorem fl0 {A B : gM} {n c : Nat} (h : RB A B n c) : (∃ f : Nat, f < 16384 ∧ B 29 0 43 = (f : Int)) ∧ ∀ b : Nat, A 4 0 7 = (b : Int) → ∀ t', t' < 14 → A 7 t' 12 ≤ (b : Int) ∧ (1 ≤ b → (A 7 t' 12 = (b : Int) ↔ gAnd (gShr (B 29 0 43) (t' : Int)) 1 = 1)) := by
  obtain ⟨b, b1, b2, b3, b4⟩ := h.2.2.2.2.1
  refine ⟨b3, fun b' hb' => ?_⟩
  rw [Int.ofNat_inj.mp (hb'.symm.trans b2)]
  exact b4
theorem at0 {A B : gM} {n c : Nat} (h : RB A B n c) (a : Nat) : 0 ≤ B 65 0 a ∧ B 65 0 a ≤ 200 * (c : Int) := by
  obtain ⟨y, y1, y2, y3, y4⟩ := h.2.2.2.2.2.1
  exact y4 _
theorem sh4 {A B : gM} {n : Nat} (hT : RT A B n) : ∀ t, t < n → B 38 0 t ≤ 4 := fun t ht => by
  obtain ⟨y, y1, y2, y3, y4⟩ := shT hT ht
  omega
theorem RT_9 {A B A' B' : gM} {n : Nat} (h : RT A B n) (hA : But [9, 11, 23, 24] A' A) (hB : But [53, 54, 55, 56, 57, 58, 59, 60, 61, 62, 63, 64, 65, 68, 73] B' B) : RT A' B' n := RT_c h (But_l hA rfl) (by rw [But_q hA rfl]) (fun t k _ => by rw [But_q hA rfl]) (But_l hB rfl) (by rw [But_q hB rfl])
theorem RS_9 {A B A' B' : gM} (h : RS A B) (hA : But [9, 11, 23, 24] A' A) (hB : But [53, 54, 55, 56, 57, 58, 59, 60, 61, 62, 63, 64, 65, 68, 73] B' B) : RS A' B' := RS_c h (fun q hq => by rw [But_l hA (K := [12, 13, 14, 15, 16]) rfl q hq]) (by rw [But_q hA rfl]) (But_l hB rfl) (by rw [But_q hB rfl])
theorem RC_9 {A B A' B' : gM} (h : RC A B) (hA : But [9, 11, 23, 24] A' A) (hB : But [53, 54, 55, 56, 57, 58, 59, 60, 61, 62, 63, 64, 65, 68, 73] B' B) : RC A' B' := RC_c h (But_q hA rfl) (But_q hA rfl) (But_l hB rfl) (by rw [But_q hB rfl])
theorem TdN_9 {B B' : gM} (hB : But [53, 54, 55, 56, 57, 58, 59, 60, 61, 62, 63, 64, 65, 68, 73] B' B) : TdN B B' := TdN_b (But_w hB rfl) (by rw [But_q hB rfl])
/-- nobody is at an action that is not being RUN -/
theorem RW_st {A B A' B' : gM} {n t s : Nat} (h : RW A B n) (hA : But [9, 23, 24] A' A) (hB : But [60, 61, 62, 63, 64, 65, 68] B' B) (ne60 : ∀ a, a ≠ 4 * t + s → B' 60 0 a = B 60 0 a) (hold : B 60 0 (4 * t + s) ≠ 2) : RW A' B' n := by
  obtain ⟨i1, i2, i3⟩ := RW_iff.mp h
  refine RW_iff.mpr ⟨?_, W3_act i2 (Int.le_refl _) (TdN_9 (But_w hB rfl)) (fun u _ => Or.inr (Or.inr ⟨fun q hq => by rw [But_l hB (K := [53, 54, 55, 56, 57, 58]) rfl q hq], fun a _ h2 => ?_⟩)), W4_sub i3 (fun u _ => Or.inr (by rw [But_q hB rfl]))⟩
  · refine ⟨?_, ?_⟩
    · rw [But_q hA rfl, But_q hB rfl, But_q hB rfl, But_q hB rfl, But_q hB rfl, But_q hB rfl, But_q hB rfl, But_q hB rfl]
      exact i1.1
    · rw [But_q hA rfl, But_q hB rfl, But_q hB rfl, But_q hB rfl]
      exact i1.2
  · rw [ne60 a (fun e => hold (by rw [← e]; exact h2))]
    exact h2
def stA (A : gM) (a : Nat) (v : Int) : gM := gU A 9 a 2 v
def stB (B : gM) (a : Nat) (v : Int) : gM := gU (gU B 60 0 a v) 63 0 a 0
theorem stA_o {A : gM} {a : Nat} {v : Int} : But [9] (stA A a v) A := But_u But_r rfl
theorem stB_o {B : gM} {a : Nat} {v : Int} : But [60, 63] (stB B a v) B := But_u (But_u But_r rfl) rfl
theorem stB_60 {B : gM} {a : Nat} {v : Int} : ∀ x, stB B a v 60 0 x = if x = a then v else B 60 0 x := fun x => by
  unfold stB
  rw [gU_r (by decide), gU_same]
  rfl
theorem stB_63 {B : gM} {a : Nat} {v : Int} : ∀ x, stB B a v 63 0 x = if x = a then 0 else B 63 0 x := fun x => by
  unfold stB
  rw [gU_same, gU_r (by decide)]
  rfl
theorem stA_9 {A : gM} {a : Nat} {v : Int} : ∀ x, x ≠ a → stA A a v 9 x = A 9 x := fun x hx => gU_i hx
theorem stA_9k {A : gM} {a : Nat} {v : Int} : ∀ k, stA A a v 9 a k = if k = 2 then v else A 9 a k := fun k => by
  unfold stA
  rw [gU_same]
  rfl
theorem SI_st {A B : gM} {n c t s : Nat} {v : Int} (h : SI A B n c) (hs : s < 4) (hao : aOK B n t s) (hnd : ndd B t) (h60 : B 60 0 (4 * t + s) = 0) (hv : v = 1 ∨ v = 5) (hin : v = 1 → inD B n t) : SI (stA A (4 * t + s) v) (stB B (4 * t + s) v) n c := by
  obtain ⟨h1, h2, h3, h4, h5, h6, g1', g2, g4⟩ := h
  have ht14 : t < 14 := Nat.lt_of_lt_of_le hao.1 h2.1
  have fA : But [9] (stA A (4 * t + s) v) A := stA_o
  have fB : But [60, 63] (stB B (4 * t + s) v) B := stB_o
  have tN : TdN B (stB B (4 * t + s) v) := TdN_9 (But_w fB rfl)
  have ne60 : ∀ a, a ≠ 4 * t + s → stB B (4 * t + s) v 60 0 a = B 60 0 a := fun a ha => by rw [stB_60, if_neg ha]
  have n60 : stB B (4 * t + s) v 60 0 (4 * t + s) = v := by rw [stB_60, if_pos rfl]
  have k7 := h6.2.2.2.2.2.2.1 (4 * t + s)
  have k12 := h6.2.2.2.2.2.2.2.2.2.2.2 t s hs hao hnd
  have v0 : v ≠ 0 := by omega
  have v2 : v ≠ 2 := by omega
  have v3 : v ≠ 3 := by omega
  have vr : 0 ≤ v ∧ v ≤ 5 := by omega
  refine ⟨RS_9 h1 (But_w fA rfl) (But_w fB rfl), RT_9 h2 (But_w fA rfl) (But_w fB rfl), RC_9 h3 (But_w fA rfl) (But_w fB rfl), RO_c h4 (by rw [But_q fA rfl]) (by rw [But_q fA rfl]) (But_q fA rfl) (by rw [But_q fA rfl]) (by rw [But_q fB rfl]) (by rw [But_q fB rfl]) (by rw [But_q fB rfl]) (But_q fB rfl), RW_st h5 (But_w fA rfl) (But_w fB rfl) ne60 (by rw [h60]; decide), ?_, G1_t tN g1', ?_, ?_⟩
  · refine RB_act h6 (sh4 h2) tN ht14 hs hao hnd (by rw [But_q fA rfl]) (by rw [But_q fA rfl]) (by rw [But_q fA rfl]) (by rw [But_q fA rfl]) (by rw [But_q fB rfl]) (by rw [But_q fB rfl]) stA_9 (fun q hq a ha => ?_) (fun t' _ => by rw [But_q fA rfl]; exact ⟨rfl, rfl⟩) (fun t' _ => by rw [But_q fB rfl, But_q fB rfl]; exact ⟨rfl, rfl⟩) (fun t' _ => by rw [But_q fA rfl]) ?_ ?_ ?_ ?_ ?_ ?_ ?_ ?_
    · by_cases e : q = 60
      · rw [e]; exact ne60 a ha
      · by_cases e2 : q = 63
        · rw [e2, stB_63, if_neg ha]
        · rw [fB q (fun m => by simp only [List.mem_cons, List.not_mem_nil, or_false] at m hq; omega)]
    · rw [But_q fB rfl, But_q fA rfl]
      exact fl0 h6
    · rw [stA_9k, stA_9k]; exact ⟨rfl, rfl⟩
    · rw [stA_9k, stA_9k, stA_9k, stA_9k, stB_63, if_pos rfl, But_q fB rfl, But_q fB rfl, But_q fB rfl, But_q fB rfl]
      obtain ⟨y1, y2, y3, y4, y5, y6, y7, y8⟩ := k7
      exact ⟨y1, y2, y3, y4.trans (k12.1 h60), y5, y6, ⟨by decide, by decide⟩, y8⟩
    · rw [stA_9k, n60]
      exact ⟨rfl, vr, fun q => absurd q v3⟩
    · rw [But_q fB rfl]
      exact at0 h6 _
    · rw [But_q fA rfl, But_q fB rfl, But_q fB rfl]
      exact h6.2.2.2.2.2.2.2.2.1 t ht14
    · intro s' hs' ho' h3'
      rw [But_q fA rfl]
      have ne : 4 * t + s' ≠ 4 * t + s := fun q => by rw [q, n60] at h3'; exact v3 h3'
      rw [ne60 _ ne] at h3'
      rw [h6.2.2.2.2.2.2.2.2.2.1 t s' hs' ho' hnd h3']
      unfold dgS
      rw [But_q fB rfl, But_q fB rfl]
    · rw [n60, stB_63, if_pos rfl, But_q fB rfl]
      exact ⟨fun q => absurd q v0, fun _ => k12.2 (by rw [h60]; decide)⟩
  · exact G2_act tN g2 hs ne60 (by rw [h60]; decide) hao (fun q u hi y hy hoy => by
      rw [n60] at q
      exact hin (q.resolve_right v2) u hi y hy hoy)
  · refine G4_act tN g4 hs ne60 (fun u hu _ _ => ⟨u, hu, by rw [But_q fB rfl]⟩) (fun q => by rw [n60] at q; exact absurd q v2)
theorem dgC {A : gM} {t m : Nat} (hm : m ≤ 4) (h6 : A 7 t 6 = (m : Int)) : f_X8_digestOfResults t A = some (itr (fun i x => pls x (A 9 (4 * t + i) 3)) m 0 7) := by
  unfold f_X8_digestOfResults
  exact (loop_up (F := fun k (x : Int) i => f_X8_digestOfResults_L5 (fun (y1_5_32 : Int) => some y1_5_32) t A k x i) (B := m) (K := fun x => some x) (st := fun i x => pls x (A 9 (4 * t + i) 3)) (P := fun _ _ => True) (fun k i x hi _ => ⟨by
    show f_X8_digestOfResults_L5 _ t A (k + 1) x (i : Int) = _
    rw [f_X8_digestOfResults_L5, h6, if_pos (Int.ofNat_lt.mpr hi), aAt (Nat.lt_of_lt_of_le hi hm), wI_s (by omega)]
    rfl, trivial⟩) (fun k x _ => by
    show f_X8_digestOfResults_L5 _ t A (k + 1) x (m : Int) = _
    rw [f_X8_digestOfResults_L5, h6, if_neg (Int.lt_irrefl _)]) m 64 0 7 (by omega) (by omega) trivial).1
def fiA (A : gM) (a : Nat) (r w : Int) : gM := gU (gU (gU (gU A 9 a 2 3) 9 a 3 r) 9 a 4 w) 9 a 5 (if 0 < A 9 a 7 then 1 else 0)
theorem fiC (A : gM) (a : Nat) (r w : Int) : f_X0_finish a r w A = fiA A a r w := by
  have e : gU (gU (gU A 9 a 2 3) 9 a 3 r) 9 a 4 w 9 a 7 = A 9 a 7 := by rw [gU_k (by decide), gU_k (by decide), gU_k (by decide)]
  unfold f_X0_finish fiA
  rw [e]
  by_cases h : 0 < A 9 a 7
  · rw [if_pos h, if_pos h]
  · rw [if_neg h, if_neg h]
theorem fiA_o {A : gM} {a : Nat} {r w : Int} : But [9] (fiA A a r w) A := But_u (But_u (But_u (But_u But_r rfl) rfl) rfl) rfl
theorem fiA_9 {A : gM} {a : Nat} {r w : Int} : ∀ x, x ≠ a → fiA A a r w 9 x = A 9 x := fun x hx => by
  unfold fiA
  rw [gU_i hx, gU_i hx, gU_i hx, gU_i hx]
theorem fiA_9k {A : gM} {a : Nat} {r w : Int} : fiA A a r w 9 a 2 = 3 ∧ fiA A a r w 9 a 3 = r ∧ fiA A a r w 9 a 4 = w ∧ fiA A a r w 9 a 5 = (if 0 < A 9 a 7 then 1 else 0) ∧ ∀ k, k = 0 ∨ k = 1 ∨ 6 ≤ k → fiA A a r w 9 a k = A 9 a k := by
  unfold fiA
  refine ⟨?_, ?_, ?_, gU_s _ _ _ _ _, fun k hk => ?_⟩
  · rw [gU_k (by decide), gU_k (by decide), gU_k (by decide), gU_s]
  · rw [gU_k (by decide), gU_k (by decide), gU_s]
  · rw [gU_k (by decide), gU_s]
  · rw [gU_k (by omega), gU_k (by omega), gU_k (by omega), gU_k (by omega)]
theorem finC {A : gM} {t m a : Nat} {r w : Int} (ht : t < 14) (hm : m ≤ 4) (h6 : A 7 t 6 = (m : Int)) (h0 : A 7 t 0 = (t : Int)) : f_X2_finish t a r w A = some (gU (fiA A a r w) 23 0 t (itr (fun i x => pls x (fiA A a r w 9 (4 * t + i) 3)) m 0 7)) := by
  have e6 : fiA A a r w 7 t 6 = (m : Int) := by rw [But_q fiA_o rfl, h6]
  have e0 : fiA A a r w 7 t 0 = (t : Int) := by rw [But_q fiA_o rfl, h0]
  unfold f_X2_finish
  rw [fiC, dgC hm e6, ob_s, e0, store_in ht]
/-- an action is DONE, with r by w; a count may have been counted up before -/
def dnA (A : gM) (t s m : Nat) (r w : Int) : gM := gU (fiA A (4 * t + s) r w) 23 0 t (itr (fun i x => pls x (fiA A (4 * t + s) r w 9 (4 * t + i) 3)) m 0 7)
def dnB (B : gM) (a : Nat) (r w : Int) : gM := gU (gU (gU B 60 0 a 3) 61 0 a r) 62 0 a w
theorem dnB_o {B : gM} {a : Nat} {r w : Int} : But [60, 61, 62] (dnB B a r w) B := But_u (But_u (But_u But_r rfl) rfl) rfl
theorem dnB_60 {B : gM} {a : Nat} {r w : Int} : ∀ x, dnB B a r w 60 0 x = if x = a then 3 else B 60 0 x := fun x => by
  unfold dnB
  rw [gU_r (by decide), gU_r (by decide), gU_same]
  rfl
theorem dnB_61 {B : gM} {a : Nat} {r w : Int} : ∀ x, dnB B a r w 61 0 x = if x = a then r else B 61 0 x := fun x => by
  unfold dnB
  rw [gU_r (by decide), gU_same, gU_r (by decide)]
  rfl
theorem dnB_62 {B : gM} {a : Nat} {r w : Int} : ∀ x, dnB B a r w 62 0 x = if x = a then w else B 62 0 x := fun x => by
  unfold dnB
  rw [gU_same, gU_r (by decide), gU_r (by decide)]
  rfl
theorem dnA_o {A : gM} {t s m : Nat} {r w : Int} : But [9, 23] (dnA A t s m r w) A := But_u (But_w fiA_o rfl) rfl
theorem dnA_9 {A : gM} {t s m : Nat} {r w : Int} : dnA A t s m r w 9 = fiA A (4 * t + s) r w 9 := gU_r (by decide)
/-- RB when 4 t + s is DONE: its flake is set as the class has it -/
theorem RB_dn {A B : gM} {n c t s m : Nat} {r w : Int} {B' : gM} (h6 : RB A B n c) (h2 : RT A B n) (hs : s < 4) (hao : aOK B n t s) (hnd : ndd B t) (hm : B 38 0 t = (m : Int)) (hr : 0 ≤ r ∧ r ≤ 100002) (hw : 0 ≤ w ∧ w ≤ 3) (fB : But [60, 61, 62, 64] B' B) (e60 : ∀ x, B' 60 0 x = if x = 4 * t + s then 3 else B 60 0 x) (e61 : ∀ x, B' 61 0 x = if x = 4 * t + s then r else B 61 0 x) (e62 : ∀ x, B' 62 0 x = if x = 4 * t + s then w else B 62 0 x) (e64 : ∀ x, B' 64 0 x = if x = 4 * t + s then (if 0 < B 63 0 (4 * t + s) then 1 else 0) else B 64 0 x) : RB (dnA A t s m r w) B' n c := by
  have ht14 : t < 14 := Nat.lt_of_lt_of_le hao.1 h2.1
  have fA : But [9, 23] (dnA A t s m r w) A := dnA_o
  have tN : TdN B B' := TdN_b (But_w fB rfl) (by rw [But_q fB rfl])
  have k7 := h6.2.2.2.2.2.2.1 (4 * t + s)
  obtain ⟨f2, f3, f4, f5, f0⟩ := fiA_9k (A := A) (a := 4 * t + s) (r := r) (w := w)
  obtain ⟨y1, y2, y3, y4, y5, y6, y7, y8⟩ := k7
  have m4 : m ≤ 4 := by have := sh4 h2 t hao.1; omega
  refine RB_act h6 (sh4 h2) tN ht14 hs hao hnd (by rw [But_q fA rfl]) (by rw [But_q fA rfl]) (by rw [But_q fA rfl]) (by rw [But_q fA rfl]) (by rw [But_q fB rfl]) (by rw [But_q fB rfl]) (fun a ha => by rw [dnA_9, fiA_9 a ha]) (fun q hq a ha => ?_) (fun t' _ => by rw [But_q fA rfl]; exact ⟨rfl, rfl⟩) (fun t' _ => by rw [But_q fB rfl, But_q fB rfl]; exact ⟨rfl, rfl⟩) (fun t' ht' => ?_) ?_ ?_ ?_ ?_ ?_ ?_ ?_ ?_
  · simp only [List.mem_cons, List.not_mem_nil, or_false] at hq
    rcases hq with rfl | rfl | rfl | rfl | rfl | rfl
    · rw [e60, if_neg ha]
    · rw [e61, if_neg ha]
    · rw [e62, if_neg ha]
    · rw [But_q fB rfl]
    · rw [e64, if_neg ha]
    · rw [But_q fB rfl]
  · unfold dnA
    rw [gU_k ht', But_q fiA_o rfl]
  · rw [But_q fB rfl, But_q fA rfl]
    exact fl0 h6
  · rw [dnA_9]
    exact ⟨f0 0 (Or.inl rfl), f0 1 (Or.inr (Or.inl rfl))⟩
  · rw [dnA_9, f3, f4, f0 6 (Or.inr (Or.inr (by decide))), f0 7 (Or.inr (Or.inr (by decide))), e61, if_pos rfl, e62, if_pos rfl, e64, if_pos rfl, But_q fB rfl, But_q fB rfl]
    refine ⟨rfl, rfl, y3, y4, hr, hw, y7, ?_⟩
    by_cases q : 0 < B 63 0 (4 * t + s)
    · rw [if_pos q]; exact Or.inr rfl
    · rw [if_neg q]; exact Or.inl rfl
  · rw [dnA_9, f2, f5, e60, if_pos rfl, e64, if_pos rfl, y4]
    exact ⟨rfl, ⟨by decide, by decide⟩, fun _ => rfl⟩
  · rw [But_q fB rfl]
    exact at0 h6 _
  · rw [But_q fA rfl, But_q fB rfl, But_q fB rfl]
    exact h6.2.2.2.2.2.2.2.2.1 t ht14
  · intro s' _ _ _
    unfold dnA dgS
    rw [gU_s, show B' 38 = B 38 from But_q fB rfl, hm, Int.toNat_natCast]
    exact itr_congr (P := fun _ _ => True) (B := m) (fun i x hi _ => ⟨by
      show pls x _ = pls x _
      congr 1
      rw [e61]
      by_cases q : 4 * t + i = 4 * t + s
      · rw [if_pos q, q, f3]
      · rw [if_neg q, fiA_9 _ q]
        exact (h6.2.2.2.2.2.2.1 (4 * t + i)).1, trivial⟩) m 0 7 (by omega) trivial
  · rw [e60, if_pos rfl]
    exact ⟨fun q => absurd q (by decide), fun q => absurd rfl q⟩
