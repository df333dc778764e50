theorem SI_start {A B A2 B2 : gM} {n c w t s : Nat} {key con T att : Int} (h : SI A B n c) (g0 : G0 B n) (g3 : G3 B n) (hw : w < 4) (hidle : idl B w) (hs : s < 4) (hao : aOK B n t s) (hnd : ndd B t) (hst : B 60 0 (4 * t + s) = 1 ∨ B 60 0 (4 * t + s) = 2) (hD : inD B n t) (hone : (∀ v, v < 4 → v ≠ w → B 54 0 v ≠ ((4 * t + s : Nat) : Int)) ∨ w = 0)
    (fA : But [9, 11, 24] A2 A) (fB : But [54, 55, 56, 57, 58, 60, 65, 68, 73] B2 B) (a11 : ∀ v, v ≠ w → A2 11 v = A 11 v) (a11w : A2 11 w 0 = A 11 w 0 ∧ A2 11 w 1 = A 11 w 1 ∧ A2 11 w 2 = A 11 w 2 ∧ A2 11 w 3 = ((4 * t + s : Nat) : Int) ∧ A2 11 w 4 = key ∧ A2 11 w 5 = con ∧ A2 11 w 6 = T ∧ A2 11 w 7 = T)
    (a9 : ∀ x, x ≠ 4 * t + s → A2 9 x = A 9 x) (a9k : ∀ k, A2 9 (4 * t + s) k = if k = 2 then 2 else if k = 6 then att else A 9 (4 * t + s) k) (a24 : A2 24 0 = g1 (A 24 0) 0 (wI (A 24 0 0 + 1))) (b68 : B2 68 0 = g1 (B 68 0) 0 (wI (B 68 0 0 + 1)))
    (b54 : ∀ v, B2 54 0 v = if v = w then ((4 * t + s : Nat) : Int) else B 54 0 v) (b55 : ∀ v, B2 55 0 v = if v = w then T else B 55 0 v) (b56 : ∀ v, B2 56 0 v = if v = w then T else B 56 0 v) (b57 : ∀ v, B2 57 0 v = if v = w then key else B 57 0 v) (b58 : ∀ v, B2 58 0 v = if v = w then con else B 58 0 v) (b60 : ∀ x, B2 60 0 x = if x = 4 * t + s then 2 else B 60 0 x) (b65 : ∀ x, B2 65 0 x = if x = 4 * t + s then att else B 65 0 x)
    (hkey : 0 ≤ key ∧ key ≤ 100002) (hcon : -1 ≤ con ∧ con ≤ 999) (hfin : B 39 0 t = -1 → con = -1) (hT : 1 ≤ T ∧ T ≤ 50) (hatt : 0 ≤ att ∧ att ≤ 200 * (c : Int)) : SI A2 B2 n c ∧ G0 B2 n ∧ G3 B2 n := by
  obtain ⟨h1, h2, h3, h4, h5, h6, g1', g2, g4⟩ := h
  obtain ⟨i1, i2, i3⟩ := RW_iff.mp h5
  have ht14 : t < 14 := Nat.lt_of_lt_of_le hao.1 h2.1
  have tN : TdN B B2 := TdN_b (But_w fB rfl) (by rw [But_q fB rfl])
  have ne60 : ∀ a, a ≠ 4 * t + s → B2 60 0 a = B 60 0 a := fun a ha => by rw [b60, if_neg ha]
  have n60 : B2 60 0 (4 * t + s) = 2 := by rw [b60, if_pos rfl]
  have old3 : B 60 0 (4 * t + s) ≠ 3 := fun q => by
    rcases hst with z | z
    · rw [z] at q; exact absurd q (by decide)
    · rw [z] at q; exact absurd q (by decide)
  have k7 := h6.2.2.2.2.2.2.1 (4 * t + s)
  have k12 := h6.2.2.2.2.2.2.2.2.2.2.2 t s hs hao hnd
  obtain ⟨w0, w1, w2, w3, w4, w5, w6, w7⟩ := a11w
  obtain ⟨e1, e2, e3, e4, e5, e6, e7⟩ := i1.1 w
  have b53 : B2 53 = B 53 := But_q fB rfl
  have b59 : B2 59 = B 59 := But_q fB rfl
  refine ⟨⟨RS_c h1 (fun q hq => by rw [But_l fA (K := [12, 13, 14, 15, 16]) rfl q hq]) (by rw [But_q fA rfl]) (But_l fB rfl) (by rw [But_q fB rfl]), RT_c h2 (But_l fA rfl) (by rw [But_q fA rfl]) (fun t k _ => by rw [But_q fA rfl]) (But_l fB rfl) (by rw [But_q fB rfl]), RC_c h3 (But_q fA rfl) (But_q fA rfl) (But_l fB rfl) (by rw [But_q fB rfl]), RO_tally (k := 0) h4 (by rw [But_q fA rfl]) (by rw [But_q fA rfl]) (by rw [But_q fA rfl]) (by rw [But_q fB rfl]) (by rw [But_q fB rfl]) (by rw [But_q fB rfl]) a24 b68, RW_iff.mpr ⟨?_, ?_, ?_⟩, ?_, G1_t tN g1', ?_, ?_⟩, ⟨t, s, hs, (aOK_t tN.1 n _ _).mpr hao, (ndd_t tN _).mpr hnd, by rw [n60]; decide⟩, G3_act tN g3 hs ne60 (by rw [n60]; decide) (by rw [n60]; decide)⟩
  · refine W12_act (w := w) i1 a11 (fun q hq v hv => ?_) ?_ (fun _ => ?_)
    · simp only [List.mem_cons, List.not_mem_nil, or_false] at hq
      rcases hq with rfl | rfl | rfl | rfl | rfl | rfl | rfl
      · rw [b53]
      · rw [b54, if_neg hv]
      · rw [b55, if_neg hv]
      · rw [b56, if_neg hv]
      · rw [b57, if_neg hv]
      · rw [b58, if_neg hv]
      · rw [b59]
    · rw [w1, w2, w3, w4, w5, w6, w7, b53, b59, b54, b55, b56, b57, b58, if_pos rfl, if_pos rfl, if_pos rfl, if_pos rfl, if_pos rfl]
      exact ⟨e1, e2, rfl, rfl, rfl, rfl, rfl⟩
    · obtain ⟨z1, z2, z3, -⟩ := i1.2 w hw
      rw [w0, b53, b59, b55, if_pos rfl]
      exact ⟨z1, z2, z3, by unfold nmI; omega⟩
  · refine W3_act i2 (Int.le_refl _) tN (fun v hv => ?_)
    by_cases e : v = w
    · refine Or.inr (Or.inl ⟨t, s, ?_⟩)
      unfold atA
      rw [e, b54, b55, b56, b57, b58, if_pos rfl, if_pos rfl, if_pos rfl, if_pos rfl, if_pos rfl, b53, n60, tN.1 39 (by decide)]
      exact ⟨rfl, hs, (aOK_t tN.1 n _ _).mpr hao, (ndd_t tN _).mpr hnd, rfl, hT.1, hT.2, hT.1, hT.2, hidle.2, hkey.1, hkey.2, hcon.1, hcon.2, hfin⟩
    · refine Or.inr (Or.inr ⟨fun q hq => ?_, fun a _ h2' => ?_⟩)
      · simp only [List.mem_cons, List.not_mem_nil, or_false] at hq
        rcases hq with rfl | rfl | rfl | rfl | rfl | rfl
        · rw [b53]
        · rw [b54, if_neg e]
        · rw [b55, if_neg e]
        · rw [b56, if_neg e]
        · rw [b57, if_neg e]
        · rw [b58, if_neg e]
      · rw [b60]
        by_cases ea : a = 4 * t + s
        · rw [if_pos ea]
        · rw [if_neg ea]; exact h2'
  · intro u v hu hv u1 v1 huv
    by_cases eu : u = w
    · have vw : v ≠ w := fun q => huv (eu.trans q.symm)
      refine Or.inr ?_
      rw [b54, if_pos eu, b54, if_neg vw]
      rcases hone with q | q
      · exact fun z => q v hv vw z.symm
      · rw [eu, q] at u1; exact absurd u1 (by decide)
    · by_cases ev : v = w
      · refine Or.inr ?_
        rw [b54, if_neg eu, b54, if_pos ev]
        rcases hone with q | q
        · exact q u hu eu
        · rw [ev, q] at v1; exact absurd v1 (by decide)
      · rw [b54, if_neg eu, b54, if_neg ev]
        exact i3 u v hu hv u1 v1 huv
  · refine RB_act h6 (sh4 h2) tN ht14 hs hao hnd (by rw [But_q fA rfl]) (by rw [But_q fA rfl]) (by rw [But_q fA rfl]) (by rw [But_q fA rfl]) (by rw [But_q fB rfl]) (by rw [But_q fB rfl]) a9 (fun q hq a ha => ?_) (fun t' _ => by rw [But_q fA rfl]; exact ⟨rfl, rfl⟩) (fun t' _ => by rw [But_q fB rfl, But_q fB rfl]; exact ⟨rfl, rfl⟩) (fun t' _ => by rw [But_q fA rfl]) ?_ ?_ ?_ ?_ ?_ ?_ ?_ ?_
    · by_cases e : q = 60
      · rw [e]; exact ne60 a ha
      · by_cases e' : q = 65
        · rw [e', b65, if_neg ha]
        · rw [fB q (fun m => by simp only [List.mem_cons, List.not_mem_nil, or_false] at m hq; omega)]
    · rw [But_q fB rfl, But_q fA rfl]
      exact fl0 h6
    · rw [a9k, a9k]; exact ⟨rfl, rfl⟩
    · obtain ⟨y1, y2, y3, y4, y5, y6, y7, y8⟩ := k7
      rw [a9k, a9k, a9k, a9k, b65, if_pos rfl, show B2 61 = B 61 from But_q fB rfl, show B2 62 = B 62 from But_q fB rfl, show B2 63 = B 63 from But_q fB rfl, show B2 64 = B 64 from But_q fB rfl]
      exact ⟨y1, y2, (if_pos rfl).symm, y4, y5, y6, y7, y8⟩
    · rw [a9k, n60]
      exact ⟨rfl, ⟨by decide, by decide⟩, fun q => absurd q (by decide)⟩
    · rw [b65, if_pos rfl]
      exact hatt
    · rw [But_q fA rfl, But_q fB rfl, But_q fB rfl]
      exact h6.2.2.2.2.2.2.2.2.1 t ht14
    · intro s' hs' ho' h3'
      rw [But_q fA rfl]
      have ne : 4 * t + s' ≠ 4 * t + s := fun q => by rw [q, n60] at h3'; exact absurd h3' (by decide)
      rw [ne60 _ ne] at h3'
      rw [h6.2.2.2.2.2.2.2.2.2.1 t s' hs' ho' hnd h3', ← dgS_t tN.1 (show B2 61 = B 61 from But_q fB rfl)]
    · rw [n60, show B2 64 = B 64 from But_q fB rfl]
      exact ⟨fun q => absurd q (by decide), fun _ => k12.2 old3⟩
  · exact G2_act tN g2 hs ne60 old3 hao (fun _ u hi y hy hoy => hD u hi y hy hoy)
  · refine G4_act tN g4 hs ne60 (fun u hu _ hm => ⟨u, hu, ?_⟩) (fun _ => ⟨w, hw, by rw [b54, if_pos rfl]⟩)
    rw [b54, if_neg (fun q => hm (by rw [q]; exact hidle.1))]
theorem cnt_in {A B : gM} (hS : RS A B) {t : Nat} {key : Int} (hk : 0 ≤ key ∧ key ≤ 100002) : (-1 ≤ cnt B (B 30 0) t key ∧ cnt B (B 30 0) t key ≤ 999) ∧ (B 39 0 t = -1 → cnt B (B 30 0) t key = -1) := by
  unfold cnt
  by_cases e : B 39 0 t = -1
  · rw [if_pos e]; exact ⟨⟨by decide, by decide⟩, fun _ => rfl⟩
  · rw [if_neg e]
    have := hS.2.2.2.2.2.2.1 (gRem key 16).toNat
    exact ⟨by omega, fun q => absurd q e⟩
theorem bnA_11 {A : gM} {w a : Nat} {key con T : Int} : (∀ v, v ≠ w → bnA A w a key con T 11 v = A 11 v) ∧ (bnA A w a key con T 11 w 0 = A 11 w 0 ∧ bnA A w a key con T 11 w 1 = A 11 w 1 ∧ bnA A w a key con T 11 w 2 = A 11 w 2 ∧ bnA A w a key con T 11 w 3 = (a : Int) ∧ bnA A w a key con T 11 w 4 = key ∧ bnA A w a key con T 11 w 5 = con ∧ bnA A w a key con T 11 w 6 = T ∧ bnA A w a key con T 11 w 7 = T) ∧ bnA A w a key con T 24 0 = g1 (A 24 0) 0 (wI (A 24 0 0 + 1)) := by
  have e : bnA A w a key con T 11 = gU (gU (gU (gU (gU A 11 w 3 (a : Int)) 11 w 4 key) 11 w 5 con) 11 w 7 T) 11 w 6 T 11 := But_q taA_o rfl
  refine ⟨fun v hv => ?_, ?_, ?_⟩
  · rw [e, gU_i hv, gU_i hv, gU_i hv, gU_i hv, gU_i hv]
  · rw [e]
    refine ⟨?_, ?_, ?_, ?_, ?_, ?_, gU_s _ _ _ _ _, ?_⟩
    · rw [gU_k (by decide), gU_k (by decide), gU_k (by decide), gU_k (by decide), gU_k (by decide)]
    · rw [gU_k (by decide), gU_k (by decide), gU_k (by decide), gU_k (by decide), gU_k (by decide)]
    · rw [gU_k (by decide), gU_k (by decide), gU_k (by decide), gU_k (by decide), gU_k (by decide)]
    · rw [gU_k (by decide), gU_k (by decide), gU_k (by decide), gU_k (by decide), gU_s]
    · rw [gU_k (by decide), gU_k (by decide), gU_k (by decide), gU_s]
    · rw [gU_k (by decide), gU_k (by decide), gU_s]
    · rw [gU_k (by decide), gU_s]
  · have b : But [11] (gU (gU (gU (gU (gU A 11 w 3 (a : Int)) 11 w 4 key) 11 w 5 con) 11 w 7 T) 11 w 6 T) A := But_u (But_u (But_u (But_u (But_u But_r rfl) rfl) rfl) rfl) rfl
    unfold bnA taA
    rw [gU_same, But_q b rfl]
theorem bnB_c {B : gM} {w a : Nat} {key con T : Int} : (∀ v, bnB B w a key con T 54 0 v = if v = w then (a : Int) else B 54 0 v) ∧ (∀ v, bnB B w a key con T 55 0 v = if v = w then T else B 55 0 v) ∧ (∀ v, bnB B w a key con T 56 0 v = if v = w then T else B 56 0 v) ∧ (∀ v, bnB B w a key con T 57 0 v = if v = w then key else B 57 0 v) ∧ (∀ v, bnB B w a key con T 58 0 v = if v = w then con else B 58 0 v) ∧ (∀ x, bnB B w a key con T 60 0 x = if x = a then 2 else B 60 0 x) ∧ bnB B w a key con T 68 0 = g1 (B 68 0) 0 (wI (B 68 0 0 + 1)) := by
  have b : But [54, 55, 56, 57, 58, 60] (gU (gU (gU (gU (gU (gU B 54 0 w (a : Int)) 56 0 w T) 55 0 w T) 57 0 w key) 58 0 w con) 60 0 a 2) B := But_u (But_u (But_u (But_u (But_u (But_u But_r rfl) rfl) rfl) rfl) rfl) rfl
  refine ⟨fun v => ?_, fun v => ?_, fun v => ?_, fun v => ?_, fun v => ?_, fun v => ?_, ?_⟩
  · unfold bnB
    rw [But_q taB_o rfl, gU_r (by decide), gU_r (by decide), gU_r (by decide), gU_r (by decide), gU_r (by decide), gU_same]; rfl
  · unfold bnB
    rw [But_q taB_o rfl, gU_r (by decide), gU_r (by decide), gU_r (by decide), gU_same, gU_r (by decide), gU_r (by decide)]; rfl
  · unfold bnB
    rw [But_q taB_o rfl, gU_r (by decide), gU_r (by decide), gU_r (by decide), gU_r (by decide), gU_same, gU_r (by decide)]; rfl
  · unfold bnB
    rw [But_q taB_o rfl, gU_r (by decide), gU_r (by decide), gU_same, gU_r (by decide), gU_r (by decide), gU_r (by decide)]; rfl
  · unfold bnB
    rw [But_q taB_o rfl, gU_r (by decide), gU_same, gU_r (by decide), gU_r (by decide), gU_r (by decide), gU_r (by decide)]; rfl
  · unfold bnB
    rw [But_q taB_o rfl, gU_same, gU_r (by decide), gU_r (by decide), gU_r (by decide), gU_r (by decide), gU_r (by decide)]; rfl
  · unfold bnB taB
    rw [gU_same, But_q b rfl]
/-- what holds in a tick's first part -/
def MI (A B : gM) (n c : Nat) : Prop := SI A B n c ∧ B 29 0 36 = 1 ∧ G0 B n ∧ G3 B n
theorem att_w {x : Int} (h : 0 ≤ x ∧ x ≤ 200000) : wI (x + 1) = x + 1 := wI_eq (by unfold nmI; omega)
/-- a READY action is begun, on both sides -/
theorem beg1 {A B : gM} {n c w t s : Nat} {x : Int} (h : MI A B n c) (hw : w < 4) (hidle : idl B w) (hr : rdyA B n t s) (hx : ∀ a, B 65 0 a ≤ x) (hx1 : x + 1 ≤ 200 * (c : Int)) (hc : c ≤ 600) : ∃ A2 B2 : gM, f_X2_start w (4 * t + s) (gU (gU A 9 (4 * t + s) 2 2) 9 (4 * t + s) 6 (wI (((gU A 9 (4 * t + s) 2 2) 9 (4 * t + s) 6) + 1))) = some A2 ∧ f_X12_begins ((4 * t + s : Nat) : Int) (w : Int) (gU B 65 0 (4 * t + s) (wI ((B 65 0 (4 * t + s)) + 1))) = some B2 ∧ MI A2 B2 n c ∧ (∀ a, B2 65 0 a ≤ x + 1) ∧ But [9, 11, 24] A2 A ∧ But [54, 55, 56, 57, 58, 60, 65, 68] B2 B ∧ ∀ v, B2 54 0 v = if v = w then ((4 * t + s : Nat) : Int) else B 54 0 v := by
  obtain ⟨hSI, hg, g0, g3⟩ := h
  have hSI' := hSI
  obtain ⟨h1, h2, h3, h4, h5, h6, g1', g2, g4⟩ := hSI'
  obtain ⟨i1, i2, i3⟩ := RW_iff.mp h5
  obtain ⟨hs, hao, hnd, h60, -⟩ := hr
  have ht := hao.1
  have ht14 : t < 14 := Nat.lt_of_lt_of_le ht h2.1
  obtain ⟨z, z1, z2, z3⟩ := szT h2 ht
  have hp : 0 < B 53 0 w ∧ B 53 0 w ≤ 9 := ⟨hidle.2, (i1.2 w hw).2.1.2⟩
  have hD : inD B n t := fun u hu v hv ho => g2 t s hs hao hnd (Or.inl h60) u hu v hv ho
  obtain ⟨e1, e2, -⟩ := i1.1 w
  have hk := key_in h1 h2 h6 ht hs
  obtain ⟨hcn, hcf⟩ := cnt_in h1 (t := t) hk
  obtain ⟨tk1, tk2, -⟩ := tkN_in z1 z3 hp
  obtain ⟨k0, k1, -⟩ := h6.2.2.2.2.2.2.2.1 t s ht14 hs
  have e96 : A 9 (4 * t + s) 6 = B 65 0 (4 * t + s) := (h6.2.2.2.2.2.2.1 (4 * t + s)).2.2.1
  have at1 := at0 h6 (4 * t + s)
  have atw : wI (B 65 0 (4 * t + s) + 1) = B 65 0 (4 * t + s) + 1 := att_w ⟨at1.1, by omega⟩
  have hb := hx (4 * t + s)
  have ea : wI (((gU A 9 (4 * t + s) 2 2) 9 (4 * t + s) 6) + 1) = B 65 0 (4 * t + s) + 1 := by rw [gU_k (by decide), e96, atw]
  have f1 : But [9] (gU (gU A 9 (4 * t + s) 2 2) 9 (4 * t + s) 6 (B 65 0 (4 * t + s) + 1)) A := But_u (But_u But_r rfl) rfl
  have cl := startC (A1 := gU (gU A 9 (4 * t + s) 2 2) 9 (4 * t + s) 6 (B 65 0 (4 * t + s) + 1)) h1 h2 h6 g1' ht hnd hD z1 z3 hs hw hp e1 e2 f1 ⟨by rw [gU_k (by decide), gU_k (by decide)]; exact k0, by rw [gU_k (by decide), gU_k (by decide)]; exact k1⟩
  have rf := startM (B1 := gU B 65 0 (4 * t + s) (B 65 0 (4 * t + s) + 1)) h1 h2 h6 ht z1 z3 hs hw hp (But_u But_r rfl)
  obtain ⟨x1, x2, x3⟩ := bnA_11 (A := gU (gU A 9 (4 * t + s) 2 2) 9 (4 * t + s) 6 (B 65 0 (4 * t + s) + 1)) (w := w) (a := 4 * t + s) (key := keyS B (B 30 0) (dgS B) t s) (con := cnt B (B 30 0) t (keyS B (B 30 0) (dgS B) t s)) (T := tkN B w t)
  obtain ⟨y1, y2, y3, y4, y5, y6, y7⟩ := bnB_c (B := gU B 65 0 (4 * t + s) (B 65 0 (4 * t + s) + 1)) (w := w) (a := 4 * t + s) (key := keyS B (B 30 0) (dgS B) t s) (con := cnt B (B 30 0) t (keyS B (B 30 0) (dgS B) t s)) (T := tkN B w t)
  have fA : But [9, 11, 24] (bnA (gU (gU A 9 (4 * t + s) 2 2) 9 (4 * t + s) 6 (B 65 0 (4 * t + s) + 1)) w (4 * t + s) (keyS B (B 30 0) (dgS B) t s) (cnt B (B 30 0) t (keyS B (B 30 0) (dgS B) t s)) (tkN B w t)) A := But_t (But_w f1 rfl) (But_w bnA_o rfl)
  have fB : But [54, 55, 56, 57, 58, 60, 65, 68] (bnB (gU B 65 0 (4 * t + s) (B 65 0 (4 * t + s) + 1)) w (4 * t + s) (keyS B (B 30 0) (dgS B) t s) (cnt B (B 30 0) t (keyS B (B 30 0) (dgS B) t s)) (tkN B w t)) B := But_t (But_u But_r rfl) (But_w bnB_o rfl)
  have r11 : gU (gU A 9 (4 * t + s) 2 2) 9 (4 * t + s) 6 (B 65 0 (4 * t + s) + 1) 11 = A 11 := But_q f1 rfl
  have r24 : gU (gU A 9 (4 * t + s) 2 2) 9 (4 * t + s) 6 (B 65 0 (4 * t + s) + 1) 24 = A 24 := But_q f1 rfl
  have b65 : ∀ y, bnB (gU B 65 0 (4 * t + s) (B 65 0 (4 * t + s) + 1)) w (4 * t + s) (keyS B (B 30 0) (dgS B) t s) (cnt B (B 30 0) t (keyS B (B 30 0) (dgS B) t s)) (tkN B w t) 65 0 y = if y = 4 * t + s then B 65 0 (4 * t + s) + 1 else B 65 0 y := fun y => by
    rw [But_q bnB_o rfl, gU_same]; rfl
  have rB : ∀ q, q ≠ 65 → gU B 65 0 (4 * t + s) (B 65 0 (4 * t + s) + 1) q = B q := fun q hq => gU_r hq
  rw [rB 54 (by decide)] at y1
  rw [rB 55 (by decide)] at y2
  rw [rB 56 (by decide)] at y3
  rw [rB 57 (by decide)] at y4
  rw [rB 58 (by decide)] at y5
  rw [rB 60 (by decide)] at y6
  rw [rB 68 (by decide)] at y7
  rw [r11] at x1 x2
  rw [r24] at x3
  obtain ⟨s1, s2, s3⟩ := SI_start hSI g0 g3 hw hidle hs hao hnd (Or.inl h60) hD (Or.inl (fun v hv hne q => by
    rcases i2 v hv with z | ⟨t', s', z⟩
    · rw [z] at q; omega
    · have e : 4 * t' + s' = 4 * t + s := Int.ofNat_inj.mp (z.1.symm.trans q)
      have := z.2.2.2.2.1
      rw [e, h60] at this
      exact absurd this (by decide))) fA (But_w fB rfl) x1 x2 (fun y hy => by rw [But_q bnA_o rfl, gU_i hy, gU_i hy]) (fun k => by
    rw [But_q bnA_o rfl]
    by_cases k2 : k = 2
    · rw [k2, gU_k (by decide), gU_s]; rfl
    · by_cases k6 : k = 6
      · rw [k6, gU_s]; rfl
      · rw [gU_k k6, gU_k k2, if_neg k2, if_neg k6]) x3 y7 y1 y2 y3 y4 y5 y6 b65 hk hcn hcf ⟨tk1, tk2⟩ ⟨by omega, by omega⟩
  refine ⟨_, _, by rw [ea]; exact cl, by rw [atw]; exact rf, ⟨s1, by rw [But_q fB rfl]; exact hg, s2, s3⟩, fun a => ?_, fA, fB, y1⟩
  rw [b65]
  by_cases e : a = 4 * t + s
  · rw [if_pos e]; omega
  · rw [if_neg e]
    have := hx a
    omega
