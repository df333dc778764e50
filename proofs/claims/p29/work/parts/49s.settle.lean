theorem flagEq {x st : Int} (hx : x = 0 ∨ x = 1) : (if x = 0 then (if st < 3 then (1 : Int) else 0) else 1) = gOr x (if st < 3 then 1 else 0) ∧ ((if x = 0 then (if st < 3 then (1 : Int) else 0) else 1) = 0 ∨ (if x = 0 then (if st < 3 then (1 : Int) else 0) else 1) = 1) ∧ ((if x = 0 then (if st < 3 then (1 : Int) else 0) else 1) = 1 ↔ x = 1 ∨ st < 3) := by
  obtain ⟨o1, o2, o3, o4⟩ := or01
  rcases hx with rfl | rfl
  · rw [if_pos rfl]
    by_cases h : st < 3
    · rw [if_pos h, o2]; exact ⟨rfl, Or.inr rfl, fun _ => Or.inr h, fun _ => rfl⟩
    · rw [if_neg h, o1]; exact ⟨rfl, Or.inl rfl, fun q => absurd q ne01, fun q => q.elim (fun q => absurd q ne01) (fun q => absurd q h)⟩
  · rw [if_neg ne10]
    refine ⟨?_, Or.inr rfl, fun _ => Or.inl rfl, fun _ => rfl⟩
    by_cases h : st < 3
    · rw [if_pos h, o4]
    · rw [if_neg h, o3]
theorem setS {A0 B0 A B : gM} {n c t s n1 n2 : Nat} {x1 : Int} {k k' : gM → Option gM} (h : JI A0 B0 n c t s A B) (hb1 : 1 ≤ A0 4 0 7) (hs : s < 4) (hao : aOK B n t s) (hnd : ndd B t) : ∃ A' B' : gM, f_X2_settle_L39 k x1 t t 4 (n1 + 1) (s : Int) A = f_X2_settle_L39 k x1 t t 4 n1 ((s + 1 : Nat) : Int) A' ∧ f_X12_opens_L17 k' (t : Int) (n2 + 1) (s : Int) B = f_X12_opens_L17 k' (t : Int) n2 ((s + 1 : Nat) : Int) B' ∧ JI A0 B0 n c t (s + 1) A' B' := by
  have hSI := h.1
  have hT := hSI.2.1
  have hRB := hSI.2.2.2.2.2.1
  have h14 : t < 14 := Nat.lt_of_lt_of_le hao.1 hT.1
  have g4 : (0 : Int) ≤ (s : Int) ∧ (s : Int) < 4 := by omega
  have g14 : (0 : Int) ≤ (t : Int) ∧ (t : Int) < 14 := by omega
  have g56 : (0 : Int) ≤ ((4 * t + s : Nat) : Int) ∧ ((4 * t + s : Nat) : Int) < 56 := by omega
  have w : wI (wI (4 * (t : Int)) + (s : Int)) = ((4 * t + s : Nat) : Int) := w4 (by omega) (by omega)
  have w1 : wI ((s : Int) + 1) = ((s + 1 : Nat) : Int) := wI_s (by omega)
  have i1 : f_X12_isNeeded (t : Int) B = 1 := if_pos hnd
  have stE' : ∀ {A1 B1 : gM}, SI A1 B1 n c → aOK B1 n t s → ndd B1 t → A1 9 (4 * t + s) 2 = B1 60 0 (4 * t + s) ∧ 0 ≤ B1 60 0 (4 * t + s) := fun {A1 B1} q q1 q2 => by
    have := (q.2.2.2.2.2.1.2.2.2.2.2.2.2.1 t s h14 hs).2.2.1 ⟨q1, q2⟩
    exact ⟨this.1, this.2.1.1⟩
  have core : ∀ A1 B1 : gM, SI A1 B1 n c → But [9, 23, 24] A1 A → But [60, 61, 62, 63, 68] B1 B → (∀ x, x ≠ 4 * t + s → B1 60 0 x = B 60 0 x) → (B1 60 0 (4 * t + s) = 0 → unf B n t) → JI A0 B0 n c t (s + 1) (gU A1 4 0 8 (if A1 4 0 8 = 0 then (if B1 60 0 (4 * t + s) < 3 then 1 else 0) else 1)) (gU B1 29 0 36 (gOr (B1 29 0 36) (if B1 60 0 (4 * t + s) < 3 then 1 else 0))) := by
    intro A1 B1 q1 fA fB q2 q3
    have e8 : A1 4 0 8 = B1 29 0 36 := q1.2.2.2.2.2.1.2.1
    have e01 := q1.2.2.2.2.2.1.2.2.1
    obtain ⟨f1, f2, f3⟩ := flagEq (st := B1 60 0 (4 * t + s)) (e01.imp id (fun z => z.1))
    rw [e8, ← f1]
    refine JI_step h hb1 hs hao hnd q1 fA fB q2 q3 f2 (f3.trans ?_)
    rw [But_q fB rfl]
  have clF : ∀ A1 B1 : gM, SI A1 B1 n c → aOK B1 n t s → ndd B1 t → (if A1 4 0 8 = 0 then (if f_X0_isUnfinished (4 * t + s) A1 = 0 then f_X2_settle_L39 k x1 t t 4 n1 ((s + 1 : Nat) : Int) (gU A1 4 0 8 0) else f_X2_settle_L39 k x1 t t 4 n1 ((s + 1 : Nat) : Int) (gU A1 4 0 8 1)) else f_X2_settle_L39 k x1 t t 4 n1 ((s + 1 : Nat) : Int) (gU A1 4 0 8 1)) = f_X2_settle_L39 k x1 t t 4 n1 ((s + 1 : Nat) : Int) (gU A1 4 0 8 (if A1 4 0 8 = 0 then (if B1 60 0 (4 * t + s) < 3 then 1 else 0) else 1)) := by
    intro A1 B1 q1 q2 q3
    obtain ⟨e1, e2⟩ := stE' q1 q2 q3
    by_cases a : A1 4 0 8 = 0
    · rw [if_pos a, if_pos a]
      by_cases b : B1 60 0 (4 * t + s) < 3
      · rw [isU1 (by rw [e1]; exact ⟨e2, b⟩), if_neg ne10, if_pos b]
      · rw [isU0 (Or.inr (by rw [e1]; exact Int.not_lt.mp b)), if_pos rfl, if_neg b]
    · rw [if_neg a, if_neg a]
  have rfF : ∀ B1 : gM, (if B1 60 0 (4 * t + s) < 3 then f_X12_opens_L17 k' (t : Int) n2 ((s + 1 : Nat) : Int) (gU B1 29 0 36 (gOr (B1 29 0 36) 1)) else f_X12_opens_L17 k' (t : Int) n2 ((s + 1 : Nat) : Int) (gU B1 29 0 36 (gOr (B1 29 0 36) 0))) = f_X12_opens_L17 k' (t : Int) n2 ((s + 1 : Nat) : Int) (gU B1 29 0 36 (gOr (B1 29 0 36) (if B1 60 0 (4 * t + s) < 3 then 1 else 0))) := by
    intro B1
    by_cases b : B1 60 0 (4 * t + s) < 3
    · rw [if_pos b, if_pos b]
    · rw [if_neg b, if_neg b]
  obtain ⟨e1, e2⟩ := stE' hSI hao hnd
  by_cases h60 : B 60 0 (4 * t + s) = 0
  · obtain ⟨A1, B1, r1, r2, r3, r4, r5, r6, r7⟩ := lvCM hSI hs hao hnd h60
    have tN : TdN B B1 := TdN_9 (But_w r5 rfl)
    refine ⟨_, _, ?_, ?_, core A1 B1 r3 r4 r5 r6 (fun q => ?_)⟩
    · rw [f_X2_settle_L39, if_pos g4.2, og_t g4, Int.toNat_natCast]
      dsimp only [oj]
      rw [if_pos (e1.trans h60), r1, ob_s, w1]
      exact clF A1 B1 r3 ((aOK_t tN.1 n _ _).mpr hao) ((ndd_t tN _).mpr hnd)
    · rw [f_X12_opens_L17, og_t g14, Int.toNat_natCast, if_pos hao.2, i1, if_neg ne10, w, og_t g56]
      dsimp only [oj]
      rw [Int.toNat_natCast, if_pos h60, r2, ob_s, og_t g56, w1]
      exact rfF B1
    · rcases r7 with ⟨_, p⟩ | p
      · exact p
      · omega
  · refine ⟨_, _, ?_, ?_, core A B hSI But_r But_r (fun _ _ => rfl) (fun q => absurd q h60)⟩
    · rw [f_X2_settle_L39, if_pos g4.2, og_t g4, Int.toNat_natCast]
      dsimp only [oj]
      rw [if_neg (fun q => h60 (e1.symm.trans q)), w1]
      exact clF A B hSI hao hnd
    · rw [f_X12_opens_L17, og_t g14, Int.toNat_natCast, if_pos hao.2, i1, if_neg ne10, w, og_t g56]
      dsimp only [oj]
      rw [Int.toNat_natCast, if_neg h60, og_t g56, w1]
      exact rfF B
theorem JI_td {A0 B0 A B : gM} {n c t s : Nat} (h : JI A0 B0 n c t s A B) : TdN B0 B := ⟨fun q hq => h.2.2.2.2.2.1 q (fun m => by
  simp only [List.mem_cons, List.not_mem_nil, or_false] at m hq
  omega), h.2.2.2.2.2.2 37 (by decide)⟩
theorem setT {A0 B0 : gM} {n c t m : Nat} {x1 : Int} {k k' : gM → Option gM} (hb1 : 1 ≤ A0 4 0 7) (ht : t < n) (hm4 : m ≤ 4) (hm : B0 38 0 t = (m : Int)) (hnd : ndd B0 t) : ∀ (d s n1 n2 : Nat) (A B : gM), s + d = m → 4 < n1 + s → d < n2 → JI A0 B0 n c t s A B → ∃ A' B' : gM, f_X2_settle_L39 k x1 t t 4 n1 (s : Int) A = k A' ∧ f_X12_opens_L17 k' (t : Int) n2 (s : Int) B = k' B' ∧ JI A0 B0 n c t m A' B' := by
  intro d
  induction d with
  | zero =>
    intro s n1 n2 A B e h1 h2 h
    obtain ⟨n2, rfl⟩ : ∃ x, n2 = x + 1 := ⟨n2 - 1, by omega⟩
    have e : s = m := by omega
    subst e
    have tN := JI_td h
    have hT := h.1.2.1
    have h14 : t < 14 := Nat.lt_of_lt_of_le ht hT.1
    have g14 : (0 : Int) ≤ (t : Int) ∧ (t : Int) < 14 := by omega
    have hmB : B 38 0 t = (s : Int) := by rw [tN.1 38 (by decide)]; exact hm
    have e8 : A 4 0 8 = B 29 0 36 := h.1.2.2.2.2.2.1.2.1
    have e01 := h.1.2.2.2.2.2.1.2.2.1
    refine ⟨A, B, ?_, ?_, h⟩
    · refine clSkip (by rw [e8]; exact e01.imp id (fun z => z.1)) (4 - s) s n1 (by omega) (by omega) (fun i q1 q2 => ?_)
      refine (h.1.2.2.2.2.2.1.2.2.2.2.2.2.2.1 t i h14 q2).2.2.2 (fun q => ?_)
      have := q.1.2
      rw [hmB] at this
      omega
    · rw [f_X12_opens_L17, og_t g14, Int.toNat_natCast, hmB, if_neg (Int.lt_irrefl _)]
  | succ d ih =>
    intro s n1 n2 A B e h1 h2 h
    have hs : s < 4 := by omega
    obtain ⟨n1, rfl⟩ : ∃ x, n1 = x + 1 := ⟨n1 - 1, by omega⟩
    obtain ⟨n2, rfl⟩ : ∃ x, n2 = x + 1 := ⟨n2 - 1, by omega⟩
    have tN := JI_td h
    have hao : aOK B n t s := ⟨ht, by rw [tN.1 38 (by decide), hm]; omega⟩
    obtain ⟨A', B', r1, r2, r3⟩ := setS (n1 := n1) (n2 := n2) (x1 := x1) (k := k) (k' := k') h hb1 hs hao ((ndd_t tN _).mpr hnd)
    obtain ⟨A2, B2, q1, q2, q3⟩ := ih (s + 1) n1 n2 A' B' (by omega) (by omega) (by omega) r3
    exact ⟨A2, B2, r1.trans q1, r2.trans q2, q3⟩
theorem JI_next {A0 B0 A B : gM} {n c t s : Nat} (h : JI A0 B0 n c t s A B) (hall : ndd B t → ∀ s', aOK B n t s' → s' < s) : JI A0 B0 n c (t + 1) 0 A B := by
  obtain ⟨j1, j2, j3, j4, j5, j6, j7⟩ := h
  have key : ∀ t' s', aOK B n t' s' → ndd B t' → (bef (t + 1) 0 t' s' ↔ bef t s t' s') := fun t' s' ho hd => by
    unfold bef
    by_cases e : t' = t
    · subst e
      have := hall hd s' ho
      omega
    · omega
  refine ⟨j1, fun t' s' q hs' ho hd hx => j2 t' s' ((key t' s' ho hd).mp q) hs' ho hd hx, j3.trans ?_, j4, j5, j6, j7⟩
  constructor
  · rintro ⟨t', s', q1, q2, q3, q4, q5⟩; exact ⟨t', s', (key t' s' q3 q4).mpr q1, q2, q3, q4, q5⟩
  · rintro ⟨t', s', q1, q2, q3, q4, q5⟩; exact ⟨t', s', (key t' s' q3 q4).mp q1, q2, q3, q4, q5⟩
theorem setL {A0 B0 : gM} {n c : Nat} (hb1 : 1 ≤ A0 4 0 7) : ∀ (d t n1 n2 : Nat) (A B : gM), t + d = n → d < n1 → d < n2 → JI A0 B0 n c t 0 A B → ∃ A' B' : gM, f_X2_settle_L7 (fun (M_7_103 : gM) => some M_7_103) n1 (t : Int) A = some A' ∧ f_X12_opens_L7 (fun (M_7_92 : gM) => some M_7_92) n2 (t : Int) B = some B' ∧ JI A0 B0 n c n 0 A' B' := by
  intro d
  induction d with
  | zero =>
    intro t n1 n2 A B e h1 h2 h
    obtain ⟨n1, rfl⟩ : ∃ x, n1 = x + 1 := ⟨n1 - 1, by omega⟩
    obtain ⟨n2, rfl⟩ : ∃ x, n2 = x + 1 := ⟨n2 - 1, by omega⟩
    have e : t = n := by omega
    subst e
    have hT := h.1.2.1
    refine ⟨A, B, ?_, ?_, h⟩
    · rw [f_X2_settle_L7, hT.2.1, if_neg (Int.lt_irrefl _)]
    · rw [f_X12_opens_L7, hT.2.2.1, if_neg (Int.lt_irrefl _)]
  | succ d ih =>
    intro t n1 n2 A B e h1 h2 h
    obtain ⟨n1, rfl⟩ : ∃ x, n1 = x + 1 := ⟨n1 - 1, by omega⟩
    obtain ⟨n2, rfl⟩ : ∃ x, n2 = x + 1 := ⟨n2 - 1, by omega⟩
    have ht : t < n := by omega
    have hT := h.1.2.1
    have h14 : t < 14 := Nat.lt_of_lt_of_le ht hT.1
    have w1 : wI ((t : Int) + 1) = ((t + 1 : Nat) : Int) := wI_s (by omega)
    have htl : (t : Int) < (n : Int) := by omega
    have g14 : (0 : Int) ≤ (t : Int) ∧ (t : Int) < 14 := by omega
    obtain ⟨m, m1, m2, m3, m4⟩ := shT hT ht
    have tN := JI_td h
    have m0 : B0 38 0 t = (m : Int) := by rw [← tN.1 38 (by decide)]; exact m4
    have i1 : 0 + m = m := by omega
    have i2 : m < 64 := by omega
    have i3 : t + 1 + d = n := by omega
    have i4 : d < n1 := by omega
    have i5 : d < n2 := by omega
    have key : ∃ A' B' : gM, f_X2_settle_L39 (fun (M_39_97 : gM) => f_X2_settle_L7 (fun (M_7_103 : gM) => some M_7_103) n1 ((t + 1 : Nat) : Int) M_39_97) (t : Int) t t 4 64 0 A = f_X2_settle_L7 (fun (M_7_103 : gM) => some M_7_103) n1 ((t + 1 : Nat) : Int) A' ∧ f_X12_opens_L17 (fun (M_17_86 : gM) => f_X12_opens_L7 (fun (M_7_92 : gM) => some M_7_92) n2 ((t + 1 : Nat) : Int) M_17_86) (t : Int) 64 0 B = f_X12_opens_L7 (fun (M_7_92 : gM) => some M_7_92) n2 ((t + 1 : Nat) : Int) B' ∧ JI A0 B0 n c (t + 1) 0 A' B' := by
      by_cases hnd : ndd B0 t
      · obtain ⟨A', B', q1, q2, q3⟩ := setT (x1 := (t : Int)) (k := fun (M_39_97 : gM) => f_X2_settle_L7 (fun (M_7_103 : gM) => some M_7_103) n1 ((t + 1 : Nat) : Int) M_39_97) (k' := fun (M_17_86 : gM) => f_X12_opens_L7 (fun (M_7_92 : gM) => some M_7_92) n2 ((t + 1 : Nat) : Int) M_17_86) hb1 ht m2 m0 hnd m 0 64 64 A B i1 (by decide) i2 h
        refine ⟨A', B', q1, q2, JI_next q3 (fun _ s' ho => ?_)⟩
        have := ho.2
        rw [(JI_td q3).1 38 (by decide), m0] at this
        exact Int.ofNat_lt.mp this
      · have hndB : ¬ ndd B t := fun q => hnd ((ndd_t tN _).mp q)
        have e8 : A 4 0 8 = B 29 0 36 := h.1.2.2.2.2.2.1.2.1
        have e01 := h.1.2.2.2.2.2.1.2.2.1
        refine ⟨A, B, ?_, ?_, JI_next h (fun q => absurd q hndB)⟩
        · exact clSkip (k := fun (M_39_97 : gM) => f_X2_settle_L7 (fun (M_7_103 : gM) => some M_7_103) n1 ((t + 1 : Nat) : Int) M_39_97) (by rw [e8]; exact e01.imp id (fun z => z.1)) 4 0 64 (by decide) (by decide) (fun i _ q2 => (h.1.2.2.2.2.2.1.2.2.2.2.2.2.2.1 t i h14 q2).2.2.2 (fun q => hndB q.2))
        · have i0 : f_X12_isNeeded (t : Int) B = 0 := if_neg hndB
          rw [f_X12_opens_L17, og_t g14, Int.toNat_natCast, m4, if_pos (show (0 : Int) < (m : Int) by omega), i0, if_pos rfl]
    obtain ⟨A', B', q1, q2, q3⟩ := key
    obtain ⟨A2, B2, r1, r2, r3⟩ := ih (t + 1) n1 n2 A' B' i3 i4 i5 q3
    refine ⟨A2, B2, ?_, ?_, r3⟩
    · rw [f_X2_settle_L7, hT.2.1, if_pos htl, tAt hT.2.1 hT.1 ht, w1]
      exact q1.trans r1
    · rw [f_X12_opens_L7, hT.2.2.1, if_pos htl, w1]
      exact q2.trans r2
theorem setCM {A B : gM} {n c : Nat} (h : SI A B n c) (hb1 : 1 ≤ A 4 0 7) : ∃ A' B' : gM, f_X2_settle A = some A' ∧ f_X12_opens B = some B' ∧ SI A' B' n c ∧ RG B' n ∧ But [4, 9, 23, 24] A' A ∧ (∀ k, k ≠ 8 → A' 4 0 k = A 4 0 k) ∧ But [29, 60, 61, 62, 63, 68] B' B ∧ ∀ j, j ≠ 36 → B' 29 0 j = B 29 0 j := by
  have h14 := h.2.1.1
  have hn : n < 64 := by omega
  have j0 : JI A B n c 0 0 (gU A 4 0 8 0) (gU B 29 0 36 0) := by
    refine ⟨SI_g h (Or.inl rfl), fun t' s' q => ?_, ?_, But_u But_r rfl, fun k hk => gU_k hk, But_u But_r rfl, fun j hj => gU_k hj⟩
    · unfold bef at q; omega
    · rw [gU_s]
      exact ⟨fun q => absurd q ne01, fun ⟨t', s', q, _⟩ => by unfold bef at q; omega⟩
  obtain ⟨A', B', r1, r2, j1, j2, j3, j4, j5, j6, j7⟩ := setL hb1 n 0 64 64 _ _ (by omega) hn hn j0
  have hb : ∀ t' s', aOK B' n t' s' → bef n 0 t' s' := fun t' s' q => Or.inl q.1
  refine ⟨A', B', r1, r2, j1, ⟨fun q t s hs ho hd => ?_, fun q => ?_⟩, j4, j5, j6, j7⟩
  · have : ¬ B' 60 0 (4 * t + s) < 3 := fun x => by
      have := j3.mpr ⟨t, s, hb t s ho, hs, ho, hd, x⟩
      rw [q] at this
      exact ne01 this
    omega
  · obtain ⟨t, s, q1, q2, q3, q4, q5⟩ := j3.mp q
    exact ⟨⟨t, s, q2, q3, q4, q5⟩, j1.2.2.2.2.2.2.1, j1.2.2.2.2.2.2.2.1, fun t s hs ho hd hx => j2 t s (hb t s ho) hs ho hd hx, j1.2.2.2.2.2.2.2.2⟩
