/-! ### build -/
/-- how many actions of the targets below t are needed -/
def opn (B : gM) (N t : Nat) : Nat := itr (fun t x => x + (if N.testBit t = true then (B 38 0 t).toNat else 0)) t 0 0
theorem opn_s (B : gM) (N t : Nat) : opn B N (t + 1) = opn B N t + (if N.testBit t = true then (B 38 0 t).toNat else 0) := by
  unfold opn
  rw [itr_s0]
theorem opn_lt {B : gM} {N : Nat} : ∀ t, (∀ u, u < t → B 38 0 u ≤ 4) → opn B N t ≤ 4 * t := by
  intro t
  induction t with
  | zero => intro _; exact Nat.le_refl _
  | succ t ih =>
    intro h
    have h1 := ih (fun u hu => h u (by omega))
    have h2 := h t (by omega)
    rw [opn_s]
    by_cases e : N.testBit t = true
    · rw [if_pos e]; omega
    · rw [if_neg e]; omega
theorem min_a {x x0 s y : Nat} (h : x = x0 + min s y) (h2 : s < y) : x + 1 = x0 + min (s + 1) y := by omega
theorem min_b {x x0 s y : Nat} (h : x = x0 + min s y) (h2 : ¬ s < y) : x = x0 + min (s + 1) y := by omega
theorem min_c {x x0 s y : Nat} (h : x = x0 + min s y) (h2 : s < 4) (h3 : x0 ≤ 56) : x ≤ 60 := by omega
theorem sep4 {u t s s' : Nat} (hu : u < t) (hs : s < 4) : 4 * u + s ≠ 4 * t + s' := by omega
theorem ge_ne {a t s : Nat} (h : 4 * (t + 1) ≤ a) (hs : s < 4) : a ≠ 4 * t + s := by omega
theorem ge_le {a t : Nat} (h : 4 * (t + 1) ≤ a) : 4 * t ≤ a := by omega
theorem lt_ne {u t : Nat} (h : u < t + 1) (e : ¬ u = t) : u < t := by omega
theorem le56 {x t n : Nat} (h : x ≤ 4 * t) (ht : t < n) (hn : n ≤ 14) : x ≤ 56 := by omega
theorem wadd {x y : Nat} (hx : x ≤ 60) (hy : y ≤ 4) : wI ((x : Int) + (y : Int)) = ((x + y : Nat) : Int) := by rw [show (x : Int) + (y : Int) = ((x + y : Nat) : Int) by omega, wI_n (by omega)]
theorem wad0 {x : Nat} (hx : x ≤ 60) : wI ((x : Int) + 0) = (x : Int) := by rw [Int.add_zero, wI_n (by omega)]
theorem wad1 {x : Nat} (hx : x ≤ 60) : wI ((x : Int) + 1) = ((x + 1 : Nat) : Int) := wI_s (by omega)
theorem ne27 {a a' k : Nat} (h2 : k ≠ 2) (h7 : k ≠ 7) {j : Nat} (hj : j = 2 ∨ j = 7) : ¬ (9 = 9 ∧ a = a' ∧ k = j) := by omega
theorem stO {A : gM} {t m : Nat} {z : Int} (hm4 : m ≤ 4) (hm : A 7 t 6 = (m : Int)) : ∃ A' : gM, f_X8_startOver t z A = some A' ∧ But [9] A' A ∧ (∀ a k, k ≠ 2 → k ≠ 7 → A' 9 a k = A 9 a k) ∧ (∀ s, s < m → A' 9 (4 * t + s) 2 = (if z = 0 then -1 else 0) ∧ A' 9 (4 * t + s) 7 = 0) ∧ ∀ a, (∀ s, s < m → a ≠ 4 * t + s) → A' 9 a = A 9 a := by
  have hm64 : m < 64 := by omega
  unfold f_X8_startOver
  refine lp0 (F := fun n M i => f_X8_startOver_L2 (fun (M_2_35 : gM) => some M_2_35) t z n i M) m (fun i M => But [9] M A ∧ (∀ a k, k ≠ 2 → k ≠ 7 → M 9 a k = A 9 a k) ∧ (∀ s, s < i → M 9 (4 * t + s) 2 = (if z = 0 then -1 else 0) ∧ M 9 (4 * t + s) 7 = 0) ∧ ∀ a, (∀ s, s < i → a ≠ 4 * t + s) → M 9 a = A 9 a) (fun r => ∃ A' : gM, r = some A' ∧ But [9] A' A ∧ (∀ a k, k ≠ 2 → k ≠ 7 → A' 9 a k = A 9 a k) ∧ (∀ s, s < m → A' 9 (4 * t + s) 2 = (if z = 0 then -1 else 0) ∧ A' 9 (4 * t + s) 7 = 0) ∧ ∀ a, (∀ s, s < m → a ≠ 4 * t + s) → A' 9 a = A 9 a) hm64 A ⟨But_r, fun _ _ _ _ => rfl, fun s q => absurd q (Nat.not_lt_zero _), fun _ _ => rfl⟩ (fun n i M hi hp => Or.inl ?_) (fun n M hp => ⟨M, ?_, hp⟩)
  · obtain ⟨p1, p2, p3, p4⟩ := hp
    have hi4 : i < 4 := Nat.lt_of_lt_of_le hi hm4
    have w1 : wI ((i : Int) + 1) = ((i + 1 : Nat) : Int) := wI_s (by omega)
    have him : (i : Int) < (m : Int) := by omega
    have fin : ∀ M' : gM, But [9] M' M → (∀ a k, k ≠ 2 → k ≠ 7 → M' 9 a k = M 9 a k) → (M' 9 (4 * t + i) 2 = (if z = 0 then -1 else 0) ∧ M' 9 (4 * t + i) 7 = 0) → (∀ a, a ≠ 4 * t + i → M' 9 a = M 9 a) → But [9] M' A ∧ (∀ a k, k ≠ 2 → k ≠ 7 → M' 9 a k = A 9 a k) ∧ (∀ s, s < i + 1 → M' 9 (4 * t + s) 2 = (if z = 0 then -1 else 0) ∧ M' 9 (4 * t + s) 7 = 0) ∧ ∀ a, (∀ s, s < i + 1 → a ≠ 4 * t + s) → M' 9 a = A 9 a := by
      intro M' f1 f2 f3 f4
      refine ⟨But_t p1 f1, fun a k h1 h2 => (f2 a k h1 h2).trans (p2 a k h1 h2), fun s hs => ?_, fun a ha => ?_⟩
      · by_cases e : s = i
        · rw [e]; exact f3
        · rw [f4 _ (fun q => e (Nat.add_left_cancel q))]
          exact p3 s (lt_ne hs e)
      · rw [f4 a (ha i (Nat.lt_succ_self i))]
        exact p4 a (fun s hs => ha s (Nat.lt_succ_of_lt hs))
    by_cases e : z = 0
    · refine ⟨gU (gU (gU M 9 (4 * t + i) 2 0) 9 (4 * t + i) 7 0) 9 (4 * t + i) 2 (-1), ?_, fin _ (But_u (But_u (But_u But_r rfl) rfl) rfl) (fun a k h1 h2 => ?_) ⟨?_, ?_⟩ (fun a ha => ?_)⟩
      · show f_X8_startOver_L2 _ t z (n + 1) (i : Int) M = _
        rw [f_X8_startOver_L2, But_q p1 rfl, hm, if_pos him]
        dsimp only [oj]
        rw [if_pos e, aAt hi4, w1]
        rfl
      · rw [gU_ne (ne27 h1 h2 (Or.inl rfl)), gU_ne (ne27 h1 h2 (Or.inr rfl)), gU_ne (ne27 h1 h2 (Or.inl rfl))]
      · rw [gU_s, if_pos e]
      · rw [gU_k (by decide), gU_s]
      · rw [gU_i ha, gU_i ha, gU_i ha]
    · refine ⟨gU (gU M 9 (4 * t + i) 2 0) 9 (4 * t + i) 7 0, ?_, fin _ (But_u (But_u But_r rfl) rfl) (fun a k h1 h2 => ?_) ⟨?_, ?_⟩ (fun a ha => ?_)⟩
      · show f_X8_startOver_L2 _ t z (n + 1) (i : Int) M = _
        rw [f_X8_startOver_L2, But_q p1 rfl, hm, if_pos him]
        dsimp only [oj]
        rw [if_neg e, aAt hi4, w1]
        rfl
      · rw [gU_ne (ne27 h1 h2 (Or.inr rfl)), gU_ne (ne27 h1 h2 (Or.inl rfl))]
      · rw [gU_k (by decide), gU_s, if_neg e]
      · rw [gU_s]
      · rw [gU_i ha, gU_i ha]
  · show f_X8_startOver_L2 _ t z (n + 1) (m : Int) M = _
    rw [f_X8_startOver_L2, But_q hp.1 rfl, hm, if_neg (Int.lt_irrefl _)]
theorem begL {A B : gM} {n N : Nat} {k : Int → gM → Option (Int × gM)} (hT : RT A B n) (hN : N < 16384) (h6 : A 4 0 6 = (N : Int)) : ∃ A' : gM, f_X2_begin_L26 k 64 0 0 A = k ((opn B N n : Nat) : Int) A' ∧ But [9] A' A ∧ (∀ a k, k ≠ 2 → k ≠ 7 → A' 9 a k = A 9 a k) ∧ (∀ t s : Nat, t < n → (s : Int) < B 38 0 t → A' 9 (4 * t + s) 2 = (if N.testBit t = true then 0 else -1) ∧ A' 9 (4 * t + s) 7 = 0) ∧ ∀ a, (∀ t s : Nat, t < n → (s : Int) < B 38 0 t → a ≠ 4 * t + s) → A' 9 a = A 9 a := by
  have h14 := hT.1
  have hn64 : n < 64 := by omega
  refine lp0 (F := fun m (x : Nat × gM) i => f_X2_begin_L26 k m (x.1 : Int) i x.2) n (fun t x => x.1 = opn B N t ∧ But [9] x.2 A ∧ (∀ a k, k ≠ 2 → k ≠ 7 → x.2 9 a k = A 9 a k) ∧ (∀ u s : Nat, u < t → (s : Int) < B 38 0 u → x.2 9 (4 * u + s) 2 = (if N.testBit u = true then 0 else -1) ∧ x.2 9 (4 * u + s) 7 = 0) ∧ ∀ a, (∀ u s : Nat, u < t → (s : Int) < B 38 0 u → a ≠ 4 * u + s) → x.2 9 a = A 9 a) (fun r => ∃ A' : gM, r = k ((opn B N n : Nat) : Int) A' ∧ But [9] A' A ∧ (∀ a k, k ≠ 2 → k ≠ 7 → A' 9 a k = A 9 a k) ∧ (∀ t s : Nat, t < n → (s : Int) < B 38 0 t → A' 9 (4 * t + s) 2 = (if N.testBit t = true then 0 else -1) ∧ A' 9 (4 * t + s) 7 = 0) ∧ ∀ a, (∀ t s : Nat, t < n → (s : Int) < B 38 0 t → a ≠ 4 * t + s) → A' 9 a = A 9 a) hn64 (0, A) ⟨rfl, But_r, fun _ _ _ _ => rfl, fun t s q => absurd q (Nat.not_lt_zero _), fun _ _ => rfl⟩ (fun m t x ht hp => Or.inl ?_) (fun m x hp => ?_)
  · obtain ⟨p1, p2, p3, p4, p5⟩ := hp
    have ht31 : t < 31 := by omega
    have htn : (t : Int) < (n : Int) := Int.ofNat_lt.mpr ht
    have hs4 : ∀ u s : Nat, u < t → (s : Int) < B 38 0 u → s < 4 := fun u s hu hs => by
      have := sh4 hT u (Nat.lt_trans hu ht)
      omega
    have ops := opn_lt (B := B) (N := N) t (fun u hu => sh4 hT u (Nat.lt_trans hu ht))
    have w1 : wI ((t : Int) + 1) = ((t + 1 : Nat) : Int) := wI_s (Nat.lt_of_le_of_lt ht31 (by decide))
    obtain ⟨y, y1, y2, y3, y4⟩ := shT hT ht
    have xb : x.1 ≤ 56 := le56 (by rw [p1]; exact ops) ht h14
    have xb' : x.1 ≤ 60 := Nat.le_trans xb (by decide)
    have w2 := wadd xb' y2
    have w3 := wad0 xb'
    have e7 : x.2 7 t 6 = (y : Int) := by rw [But_q p2 rfl]; exact y3
    have e2 : x.2 2 0 5 = (n : Int) := by rw [But_q p2 rfl]; exact hT.2.1
    have e46 : x.2 4 0 6 = (N : Int) := by rw [But_q p2 rfl]; exact h6
    have sep : ∀ u s s' : Nat, u < t → (s : Int) < B 38 0 u → s' < y → 4 * u + s ≠ 4 * t + s' := fun u s s' hu hs _ => sep4 hu (hs4 u s hu hs)
    have fin : ∀ (z : Int) (M' : gM), But [9] M' x.2 → (∀ a k, k ≠ 2 → k ≠ 7 → M' 9 a k = x.2 9 a k) → (∀ s, s < y → M' 9 (4 * t + s) 2 = (if z = 0 then -1 else 0) ∧ M' 9 (4 * t + s) 7 = 0) → (∀ a, (∀ s, s < y → a ≠ 4 * t + s) → M' 9 a = x.2 9 a) → ((if z = 0 then (-1 : Int) else 0) = (if N.testBit t = true then 0 else -1)) → But [9] M' A ∧ (∀ a k, k ≠ 2 → k ≠ 7 → M' 9 a k = A 9 a k) ∧ (∀ u s : Nat, u < t + 1 → (s : Int) < B 38 0 u → M' 9 (4 * u + s) 2 = (if N.testBit u = true then 0 else -1) ∧ M' 9 (4 * u + s) 7 = 0) ∧ ∀ a, (∀ u s : Nat, u < t + 1 → (s : Int) < B 38 0 u → a ≠ 4 * u + s) → M' 9 a = A 9 a := by
      intro z M' f1 f2 f3 f4 f5
      refine ⟨But_t p2 f1, fun a k h1 h2 => (f2 a k h1 h2).trans (p3 a k h1 h2), fun u s hu hs => ?_, fun a ha => ?_⟩
      · by_cases e : u = t
        · rw [e] at hs ⊢
          rw [← f5]
          exact f3 s (by rw [y4] at hs; exact Int.ofNat_lt.mp hs)
        · have hut : u < t := lt_ne hu e
          rw [f4 _ (fun s' hs' => sep u s s' hut hs hs')]
          exact p4 u s hut hs
      · rw [f4 a (fun s hs => ha t s (Nat.lt_succ_self t) (by rw [y4]; exact Int.ofNat_lt.mpr hs))]
        exact p5 a (fun u s hu hs => ha u s (Nat.lt_succ_of_lt hu) hs)
    show ∃ x' : Nat × gM, f_X2_begin_L26 k (m + 1) (x.1 : Int) (t : Int) x.2 = f_X2_begin_L26 k m (x'.1 : Int) ((t + 1 : Nat) : Int) x'.2 ∧ _
    rw [f_X2_begin_L26, e2, if_pos htn, tAt (by rw [e2]) h14 ht]
    dsimp only [oj]
    by_cases e : N.testBit t = true
    · obtain ⟨M', q1, q2, q3, q4, q5⟩ := stO (z := 1) y2 e7
      refine ⟨(x.1 + y, M'), ?_, ?_, fin 1 M' q2 q3 q4 q5 (by rw [if_neg ne10, if_pos e])⟩
      · rw [if_pos (show f_X11_bitOf (x.2 4 0 6) (t : Int) x.2 = 1 by rw [e46]; exact (bit_1 (lt14_31 hN) ht31).mpr e), q1, ob_s, if_neg ne10, But_q q2 rfl, e7, w2, w1]
      · show x.1 + y = _
        rw [opn_s, if_pos e, ← p1, y4, Int.toNat_natCast]
    · obtain ⟨M', q1, q2, q3, q4, q5⟩ := stO (z := 0) y2 e7
      refine ⟨(x.1, M'), ?_, ?_, fin 0 M' q2 q3 q4 q5 (by rw [if_pos rfl, if_neg e])⟩
      · rw [if_neg (show ¬ f_X11_bitOf (x.2 4 0 6) (t : Int) x.2 = 1 by rw [e46]; exact fun q => e ((bit_1 (lt14_31 hN) ht31).mp q)), q1, ob_s, if_pos rfl, w3, w1]
      · show x.1 = _
        rw [opn_s, if_neg e, ← p1]
        rfl
  · obtain ⟨p1, p2, p3, p4, p5⟩ := hp
    refine ⟨x.2, ?_, p2, p3, p4, p5⟩
    show f_X2_begin_L26 k (m + 1) (x.1 : Int) (n : Int) x.2 = _
    rw [f_X2_begin_L26, But_q p2 rfl, hT.2.1, if_neg (Int.lt_irrefl _), p1]
theorem bldS {A B M0 : gM} {n N t : Nat} {x0 : Nat} {k : Int → gM → Option (Int × gM)} (hT : RT A B n) (ht : t < n) (hN : N < 16384) (h37 : M0 29 0 37 = (N : Int)) (h38 : M0 38 = B 38) (hx : x0 ≤ 56) : ∃ M' : gM, f_X12_build_L69 k (t : Int) 64 (x0 : Int) 0 M0 = k ((x0 + (if N.testBit t = true then (B 38 0 t).toNat else 0) : Nat) : Int) M' ∧ But [60, 63, 64] M' M0 ∧ ∀ q, q ∈ [60, 63, 64] → (∀ s, s < 4 → M' q 0 (4 * t + s) = 0) ∧ ∀ a, (∀ s, s < 4 → a ≠ 4 * t + s) → M' q 0 a = M0 q 0 a := by
  have h14 : t < 14 := Nat.lt_of_lt_of_le ht hT.1
  obtain ⟨y, y1, y2, y3, y4⟩ := shT hT ht
  refine lp0 (F := fun m (x : Nat × gM) i => f_X12_build_L69 k (t : Int) m (x.1 : Int) i x.2) 4 (fun s x => x.1 = x0 + (if N.testBit t = true then min s y else 0) ∧ But [60, 63, 64] x.2 M0 ∧ ∀ q, q ∈ [60, 63, 64] → (∀ s', s' < s → x.2 q 0 (4 * t + s') = 0) ∧ ∀ a, (∀ s', s' < s → a ≠ 4 * t + s') → x.2 q 0 a = M0 q 0 a) (fun r => ∃ M' : gM, r = k ((x0 + (if N.testBit t = true then (B 38 0 t).toNat else 0) : Nat) : Int) M' ∧ But [60, 63, 64] M' M0 ∧ ∀ q, q ∈ [60, 63, 64] → (∀ s, s < 4 → M' q 0 (4 * t + s) = 0) ∧ ∀ a, (∀ s, s < 4 → a ≠ 4 * t + s) → M' q 0 a = M0 q 0 a) (by decide) (x0, M0) ⟨?_, But_r, fun q _ => ⟨fun s q => absurd q (Nat.not_lt_zero _), fun _ _ => rfl⟩⟩ (fun m s x hs hp => Or.inl ?_) (fun m x hp => ?_)
  · show x0 = x0 + (if N.testBit t = true then min 0 y else 0)
    rw [Nat.zero_min]
    by_cases e : N.testBit t = true
    · rw [if_pos e, Nat.add_zero]
    · rw [if_neg e, Nat.add_zero]
  · obtain ⟨p1, p2, p3⟩ := hp
    have ht31 : t < 31 := by omega
    have g56 : (0 : Int) ≤ ((4 * t + s : Nat) : Int) ∧ ((4 * t + s : Nat) : Int) < 56 := by omega
    have g14 : (0 : Int) ≤ (t : Int) ∧ (t : Int) < 14 := by omega
    have hs4 : (s : Int) < 4 := by omega
    have xb0 : x0 ≤ 60 := by omega
    have xb : x.1 ≤ 60 := by
      by_cases e : N.testBit t = true
      · rw [if_pos e] at p1; exact min_c p1 hs hx
      · rw [if_neg e, Nat.add_zero] at p1; rw [p1]; exact xb0
    have w : wI (wI (4 * (t : Int)) + (s : Int)) = ((4 * t + s : Nat) : Int) := w4 (Nat.lt_trans h14 (by decide)) (Nat.lt_trans hs (by decide))
    have w1 : wI ((s : Int) + 1) = ((s + 1 : Nat) : Int) := wad1 (Nat.le_trans (Nat.le_of_lt hs) (by decide))
    have w2 := wad1 xb
    have w3 := wad0 xb
    have fM : But [60, 63, 64] (gU (gU (gU x.2 60 0 (4 * t + s) 0) 63 0 (4 * t + s) 0) 64 0 (4 * t + s) 0) M0 := But_u (But_u (But_u p2 rfl) rfl) rfl
    have en : f_X12_isNeeded (t : Int) (gU (gU (gU x.2 60 0 (4 * t + s) 0) 63 0 (4 * t + s) 0) 64 0 (4 * t + s) 0) = if N.testBit t = true then 1 else 0 := by
      unfold f_X12_isNeeded
      rw [But_q fM rfl, h37]
      by_cases e : N.testBit t = true
      · rw [if_pos e, if_pos ((bit_1 (lt14_31 hN) ht31).mpr e)]
      · rw [if_neg e, if_neg (fun q => e ((bit_1 (lt14_31 hN) ht31).mp q))]
    have e38 : gU (gU (gU x.2 60 0 (4 * t + s) 0) 63 0 (4 * t + s) 0) 64 0 (4 * t + s) 0 38 0 t = (y : Int) := by rw [But_q fM rfl, h38]; exact y4
    have hq : ∀ q, q ∈ [60, 63, 64] → ∀ a, gU (gU (gU x.2 60 0 (4 * t + s) 0) 63 0 (4 * t + s) 0) 64 0 (4 * t + s) 0 q 0 a = if a = 4 * t + s then 0 else x.2 q 0 a := fun q hq a => by
      simp only [List.mem_cons, List.not_mem_nil, or_false] at hq
      rcases hq with rfl | rfl | rfl
      · rw [gU_r (by decide), gU_r (by decide), gU_same]; rfl
      · rw [gU_r (by decide), gU_same, gU_r (by decide)]; rfl
      · rw [gU_same, gU_r (by decide), gU_r (by decide)]; rfl
    have tail : ∀ q, q ∈ [60, 63, 64] → (∀ s', s' < s + 1 → gU (gU (gU x.2 60 0 (4 * t + s) 0) 63 0 (4 * t + s) 0) 64 0 (4 * t + s) 0 q 0 (4 * t + s') = 0) ∧ ∀ a, (∀ s', s' < s + 1 → a ≠ 4 * t + s') → gU (gU (gU x.2 60 0 (4 * t + s) 0) 63 0 (4 * t + s) 0) 64 0 (4 * t + s) 0 q 0 a = M0 q 0 a := fun q hqq => by
      refine ⟨fun s' hs' => ?_, fun a ha => ?_⟩
      · rw [hq q hqq]
        by_cases e : 4 * t + s' = 4 * t + s
        · rw [if_pos e]
        · rw [if_neg e]; exact (p3 q hqq).1 s' (lt_ne hs' (fun z => e (by rw [z])))
      · rw [hq q hqq, if_neg (ha s (Nat.lt_succ_self s))]
        exact (p3 q hqq).2 a (fun s' hs' => ha s' (Nat.lt_succ_of_lt hs'))
    show ∃ x' : Nat × gM, f_X12_build_L69 k (t : Int) (m + 1) (x.1 : Int) (s : Int) x.2 = f_X12_build_L69 k (t : Int) m (x'.1 : Int) ((s + 1 : Nat) : Int) x'.2 ∧ _
    rw [f_X12_build_L69, if_pos hs4, w, og_t g56, og_t g56, og_t g56, Int.toNat_natCast]
    dsimp only [oj]
    rw [en, Int.toNat_natCast, e38, w1, w2, w3, og_t g14]
    by_cases e : N.testBit t = true
    · rw [if_pos e] at p1
      rw [if_pos e, if_neg ne10]
      by_cases e2 : (s : Int) < (y : Int)
      · refine ⟨(x.1 + 1, gU (gU (gU x.2 60 0 (4 * t + s) 0) 63 0 (4 * t + s) 0) 64 0 (4 * t + s) 0), ?_, ?_, fM, tail⟩
        · rw [if_pos e2]
        · show x.1 + 1 = x0 + (if N.testBit t = true then min (s + 1) y else 0)
          rw [if_pos e]
          exact min_a p1 (Int.ofNat_lt.mp e2)
      · refine ⟨(x.1, gU (gU (gU x.2 60 0 (4 * t + s) 0) 63 0 (4 * t + s) 0) 64 0 (4 * t + s) 0), ?_, ?_, fM, tail⟩
        · rw [if_neg e2]
        · show x.1 = x0 + (if N.testBit t = true then min (s + 1) y else 0)
          rw [if_pos e]
          exact min_b p1 (fun z => e2 (Int.ofNat_lt.mpr z))
    · rw [if_neg e] at p1
      rw [if_neg e, if_pos rfl]
      exact ⟨(x.1, gU (gU (gU x.2 60 0 (4 * t + s) 0) 63 0 (4 * t + s) 0) 64 0 (4 * t + s) 0), rfl, p1.trans (by rw [if_neg e]), fM, tail⟩
  · obtain ⟨p1, p2, p3⟩ := hp
    refine ⟨x.2, ?_, p2, p3⟩
    show f_X12_build_L69 k (t : Int) (m + 1) (x.1 : Int) ((4 : Nat) : Int) x.2 = _
    rw [f_X12_build_L69, if_neg (by decide), p1, y4, Int.toNat_natCast, Nat.min_eq_right y2]
theorem bldL {A B M0 : gM} {n N : Nat} {k : Int → gM → Option (Int × gM)} (hT : RT A B n) (hN : N < 16384) (h37 : M0 29 0 37 = (N : Int)) (h7 : M0 29 0 7 = (n : Int)) (h38 : M0 38 = B 38) : ∃ M' : gM, f_X12_build_L58 k 64 0 0 M0 = k ((opn B N n : Nat) : Int) M' ∧ But [60, 63, 64] M' M0 ∧ ∀ q, q ∈ [60, 63, 64] → (∀ t s, t < n → s < 4 → M' q 0 (4 * t + s) = 0) ∧ ∀ a, 4 * n ≤ a → M' q 0 a = M0 q 0 a := by
  have h14 := hT.1
  have hn64 : n < 64 := by omega
  refine lp0 (F := fun m (x : Nat × gM) i => f_X12_build_L58 k m (x.1 : Int) i x.2) n (fun t x => x.1 = opn B N t ∧ But [60, 63, 64] x.2 M0 ∧ ∀ q, q ∈ [60, 63, 64] → (∀ u s, u < t → s < 4 → x.2 q 0 (4 * u + s) = 0) ∧ ∀ a, 4 * t ≤ a → x.2 q 0 a = M0 q 0 a) (fun r => ∃ M' : gM, r = k ((opn B N n : Nat) : Int) M' ∧ But [60, 63, 64] M' M0 ∧ ∀ q, q ∈ [60, 63, 64] → (∀ t s, t < n → s < 4 → M' q 0 (4 * t + s) = 0) ∧ ∀ a, 4 * n ≤ a → M' q 0 a = M0 q 0 a) hn64 (0, M0) ⟨rfl, But_r, fun q _ => ⟨fun t s q => absurd q (Nat.not_lt_zero _), fun _ _ => rfl⟩⟩ (fun m t x ht hp => Or.inl ?_) (fun m x hp => ?_)
  · obtain ⟨p1, p2, p3⟩ := hp
    have htn : (t : Int) < (n : Int) := Int.ofNat_lt.mpr ht
    have xb : x.1 ≤ 56 := le56 (by rw [p1]; exact opn_lt (B := B) (N := N) t (fun u hu => sh4 hT u (Nat.lt_trans hu ht))) ht h14
    have w1 : wI ((t : Int) + 1) = ((t + 1 : Nat) : Int) := wad1 (Nat.le_trans (Nat.le_of_lt (Nat.lt_of_lt_of_le ht h14)) (by decide))
    obtain ⟨M', q1, q2, q3⟩ := bldS (M0 := x.2) (k := fun (y2_69_140 : Int) (M_69_140 : gM) => f_X12_build_L58 k m y2_69_140 ((t + 1 : Nat) : Int) M_69_140) hT ht hN (by rw [But_q p2 rfl]; exact h37) (by rw [But_q p2 rfl]; exact h38) xb
    refine ⟨(x.1 + (if N.testBit t = true then (B 38 0 t).toNat else 0), M'), ?_, ?_, But_t p2 q2, fun q hq => ⟨fun u s hu hs => ?_, fun a ha => ?_⟩⟩
    · show f_X12_build_L58 k (m + 1) (x.1 : Int) (t : Int) x.2 = _
      rw [f_X12_build_L58, But_q p2 rfl, h7, if_pos htn, w1]
      exact q1
    · show x.1 + _ = _
      rw [opn_s, p1]
    · show M' q 0 (4 * u + s) = 0
      by_cases e : u = t
      · rw [e]; exact (q3 q hq).1 s hs
      · rw [(q3 q hq).2 _ (fun s' hs' z => e (four hs hs' z).1)]
        exact (p3 q hq).1 u s (lt_ne hu e) hs
    · show M' q 0 a = M0 q 0 a
      rw [(q3 q hq).2 a (fun s hs => ge_ne ha hs)]
      exact (p3 q hq).2 a (ge_le ha)
  · obtain ⟨p1, p2, p3⟩ := hp
    refine ⟨x.2, ?_, p2, p3⟩
    show f_X12_build_L58 k (m + 1) (x.1 : Int) (n : Int) x.2 = _
    rw [f_X12_build_L58, But_q p2 rfl, h7, if_neg (Int.lt_irrefl _), p1]
