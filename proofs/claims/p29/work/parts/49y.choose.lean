/-! ### who begins what -/
def rdyA (B : gM) (n t s : Nat) : Prop := s < 4 ∧ aOK B n t s ∧ ndd B t ∧ B 60 0 (4 * t + s) = 1 ∧ ∀ s', s' < s → B 60 0 (4 * t + s') ≠ 1
def hasR (B : gM) (n t : Nat) : Prop := ∃ s, rdyA B n t s
def bestR (B : gM) (n m : Nat) (W : Nat → Int) (x : Option Nat) (l : Int) : Prop := (x = none ∧ ∀ t, t < m → ¬ hasR B n t) ∨ ∃ t s, t < m ∧ x = some (4 * t + s) ∧ rdyA B n t s ∧ l = W t ∧ (∀ t', t' < m → hasR B n t' → W t' ≤ W t) ∧ ∀ t', t' < t → hasR B n t' → W t' < W t
theorem rdyA_eq {B : gM} {n t s s' : Nat} (h : rdyA B n t s) (h' : rdyA B n t s') : s = s' := by
  rcases Nat.lt_trichotomy s s' with q | q | q
  · exact absurd h.2.2.2.1 (h'.2.2.2.2 s q)
  · exact q
  · exact absurd h'.2.2.2.1 (h.2.2.2.2 s' q)
theorem bestR_eq {B : gM} {n m : Nat} {W : Nat → Int} {x x' : Option Nat} {l l' : Int} (h : bestR B n m W x l) (h' : bestR B n m W x' l') : x = x' := by
  rcases h with ⟨h1, h2⟩ | ⟨t, s, h1, h2, h3, h4, h5, h6⟩
  · rcases h' with ⟨g1', g2⟩ | ⟨t', s', g1', g2, g3, g4, g5, g6⟩
    · rw [h1, g1']
    · exact absurd ⟨s', g3⟩ (h2 t' g1')
  · rcases h' with ⟨g1', g2⟩ | ⟨t', s', g1', g2, g3, g4, g5, g6⟩
    · exact absurd ⟨s, h3⟩ (g2 t h1)
    · have e : t = t' := by
        rcases Nat.lt_trichotomy t t' with q | q | q
        · exact absurd (g6 t q ⟨s, h3⟩) (Int.not_lt.mpr (h5 t' g1' ⟨s', g3⟩))
        · exact q
        · exact absurd (h6 t' q ⟨s', g3⟩) (Int.not_lt.mpr (g5 t h1 ⟨s, h3⟩))
      subst e
      rw [h2, g2, rdyA_eq h3 g3]
theorem bestR_no {B : gM} {n m : Nat} {W : Nat → Int} {x : Option Nat} {l : Int} (h : bestR B n m W x l) (hn : ¬ hasR B n m) : bestR B n (m + 1) W x l := by
  rcases h with ⟨h1, h2⟩ | ⟨t, s, h1, h2, h3, h4, h5, h6⟩
  · exact Or.inl ⟨h1, fun t ht => by
      by_cases e : t = m
      · rw [e]; exact hn
      · exact h2 t (lt_ne ht e)⟩
  · refine Or.inr ⟨t, s, Nat.lt_succ_of_lt h1, h2, h3, h4, fun t' ht' hh => ?_, h6⟩
    by_cases e : t' = m
    · rw [e] at hh; exact absurd hh hn
    · exact h5 t' (lt_ne ht' e) hh
theorem bestR_yes {B : gM} {n m s : Nat} {W : Nat → Int} {x : Option Nat} {l : Int} (h : bestR B n m W x l) (hr : rdyA B n m s) (hl : x ≠ none → l < W m) : bestR B n (m + 1) W (some (4 * m + s)) (W m) := by
  refine Or.inr ⟨m, s, Nat.lt_succ_self m, rfl, hr, rfl, ?_, ?_⟩
  · intro t' ht' hh
    by_cases e : t' = m
    · rw [e]; exact Int.le_refl _
    · rcases h with ⟨h1, h2⟩ | ⟨t, s', h1, h2, h3, h4, h5, h6⟩
      · exact absurd hh (h2 t' (lt_ne ht' e))
      · have := hl (by rw [h2]; exact Option.some_ne_none _)
        have := h5 t' (lt_ne ht' e) hh
        omega
  · intro t' ht' hh
    rcases h with ⟨h1, h2⟩ | ⟨t, s', h1, h2, h3, h4, h5, h6⟩
    · exact absurd hh (h2 t' ht')
    · have := hl (by rw [h2]; exact Option.some_ne_none _)
      have := h5 t' ht' hh
      omega
theorem bestR_stay {B : gM} {n m : Nat} {W : Nat → Int} {x : Option Nat} {l : Int} (h : bestR B n m W x l) (hx : x ≠ none) (hl : W m ≤ l) : bestR B n (m + 1) W x l := by
  rcases h with ⟨h1, h2⟩ | ⟨t, s, h1, h2, h3, h4, h5, h6⟩
  · exact absurd h1 hx
  · refine Or.inr ⟨t, s, Nat.lt_succ_of_lt h1, h2, h3, h4, fun t' ht' hh => ?_, h6⟩
    by_cases e : t' = m
    · rw [e, ← h4]; exact hl
    · exact h5 t' (lt_ne ht' e) hh
theorem frC {A B : gM} {n c t : Nat} (hT : RT A B n) (hRB : RB A B n c) (ht : t < n) : (f_X8_firstReady t A = some none ∧ ¬ hasR B n t) ∨ ∃ s, f_X8_firstReady t A = some (some (4 * t + s)) ∧ rdyA B n t s := by
  obtain ⟨m, m1, m2, m3, m4⟩ := shT hT ht
  have h14 : t < 14 := Nat.lt_of_lt_of_le ht hT.1
  have hm : m < 64 := by omega
  unfold f_X8_firstReady
  refine lp0 (F := fun n (_ : Unit) i => f_X8_firstReady_L2 (some none) t A n i) m (fun i _ => ∀ s, s < i → A 9 (4 * t + s) 2 ≠ 1) (fun r => (r = some none ∧ ¬ hasR B n t) ∨ ∃ s, r = some (some (4 * t + s)) ∧ rdyA B n t s) hm () (fun s q => absurd q (Nat.not_lt_zero _)) (fun k i _ hi hp => ?_) (fun k _ hp => Or.inl ⟨?_, ?_⟩)
  · have hi4 : i < 4 := Nat.lt_of_lt_of_le hi m2
    have w1 : wI ((i : Int) + 1) = ((i + 1 : Nat) : Int) := wI_s (by omega)
    have him : (i : Int) < (m : Int) := Int.ofNat_lt.mpr hi
    have hao : aOK B n t i := ⟨ht, by rw [m4]; exact him⟩
    obtain ⟨-, -, g1, g2⟩ := hRB.2.2.2.2.2.2.2.1 t i h14 hi4
    by_cases e : A 9 (4 * t + i) 2 = 1
    · refine Or.inr (Or.inr ⟨i, ?_, ?_⟩)
      · show f_X8_firstReady_L2 (some none) t A (k + 1) (i : Int) = _
        rw [f_X8_firstReady_L2, m3, if_pos him, aAt hi4, if_pos e]
      · have hd : ndd B t := by
          by_cases q : ndd B t
          · exact q
          · have := g2 (fun z => q z.2)
            rw [e] at this
            exact absurd this (by decide)
        refine ⟨hi4, hao, hd, (g1 ⟨hao, hd⟩).1.symm.trans e, fun s' hs' => ?_⟩
        have hao' : aOK B n t s' := ⟨ht, by rw [m4]; exact Int.ofNat_lt.mpr (Nat.lt_trans hs' hi)⟩
        obtain ⟨-, -, g1', -⟩ := hRB.2.2.2.2.2.2.2.1 t s' h14 (Nat.lt_trans hs' hi4)
        rw [← (g1' ⟨hao', hd⟩).1]
        exact hp s' hs'
    · refine Or.inl ⟨(), ?_, fun s hs => ?_⟩
      · show f_X8_firstReady_L2 (some none) t A (k + 1) (i : Int) = _
        rw [f_X8_firstReady_L2, m3, if_pos him, aAt hi4, if_neg e, w1]
      · by_cases q : s = i
        · rw [q]; exact e
        · exact hp s (lt_ne hs q)
  · show f_X8_firstReady_L2 (some none) t A (k + 1) (m : Int) = _
    rw [f_X8_firstReady_L2, m3, if_neg (Int.lt_irrefl _)]
  · rintro ⟨s, q1, q2, q3, q4, -⟩
    have hsm : s < m := by
      have := q2.2
      rw [m4] at this
      exact Int.ofNat_lt.mp this
    obtain ⟨-, -, g1, -⟩ := hRB.2.2.2.2.2.2.2.1 t s h14 q1
    exact hp s hsm ((g1 ⟨q2, q3⟩).1.trans q4)
/-- M is A but for the ways -/
theorem lrC {A B M : gM} {n c : Nat} {W : Nat → Int} (hT : RT A B n) (hRB : RB A B n c) (hM : ∀ u, u < n → M 7 u 10 = W u) (hTM : RT M B n) (hRM : RB M B n c) (hW : ∀ u, u < n → ndd B u → 1 ≤ W u) : ∃ x l, f_X2_longestReady M = some x ∧ bestR B n n W x l := by
  have h14 := hT.1
  have hn64 : n < 64 := by omega
  unfold f_X2_longestReady
  refine lp0 (F := fun m (x : Option Nat × Int) i => f_X2_longestReady_L6 (fun (y1_6_63 : Option Nat) => some y1_6_63) M m x.1 x.2 i) n (fun t x => bestR B n t W x.1 x.2 ∧ (x.1 = none → x.2 = 0)) (fun r => ∃ x l, r = some x ∧ bestR B n n W x l) hn64 (none, 0) ⟨Or.inl ⟨rfl, fun t q => absurd q (Nat.not_lt_zero _)⟩, fun _ => rfl⟩ (fun m t x ht hp => Or.inl ?_) (fun m x hp => ⟨x.1, x.2, ?_, hp.1⟩)
  · obtain ⟨p1, p2⟩ := hp
    have w1 : wI ((t : Int) + 1) = ((t + 1 : Nat) : Int) := wI_s (by omega)
    have step : ∀ o, f_X8_firstReady t M = some o → f_X2_longestReady_L6 (fun (y1_6_63 : Option Nat) => some y1_6_63) M (m + 1) x.1 x.2 (t : Int) = om o (f_X2_longestReady_L6 (fun (y1_6_63 : Option Nat) => some y1_6_63) M m x.1 x.2 ((t + 1 : Nat) : Int)) (fun a36 => if x.2 < W t then f_X2_longestReady_L6 (fun (y1_6_63 : Option Nat) => some y1_6_63) M m (some a36) (W t) ((t + 1 : Nat) : Int) else f_X2_longestReady_L6 (fun (y1_6_63 : Option Nat) => some y1_6_63) M m x.1 x.2 ((t + 1 : Nat) : Int)) := fun o ho => by
      rw [f_X2_longestReady_L6, hTM.2.1, if_pos (Int.ofNat_lt.mpr ht), tAt hTM.2.1 h14 ht, ho, ob_s, hM t ht, w1]
      rfl
    show ∃ x' : Option Nat × Int, f_X2_longestReady_L6 _ M (m + 1) x.1 x.2 (t : Int) = f_X2_longestReady_L6 _ M m x'.1 x'.2 ((t + 1 : Nat) : Int) ∧ _
    rcases frC hTM hRM ht with ⟨q1, q2⟩ | ⟨s, q1, q2⟩
    · exact ⟨x, step _ q1, bestR_no p1 q2, p2⟩
    · by_cases e : x.2 < W t
      · refine ⟨(some (4 * t + s), W t), ?_, bestR_yes p1 q2 (fun _ => e), fun q => absurd q (Option.some_ne_none _)⟩
        rw [step _ q1]
        exact if_pos e
      · have hx : x.1 ≠ none := fun q => e (by rw [p2 q]; have := hW t ht q2.2.2.1; omega)
        refine ⟨x, ?_, bestR_stay p1 hx (Int.not_lt.mp e), p2⟩
        rw [step _ q1]
        exact if_neg e
  · show f_X2_longestReady_L6 _ M (m + 1) x.1 x.2 (n : Int) = _
    rw [f_X2_longestReady_L6, hTM.2.1, if_neg (Int.lt_irrefl _)]
theorem nx17 {A B M0 : gM} {n c t : Nat} {W : Nat → Int} {x1 x2 : Int} {k : Int → Int → gM → Option (Int × gM)} (hS : RS A B) (hT : RT A B n) (hRB : RB A B n c) (hM0 : But [73] M0 B) (ht : t < n) (hd : ndd B t) (hW : isW B n 0 W) : ∃ M' y1 y2, f_X12_next_L17 k (t : Int) 64 x1 x2 0 M0 = k y1 y2 M' ∧ But [73] M' B ∧ ((¬ hasR B n t ∧ y1 = x1 ∧ y2 = x2) ∨ ∃ s, rdyA B n t s ∧ (x2 < W t ∧ y1 = ((4 * t + s : Nat) : Int) ∧ y2 = W t ∨ W t ≤ x2 ∧ y1 = x1 ∧ y2 = x2)) := by
  obtain ⟨m, m1, m2, m3, m4⟩ := shT hT ht
  have h14 : t < 14 := Nat.lt_of_lt_of_le ht hT.1
  have hm : m < 64 := by omega
  have g14 : (0 : Int) ≤ (t : Int) ∧ (t : Int) < 14 := by omega
  refine lp0 (F := fun j (x : Int × Int × gM) i => f_X12_next_L17 k (t : Int) j x.1 x.2.1 i x.2.2) m (fun s x => But [73] x.2.2 B ∧ (((∀ s', s' < s → B 60 0 (4 * t + s') ≠ 1) ∧ x.1 = x1 ∧ x.2.1 = x2) ∨ (∃ s0, rdyA B n t s0 ∧ (x2 < W t ∧ x.1 = ((4 * t + s0 : Nat) : Int) ∧ x.2.1 = W t ∨ W t ≤ x2 ∧ x.1 = x1 ∧ x.2.1 = x2)))) (fun r => ∃ M' y1 y2, r = k y1 y2 M' ∧ But [73] M' B ∧ ((¬ hasR B n t ∧ y1 = x1 ∧ y2 = x2) ∨ ∃ s, rdyA B n t s ∧ (x2 < W t ∧ y1 = ((4 * t + s : Nat) : Int) ∧ y2 = W t ∨ W t ≤ x2 ∧ y1 = x1 ∧ y2 = x2))) hm (x1, x2, M0) ⟨hM0, Or.inl ⟨fun s q => absurd q (Nat.not_lt_zero _), rfl, rfl⟩⟩ (fun j s x hs hp => Or.inl ?_) (fun j x hp => ⟨x.2.2, x.1, x.2.1, ?_, hp.1, ?_⟩)
  · obtain ⟨p1, p2⟩ := hp
    have hs4 : s < 4 := Nat.lt_of_lt_of_le hs m2
    have hsm : (s : Int) < (m : Int) := Int.ofNat_lt.mpr hs
    have g56 : (0 : Int) ≤ ((4 * t + s : Nat) : Int) ∧ ((4 * t + s : Nat) : Int) < 56 := by omega
    have i1 : f_X12_isNeeded (t : Int) x.2.2 = 1 := by
      unfold f_X12_isNeeded
      rw [But_q p1 rfl]
      exact if_pos hd
    have e38 : x.2.2 38 0 t = (m : Int) := by rw [But_q p1 rfl]; exact m4
    have e60 : x.2.2 60 = B 60 := But_q p1 rfl
    obtain ⟨M1, r1, r2, r3⟩ := wayM hS hT hRB p1 ht hd
    obtain ⟨M2, r1', r2', r3'⟩ := wayM hS hT hRB r2 ht hd
    have eW : M1 73 0 t = W t := isW_eq (W := fun u => M1 73 0 u) hS hT r3 hW (n - t) t (by omega) (Nat.le_refl _) (Nat.zero_le _) hd ht
    have eW' : M2 73 0 t = W t := isW_eq (W := fun u => M2 73 0 u) hS hT r3' hW (n - t) t (by omega) (Nat.le_refl _) (Nat.zero_le _) hd ht
    have w : wI (wI (4 * (t : Int)) + (s : Int)) = ((4 * t + s : Nat) : Int) := w4 (Nat.lt_trans h14 (by decide)) (Nat.lt_trans hs4 (by decide))
    have w1 : wI ((s : Int) + 1) = ((s + 1 : Nat) : Int) := wad1 (Nat.le_trans (Nat.le_of_lt hs4) (by decide))
    have step : f_X12_next_L17 k (t : Int) (j + 1) x.1 x.2.1 (s : Int) x.2.2 = if B 60 0 (4 * t + s) = 1 then (if x.2.1 < W t then f_X12_next_L17 k (t : Int) j ((4 * t + s : Nat) : Int) (W t) ((s + 1 : Nat) : Int) M2 else f_X12_next_L17 k (t : Int) j x.1 x.2.1 ((s + 1 : Nat) : Int) M1) else f_X12_next_L17 k (t : Int) j x.1 x.2.1 ((s + 1 : Nat) : Int) x.2.2 := by
      rw [f_X12_next_L17, og_t g14, Int.toNat_natCast, e38, if_pos hsm, i1, if_neg ne10, w, og_t g56]
      dsimp only [oj]
      rw [Int.toNat_natCast, e60, r1, ob_s]
      dsimp only
      rw [r1', ob_s, w1, eW]
      dsimp only
      rw [eW']
    show ∃ x' : Int × Int × gM, f_X12_next_L17 k (t : Int) (j + 1) x.1 x.2.1 (s : Int) x.2.2 = f_X12_next_L17 k (t : Int) j x'.1 x'.2.1 ((s + 1 : Nat) : Int) x'.2.2 ∧ _
    by_cases e : B 60 0 (4 * t + s) = 1
    · rcases p2 with ⟨q1, q2, q3⟩ | ⟨s0, q1, q2⟩
      · have hr : rdyA B n t s := ⟨hs4, ⟨ht, by rw [m4]; exact hsm⟩, hd, e, q1⟩
        by_cases e2 : x.2.1 < W t
        · exact ⟨(((4 * t + s : Nat) : Int), W t, M2), by rw [step, if_pos e, if_pos e2], r2', Or.inr ⟨s, hr, Or.inl ⟨by rw [← q3]; exact e2, rfl, rfl⟩⟩⟩
        · exact ⟨(x.1, x.2.1, M1), by rw [step, if_pos e, if_neg e2], r2, Or.inr ⟨s, hr, Or.inr ⟨by rw [← q3]; exact Int.not_lt.mp e2, q2, q3⟩⟩⟩
      · have e2 : ¬ x.2.1 < W t := by
          rcases q2 with ⟨_, _, a⟩ | ⟨a, _, b⟩
          · rw [a]; exact Int.lt_irrefl _
          · rw [b]; exact Int.not_lt.mpr a
        exact ⟨(x.1, x.2.1, M1), by rw [step, if_pos e, if_neg e2], r2, Or.inr ⟨s0, q1, q2⟩⟩
    · refine ⟨x, by rw [step, if_neg e], p1, ?_⟩
      rcases p2 with ⟨q1, q2⟩ | q
      · refine Or.inl ⟨fun s' hs' => ?_, q2⟩
        by_cases z : s' = s
        · rw [z]; exact e
        · exact q1 s' (lt_ne hs' z)
      · exact Or.inr q
  · show f_X12_next_L17 k (t : Int) (j + 1) x.1 x.2.1 (m : Int) x.2.2 = _
    rw [f_X12_next_L17, og_t g14, Int.toNat_natCast, But_q hp.1 rfl, m4, if_neg (Int.lt_irrefl _)]
  · rcases hp.2 with ⟨q1, q2⟩ | q
    · refine Or.inl ⟨fun ⟨s, z1, z2, z3, z4, _⟩ => ?_, q2⟩
      have hsm : s < m := by
        have := z2.2
        rw [m4] at this
        exact Int.ofNat_lt.mp this
      exact q1 s hsm z4
    · exact Or.inr q
def encO (x : Option Nat) : Int := match x with
  | none => -1
  | some a => (a : Int)
theorem nxM {A B M0 : gM} {n c : Nat} {W : Nat → Int} (hS : RS A B) (hT : RT A B n) (hRB : RB A B n c) (hM0 : But [73] M0 B) (hW : isW B n 0 W) (hW1 : ∀ u, u < n → ndd B u → 1 ≤ W u) : ∃ M' x l, f_X12_next M0 = some (encO x, M') ∧ But [73] M' B ∧ bestR B n n W x l := by
  have h14 := hT.1
  have hn64 : n < 64 := by omega
  unfold f_X12_next
  refine lp0 (F := fun m (x : Option Nat × Int × gM) i => f_X12_next_L6 (fun (y1_6_85 : Int) (M_6_85 : gM) => some ((y1_6_85, M_6_85))) m (encO x.1) x.2.1 i x.2.2) n (fun t x => But [73] x.2.2 B ∧ bestR B n t W x.1 x.2.1 ∧ (x.1 = none → x.2.1 = -1)) (fun r => ∃ M' x l, r = some (encO x, M') ∧ But [73] M' B ∧ bestR B n n W x l) hn64 (none, -1, M0) ⟨hM0, Or.inl ⟨rfl, fun t q => absurd q (Nat.not_lt_zero _)⟩, fun _ => rfl⟩ (fun m t x ht hp => Or.inl ?_) (fun m x hp => ⟨x.2.2, x.1, x.2.1, ?_, hp.1, hp.2.1⟩)
  · obtain ⟨p1, p2, p3⟩ := hp
    have w1 : wI ((t : Int) + 1) = ((t + 1 : Nat) : Int) := wI_s (by omega)
    have h7 : x.2.2 29 0 7 = (n : Int) := by rw [But_q p1 rfl]; exact hT.2.2.1
    show ∃ x' : Option Nat × Int × gM, f_X12_next_L6 _ (m + 1) (encO x.1) x.2.1 (t : Int) x.2.2 = f_X12_next_L6 _ m (encO x'.1) x'.2.1 ((t + 1 : Nat) : Int) x'.2.2 ∧ _
    rw [f_X12_next_L6, h7, if_pos (Int.ofNat_lt.mpr ht), w1]
    by_cases hd : ndd B t
    · obtain ⟨M', y1, y2, r1, r2, r3⟩ := nx17 (x1 := encO x.1) (x2 := x.2.1) (k := fun (y1_17_79 : Int) (y2_17_79 : Int) (M_17_79 : gM) => f_X12_next_L6 (fun (y1_6_85 : Int) (M_6_85 : gM) => some ((y1_6_85, M_6_85))) m y1_17_79 y2_17_79 ((t + 1 : Nat) : Int) M_17_79) hS hT hRB p1 ht hd hW
      rw [r1]
      rcases r3 with ⟨q1, q2, q3⟩ | ⟨s, q1, ⟨q2, q3, q4⟩ | ⟨q2, q3, q4⟩⟩
      · exact ⟨(x.1, x.2.1, M'), by rw [q2, q3], r2, bestR_no p2 q1, p3⟩
      · exact ⟨(some (4 * t + s), W t, M'), by rw [q3, q4]; rfl, r2, bestR_yes p2 q1 (fun _ => q2), fun q => absurd q (Option.some_ne_none _)⟩
      · have hx : x.1 ≠ none := fun q => by
          have := hW1 t ht hd
          have := p3 q
          omega
        exact ⟨(x.1, x.2.1, M'), by rw [q3, q4], r2, bestR_stay p2 hx q2, p3⟩
    · obtain ⟨y, y1, y2, y3, y4⟩ := shT hT ht
      have g14 : (0 : Int) ≤ (t : Int) ∧ (t : Int) < 14 := ⟨Int.natCast_nonneg t, Int.ofNat_lt.mpr (Nat.lt_of_lt_of_le ht h14)⟩
      have i0 : f_X12_isNeeded (t : Int) x.2.2 = 0 := by
        unfold f_X12_isNeeded
        rw [But_q p1 rfl]
        exact if_neg hd
      refine ⟨x, ?_, p1, bestR_no p2 (fun ⟨s, q⟩ => hd q.2.2.1), p3⟩
      rw [f_X12_next_L17, og_t g14, Int.toNat_natCast, But_q p1 rfl, y4, if_pos (show (0 : Int) < (y : Int) by omega), i0, if_pos rfl]
  · show f_X12_next_L6 _ (m + 1) (encO x.1) x.2.1 (n : Int) x.2.2 = _
    rw [f_X12_next_L6, But_q hp.1 rfl, hT.2.2.1, if_neg (Int.lt_irrefl _)]
