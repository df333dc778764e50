/-! ### where nobody ended, a look at what is OPEN changes nothing -/
theorem opsU {A B : gM} {n t : Nat} {z : Int} (h1 : RS A B) (h2 : RT A B n) (ht : t < n) (hu : unf B n t) : f_X12_opensOne (t : Int) z B = some B := by
  have key : ∀ k, ∃ y4, f_X12_opensOne_L8 k (t : Int) z B 64 0 0 0 = k 1 y4 := fun k => by
    obtain ⟨y3, y4, e8, -, -, q, -⟩ := ops8 (z2 := z) (k := k) h1 h2 ht
    exact ⟨y4, by rw [e8, q.mpr hu]⟩
  unfold f_X12_opensOne
  refine (key _).elim fun y4 e => e.trans ?_
  exact if_neg ne10
def PO (B : gM) (n t s : Nat) (g : Int) : Prop := (g = 0 ∨ g = 1) ∧ (g = 1 ↔ ∃ t' s', bef t s t' s' ∧ s' < 4 ∧ aOK B n t' s' ∧ ndd B t' ∧ B 60 0 (4 * t' + s') < 3)
theorem PO_s {B : gM} {n t s : Nat} {g : Int} (h : PO B n t s g) (hs : s < 4) (hao : aOK B n t s) (hnd : ndd B t) : PO B n t (s + 1) (gOr g (if B 60 0 (4 * t + s) < 3 then 1 else 0)) := by
  obtain ⟨h1, h2⟩ := h
  have hb : ∀ t' s', bef t (s + 1) t' s' ↔ bef t s t' s' ∨ (t' = t ∧ s' = s) := fun t' s' => by
    unfold bef
    omega
  obtain ⟨r1, r2⟩ := gOr01 h1 (show (if B 60 0 (4 * t + s) < 3 then (1 : Int) else 0) = 0 ∨ (if B 60 0 (4 * t + s) < 3 then (1 : Int) else 0) = 1 by
    by_cases q : B 60 0 (4 * t + s) < 3
    · rw [if_pos q]; exact Or.inr rfl
    · rw [if_neg q]; exact Or.inl rfl)
  refine ⟨r1, r2.trans ⟨?_, ?_⟩⟩
  · rintro (q | q)
    · obtain ⟨t', s', x1, x2, x3, x4, x5⟩ := h2.mp q
      exact ⟨t', s', (hb t' s').mpr (Or.inl x1), x2, x3, x4, x5⟩
    · by_cases y : B 60 0 (4 * t + s) < 3
      · exact ⟨t, s, (hb t s).mpr (Or.inr ⟨rfl, rfl⟩), hs, hao, hnd, y⟩
      · rw [if_neg y] at q
        exact absurd q ne01
  · rintro ⟨t', s', x1, x2, x3, x4, x5⟩
    rcases (hb t' s').mp x1 with q | ⟨q1, q2⟩
    · exact Or.inl (h2.mpr ⟨t', s', q, x2, x3, x4, x5⟩)
    · subst q1 q2
      exact Or.inr (if_pos x5)
theorem PO_n {B : gM} {n t s : Nat} {g : Int} (h : PO B n t s g) (hall : ndd B t → ∀ s', aOK B n t s' → s' < s) : PO B n (t + 1) 0 g := by
  obtain ⟨h1, h2⟩ := h
  have key : ∀ t' s', aOK B n t' s' → ndd B t' → (bef (t + 1) 0 t' s' ↔ bef t s t' s') := fun t' s' ho hd => by
    unfold bef
    by_cases e : t' = t
    · subst e
      have := hall hd s' ho
      omega
    · omega
  refine ⟨h1, h2.trans ⟨?_, ?_⟩⟩
  · rintro ⟨t', s', x1, x2, x3, x4, x5⟩; exact ⟨t', s', (key t' s' x3 x4).mpr x1, x2, x3, x4, x5⟩
  · rintro ⟨t', s', x1, x2, x3, x4, x5⟩; exact ⟨t', s', (key t' s' x3 x4).mp x1, x2, x3, x4, x5⟩
theorem osT {A B : gM} {n c t : Nat} {k : gM → Option gM} {g0' : Int} (h : SI A B n c) (hb1 : 1 ≤ A 4 0 7) (g3 : G3 B n) (ht : t < n) (hp : PO B n t 0 g0') : ∃ g, f_X12_opens_L17 k (t : Int) 64 0 (gU B 29 0 36 g0') = k (gU B 29 0 36 g) ∧ PO B n (t + 1) 0 g := by
  have hT := h.2.1
  have h14 : t < 14 := Nat.lt_of_lt_of_le ht hT.1
  have g14 : (0 : Int) ≤ (t : Int) ∧ (t : Int) < 14 := by omega
  obtain ⟨y, y1, y2, y3, y4⟩ := shT hT ht
  have hy : y < 64 := by omega
  have nN : ∀ g : Int, f_X12_isNeeded (t : Int) (gU B 29 0 36 g) = f_X12_isNeeded (t : Int) B := fun g => by
    unfold f_X12_isNeeded
    rw [gU_k (by decide)]
  have e38 : ∀ g : Int, gU B 29 0 36 g 38 0 t = (y : Int) := fun g => by rw [gU_r (by decide)]; exact y4
  refine lp0 (F := fun m (g : Int) i => f_X12_opens_L17 k (t : Int) m i (gU B 29 0 36 g)) y (fun s g => PO B n t s g) (fun r => ∃ g, r = k (gU B 29 0 36 g) ∧ PO B n (t + 1) 0 g) hy g0' hp (fun m s g hs hq => ?_) (fun m g hq => ⟨g, ?_, PO_n hq (fun _ s' ho => ?_)⟩)
  · have hs4 : s < 4 := Nat.lt_of_lt_of_le hs y2
    have hsy : (s : Int) < (y : Int) := Int.ofNat_lt.mpr hs
    have g56 : (0 : Int) ≤ ((4 * t + s : Nat) : Int) ∧ ((4 * t + s : Nat) : Int) < 56 := by omega
    have w : wI (wI (4 * (t : Int)) + (s : Int)) = ((4 * t + s : Nat) : Int) := w4 (Nat.lt_trans h14 (by decide)) (Nat.lt_trans hs4 (by decide))
    have w1 : wI ((s : Int) + 1) = ((s + 1 : Nat) : Int) := wad1 (Nat.le_trans (Nat.le_of_lt hs4) (by decide))
    have hao : aOK B n t s := ⟨ht, by rw [y4]; exact hsy⟩
    by_cases hnd : ndd B t
    · refine Or.inl ⟨gOr g (if B 60 0 (4 * t + s) < 3 then 1 else 0), ?_, PO_s hq hs4 hao hnd⟩
      have one : gU B 29 0 36 g 60 0 (4 * t + s) = 0 → f_X12_opensOne (t : Int) ((4 * t + s : Nat) : Int) (gU B 29 0 36 g) = some (gU B 29 0 36 g) := fun q => by
        have hg := SI_g h (v := g) (hq.1.imp id (fun z => ⟨z, hb1⟩))
        refine opsU hg.1 hg.2.1 ht (unf_t (TdN_b (But_u But_r rfl) (gU_k (by decide))) (gU_r (by decide)) ?_)
        exact g3 t s hs4 hao hnd (by rw [gU_r (by decide)] at q; exact q)
      have tail : (if gU B 29 0 36 g 60 0 (4 * t + s) < 3 then f_X12_opens_L17 k (t : Int) m ((s + 1 : Nat) : Int) (gU (gU B 29 0 36 g) 29 0 36 (gOr (gU B 29 0 36 g 29 0 36) 1)) else f_X12_opens_L17 k (t : Int) m ((s + 1 : Nat) : Int) (gU (gU B 29 0 36 g) 29 0 36 (gOr (gU B 29 0 36 g 29 0 36) 0))) = f_X12_opens_L17 k (t : Int) m ((s + 1 : Nat) : Int) (gU B 29 0 36 (gOr g (if B 60 0 (4 * t + s) < 3 then 1 else 0))) := by
        rw [gU_2, gU_2, gU_s, gU_r (by decide)]
        by_cases q : B 60 0 (4 * t + s) < 3
        · rw [if_pos q, if_pos q]
        · rw [if_neg q, if_neg q]
      show f_X12_opens_L17 k (t : Int) (m + 1) (s : Int) (gU B 29 0 36 g) = _
      rw [f_X12_opens_L17, og_t g14, Int.toNat_natCast, e38, if_pos hsy, nN, show f_X12_isNeeded (t : Int) B = 1 from if_pos hnd, if_neg ne10, w, og_t g56]
      dsimp only [oj]
      rw [Int.toNat_natCast, w1]
      by_cases q : gU B 29 0 36 g 60 0 (4 * t + s) = 0
      · rw [if_pos q, one q, ob_s, og_t g56]
        exact tail
      · rw [if_neg q, og_t g56]
        exact tail
    · refine Or.inr ⟨g, ?_, PO_n hq (fun q => absurd q hnd)⟩
      show f_X12_opens_L17 k (t : Int) (m + 1) (s : Int) (gU B 29 0 36 g) = _
      rw [f_X12_opens_L17, og_t g14, Int.toNat_natCast, e38, if_pos hsy, nN, show f_X12_isNeeded (t : Int) B = 0 from if_neg hnd, if_pos rfl]
  · show f_X12_opens_L17 k (t : Int) (m + 1) (y : Int) (gU B 29 0 36 g) = _
    rw [f_X12_opens_L17, og_t g14, Int.toNat_natCast, e38, if_neg (Int.lt_irrefl _)]
  · have := ho.2
    rw [y4] at this
    exact Int.ofNat_lt.mp this
theorem opens_same {A B : gM} {n c : Nat} (h : SI A B n c) (hb1 : 1 ≤ A 4 0 7) (g3 : G3 B n) (g0 : G0 B n) (hg : B 29 0 36 = 1) : f_X12_opens B = some B := by
  have hT := h.2.1
  have h14 := hT.1
  have hn64 : n < 64 := by omega
  have main : ∃ g, f_X12_opens B = some (gU B 29 0 36 g) ∧ PO B n n 0 g := by
    unfold f_X12_opens
    refine lp0 (F := fun m (g : Int) i => f_X12_opens_L7 (fun (M_7_92 : gM) => some M_7_92) m i (gU B 29 0 36 g)) n (fun t g => PO B n t 0 g) (fun r => ∃ g, r = some (gU B 29 0 36 g) ∧ PO B n n 0 g) hn64 0 ⟨Or.inl rfl, fun q => absurd q ne01, fun ⟨t', s', q, _⟩ => by unfold bef at q; omega⟩ (fun m t g ht hq => Or.inl ?_) (fun m g hq => ⟨g, ?_, hq⟩)
    · have w1 : wI ((t : Int) + 1) = ((t + 1 : Nat) : Int) := wI_s (by omega)
      have e7 : gU B 29 0 36 g 29 0 7 = (n : Int) := by rw [gU_k (by decide)]; exact hT.2.2.1
      obtain ⟨g', r1, r2⟩ := osT (k := fun (M_17_86 : gM) => f_X12_opens_L7 (fun (M_7_92 : gM) => some M_7_92) m ((t + 1 : Nat) : Int) M_17_86) h hb1 g3 ht hq
      refine ⟨g', ?_, r2⟩
      show f_X12_opens_L7 _ (m + 1) (t : Int) (gU B 29 0 36 g) = _
      rw [f_X12_opens_L7, e7, if_pos (Int.ofNat_lt.mpr ht), w1]
      exact r1
    · show f_X12_opens_L7 _ (m + 1) (n : Int) (gU B 29 0 36 g) = _
      rw [f_X12_opens_L7, gU_k (by decide), hT.2.2.1, if_neg (Int.lt_irrefl _)]
  obtain ⟨g, r1, r2⟩ := main
  have e1 : g = 1 := by
    obtain ⟨t, s, x1, x2, x3, x4⟩ := g0
    exact r2.2.mpr ⟨t, s, Or.inl x2.1, x1, x2, x3, x4⟩
  rw [r1, e1, gU_id hg]
