/-! ### setPower -/
theorem gAct_iff (x : Int) (a : Nat) : gAct x = some a ↔ x = (a : Int) := by
  unfold gAct
  by_cases h : x < 0
  · rw [if_pos h]
    exact ⟨fun q => absurd q (by simp), fun q => absurd h (by omega)⟩
  · rw [if_neg h]
    constructor
    · intro q
      have := Option.some.inj q
      omega
    · intro q
      rw [q]
      rfl
theorem isAnyC (a : Nat) (M : gM) : (f_X2_isAnyAt a M = some 1 ∧ ∃ w, w < 4 ∧ M 11 w 3 = (a : Int)) ∨ (f_X2_isAnyAt a M = some 0 ∧ ∀ w, w < 4 → M 11 w 3 ≠ (a : Int)) := by
  unfold f_X2_isAnyAt
  refine lp0 (F := fun n (_ : Unit) i => f_X2_isAnyAt_L11 (some 0) a 4 M n i) 4 (fun i _ => ∀ w, w < i → M 11 w 3 ≠ (a : Int)) (fun r => (r = some 1 ∧ ∃ w, w < 4 ∧ M 11 w 3 = (a : Int)) ∨ (r = some 0 ∧ ∀ w, w < 4 → M 11 w 3 ≠ (a : Int))) (by decide) () (fun w q => absurd q (Nat.not_lt_zero _)) (fun m i _ hi hp => ?_) (fun m _ hp => ?_)
  · by_cases e : M 11 i 3 = (a : Int)
    · refine Or.inr (Or.inl ⟨?_, i, hi, e⟩)
      show f_X2_isAnyAt_L11 (some 0) a 4 M (m + 1) (i : Int) = _
      rw [f_X2_isAnyAt_L11, if_pos (by omega), og_t (by omega)]
      dsimp only [oj]
      rw [Int.toNat_natCast, if_pos ((gAct_iff _ _).mpr e)]
    · refine Or.inl ⟨(), ?_, fun w hw => ?_⟩
      · show f_X2_isAnyAt_L11 (some 0) a 4 M (m + 1) (i : Int) = _
        rw [f_X2_isAnyAt_L11, if_pos (by omega), og_t (by omega)]
        dsimp only [oj]
        rw [Int.toNat_natCast, if_neg (fun q => e ((gAct_iff _ _).mp q)), wI_s (by omega)]
      · by_cases e2 : w = i
        · rw [e2]; exact e
        · exact hp w (by omega)
  · refine Or.inr ⟨?_, hp⟩
    show f_X2_isAnyAt_L11 (some 0) a 4 M (m + 1) ((4 : Nat) : Int) = _
    rw [f_X2_isAnyAt_L11, if_neg (by decide)]
theorem wAtM (v : Int) (M : gM) : (∃ w : Nat, w < 4 ∧ f_X12_workerAt v M = some (w : Int) ∧ M 54 0 w = v ∧ ∀ u, u < w → M 54 0 u ≠ v) ∨ (f_X12_workerAt v M = some (-1) ∧ ∀ w, w < 4 → M 54 0 w ≠ v) := by
  unfold f_X12_workerAt
  refine lp0 (F := fun n (_ : Unit) i => f_X12_workerAt_L2 (some (-1)) v M n i) 4 (fun i _ => ∀ w, w < i → M 54 0 w ≠ v) (fun r => (∃ w : Nat, w < 4 ∧ r = some (w : Int) ∧ M 54 0 w = v ∧ ∀ u, u < w → M 54 0 u ≠ v) ∨ (r = some (-1) ∧ ∀ w, w < 4 → M 54 0 w ≠ v)) (by decide) () (fun w q => absurd q (Nat.not_lt_zero _)) (fun m i _ hi hp => ?_) (fun m _ hp => ?_)
  · by_cases e : M 54 0 i = v
    · refine Or.inr (Or.inl ⟨i, hi, ?_, e, hp⟩)
      show f_X12_workerAt_L2 (some (-1)) v M (m + 1) (i : Int) = _
      rw [f_X12_workerAt_L2, if_pos (by omega), og_t (by omega), Int.toNat_natCast, if_pos e]
    · refine Or.inl ⟨(), ?_, fun w hw => ?_⟩
      · show f_X12_workerAt_L2 (some (-1)) v M (m + 1) (i : Int) = _
        rw [f_X12_workerAt_L2, if_pos (by omega), og_t (by omega), Int.toNat_natCast, if_neg e, wI_s (by omega)]
      · by_cases e2 : w = i
        · rw [e2]; exact e
        · exact hp w (by omega)
  · refine Or.inr ⟨?_, hp⟩
    show f_X12_workerAt_L2 (some (-1)) v M (m + 1) ((4 : Nat) : Int) = _
    rw [f_X12_workerAt_L2, if_neg (by decide)]
theorem W3_act {l l' : Int} {B B' : gM} {n : Nat} (h : W3 l B n) (hl : l' ≤ l) (hT : TdN B B') (hv : ∀ v, v < 4 → B' 54 0 v = -1 ∨ (∃ t s : Nat, atA l' B' n v t s) ∨ ((∀ q, q ∈ [53, 54, 55, 56, 57, 58] → B' q 0 v = B q 0 v) ∧ ∀ a : Nat, B 54 0 v = (a : Int) → B 60 0 a = 2 → B' 60 0 a = 2)) : W3 l' B' n := by
  intro v hv4
  rcases hv v hv4 with q | q | ⟨q1, q2⟩
  · exact Or.inl q
  · exact Or.inr q
  · rcases h v hv4 with p | ⟨t, s, p1, p2, p3, p4, p5, p6, p7, p8, p9, p10, p11, p12, p13, p14, p15⟩
    · exact Or.inl (by rw [q1 54 (by decide), p])
    · refine Or.inr ⟨t, s, ?_⟩
      unfold atA
      rw [q1 53 (by decide), q1 54 (by decide), q1 55 (by decide), q1 56 (by decide), q1 57 (by decide), q1 58 (by decide), aOK_t hT.1, ndd_t hT, hT.1 39 (by decide)]
      exact ⟨p1, p2, p3, p4, q2 _ p1 p5, Int.le_trans hl p6, p7, p8, p9, p10, p11, p12, p13, p14, p15⟩
theorem W12_act {A B A' B' : gM} {w : Nat} (h : W12 A B) (a11 : ∀ v, v ≠ w → A' 11 v = A 11 v) (b53 : ∀ q, q ∈ [53, 54, 55, 56, 57, 58, 59] → ∀ v, v ≠ w → B' q 0 v = B q 0 v) (h1 : A' 11 w 1 = B' 53 0 w ∧ A' 11 w 2 = B' 59 0 w ∧ A' 11 w 3 = B' 54 0 w ∧ A' 11 w 4 = B' 57 0 w ∧ A' 11 w 5 = B' 58 0 w ∧ A' 11 w 6 = B' 55 0 w ∧ A' 11 w 7 = B' 56 0 w) (h2 : w < 4 → A' 11 w 0 = (w : Int) ∧ (0 ≤ B' 53 0 w ∧ B' 53 0 w ≤ 9) ∧ (-1 ≤ B' 59 0 w ∧ B' 59 0 w ≤ 3) ∧ nmI (B' 55 0 w)) : W12 A' B' := by
  refine ⟨fun v => ?_, fun v hv => ?_⟩
  · by_cases e : v = w
    · rw [e]; exact h1
    · rw [a11 v e, b53 53 (by decide) v e, b53 54 (by decide) v e, b53 55 (by decide) v e, b53 56 (by decide) v e, b53 57 (by decide) v e, b53 58 (by decide) v e, b53 59 (by decide) v e]
      exact h.1 v
  · by_cases e : v = w
    · rw [e]; rw [e] at hv; exact h2 hv
    · rw [a11 v e, b53 53 (by decide) v e, b53 55 (by decide) v e, b53 59 (by decide) v e]
      exact h.2 v hv
/-- fewer are at something: nobody new -/
theorem W4_sub {B B' : gM} (h : W4 B) (hs : ∀ v, v < 4 → B' 54 0 v = -1 ∨ B' 54 0 v = B 54 0 v) : W4 B' := by
  intro w v hw hv h1 h2 hne
  rcases hs w hw with q | q
  · exact Or.inl q
  · rcases h w v hw hv h1 h2 hne with p | p
    · exact Or.inl (q.trans p)
    · rcases hs v hv with r | r
      · by_cases e : B' 54 0 w = -1
        · exact Or.inl e
        · exact Or.inr (by rw [r]; exact e)
      · exact Or.inr (by rw [q, r]; exact p)
theorem busy_g {B : gM} {n w : Nat} {l : Int} (hg : RG B n) (h01 : B 29 0 36 = 0 ∨ B 29 0 36 = 1) {t s : Nat} (h : atA l B n w t s) : B 29 0 36 = 1 := by
  rcases h01 with q | q
  · have := hg.1 q t s h.2.1 h.2.2.1 h.2.2.2.1
    have h60 := h.2.2.2.2.1
    omega
  · exact q
def pwA (A : gM) (w : Nat) (v : Int) : gM := gU (gU (gU A 11 w 1 v) 11 w 3 (-1)) 11 w 2 (-1)
def pwB (B : gM) (w : Nat) (v : Int) : gM := gU (gU (gU (gU B 29 0 0 0) 53 0 w v) 59 0 w (-1)) 54 0 w (-1)
theorem pwB_54 {B : gM} {w : Nat} {v : Int} : ∀ u, pwB B w v 54 0 u = if u = w then -1 else B 54 0 u := fun u => by
  unfold pwB
  rw [gU_same, gU_r (by decide), gU_r (by decide), gU_r (by decide)]
  rfl
theorem pwB_o {B : gM} {w : Nat} {v : Int} : But [29, 53, 54, 59] (pwB B w v) B := But_u (But_u (But_u (But_u But_r rfl) rfl) rfl) rfl
theorem pwB_29 {B : gM} {w : Nat} {v : Int} : ∀ j, j ≠ 0 → pwB B w v 29 0 j = B 29 0 j := fun j hj => by
  unfold pwB
  rw [gU_r (by decide), gU_r (by decide), gU_r (by decide), gU_k hj]
theorem pwB_k {B : gM} {w : Nat} {v : Int} : ∀ q, q ∈ [53, 54, 55, 56, 57, 58, 59] → ∀ u, u ≠ w → pwB B w v q 0 u = B q 0 u := fun q hq u hu => by
  unfold pwB
  simp only [List.mem_cons, List.not_mem_nil, or_false] at hq
  rcases hq with rfl | rfl | rfl | rfl | rfl | rfl | rfl
  · rw [gU_r (by decide), gU_r (by decide), gU_k hu, gU_r (by decide)]
  · rw [gU_k hu, gU_r (by decide), gU_r (by decide), gU_r (by decide)]
  · rw [gU_r (by decide), gU_r (by decide), gU_r (by decide), gU_r (by decide)]
  · rw [gU_r (by decide), gU_r (by decide), gU_r (by decide), gU_r (by decide)]
  · rw [gU_r (by decide), gU_r (by decide), gU_r (by decide), gU_r (by decide)]
  · rw [gU_r (by decide), gU_r (by decide), gU_r (by decide), gU_r (by decide)]
  · rw [gU_r (by decide), gU_k hu, gU_r (by decide), gU_r (by decide)]
theorem pwW {A B : gM} {w : Nat} {v : Int} (hw : w < 4) (hv : 0 ≤ v ∧ v ≤ 9) (h : W12 A B) : W12 (pwA A w v) (pwB B w v) := by
  refine W12_act (w := w) h (fun u hu => by unfold pwA; rw [gU_i hu, gU_i hu, gU_i hu]) pwB_k ?_ (fun _ => ?_)
  · obtain ⟨h1, h2, h3, h4, h5, h6, h7⟩ := h.1 w
    refine ⟨?_, ?_, ?_, ?_, ?_, ?_, ?_⟩
    · unfold pwA pwB
      rw [gU_k (by decide), gU_k (by decide), gU_s, gU_r (by decide), gU_r (by decide), gU_s]
    · unfold pwA pwB
      rw [gU_s, gU_r (by decide), gU_s]
    · rw [pwB_54, if_pos rfl]
      unfold pwA
      rw [gU_k (by decide), gU_s]
    · rw [But_q pwB_o rfl, ← h4]
      unfold pwA
      rw [gU_k (by decide), gU_k (by decide), gU_k (by decide)]
    · rw [But_q pwB_o rfl, ← h5]
      unfold pwA
      rw [gU_k (by decide), gU_k (by decide), gU_k (by decide)]
    · rw [But_q pwB_o rfl, ← h6]
      unfold pwA
      rw [gU_k (by decide), gU_k (by decide), gU_k (by decide)]
    · rw [But_q pwB_o rfl, ← h7]
      unfold pwA
      rw [gU_k (by decide), gU_k (by decide), gU_k (by decide)]
  · obtain ⟨h1, h2, h3, h4⟩ := h.2 w hw
    refine ⟨?_, ?_, ?_, by rw [But_q pwB_o rfl]; exact h4⟩
    · unfold pwA
      rw [gU_k (by decide), gU_k (by decide), gU_k (by decide)]
      exact h1
    · unfold pwB
      rw [gU_r (by decide), gU_r (by decide), gU_s]
      exact hv
    · unfold pwB
      rw [gU_r (by decide), gU_s]
      exact ⟨by decide, by decide⟩
theorem pwA_o {A : gM} {w : Nat} {v : Int} : But [11] (pwA A w v) A := But_u (But_u (But_u But_r rfl) rfl) rfl
theorem pwC {A : gM} {w : Nat} {v : Int} : f_X10_rest w (-1) (gU A 11 w 1 v) = pwA A w v := rfl
theorem TdN_b {B B' : gM} (h : But [29, 46, 47, 48, 49, 50, 51, 52, 53, 54, 55, 56, 57, 58, 59, 60, 61, 62, 63, 64, 65, 66, 67, 68, 73] B' B) (h37 : B' 29 0 37 = B 29 0 37) : TdN B B' := ⟨fun q hq => h q (fun m => by
  simp only [List.mem_cons, List.not_mem_nil, or_false] at m hq
  omega), h37⟩
