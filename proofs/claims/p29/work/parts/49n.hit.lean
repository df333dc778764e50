/-! ### the first entry that fits -/
def sgB (B : gM) (e : Nat) : Int := pls (pls (pls 7 (B 46 0 e)) (B 49 0 e)) (wI (wI (17 * B 50 0 e) + 5))
def fits (B : gM) (key file con : Int) (e : Nat) : Prop := B 46 0 e = key ∧ B 52 0 e = 0 ∧ B 47 0 e = file ∧ B 48 0 e = con ∧ (B 29 0 19 = 0 ∨ B 51 0 e = sgB B e)
theorem sgC {A B : gM} {p e : Nat} (h : RE A B p e) : (f_X3_isRightlySigned p A = 0 ∧ B 51 0 e ≠ sgB B e) ∨ (f_X3_isRightlySigned p A = 1 ∧ B 51 0 e = sgB B e) := by
  obtain ⟨q1, q2, q3, q4, q5, q6, -⟩ := h
  have e1 : f_X3_rightSignature p A = sgB B e := by
    unfold f_X3_rightSignature sgB
    rw [q1, q4, q5]
    rfl
  unfold f_X3_isRightlySigned
  rw [e1, q6]
  by_cases h : B 51 0 e = sgB B e
  · rw [if_pos h]; exact Or.inr ⟨rfl, h⟩
  · rw [if_neg h]; exact Or.inl ⟨rfl, h⟩
theorem sgM {B : gM} {e : Nat} (he : e < 40) : (f_X12_isSigned (e : Int) B = some 0 ∧ B 51 0 e ≠ sgB B e) ∨ (f_X12_isSigned (e : Int) B = some 1 ∧ B 51 0 e = sgB B e) := by
  have g : (0 : Int) ≤ (e : Int) ∧ (e : Int) < 40 := by omega
  have e1 : f_X12_signature (B 46 0 e) (B 49 0 e) (B 50 0 e) B = sgB B e := rfl
  unfold f_X12_isSigned
  rw [og_t g, og_t g, og_t g, og_t g, Int.toNat_natCast, e1]
  by_cases h : B 51 0 e = sgB B e
  · rw [if_pos h]; exact Or.inr ⟨rfl, h⟩
  · rw [if_neg h]; exact Or.inl ⟨rfl, h⟩
theorem ofC {A B : gM} {p e : Nat} {key file con : Int} (h : RE A B p e) : (f_X3_isOf p key file con A = 0 ∧ ¬ (B 46 0 e = key ∧ B 52 0 e = 0 ∧ B 47 0 e = file ∧ B 48 0 e = con)) ∨ (f_X3_isOf p key file con A = 1 ∧ (B 46 0 e = key ∧ B 52 0 e = 0 ∧ B 47 0 e = file ∧ B 48 0 e = con)) := by
  obtain ⟨q1, q2, q3, q4, q5, q6, q7, -⟩ := h
  unfold f_X3_isOf
  rw [q1, q2, q3]
  rcases q7 with ⟨a, b⟩ | ⟨a, b⟩
  · rw [b, if_neg ne10]
    by_cases h1 : B 46 0 e = key
    · rw [if_pos h1]
      by_cases h2 : B 47 0 e = file
      · rw [if_pos h2]
        by_cases h3 : B 48 0 e = con
        · rw [if_pos h3]; exact Or.inr ⟨rfl, h1, a, h2, h3⟩
        · rw [if_neg h3]; exact Or.inl ⟨rfl, fun q => h3 q.2.2.2⟩
      · rw [if_neg h2]; exact Or.inl ⟨rfl, fun q => h2 q.2.2.1⟩
    · rw [if_neg h1]; exact Or.inl ⟨rfl, fun q => h1 q.1⟩
  · rw [b, if_pos rfl]
    exact Or.inl ⟨rfl, fun q => by rw [q.2.1] at a; exact ne01 a⟩
theorem ffC {A B : gM} {z f : Nat} {key file con : Int} (hz : z ≤ 40) (hf : f < 40) (h1 : A 3 0 1 = (f : Int)) (h2 : A 3 0 2 = (z : Int)) (hE : ∀ e, e < z → RE A B ((f + e) % 40) e) : (∃ e, e < z ∧ f_X1_firstFit key file con (B 29 0 19) A = some (some ((f + e) % 40)) ∧ fits B key file con e ∧ ∀ e', e' < e → ¬ fits B key file con e') ∨ (f_X1_firstFit key file con (B 29 0 19) A = some none ∧ ∀ e, e < z → ¬ fits B key file con e) := by
  have hz64 : z < 64 := by omega
  unfold f_X1_firstFit
  refine lp0 (F := fun n (_ : Unit) i => f_X1_firstFit_L3 (some none) key file con (B 29 0 19) A n i) z (fun i _ => ∀ e, e < i → ¬ fits B key file con e) (fun r => (∃ e, e < z ∧ r = some (some ((f + e) % 40)) ∧ fits B key file con e ∧ ∀ e', e' < e → ¬ fits B key file con e') ∨ (r = some none ∧ ∀ e, e < z → ¬ fits B key file con e)) hz64 () (fun e q => absurd q (Nat.not_lt_zero _)) (fun m i _ hi hp => ?_) (fun m _ hp => Or.inr ⟨?_, hp⟩)
  · have hat := eAt h1 h2 hf hz hi
    have hiz : (i : Int) < (z : Int) := by omega
    have w1 : wI ((i : Int) + 1) = ((i + 1 : Nat) : Int) := wI_s (by omega)
    have hEi := hE i hi
    have step : f_X1_firstFit_L3 (some none) key file con (B 29 0 19) A (m + 1) (i : Int) = if f_X3_isOf ((f + i) % 40) key file con A = 0 then f_X1_firstFit_L3 (some none) key file con (B 29 0 19) A m ((i + 1 : Nat) : Int) else if B 29 0 19 = 0 then some (some ((f + i) % 40)) else if f_X3_isRightlySigned ((f + i) % 40) A = 0 then f_X1_firstFit_L3 (some none) key file con (B 29 0 19) A m ((i + 1 : Nat) : Int) else some (some ((f + i) % 40)) := by
      rw [f_X1_firstFit_L3, h2, if_pos hiz, hat, ob_s]
      dsimp only [oj, om]
      rw [w1]
    have no : ¬ fits B key file con i → f_X1_firstFit_L3 (some none) key file con (B 29 0 19) A (m + 1) (i : Int) = f_X1_firstFit_L3 (some none) key file con (B 29 0 19) A m ((i + 1 : Nat) : Int) → (∃ x' : Unit, f_X1_firstFit_L3 (some none) key file con (B 29 0 19) A (m + 1) (i : Int) = f_X1_firstFit_L3 (some none) key file con (B 29 0 19) A m ((i + 1 : Nat) : Int) ∧ ∀ e, e < i + 1 → ¬ fits B key file con e) := fun q1 q2 => ⟨(), q2, fun e he => by
      rcases (show e < i ∨ e = i by omega) with q | q
      · exact hp e q
      · rw [q]; exact q1⟩
    rcases ofC (key := key) (file := file) (con := con) hEi with ⟨a1, a2⟩ | ⟨a1, a2⟩
    · exact Or.inl (no (fun q => a2 ⟨q.1, q.2.1, q.2.2.1, q.2.2.2.1⟩) (by rw [step, if_pos a1]))
    · by_cases e19 : B 29 0 19 = 0
      · exact Or.inr (Or.inl ⟨i, hi, (show f_X1_firstFit_L3 (some none) key file con (B 29 0 19) A (m + 1) (i : Int) = _ by rw [step, if_neg (by rw [a1]; exact ne10), if_pos e19]), ⟨a2.1, a2.2.1, a2.2.2.1, a2.2.2.2, Or.inl e19⟩, hp⟩)
      · rcases sgC hEi with ⟨b1, b2⟩ | ⟨b1, b2⟩
        · exact Or.inl (no (fun q => q.2.2.2.2.elim e19 b2) (by rw [step, if_neg (by rw [a1]; exact ne10), if_neg e19, if_pos b1]))
        · exact Or.inr (Or.inl ⟨i, hi, (show f_X1_firstFit_L3 (some none) key file con (B 29 0 19) A (m + 1) (i : Int) = _ by rw [step, if_neg (by rw [a1]; exact ne10), if_neg e19, if_neg (by rw [b1]; exact ne10)]), ⟨a2.1, a2.2.1, a2.2.2.1, a2.2.2.2, Or.inr b2⟩, hp⟩)
  · show f_X1_firstFit_L3 (some none) key file con (B 29 0 19) A (m + 1) (z : Int) = _
    rw [f_X1_firstFit_L3, h2, if_neg (Int.lt_irrefl _)]
theorem ffM {B : gM} {z t : Nat} {key file con : Int} {K : Option Int} (ht : t < 14) (hz : z ≤ 40) (h2 : B 29 0 21 = (z : Int)) (hb : brk B t key = 0) : (∃ e, e < z ∧ f_X12_hit_L40 K (t : Int) key file con B 64 0 = some (e : Int) ∧ fits B key file con e ∧ ∀ e', e' < e → ¬ fits B key file con e') ∨ (f_X12_hit_L40 K (t : Int) key file con B 64 0 = K ∧ ∀ e, e < z → ¬ fits B key file con e) := by
  have hz64 : z < 64 := by omega
  refine lp0 (F := fun n (_ : Unit) i => f_X12_hit_L40 K (t : Int) key file con B n i) z (fun i _ => ∀ e, e < i → ¬ fits B key file con e) (fun r => (∃ e, e < z ∧ r = some (e : Int) ∧ fits B key file con e ∧ ∀ e', e' < e → ¬ fits B key file con e') ∨ (r = K ∧ ∀ e, e < z → ¬ fits B key file con e)) hz64 () (fun e q => absurd q (Nat.not_lt_zero _)) (fun m i _ hi hp => ?_) (fun m _ hp => Or.inr ⟨?_, hp⟩)
  · have hiz : (i : Int) < (z : Int) := by omega
    have g : (0 : Int) ≤ (i : Int) ∧ (i : Int) < 40 := by omega
    have i40 : i < 40 := by omega
    have w1 : wI ((i : Int) + 1) = ((i + 1 : Nat) : Int) := wI_s (by omega)
    have step : f_X12_hit_L40 K (t : Int) key file con B (m + 1) (i : Int) = if B 46 0 i = key then (if B 52 0 i = 0 then (if B 47 0 i = file then (if B 48 0 i = con then (if B 29 0 19 = 0 then some (i : Int) else ob (f_X12_isSigned (i : Int) B) fun r125 => if r125 = 0 then f_X12_hit_L40 K (t : Int) key file con B m ((i + 1 : Nat) : Int) else some (i : Int)) else f_X12_hit_L40 K (t : Int) key file con B m ((i + 1 : Nat) : Int)) else f_X12_hit_L40 K (t : Int) key file con B m ((i + 1 : Nat) : Int)) else f_X12_hit_L40 K (t : Int) key file con B m ((i + 1 : Nat) : Int)) else f_X12_hit_L40 K (t : Int) key file con B m ((i + 1 : Nat) : Int) := by
      rw [f_X12_hit_L40, h2, if_pos hiz, og_t g]
      dsimp only [oj]
      rw [Int.toNat_natCast, og_t g, og_t g, og_t g, brkM ht, hb, ob_s, if_pos rfl, if_neg ne10, if_pos rfl, w1]
    have no : ¬ fits B key file con i → f_X12_hit_L40 K (t : Int) key file con B (m + 1) (i : Int) = f_X12_hit_L40 K (t : Int) key file con B m ((i + 1 : Nat) : Int) → (∃ x' : Unit, f_X12_hit_L40 K (t : Int) key file con B (m + 1) (i : Int) = f_X12_hit_L40 K (t : Int) key file con B m ((i + 1 : Nat) : Int) ∧ ∀ e, e < i + 1 → ¬ fits B key file con e) := fun q1 q2 => ⟨(), q2, fun e he => by
      rcases (show e < i ∨ e = i by omega) with q | q
      · exact hp e q
      · rw [q]; exact q1⟩
    by_cases c1 : B 46 0 i = key
    · by_cases c2 : B 52 0 i = 0
      · by_cases c3 : B 47 0 i = file
        · by_cases c4 : B 48 0 i = con
          · by_cases e19 : B 29 0 19 = 0
            · exact Or.inr (Or.inl ⟨i, hi, (show f_X12_hit_L40 K (t : Int) key file con B (m + 1) (i : Int) = _ by rw [step, if_pos c1, if_pos c2, if_pos c3, if_pos c4, if_pos e19]), ⟨c1, c2, c3, c4, Or.inl e19⟩, hp⟩)
            · rcases sgM (B := B) i40 with ⟨b1, b2⟩ | ⟨b1, b2⟩
              · exact Or.inl (no (fun q => q.2.2.2.2.elim e19 b2) (by rw [step, if_pos c1, if_pos c2, if_pos c3, if_pos c4, if_neg e19, b1, ob_s, if_pos rfl]))
              · exact Or.inr (Or.inl ⟨i, hi, (show f_X12_hit_L40 K (t : Int) key file con B (m + 1) (i : Int) = _ by rw [step, if_pos c1, if_pos c2, if_pos c3, if_pos c4, if_neg e19, b1, ob_s, if_neg ne10]), ⟨c1, c2, c3, c4, Or.inr b2⟩, hp⟩)
          · exact Or.inl (no (fun q => c4 q.2.2.2.1) (by rw [step, if_pos c1, if_pos c2, if_pos c3, if_neg c4]))
        · exact Or.inl (no (fun q => c3 q.2.2.1) (by rw [step, if_pos c1, if_pos c2, if_neg c3]))
      · exact Or.inl (no (fun q => c2 q.2.1) (by rw [step, if_pos c1, if_neg c2]))
    · exact Or.inl (no (fun q => c1 q.1) (by rw [step, if_neg c1]))
  · show f_X12_hit_L40 K (t : Int) key file con B (m + 1) (z : Int) = _
    rw [f_X12_hit_L40, h2, if_neg (Int.lt_irrefl _)]
theorem ffM1 {B : gM} {z t : Nat} {key file con : Int} {K : Option Int} (ht : t < 14) (hz : z ≤ 40) (h2 : B 29 0 21 = (z : Int)) (hb : brk B t key = 1) : f_X12_hit_L40 K (t : Int) key file con B 64 0 = K := by
  have hz64 : z < 64 := by omega
  refine lp0 (F := fun n (_ : Unit) i => f_X12_hit_L40 K (t : Int) key file con B n i) z (fun i _ => True) (fun r => r = K) hz64 () trivial (fun m i _ hi hp => Or.inl ⟨(), ?_, trivial⟩) (fun m _ hp => ?_)
  · have hiz : (i : Int) < (z : Int) := by omega
    have g : (0 : Int) ≤ (i : Int) ∧ (i : Int) < 40 := by omega
    have w1 : wI ((i : Int) + 1) = ((i + 1 : Nat) : Int) := wI_s (by omega)
    show f_X12_hit_L40 K (t : Int) key file con B (m + 1) (i : Int) = _
    rw [f_X12_hit_L40, h2, if_pos hiz, og_t g]
    dsimp only [oj]
    rw [Int.toNat_natCast, og_t g, og_t g, og_t g, brkM ht, hb, ob_s, if_neg ne10, if_pos rfl, w1]
    by_cases c1 : B 46 0 i = key
    · rw [if_pos c1]
      by_cases c2 : B 52 0 i = 0
      · rw [if_pos c2]
        by_cases c3 : B 47 0 i = file
        · rw [if_pos c3]
          by_cases c4 : B 48 0 i = con
          · rw [if_pos c4]
          · rw [if_neg c4]
        · rw [if_neg c3]
      · rw [if_neg c2]
    · rw [if_neg c1]
  · show f_X12_hit_L40 K (t : Int) key file con B (m + 1) (z : Int) = _
    rw [f_X12_hit_L40, h2, if_neg (Int.lt_irrefl _)]
