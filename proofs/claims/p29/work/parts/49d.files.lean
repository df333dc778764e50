/-! ### contents as they were -/
theorem itr_sn {α : Type} {st : Nat → α → α} : ∀ m i x, itr st (m + 1) i x = st (i + m) (itr st m i x) := by
  intro m
  induction m with
  | zero => intro i x; rfl
  | succ m ih =>
    intro i x
    show itr st (m + 1) (i + 1) (st i x) = st (i + (m + 1)) (itr st m (i + 1) (st i x))
    rw [ih (i + 1) (st i x), show i + 1 + m = i + (m + 1) by omega]
theorem itr_s0 {α : Type} {st : Nat → α → α} (m : Nat) (x : α) : itr st (m + 1) 0 x = st m (itr st m 0 x) := by
  rw [itr_sn, Nat.zero_add]
def und (B : gM) (z : Nat) : Nat → (Nat → Int)
  | 0 => B 30 0
  | d + 1 => g1 (und B z d) (B 33 0 (z - 1 - d)).toNat (B 34 0 (z - 1 - d))
theorem und_in {A B : gM} (hS : RS A B) (z : Nat) : ∀ d k, 0 ≤ und B z d k ∧ und B z d k ≤ 999 := by
  intro d
  induction d with
  | zero => intro k; exact hS.2.2.2.2.2.2.1 k
  | succ d ih =>
    intro k
    show 0 ≤ (if k = (B 33 0 (z - 1 - d)).toNat then B 34 0 (z - 1 - d) else und B z d k) ∧ (if k = (B 33 0 (z - 1 - d)).toNat then B 34 0 (z - 1 - d) else und B z d k) ≤ 999
    by_cases e : k = (B 33 0 (z - 1 - d)).toNat
    · rw [if_pos e]; exact hS.2.2.2.2.2.2.2.2.2.2 _
    · rw [if_neg e]; exact ih k
theorem filC {A B : gM} (hS : RS A B) {z m : Nat} (hz : A 1 0 5 = (z : Int)) (hz3 : z ≤ 30) (hm : m ≤ z) : ∃ A', f_X7_filesAfter (m : Int) A = some A' ∧ But [12] A' A ∧ A' 12 0 = A 12 0 ∧ ∀ j, j < 16 → A' 12 1 j = und B z (z - m) j := by
  unfold f_X7_filesAfter
  refine lp0 (F := fun n M i => f_X7_filesAfter_L2 (fun (M_2_27 : gM) => f_X7_filesAfter_L34 (fun (M_34_65 : gM) => some M_34_65) (m : Int) 64 (wI ((M_2_27 1 0 5) - 1)) M_2_27) (m : Int) n i M) 16 (fun i M => But [12] M A ∧ M 12 0 = A 12 0 ∧ ∀ j, j < i → M 12 1 j = A 12 0 j) (fun r => ∃ A', r = some A' ∧ But [12] A' A ∧ A' 12 0 = A 12 0 ∧ ∀ j, j < 16 → A' 12 1 j = und B z (z - m) j) (by decide) A ⟨But_r, rfl, fun j q => absurd q (by omega)⟩ (fun n i M hi hp => Or.inl ⟨gU M 12 1 i (A 12 0 i), ?_, But_u hp.1 rfl, ?_, fun j hj => ?_⟩) (fun n M hp => ?_)
  · show f_X7_filesAfter_L2 _ (m : Int) (n + 1) (i : Int) M = _
    rw [f_X7_filesAfter_L2, if_pos (by omega), at_in hi, store_in hi, hp.2.1, wI_s (by omega)]
  · rw [gU_i (by decide)]; exact hp.2.1
  · rw [gU_same]
    unfold g1
    by_cases e : j = i
    · rw [if_pos e, e]
    · rw [if_neg e]; exact hp.2.2 j (by omega)
  · obtain ⟨p1, p2, p3⟩ := hp
    show ∃ A', f_X7_filesAfter_L2 _ (m : Int) (n + 1) ((16 : Nat) : Int) M = some A' ∧ _
    rw [f_X7_filesAfter_L2, if_neg (by decide), But_q p1 rfl, hz, wI_m (by omega)]
    refine lpd0 (F := fun n M i => f_X7_filesAfter_L34 (fun (M_34_65 : gM) => some M_34_65) (m : Int) n i M) z (fun i M => m ≤ i ∧ But [12] M A ∧ M 12 0 = A 12 0 ∧ ∀ j, j < 16 → M 12 1 j = und B z (z - i) j) (fun r => ∃ A', r = some A' ∧ But [12] A' A ∧ A' 12 0 = A 12 0 ∧ ∀ j, j < 16 → A' 12 1 j = und B z (z - m) j) (by omega) M ⟨hm, p1, p2, fun j hj => ?_⟩ (fun n i M hi hp => ?_) (fun n M hp => ?_)
    · rw [Nat.sub_self, p3 j hj, hS.2.1]
      rfl
    · obtain ⟨p0, p1, p2, p3⟩ := hp
      by_cases e : (i : Int) < (m : Int)
      · have e2 : m = i + 1 := by omega
        refine Or.inr ⟨M, ?_, p1, p2, fun j hj => ?_⟩
        · show f_X7_filesAfter_L34 _ (m : Int) (n + 1) (i : Int) M = _
          rw [f_X7_filesAfter_L34, if_pos e]
        · rw [e2]; exact p3 j hj
      · have b33 := hS.2.2.2.2.2.2.2.2.2.1 i
        obtain ⟨w, hw⟩ : ∃ w : Nat, B 33 0 i = (w : Int) := ⟨(B 33 0 i).toNat, by omega⟩
        refine Or.inl ⟨gU M 12 1 w (B 34 0 i), ?_, by omega, But_u p1 rfl, ?_, fun j hj => ?_⟩
        · show f_X7_filesAfter_L34 _ (m : Int) (n + 1) (i : Int) M = _
          rw [f_X7_filesAfter_L34, if_neg e, at_in (show i < 30 by omega), at_in (show i < 30 by omega), But_q p1 rfl, But_q p1 rfl, hS.2.2.2.2.1, hS.2.2.2.2.2.1, hw, store_in (show w < 16 by omega), wI_p (by omega)]
        · rw [gU_i (by decide)]; exact p2
        · rw [gU_same, show z - i = (z - (i + 1)) + 1 by omega]
          show g1 (M 12 1) w (B 34 0 i) j = g1 (und B z (z - (i + 1))) (B 33 0 (z - 1 - (z - (i + 1)))).toNat (B 34 0 (z - 1 - (z - (i + 1)))) j
          rw [show z - 1 - (z - (i + 1)) = i by omega, hw, Int.toNat_natCast]
          unfold g1
          rw [p3 j hj]
    · obtain ⟨p0, p1, p2, p3⟩ := hp
      have e2 : m = 0 := by omega
      refine ⟨M, ?_, p1, p2, fun j hj => ?_⟩
      · show f_X7_filesAfter_L34 _ (m : Int) (n + 1) (-1) M = _
        rw [f_X7_filesAfter_L34, if_pos (by omega)]
      · rw [e2]; exact p3 j hj
theorem filM {A B M0 : gM} (hS : RS A B) {z m : Nat} (hz : B 29 0 4 = (z : Int)) (hz3 : z ≤ 30) (hm : m ≤ z) (h0 : ∀ q, q ∈ [30, 33, 34] → M0 q = B q) (h04 : M0 29 0 4 = B 29 0 4) (v1 : Int) (K : gM → Option (Int × gM)) : ∃ B', f_X12_isGood_L2 (fun (M_2_26 : gM) => f_X12_isGood_L33 K v1 (m : Int) 64 (wI ((M_2_26 29 0 4) - 1)) M_2_26) v1 (m : Int) 64 0 M0 = K B' ∧ But [69] B' M0 ∧ ∀ j, j < 16 → B' 69 0 j = und B z (z - m) j := by
  refine lp0 (F := fun n M i => f_X12_isGood_L2 (fun (M_2_26 : gM) => f_X12_isGood_L33 K v1 (m : Int) 64 (wI ((M_2_26 29 0 4) - 1)) M_2_26) v1 (m : Int) n i M) 16 (fun i M => But [69] M M0 ∧ ∀ j, j < i → M 69 0 j = B 30 0 j) (fun r => ∃ B', r = K B' ∧ But [69] B' M0 ∧ ∀ j, j < 16 → B' 69 0 j = und B z (z - m) j) (by decide) M0 ⟨But_r, fun j q => absurd q (by omega)⟩ (fun n i M hi hp => Or.inl ⟨gU M 69 0 i (B 30 0 i), ?_, But_u hp.1 rfl, fun j hj => ?_⟩) (fun n M hp => ?_)
  · show f_X12_isGood_L2 _ v1 (m : Int) (n + 1) (i : Int) M = _
    rw [f_X12_isGood_L2, if_pos (by omega), og_t (by omega), og_t (by omega), Int.toNat_natCast, But_q hp.1 rfl, h0 30 (by decide), wI_s (by omega)]
  · rw [gU_same]
    unfold g1
    by_cases e : j = i
    · rw [if_pos e, e]
    · rw [if_neg e]; exact hp.2 j (by omega)
  · obtain ⟨p1, p3⟩ := hp
    show ∃ B', f_X12_isGood_L2 _ v1 (m : Int) (n + 1) ((16 : Nat) : Int) M = K B' ∧ _
    rw [f_X12_isGood_L2, if_neg (by decide), But_q p1 rfl, h04, hz, wI_m (by omega)]
    refine lpd0 (F := fun n M i => f_X12_isGood_L33 K v1 (m : Int) n i M) z (fun i M => m ≤ i ∧ But [69] M M0 ∧ ∀ j, j < 16 → M 69 0 j = und B z (z - i) j) (fun r => ∃ B', r = K B' ∧ But [69] B' M0 ∧ ∀ j, j < 16 → B' 69 0 j = und B z (z - m) j) (by omega) M ⟨hm, p1, fun j hj => ?_⟩ (fun n i M hi hp => ?_) (fun n M hp => ?_)
    · rw [Nat.sub_self, p3 j hj]
      rfl
    · obtain ⟨p0, p1, p3⟩ := hp
      by_cases e : (i : Int) < (m : Int)
      · have e2 : m = i + 1 := by omega
        refine Or.inr ⟨M, ?_, p1, fun j hj => ?_⟩
        · show f_X12_isGood_L33 _ v1 (m : Int) (n + 1) (i : Int) M = _
          rw [f_X12_isGood_L33, if_pos e]
        · rw [e2]; exact p3 j hj
      · have b33 := hS.2.2.2.2.2.2.2.2.2.1 i
        obtain ⟨w, hw⟩ : ∃ w : Nat, B 33 0 i = (w : Int) := ⟨(B 33 0 i).toNat, by omega⟩
        refine Or.inl ⟨gU M 69 0 w (B 34 0 i), ?_, by omega, But_u p1 rfl, fun j hj => ?_⟩
        · show f_X12_isGood_L33 _ v1 (m : Int) (n + 1) (i : Int) M = _
          have m33 : M 33 = B 33 := by rw [But_q p1 rfl, h0 33 (by decide)]
          have m34 : M 34 = B 34 := by rw [But_q p1 rfl, h0 34 (by decide)]
          rw [f_X12_isGood_L33, if_neg e, Int.toNat_natCast, og_t (by omega), og_t (by omega), m33, m34, hw, og_t (by omega), Int.toNat_natCast, wI_p (by omega)]
        · rw [gU_same, show z - i = (z - (i + 1)) + 1 by omega]
          show g1 (M 69 0) w (B 34 0 i) j = g1 (und B z (z - (i + 1))) (B 33 0 (z - 1 - (z - (i + 1)))).toNat (B 34 0 (z - 1 - (z - (i + 1)))) j
          rw [show z - 1 - (z - (i + 1)) = i by omega, hw, Int.toNat_natCast]
          unfold g1
          rw [p3 j hj]
    · obtain ⟨p0, p1, p3⟩ := hp
      have e2 : m = 0 := by omega
      refine ⟨M, ?_, p1, fun j hj => ?_⟩
      · show f_X12_isGood_L33 _ v1 (m : Int) (n + 1) (-1) M = _
        rw [f_X12_isGood_L33, if_pos (by omega)]
      · rw [e2]; exact p3 j hj
theorem filN {B M0 : gM} (h0 : M0 30 = B 30) : ∃ B', f_X12_freshenNow M0 = f_X12_freshen B' ∧ But [69] B' M0 ∧ ∀ j, j < 16 → B' 69 0 j = B 30 0 j := by
  unfold f_X12_freshenNow
  refine lp0 (F := fun n M i => f_X12_freshenNow_L2 (fun (M_2_26 : gM) => ob (f_X12_freshen M_2_26) fun r27 => some r27) n i M) 16 (fun i M => But [69] M M0 ∧ ∀ j, j < i → M 69 0 j = B 30 0 j) (fun r => ∃ B', r = f_X12_freshen B' ∧ But [69] B' M0 ∧ ∀ j, j < 16 → B' 69 0 j = B 30 0 j) (by decide) M0 ⟨But_r, fun j q => absurd q (by omega)⟩ (fun n i M hi hp => Or.inl ⟨gU M 69 0 i (B 30 0 i), ?_, But_u hp.1 rfl, fun j hj => ?_⟩) (fun n M hp => ⟨M, ?_, hp.1, hp.2⟩)
  · show f_X12_freshenNow_L2 _ (n + 1) (i : Int) M = _
    rw [f_X12_freshenNow_L2, if_pos (by omega), og_t (by omega), og_t (by omega), Int.toNat_natCast, But_q hp.1 rfl, h0, wI_s (by omega)]
  · rw [gU_same]
    unfold g1
    by_cases e : j = i
    · rw [if_pos e, e]
    · rw [if_neg e]; exact hp.2 j (by omega)
  · show f_X12_freshenNow_L2 _ (n + 1) ((16 : Nat) : Int) M = _
    rw [f_X12_freshenNow_L2, if_neg (by decide)]
    cases f_X12_freshen M <;> rfl
