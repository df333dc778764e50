/-! ### the end of an action, both -/
theorem EJ_set {A B : gM} {n c t s : Nat} {v : Int} (h : EJ A B n c t s) (hv : 0 < v ∧ v ≤ 5) (v3 : v ≠ 3) (v2 : v ≠ 2) : SJ 0 (gU A 9 (4 * t + s) 2 v) (gU B 60 0 (4 * t + s) v) n c := by
  obtain ⟨y1, y2, y3, y4, y5, y6, y7, y8⟩ := h.2.2.2.2.2.1.2.2.2.2.2.2.1 (4 * t + s)
  refine EJ_vf (v := v) (f := B 63 0 (4 * t + s)) h (But_u But_r rfl) (fun x k => ?_) (But_u But_r rfl) (fun x => ?_) (fun x => ?_) ⟨Int.le_of_lt hv.1, hv.2⟩ v3 v2 y7 (fun z => by omega)
  · by_cases e : x = 4 * t + s
    · rw [e]
      by_cases k2 : k = 2
      · rw [k2, if_pos ⟨rfl, rfl⟩, gU_s]
      · rw [if_neg (fun z => k2 z.2), gU_k k2]
        by_cases k7 : k = 7
        · rw [k7, if_pos ⟨rfl, rfl⟩, y4]
        · rw [if_neg (fun z => k7 z.2)]
    · rw [if_neg (fun z => e z.1), if_neg (fun z => e z.1), gU_ne (fun z => e z.2.1)]
  · by_cases e : x = 4 * t + s
    · rw [if_pos e, e, gU_s]
    · rw [if_neg e, gU_k e]
  · rw [gU_r (by decide)]
    by_cases e : x = 4 * t + s
    · rw [if_pos e, e]
    · rw [if_neg e]
theorem EJ_open {A B : gM} {n c t s : Nat} (h : EJ A B n c t s) : SJ 0 (f_X0_open (4 * t + s) A) (gU (gU B 60 0 (4 * t + s) 0) 63 0 (4 * t + s) 0) n c := by
  unfold f_X0_open
  refine EJ_vf (v := 0) (f := 0) h (But_u (But_u But_r rfl) rfl) (fun x k => ?_) (But_u (But_u But_r rfl) rfl) (fun x => ?_) (fun x => ?_) (by decide) (by decide) (by decide) (by decide) (fun _ => rfl)
  · by_cases e : x = 4 * t + s
    · rw [e]
      by_cases k2 : k = 2
      · rw [k2, if_pos ⟨rfl, rfl⟩, gU_k (by decide), gU_s]
      · rw [if_neg (fun z => k2 z.2)]
        by_cases k7 : k = 7
        · rw [k7, if_pos ⟨rfl, rfl⟩, gU_s]
        · rw [if_neg (fun z => k7 z.2), gU_k k7, gU_k k2]
    · rw [if_neg (fun z => e z.1), if_neg (fun z => e z.1), gU_ne (fun z => e z.2.1), gU_ne (fun z => e z.2.1)]
  · rw [gU_r (by decide)]
    by_cases e : x = 4 * t + s
    · rw [if_pos e, e, gU_s]
    · rw [if_neg e, gU_k e]
  · by_cases e : x = 4 * t + s
    · rw [if_pos e, e, gU_s]
    · rw [if_neg e, gU_k e, gU_r (by decide)]
theorem EJ_fail {A B : gM} {n c t s : Nat} (h : EJ A B n c t s) : EJ (failA A (4 * t + s)) (failB B (4 * t + s)) n c t s := by
  have y4 : A 9 (4 * t + s) 7 = B 63 0 (4 * t + s) := (h.2.2.2.2.2.1.2.2.2.2.2.2.1 (4 * t + s)).2.2.2.1
  unfold failA failB
  rw [y4]
  exact EJ_f (EJ_ta h) (nmI_w _)
