/-! ### input, target, copy -/
theorem app_v {A : gM} {i z : Nat} (hz : z < 4) (h : A 8 i 5 = (z : Int)) (v1 v2 v3 v4 : Int) : f_X6_append i v1 v2 v3 v4 A = ((z : Int) + 1, gU (gU (gU (gU (gU A 17 i z v1) 18 i z v2) 19 i z v3) 20 i z v4) 8 i 5 ((z : Int) + 1)) := by
  have h1 : gU A 17 i z v1 8 i 5 = (z : Int) := by rw [gU_r (by decide), h]
  have h2 : gU (gU A 17 i z v1) 18 i z v2 8 i 5 = (z : Int) := by rw [gU_r (by decide), h1]
  have h3 : gU (gU (gU A 17 i z v1) 18 i z v2) 19 i z v3 8 i 5 = (z : Int) := by rw [gU_r (by decide), h2]
  have h4 : gU (gU (gU (gU A 17 i z v1) 18 i z v2) 19 i z v3) 20 i z v4 8 i 5 = (z : Int) := by rw [gU_r (by decide), h3]
  unfold f_X6_append
  rw [h, store_in hz, h1, store_in hz, h2, store_in hz, h3, store_in hz, h4, wI_s (by omega), gU_s]
  rfl
theorem bec {A : gM} {i j z : Nat} (hij : j ≠ i) (hz : z ≤ 4) (hj : A 8 j 5 = (z : Int)) : ∃ A', f_X6_become i j A = some A' ∧ But [8, 17, 18, 19, 20] A' A ∧ (∀ q, q ∈ [8, 17, 18, 19, 20] → ∀ e, e ≠ i → A' q e = A q e) ∧ A' 8 i 5 = (z : Int) ∧ ∀ q, q ∈ [17, 18, 19, 20] → ∀ k, k < z → A' q i k = A q j k := by
  unfold f_X6_become
  refine lp0 (F := fun n M x => f_X6_become_L7 (fun (M_7_58 : gM) => some M_7_58) i j n x M) z (fun x M => But [8, 17, 18, 19, 20] M A ∧ (∀ q, q ∈ [8, 17, 18, 19, 20] → ∀ e, e ≠ i → M q e = A q e) ∧ M 8 i 5 = (x : Int) ∧ ∀ q, q ∈ [17, 18, 19, 20] → ∀ k, k < x → M q i k = A q j k) (fun r => ∃ A', r = some A' ∧ But [8, 17, 18, 19, 20] A' A ∧ (∀ q, q ∈ [8, 17, 18, 19, 20] → ∀ e, e ≠ i → A' q e = A q e) ∧ A' 8 i 5 = (z : Int) ∧ ∀ q, q ∈ [17, 18, 19, 20] → ∀ k, k < z → A' q i k = A q j k) (by omega) _ ⟨But_u But_r rfl, fun q hq e he => ?_, gU_s _ _ _ _ _, fun q _ k hk => absurd hk (by omega)⟩ ?_ ?_
  · by_cases q8 : q = 8
    · rw [q8, gU_i he]
    · rw [gU_r q8]
  · intro n x M hx hp
    obtain ⟨p1, p2, p3, p4⟩ := hp
    have q : M 8 j 5 = (z : Int) := by rw [p2 8 (by decide) j hij, hj]
    refine Or.inl ⟨gU (gU (gU (gU (gU M 17 i x (M 17 j x)) 18 i x (M 18 j x)) 19 i x (M 19 j x)) 20 i x (M 20 j x)) 8 i 5 ((x : Int) + 1), ?_, ?_, ?_, ?_, ?_⟩
    · show f_X6_become_L7 _ i j (n + 1) (x : Int) M = _
      rw [f_X6_become_L7, if_pos (by rw [q]; omega), at_in (by omega), at_in (by omega), at_in (by omega), at_in (by omega), wI_s (by omega), app_v (by omega) p3]
    · exact But_u (But_u (But_u (But_u (But_u p1 rfl) rfl) rfl) rfl) rfl
    · intro q hq e he
      rw [← p2 q hq e he]
      simp only [List.mem_cons, List.not_mem_nil, or_false] at hq
      rcases hq with rfl | rfl | rfl | rfl | rfl
      · rw [gU_i he, gU_r (by decide), gU_r (by decide), gU_r (by decide), gU_r (by decide)]
      · rw [gU_r (by decide), gU_r (by decide), gU_r (by decide), gU_r (by decide), gU_i he]
      · rw [gU_r (by decide), gU_r (by decide), gU_r (by decide), gU_i he, gU_r (by decide)]
      · rw [gU_r (by decide), gU_r (by decide), gU_i he, gU_r (by decide), gU_r (by decide)]
      · rw [gU_r (by decide), gU_i he, gU_r (by decide), gU_r (by decide), gU_r (by decide)]
    · rw [gU_s]; rfl
    · intro q hq k hk
      have e1 := fun hq' => p2 q hq' j hij
      have e2 := p4 q hq k
      simp only [List.mem_cons, List.not_mem_nil, or_false] at hq
      by_cases hkx : k = x
      · subst hkx
        rcases hq with rfl | rfl | rfl | rfl
        · rw [gU_r (by decide), gU_r (by decide), gU_r (by decide), gU_r (by decide), gU_s, e1 (by decide)]
        · rw [gU_r (by decide), gU_r (by decide), gU_r (by decide), gU_s, e1 (by decide)]
        · rw [gU_r (by decide), gU_r (by decide), gU_s, e1 (by decide)]
        · rw [gU_r (by decide), gU_s, e1 (by decide)]
      · rw [← e2 (by omega)]
        rcases hq with rfl | rfl | rfl | rfl
        · rw [gU_r (by decide), gU_r (by decide), gU_r (by decide), gU_r (by decide), gU_k hkx]
        · rw [gU_r (by decide), gU_r (by decide), gU_r (by decide), gU_k hkx, gU_r (by decide)]
        · rw [gU_r (by decide), gU_r (by decide), gU_k hkx, gU_r (by decide), gU_r (by decide)]
        · rw [gU_r (by decide), gU_k hkx, gU_r (by decide), gU_r (by decide), gU_r (by decide)]
  · intro n M hp
    obtain ⟨p1, p2, p3, p4⟩ := hp
    have q : M 8 j 5 = (z : Int) := by rw [p2 8 (by decide) j hij, hj]
    refine ⟨M, ?_, p1, p2, p3, p4⟩
    show f_X6_become_L7 _ i j (n + 1) (z : Int) M = _
    rw [f_X6_become_L7, if_neg (by rw [q]; omega)]
theorem layB {B : gM} {p q : Nat} (hp : p < 15) (hq : q < 15) (hne : p ≠ q) : ∃ B', f_X12_lay (p : Int) (q : Int) B = some B' ∧ But [41, 42, 43, 44, 45] B' B ∧ (∀ e, e ≠ q → B' 41 0 e = B 41 0 e) ∧ B' 41 0 q = B 41 0 p ∧ ∀ r, r ∈ [42, 43, 44, 45] → (∀ j, j < 4 * q ∨ 4 * q + 4 ≤ j → B' r 0 j = B r 0 j) ∧ ∀ k, k < 4 → B' r 0 (4 * q + k) = B r 0 (4 * p + k) := by
  unfold f_X12_lay
  rw [og_t (by omega), og_t (by omega), Int.toNat_natCast, Int.toNat_natCast]
  refine lp0 (F := fun n M x => f_X12_lay_L14 (fun (M_14_105 : gM) => some M_14_105) (p : Int) (q : Int) n x M) 4 (fun x M => But [41, 42, 43, 44, 45] M B ∧ (∀ e, e ≠ q → M 41 0 e = B 41 0 e) ∧ M 41 0 q = B 41 0 p ∧ ∀ r, r ∈ [42, 43, 44, 45] → (∀ j, j < 4 * q ∨ 4 * q + 4 ≤ j → M r 0 j = B r 0 j) ∧ ∀ k, k < x → M r 0 (4 * q + k) = B r 0 (4 * p + k)) (fun r => ∃ B', r = some B' ∧ But [41, 42, 43, 44, 45] B' B ∧ (∀ e, e ≠ q → B' 41 0 e = B 41 0 e) ∧ B' 41 0 q = B 41 0 p ∧ ∀ r, r ∈ [42, 43, 44, 45] → (∀ j, j < 4 * q ∨ 4 * q + 4 ≤ j → B' r 0 j = B r 0 j) ∧ ∀ k, k < 4 → B' r 0 (4 * q + k) = B r 0 (4 * p + k)) (by omega) _ ⟨But_u But_r rfl, fun e he => gU_k he, gU_s _ _ _ _ _, fun r hr => ⟨fun j _ => ?_, fun k hk => absurd hk (by omega)⟩⟩ ?_ ?_
  · rw [gU_r (fun e => by rw [e] at hr; revert hr; decide)]
  · intro n x M hx hp
    obtain ⟨p1, p2, p3, p4⟩ := hp
    have ws : wI (wI (4 * (p : Int)) + (x : Int)) = ((4 * p + x : Nat) : Int) := w4 (by omega) (by omega)
    have wd : wI (wI (4 * (q : Int)) + (x : Int)) = ((4 * q + x : Nat) : Int) := w4 (by omega) (by omega)
    have hs : ∀ r, r ∈ [42, 43, 44, 45] → M r 0 (4 * p + x) = B r 0 (4 * p + x) := fun r hr => (p4 r hr).1 _ (by omega)
    refine Or.inl ⟨gU (gU (gU (gU M 42 0 (4 * q + x) (M 42 0 (4 * p + x))) 43 0 (4 * q + x) (M 43 0 (4 * p + x))) 44 0 (4 * q + x) (M 44 0 (4 * p + x))) 45 0 (4 * q + x) (M 45 0 (4 * p + x)), ?_, ?_, ?_, ?_, ?_⟩
    · show f_X12_lay_L14 _ (p : Int) (q : Int) (n + 1) (x : Int) M = _
      rw [f_X12_lay_L14, if_pos (by omega), ws, wd, og_t (by omega), og_t (by omega), og_t (by omega), og_t (by omega), og_t (by omega), og_t (by omega), og_t (by omega), og_t (by omega), Int.toNat_natCast, Int.toNat_natCast, wI_s (by omega)]
      simp (disch := decide) only [gU_r]
    · exact But_u (But_u (But_u (But_u p1 rfl) rfl) rfl) rfl
    · intro e he
      rw [gU_r (by decide), gU_r (by decide), gU_r (by decide), gU_r (by decide)]
      exact p2 e he
    · rw [gU_r (by decide), gU_r (by decide), gU_r (by decide), gU_r (by decide)]
      exact p3
    · intro r hr
      refine ⟨fun j hj => ?_, fun k hk => ?_⟩
      · rw [← (p4 r hr).1 j hj]
        have hne : j ≠ 4 * q + x := by omega
        simp only [List.mem_cons, List.not_mem_nil, or_false] at hr
        rcases hr with rfl | rfl | rfl | rfl
        · rw [gU_r (by decide), gU_r (by decide), gU_r (by decide), gU_k hne]
        · rw [gU_r (by decide), gU_r (by decide), gU_k hne, gU_r (by decide)]
        · rw [gU_r (by decide), gU_k hne, gU_r (by decide), gU_r (by decide)]
        · rw [gU_k hne, gU_r (by decide), gU_r (by decide), gU_r (by decide)]
      · by_cases hkx : k = x
        · subst hkx
          rw [← hs r hr]
          simp only [List.mem_cons, List.not_mem_nil, or_false] at hr
          rcases hr with rfl | rfl | rfl | rfl
          · rw [gU_r (by decide), gU_r (by decide), gU_r (by decide), gU_s]
          · rw [gU_r (by decide), gU_r (by decide), gU_s]
          · rw [gU_r (by decide), gU_s]
          · rw [gU_s]
        · rw [← (p4 r hr).2 k (by omega)]
          have hne : 4 * q + k ≠ 4 * q + x := by omega
          simp only [List.mem_cons, List.not_mem_nil, or_false] at hr
          rcases hr with rfl | rfl | rfl | rfl
          · rw [gU_r (by decide), gU_r (by decide), gU_r (by decide), gU_k hne]
          · rw [gU_r (by decide), gU_r (by decide), gU_k hne, gU_r (by decide)]
          · rw [gU_r (by decide), gU_k hne, gU_r (by decide), gU_r (by decide)]
          · rw [gU_k hne, gU_r (by decide), gU_r (by decide), gU_r (by decide)]
  · intro n M hp
    obtain ⟨p1, p2, p3, p4⟩ := hp
    refine ⟨M, ?_, p1, p2, p3, p4⟩
    show f_X12_lay_L14 _ (p : Int) (q : Int) (n + 1) ((4 : Nat) : Int) M = _
    rw [f_X12_lay_L14, if_neg (by omega)]
/-- a thing is a file or a target that was told -/
def isThg (n : Nat) (v : Int) : Prop := v < 16 ∨ v < 16 + (n : Int)
theorem cThg {A : gM} {n : Nat} (h : A 2 0 5 = (n : Int)) (hn : n ≤ 14) {v : Int} (hv : nmI v) : f_X11_checkThing v A = if v < 16 + (n : Int) then some (Sum.inr ()) else some (Sum.inl 2) := by
  unfold f_X11_checkThing f_X11_isTarget
  by_cases q : v < 16
  · rw [if_pos q, if_pos rfl, if_pos (by omega)]
  · rw [if_neg q, if_neg (by decide), wI_eq (by unfold nmI at hv ⊢; omega), cTar h]
    by_cases q2 : v < 16 + (n : Int)
    · rw [if_pos (by omega), if_pos q2]; rfl
    · rw [if_neg (by omega), if_neg q2]; rfl
theorem isInp {B : gM} {n : Nat} (h : B 29 0 7 = (n : Int)) (hn : n ≤ 14) {v : Int} (hv : nmI v) : f_X12_isInput v B = if v < 16 + (n : Int) then 1 else 0 := by
  unfold f_X12_isInput
  dsimp only [oj]
  by_cases q : v < 16
  · rw [if_pos q, if_pos (by omega)]
  · rw [if_neg q, wI_eq (by unfold nmI at hv ⊢; omega), isT h hn]
    by_cases q2 : v < 16 + (n : Int)
    · rw [if_pos (show 0 ≤ v - 16 ∧ v - 16 < (n : Int) by omega), if_pos q2]; rfl
    · rw [if_neg (show ¬ (0 ≤ v - 16 ∧ v - 16 < (n : Int)) by omega), if_neg q2]; rfl
def okIn (v1 v2 v3 v4 : Int) : Prop := 0 ≤ v1 ∧ -1 ≤ v2 ∧ (v2 = -1 ∧ v3 = 0 ∧ v4 = 0 ∨ v2 ≠ -1 ∧ (0 ≤ v3 ∧ v3 < 4) ∧ 0 ≤ v4 ∧ v4 < 10)
theorem inpC {A : gM} {n : Nat} (hA : A 2 0 5 = (n : Int)) (hn : n ≤ 14) {v1 v2 v3 v4 : Int} (hv1 : nmI v1) (hv2 : nmI v2) (ho : okIn v1 v2 v3 v4) : f_X11_input v1 v2 v3 v4 A = if v1 < 16 + (n : Int) ∧ v2 < 16 + (n : Int) then (if A 8 15 5 < 4 then some (Sum.inr (f_X6_append 15 v1 v2 v3 v4 A)) else some (Sum.inl 3)) else some (Sum.inl 2) := by
  obtain ⟨o1, o2, o3⟩ := ho
  have n1 : ¬ v1 < 0 := by omega
  have n2 : ¬ v2 < -1 := by omega
  have t1 := cThg hA hn hv1
  have t2 := cThg hA hn hv2
  by_cases q1 : v1 < 16 + (n : Int)
  · rw [if_pos q1] at t1
    by_cases q2 : v2 < 16 + (n : Int)
    · rw [if_pos q2] at t2
      rw [if_pos ⟨q1, q2⟩]
      by_cases q3 : A 8 15 5 < 4
      · rcases o3 with ⟨rfl, rfl, rfl⟩ | ⟨o3, o4, o5⟩
        · simp [f_X11_input, oj, cArg, cSta, ob_s, ox_r, n1, n2, t1, t2, q3]
        · simp [f_X11_input, oj, cArg, cSta, ob_s, ox_r, n1, n2, t1, t2, q3, isB, o3, o4, o5]
      · rcases o3 with ⟨rfl, rfl, rfl⟩ | ⟨o3, o4, o5⟩
        · simp [f_X11_input, oj, cArg, cSta, ob_s, ox_r, ox_l, n1, n2, t1, t2, q3]
        · simp [f_X11_input, oj, cArg, cSta, ob_s, ox_r, ox_l, n1, n2, t1, t2, q3, isB, o3, o4, o5]
    · rw [if_neg q2] at t2
      rw [if_neg (fun q => q2 q.2)]
      rcases o3 with ⟨rfl, rfl, rfl⟩ | ⟨o3, o4, o5⟩
      · simp [f_X11_input, oj, cArg, cSta, ob_s, ox_r, ox_l, n1, n2, t1, t2]
      · simp [f_X11_input, oj, cArg, cSta, ob_s, ox_r, ox_l, n1, n2, t1, t2, isB, o3, o4, o5]
  · rw [if_neg q1] at t1
    rw [if_neg (fun q => q1 q.1)]
    rcases o3 with ⟨rfl, rfl, rfl⟩ | ⟨o3, o4, o5⟩
    · simp [f_X11_input, oj, cArg, cSta, ob_s, ox_r, ox_l, n1, n2, t1]
    · simp [f_X11_input, oj, cArg, cSta, ob_s, ox_r, ox_l, n1, n2, t1, isB, o3, o4, o5]
theorem inpC_no {A : gM} {v1 v2 v3 v4 : Int} (ho : ¬ okIn v1 v2 v3 v4) : f_X11_input v1 v2 v3 v4 A = some (Sum.inl 1) := by
  by_cases n1 : v1 < 0
  · simp [f_X11_input, oj, cArg, ob_s, ox_l, n1]
  · by_cases n2 : v2 < -1
    · simp [f_X11_input, oj, cArg, ob_s, ox_l, n1, n2]
    · by_cases n3 : v2 = -1
      · by_cases n4 : v3 = 0
        · by_cases n5 : v4 = 0
          · exact absurd ⟨by omega, by omega, Or.inl ⟨n3, n4, n5⟩⟩ ho
          · simp [f_X11_input, oj, cArg, ob_s, ox_l, ox_r, n1, n3, n4, n5]
        · simp [f_X11_input, oj, cArg, ob_s, ox_l, ox_r, n1, n3, n4]
      · by_cases n4 : 0 ≤ v3 ∧ v3 < 4
        · by_cases n5 : 0 ≤ v4 ∧ v4 < 10
          · exact absurd ⟨by omega, by omega, Or.inr ⟨n3, n4, n5⟩⟩ ho
          · simp [f_X11_input, oj, cArg, ob_s, ox_l, ox_r, n1, n2, n3, isB, n4, n5]
        · simp [f_X11_input, oj, cArg, ob_s, ox_l, ox_r, n1, n2, n3, isB, n4]
theorem inpB_no {B : gM} {v1 v2 v3 v4 : Int} (ho : ¬ okIn v1 v2 v3 v4) : f_X12_input v1 v2 v3 v4 B = some (0, gU B 29 0 0 1) := by
  have g1 : gU B 29 0 0 1 29 0 0 = 1 := gU_s _ _ _ _ _
  by_cases n1 : v1 < 0
  · simp [f_X12_input, oj, n1, g1]
  · by_cases n2 : v2 < -1
    · simp [f_X12_input, oj, n1, n2, g1]
    · by_cases n3 : v2 = -1
      · by_cases n4 : v3 = 0
        · by_cases n5 : v4 = 0
          · exact absurd ⟨by omega, by omega, Or.inl ⟨n3, n4, n5⟩⟩ ho
          · simp [f_X12_input, oj, n1, n3, n4, n5, g1]
        · simp [f_X12_input, oj, n1, n3, n4, g1]
      · by_cases n4 : 0 ≤ v3 ∧ v3 ≤ 3
        · by_cases n5 : 0 ≤ v4 ∧ v4 ≤ 9
          · exact absurd ⟨by omega, by omega, Or.inr ⟨n3, by omega, by omega⟩⟩ ho
          · simp [f_X12_input, oj, n1, n2, n3, inn, n4, n5, g1]
        · simp [f_X12_input, oj, n1, n2, n3, inn, n4, g1]
theorem inpB_2 {B : gM} {n : Nat} (hB : B 29 0 7 = (n : Int)) (hn : n ≤ 14) {v1 v2 v3 v4 : Int} (hv1 : nmI v1) (hv2 : nmI v2) (ho : okIn v1 v2 v3 v4) (hq : ¬ (v1 < 16 + (n : Int) ∧ v2 < 16 + (n : Int))) : f_X12_input v1 v2 v3 v4 B = some (0, gU B 29 0 0 2) := by
  obtain ⟨o1, o2, o3⟩ := ho
  have n1 : ¬ v1 < 0 := by omega
  have n2 : ¬ v2 < -1 := by omega
  have t1 := isInp hB hn hv1
  have t2 := isInp hB hn hv2
  have g1 : gU B 29 0 0 2 29 0 0 = 2 := gU_s _ _ _ _ _
  by_cases q1 : v1 < 16 + (n : Int)
  · have q2 : ¬ v2 < 16 + (n : Int) := fun q => hq ⟨q1, q⟩
    rw [if_pos q1] at t1
    rw [if_neg q2] at t2
    rcases o3 with ⟨rfl, rfl, rfl⟩ | ⟨o3, o4, o5⟩
    · exact absurd (by omega) q2
    · simp [f_X12_input, oj, n1, n2, t1, t2, inn, o3, o4.1, show v3 ≤ 3 by omega, o5.1, show v4 ≤ 9 by omega, g1]
  · rw [if_neg q1] at t1
    rcases o3 with ⟨o3, o4, o5⟩ | ⟨o3, o4, o5⟩
    · simp [f_X12_input, oj, n1, t1, o3, o4, o5, g1]
    · simp [f_X12_input, oj, n1, n2, t1, inn, o3, o4.1, show v3 ≤ 3 by omega, o5.1, show v4 ≤ 9 by omega, g1]
theorem wz56 {z : Nat} (hz : z < 4) : wI (56 + (z : Int)) = ((56 + z : Nat) : Int) ∧ wI ((z : Int) + 1) = (z : Int) + 1 ∧ ¬ ((z : Int) = 4) ∧ ((0 : Int) ≤ ((56 + z : Nat) : Int) ∧ ((56 + z : Nat) : Int) < 60) := by
  refine ⟨?_, ?_, by omega, by omega⟩
  · rw [show (56 + (z : Int)) = ((56 + z : Nat) : Int) by omega, wI_n (by omega)]
  · rw [wI_s (by omega)]; omega
theorem inpB_ok {B : gM} {n z : Nat} (hB : B 29 0 7 = (n : Int)) (hn : n ≤ 14) {v1 v2 v3 v4 : Int} (hv1 : nmI v1) (hv2 : nmI v2) (ho : okIn v1 v2 v3 v4) (hq : v1 < 16 + (n : Int) ∧ v2 < 16 + (n : Int)) (hz : z < 4) (h41 : B 41 0 14 = (z : Int)) : f_X12_input v1 v2 v3 v4 B = some ((z : Int) + 1, gU (gU (gU (gU (gU (gU B 29 0 0 0) 42 0 (56 + z) v1) 43 0 (56 + z) v2) 44 0 (56 + z) v3) 45 0 (56 + z) v4) 41 0 14 ((z : Int) + 1)) := by
  obtain ⟨w1, w2, c4, c0⟩ := wz56 hz
  obtain ⟨o1, o2, o3⟩ := ho
  have n1 : ¬ v1 < 0 := by omega
  have n2 : ¬ v2 < -1 := by omega
  have t1 := isInp hB hn hv1
  have t2 := isInp hB hn hv2
  rw [if_pos hq.1] at t1
  rw [if_pos hq.2] at t2
  have g1 : gU B 29 0 0 0 29 0 0 = 0 := gU_s _ _ _ _ _
  have g2 : gU B 29 0 0 0 41 0 14 = (z : Int) := by rw [gU_r (by decide), h41]
  have main : f_X12_input v1 v2 v3 v4 B = (if 0 < (gU B 29 0 0 0) 29 0 0 then none else some ((z : Int) + 1, gU (gU (gU (gU (gU (gU B 29 0 0 0) 42 0 (56 + z) v1) 43 0 (56 + z) v2) 44 0 (56 + z) v3) 45 0 (56 + z) v4) 41 0 14 ((z : Int) + 1))) := by
    rcases o3 with ⟨o3, o4, o5⟩ | ⟨o3, o4, o5⟩
    · unfold f_X12_input
      dsimp only [oj]
      rw [if_neg n1, if_neg n2, if_pos o3, if_pos o4, if_pos o5, if_neg (show ¬ ((1 : Int) = 0) by decide), t1, if_neg (show ¬ ((1 : Int) = 0) by decide), t2, if_neg (show ¬ ((1 : Int) = 0) by decide), og_t (by decide), h41, if_neg c4, g1, if_neg (by decide), if_neg (by decide), og_t (by decide), g2, w1, og_t c0, og_t c0, og_t c0, og_t c0, og_t (by decide), og_t (by decide), og_t (by decide), Int.toNat_natCast]
      simp (disch := decide) only [gU_r, h41, w2, gU_s]
    · unfold f_X12_input
      dsimp only [oj]
      rw [if_neg n1, if_neg n2, if_neg o3, inn v3 0 3 B, if_pos (show 0 ≤ v3 ∧ v3 ≤ 3 by omega), if_neg (show ¬ ((1 : Int) = 0) by decide), inn v4 0 9 B, if_pos (show 0 ≤ v4 ∧ v4 ≤ 9 by omega), if_neg (show ¬ ((1 : Int) = 0) by decide), if_neg (show ¬ ((1 : Int) = 0) by decide), t1, if_neg (show ¬ ((1 : Int) = 0) by decide), t2, if_neg (show ¬ ((1 : Int) = 0) by decide), og_t (by decide), h41, if_neg c4, g1, if_neg (by decide), if_neg (by decide), og_t (by decide), g2, w1, og_t c0, og_t c0, og_t c0, og_t c0, og_t (by decide), og_t (by decide), og_t (by decide), Int.toNat_natCast]
      simp (disch := decide) only [gU_r, h41, w2, gU_s]
  rw [main, g1, if_neg (by decide)]
theorem inpB_3 {B : gM} {n : Nat} (hB : B 29 0 7 = (n : Int)) (hn : n ≤ 14) {v1 v2 v3 v4 : Int} (hv1 : nmI v1) (hv2 : nmI v2) (ho : okIn v1 v2 v3 v4) (hq : v1 < 16 + (n : Int) ∧ v2 < 16 + (n : Int)) (h41 : B 41 0 14 = 4) : f_X12_input v1 v2 v3 v4 B = some (0, gU B 29 0 0 3) := by
  obtain ⟨o1, o2, o3⟩ := ho
  have n1 : ¬ v1 < 0 := by omega
  have n2 : ¬ v2 < -1 := by omega
  have t1 := isInp hB hn hv1
  have t2 := isInp hB hn hv2
  rw [if_pos hq.1] at t1
  rw [if_pos hq.2] at t2
  have g1 : gU B 29 0 0 3 29 0 0 = 3 := gU_s _ _ _ _ _
  unfold f_X12_input
  dsimp only [oj]
  rcases o3 with ⟨o3, o4, o5⟩ | ⟨o3, o4, o5⟩
  · rw [if_neg n1, if_neg n2, if_pos o3, if_pos o4, if_pos o5, if_neg (show ¬ ((1 : Int) = 0) by decide), t1, if_neg (show ¬ ((1 : Int) = 0) by decide), t2, if_neg (show ¬ ((1 : Int) = 0) by decide), og_t (by decide), h41, if_pos rfl, g1, if_pos (by decide)]
  · rw [if_neg n1, if_neg n2, if_neg o3, inn v3 0 3 B, if_pos (show 0 ≤ v3 ∧ v3 ≤ 3 by omega), if_neg (show ¬ ((1 : Int) = 0) by decide), inn v4 0 9 B, if_pos (show 0 ≤ v4 ∧ v4 ≤ 9 by omega), if_neg (show ¬ ((1 : Int) = 0) by decide), if_neg (show ¬ ((1 : Int) = 0) by decide), t1, if_neg (show ¬ ((1 : Int) = 0) by decide), t2, if_neg (show ¬ ((1 : Int) = 0) by decide), og_t (by decide), h41, if_pos rfl, g1, if_pos (by decide)]
theorem S_input {c : Nat} {v1 v2 : Int} (v3 v4 : Int) (hv1 : nmI v1) (hv2 : nmI v2) : Sim (Rel c) (Rel (c + 1)) (f_L_input v1 v2 v3 v4) (f_X12_input v1 v2 v3 v4) := by
  intro A B h
  have h0 := h
  obtain ⟨n, h1, ⟨hn, hA, hB, ⟨z, hz, r1, r2, r3⟩, t5, t6, t7⟩, h3, h4, h5, h6, h7⟩ := h0
  by_cases ho : okIn v1 v2 v3 v4
  · by_cases hq : v1 < 16 + (n : Int) ∧ v2 < 16 + (n : Int)
    · by_cases hz4 : z < 4
      · have e1 : f_L_input v1 v2 v3 v4 A = some (0, gU (gU (gU (gU (gU (gU A 17 15 z v1) 18 15 z v2) 19 15 z v3) 20 15 z v4) 8 15 5 ((z : Int) + 1)) 75 0 0 ((z : Int) + 1)) := by
          unfold f_L_input
          rw [inpC hA hn hv1 hv2 ho, if_pos hq, if_pos (by rw [r1]; omega), app_v hz4 r1]
          rfl
        have e2 := inpB_ok hB hn hv1 hv2 ho hq hz4 r2
        have fA : But [8, 17, 18, 19, 20] (gU (gU (gU (gU (gU A 17 15 z v1) 18 15 z v2) 19 15 z v3) 20 15 z v4) 8 15 5 ((z : Int) + 1)) A := But_u (But_u (But_u (But_u (But_u But_r rfl) rfl) rfl) rfl) rfl
        have fB : But [29, 41, 42, 43, 44, 45] (gU (gU (gU (gU (gU (gU B 29 0 0 0) 42 0 (56 + z) v1) 43 0 (56 + z) v2) 44 0 (56 + z) v3) 45 0 (56 + z) v4) 41 0 14 ((z : Int) + 1)) B := But_u (But_u (But_u (But_u (But_u (But_u But_r rfl) rfl) rfl) rfl) rfl) rfl
        have b29 : ∀ j, j ≠ 0 → (gU (gU (gU (gU (gU (gU B 29 0 0 0) 42 0 (56 + z) v1) 43 0 (56 + z) v2) 44 0 (56 + z) v3) 45 0 (56 + z) v4) 41 0 14 ((z : Int) + 1)) 29 0 j = B 29 0 j := fun j hj => by
          rw [gU_r (by decide), gU_r (by decide), gU_r (by decide), gU_r (by decide), gU_r (by decide), gU_k hj]
        refine ⟨_, _, _, _, e1, e2, ?_, fun _ => gU_s _ _ _ _ _, Rel_out _ (Rel_up ⟨n, ?_, ?_, ?_, ?_, ?_, ?_, ?_⟩), fun q q1 q2 => ?_, But_m fB rfl⟩
        · rw [gU_r (by decide), gU_r (by decide), gU_r (by decide), gU_r (by decide), gU_r (by decide), gU_s]
        · exact RS_c h1 (fun q hq => by rw [But_l fA rfl q hq]) (by rw [But_q fA rfl]) (But_l fB rfl) (b29 4 (by decide))
        · have b42 : ∀ k, gU (gU (gU (gU (gU (gU B 29 0 0 0) 42 0 (56 + z) v1) 43 0 (56 + z) v2) 44 0 (56 + z) v3) 45 0 (56 + z) v4) 41 0 14 ((z : Int) + 1) 42 0 k = if k = 56 + z then v1 else B 42 0 k := fun k => by
            rw [gU_r (by decide), gU_r (by decide), gU_r (by decide), gU_r (by decide), gU_same, gU_r (by decide)]; rfl
          have b43 : ∀ k, gU (gU (gU (gU (gU (gU B 29 0 0 0) 42 0 (56 + z) v1) 43 0 (56 + z) v2) 44 0 (56 + z) v3) 45 0 (56 + z) v4) 41 0 14 ((z : Int) + 1) 43 0 k = if k = 56 + z then v2 else B 43 0 k := fun k => by
            rw [gU_r (by decide), gU_r (by decide), gU_r (by decide), gU_same, gU_r (by decide), gU_r (by decide)]; rfl
          have b44 : ∀ k, gU (gU (gU (gU (gU (gU B 29 0 0 0) 42 0 (56 + z) v1) 43 0 (56 + z) v2) 44 0 (56 + z) v3) 45 0 (56 + z) v4) 41 0 14 ((z : Int) + 1) 44 0 k = if k = 56 + z then v3 else B 44 0 k := fun k => by
            rw [gU_r (by decide), gU_r (by decide), gU_same, gU_r (by decide), gU_r (by decide), gU_r (by decide)]; rfl
          have b45 : ∀ k, gU (gU (gU (gU (gU (gU B 29 0 0 0) 42 0 (56 + z) v1) 43 0 (56 + z) v2) 44 0 (56 + z) v3) 45 0 (56 + z) v4) 41 0 14 ((z : Int) + 1) 45 0 k = if k = 56 + z then v4 else B 45 0 k := fun k => by
            rw [gU_r (by decide), gU_same, gU_r (by decide), gU_r (by decide), gU_r (by decide), gU_r (by decide)]; rfl
          have b41 : ∀ k, gU (gU (gU (gU (gU (gU B 29 0 0 0) 42 0 (56 + z) v1) 43 0 (56 + z) v2) 44 0 (56 + z) v3) 45 0 (56 + z) v4) 41 0 14 ((z : Int) + 1) 41 0 k = if k = 14 then (z : Int) + 1 else B 41 0 k := fun k => by
            rw [gU_same, gU_r (by decide), gU_r (by decide), gU_r (by decide), gU_r (by decide), gU_r (by decide)]; rfl
          have a17 : ∀ i k, gU (gU (gU (gU (gU A 17 15 z v1) 18 15 z v2) 19 15 z v3) 20 15 z v4) 8 15 5 ((z : Int) + 1) 17 i k = if i = 15 ∧ k = z then v1 else A 17 i k := fun i k => by
            rw [gU_r (by decide), gU_r (by decide), gU_r (by decide), gU_r (by decide)]; unfold gU; simp
          have a18 : ∀ i k, gU (gU (gU (gU (gU A 17 15 z v1) 18 15 z v2) 19 15 z v3) 20 15 z v4) 8 15 5 ((z : Int) + 1) 18 i k = if i = 15 ∧ k = z then v2 else A 18 i k := fun i k => by
            rw [gU_r (by decide), gU_r (by decide), gU_r (by decide)]; unfold gU; simp
          have a19 : ∀ i k, gU (gU (gU (gU (gU A 17 15 z v1) 18 15 z v2) 19 15 z v3) 20 15 z v4) 8 15 5 ((z : Int) + 1) 19 i k = if i = 15 ∧ k = z then v3 else A 19 i k := fun i k => by
            rw [gU_r (by decide), gU_r (by decide)]; unfold gU; simp
          have a20 : ∀ i k, gU (gU (gU (gU (gU A 17 15 z v1) 18 15 z v2) 19 15 z v3) 20 15 z v4) 8 15 5 ((z : Int) + 1) 20 i k = if i = 15 ∧ k = z then v4 else A 20 i k := fun i k => by
            rw [gU_r (by decide)]; unfold gU; simp
          have a8 : ∀ i, gU (gU (gU (gU (gU A 17 15 z v1) 18 15 z v2) 19 15 z v3) 20 15 z v4) 8 15 5 ((z : Int) + 1) 8 i 5 = if i = 15 then (z : Int) + 1 else A 8 i 5 := fun i => by
            unfold gU; simp
          have oR : 0 ≤ v3 ∧ v3 ≤ 3 := by obtain ⟨-, -, o⟩ := ho; omega
          have oS : 0 ≤ v4 ∧ v4 ≤ 9 := by obtain ⟨-, -, o⟩ := ho; omega
          obtain ⟨o1, o2, -⟩ := ho
          refine ⟨hn, by rw [But_q fA rfl, hA], by rw [b29 7 (by decide), hB], ⟨z + 1, by omega, by rw [a8, if_pos rfl]; rfl, by rw [b41, if_pos rfl]; rfl, fun k hk => ?_⟩, fun t ht => by rw [But_q fA rfl, t5 t ht], fun t => ?_, fun t ht => ⟨?_, ?_⟩⟩
          · rw [a17, a18, a19, a20, b42, b43, b44, b45]
            by_cases hkz : k = z
            · subst hkz
              simp only [and_self, if_true, show 4 * 14 + k = 56 + k by omega]
              exact ⟨trivial, trivial, trivial, trivial, ⟨o1, hq.1⟩, ⟨o2, hq.2⟩, oR, oS⟩
            · have hne : ¬ (4 * 14 + k = 56 + z) := by omega
              simp only [hkz, and_false, if_false, if_neg hne]
              exact r3 k (by omega)
          · rw [But_q fA rfl, But_q fB rfl, But_q fB rfl, But_q fB rfl, But_q fB rfl, But_q fB rfl, But_q fB rfl]
            exact t6 t
          · have ht15 : ¬ t = 15 := by omega
            refine RI_c (t7 t ht).1 (by rw [a8, if_neg ht15]) (fun q hq => ?_) (by rw [b41, if_neg (by omega)]) (fun q hq k hk => ?_)
            · simp only [List.mem_cons, List.not_mem_nil, or_false] at hq
              rcases hq with rfl | rfl | rfl | rfl
              · funext k; rw [a17, if_neg (fun q => ht15 q.1)]
              · funext k; rw [a18, if_neg (fun q => ht15 q.1)]
              · funext k; rw [a19, if_neg (fun q => ht15 q.1)]
              · funext k; rw [a20, if_neg (fun q => ht15 q.1)]
            · have hne : ¬ (4 * t + k = 56 + z) := by omega
              simp only [List.mem_cons, List.not_mem_nil, or_false] at hq
              rcases hq with rfl | rfl | rfl | rfl
              · rw [b42, if_neg hne]
              · rw [b43, if_neg hne]
              · rw [b44, if_neg hne]
              · rw [b45, if_neg hne]
          · exact RD_c (t7 t ht).2 (fun q hq => by rw [But_l fB (K := [35, 36, 37, 38, 39, 40]) rfl q hq])
        · exact RC_c h3 (But_q fA rfl) (But_q fA rfl) (But_l fB rfl) (b29 21 (by decide))
        · exact RO_c h4 (by rw [But_q fA rfl]) (by rw [But_q fA rfl]) (But_q fA rfl) (by rw [But_q fA rfl]) (b29 19 (by decide)) (b29 20 (by decide)) (b29 49 (by decide)) (But_q fB rfl)
        · exact RW_c h5 (But_q fA rfl) (But_l fB rfl) (b29 37 (by decide))
        · exact RB_c h6 (But_q fA rfl) (by rw [But_q fA rfl]) (by rw [But_q fA rfl]) (by rw [But_q fA rfl]) (by rw [But_q fA rfl]) (fun t k _ => by rw [But_q fA rfl]) (by rw [But_q fA rfl]) (But_l fB rfl) (b29 37 (by decide)) (b29 36 (by decide)) (b29 43 (by decide)) (b29 48 (by decide))
        · refine RG_i h7 (fun t u ht => ?_) (b29 36 (by decide)) (b29 37 (by decide)) (But_q fB rfl) (But_q fB rfl) (But_q fB rfl)
          obtain ⟨⟨y, y1, y2, y3, y4⟩, -⟩ := t7 t ht
          refine isI_c y3 y1 (by rw [gU_same, gU_r (by decide), gU_r (by decide), gU_r (by decide), gU_r (by decide), gU_r (by decide)]; exact if_neg (by omega)) (But_q fB rfl) (fun q hq k hk => ?_)
          have hne : 4 * t + k ≠ 56 + z := by omega
          simp only [List.mem_cons, List.not_mem_nil, or_false] at hq
          rcases hq with rfl | rfl | rfl | rfl
          · rw [gU_r (by decide), gU_r (by decide), gU_r (by decide), gU_r (by decide), gU_k hne, gU_r (by decide)]
          · rw [gU_r (by decide), gU_r (by decide), gU_r (by decide), gU_k hne, gU_r (by decide), gU_r (by decide)]
          · rw [gU_r (by decide), gU_r (by decide), gU_k hne, gU_r (by decide), gU_r (by decide), gU_r (by decide)]
          · rw [gU_r (by decide), gU_k hne, gU_r (by decide), gU_r (by decide), gU_r (by decide), gU_r (by decide)]
        · rw [gU_r q2]
          exact But_c fA rfl q q1 q2
      · have z4 : z = 4 := by omega
        subst z4
        have e1 : f_L_input v1 v2 v3 v4 A = some (3, A) := by
          unfold f_L_input
          rw [inpC hA hn hv1 hv2 ho, if_pos hq, if_neg (by rw [r1]; decide)]
          rfl
        exact ⟨_, _, _, _, e1, inpB_3 hB hn hv1 hv2 ho hq r2, gU_s _ _ _ _ _, fun q => absurd q (by decide), Rel_thr _ (Rel_up h), fun q _ _ => rfl, fun q hq => gU_r (by omega)⟩
    · have e1 : f_L_input v1 v2 v3 v4 A = some (2, A) := by
        unfold f_L_input
        rw [inpC hA hn hv1 hv2 ho, if_neg hq]
        rfl
      exact ⟨_, _, _, _, e1, inpB_2 hB hn hv1 hv2 ho hq, gU_s _ _ _ _ _, fun q => absurd q (by decide), Rel_thr _ (Rel_up h), fun q _ _ => rfl, fun q hq => gU_r (by omega)⟩
  · have e1 : f_L_input v1 v2 v3 v4 A = some (1, A) := by
      unfold f_L_input
      rw [inpC_no ho]
      rfl
    exact ⟨_, _, _, _, e1, inpB_no ho, gU_s _ _ _ _ _, fun q => absurd q (by decide), Rel_thr _ (Rel_up h), fun q _ _ => rfl, fun q hq => gU_r (by omega)⟩
