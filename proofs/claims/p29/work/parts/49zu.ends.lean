/-! ### whoever has no tick left ends -/
theorem SJ_01 {A B : gM} {n c : Nat} (h : SJ 0 A B n c) (hb : ∀ x, x < 4 → B 54 0 x = -1 ∨ 1 ≤ B 55 0 x) : SJ 1 A B n c := by
  obtain ⟨h1, h2, h3, h4, ⟨i1, i2, i3⟩, h6, g1', g2, g4⟩ := h
  refine ⟨h1, h2, h3, h4, ⟨i1, fun w hw => ?_, i3⟩, h6, g1', g2, g4⟩
  rcases i2 w hw with q | ⟨t, s, q⟩
  · exact Or.inl q
  · rcases hb w hw with y | y
    · exact Or.inl y
    · obtain ⟨e1, e2, e3, e4, e5, -, e7⟩ := q
      exact Or.inr ⟨t, s, e1, e2, e3, e4, e5, y, e7⟩
theorem endsL {n c : Nat} {k : Int → gM → Option gM} {k' : gM → Option gM} (hc : c ≤ 600) : ∀ (d i n1 n2 : Nat) (A B : gM) (f : Int), i + d = 4 → d < n1 → d < n2 → SJ 0 A B n c → B 29 0 36 = 1 → (∀ x, x < i → B 54 0 x = -1 ∨ 1 ≤ B 55 0 x) → ∃ (A' B' : gM) (f' : Int), f_X2_passTick_L59 k 4 n1 f (i : Int) A = k f' A' ∧ f_X12_builds_L186 k' n2 (i : Int) B = k' B' ∧ SJ 1 A' B' n c ∧ B' 29 0 36 = 1 ∧ B' 29 0 48 = B 29 0 48 ∧ B' 65 = B 65 ∧ But [3, 7, 9, 10, 11, 23, 24] A' A ∧ But [29, 46, 47, 48, 49, 50, 51, 52, 54, 59, 60, 61, 62, 63, 64, 66, 67, 68] B' B ∧ B' 29 0 0 = B 29 0 0 ∧ (f' = 1 ∨ (f' = f ∧ A' = A ∧ B' = B)) := by
  intro d
  induction d with
  | zero =>
    intro i n1 n2 A B f hi h1 h2 hJ hg hb
    obtain ⟨m1, rfl⟩ : ∃ m, n1 = m + 1 := ⟨n1 - 1, by omega⟩
    obtain ⟨m2, rfl⟩ : ∃ m, n2 = m + 1 := ⟨n2 - 1, by omega⟩
    have i4 : i = 4 := by omega
    subst i4
    refine ⟨A, B, f, ?_, ?_, SJ_01 hJ hb, hg, rfl, rfl, But_r, But_r, rfl, Or.inr ⟨rfl, rfl, rfl⟩⟩
    · rw [f_X2_passTick_L59, if_neg (by decide)]
    · rw [f_X12_builds_L186, if_neg (by decide)]
  | succ d ih =>
    intro i n1 n2 A B f hi h1 h2 hJ hg hb
    obtain ⟨m1, rfl⟩ : ∃ m, n1 = m + 1 := ⟨n1 - 1, by omega⟩
    obtain ⟨m2, rfl⟩ : ∃ m, n2 = m + 1 := ⟨n2 - 1, by omega⟩
    have hi4 : i < 4 := by omega
    have j1 : (i + 1) + d = 4 := by omega
    have j2 : d < m1 := by omega
    have j3 : d < m2 := by omega
    have g4 : (0 : Int) ≤ (i : Int) ∧ (i : Int) < 4 := by omega
    have w1 : wI ((i : Int) + 1) = ((i + 1 : Nat) : Int) := wI_s (by omega)
    obtain ⟨-, -, -, -, ⟨i1, i2, -⟩, -⟩ := id hJ
    have e3 : A 11 i 3 = B 54 0 i := (i1.1 i).2.2.1
    have e6 : A 11 i 6 = B 55 0 i := (i1.1 i).2.2.2.2.2.1
    have cl : f_X2_passTick_L59 k 4 (m1 + 1) f (i : Int) A = if f_X10_hasEnded i A = 0 then f_X2_passTick_L59 k 4 m1 f ((i + 1 : Nat) : Int) A else ob (f_X2_end i A) fun r82 => f_X2_passTick_L59 k 4 m1 1 ((i + 1 : Nat) : Int) r82 := by
      rw [f_X2_passTick_L59, if_pos g4.2, og_t g4, Int.toNat_natCast, w1]
      rfl
    have rf : f_X12_builds_L186 k' (m2 + 1) (i : Int) B = if B 54 0 i = -1 then f_X12_builds_L186 k' m2 ((i + 1 : Nat) : Int) B else if B 55 0 i = 0 then ob (f_X12_ends (i : Int) B) fun r212 => f_X12_builds_L186 k' m2 ((i + 1 : Nat) : Int) r212 else f_X12_builds_L186 k' m2 ((i + 1 : Nat) : Int) B := by
      rw [f_X12_builds_L186, if_pos g4.2, og_t g4, Int.toNat_natCast, w1]
      dsimp only [oj]
      rw [og_t g4]
    have skip : f_X10_hasEnded i A = 0 → f_X12_builds_L186 k' (m2 + 1) (i : Int) B = f_X12_builds_L186 k' m2 ((i + 1 : Nat) : Int) B → (B 54 0 i = -1 ∨ 1 ≤ B 55 0 i) → ∃ (A' B' : gM) (f' : Int), f_X2_passTick_L59 k 4 (m1 + 1) f (i : Int) A = k f' A' ∧ f_X12_builds_L186 k' (m2 + 1) (i : Int) B = k' B' ∧ SJ 1 A' B' n c ∧ B' 29 0 36 = 1 ∧ B' 29 0 48 = B 29 0 48 ∧ B' 65 = B 65 ∧ But [3, 7, 9, 10, 11, 23, 24] A' A ∧ But [29, 46, 47, 48, 49, 50, 51, 52, 54, 59, 60, 61, 62, 63, 64, 66, 67, 68] B' B ∧ B' 29 0 0 = B 29 0 0 ∧ (f' = 1 ∨ (f' = f ∧ A' = A ∧ B' = B)) := fun q1 q2 q3 => by
      obtain ⟨A', B', f', x1, x2, x3⟩ := ih (i + 1) m1 m2 A B f j1 j2 j3 hJ hg (fun x hx => by
        by_cases e : x = i
        · rw [e]; exact q3
        · exact hb x (lt_ne hx e))
      exact ⟨A', B', f', by rw [cl, if_pos q1]; exact x1, q2.trans x2, x3⟩
    rcases i2 i hi4 with q | ⟨t, s, q⟩
    · refine skip ?_ (by rw [rf, if_pos q]) (Or.inl q)
      unfold f_X10_hasEnded
      dsimp only [oj]
      rw [e3, q]
      rfl
    · obtain ⟨e54, hs, -, -, -, l1, l2, -⟩ := id q
      have n1 : ¬ B 54 0 i = -1 := by rw [e54]; omega
      have ga : gAct (A 11 i 3) = some (4 * t + s) := (gAct_iff _ _).mpr (e3.trans e54)
      have he : f_X10_hasEnded i A = if 0 < B 55 0 i then 0 else 1 := by
        unfold f_X10_hasEnded
        dsimp only [oj]
        rw [ga, om_some, e6]
      by_cases z : B 55 0 i = 0
      · obtain ⟨A1, B1, x1, x2, x3, x4, x5, x6, x7, x8, xa, xb, xc⟩ := endCM hJ hi4 q hg hc
        obtain ⟨A', B', f', y1, y2, y3, y4, y5, y7, ya, yb, yc, y6⟩ := ih (i + 1) m1 m2 A1 B1 1 j1 j2 j3 x3 x6 (fun x hx => by
          rw [x5, x4]
          by_cases e : x < 4 ∧ B 54 0 x = ((4 * t + s : Nat) : Int)
          · rw [if_pos e]; exact Or.inl rfl
          · rw [if_neg e]
            by_cases e' : x = i
            · exact absurd ⟨by rw [e']; exact hi4, by rw [e']; exact e54⟩ e
            · exact hb x (lt_ne hx e'))
        refine ⟨A', B', f', ?_, ?_, y3, y4, y5.trans x7, y7.trans x8, But_t xa ya, But_t xb yb, yc.trans xc, Or.inl (y6.elim id (fun v => v.1))⟩
        · have he1 : f_X10_hasEnded i A = 1 := by rw [he, z]; rfl
          rw [cl, he1, if_neg ne10, x1, ob_s]
          exact y1
        · rw [rf, if_neg n1, if_pos z, x2, ob_s]
          exact y2
      · have z1 : 0 < B 55 0 i := by omega
        exact skip (by rw [he, if_pos z1]) (by rw [rf, if_neg n1, if_neg z]) (Or.inr z1)
