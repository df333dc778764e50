/-! ### keep -/
def alk (B : gM) (key file con r w : Int) (e : Nat) : Prop := B 46 0 e = key ∧ B 47 0 e = file ∧ B 48 0 e = con ∧ B 49 0 e = r ∧ B 50 0 e = w ∧ B 52 0 e = 0
theorem haC {A B : gM} {z f : Nat} {key file con r w : Int} (hz : z ≤ 40) (hf : f < 40) (h1 : A 3 0 1 = (f : Int)) (h2 : A 3 0 2 = (z : Int)) (hE : ∀ e, e < z → RE A B ((f + e) % 40) e) : (f_X1_hasAlike key file con r w A = some 1 ∧ ∃ e, e < z ∧ alk B key file con r w e) ∨ (f_X1_hasAlike key file con r w A = some 0 ∧ ∀ e, e < z → ¬ alk B key file con r w e) := by
  have hz64 : z < 64 := by omega
  unfold f_X1_hasAlike
  refine lp0 (F := fun n (_ : Unit) i => f_X1_hasAlike_L3 (some 0) key file con r w A n i) z (fun i _ => ∀ e, e < i → ¬ alk B key file con r w e) (fun q => (q = some 1 ∧ ∃ e, e < z ∧ alk B key file con r w e) ∨ (q = some 0 ∧ ∀ e, e < z → ¬ alk B key file con r w e)) hz64 () (fun e q => absurd q (Nat.not_lt_zero _)) (fun m i _ hi hp => ?_) (fun m _ hp => Or.inr ⟨?_, hp⟩)
  · have hat := eAt h1 h2 hf hz hi
    have hiz : (i : Int) < (z : Int) := by omega
    have w1 : wI ((i : Int) + 1) = ((i + 1 : Nat) : Int) := wI_s (by omega)
    have hEi := hE i hi
    obtain ⟨-, -, -, q4, q5, -⟩ := id hEi
    have step : f_X1_hasAlike_L3 (some 0) key file con r w A (m + 1) (i : Int) = if f_X3_isOf ((f + i) % 40) key file con A = 0 then f_X1_hasAlike_L3 (some 0) key file con r w A m ((i + 1 : Nat) : Int) else if B 49 0 i = r then (if B 50 0 i = w then some 1 else f_X1_hasAlike_L3 (some 0) key file con r w A m ((i + 1 : Nat) : Int)) else f_X1_hasAlike_L3 (some 0) key file con r w A m ((i + 1 : Nat) : Int) := by
      rw [f_X1_hasAlike_L3, h2, if_pos hiz, hat, ob_s]
      dsimp only [oj, om]
      rw [w1, q4, q5]
    have no : ¬ alk B key file con r w i → f_X1_hasAlike_L3 (some 0) key file con r w A (m + 1) (i : Int) = f_X1_hasAlike_L3 (some 0) key file con r w A m ((i + 1 : Nat) : Int) → (∃ x' : Unit, f_X1_hasAlike_L3 (some 0) key file con r w A (m + 1) (i : Int) = f_X1_hasAlike_L3 (some 0) key file con r w A m ((i + 1 : Nat) : Int) ∧ ∀ e, e < i + 1 → ¬ alk B key file con r w e) := fun q1 q2 => ⟨(), q2, fun e he => by
      by_cases z : e = i
      · rw [z]; exact q1
      · exact hp e (lt_ne he z)⟩
    rcases ofC (key := key) (file := file) (con := con) hEi with ⟨a1, a2⟩ | ⟨a1, a2⟩
    · exact Or.inl (no (fun q => a2 ⟨q.1, q.2.2.2.2.2, q.2.1, q.2.2.1⟩) (by rw [step, if_pos a1]))
    · by_cases b1 : B 49 0 i = r
      · by_cases b2 : B 50 0 i = w
        · exact Or.inr (Or.inl ⟨(show f_X1_hasAlike_L3 (some 0) key file con r w A (m + 1) (i : Int) = _ by rw [step, if_neg (by rw [a1]; exact ne10), if_pos b1, if_pos b2]), i, hi, a2.1, a2.2.2.1, a2.2.2.2, b1, b2, a2.2.1⟩)
        · exact Or.inl (no (fun q => b2 q.2.2.2.2.1) (by rw [step, if_neg (by rw [a1]; exact ne10), if_pos b1, if_neg b2]))
      · exact Or.inl (no (fun q => b1 q.2.2.2.1) (by rw [step, if_neg (by rw [a1]; exact ne10), if_neg b1]))
  · show f_X1_hasAlike_L3 (some 0) key file con r w A (m + 1) (z : Int) = _
    rw [f_X1_hasAlike_L3, h2, if_neg (Int.lt_irrefl _)]
theorem haM {B : gM} {z : Nat} {key file con r w : Int} {K : Option gM} (hz : z ≤ 40) (h2 : B 29 0 21 = (z : Int)) : (f_X12_keep_L3 K key file con r w B 64 0 = some B ∧ ∃ e, e < z ∧ alk B key file con r w e) ∨ (f_X12_keep_L3 K key file con r w B 64 0 = K ∧ ∀ e, e < z → ¬ alk B key file con r w e) := by
  have hz64 : z < 64 := by omega
  refine lp0 (F := fun n (_ : Unit) i => f_X12_keep_L3 K key file con r w B n i) z (fun i _ => ∀ e, e < i → ¬ alk B key file con r w e) (fun q => (q = some B ∧ ∃ e, e < z ∧ alk B key file con r w e) ∨ (q = K ∧ ∀ e, e < z → ¬ alk B key file con r w e)) hz64 () (fun e q => absurd q (Nat.not_lt_zero _)) (fun m i _ hi hp => ?_) (fun m _ hp => Or.inr ⟨?_, hp⟩)
  · have hiz : (i : Int) < (z : Int) := by omega
    have g : (0 : Int) ≤ (i : Int) ∧ (i : Int) < 40 := by omega
    have w1 : wI ((i : Int) + 1) = ((i + 1 : Nat) : Int) := wI_s (by omega)
    have step : f_X12_keep_L3 K key file con r w B (m + 1) (i : Int) = if B 46 0 i = key then (if B 47 0 i = file then (if B 48 0 i = con then (if B 49 0 i = r then (if B 50 0 i = w then (if B 52 0 i = 0 then some B else f_X12_keep_L3 K key file con r w B m ((i + 1 : Nat) : Int)) else f_X12_keep_L3 K key file con r w B m ((i + 1 : Nat) : Int)) else f_X12_keep_L3 K key file con r w B m ((i + 1 : Nat) : Int)) else f_X12_keep_L3 K key file con r w B m ((i + 1 : Nat) : Int)) else f_X12_keep_L3 K key file con r w B m ((i + 1 : Nat) : Int)) else f_X12_keep_L3 K key file con r w B m ((i + 1 : Nat) : Int) := by
      rw [f_X12_keep_L3, h2, if_pos hiz, og_t g]
      dsimp only [oj]
      rw [Int.toNat_natCast, og_t g, og_t g, og_t g, og_t g, og_t g, w1]
    have no : ¬ alk B key file con r w i → f_X12_keep_L3 K key file con r w B (m + 1) (i : Int) = f_X12_keep_L3 K key file con r w B m ((i + 1 : Nat) : Int) → (∃ x' : Unit, f_X12_keep_L3 K key file con r w B (m + 1) (i : Int) = f_X12_keep_L3 K key file con r w B m ((i + 1 : Nat) : Int) ∧ ∀ e, e < i + 1 → ¬ alk B key file con r w e) := fun q1 q2 => ⟨(), q2, fun e he => by
      by_cases z : e = i
      · rw [z]; exact q1
      · exact hp e (lt_ne he z)⟩
    by_cases c1 : B 46 0 i = key
    · by_cases c2 : B 47 0 i = file
      · by_cases c3 : B 48 0 i = con
        · by_cases c4 : B 49 0 i = r
          · by_cases c5 : B 50 0 i = w
            · by_cases c6 : B 52 0 i = 0
              · exact Or.inr (Or.inl ⟨(show f_X12_keep_L3 K key file con r w B (m + 1) (i : Int) = _ by rw [step, if_pos c1, if_pos c2, if_pos c3, if_pos c4, if_pos c5, if_pos c6]), i, hi, c1, c2, c3, c4, c5, c6⟩)
              · exact Or.inl (no (fun q => c6 q.2.2.2.2.2) (by rw [step, if_pos c1, if_pos c2, if_pos c3, if_pos c4, if_pos c5, if_neg c6]))
            · exact Or.inl (no (fun q => c5 q.2.2.2.2.1) (by rw [step, if_pos c1, if_pos c2, if_pos c3, if_pos c4, if_neg c5]))
          · exact Or.inl (no (fun q => c4 q.2.2.2.1) (by rw [step, if_pos c1, if_pos c2, if_pos c3, if_neg c4]))
        · exact Or.inl (no (fun q => c3 q.2.2.1) (by rw [step, if_pos c1, if_pos c2, if_neg c3]))
      · exact Or.inl (no (fun q => c2 q.2.1) (by rw [step, if_pos c1, if_neg c2]))
    · exact Or.inl (no (fun q => c1 q.1) (by rw [step, if_neg c1]))
  · show f_X12_keep_L3 K key file con r w B (m + 1) (z : Int) = _
    rw [f_X12_keep_L3, h2, if_neg (Int.lt_irrefl _)]
/-- seven rows, one place -/
def rw7 (B : gM) (e : Nat) (v0 v1 v2 v3 v4 v5 v6 : Int) : gM := gU (gU (gU (gU (gU (gU (gU B 46 0 e v0) 47 0 e v1) 48 0 e v2) 49 0 e v3) 50 0 e v4) 51 0 e v5) 52 0 e v6
theorem rw7_o {B : gM} {e : Nat} {v0 v1 v2 v3 v4 v5 v6 : Int} : But [46, 47, 48, 49, 50, 51, 52] (rw7 B e v0 v1 v2 v3 v4 v5 v6) B := But_u (But_u (But_u (But_u (But_u (But_u (But_u But_r rfl) rfl) rfl) rfl) rfl) rfl) rfl
theorem rw7_c {B : gM} {e : Nat} {v0 v1 v2 v3 v4 v5 v6 : Int} : (∀ x, rw7 B e v0 v1 v2 v3 v4 v5 v6 46 0 x = if x = e then v0 else B 46 0 x) ∧ (∀ x, rw7 B e v0 v1 v2 v3 v4 v5 v6 47 0 x = if x = e then v1 else B 47 0 x) ∧ (∀ x, rw7 B e v0 v1 v2 v3 v4 v5 v6 48 0 x = if x = e then v2 else B 48 0 x) ∧ (∀ x, rw7 B e v0 v1 v2 v3 v4 v5 v6 49 0 x = if x = e then v3 else B 49 0 x) ∧ (∀ x, rw7 B e v0 v1 v2 v3 v4 v5 v6 50 0 x = if x = e then v4 else B 50 0 x) ∧ (∀ x, rw7 B e v0 v1 v2 v3 v4 v5 v6 51 0 x = if x = e then v5 else B 51 0 x) ∧ ∀ x, rw7 B e v0 v1 v2 v3 v4 v5 v6 52 0 x = if x = e then v6 else B 52 0 x := by
  unfold rw7
  refine ⟨fun x => ?_, fun x => ?_, fun x => ?_, fun x => ?_, fun x => ?_, fun x => ?_, fun x => ?_⟩
  · rw [gU_r (by decide), gU_r (by decide), gU_r (by decide), gU_r (by decide), gU_r (by decide), gU_r (by decide), gU_same]; rfl
  · rw [gU_r (by decide), gU_r (by decide), gU_r (by decide), gU_r (by decide), gU_r (by decide), gU_same, gU_r (by decide)]; rfl
  · rw [gU_r (by decide), gU_r (by decide), gU_r (by decide), gU_r (by decide), gU_same, gU_r (by decide), gU_r (by decide)]; rfl
  · rw [gU_r (by decide), gU_r (by decide), gU_r (by decide), gU_same, gU_r (by decide), gU_r (by decide), gU_r (by decide)]; rfl
  · rw [gU_r (by decide), gU_r (by decide), gU_same, gU_r (by decide), gU_r (by decide), gU_r (by decide), gU_r (by decide)]; rfl
  · rw [gU_r (by decide), gU_same, gU_r (by decide), gU_r (by decide), gU_r (by decide), gU_r (by decide), gU_r (by decide)]; rfl
  · rw [gU_same, gU_r (by decide), gU_r (by decide), gU_r (by decide), gU_r (by decide), gU_r (by decide), gU_r (by decide)]; rfl
theorem shM {B : gM} {k : gM → Option gM} {v1 v2 v3 v4 v5 : Int} (h2 : B 29 0 21 = 39) : ∃ B' : gM, f_X12_keep_L108 k v1 v2 v3 v4 v5 64 0 B = k B' ∧ But [46, 47, 48, 49, 50, 51, 52] B' B ∧ ∀ q, q ∈ [46, 47, 48, 49, 50, 51, 52] → ∀ e, B' q 0 e = if e < 39 then B q 0 (e + 1) else B q 0 e := by
  refine lp0 (F := fun n x i => f_X12_keep_L108 k v1 v2 v3 v4 v5 n i x) 39 (fun i x => But [46, 47, 48, 49, 50, 51, 52] x B ∧ ∀ q, q ∈ [46, 47, 48, 49, 50, 51, 52] → ∀ e, x q 0 e = if e < i then B q 0 (e + 1) else B q 0 e) (fun r => ∃ B' : gM, r = k B' ∧ But [46, 47, 48, 49, 50, 51, 52] B' B ∧ ∀ q, q ∈ [46, 47, 48, 49, 50, 51, 52] → ∀ e, B' q 0 e = if e < 39 then B q 0 (e + 1) else B q 0 e) (by decide) B ⟨But_r, fun q _ e => by rw [if_neg (Nat.not_lt_zero _)]⟩ (fun m i x hi hp => Or.inl ?_) (fun m x hp => ⟨x, ?_, hp⟩)
  · obtain ⟨p1, p2⟩ := hp
    have g1 : (0 : Int) ≤ ((i + 1 : Nat) : Int) ∧ ((i + 1 : Nat) : Int) < 40 := by omega
    have g0 : (0 : Int) ≤ (i : Int) ∧ (i : Int) < 40 := by omega
    have hlt : (i : Int) < 39 := by omega
    have w1 : wI ((i : Int) + 1) = ((i + 1 : Nat) : Int) := wI_s (by omega)
    have x21 : x 29 0 21 = 39 := by rw [But_q p1 rfl, h2]
    obtain ⟨c0, c1, c2, c3, c4, c5, c6⟩ := rw7_c (B := x) (e := i) (v0 := x 46 0 (i + 1)) (v1 := x 47 0 (i + 1)) (v2 := x 48 0 (i + 1)) (v3 := x 49 0 (i + 1)) (v4 := x 50 0 (i + 1)) (v5 := x 51 0 (i + 1)) (v6 := x 52 0 (i + 1))
    have key : ∀ q, q ∈ [46, 47, 48, 49, 50, 51, 52] → ∀ e, (if e = i then x q 0 (i + 1) else x q 0 e) = if e < i + 1 then B q 0 (e + 1) else B q 0 e := fun q hq e => by
      by_cases z : e = i
      · rw [if_pos z, p2 q hq, if_neg (Nat.not_lt.mpr (Nat.le_succ i)), z, if_pos (Nat.lt_succ_self i)]
      · rw [if_neg z, p2 q hq]
        by_cases y : e < i
        · rw [if_pos y, if_pos (Nat.lt_succ_of_lt y)]
        · rw [if_neg y, if_neg (fun t => y (lt_ne t z))]
    refine ⟨rw7 x i (x 46 0 (i + 1)) (x 47 0 (i + 1)) (x 48 0 (i + 1)) (x 49 0 (i + 1)) (x 50 0 (i + 1)) (x 51 0 (i + 1)) (x 52 0 (i + 1)), ?_, But_t p1 rw7_o, fun q hq e => ?_⟩
    · show f_X12_keep_L108 k v1 v2 v3 v4 v5 (m + 1) (i : Int) x = _
      rw [f_X12_keep_L108, x21, if_pos hlt, w1, og_t g1, og_t g0, og_t g1, og_t g0, og_t g1, og_t g0, og_t g1, og_t g0, og_t g1, og_t g0, og_t g1, og_t g0, og_t g1, og_t g0, Int.toNat_natCast, Int.toNat_natCast]
      unfold rw7
      simp (maxSteps := 1000000) (disch := decide) only [gU_r]
    · rw [← key q hq e]
      simp only [List.mem_cons, List.not_mem_nil, or_false] at hq
      rcases hq with rfl | rfl | rfl | rfl | rfl | rfl | rfl
      · exact c0 e
      · exact c1 e
      · exact c2 e
      · exact c3 e
      · exact c4 e
      · exact c5 e
      · exact c6 e
  · show f_X12_keep_L108 k v1 v2 v3 v4 v5 (m + 1) ((39 : Nat) : Int) x = _
    rw [f_X12_keep_L108, But_q hp.1 rfl, h2, if_neg (by decide)]
def sg3 (key r w : Int) : Int := pls (pls (pls 7 key) r) (wI (wI (17 * w) + 5))
theorem kpK {B : gM} {z : Nat} {key file con r w : Int} {K : gM → Option gM} {R : gM → Nat → Option gM} (hz : z ≤ 40) (h2 : B 29 0 21 = (z : Int)) (hK : ∀ (M : gM) (l : Nat), l < 40 → M 29 0 21 = (l : Int) → K M = R M l) : ∃ (M : gM) (l : Nat), (oj K fun k235 => if B 29 0 21 = 40 then (f_X12_keep_L108 (fun (M_108_235 : gM) => k235 M_108_235) key file con r w 64 0 (gU B 29 0 21 (wI ((B 29 0 21) - 1)))) else (k235 B)) = R M l ∧ l = (if z = 40 then 39 else z) ∧ But [29, 46, 47, 48, 49, 50, 51, 52] M B ∧ (∀ j, j ≠ 21 → M 29 0 j = B 29 0 j) ∧ ∀ q, q ∈ [46, 47, 48, 49, 50, 51, 52] → ∀ e, M q 0 e = if z = 40 ∧ e < 39 then B q 0 (e + 1) else B q 0 e := by
  dsimp only [oj]
  by_cases e40 : z = 40
  · have h40 : B 29 0 21 = 40 := by rw [h2, e40]; rfl
    have w9 : wI ((40 : Int) - 1) = 39 := rfl
    rw [if_pos h40, h40, w9]
    obtain ⟨M, m1, m2, m3⟩ := shM (B := gU B 29 0 21 39) (v1 := key) (v2 := file) (v3 := con) (v4 := r) (v5 := w) (k := K) (gU_s _ _ _ _ _)
    refine ⟨M, 39, Eq.trans m1 (hK M 39 (by decide) (by rw [But_q m2 rfl, gU_s]; rfl)), (if_pos e40).symm, But_t (But_u But_r rfl) (But_w m2 rfl), fun j hj => by rw [But_q m2 rfl, gU_k hj], fun q hq e => ?_⟩
    have n29 : q ≠ 29 := fun z => by rw [z] at hq; exact absurd hq (by decide)
    rw [m3 q hq e, gU_r n29]
    by_cases he : e < 39
    · rw [if_pos he, if_pos ⟨e40, he⟩]
    · rw [if_neg he, if_neg (fun t => he t.2)]
  · have n40 : ¬ B 29 0 21 = 40 := by rw [h2]; intro q; exact e40 (Int.ofNat_inj.mp q)
    rw [if_neg n40]
    exact ⟨B, z, hK B z (Nat.lt_of_le_of_ne hz e40) h2, (if_neg e40).symm, But_r, fun _ _ => rfl, fun q _ e => by rw [if_neg (fun t => e40 t.1)]⟩
/-- the reference keeps -/
theorem kpM {B : gM} {z : Nat} {key file con r w : Int} (hz : z ≤ 40) (h2 : B 29 0 21 = (z : Int)) : (f_X12_keep key file con r w B = some B ∧ ∃ e, e < z ∧ alk B key file con r w e) ∨ ((∀ e, e < z → ¬ alk B key file con r w e) ∧ ∃ (M : gM) (l : Nat), f_X12_keep key file con r w B = some (gU (rw7 M l key file con r w (sg3 key r w) 0) 29 0 21 ((l : Int) + 1)) ∧ l = (if z = 40 then 39 else z) ∧ But [29, 46, 47, 48, 49, 50, 51, 52] M B ∧ (∀ j, j ≠ 21 → M 29 0 j = B 29 0 j) ∧ ∀ q, q ∈ [46, 47, 48, 49, 50, 51, 52] → ∀ e, M q 0 e = if z = 40 ∧ e < 39 then B q 0 (e + 1) else B q 0 e) := by
  unfold f_X12_keep
  by_cases q : ∃ e, e < z ∧ alk B key file con r w e
  · refine Or.inl ⟨?_, q⟩
    rcases haM (key := key) (file := file) (con := con) (r := r) (w := w) hz h2 with ⟨q1, -⟩ | ⟨-, q2⟩
    · exact q1
    · obtain ⟨e, e1, e2⟩ := q
      exact absurd e2 (q2 e e1)
  · refine Or.inr ⟨fun e h1 h2 => q ⟨e, h1, h2⟩, ?_⟩
    rcases haM (key := key) (file := file) (con := con) (r := r) (w := w) hz h2 with ⟨-, e, e1, e2⟩ | ⟨q1, -⟩
    · exact absurd ⟨e, e1, e2⟩ q
    · rw [q1]
      refine kpK (R := fun M l => some (gU (rw7 M l key file con r w (sg3 key r w) 0) 29 0 21 ((l : Int) + 1))) hz h2 (fun M l hl hM => ?_)
      have g : (0 : Int) ≤ (l : Int) ∧ (l : Int) < 40 := by omega
      have w1 : wI ((l : Int) + 1) = (l : Int) + 1 := by rw [wI_s (by omega)]; rfl
      unfold rw7
      simp (maxSteps := 1000000) (disch := decide) only [gU_r]
      rw [hM, og_t g, og_t g, og_t g, og_t g, og_t g, og_t g, og_t g, Int.toNat_natCast, w1]
      rfl
