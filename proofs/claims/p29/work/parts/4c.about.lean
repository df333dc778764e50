/-! ### about -/
theorem frN {A B M0 : gM} {n : Nat} (hS : RS A B) (hT : RT A B n) (hM : OKB M0 B) : ∃ (M2 : gM) (C : Nat → Int), f_X12_freshenNow M0 = some M2 ∧ OKB M2 M0 ∧ M2 29 = M0 29 ∧ (∀ j, j < 16 → C j = B 30 0 j) ∧ isD B C (M2 71 0) n ∧ (∀ t, t < n → M2 72 0 t = 0 ∨ M2 72 0 t = 1) ∧ isG B C (M2 71 0) (fun u => M2 72 0 u = 1) n ∧ ∀ t s : Nat, t < n → (s : Int) < B 38 0 t → M2 70 0 (4 * t + s) = frE B C (M2 71 0) t s := by
  obtain ⟨M1, f1, f2, f3⟩ := filN (B := B) (M0 := M0) (But_q hM.1 rfl)
  have fM : OKB M1 M0 := ⟨But_w f2 rfl, fun j _ _ => by rw [But_q f2 rfl]⟩
  have fMB := OKB_t hM fM
  obtain ⟨M2, e1, e2, e3, e4, e5, e6⟩ := freshM hS hT (Td_OKB fMB) (fMB.2 7 (by decide) (by decide)) (fun k hk => by rw [f3 k hk]; exact hS.2.2.2.2.2.2.1 k)
  have f2' : OKB M2 M1 := ⟨But_w e2 rfl, fun j _ _ => by rw [But_q e2 rfl]⟩
  exact ⟨M2, M1 69 0, f1.trans e1, OKB_t fM f2', by rw [But_q e2 rfl, But_q f2 rfl], f3, e3, e4, e5, e6⟩
theorem mkN {A B : gM} {n z : Nat} (hS : RS A B) (hT : RT A B n) (hz : A 1 0 5 = (z : Int)) (hz3 : z ≤ 30) : ∃ (A2 : gM) (g : Nat), f_X4_make (A 1 0 5) A = some A2 ∧ OKA A2 A ∧ A2 0 = A 0 ∧ (∀ j, j < 16 → A2 12 1 j = B 30 0 j) ∧ isD B (A2 12 1) (A2 23 1) n ∧ A2 5 0 3 = (g : Int) ∧ g < 16384 ∧ isG B (A2 12 1) (A2 23 1) (fun u => g.testBit u = true) n := by
  obtain ⟨A2, g, e1, e2, e3, e4, e5, e6, e7, e8, e9⟩ := makeC hS hT hz hz3 (Nat.le_refl z)
  refine ⟨A2, g, by rw [hz]; exact e1, OKA_mk e2 e3 e4, But_q e2 rfl, fun j hj => ?_, e6, e7, e8, e9⟩
  rw [e5 j hj, Nat.sub_self]
  rfl
theorem bit01 {g t : Nat} {A : gM} (hg : g < 16384) (ht : t < 14) : f_X11_bitOf (g : Int) (t : Int) A = if g.testBit t = true then 1 else 0 := by
  have g31 := lt14_31 hg
  have t31 : t < 31 := Nat.lt_trans ht (by decide)
  unfold f_X11_bitOf
  by_cases e : g.testBit t = true
  · rw [if_pos e, (bit_1 g31 t31).mpr e]
  · rw [if_neg e, (bit_0 g31 t31).mpr (Bool.eq_false_iff.mpr e)]
/-- whether a shard has another result than from nothing -/
theorem staC {A A2 B : gM} {n c t : Nat} (hS : RS A B) (hT : RT A B n) (hRB : RB A B n c) (ht : t < n) (hA : OKA A2 A) (hC0 : ∀ k, k < 16 → 0 ≤ A2 12 1 k ∧ A2 12 1 k ≤ 999) (hD0 : ∀ u, isI B t u → 0 ≤ A2 23 1 u ∧ A2 23 1 u ≤ 100002) : (f_X4_isStale_L22 (some (0, A2)) t A2 64 0 = some (1, A2) ∧ ∃ s : Nat, (s : Int) < B 38 0 t ∧ B 61 0 (4 * t + s) ≠ frE B (A2 12 1) (A2 23 1) t s) ∨ (f_X4_isStale_L22 (some (0, A2)) t A2 64 0 = some (0, A2) ∧ ∀ s : Nat, (s : Int) < B 38 0 t → B 61 0 (4 * t + s) = frE B (A2 12 1) (A2 23 1) t s) := by
  obtain ⟨z, z1, z2, z3, z4⟩ := shT hT ht
  have hz : z < 64 := by omega
  have hS2 := RSa hS hA
  have hT2 := RTa hT hA
  have e7 : A2 7 t 6 = (z : Int) := by rw [But_q hA.1 rfl]; exact z3
  refine lp0 (F := fun m (_ : Unit) i => f_X4_isStale_L22 (some (0, A2)) t A2 m i) z (fun i _ => ∀ s : Nat, s < i → B 61 0 (4 * t + s) = frE B (A2 12 1) (A2 23 1) t s) (fun r => (r = some (1, A2) ∧ ∃ s : Nat, (s : Int) < B 38 0 t ∧ B 61 0 (4 * t + s) ≠ frE B (A2 12 1) (A2 23 1) t s) ∨ (r = some (0, A2) ∧ ∀ s : Nat, (s : Int) < B 38 0 t → B 61 0 (4 * t + s) = frE B (A2 12 1) (A2 23 1) t s)) hz () (fun s q => absurd q (Nat.not_lt_zero _)) (fun m i _ hi hp => ?_) (fun m _ hp => Or.inr ⟨?_, fun s hs => hp s (by rw [z4] at hs; exact Int.ofNat_lt.mp hs)⟩)
  · have hi4 : i < 4 := Nat.lt_of_lt_of_le hi z2
    have hiz : (i : Int) < (z : Int) := Int.ofNat_lt.mpr hi
    have w1 : wI ((i : Int) + 1) = ((i + 1 : Nat) : Int) := wI_s (by omega)
    have hk := keyS_in hS hT ht hi4 hC0 hD0
    have e93 : A2 9 (4 * t + i) 3 = B 61 0 (4 * t + i) := by rw [But_q hA.1 rfl]; exact (hRB.2.2.2.2.2.2.1 (4 * t + i)).1
    have step : f_X4_isStale_L22 (some (0, A2)) t A2 (m + 1) (i : Int) = if B 61 0 (4 * t + i) = frE B (A2 12 1) (A2 23 1) t i then f_X4_isStale_L22 (some (0, A2)) t A2 m ((i + 1 : Nat) : Int) else some (1, A2) := by
      rw [f_X4_isStale_L22, e7, if_pos hiz, keyC hS2 hT2 ht, ob_s, aAt hi4, e93, resC hT2 hk hC0, w1]
      rfl
    by_cases e : B 61 0 (4 * t + i) = frE B (A2 12 1) (A2 23 1) t i
    · refine Or.inl ⟨(), by show f_X4_isStale_L22 (some (0, A2)) t A2 (m + 1) (i : Int) = _; rw [step, if_pos e], fun s hs => ?_⟩
      by_cases q : s = i
      · rw [q]; exact e
      · exact hp s (lt_ne hs q)
    · exact Or.inr (Or.inl ⟨by show f_X4_isStale_L22 (some (0, A2)) t A2 (m + 1) (i : Int) = _; rw [step, if_neg e], i, by rw [z4]; exact hiz, e⟩)
  · show f_X4_isStale_L22 (some (0, A2)) t A2 (m + 1) (z : Int) = _
    rw [f_X4_isStale_L22, e7, if_neg (Int.lt_irrefl _)]
theorem staM {A M : gM} {n t : Nat} {k : Int → Option (Int × gM)} (hT : RT A M n) (ht : t < n) : ∃ x : Int, f_X12_isStale_L8 k (t : Int) M 64 0 0 = k x ∧ (x = 0 ∨ x = 1) ∧ (x = 1 ↔ ∃ s : Nat, (s : Int) < M 38 0 t ∧ M 61 0 (4 * t + s) ≠ M 70 0 (4 * t + s)) := by
  obtain ⟨z, z1, z2, z3, z4⟩ := shT hT ht
  have hz : z < 64 := by omega
  have h14 : t < 14 := Nat.lt_of_lt_of_le ht hT.1
  have g14 : (0 : Int) ≤ (t : Int) ∧ (t : Int) < 14 := by omega
  have main : ∃ x : Int, f_X12_isStale_L8 k (t : Int) M 64 0 0 = k x ∧ (x = 0 ∨ x = 1) ∧ (x = 1 ↔ ∃ s : Nat, s < z ∧ M 61 0 (4 * t + s) ≠ M 70 0 (4 * t + s)) := by
    refine lp0 (F := fun m (x : Int) i => f_X12_isStale_L8 k (t : Int) M m x i) z (fun i x => (x = 0 ∨ x = 1) ∧ (x = 1 ↔ ∃ s : Nat, s < i ∧ M 61 0 (4 * t + s) ≠ M 70 0 (4 * t + s))) (fun r => ∃ x : Int, r = k x ∧ (x = 0 ∨ x = 1) ∧ (x = 1 ↔ ∃ s : Nat, s < z ∧ M 61 0 (4 * t + s) ≠ M 70 0 (4 * t + s))) hz 0 ⟨Or.inl rfl, fun q => absurd q ne01, fun ⟨s, q, _⟩ => absurd q (Nat.not_lt_zero _)⟩ (fun m i x hi hp => Or.inl ?_) (fun m x hp => ⟨x, ?_, hp⟩)
    · have hi4 : i < 4 := Nat.lt_of_lt_of_le hi z2
      have g56 : (0 : Int) ≤ ((4 * t + i : Nat) : Int) ∧ ((4 * t + i : Nat) : Int) < 56 := by omega
      have w : wI (wI (4 * (t : Int)) + (i : Int)) = ((4 * t + i : Nat) : Int) := w4 (Nat.lt_trans h14 (by decide)) (Nat.lt_trans hi4 (by decide))
      have w1 : wI ((i : Int) + 1) = ((i + 1 : Nat) : Int) := wad1 (Nat.le_trans (Nat.le_of_lt hi4) (by decide))
      obtain ⟨r1, r2⟩ := gOr01 hp.1 (show (if M 61 0 (4 * t + i) = M 70 0 (4 * t + i) then (0 : Int) else 1) = 0 ∨ (if M 61 0 (4 * t + i) = M 70 0 (4 * t + i) then (0 : Int) else 1) = 1 by
        by_cases q : M 61 0 (4 * t + i) = M 70 0 (4 * t + i)
        · rw [if_pos q]; exact Or.inl rfl
        · rw [if_neg q]; exact Or.inr rfl)
      refine ⟨_, ?_, r1, ?_⟩
      · show f_X12_isStale_L8 k (t : Int) M (m + 1) x (i : Int) = _
        rw [f_X12_isStale_L8, og_t g14, Int.toNat_natCast, z4, if_pos (Int.ofNat_lt.mpr hi), w, og_t g56, og_t g56]
        dsimp only [oj]
        rw [Int.toNat_natCast, w1]
        by_cases q : M 61 0 (4 * t + i) = M 70 0 (4 * t + i)
        · rw [if_pos q, if_pos q]
        · rw [if_neg q, if_neg q]
      · rw [r2, hp.2, ex_s1 (s := i)]
        by_cases q : M 61 0 (4 * t + i) = M 70 0 (4 * t + i)
        · rw [if_pos q]; exact ⟨fun y => y.elim Or.inl (fun y => absurd y ne01), fun y => y.elim Or.inl (fun y => absurd q y)⟩
        · rw [if_neg q]; exact ⟨fun y => y.elim Or.inl (fun _ => Or.inr q), fun y => y.elim Or.inl (fun _ => Or.inr rfl)⟩
    · show f_X12_isStale_L8 k (t : Int) M (m + 1) x (z : Int) = _
      rw [f_X12_isStale_L8, og_t g14, Int.toNat_natCast, z4, if_neg (Int.lt_irrefl _)]
  obtain ⟨x, x1, x2, x3⟩ := main
  refine ⟨x, x1, x2, x3.trans ?_⟩
  rw [z4]
  exact ⟨fun ⟨s, a, b⟩ => ⟨s, Int.ofNat_lt.mpr a, b⟩, fun ⟨s, a, b⟩ => ⟨s, Int.ofNat_lt.mp a, b⟩⟩
/-- what a question about a target answers, on both sides: the same, and all that holds holds on -/
def AbQ (c : Nat) (A B : gM) (fa : Option (Int × gM)) (fb : Option (Int × gM)) : Prop := ∃ (r : Int) (A' B' : gM), fa = some (r, A') ∧ fb = some (r, B') ∧ Rel c A' B' ∧ (∀ q, 29 ≤ q → q ≠ 75 → A' q = A q) ∧ (∀ q, q < 29 ∨ q = 75 → B' q = B q) ∧ B' 29 0 0 = B 29 0 0
theorem ab_0 {A B : gM} {n c t : Nat} (h : Rel c A B) (hS : RS A B) (hT : RT A B n) (hRB : RB A B n c) (ht : t < n) (h6 : A 0 0 6 = B 29 0 49) : AbQ c A B (ob (f_X5_soundTargets A) fun r64 => some (f_X11_bitOf r64 (t : Int) A, A)) (ob (f_X12_freshenNow B) fun r44 => ob (f_X12_isSound (t : Int) 0 r44) fun r66 => if r66 = 0 then some (0, r44) else some (1, r44)) := by
  have t14 : t < 14 := Nat.lt_of_lt_of_le ht hT.1
  obtain ⟨g, s1, s2, s3⟩ := stC hS hT hRB
  obtain ⟨M2, C, e1, e2, e3, -⟩ := frN hS hT OKB_r
  obtain ⟨k1, k2, -⟩ := OKB_p hS hT hRB e2
  obtain ⟨x, x1, x2, x3⟩ := isM (y := 0) k1 k2 ht
  have hx : x = 1 ↔ g.testBit t = true := by
    rw [x3, s3 t ht]
    exact AS_t (Td_OKB e2) (by rw [e3]) (But_q e2.1 rfl) (But_q e2.1 rfl)
  refine ⟨if g.testBit t = true then 1 else 0, A, M2, by rw [s1, ob_s, bit01 s2 t14], ?_, Rel_OK h OKA_r e2 (by rw [e3]; exact h6), fun _ _ _ => rfl, OKB_fr e2, by rw [e3]⟩
  rw [e1, ob_s, x1, ob_s]
  rcases x2 with q | q
  · rw [if_pos q, if_neg (fun y => ne01 (q.symm.trans (hx.mpr y)))]
  · rw [if_neg (fun y => ne10 (q.symm.trans y)), if_pos (hx.mp q)]
theorem ab_1 {A B : gM} {n c t : Nat} (h : Rel c A B) (hS : RS A B) (hT : RT A B n) (hRB : RB A B n c) (ht : t < n) (h6 : A 0 0 6 = B 29 0 49) : AbQ c A B (ob (f_X4_isStale t A) fun r77 => if r77.1 = 0 then some (0, r77.2) else some (1, r77.2)) (ob (f_X12_freshenNow B) fun r44 => ob (f_X12_isStale (t : Int) r44) fun r79 => if r79.1 = 0 then some (0, r79.2) else some (1, r79.2)) := by
  have t14 : t < 14 := Nat.lt_of_lt_of_le ht hT.1
  obtain ⟨z, hz3, hz, hzB⟩ := hS.1
  obtain ⟨A2, g, a1, a2, a3, a4, a5, -⟩ := mkN hS hT hz hz3
  obtain ⟨M1, C1, e1, e2, e3, -⟩ := frN hS hT OKB_r
  obtain ⟨M2, C, f1, f2, f3, f4, f5, -, -, f6⟩ := frN hS hT e2
  have f2B := OKB_t e2 f2
  have q29 : M2 29 = B 29 := f3.trans e3
  obtain ⟨k1, k2, -⟩ := OKB_p hS hT hRB f2B
  have hC0 : ∀ k, k < 16 → 0 ≤ A2 12 1 k ∧ A2 12 1 k ≤ 999 := fun k hk => by rw [a4 k hk]; exact hS.2.2.2.2.2.2.1 k
  have hin := isD_in hS hT (Nat.le_refl n) hC0 a5
  have hD0 : ∀ u, isI B t u → 0 ≤ A2 23 1 u ∧ A2 23 1 u ≤ 100002 := fun u hu => hin u (Nat.lt_trans (isI_lt hS hT ht hu) ht)
  have hCC : ∀ k, k < 16 → A2 12 1 k = C k := fun k hk => (a4 k hk).trans (f4 k hk).symm
  have hDD := isD_eq hS hT (Nat.le_refl n) hCC hC0 a5 f5
  have hfr : ∀ s : Nat, (s : Int) < B 38 0 t → frE B (A2 12 1) (A2 23 1) t s = M2 70 0 (4 * t + s) := fun s hs => by
    have := sh4 hT t ht
    rw [f6 t s ht hs]
    exact frE_c hS hT ht (by omega) hCC hC0 (fun u hu => hDD u (Nat.lt_trans (isI_lt hS hT ht hu) ht)) hD0
  have m61 : M2 61 = B 61 := But_q f2B.1 rfl
  have m38 : M2 38 = B 38 := But_q f2B.1 rfl
  obtain ⟨d, d1, d2, d3⟩ := idM k2 ht
  have hdn : dnP M2 n 1 t ↔ dnP B n 1 t := by
    unfold dnP ndd aOK
    rw [q29, show M2 60 = B 60 from But_q f2B.1 rfl, show M2 64 = B 64 from But_q f2B.1 rfl, m38]
  obtain ⟨x, x1, x2, x3⟩ := staM (k := fun (y2_8_55 : Int) => if y2_8_55 = 0 then (some ((0, M2))) else (ob (f_X12_isDone (t : Int) M2) fun r61 => if r61 = 0 then (some ((0, M2))) else (some ((1, M2))))) k2 ht
  rw [m61, m38] at x3
  have rf : ∀ v : Int, (v = 0 ∨ v = 1) → (v = 1 ↔ x = 1 ∧ d = 1) → (ob (f_X12_freshenNow B) fun r44 => ob (f_X12_isStale (t : Int) r44) fun r79 => if r79.1 = 0 then some (0, r79.2) else some (1, r79.2)) = some (v, M2) := fun v hv hvi => by
    have st : f_X12_isStale (t : Int) M1 = some (v, M2) := by
      unfold f_X12_isStale
      rw [f1, ob_s, x1]
      rcases x2 with q | q
      · rw [if_pos q, hv.resolve_right (fun y => ne01 (q.symm.trans (hvi.mp y).1))]
      · rw [if_neg (fun y => ne10 (q.symm.trans y)), d1, ob_s]
        rcases d2 with w | w
        · rw [if_pos w, hv.resolve_right (fun y => ne01 (w.symm.trans (hvi.mp y).2))]
        · rw [if_neg (fun y => ne10 (w.symm.trans y)), hvi.mpr ⟨q, w⟩]
    rw [e1, ob_s, st, ob_s]
    rcases hv with q | q
    · rw [q]; exact if_pos rfl
    · rw [q]; exact if_neg ne10
  have fin : ∀ (v : Int) (A' : gM), (v = 0 ∨ v = 1) → f_X4_isStale t A = some (v, A') → OKA A' A → A' 0 = A 0 → (v = 1 ↔ x = 1 ∧ d = 1) → AbQ c A B (ob (f_X4_isStale t A) fun r77 => if r77.1 = 0 then some (0, r77.2) else some (1, r77.2)) (ob (f_X12_freshenNow B) fun r44 => ob (f_X12_isStale (t : Int) r44) fun r79 => if r79.1 = 0 then some (0, r79.2) else some (1, r79.2)) := fun v A' hv q1 q2 q3 q4 => by
    refine ⟨v, A', M2, ?_, rf v hv q4, Rel_OK h q2 f2B (by rw [q29, q3]; exact h6), fun q y1 y2 => But_c q2.1 rfl q y1 y2, OKB_fr f2B, by rw [q29]⟩
    rw [q1, ob_s]
    rcases hv with q | q
    · rw [q]; exact if_pos rfl
    · rw [q]; exact if_neg ne10
  rcases adC hT hRB ht with ⟨q1, q2⟩ | ⟨q1, q2⟩
  · have hd1 : d = 1 := d3.mpr (hdn.mpr q2)
    rcases staC hS hT hRB ht a2 hC0 hD0 with ⟨r1, s, r2, r3⟩ | ⟨r1, r2⟩
    · refine fin 1 A2 (Or.inr rfl) ?_ a2 a3 ⟨fun _ => ⟨x3.mpr ⟨s, r2, by rw [← hfr s r2]; exact r3⟩, hd1⟩, fun _ => rfl⟩
      unfold f_X4_isStale
      rw [q1, ob_s, if_neg ne10, a1, ob_s, r1]
    · refine fin 0 A2 (Or.inl rfl) ?_ a2 a3 ⟨fun y => absurd y ne01, fun y => ?_⟩
      · unfold f_X4_isStale
        rw [q1, ob_s, if_neg ne10, a1, ob_s, r1]
      · obtain ⟨s, y1, y2⟩ := x3.mp y.1
        exact absurd ((r2 s y1).trans (hfr s y1)) y2
  · refine fin 0 A (Or.inl rfl) ?_ OKA_r rfl ⟨fun y => absurd y ne01, fun y => absurd (hdn.mp (d3.mp y.2)) q2⟩
    unfold f_X4_isStale
    rw [q1, ob_s, if_pos rfl]
theorem ab_2 {A B : gM} {n c t : Nat} (h : Rel c A B) (hS : RS A B) (hT : RT A B n) (hRB : RB A B n c) (ht : t < n) (h6 : A 0 0 6 = B 29 0 49) : AbQ c A B (if f_X8_isInQuarantine t A = 0 then some (0, A) else some (1, A)) (ob (f_X12_freshenNow B) fun r44 => og ((0 : Int) ≤ (t : Int) ∧ ((t : Int) : Int) < 14) <| if r44 66 0 (t : Int).toNat < 2 then some (0, r44) else some (1, r44)) := by
  have t14 : t < 14 := Nat.lt_of_lt_of_le ht hT.1
  have g14 : (0 : Int) ≤ (t : Int) ∧ (t : Int) < 14 := by omega
  obtain ⟨M2, C, e1, e2, e3, -⟩ := frN hS hT OKB_r
  have m66 : M2 66 = B 66 := But_q e2.1 rfl
  have r3 : A 7 t 11 = B 66 0 t := (hRB.2.2.2.2.2.2.2.2.1 t t14).2.2.1
  refine ⟨if B 66 0 t < 2 then 0 else 1, A, M2, ?_, ?_, Rel_OK h OKA_r e2 (by rw [e3]; exact h6), fun _ _ _ => rfl, OKB_fr e2, by rw [e3]⟩
  · unfold f_X8_isInQuarantine
    rw [r3]
    by_cases q : B 66 0 t < 2
    · have nq : ¬ 1 < B 66 0 t := by omega
      rw [if_neg nq, if_pos rfl, if_pos q]
    · have nq : 1 < B 66 0 t := by omega
      rw [if_pos nq, if_neg ne10, if_neg q]
  · rw [e1, ob_s, og_t g14, Int.toNat_natCast, m66]
    by_cases q : B 66 0 t < 2
    · rw [if_pos q, if_pos q]
    · rw [if_neg q, if_neg q]
theorem ab_3 {A B : gM} {n c t : Nat} (h : Rel c A B) (hS : RS A B) (hT : RT A B n) (ht : t < n) (h6 : A 0 0 6 = B 29 0 49) : AbQ c A B (ob (f_X4_goodTargets (A 1 0 5) A) fun r113 => some (f_X11_bitOf r113.1 (t : Int) r113.2, r113.2)) (ob (f_X12_freshenNow B) fun r44 => og ((0 : Int) ≤ (t : Int) ∧ ((t : Int) : Int) < 14) <| if r44 72 0 (t : Int).toNat = 0 then some (0, r44) else some (1, r44)) := by
  have t14 : t < 14 := Nat.lt_of_lt_of_le ht hT.1
  have g14 : (0 : Int) ≤ (t : Int) ∧ (t : Int) < 14 := by omega
  obtain ⟨z, hz3, hz, hzB⟩ := hS.1
  obtain ⟨A2, g, a1, a2, a3, a4, a5, a6, a7, a8⟩ := mkN hS hT hz hz3
  obtain ⟨M2, C, e1, e2, e3, e4, e5, e6, e7, -⟩ := frN hS hT OKB_r
  have hC0 : ∀ k, k < 16 → 0 ≤ A2 12 1 k ∧ A2 12 1 k ≤ 999 := fun k hk => by rw [a4 k hk]; exact hS.2.2.2.2.2.2.1 k
  have hCC : ∀ k, k < 16 → A2 12 1 k = C k := fun k hk => (a4 k hk).trans (e4 k hk).symm
  have eq := isG_eq hS hT hCC hC0 a5 e5 a8 e7 t ht
  refine ⟨if g.testBit t = true then 1 else 0, A2, M2, ?_, ?_, Rel_OK h a2 e2 (by rw [e3, a3]; exact h6), fun q y1 y2 => But_c a2.1 rfl q y1 y2, OKB_fr e2, by rw [e3]⟩
  · unfold f_X4_goodTargets
    rw [a1, ob_s, ob_s]
    dsimp only
    rw [a6, bit01 a7 t14]
  · rw [e1, ob_s, og_t g14, Int.toNat_natCast]
    rcases e6 t ht with q | q
    · rw [if_pos q, if_neg (fun y => ne01 (q.symm.trans (eq.mp y)))]
    · rw [if_neg (fun y => ne10 (q.symm.trans y)), if_pos (eq.mpr q)]
theorem ab_4 {A B : gM} {n c t : Nat} (h : Rel c A B) (hS : RS A B) (hT : RT A B n) (ht : t < n) (h6 : A 0 0 6 = B 29 0 49) : AbQ c A B (ob (f_X4_digestOf t A) fun r126 => some (r126.1, r126.2)) (ob (f_X12_freshenNow B) fun r44 => og ((0 : Int) ≤ (t : Int) ∧ ((t : Int) : Int) < 14) <| some (r44 71 0 (t : Int).toNat, r44)) := by
  have t14 : t < 14 := Nat.lt_of_lt_of_le ht hT.1
  have g14 : (0 : Int) ≤ (t : Int) ∧ (t : Int) < 14 := by omega
  obtain ⟨z, hz3, hz, hzB⟩ := hS.1
  obtain ⟨A2, g, a1, a2, a3, a4, a5, a6, a7, a8⟩ := mkN hS hT hz hz3
  obtain ⟨M2, C, e1, e2, e3, e4, e5, e6, e7, -⟩ := frN hS hT OKB_r
  have hC0 : ∀ k, k < 16 → 0 ≤ A2 12 1 k ∧ A2 12 1 k ≤ 999 := fun k hk => by rw [a4 k hk]; exact hS.2.2.2.2.2.2.1 k
  have hCC : ∀ k, k < 16 → A2 12 1 k = C k := fun k hk => (a4 k hk).trans (e4 k hk).symm
  have eq := isD_eq hS hT (Nat.le_refl n) hCC hC0 a5 e5 t ht
  have e70 : A2 7 t 0 = (t : Int) := by rw [But_q a2.1 rfl]; exact hT.2.2.2.2.1 t t14
  refine ⟨M2 71 0 t, A2, M2, ?_, ?_, Rel_OK h a2 e2 (by rw [e3, a3]; exact h6), fun q y1 y2 => But_c a2.1 rfl q y1 y2, OKB_fr e2, by rw [e3]⟩
  · unfold f_X4_digestOf
    rw [a1, ob_s, ob_s]
    dsimp only
    rw [e70, at_in t14, eq]
  · rw [e1, ob_s, og_t g14, Int.toNat_natCast]
theorem ab_5 {A B : gM} {n c t : Nat} (h : Rel c A B) (hS : RS A B) (hT : RT A B n) (hRB : RB A B n c) (ht : t < n) : AbQ c A B (ob (f_X2_wayOf t A) fun r135 => some (r135.1, r135.2)) (if f_X12_isNeeded (t : Int) B = 0 then some (-1, B) else ob (f_X12_wayOf (t : Int) B) fun r35 => some (r35.1, r35.2)) := by
  have t14 : t < 14 := Nat.lt_of_lt_of_le ht hT.1
  have e70 : A 7 t 0 = (t : Int) := hT.2.2.2.2.1 t t14
  have e46 : A 4 0 6 = B 29 0 37 := hRB.1
  obtain ⟨r, hr, er⟩ := hRB.2.2.2.1
  have r14 := p14 hr hT.1
  have hb : f_X11_bitOf (A 4 0 6) (A 7 t 0) A = if r.testBit t = true then 1 else 0 := by rw [e70, e46, er]; exact bit01 r14 t14
  have hdd : ndd B t ↔ r.testBit t = true := by
    unfold ndd
    rw [er]
    exact bit_1 (lt14_31 r14) (Nat.lt_trans t14 (by decide))
  by_cases hd : ndd B t
  · obtain ⟨A', w1, w2, w3, w4⟩ := fwC hS hT hRB
    obtain ⟨M', m1, m2, m3⟩ := wayM hS hT hRB But_r ht hd
    have eW : M' 73 0 t = A' 7 t 10 := isW_eq (W := fun u => M' 73 0 u) (W' := fun u => A' 7 u 10) hS hT m3 w4 (n - t) t (by omega) (Nat.le_refl _) (Nat.zero_le _) hd ht
    refine ⟨A' 7 t 10, A', M', ?_, ?_, Rel_f h w2 w3 (But_w m2 rfl), fun q y1 y2 => But_c w2 rfl q y1 y2, fun q hq => But_m m2 rfl q hq, by rw [But_q m2 rfl]⟩
    · unfold f_X2_wayOf
      rw [hb, if_pos (hdd.mp hd), if_neg ne10, w1, ob_s, ob_s]
    · have i1 : f_X12_isNeeded (t : Int) B = 1 := if_pos hd
      rw [i1, if_neg ne10, m1, ob_s, eW]
  · refine ⟨-1, A, B, ?_, ?_, h, fun _ _ _ => rfl, fun _ _ => rfl, rfl⟩
    · unfold f_X2_wayOf
      rw [hb, if_neg (fun q => hd (hdd.mpr q)), if_pos rfl, ob_s]
    · have i0 : f_X12_isNeeded (t : Int) B = 0 := if_neg hd
      rw [i0, if_pos rfl]
theorem S_about {c : Nat} (v1 v2 : Int) : Sim (Rel c) (Rel (c + 1)) (f_L_about v1 v2) (f_X12_about v1 v2) := by
  intro A B h
  have h0 := h
  obtain ⟨n, h1, h2, h3, h4, h5, h6, h7⟩ := h0
  have hA := h2.2.1
  have hB := h2.2.2.1
  have hn := h2.1
  by_cases ht : 0 ≤ v1 ∧ v1 < (n : Int)
  · obtain ⟨t, rfl⟩ : ∃ t : Nat, v1 = (t : Int) := ⟨v1.toNat, by omega⟩
    have htn : t < n := by omega
    have tA := tAt hA hn htn
    by_cases hw : 0 ≤ v2 ∧ v2 ≤ 5
    · have hw6 : 0 ≤ v2 ∧ v2 < 6 := by omega
      have hR := Rel_thr 0 (Rel_up h)
      have k1 := RS_0 0 h1
      have k2 := RT_0 0 h2
      have k6 : RB A (gU B 29 0 0 0) n (c + 1) := (OKB_p h1 h2 (RB_up h6) (OKB_0 0)).2.2
      have h49 : A 0 0 6 = gU B 29 0 0 0 29 0 49 := by rw [gU_k (by decide)]; exact h4.2.2.2.2.2
      have fin : ∀ fa fb : Option (Int × gM), AbQ (c + 1) A (gU B 29 0 0 0) fa fb → f_X11_about (t : Int) v2 A = (ob fa fun r => some (Sum.inr r)) → f_X12_about (t : Int) v2 B = fb → ∃ r A' r' B', f_L_about (t : Int) v2 A = some (r, A') ∧ f_X12_about (t : Int) v2 B = some (r', B') ∧ B' 29 0 0 = r ∧ (r = 0 → A' 75 0 0 = r') ∧ Rel (c + 1) A' B' ∧ (∀ q, 29 ≤ q → q ≠ 75 → A' q = A q) ∧ ∀ q, q < 29 ∨ q = 75 → B' q = B q := by
        rintro fa fb ⟨r, A', B', q1, q2, q3, q4, q5, q6⟩ e1 e2
        refine ⟨0, gU A' 75 0 0 r, r, B', ?_, by rw [e2, q2], by rw [q6, gU_s], fun _ => gU_s _ _ _ _ _, Rel_out _ q3, fun q y1 y2 => ?_, fun q hq => ?_⟩
        · unfold f_L_about
          rw [e1, q1, ob_s, ob_s]
          rfl
        · rw [gU_r y2]; exact q4 q y1 y2
        · rw [q5 q hq]; exact gU_r (by omega)
      have cl : f_X11_about (t : Int) v2 A = if v2 = 0 then (ob (f_X5_soundTargets A) fun r64 => some (Sum.inr (((f_X11_bitOf r64 (t : Int) A), A)))) else if v2 = 1 then (ob (f_X4_isStale t A) fun r77 => if r77.1 = 0 then (some (Sum.inr ((0, r77.2)))) else (some (Sum.inr ((1, r77.2))))) else if v2 = 2 then (if (f_X8_isInQuarantine t A) = 0 then (some (Sum.inr ((0, A)))) else (some (Sum.inr ((1, A))))) else if v2 = 3 then (ob (f_X4_goodTargets (A 1 0 5) A) fun r113 => some (Sum.inr (((f_X11_bitOf r113.1 (t : Int) r113.2), r113.2)))) else if v2 = 4 then (ob (f_X4_digestOf t A) fun r126 => some (Sum.inr ((r126.1, r126.2)))) else ob (f_X2_wayOf t A) fun r135 => some (Sum.inr ((r135.1, r135.2))) := by
        unfold f_X11_about
        rw [cTar hA, if_pos ht, ob_s, ox_r, isB, if_pos hw6, cArg, if_neg ne10, ob_s, ox_r, tA]
      have rf : f_X12_about (t : Int) v2 B = if v2 = 5 then (if (f_X12_isNeeded (t : Int) (gU B 29 0 0 0)) = 0 then (some (((-1), gU B 29 0 0 0))) else (ob (f_X12_wayOf (t : Int) (gU B 29 0 0 0)) fun r35 => some ((r35.1, r35.2)))) else (ob (f_X12_freshenNow (gU B 29 0 0 0)) fun r44 => if v2 = 4 then (og ((0 : Int) ≤ (t : Int) ∧ ((t : Int) : Int) < 14) <| some ((r44 71 0 (t : Int).toNat, r44))) else (if v2 = 0 then (ob (f_X12_isSound (t : Int) 0 r44) fun r66 => if r66 = 0 then (some ((0, r44))) else (some ((1, r44)))) else (if v2 = 1 then (ob (f_X12_isStale (t : Int) r44) fun r79 => if r79.1 = 0 then (some ((0, r79.2))) else (some ((1, r79.2)))) else (if v2 = 2 then (og ((0 : Int) ≤ (t : Int) ∧ ((t : Int) : Int) < 14) <| if r44 66 0 (t : Int).toNat < 2 then (some ((0, r44))) else (some ((1, r44)))) else (og ((0 : Int) ≤ (t : Int) ∧ ((t : Int) : Int) < 14) <| if r44 72 0 (t : Int).toNat = 0 then (some ((0, r44))) else (some ((1, r44)))))))) := by
        unfold f_X12_about
        rw [isT hB hn, if_pos ht, inn, if_pos hw, asked_11]
        dsimp only
        rw [if_neg ne10]
        dsimp only [oj]
        by_cases q5 : v2 = 5
        · rw [if_pos q5, if_pos q5]
        · rw [if_neg q5, if_neg q5]
          congr 1
      rcases (show v2 = 0 ∨ v2 = 1 ∨ v2 = 2 ∨ v2 = 3 ∨ v2 = 4 ∨ v2 = 5 by omega) with e | e | e | e | e | e
      · subst e
        refine fin _ _ (ab_0 hR k1 k2 k6 htn h49) ?_ ?_
        · rw [cl, if_pos rfl]
          cases f_X5_soundTargets A <;> rfl
        · rw [rf, if_neg (by decide)]
          congr 1
      · subst e
        refine fin _ _ (ab_1 hR k1 k2 k6 htn h49) ?_ ?_
        · rw [cl, if_neg (by decide), if_pos rfl]
          cases f_X4_isStale t A with
          | none => rfl
          | some r =>
            rw [ob_s, ob_s]
            by_cases q : r.1 = 0
            · rw [if_pos q, if_pos q]; rfl
            · rw [if_neg q, if_neg q]; rfl
        · rw [rf, if_neg (by decide)]
          congr 1
      · subst e
        refine fin _ _ (ab_2 hR k1 k2 k6 htn h49) ?_ ?_
        · rw [cl, if_neg (by decide), if_neg (by decide), if_pos rfl]
          by_cases q : f_X8_isInQuarantine t A = 0
          · rw [if_pos q, if_pos q]; rfl
          · rw [if_neg q, if_neg q]; rfl
        · rw [rf, if_neg (by decide)]
          congr 1
      · subst e
        refine fin _ _ (ab_3 hR k1 k2 htn h49) ?_ ?_
        · rw [cl, if_neg (by decide), if_neg (by decide), if_neg (by decide), if_pos rfl]
          cases f_X4_goodTargets (A 1 0 5) A <;> rfl
        · rw [rf, if_neg (by decide)]
          congr 1
      · subst e
        refine fin _ _ (ab_4 hR k1 k2 htn h49) ?_ ?_
        · rw [cl, if_neg (by decide), if_neg (by decide), if_neg (by decide), if_neg (by decide), if_pos rfl]
          cases f_X4_digestOf t A <;> rfl
        · rw [rf, if_neg (by decide)]
          congr 1
      · subst e
        refine fin _ _ (ab_5 hR k1 k2 k6 htn) ?_ ?_
        · rw [cl, if_neg (by decide), if_neg (by decide), if_neg (by decide), if_neg (by decide), if_neg (by decide)]
          cases f_X2_wayOf t A <;> rfl
        · rw [rf, if_pos rfl]
    · have e1 : f_L_about (t : Int) v2 A = some (2, A) := by
        unfold f_L_about f_X11_about
        rw [cTar hA, if_pos ht, ob_s, ox_r, isB, if_neg (show ¬ (0 ≤ v2 ∧ v2 < 6) by omega), cArg, if_pos rfl, ob_s, ox_l]
        rfl
      have e2 : f_X12_about (t : Int) v2 B = some (0, gU B 29 0 0 2) := by
        unfold f_X12_about
        rw [isT hB hn, if_pos ht, inn, if_neg hw, asked_10]
        dsimp only
        rw [if_pos rfl]
      exact ⟨_, _, _, _, e1, e2, gU_s _ _ _ _ _, fun q => absurd q (by decide), Rel_thr _ (Rel_up h), fun q _ _ => rfl, fun q hq => gU_r (by omega)⟩
  · have e1 : f_L_about v1 v2 A = some (1, A) := by
      unfold f_L_about f_X11_about
      rw [cTar hA, if_neg ht, ob_s, ox_l]
      rfl
    have e2 : f_X12_about v1 v2 B = some (0, gU B 29 0 0 1) := by
      unfold f_X12_about
      rw [isT hB hn, if_neg ht, asked_0]
      dsimp only
      rw [if_pos rfl]
    exact ⟨_, _, _, _, e1, e2, gU_s _ _ _ _ _, fun q => absurd q (by decide), Rel_thr _ (Rel_up h), fun q _ _ => rfl, fun q hq => gU_r (by omega)⟩
