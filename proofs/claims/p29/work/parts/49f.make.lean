/-! ### all targets from nothing, on both sides -/
theorem isD_step {A B : gM} {n t : Nat} {C D : Nat → Int} (hS : RS A B) (hT : RT A B n) (ht : t < n) (hC0 : ∀ k, k < 16 → 0 ≤ C k ∧ C k ≤ 999) (h : isD B C D t) : isD B C (g1 D t (frV B C D t)) (t + 1) := by
  have hin := isD_in hS hT (Nat.le_of_lt ht) hC0 h
  have key : ∀ u, u ≤ t → frV B C D u = frV B C (g1 D t (frV B C D t)) u := fun u hu => by
    refine frV_c hS hT (Nat.lt_of_le_of_lt hu ht) (fun _ _ => rfl) hC0 (fun v hv => ?_) (fun v hv => ?_)
    · have := isI_lt hS hT (Nat.lt_of_le_of_lt hu ht) hv
      exact (if_neg (show ¬ v = t by omega)).symm
    · have := isI_lt hS hT (Nat.lt_of_le_of_lt hu ht) hv
      exact hin v (by omega)
  intro u hu
  by_cases e : u = t
  · rw [e, ← key t (Nat.le_refl _)]
    exact if_pos rfl
  · rw [← key u (by omega), ← h u (by omega)]
    exact if_neg e
theorem isG_step {A B : gM} {n t : Nat} {C D : Nat → Int} {G G' : Nat → Prop} {V : Int} (hS : RS A B) (hT : RT A B n) (ht : t < n) (hC0 : ∀ k, k < 16 → 0 ≤ C k ∧ C k ≤ 999) (h : isD B C D t) (g : isG B C D G t) (hne : ∀ u, u < t → (G' u ↔ G u)) (heq : G' t ↔ (∀ u, isI B t u → G u) ∧ ∀ s : Nat, (s : Int) < B 38 0 t → okS B C D t s) : isG B C (g1 D t V) G' (t + 1) := by
  have hin := isD_in hS hT (Nat.le_of_lt ht) hC0 h
  have key : ∀ u, u ≤ t → ∀ s : Nat, (s : Int) < B 38 0 u → (okS B C D u s ↔ okS B C (g1 D t V) u s) := fun u hu s hs => by
    obtain ⟨z, z1, z2, z3, z4⟩ := shT hT (Nat.lt_of_le_of_lt hu ht)
    refine okS_c hS hT (Nat.lt_of_le_of_lt hu ht) (by rw [z4] at hs; omega) (fun _ _ => rfl) hC0 (fun v hv => ?_) (fun v hv => ?_)
    · have := isI_lt hS hT (Nat.lt_of_le_of_lt hu ht) hv
      exact (if_neg (show ¬ v = t by omega)).symm
    · have := isI_lt hS hT (Nat.lt_of_le_of_lt hu ht) hv
      exact hin v (by omega)
  have gen : ∀ u, u ≤ t → (((∀ v, isI B u v → G v) ∧ ∀ s : Nat, (s : Int) < B 38 0 u → okS B C D u s) ↔ ((∀ v, isI B u v → G' v) ∧ ∀ s : Nat, (s : Int) < B 38 0 u → okS B C (g1 D t V) u s)) := fun u hu => by
    have hl : ∀ v, isI B u v → v < t := fun v hv => by
      have := isI_lt hS hT (Nat.lt_of_le_of_lt hu ht) hv
      omega
    constructor
    · rintro ⟨a, b⟩
      exact ⟨fun v hv => (hne v (hl v hv)).mpr (a v hv), fun s hs => (key u hu s hs).mp (b s hs)⟩
    · rintro ⟨a, b⟩
      exact ⟨fun v hv => (hne v (hl v hv)).mp (a v hv), fun s hs => (key u hu s hs).mpr (b s hs)⟩
  intro u hu
  rcases Nat.lt_or_ge u t with q | q
  · rw [hne u q, g u q]
    exact gen u (Nat.le_of_lt q)
  · have e : u = t := by omega
    rw [e, heq]
    exact gen t (Nat.le_refl _)
theorem RSs {A B A' : gM} (hS : RS A B) (h : But [5, 12, 23] A' A) (h12 : A' 12 0 = A 12 0) : RS A' B := RS_c hS (fun q hq => by
  by_cases e : q = 12
  · rw [e, h12]
  · rw [h q (fun m => by
      simp only [List.mem_cons, List.not_mem_nil, or_false] at m hq
      omega)]) (by rw [But_q h rfl]) (fun _ _ => rfl) rfl
theorem RTs {A B A' : gM} {n : Nat} (hT : RT A B n) (h : But [5, 12, 23] A' A) : RT A' B n := RT_c hT (But_l h rfl) (by rw [But_q h rfl]) (fun t k _ => by rw [But_q h rfl]) (fun _ _ => rfl) rfl
theorem makeC {A B : gM} {n z m : Nat} (hS : RS A B) (hT : RT A B n) (hz : A 1 0 5 = (z : Int)) (hz3 : z ≤ 30) (hm : m ≤ z) : ∃ A' : gM, ∃ g : Nat, f_X4_make (m : Int) A = some A' ∧ But [5, 12, 23] A' A ∧ A' 12 0 = A 12 0 ∧ A' 23 0 = A 23 0 ∧ (∀ j, j < 16 → A' 12 1 j = und B z (z - m) j) ∧ isD B (A' 12 1) (A' 23 1) n ∧ A' 5 0 3 = (g : Int) ∧ g < 16384 ∧ isG B (A' 12 1) (A' 23 1) (fun u => g.testBit u = true) n := by
  obtain ⟨A1, f1, f2, f3, f4⟩ := filC hS hz hz3 hm
  have h14 := hT.1
  have hn64 : n < 64 := by omega
  have hA := hT.2.1
  have hC0 : ∀ k, k < 16 → 0 ≤ A1 12 1 k ∧ A1 12 1 k ≤ 999 := fun k hk => by rw [f4 k hk]; exact und_in hS z _ k
  unfold f_X4_make
  rw [f1, ob_s]
  refine lp0 (F := fun m M i => f_X4_make_L22 (fun (M_22_51 : gM) => some M_22_51) m i M) n (fun t M => But [5, 23] M A1 ∧ M 23 0 = A 23 0 ∧ isD B (A1 12 1) (M 23 1) t ∧ ∃ g : Nat, M 5 0 3 = (g : Int) ∧ g < 16384 ∧ (∀ u, t ≤ u → g.testBit u = false) ∧ isG B (A1 12 1) (M 23 1) (fun u => g.testBit u = true) t) (fun r => ∃ A' : gM, ∃ g : Nat, r = some A' ∧ But [5, 12, 23] A' A ∧ A' 12 0 = A 12 0 ∧ A' 23 0 = A 23 0 ∧ (∀ j, j < 16 → A' 12 1 j = und B z (z - m) j) ∧ isD B (A' 12 1) (A' 23 1) n ∧ A' 5 0 3 = (g : Int) ∧ g < 16384 ∧ isG B (A' 12 1) (A' 23 1) (fun u => g.testBit u = true) n) hn64 _ ⟨But_u But_r rfl, by rw [gU_r (by decide), But_q f2 rfl], fun t q => absurd q (Nat.not_lt_zero _), 0, gU_s _ _ _ _ _, by decide, fun u _ => Nat.zero_testBit u, fun t q => absurd q (Nat.not_lt_zero _)⟩ (fun k t M ht hp => Or.inl ?_) (fun k M hp => ?_)
  · obtain ⟨p1, p2, p3, g, p4, p5, p6, p7⟩ := hp
    have fM : But [5, 12, 23] M A := But_t (But_w f2 rfl) (But_w p1 rfl)
    have m12 : M 12 = A1 12 := But_q p1 rfl
    have S' := RSs hS fM (by rw [m12, f3])
    have T' := RTs hT fM
    have hD0 : ∀ u, isI B t u → 0 ≤ M 23 1 u ∧ M 23 1 u ≤ 100002 := fun u hu => isD_in hS hT (Nat.le_of_lt ht) hC0 p3 u (isI_lt hS hT ht hu)
    obtain ⟨M', g', e1, e2, e3, e4, e5, e6, e7, e8⟩ := mkC S' T' ht (by rw [m12]; exact hC0) hD0 p4 p5
    rw [m12] at e4 e8
    rw [p6 t (Nat.le_refl _)] at e8
    refine ⟨M', ?_, But_t p1 e2, e3.trans p2, ?_, g', e5, e6, fun u hu => ?_, ?_⟩
    · show f_X4_make_L22 _ (k + 1) (t : Int) M = _
      rw [f_X4_make_L22, But_q fM rfl, hA, if_pos (Int.ofNat_lt.mpr ht), tAt T'.2.1 h14 ht, e1, ob_s, wI_s (by omega)]
    · rw [e4]
      exact isD_step hS hT ht hC0 p3
    · rw [e7 u (by omega)]
      exact p6 u (by omega)
    · rw [e4]
      refine isG_step hS hT ht hC0 p3 p7 (fun u hu => by rw [e7 u (by omega)]) (e8.trans ?_)
      exact ⟨fun q => q.resolve_left (fun q => absurd q (by decide)), Or.inr⟩
  · obtain ⟨p1, p2, p3, g, p4, p5, p6, p7⟩ := hp
    have m12 : M 12 = A1 12 := But_q p1 rfl
    have fM : But [5, 12, 23] M A := But_t (But_w f2 rfl) (But_w p1 rfl)
    refine ⟨M, g, ?_, fM, by rw [m12, f3], p2, fun j hj => by rw [m12, f4 j hj], by rw [m12]; exact p3, p4, p5, by rw [m12]; exact p7⟩
    show f_X4_make_L22 _ (k + 1) (n : Int) M = _
    rw [f_X4_make_L22, But_q fM rfl, hA, if_neg (Int.lt_irrefl _)]
/-- M holds what was told as B does -/
def Td (B M : gM) : Prop := ∀ q, q ∈ [31, 32, 35, 36, 37, 38, 39, 40, 41, 42, 43, 44, 45] → M q = B q
theorem inO_t {B M : gM} (h : Td B M) (v k : Int) : f_X12_inputOf v k M = f_X12_inputOf v k B := by
  unfold f_X12_inputOf
  rw [h 31 (by decide), h 42 (by decide), h 43 (by decide), h 44 (by decide), h 45 (by decide)]
theorem kb_t {B M : gM} (h : Td B M) (v k : Int) : f_X12_keyBegin v k M = f_X12_keyBegin v k B := by
  unfold f_X12_keyBegin
  rw [h 32 (by decide), h 35 (by decide), h 36 (by decide), h 37 (by decide)]
  rfl
theorem fn_t {B M : gM} (h : Td B M) (v k : Int) : f_X12_foundBy v k M = f_X12_foundBy v k B := by
  unfold f_X12_foundBy
  rw [h 39 (by decide)]
theorem brk_t {B M : gM} (h : Td B M) (v k : Int) : f_X12_breaks v k M = f_X12_breaks v k B := by
  unfold f_X12_breaks
  rw [h 39 (by decide)]
theorem and01 : gAnd 0 0 = 0 ∧ gAnd 0 1 = 0 ∧ gAnd 1 0 = 0 ∧ gAnd 1 1 = 1 := by decide +kernel
theorem gAnd01 {x y : Int} (hx : x = 0 ∨ x = 1) (hy : y = 0 ∨ y = 1) : (gAnd x y = 0 ∨ gAnd x y = 1) ∧ (gAnd x y = 1 ↔ x = 1 ∧ y = 1) := by
  obtain ⟨o1, o2, o3, o4⟩ := and01
  rcases hx with rfl | rfl <;> rcases hy with rfl | rfl
  · rw [o1]; exact ⟨Or.inl rfl, by omega⟩
  · rw [o2]; exact ⟨Or.inl rfl, by omega⟩
  · rw [o3]; exact ⟨Or.inl rfl, by omega⟩
  · rw [o4]; exact ⟨Or.inr rfl, by omega⟩
/-- what the good of an input is worth -/
def ig (B M : gM) (t j : Nat) : Int := if chB B t j < 16 then 1 else if M 72 0 ((chB B t j).toNat - 16) = 0 then 0 else 1
theorem fr47s {A B M : gM} {n t j m : Nat} {x z2 : Int} {k : Int → gM → Option gM} (hS : RS A B) (hT : RT A B n) (ht : t < n) (hM : Td B M) (hj : (j : Int) < B 41 0 t) : f_X12_freshen_L47 k (t : Int) z2 (m + 1) x (j : Int) M = f_X12_freshen_L47 k (t : Int) z2 m (pls x (inV B (M 69 0) (M 71 0) t j)) ((j + 1 : Nat) : Int) (gU M 72 0 t (gAnd (M 72 0 t) (ig B M t j))) := by
  obtain ⟨z, z1, z2', z3⟩ := szT hT ht
  have h14 := hT.1
  have c := ch_in hS hT ht hj
  have b1 : (0 : Int) ≤ (t : Int) ∧ (t : Int) < 15 := by omega
  have b2 : (0 : Int) ≤ (t : Int) ∧ (t : Int) < 14 := by omega
  have w1 : wI ((j : Int) + 1) = ((j + 1 : Nat) : Int) := wI_s (by rw [z3] at hj; omega)
  have hRI := (hT.2.2.2.2.2.2 t ht).1
  have b3 : t < 15 := by omega
  rw [f_X12_freshen_L47, og_t b1, Int.toNat_natCast, hM 41 (by decide), if_pos hj, inO_t hM, inO hRI b3 hj, ob_s]
  dsimp only [oj]
  rw [w1]
  unfold inV ig
  obtain ⟨u, hu⟩ : ∃ u : Nat, chB B t j = (u : Int) := ⟨(chB B t j).toNat, by omega⟩
  by_cases e : chB B t j < 16
  · have g : (0 : Int) ≤ chB B t j ∧ chB B t j < 16 := ⟨c.1, e⟩
    rw [if_pos e, og_t g, og_t b2, if_pos e, og_t b2, if_pos e, if_pos e]
    rfl
  · have e' : ¬ ((u : Int) < 16) := by rw [← hu]; exact e
    have g : (0 : Int) ≤ ((u - 16 : Nat) : Int) ∧ ((u - 16 : Nat) : Int) < 14 := by omega
    have w2 : wI ((u : Int) - 16) = ((u - 16 : Nat) : Int) := by
      rw [show (u : Int) - 16 = ((u - 16 : Nat) : Int) by omega, wI_n (by omega)]
    rw [hu, if_neg e', w2, og_t g, og_t b2, if_neg e', og_t g, Int.toNat_natCast, if_neg e', if_neg e', Int.toNat_natCast]
    by_cases e2 : M 72 0 (u - 16) = 0
    · rw [if_pos e2, og_t b2, if_pos e2]
      rfl
    · rw [if_neg e2, og_t b2, if_neg e2]
      rfl
theorem ig01 (B M : gM) (t j : Nat) : ig B M t j = 0 ∨ ig B M t j = 1 := by
  unfold ig
  by_cases e : chB B t j < 16
  · rw [if_pos e]; exact Or.inr rfl
  · rw [if_neg e]
    by_cases e2 : M 72 0 ((chB B t j).toNat - 16) = 0
    · rw [if_pos e2]; exact Or.inl rfl
    · rw [if_neg e2]; exact Or.inr rfl
theorem fr47 {A B M0 : gM} {n t : Nat} {x0 z2 : Int} {k : Int → gM → Option gM} (hS : RS A B) (hT : RT A B n) (ht : t < n) (hM : Td B M0) (h72 : M0 72 0 t = 0 ∨ M0 72 0 t = 1) (h72' : ∀ u, u < t → M0 72 0 u = 0 ∨ M0 72 0 u = 1) : ∃ M', f_X12_freshen_L47 k (t : Int) z2 64 x0 0 M0 = k (itr (fun j x => pls x (inV B (M0 69 0) (M0 71 0) t j)) (B 41 0 t).toNat 0 x0) M' ∧ But [72] M' M0 ∧ (∀ u, u ≠ t → M' 72 0 u = M0 72 0 u) ∧ (M' 72 0 t = 0 ∨ M' 72 0 t = 1) ∧ (M' 72 0 t = 1 ↔ M0 72 0 t = 1 ∧ ∀ u, isI B t u → M0 72 0 u = 1) := by
  obtain ⟨z, z1, z2', z3⟩ := szT hT ht
  have hz : z < 64 := by omega
  have b1 : (0 : Int) ≤ (t : Int) ∧ (t : Int) < 15 := by have := hT.1; omega
  rw [z3, Int.toNat_natCast]
  refine lp0 (F := fun m (x : Int × gM) i => f_X12_freshen_L47 k (t : Int) z2 m x.1 i x.2) z (fun j x => x.1 = itr (fun j x => pls x (inV B (M0 69 0) (M0 71 0) t j)) j 0 x0 ∧ But [72] x.2 M0 ∧ (∀ u, u ≠ t → x.2 72 0 u = M0 72 0 u) ∧ (x.2 72 0 t = 0 ∨ x.2 72 0 t = 1) ∧ (x.2 72 0 t = 1 ↔ M0 72 0 t = 1 ∧ ∀ j', j' < j → ig B M0 t j' = 1)) (fun r => ∃ M', r = k (itr (fun j x => pls x (inV B (M0 69 0) (M0 71 0) t j)) z 0 x0) M' ∧ But [72] M' M0 ∧ (∀ u, u ≠ t → M' 72 0 u = M0 72 0 u) ∧ (M' 72 0 t = 0 ∨ M' 72 0 t = 1) ∧ (M' 72 0 t = 1 ↔ M0 72 0 t = 1 ∧ ∀ u, isI B t u → M0 72 0 u = 1)) hz (x0, M0) ⟨rfl, But_r, fun _ _ => rfl, h72, fun q => ⟨q, fun j' q => absurd q (Nat.not_lt_zero _)⟩, fun q => q.1⟩ (fun m j x hj hp => Or.inl ?_) (fun m x hp => ?_)
  · obtain ⟨p1, p2, p3, p4, p5⟩ := hp
    have hjB : (j : Int) < B 41 0 t := by rw [z3]; exact Int.ofNat_lt.mpr hj
    have tM : Td B x.2 := fun q hq => by rw [p2 q (fun m => by rw [List.mem_singleton.mp m] at hq; revert hq; decide), hM q hq]
    have c := ch_in hS hT ht hjB
    have hig : ig B x.2 t j = ig B M0 t j := by
      unfold ig
      by_cases e : chB B t j < 16
      · rw [if_pos e, if_pos e]
      · rw [if_neg e, if_neg e, p3 _ (by omega)]
    obtain ⟨q1, q2⟩ := gAnd01 p4 (ig01 B x.2 t j)
    refine ⟨(pls x.1 (inV B (x.2 69 0) (x.2 71 0) t j), gU x.2 72 0 t (gAnd (x.2 72 0 t) (ig B x.2 t j))), fr47s hS hT ht tM hjB, ?_, But_u p2 rfl, fun u hu => ?_, ?_, ?_⟩
    · show pls x.1 _ = _
      rw [itr_s0, ← p1, But_q p2 rfl, But_q p2 rfl]
    · show gU x.2 72 0 t _ 72 0 u = _
      rw [gU_k hu]; exact p3 u hu
    · show gU x.2 72 0 t _ 72 0 t = 0 ∨ gU x.2 72 0 t _ 72 0 t = 1
      rw [gU_s]; exact q1
    · show gU x.2 72 0 t _ 72 0 t = 1 ↔ _
      rw [gU_s, all_s, ← p5, ← hig]
      exact q2
  · obtain ⟨p1, p2, p3, p4, p5⟩ := hp
    refine ⟨x.2, ?_, p2, p3, p4, p5.trans ?_⟩
    · show f_X12_freshen_L47 k (t : Int) z2 (m + 1) x.1 (z : Int) x.2 = _
      rw [f_X12_freshen_L47, og_t b1, Int.toNat_natCast, But_q p2 rfl, hM 41 (by decide), z3, if_neg (Int.lt_irrefl _), p1]
    · constructor
      · rintro ⟨a, b⟩
        refine ⟨a, fun u ⟨j, j1, j2⟩ => ?_⟩
        have q := b j (by rw [z3] at j1; exact Int.ofNat_lt.mp j1)
        have hu := isI_lt hS hT ht ⟨j, j1, j2⟩
        unfold ig at q
        rw [j2, if_neg (by omega), show (16 + (u : Int)).toNat - 16 = u by omega] at q
        rcases h72' u hu with h | h
        · rw [if_pos h] at q; exact absurd q ne01
        · exact h
      · rintro ⟨a, b⟩
        refine ⟨a, fun j hj => ?_⟩
        have hjB : (j : Int) < B 41 0 t := by rw [z3]; exact Int.ofNat_lt.mpr hj
        have c := ch_in hS hT ht hjB
        unfold ig
        by_cases e : chB B t j < 16
        · rw [if_pos e]
        · rw [if_neg e, b ((chB B t j).toNat - 16) ⟨j, hjB, by omega⟩, if_neg ne10]
