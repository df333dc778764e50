/-! ### what would be from nothing -/
def frE (B : gM) (C D : Nat → Int) (t s : Nat) : Int := res B C t (keyS B C D t s)
def frV (B : gM) (C D : Nat → Int) (t : Nat) : Int := itr (fun s x => pls x (frE B C D t s)) (B 38 0 t).toNat 0 7
def okS (B : gM) (C D : Nat → Int) (t s : Nat) : Prop := brk B t (keyS B C D t s) = 0 ∧ ¬ (B 35 0 t = 2 ∧ gRem (frE B C D t s) 4 = 0)
/-- D are the digests from nothing with the contents C -/
def isD (B : gM) (C D : Nat → Int) (m : Nat) : Prop := ∀ t, t < m → D t = frV B C D t
/-- G are the good targets -/
def isG (B : gM) (C D : Nat → Int) (G : Nat → Prop) (m : Nat) : Prop := ∀ t, t < m → (G t ↔ (∀ u, isI B t u → G u) ∧ ∀ s : Nat, (s : Int) < B 38 0 t → okS B C D t s)
theorem frE_c {A B : gM} {n t s : Nat} {C D C' D' : Nat → Int} (hS : RS A B) (hT : RT A B n) (ht : t < n) (hs : s < 4) (hC : ∀ k, k < 16 → C k = C' k) (hC0 : ∀ k, k < 16 → 0 ≤ C k ∧ C k ≤ 999) (hD : ∀ u, isI B t u → D u = D' u) (hD0 : ∀ u, isI B t u → 0 ≤ D u ∧ D u ≤ 100002) : frE B C D t s = frE B C' D' t s := by
  have hk := keyS_in hS hT ht hs hC0 hD0
  unfold frE
  rw [← keyS_c hS hT ht hC hD]
  unfold res
  rw [hC _ (r16 hk).2.2.1]
theorem okS_c {A B : gM} {n t s : Nat} {C D C' D' : Nat → Int} (hS : RS A B) (hT : RT A B n) (ht : t < n) (hs : s < 4) (hC : ∀ k, k < 16 → C k = C' k) (hC0 : ∀ k, k < 16 → 0 ≤ C k ∧ C k ≤ 999) (hD : ∀ u, isI B t u → D u = D' u) (hD0 : ∀ u, isI B t u → 0 ≤ D u ∧ D u ≤ 100002) : okS B C D t s ↔ okS B C' D' t s := by
  unfold okS
  rw [frE_c hS hT ht hs hC hC0 hD hD0, keyS_c hS hT ht hC hD]
theorem frV_c {A B : gM} {n t : Nat} {C D C' D' : Nat → Int} (hS : RS A B) (hT : RT A B n) (ht : t < n) (hC : ∀ k, k < 16 → C k = C' k) (hC0 : ∀ k, k < 16 → 0 ≤ C k ∧ C k ≤ 999) (hD : ∀ u, isI B t u → D u = D' u) (hD0 : ∀ u, isI B t u → 0 ≤ D u ∧ D u ≤ 100002) : frV B C D t = frV B C' D' t := by
  obtain ⟨z, z1, z2, z3, z4⟩ := shT hT ht
  unfold frV
  rw [z4, Int.toNat_natCast]
  exact itr_congr (P := fun _ _ => True) (B := z) (fun i x hi _ => ⟨by
    show pls x _ = pls x _
    rw [frE_c hS hT ht (show i < 4 by omega) hC hC0 hD hD0], trivial⟩) z 0 7 (by omega) trivial
theorem frV_in {A B : gM} {n t : Nat} {C D : Nat → Int} (hS : RS A B) (hT : RT A B n) (ht : t < n) (hC0 : ∀ k, k < 16 → 0 ≤ C k ∧ C k ≤ 999) (hD0 : ∀ u, isI B t u → 0 ≤ D u ∧ D u ≤ 100002) : 0 ≤ frV B C D t ∧ frV B C D t ≤ 100002 := by
  obtain ⟨z, z1, z2, z3, z4⟩ := shT hT ht
  unfold frV
  rw [z4, Int.toNat_natCast]
  exact itr_inv (st := fun s x => pls x (frE B C D t s)) (P := fun _ x => 0 ≤ x ∧ x ≤ 100002) (B := z) (fun i x hi hp => pls_in hp (by
    have := res_in (B := B) (C := C) (t := t) (keyS_in hS hT ht (show i < 4 by omega) hC0 hD0) hC0
    unfold frE
    omega)) z 0 7 (by omega) (by omega)
theorem isD_in {A B : gM} {n m : Nat} {C D : Nat → Int} (hS : RS A B) (hT : RT A B n) (hm : m ≤ n) (hC0 : ∀ k, k < 16 → 0 ≤ C k ∧ C k ≤ 999) (h : isD B C D m) : ∀ t, t < m → 0 ≤ D t ∧ D t ≤ 100002 := by
  intro t
  induction t using Nat.strongRecOn with
  | _ t ih =>
    intro ht
    rw [h t ht]
    exact frV_in hS hT (by omega) hC0 (fun u hu => by
      have := isI_lt hS hT (by omega) hu
      exact ih u this (by omega))
theorem isD_eq {A B : gM} {n m : Nat} {C D C' D' : Nat → Int} (hS : RS A B) (hT : RT A B n) (hm : m ≤ n) (hC : ∀ k, k < 16 → C k = C' k) (hC0 : ∀ k, k < 16 → 0 ≤ C k ∧ C k ≤ 999) (h : isD B C D m) (h' : isD B C' D' m) : ∀ t, t < m → D t = D' t := by
  intro t
  induction t using Nat.strongRecOn with
  | _ t ih =>
    intro ht
    rw [h t ht, h' t ht]
    exact frV_c hS hT (by omega) hC hC0 (fun u hu => by
      have := isI_lt hS hT (by omega) hu
      exact ih u this (by omega)) (fun u hu => by
      have := isI_lt hS hT (by omega) hu
      exact isD_in hS hT hm hC0 h u (by omega))
theorem isG_eq {A B : gM} {n : Nat} {C D C' D' : Nat → Int} {G G' : Nat → Prop} (hS : RS A B) (hT : RT A B n) (hC : ∀ k, k < 16 → C k = C' k) (hC0 : ∀ k, k < 16 → 0 ≤ C k ∧ C k ≤ 999) (h : isD B C D n) (h' : isD B C' D' n) (g : isG B C D G n) (g' : isG B C' D' G' n) : ∀ t, t < n → (G t ↔ G' t) := by
  intro t
  induction t using Nat.strongRecOn with
  | _ t ih =>
    intro ht
    rw [g t ht, g' t ht]
    obtain ⟨z, z1, z2, z3, z4⟩ := shT hT ht
    have hlt : ∀ u, isI B t u → u < t := fun u hu => isI_lt hS hT ht hu
    have e1 : (∀ u, isI B t u → G u) ↔ (∀ u, isI B t u → G' u) := by
      constructor
      · intro q u hu; exact (ih u (hlt u hu) (by have := hlt u hu; omega)).mp (q u hu)
      · intro q u hu; exact (ih u (hlt u hu) (by have := hlt u hu; omega)).mpr (q u hu)
    have e2 : ∀ s : Nat, (s : Int) < B 38 0 t → (okS B C D t s ↔ okS B C' D' t s) := fun s hs => okS_c hS hT ht (by rw [z4] at hs; omega) hC hC0 (fun u hu => isD_eq hS hT (Nat.le_refl _) hC hC0 h h' u (by have := hlt u hu; omega)) (fun u hu => isD_in hS hT (Nat.le_refl _) hC0 h u (by have := hlt u hu; omega))
    rw [e1]
    constructor
    · rintro ⟨a, b⟩; exact ⟨a, fun s hs => (e2 s hs).mp (b s hs)⟩
    · rintro ⟨a, b⟩; exact ⟨a, fun s hs => (e2 s hs).mpr (b s hs)⟩
theorem isGd {A B : gM} {n t : Nat} (hT : RT A B n) (v : Int) : f_X8_isGoodResult t v A = 0 ↔ (B 35 0 t = 2 ∧ gRem v 4 = 0) := by
  unfold f_X8_isGoodResult
  dsimp only [oj]
  rw [(hT.2.2.2.2.2.1 t).1]
  by_cases e : B 35 0 t = 2
  · rw [if_pos e]
    by_cases e2 : gRem v 4 = 0
    · rw [if_pos e2]; exact ⟨fun _ => ⟨e, e2⟩, fun _ => rfl⟩
    · rw [if_neg e2]; exact ⟨fun q => absurd q ne10, fun q => absurd q.2 e2⟩
  · rw [if_neg e]; exact ⟨fun q => absurd q ne10, fun q => absurd q.1 e⟩
def mkK (A : gM) (t : Nat) (y2 y3 : Int) : Option gM := if y3 = 0 then (some ((f_X11_store 23 1 14 (A 7 t 0) y2 A))) else (some (gU ((f_X11_store 23 1 14 (A 7 t 0) y2 A)) 5 0 3 (gOr (((f_X11_store 23 1 14 (A 7 t 0) y2 A)) 5 0 3) (gShl 1 (((f_X11_store 23 1 14 (A 7 t 0) y2 A)) 7 t 0)))))
theorem mkF {A : gM} {t g : Nat} {V : Int} (ht : t < 14) (hnum : A 7 t 0 = (t : Int)) (hg : A 5 0 3 = (g : Int)) (hg14 : g < 16384) {x3 : Int} (h3 : x3 = 0 ∨ x3 = 1) {Q : Prop} (hQ : x3 = 1 ↔ Q) : ∃ A' : gM, ∃ g' : Nat, mkK A t V x3 = some A' ∧ But [5, 23] A' A ∧ A' 23 0 = A 23 0 ∧ A' 23 1 = g1 (A 23 1) t V ∧ A' 5 0 3 = (g' : Int) ∧ g' < 16384 ∧ (∀ u, u ≠ t → g'.testBit u = g.testBit u) ∧ (g'.testBit t = true ↔ g.testBit t = true ∨ Q) := by
  have b1 : t < 31 := by omega
  have b2 : g < 2147483648 := by omega
  unfold mkK
  rw [hnum, store_in ht]
  rcases h3 with e | e
  · rw [if_pos e]
    refine ⟨_, g, rfl, But_u But_r rfl, ?_, gU_same _ _ _ _ _, ?_, hg14, fun _ _ => rfl, ?_⟩
    · rw [gU_i (by decide)]
    · rw [gU_r (by decide), hg]
    · exact ⟨Or.inl, fun q => q.resolve_right (fun q => ne01 (e.symm.trans (hQ.mpr q)))⟩
  · rw [if_neg (fun q => ne10 (e.symm.trans q))]
    have hq := hQ.mp e
    refine ⟨_, g ||| 2 ^ t, rfl, But_u (But_u But_r rfl) rfl, ?_, ?_, ?_, or_14 hg14 (pow_14 ht), fun u hu => ?_, ?_⟩
    · rw [gU_r (by decide), gU_i (by decide)]
    · rw [gU_r (by decide), gU_same]
    · rw [gU_s, gU_r (by decide), gU_r (by decide), hg, hnum, gShl_n b1, gOr_n b2 (lt14_31 (pow_14 ht))]
    · rw [Bool.eq_iff_iff, or_bit, pow_bit]
      exact ⟨fun q => q.resolve_right hu, Or.inl⟩
    · rw [or_bit, pow_bit]
      exact ⟨fun _ => Or.inr hq, fun _ => Or.inr rfl⟩
def mkX (A : gM) (t : Nat) (x3 b v : Int) : Int := if x3 = 0 then 0 else if b = 0 then (if f_X8_isGoodResult t v A = 0 then 0 else 1) else 0
theorem mkS {A B : gM} {n t s : Nat} {k : Int → Int → Option gM} {m : Nat} {x2 x3 : Int} (hS : RS A B) (hT : RT A B n) (ht : t < n) (hs4 : s < 4) (hs : (s : Int) < A 7 t 6) (hC0 : ∀ k, k < 16 → 0 ≤ A 12 1 k ∧ A 12 1 k ≤ 999) (hk : 0 ≤ keyS B (A 12 1) (A 23 1) t s ∧ keyS B (A 12 1) (A 23 1) t s ≤ 100002) : f_X4_makeTarget_L30 k t A (m + 1) x2 x3 (s : Int) = f_X4_makeTarget_L30 k t A m (pls x2 (frE B (A 12 1) (A 23 1) t s)) (mkX A t x3 (brk B t (keyS B (A 12 1) (A 23 1) t s)) (frE B (A 12 1) (A 23 1) t s)) ((s + 1 : Nat) : Int) := by
  have w1 : wI ((s : Int) + 1) = ((s + 1 : Nat) : Int) := wI_s (by omega)
  have hrs := resC (i := 1) (t := t) hT hk hC0
  unfold frE mkX
  rw [f_X4_makeTarget_L30, if_pos hs, keyC hS hT ht, ob_s]
  dsimp only [oj]
  rw [hrs, brkC hT, w1, plus_p]
  by_cases e1 : x3 = 0
  · rw [if_pos e1, if_pos e1]
  · rw [if_neg e1, if_neg e1]
    by_cases e2 : brk B t (keyS B (A 12 1) (A 23 1) t s) = 0
    · rw [if_pos e2, if_pos e2]
      by_cases e3 : f_X8_isGoodResult t (res B (A 12 1) t (keyS B (A 12 1) (A 23 1) t s)) A = 0
      · rw [if_pos e3, if_pos e3]
      · rw [if_neg e3, if_neg e3]
    · rw [if_neg e2, if_neg e2]
theorem mkX_in {A B : gM} {n t s : Nat} {C D : Nat → Int} (hT : RT A B n) {x3 : Int} (h3 : x3 = 0 ∨ x3 = 1) : (mkX A t x3 (brk B t (keyS B C D t s)) (frE B C D t s) = 0 ∨ mkX A t x3 (brk B t (keyS B C D t s)) (frE B C D t s) = 1) ∧ (mkX A t x3 (brk B t (keyS B C D t s)) (frE B C D t s) = 1 ↔ x3 = 1 ∧ okS B C D t s) := by
  have hgd := isGd (t := t) hT (frE B C D t s)
  unfold mkX okS
  rcases h3 with e1 | e1
  · rw [if_pos e1]
    exact ⟨Or.inl rfl, fun q => absurd q ne01, fun q => absurd (e1.symm.trans q.1) ne01⟩
  · rw [if_neg (fun q => ne10 (e1.symm.trans q))]
    by_cases e2 : brk B t (keyS B C D t s) = 0
    · rw [if_pos e2]
      by_cases e3 : f_X8_isGoodResult t (frE B C D t s) A = 0
      · rw [if_pos e3]; exact ⟨Or.inl rfl, fun q => absurd q ne01, fun q => absurd (hgd.mp e3) q.2.2⟩
      · rw [if_neg e3]; exact ⟨Or.inr rfl, fun _ => ⟨e1, e2, fun q => e3 (hgd.mpr q)⟩, fun _ => rfl⟩
    · rw [if_neg e2]; exact ⟨Or.inl rfl, fun q => absurd q ne01, fun q => absurd q.2.1 e2⟩
theorem all_s {P : Nat → Prop} {Q : Prop} {s : Nat} : (Q ∧ ∀ s' : Nat, s' < s + 1 → P s') ↔ ((Q ∧ ∀ s' : Nat, s' < s → P s') ∧ P s) := by
  constructor
  · rintro ⟨a, b⟩; exact ⟨⟨a, fun s' q => b s' (by omega)⟩, b s (by omega)⟩
  · rintro ⟨⟨a, b⟩, d⟩
    refine ⟨a, fun s' q => ?_⟩
    rcases (show s' < s ∨ s' = s by omega) with q | q
    · exact b s' q
    · rw [q]; exact d
theorem mkL {A B : gM} {n t g : Nat} {x0 : Int} (hS : RS A B) (hT : RT A B n) (ht : t < n) (hC0 : ∀ k, k < 16 → 0 ≤ A 12 1 k ∧ A 12 1 k ≤ 999) (hD0 : ∀ u, isI B t u → 0 ≤ A 23 1 u ∧ A 23 1 u ≤ 100002) (hg : A 5 0 3 = (g : Int)) (hg14 : g < 16384) (h0 : x0 = 0 ∨ x0 = 1) (h1 : x0 = 1 ↔ ∀ u, isI B t u → g.testBit u = true) : ∃ A' : gM, ∃ g' : Nat, f_X4_makeTarget_L30 (mkK A t) t A 64 7 x0 0 = some A' ∧ But [5, 23] A' A ∧ A' 23 0 = A 23 0 ∧ A' 23 1 = g1 (A 23 1) t (frV B (A 12 1) (A 23 1) t) ∧ A' 5 0 3 = (g' : Int) ∧ g' < 16384 ∧ (∀ u, u ≠ t → g'.testBit u = g.testBit u) ∧ (g'.testBit t = true ↔ g.testBit t = true ∨ ((∀ u, isI B t u → g.testBit u = true) ∧ ∀ s : Nat, (s : Int) < B 38 0 t → okS B (A 12 1) (A 23 1) t s)) := by
  obtain ⟨z, z1, z2, z3, z4⟩ := shT hT ht
  have h14 : t < 14 := Nat.lt_of_lt_of_le ht hT.1
  have hnum := hT.2.2.2.2.1 t h14
  have hz : z < 64 := by omega
  refine lp0 (F := fun m (x : Int × Int) i => f_X4_makeTarget_L30 (mkK A t) t A m x.1 x.2 i) z (fun s x => x.1 = itr (fun s x => pls x (frE B (A 12 1) (A 23 1) t s)) s 0 7 ∧ (x.2 = 0 ∨ x.2 = 1) ∧ (x.2 = 1 ↔ (∀ u, isI B t u → g.testBit u = true) ∧ ∀ s' : Nat, s' < s → okS B (A 12 1) (A 23 1) t s')) (fun r => ∃ A' : gM, ∃ g' : Nat, r = some A' ∧ But [5, 23] A' A ∧ A' 23 0 = A 23 0 ∧ A' 23 1 = g1 (A 23 1) t (frV B (A 12 1) (A 23 1) t) ∧ A' 5 0 3 = (g' : Int) ∧ g' < 16384 ∧ (∀ u, u ≠ t → g'.testBit u = g.testBit u) ∧ (g'.testBit t = true ↔ g.testBit t = true ∨ ((∀ u, isI B t u → g.testBit u = true) ∧ ∀ s : Nat, (s : Int) < B 38 0 t → okS B (A 12 1) (A 23 1) t s))) hz (7, x0) ⟨rfl, h0, h1.trans ⟨fun q => ⟨q, fun s' q => absurd q (Nat.not_lt_zero _)⟩, fun q => q.1⟩⟩ (fun m s x hs hp => Or.inl ?_) (fun m x hp => ?_)
  · obtain ⟨p1, p2, p3⟩ := hp
    have hs4 : s < 4 := Nat.lt_of_lt_of_le hs z2
    obtain ⟨y1, y2⟩ := mkX_in (t := t) (s := s) (C := A 12 1) (D := A 23 1) hT p2
    refine ⟨(pls x.1 (frE B (A 12 1) (A 23 1) t s), mkX A t x.2 (brk B t (keyS B (A 12 1) (A 23 1) t s)) (frE B (A 12 1) (A 23 1) t s)), ?_, ?_, y1, ?_⟩
    · exact mkS hS hT ht hs4 (by rw [z3]; exact Int.ofNat_lt.mpr hs) hC0 (keyS_in hS hT ht hs4 hC0 hD0)
    · show pls x.1 _ = _
      rw [itr_s0, ← p1]
    · rw [all_s, ← p3]
      exact y2
  · obtain ⟨p1, p2, p3⟩ := hp
    have neg : ¬ (z : Int) < A 7 t 6 := by rw [z3]; exact Int.lt_irrefl _
    have e1 : x.1 = frV B (A 12 1) (A 23 1) t := by
      rw [p1]
      unfold frV
      rw [z4]
      rfl
    show ∃ A' : gM, ∃ g' : Nat, f_X4_makeTarget_L30 (mkK A t) t A (m + 1) x.1 x.2 (z : Int) = some A' ∧ _
    rw [f_X4_makeTarget_L30, if_neg neg, e1]
    refine mkF h14 hnum hg hg14 p2 (p3.trans ?_)
    rw [z4]
    exact ⟨fun q => ⟨q.1, fun s hs => q.2 s (Int.ofNat_lt.mp hs)⟩, fun q => ⟨q.1, fun s hs => q.2 s (Int.ofNat_lt.mpr hs)⟩⟩
/-- one target made: its digest, whether it is good -/
theorem mkC {A B : gM} {n t g : Nat} (hS : RS A B) (hT : RT A B n) (ht : t < n) (hC0 : ∀ k, k < 16 → 0 ≤ A 12 1 k ∧ A 12 1 k ≤ 999) (hD0 : ∀ u, isI B t u → 0 ≤ A 23 1 u ∧ A 23 1 u ≤ 100002) (hg : A 5 0 3 = (g : Int)) (hg14 : g < 16384) : ∃ A' : gM, ∃ g' : Nat, f_X4_makeTarget t A = some A' ∧ But [5, 23] A' A ∧ A' 23 0 = A 23 0 ∧ A' 23 1 = g1 (A 23 1) t (frV B (A 12 1) (A 23 1) t) ∧ A' 5 0 3 = (g' : Int) ∧ g' < 16384 ∧ (∀ u, u ≠ t → g'.testBit u = g.testBit u) ∧ (g'.testBit t = true ↔ g.testBit t = true ∨ ((∀ u, isI B t u → g.testBit u = true) ∧ ∀ s : Nat, (s : Int) < B 38 0 t → okS B (A 12 1) (A 23 1) t s)) := by
  obtain ⟨ib1, ib2⟩ := ib_bits hS hT ht
  have h14 := hT.1
  have hsub : (gAnd ((ibN B t : Nat) : Int) (gXor (A 5 0 3) (-1)) = 0) ↔ ∀ u, isI B t u → g.testBit u = true := by
    rw [hg, sub_n (lt14_31 ib1)]
    constructor
    · intro h u hu
      have := isI_lt hS hT ht hu
      exact h u (by omega) ((ib2 u).mpr hu)
    · intro h u _ hu; exact h u ((ib2 u).mp hu)
  unfold f_X4_makeTarget
  rw [inTc hS hT ht, ob_s]
  dsimp only [oj]
  by_cases e : gAnd ((ibN B t : Nat) : Int) (gXor (A 5 0 3) (-1)) = 0
  · rw [if_pos e]
    exact mkL hS hT ht hC0 hD0 hg hg14 (Or.inr rfl) ⟨fun _ => hsub.mp e, fun _ => rfl⟩
  · rw [if_neg e]
    exact mkL hS hT ht hC0 hD0 hg hg14 (Or.inl rfl) ⟨fun q => absurd q ne01, fun q => absurd (hsub.mpr q) e⟩
