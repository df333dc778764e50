/-! ## p29: the law's first loops: what is drawn, the inputs, the targets -/
theorem and30 (x : Int) : ∃ w : Nat, w < 1073741824 ∧ gAnd x 1073741823 = (w : Int) := by
  refine ⟨(iI x).toBitVec.toNat % 1073741824, Nat.mod_lt _ (by decide), ?_⟩
  have e : ((iI x &&& iI 1073741823).toBitVec).toNat = (iI x).toBitVec.toNat % 1073741824 := by
    rw [Int32.toBitVec_and, BitVec.toNat_and]
    have q : (iI 1073741823).toBitVec.toNat = 2 ^ 30 - 1 := by decide
    rw [q, Nat.and_two_pow_sub_one_eq_mod]
  unfold gAnd
  show ((iI x &&& iI 1073741823).toBitVec).toInt = _
  rw [BitVec.toInt_eq_toNat_of_lt (by rw [e]; have := Nat.mod_lt (iI x).toBitVec.toNat (show 0 < 1073741824 by decide); omega), e]
theorem drawn_P (xs : Nat → Int32) (L : Nat) (i : Nat) : ∃ w : Nat, w < 1073741824 ∧ f_P_drawn xs L (i : Int) = some (w : Int) := by
  unfold f_P_drawn
  dsimp only [oj]
  by_cases h : (i : Int) < (L : Int)
  · obtain ⟨w, w1, w2⟩ := and30 (gXs xs (i : Int).toNat)
    refine ⟨w, w1, ?_⟩
    rw [if_pos h, og_t ⟨Int.natCast_nonneg _, h⟩, w2]
  · obtain ⟨w, w1, w2⟩ := and30 (wI ((wI (12437 * (i : Int))) + 7309))
    refine ⟨w, w1, ?_⟩
    rw [if_neg h, w2]
theorem l31 {w : Nat} (h : w < 1073741824) : w < 2147483648 := by omega
theorem dv_n {d k : Nat} (hd : d < 2147483648) : wI ((d : Int).tdiv (k : Int)) = ((d / k : Nat) : Int) := by
  rw [← Int.ofNat_tdiv]
  exact wI_n (Nat.lt_of_le_of_lt (Nat.div_le_self d k) hd)
theorem rg_n {d k m : Nat} (hd : d < 2147483648) (hm : 0 < m) (hm2 : m < 2147483648) : gRem (wI ((d : Int).tdiv (k : Int))) (m : Int) = ((d / k % m : Nat) : Int) := by
  rw [dv_n hd, gRem_n (Nat.lt_of_le_of_lt (Nat.div_le_self d k) hd) hm hm2]
theorem rg_b {d k m : Nat} (hd : d < 2147483648) (hm : 0 < m) (hm2 : m < 2147483648) : 0 ≤ gRem (wI ((d : Int).tdiv (k : Int))) (m : Int) ∧ gRem (wI ((d : Int).tdiv (k : Int))) (m : Int) < (m : Int) := by
  rw [rg_n hd hm hm2]
  exact ⟨Int.natCast_nonneg _, Int.ofNat_lt.mpr (Nat.mod_lt _ hm)⟩
def dI (z5 x6 : Int) : Int := wI ((wI (z5.tdiv 2)) + (wI (37 * x6)))
theorem dI_n {w j : Nat} (hw : w < 1073741824) (hj : j < 4) : ∃ d : Nat, d < 2147483648 ∧ dI (w : Int) (j : Int) = (d : Int) := by
  have e1 : wI ((w : Int).tdiv 2) = ((w / 2 : Nat) : Int) := dv_n (k := 2) (l31 hw)
  have e2 : wI (37 * (j : Int)) = ((37 * j : Nat) : Int) := by
    rw [show 37 * (j : Int) = ((37 * j : Nat) : Int) by omega, wI_n (by omega)]
  have e3 : w / 2 + 37 * j < 2147483648 := by omega
  refine ⟨w / 2 + 37 * j, e3, ?_⟩
  unfold dI
  rw [e1, e2, show ((w / 2 : Nat) : Int) + ((37 * j : Nat) : Int) = ((w / 2 + 37 * j : Nat) : Int) by omega, wI_n e3]
/-- an input told, and the next -/
def KN4 (k189 : Int → gM → Option Unit) (xs : Nat → Int32) (L : Nat) (z3 z4 z5 : Int) (n : Nat) (x6 v1 v2 v3 v4 : Int) (M : gM) : Option Unit := ob (f_P_input v1 v2 v3 v4 M) fun r167 => if r167.1 = wI (x6 + 1) then f_P_law_L58 k189 xs L z3 z4 z5 n 1 (wI (x6 + 1)) r167.2 else f_P_law_L58 k189 xs L z3 z4 z5 n 0 (wI (x6 + 1)) r167.2
def KN1 (k189 : Int → gM → Option Unit) (xs : Nat → Int32) (L : Nat) (z3 z4 z5 : Int) (n : Nat) (x6 v1 : Int) (M : gM) : Option Unit := if gRem (dI z5 x6) 3 = 0 then (if gRem (dI z5 x6) 3 = 0 then (if gRem (dI z5 x6) 3 = 0 then KN4 k189 xs L z3 z4 z5 n x6 v1 (gRem (wI ((dI z5 x6).tdiv 3)) 16) (gRem (wI ((dI z5 x6).tdiv 5)) 4) 1 M else KN4 k189 xs L z3 z4 z5 n x6 v1 (gRem (wI ((dI z5 x6).tdiv 3)) 16) (gRem (wI ((dI z5 x6).tdiv 5)) 4) 0 M) else (if gRem (dI z5 x6) 3 = 0 then KN4 k189 xs L z3 z4 z5 n x6 v1 (gRem (wI ((dI z5 x6).tdiv 3)) 16) 0 1 M else KN4 k189 xs L z3 z4 z5 n x6 v1 (gRem (wI ((dI z5 x6).tdiv 3)) 16) 0 0 M)) else (if gRem (dI z5 x6) 3 = 0 then (if gRem (dI z5 x6) 3 = 0 then KN4 k189 xs L z3 z4 z5 n x6 v1 (-1) (gRem (wI ((dI z5 x6).tdiv 5)) 4) 1 M else KN4 k189 xs L z3 z4 z5 n x6 v1 (-1) (gRem (wI ((dI z5 x6).tdiv 5)) 4) 0 M) else (if gRem (dI z5 x6) 3 = 0 then KN4 k189 xs L z3 z4 z5 n x6 v1 (-1) 0 1 M else KN4 k189 xs L z3 z4 z5 n x6 v1 (-1) 0 0 M))
theorem L58_eq {k189 : Int → gM → Option Unit} {xs : Nat → Int32} {L n : Nat} {z3 z4 z5 x6 : Int} {M : gM} : f_P_law_L58 k189 xs L z3 z4 z5 (n + 1) 1 x6 M = if gRem z5 2 < x6 then k189 1 M else (if gRem (dI z5 x6) 2 = 0 then (if 0 < z4 then (og (¬ z4 = 0) <| KN1 k189 xs L z3 z4 z5 n x6 (wI (16 + (gRem (wI ((dI z5 x6).tdiv 2)) z4))) M) else KN1 k189 xs L z3 z4 z5 n x6 (gRem (wI ((dI z5 x6).tdiv 2)) 16) M) else KN1 k189 xs L z3 z4 z5 n x6 (gRem (wI ((dI z5 x6).tdiv 2)) 16) M) := by
  rw [f_P_law_L58, if_neg ne10]
  rfl
theorem KN1_to {k189 : Int → gM → Option Unit} {xs : Nat → Int32} {L n j w : Nat} {z3 z4 v1 : Int} {M : gM} (hw : w < 1073741824) (hj : j < 4) (hv : 0 ≤ v1) : ∃ v2 v3 v4, KN1 k189 xs L z3 z4 (w : Int) n (j : Int) v1 M = KN4 k189 xs L z3 z4 (w : Int) n (j : Int) v1 v2 v3 v4 M ∧ okIn v1 v2 v3 v4 ∧ v2 < 16 := by
  obtain ⟨d, d1, d2⟩ := dI_n hw hj
  unfold KN1
  by_cases q : gRem (dI (w : Int) (j : Int)) 3 = 0
  · refine ⟨gRem (wI ((dI (w : Int) (j : Int)).tdiv 3)) 16, gRem (wI ((dI (w : Int) (j : Int)).tdiv 5)) 4, 1, ?_, ?_⟩
    · rw [if_pos q, if_pos q, if_pos q]
    · have b1 : 0 ≤ gRem (wI ((d : Int).tdiv 3)) 16 ∧ gRem (wI ((d : Int).tdiv 3)) 16 < 16 := rg_b (k := 3) (m := 16) d1 (by decide) (by decide)
      have b2 : 0 ≤ gRem (wI ((d : Int).tdiv 5)) 4 ∧ gRem (wI ((d : Int).tdiv 5)) 4 < 4 := rg_b (k := 5) (m := 4) d1 (by decide) (by decide)
      rw [d2]
      exact ⟨⟨hv, Int.le_trans (by decide) b1.1, Or.inr ⟨fun z => by rw [z] at b1; exact absurd b1.1 (by decide), ⟨b2.1, b2.2⟩, by decide, by decide⟩⟩, b1.2⟩
  · refine ⟨-1, 0, 0, ?_, ⟨hv, Int.le_refl _, Or.inl ⟨rfl, rfl, rfl⟩⟩, by decide⟩
    rw [if_neg q, if_neg q, if_neg q]
theorem w16 {r i : Nat} (h : r < i) (hi : i < 14) : wI (16 + (r : Int)) = ((16 + r : Nat) : Int) ∧ (0 : Int) ≤ ((16 + r : Nat) : Int) ∧ ((16 + r : Nat) : Int) < 16 + (i : Int) ∧ nmI ((16 + r : Nat) : Int) := by
  refine ⟨by rw [show (16 : Int) + (r : Int) = ((16 + r : Nat) : Int) by omega, wI_n (by omega)], Int.natCast_nonneg _, by omega, ⟨by omega, by omega⟩⟩
theorem v16 {v : Int} {i : Nat} (h : 0 ≤ v ∧ v < 16) : 0 ≤ v ∧ v < 16 + (i : Int) ∧ nmI v := ⟨h.1, by omega, ⟨by omega, by omega⟩⟩
theorem v2n {v1 v2 v3 v4 : Int} {i : Nat} (h : okIn v1 v2 v3 v4) (h2 : v2 < 16) : nmI v2 ∧ v2 < 16 + (i : Int) := by
  obtain ⟨-, h3, -⟩ := h
  exact ⟨⟨by omega, by omega⟩, by omega⟩
theorem KN_go {k189 : Int → gM → Option Unit} {xs : Nat → Int32} {L n i j w c T : Nat} {z3 v1 : Int} {A B : gM} (hw : w < 1073741824) (hj : j < 4) (hi : i < 14) (h : IV T A B i c) (h41 : B 41 0 14 = (j : Int)) (hv : 0 ≤ v1 ∧ v1 < 16 + (i : Int) ∧ nmI v1) : ∃ A1 B1, KN1 k189 xs L z3 (i : Int) (w : Int) n (j : Int) v1 A = f_P_law_L58 k189 xs L z3 (i : Int) (w : Int) n 1 ((j + 1 : Nat) : Int) A1 ∧ IV T A1 B1 i (c + 1) ∧ B1 41 0 14 = ((j + 1 : Nat) : Int) := by
  obtain ⟨v2, v3, v4, e1, e2, e3⟩ := KN1_to (k189 := k189) (xs := xs) (L := L) (n := n) (z3 := z3) (z4 := (i : Int)) (M := A) hw hj hv.1
  obtain ⟨n2, q2⟩ := v2n (i := i) e2 e3
  obtain ⟨A1, B1, a1, a2, a3, a4, a5⟩ := in_P h.1 hv.2.2 n2 e2 ⟨hv.2.1, q2⟩ hj h41
  have wj : wI ((j : Int) + 1) = ((j + 1 : Nat) : Int) := wI_s (by omega)
  have wj2 : (j : Int) + 1 = ((j + 1 : Nat) : Int) := rfl
  refine ⟨A1, B1, ?_, IV_fr h a2 (a4 36 (by decide)) (a4 21 (by decide)) (fun q m => a3 q (fun z => by simp only [List.mem_cons, List.not_mem_nil, or_false] at m z; omega)), a5⟩
  rw [e1]
  unfold KN4
  rw [a1, ob_s, wj]
  exact if_pos rfl
theorem L58_go {k189 : Int → gM → Option Unit} {xs : Nat → Int32} {L i w T : Nat} {z3 : Int} (hw : w < 1073741824) (hi : i < 14) : ∀ (d j n c : Nat) (A B : gM), j + d = w % 2 + 1 → d < n → IV T A B i c → B 41 0 14 = (j : Int) → ∃ A' B', f_P_law_L58 k189 xs L z3 (i : Int) (w : Int) n 1 (j : Int) A = k189 1 A' ∧ IV T A' B' i (c + d) ∧ B' 41 0 14 = ((w % 2 + 1 : Nat) : Int) := by
  have e2 : gRem (w : Int) 2 = ((w % 2 : Nat) : Int) := gRem_n (b := 2) (l31 hw) (by decide) (by decide)
  intro d
  induction d with
  | zero =>
    intro j n c A B hd hn h h41
    obtain ⟨n', rfl⟩ : ∃ n', n = n' + 1 := ⟨n - 1, by omega⟩
    have hj : ((w % 2 : Nat) : Int) < (j : Int) := by omega
    refine ⟨A, B, ?_, h, by rw [h41]; exact congrArg _ (by omega)⟩
    rw [L58_eq, e2, if_pos hj]
  | succ d ih =>
    intro j n c A B hd hn h h41
    obtain ⟨n', rfl⟩ : ∃ n', n = n' + 1 := ⟨n - 1, by omega⟩
    have hj : ¬ ((w % 2 : Nat) : Int) < (j : Int) := by omega
    have hj4 : j < 4 := by omega
    have hd1 : j + 1 + d = w % 2 + 1 := by omega
    have hn1 : d < n' := by omega
    have hc1 : c + 1 + d = c + (d + 1) := by omega
    obtain ⟨x, x1, x2⟩ := dI_n hw hj4
    have go : ∀ v1 : Int, 0 ≤ v1 ∧ v1 < 16 + (i : Int) ∧ nmI v1 → ∃ A' B', KN1 k189 xs L z3 (i : Int) (w : Int) n' (j : Int) v1 A = k189 1 A' ∧ IV T A' B' i (c + (d + 1)) ∧ B' 41 0 14 = ((w % 2 + 1 : Nat) : Int) := fun v1 hv => by
      obtain ⟨A1, B1, a1, a2, a3⟩ := KN_go (k189 := k189) (xs := xs) (L := L) (n := n') (z3 := z3) hw hj4 hi h h41 hv
      obtain ⟨A', B', y1, y2, y3⟩ := ih (j + 1) n' (c + 1) A1 B1 hd1 hn1 a2 a3
      exact ⟨A', B', a1.trans y1, by rw [← hc1]; exact y2, y3⟩
    have b16 := rg_b (k := 2) (m := 16) x1 (by decide) (by decide)
    rw [L58_eq, e2, if_neg hj]
    by_cases q : gRem (dI (w : Int) (j : Int)) 2 = 0
    · by_cases q2 : 0 < (i : Int)
      · have hi0 : 0 < i := Int.ofNat_lt.mp q2
        have qn : ¬ (i : Int) = 0 := fun z => by rw [z] at q2; exact absurd q2 (by decide)
        have er : gRem (wI ((x : Int).tdiv 2)) (i : Int) = ((x / 2 % i : Nat) : Int) := rg_n (k := 2) (m := i) x1 hi0 (Nat.lt_of_lt_of_le hi (by decide))
        obtain ⟨y1, y2, y3, y4⟩ := w16 (Nat.mod_lt (x / 2) hi0) hi
        rw [if_pos q, if_pos q2, og_t qn, x2, er, y1]
        exact go _ ⟨y2, y3, y4⟩
      · rw [if_pos q, if_neg q2, x2]
        exact go _ (v16 b16)
    · rw [if_neg q, x2]
      exact go _ (v16 b16)
/-- a target told, and the next -/
def KG (k308 : Int → Int → gM → Option Unit) (xs : Nat → Int32) (L n : Nat) (x3 x4 s : Int) (M : gM) : Option Unit := f_P_law_L15 k308 xs L n s x3 (wI (x4 + 1)) M
def KG6 (k308 : Int → Int → gM → Option Unit) (xs : Nat → Int32) (L n : Nat) (x3 x4 v1 v2 v3 v4 v5 v6 : Int) (M : gM) : Option Unit := ob (f_P_target v1 v2 v3 v4 v5 v6 M) fun r288 => if r288.1 = x4 then KG k308 xs L n x3 x4 1 r288.2 else KG k308 xs L n x3 x4 0 r288.2
def KG5 (k308 : Int → Int → gM → Option Unit) (xs : Nat → Int32) (L n : Nat) (x3 x4 z v4 v5 : Int) (M : gM) : Option Unit := if gRem (wI (z.tdiv 4)) 3 = 2 then KG6 k308 xs L n x3 x4 (gRem (wI (z.tdiv 4)) 3) (gRem (wI (z.tdiv 12)) 4) (gRem (wI (z.tdiv 48)) 10) v4 v5 (gRem (wI (z.tdiv 11)) 3) M else KG6 k308 xs L n x3 x4 (gRem (wI (z.tdiv 4)) 3) (gRem (wI (z.tdiv 12)) 4) (gRem (wI (z.tdiv 48)) 10) v4 v5 0 M
def KG4 (k308 : Int → Int → gM → Option Unit) (xs : Nat → Int32) (L n : Nat) (x3 x4 z v4 : Int) (M : gM) : Option Unit := if gRem (wI (z.tdiv 960)) 3 = 0 then KG5 k308 xs L n x3 x4 z v4 (wI (65535 - (gShl 1 (gRem (wI (z.tdiv 7)) 16)))) M else KG5 k308 xs L n x3 x4 z v4 (-1) M
def KG3 (k308 : Int → Int → gM → Option Unit) (xs : Nat → Int32) (L n : Nat) (x3 x4 z : Int) (M : gM) : Option Unit := if gRem (wI (z.tdiv 4)) 3 = 2 then KG4 k308 xs L n x3 x4 z (wI (1 + (gRem (wI (z.tdiv 480)) 2))) M else KG4 k308 xs L n x3 x4 z 1 M
def KGC (k308 : Int → Int → gM → Option Unit) (xs : Nat → Int32) (L n : Nat) (x3 x4 z s : Int) (M : gM) : Option Unit := if s = 0 then KG k308 xs L n x3 x4 0 M else KG3 k308 xs L n x3 x4 z M
theorem L15_eq {k308 : Int → Int → gM → Option Unit} {xs : Nat → Int32} {L n : Nat} {x3 x4 : Int} {M : gM} (h : x4 < 6) : f_P_law_L15 k308 xs L (n + 1) 1 x3 x4 M = ob (f_P_drawn xs L x4) fun z => if gRem (wI (z.tdiv 4)) 3 = 2 then f_P_law_L58 (KGC k308 xs L n (gOr x3 (gShl 1 x4)) x4 z) xs L (gOr x3 (gShl 1 x4)) x4 z 3 1 0 M else f_P_law_L58 (KGC k308 xs L n (gOr x3 0) x4 z) xs L (gOr x3 0) x4 z 3 1 0 M := by
  rw [f_P_law_L15, if_pos h, if_neg ne10]
  rfl
