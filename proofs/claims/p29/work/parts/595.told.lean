/-! ## p29: the law's targets -/
theorem pow15 {t : Nat} (h : t < 16) : wI (65535 - ((2 ^ t : Nat) : Int)) = 65535 - ((2 ^ t : Nat) : Int) ∧ -1 ≤ 65535 - ((2 ^ t : Nat) : Int) ∧ 65535 - ((2 ^ t : Nat) : Int) ≤ 65535 := by
  have h1 : 2 ^ t ≤ 2 ^ 15 := Nat.pow_le_pow_right (by decide) (Nat.lt_succ_iff.mp h)
  generalize 2 ^ t = x at h1
  refine ⟨wI_eq ⟨by omega, by omega⟩, by omega, by omega⟩
theorem one2 {r : Int} (h : 0 ≤ r ∧ r < 2) : wI (1 + r) = 1 + r ∧ 1 ≤ 1 + r ∧ 1 + r ≤ 2 := ⟨wI_eq ⟨by omega, by omega⟩, by omega, by omega⟩
theorem lt3 {a : Int} (h : a < 3) : a ≤ 2 := by omega
theorem lt4 {a : Int} (h : a < 4) : a ≤ 3 := by omega
theorem lt10 {a : Int} (h : a < 10) : a ≤ 9 := by omega
theorem KG3_to {k308 : Int → Int → gM → Option Unit} {xs : Nat → Int32} {L n w : Nat} {x3 x4 : Int} {M : gM} (hw : w < 1073741824) : ∃ v2 v3 v4 v5 v6, KG3 k308 xs L n x3 x4 (w : Int) M = KG6 k308 xs L n x3 x4 (gRem (wI ((w : Int).tdiv 4)) 3) v2 v3 v4 v5 v6 M ∧ okT (gRem (wI ((w : Int).tdiv 4)) 3) v2 v3 v4 v5 v6 ∧ v4 ≤ 2 := by
  have hw31 := l31 hw
  have b1 : 0 ≤ gRem (wI ((w : Int).tdiv 4)) 3 ∧ gRem (wI ((w : Int).tdiv 4)) 3 < 3 := rg_b (k := 4) (m := 3) hw31 (by decide) (by decide)
  have b2 : 0 ≤ gRem (wI ((w : Int).tdiv 12)) 4 ∧ gRem (wI ((w : Int).tdiv 12)) 4 < 4 := rg_b (k := 12) (m := 4) hw31 (by decide) (by decide)
  have b3 : 0 ≤ gRem (wI ((w : Int).tdiv 48)) 10 ∧ gRem (wI ((w : Int).tdiv 48)) 10 < 10 := rg_b (k := 48) (m := 10) hw31 (by decide) (by decide)
  have b4 : 0 ≤ gRem (wI ((w : Int).tdiv 480)) 2 ∧ gRem (wI ((w : Int).tdiv 480)) 2 < 2 := rg_b (k := 480) (m := 2) hw31 (by decide) (by decide)
  have b6 : 0 ≤ gRem (wI ((w : Int).tdiv 11)) 3 ∧ gRem (wI ((w : Int).tdiv 11)) 3 < 3 := rg_b (k := 11) (m := 3) hw31 (by decide) (by decide)
  have e7 : gRem (wI ((w : Int).tdiv 7)) 16 = ((w / 7 % 16 : Nat) : Int) := rg_n (k := 7) (m := 16) hw31 (by decide) (by decide)
  have t16 : w / 7 % 16 < 16 := Nat.mod_lt _ (by decide)
  obtain ⟨p1, p2, p3⟩ := pow15 t16
  obtain ⟨o1, o2, o3⟩ := one2 b4
  have s4 : ∀ v4, ∃ v5, KG4 k308 xs L n x3 x4 (w : Int) v4 M = KG5 k308 xs L n x3 x4 (w : Int) v4 v5 M ∧ -1 ≤ v5 ∧ v5 ≤ 65535 := fun v4 => by
    unfold KG4
    by_cases q : gRem (wI ((w : Int).tdiv 960)) 3 = 0
    · refine ⟨wI (65535 - (gShl 1 (gRem (wI ((w : Int).tdiv 7)) 16))), by rw [if_pos q], ?_⟩
      rw [e7, gShl_n (Nat.lt_of_lt_of_le t16 (by decide)), p1]
      exact ⟨p2, p3⟩
    · exact ⟨-1, by rw [if_neg q], Int.le_refl _, by decide⟩
  by_cases q : gRem (wI ((w : Int).tdiv 4)) 3 = 2
  · obtain ⟨v5, y1, y2, y3⟩ := s4 (wI (1 + (gRem (wI ((w : Int).tdiv 480)) 2)))
    refine ⟨gRem (wI ((w : Int).tdiv 12)) 4, gRem (wI ((w : Int).tdiv 48)) 10, wI (1 + (gRem (wI ((w : Int).tdiv 480)) 2)), v5, gRem (wI ((w : Int).tdiv 11)) 3, ?_, ?_, ?_⟩
    · unfold KG3
      rw [if_pos q, y1]
      unfold KG5
      rw [if_pos q]
    · rw [o1]
      exact ⟨⟨b1.1, lt3 b1.2⟩, ⟨b2.1, lt4 b2.2⟩, ⟨b3.1, lt10 b3.2⟩, ⟨o2, Int.le_trans o3 (by decide)⟩, fun z => absurd q z, ⟨y2, y3⟩, ⟨b6.1, Int.le_trans (lt3 b6.2) (by decide)⟩, fun z => absurd q z⟩
    · rw [o1]; exact o3
  · obtain ⟨v5, y1, y2, y3⟩ := s4 1
    refine ⟨gRem (wI ((w : Int).tdiv 12)) 4, gRem (wI ((w : Int).tdiv 48)) 10, 1, v5, 0, ?_, ?_, by decide⟩
    · unfold KG3
      rw [if_neg q, y1]
      unfold KG5
      rw [if_neg q]
    · exact ⟨⟨b1.1, lt3 b1.2⟩, ⟨b2.1, lt4 b2.2⟩, ⟨b3.1, lt10 b3.2⟩, ⟨by decide, by decide⟩, fun _ => rfl, ⟨y2, y3⟩, ⟨by decide, by decide⟩, fun _ => rfl⟩
/-- the mask of the tests -/
def mT (v1 : Int) (T i : Nat) : Nat := if v1 = 2 then T ||| 2 ^ i else T
theorem mT_n {v1 : Int} {T i : Nat} (hT : T < 2 ^ i) (hi : i < 14) : (if v1 = 2 then gOr (T : Int) (gShl 1 (i : Int)) else gOr (T : Int) 0) = ((mT v1 T i : Nat) : Int) ∧ mT v1 T i < 2 ^ (i + 1) ∧ ∀ u, u < i + 1 → ((mT v1 T i).testBit u = true ↔ (u = i ∧ v1 = 2) ∨ (u < i ∧ T.testBit u = true)) := by
  have hi14 : 2 ^ i < 2147483648 := Nat.lt_of_lt_of_le (Nat.pow_lt_pow_right (by decide) hi) (by decide)
  have hT31 : T < 2147483648 := Nat.lt_trans hT hi14
  have hb : T.testBit i = false := Nat.testBit_lt_two_pow hT
  unfold mT
  by_cases q : v1 = 2
  · rw [if_pos q, if_pos q]
    refine ⟨by rw [gShl_n (Nat.lt_of_lt_of_le hi (by decide)), gOr_n hT31 hi14], Nat.or_lt_two_pow (Nat.lt_trans hT (Nat.pow_lt_pow_right (by decide) (Nat.lt_succ_self i))) (Nat.pow_lt_pow_right (by decide) (Nat.lt_succ_self i)), fun u hu => ?_⟩
    rw [or_bit, pow_bit]
    constructor
    · rintro (z | z)
      · by_cases e : u = i
        · exact Or.inl ⟨e, q⟩
        · exact Or.inr ⟨by omega, z⟩
      · exact Or.inl ⟨z.symm ▸ rfl, q⟩
    · rintro (⟨z, -⟩ | ⟨-, z⟩)
      · exact Or.inr (z.symm ▸ rfl)
      · exact Or.inl z
  · rw [if_neg q, if_neg q]
    refine ⟨?_, Nat.lt_trans hT (Nat.pow_lt_pow_right (by decide) (Nat.lt_succ_self i)), fun u hu => ?_⟩
    · have := gOr_n (a := T) (b := 0) hT31 (by decide)
      rw [Nat.or_zero] at this
      exact this
    · constructor
      · intro z
        by_cases e : u = i
        · rw [e, hb] at z; cases z
        · exact Or.inr ⟨by omega, z⟩
      · rintro (⟨-, z⟩ | ⟨-, z⟩)
        · exact absurd z q
        · exact z
theorem KG_go {k308 : Int → Int → gM → Option Unit} {xs : Nat → Int32} {L n i w c T z : Nat} {x3 : Int} {A B : gM} (hw : w < 1073741824) (hi : i < 6) (h : IV T A B i c) (hz : 0 < z) (h41 : B 41 0 14 = (z : Int)) : ∃ A1 B1, KGC k308 xs L n x3 (i : Int) (w : Int) 1 A = f_P_law_L15 k308 xs L n 1 x3 ((i + 1 : Nat) : Int) A1 ∧ IV (mT (gRem (wI ((w : Int).tdiv 4)) 3) T i) A1 B1 (i + 1) (c + 1) ∧ B1 41 0 14 = 0 := by
  obtain ⟨i1, i2, i3, i4, i5, i6⟩ := id h
  have hi14 : i < 14 := Nat.lt_of_lt_of_le hi (by decide)
  obtain ⟨v2, v3, v4, v5, v6, e1, e2, e3⟩ := KG3_to (k308 := k308) (xs := xs) (L := L) (n := n) (x3 := x3) (x4 := (i : Int)) (M := A) hw
  obtain ⟨A1, B1, a1, a2, a3, a4, a5, a6, a7⟩ := tg_P i1 e2 ⟨by rw [h41]; exact Int.ofNat_lt.mpr hz, i2, hi14⟩
  obtain ⟨-, m2, m3⟩ := mT_n (v1 := gRem (wI ((w : Int).tdiv 4)) 3) i5 hi14
  have wi : wI ((i : Int) + 1) = ((i + 1 : Nat) : Int) := wI_s (by omega)
  refine ⟨A1, B1, ?_, ⟨a2, (a4 36 (by decide) (by decide)).trans i2, XE_c i3 (a4 21 (by decide) (by decide)) (fun q m => a3 q (fun y => by simp only [List.mem_cons, List.not_mem_nil, or_false] at m y; omega)), fun t ht => ?_, m2, fun u hu => ?_⟩, a5⟩
  · unfold KGC
    rw [if_neg ne10, e1]
    unfold KG6
    rw [a1, ob_s]
    unfold KG
    rw [wi]
    exact if_pos rfl
  · rw [a7]
    by_cases e : t = i
    · rw [if_pos e]; exact e3
    · rw [if_neg e]; exact i4 t (ut1 ht e)
  · rw [m3 u hu, a6]
    by_cases e : u = i
    · rw [if_pos e]
      constructor
      · rintro (⟨-, y⟩ | ⟨y, -⟩)
        · exact y
        · exact absurd e (Nat.ne_of_lt y)
      · exact fun y => Or.inl ⟨e, y⟩
    · have ui : u < i := ut1 hu e
      rw [if_neg e, ← i6 u ui]
      constructor
      · rintro (⟨y, -⟩ | ⟨-, y⟩)
        · exact absurd y e
        · exact y
      · exact fun y => Or.inr ⟨ui, y⟩
theorem cc3 {c w d : Nat} : c + (w % 2 + 1) + 1 + 3 * d ≤ c + 3 * (d + 1) := by omega
theorem L15_go {k308 : Int → Int → gM → Option Unit} {xs : Nat → Int32} {L : Nat} : ∀ (d i c T : Nat) (A B : gM), i + d = 6 → IV T A B i c → B 41 0 14 = 0 → ∃ (A' B' : gM) (T' c' : Nat), c' ≤ c + 3 * d ∧ f_P_law_L15 k308 xs L (d + 1) 1 (T : Int) (i : Int) A = k308 1 (T' : Int) A' ∧ IV T' A' B' 6 c' := by
  intro d
  induction d with
  | zero =>
    intro i c T A B hd h h41
    have i6 : i = 6 := by omega
    subst i6
    refine ⟨A, B, T, c, Nat.le_refl _, ?_, h⟩
    rw [f_P_law_L15, if_neg (by decide)]
  | succ d ih =>
    intro i c T A B hd h h41
    have hi : i < 6 := by omega
    have hii : (i : Int) < 6 := by omega
    have hi14 : i < 14 := Nat.lt_of_lt_of_le hi (by decide)
    have hd1 : i + 1 + d = 6 := by omega
    obtain ⟨w, w1, w2⟩ := drawn_P xs L i
    have w3 : w % 2 + 1 < 3 := by omega
    have w0 : 0 + (w % 2 + 1) = w % 2 + 1 := Nat.zero_add _
    obtain ⟨m1, -, -⟩ := mT_n (v1 := gRem (wI ((w : Int).tdiv 4)) 3) h.2.2.2.2.1 hi14
    obtain ⟨A1, B1, a1, a2, a3⟩ := L58_go (k189 := KGC k308 xs L (d + 1) ((mT (gRem (wI ((w : Int).tdiv 4)) 3) T i : Nat) : Int) (i : Int) (w : Int)) (xs := xs) (L := L) (z3 := ((mT (gRem (wI ((w : Int).tdiv 4)) 3) T i : Nat) : Int)) w1 hi14 (w % 2 + 1) 0 3 c A B w0 w3 h h41
    obtain ⟨A2, B2, b1, b2, b3⟩ := KG_go (k308 := k308) (xs := xs) (L := L) (n := d + 1) (x3 := ((mT (gRem (wI ((w : Int).tdiv 4)) 3) T i : Nat) : Int)) w1 hi a2 (Nat.succ_pos _) a3
    obtain ⟨A', B', T', c', y1, y2, y3⟩ := ih (i + 1) _ _ A2 B2 hd1 b2 b3
    refine ⟨A', B', T', c', Nat.le_trans y1 cc3, ?_, y3⟩
    rw [L15_eq hii, w2, ob_s]
    refine Eq.trans ?_ (a1.trans (b1.trans y2))
    rw [← m1]
    by_cases q : gRem (wI ((w : Int).tdiv 4)) 3 = 2
    · rw [if_pos q, if_pos q]
      rfl
    · rw [if_neg q, if_neg q]
      rfl
