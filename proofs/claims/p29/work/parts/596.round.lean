/-! ## p29: the law's rounds -/
theorem PW_c {B B' : gM} (h : PW B) (h53 : B' 53 = B 53) : PW B' := by
  obtain ⟨w, w1, w2⟩ := h
  exact ⟨w, w1, by rw [h53]; exact w2⟩
def KP6 (k396 : Int → gM → Option Unit) (xs : Nat → Int32) (L : Nat) (z3 z4 z5 : Int) (n : Nat) (x6 v : Int) (M : gM) : Option Unit := ob (f_P_does 4 x6 v M) fun r378 => if r378.1 < 0 then f_P_law_L336 k396 xs L z3 z4 z5 n 0 (wI (x6 + 1)) r378.2 else f_P_law_L336 k396 xs L z3 z4 z5 n 1 (wI (x6 + 1)) r378.2
theorem L336_eq {k396 : Int → gM → Option Unit} {xs : Nat → Int32} {L n : Nat} {z3 z4 z5 x6 : Int} {M : gM} (h : x6 < 4) : f_P_law_L336 k396 xs L z3 z4 z5 (n + 1) 1 x6 M = if x6 = gRem z5 4 then KP6 k396 xs L z3 z4 z5 n x6 (wI (1 + (gRem (wI (z5.tdiv 4)) 9))) M else KP6 k396 xs L z3 z4 z5 n x6 (gRem (wI (z5.tdiv 36)) 3) M := by
  rw [f_P_law_L336, if_pos h, if_neg ne10]
  rfl
theorem one9 {r : Int} (h : 0 ≤ r ∧ r < 9) : wI (1 + r) = 1 + r ∧ (0 ≤ 1 + r ∧ 1 + r ≤ 9) ∧ 0 < 1 + r := ⟨wI_eq ⟨by omega, by omega⟩, ⟨by omega, by omega⟩, by omega⟩
theorem w41 {i : Nat} (h : i < 4) : wI ((i : Int) + 1) = ((i + 1 : Nat) : Int) := wI_s (by omega)
theorem L336_go {k396 : Int → gM → Option Unit} {xs : Nat → Int32} {L w T : Nat} {z3 z4 : Int} (hw : w < 1073741824) : ∀ (d i c : Nat) (A B : gM), i + d = 4 → IV T A B 6 c → (w % 4 < i → 0 < B 53 0 (w % 4)) → ∃ A' B' : gM, f_P_law_L336 k396 xs L z3 z4 (w : Int) (d + 1) 1 (i : Int) A = k396 1 A' ∧ IV T A' B' 6 (c + d) ∧ PW B' := by
  have hw31 := l31 hw
  have e4 : gRem (w : Int) 4 = ((w % 4 : Nat) : Int) := gRem_n (b := 4) hw31 (by decide) (by decide)
  have w4 : w % 4 < 4 := Nat.mod_lt _ (by decide)
  have b9 : 0 ≤ gRem (wI ((w : Int).tdiv 4)) 9 ∧ gRem (wI ((w : Int).tdiv 4)) 9 < 9 := rg_b (k := 4) (m := 9) hw31 (by decide) (by decide)
  have b3 : 0 ≤ gRem (wI ((w : Int).tdiv 36)) 3 ∧ gRem (wI ((w : Int).tdiv 36)) 3 < 3 := rg_b (k := 36) (m := 3) hw31 (by decide) (by decide)
  have b3' : gRem (wI ((w : Int).tdiv 36)) 3 ≤ 9 := Int.le_trans (lt3 b3.2) (by decide)
  obtain ⟨o1, o2, o3⟩ := one9 b9
  intro d
  induction d with
  | zero =>
    intro i c A B hd h hp
    have i4 : i = 4 := by omega
    subst i4
    exact ⟨A, B, by rw [f_P_law_L336, if_neg (by decide)], h, w % 4, w4, hp w4⟩
  | succ d ih =>
    intro i c A B hd h hp
    have hi : i < 4 := by omega
    have hii : (i : Int) < 4 := by omega
    have hd1 : i + 1 + d = 4 := by omega
    have hc1 : c + 1 + d = c + (d + 1) := by omega
    have go : ∀ v : Int, 0 ≤ v ∧ v ≤ 9 → (w % 4 = i → 0 < v) → ∃ A' B' : gM, KP6 k396 xs L z3 z4 (w : Int) (d + 1) (i : Int) v A = k396 1 A' ∧ IV T A' B' 6 (c + (d + 1)) ∧ PW B' := fun v hv hv0 => by
      obtain ⟨A1, B1, r, a1, a2, a3, a4, a5, a6, a7⟩ := po_P h.1 hi hv
      obtain ⟨A', B', y1, y2, y3⟩ := ih (i + 1) (c + 1) A1 B1 hd1 (IV_fr h a3 (a5 36 (by decide)) (a5 21 (by decide)) (fun q m => a4 q (fun y => by simp only [List.mem_cons, List.not_mem_nil, or_false] at m y; omega))) (fun q => by
        by_cases e : w % 4 = i
        · rw [e, a7]; exact hv0 e
        · rw [a6 _ e]; exact hp (ut1 q e))
      refine ⟨A', B', ?_, by rw [← hc1]; exact y2, y3⟩
      unfold KP6
      rw [a1, ob_s, w41 hi]
      exact (if_neg (Int.not_lt.mpr a2)).trans y1
    rw [L336_eq hii, e4]
    by_cases q : (i : Int) = ((w % 4 : Nat) : Int)
    · rw [if_pos q, o1]
      exact go _ o2 (fun _ => o3)
    · rw [if_neg q]
      exact go _ ⟨b3.1, b3'⟩ (fun z => absurd (by rw [z]) q)
def KR5 (k556 : Int → gM → Option Unit) (xs : Nat → Int32) (L n : Nat) (z3 x4 z y2 r : Int) (M : gM) : Option Unit := if y2 = 0 then f_P_law_L311 k556 xs L z3 n 0 (wI (x4 + 1)) M else (if r < 0 then f_P_law_L311 k556 xs L z3 n 0 (wI (x4 + 1)) M else (ob (f_P_isKept (wI (1 + (gRem (wI (z.tdiv 31)) 63))) z3 M) fun r538 => if r538.1 = 0 then f_P_law_L311 k556 xs L z3 n 0 (wI (x4 + 1)) r538.2 else f_P_law_L311 k556 xs L z3 n 1 (wI (x4 + 1)) r538.2))
def KR2 (k556 : Int → gM → Option Unit) (xs : Nat → Int32) (L n : Nat) (z3 x4 z y2 x1 x2 : Int) (M : gM) : Option Unit := if gRem (wI (z.tdiv 108)) 3 = 0 then (ob (f_P_does 0 (gRem (wI (z.tdiv 324)) 16) (gRem (wI (z.tdiv 5184)) 20) ((f_X11_setWays x1 x2 M))) fun r458 => KR5 k556 xs L n z3 x4 z y2 r458.1 r458.2) else (if gRem (wI (z.tdiv 108)) 3 = 1 then (ob (f_P_does 1 (gRem (wI (z.tdiv 324)) 4) (gRem (wI (z.tdiv 1296)) 2) ((f_X11_setWays x1 x2 M))) fun r488 => KR5 k556 xs L n z3 x4 z y2 r488.1 r488.2) else (ob (f_P_does 2 (gRem (wI (z.tdiv 324)) 4) (gRem (wI (z.tdiv 1296)) 3) ((f_X11_setWays x1 x2 M))) fun r512 => KR5 k556 xs L n z3 x4 z y2 r512.1 r512.2))
def KR1 (k556 : Int → gM → Option Unit) (xs : Nat → Int32) (L n : Nat) (z3 x4 z y2 x1 : Int) (M : gM) : Option Unit := if gRem z 2 = 0 then KR2 k556 xs L n z3 x4 z y2 x1 1 M else KR2 k556 xs L n z3 x4 z y2 x1 0 M
def KR0 (k556 : Int → gM → Option Unit) (xs : Nat → Int32) (L n : Nat) (z3 x4 z y2 : Int) (M : gM) : Option Unit := if 0 < gRem z 3 then KR1 k556 xs L n z3 x4 z y2 1 M else KR1 k556 xs L n z3 x4 z y2 0 M
theorem L311_eq {k556 : Int → gM → Option Unit} {xs : Nat → Int32} {L n : Nat} {z3 x4 : Int} {M : gM} (h : x4 < 9) : f_P_law_L311 k556 xs L z3 (n + 1) 1 x4 M = ob (f_P_drawn xs L (wI (6 + x4))) fun z => f_P_law_L336 (KR0 k556 xs L n z3 x4 z) xs L z3 x4 z 5 1 0 M := by
  rw [f_P_law_L311, if_pos h, if_neg ne10]
  rfl
theorem one63 {r : Nat} (h : r < 63) : wI (1 + (r : Int)) = ((1 + r : Nat) : Int) ∧ 0 < 1 + r ∧ 1 + r < 64 := ⟨by rw [show (1 : Int) + (r : Int) = ((1 + r : Nat) : Int) by omega, wI_n (by omega)], by omega, by omega⟩
theorem w91 {k : Nat} (h : k < 9) : wI ((k : Int) + 1) = ((k + 1 : Nat) : Int) ∧ wI (6 + (k : Int)) = ((6 + k : Nat) : Int) := ⟨wI_s (by omega), by rw [show (6 : Int) + (k : Int) = ((6 + k : Nat) : Int) by omega, wI_n (by omega)]⟩
theorem KR5_go {k556 : Int → gM → Option Unit} {xs : Nat → Int32} {L n w T c k : Nat} {r : Int} {A B : gM} (hw : w < 1073741824) (hk : k < 9) (hr : 0 ≤ r) (h : IV T A B 6 c) (hp : PW B) (hc : c + 40 < 600) : ∃ A' B' c', c' ≤ c + 40 ∧ KR5 k556 xs L n (T : Int) (k : Int) (w : Int) 1 r A = f_P_law_L311 k556 xs L (T : Int) n 1 ((k + 1 : Nat) : Int) A' ∧ IV T A' B' 6 c' := by
  obtain ⟨i1, i2, i3, i4, i5, i6⟩ := h
  have e31 : gRem (wI ((w : Int).tdiv 31)) 63 = ((w / 31 % 63 : Nat) : Int) := rg_n (k := 31) (m := 63) (l31 hw) (by decide) (by decide)
  obtain ⟨o1, o2, o3⟩ := one63 (Nat.mod_lt (w / 31) (show 0 < 63 by decide))
  obtain ⟨A', B', c', k1, k2, k3, k4, k5, k6, k7⟩ := keptP hc i1 i2 i3 i4 hp o2 o3 (Nat.lt_of_lt_of_le i5 (by decide)) i6
  refine ⟨A', B', c', k1, ?_, k3, k4, k5, by rw [k7]; exact i4, i5, by rw [k6]; exact i6⟩
  unfold KR5
  rw [if_neg ne10, if_neg (Int.not_lt.mpr hr), e31, o1, k2, ob_s, (w91 hk).1]
  exact if_neg ne10
theorem KR2_go {k556 : Int → gM → Option Unit} {xs : Nat → Int32} {L n w T c k : Nat} {x1 x2 : Int} {A B : gM} (hw : w < 1073741824) (hk : k < 9) (hx1 : x1 = 0 ∨ x1 = 1) (hx2 : x2 = 0 ∨ x2 = 1) (h : IV T A B 6 c) (hp : PW B) (hc : c + 1 + 1 + 40 < 600) : ∃ A' B' c', c' ≤ c + 1 + 1 + 40 ∧ KR2 k556 xs L n (T : Int) (k : Int) (w : Int) 1 x1 x2 A = f_P_law_L311 k556 xs L (T : Int) n 1 ((k + 1 : Nat) : Int) A' ∧ IV T A' B' 6 c' := by
  have hw31 := l31 hw
  obtain ⟨B1, s1, s2, s3⟩ := sw_P hx1 hx2 h.1
  have h1 : IV T (f_X11_setWays x1 x2 A) B1 6 (c + 1) := IV_fr h s1 (s3 36 (by decide) (by decide)) (s3 21 (by decide) (by decide)) (fun q m => s2 q (fun y => by simp only [List.mem_cons, List.not_mem_nil, or_false] at m y; omega))
  have p1 : PW B1 := PW_c hp (But_q s2 rfl)
  have fin : ∀ (A2 B2 : gM) (r : Int), 0 ≤ r → RA 6 (c + 1 + 1) A2 B2 → But [29, 30, 31, 32, 33, 34] B2 B1 → (∀ j, j ≠ 0 → j ≠ 4 → B2 29 0 j = B1 29 0 j) → ∃ A' B' c', c' ≤ c + 1 + 1 + 40 ∧ KR5 k556 xs L n (T : Int) (k : Int) (w : Int) 1 r A2 = f_P_law_L311 k556 xs L (T : Int) n 1 ((k + 1 : Nat) : Int) A' ∧ IV T A' B' 6 c' := fun A2 B2 r hr a2 a3 a4 =>
    KR5_go hw hk hr (IV_fr h1 a2 (a4 36 (by decide) (by decide)) (a4 21 (by decide) (by decide)) (fun q m => a3 q (fun y => by simp only [List.mem_cons, List.not_mem_nil, or_false] at m y; omega))) (PW_c p1 (But_q a3 rfl)) hc
  have e16 : gRem (wI ((w : Int).tdiv 324)) 16 = ((w / 324 % 16 : Nat) : Int) := rg_n (k := 324) (m := 16) hw31 (by decide) (by decide)
  have e4 : gRem (wI ((w : Int).tdiv 324)) 4 = ((w / 324 % 4 : Nat) : Int) := rg_n (k := 324) (m := 4) hw31 (by decide) (by decide)
  have b20 : 0 ≤ gRem (wI ((w : Int).tdiv 5184)) 20 ∧ gRem (wI ((w : Int).tdiv 5184)) 20 < 20 := rg_b (k := 5184) (m := 20) hw31 (by decide) (by decide)
  have b2 : 0 ≤ gRem (wI ((w : Int).tdiv 1296)) 2 ∧ gRem (wI ((w : Int).tdiv 1296)) 2 < 2 := rg_b (k := 1296) (m := 2) hw31 (by decide) (by decide)
  have b3 : 0 ≤ gRem (wI ((w : Int).tdiv 1296)) 3 ∧ gRem (wI ((w : Int).tdiv 1296)) 3 < 3 := rg_b (k := 1296) (m := 3) hw31 (by decide) (by decide)
  have t20 : gRem (wI ((w : Int).tdiv 5184)) 20 ≤ 999 := Int.le_trans (Int.le_of_lt b20.2) (by decide)
  have t2 : gRem (wI ((w : Int).tdiv 1296)) 2 ≤ 9 := Int.le_trans (Int.le_of_lt b2.2) (by decide)
  have t3 : gRem (wI ((w : Int).tdiv 1296)) 3 ≤ 9 := Int.le_trans (Int.le_of_lt b3.2) (by decide)
  unfold KR2
  by_cases q : gRem (wI ((w : Int).tdiv 108)) 3 = 0
  · obtain ⟨A2, B2, r, a1, a2, a3, a4, a5⟩ := wr_P h1.1 (Nat.mod_lt (w / 324) (show 0 < 16 by decide)) ⟨b20.1, t20⟩
    obtain ⟨A', B', c', y1, y2, y3⟩ := fin A2 B2 r a2 a3 a4 a5
    refine ⟨A', B', c', y1, ?_, y3⟩
    rw [if_pos q, e16, a1, ob_s]
    exact y2
  · by_cases q2 : gRem (wI ((w : Int).tdiv 108)) 3 = 1
    · obtain ⟨A2, B2, r, a1, a2, a3, a4, a5⟩ := se_P h1.1 h1.2.1 (Nat.mod_lt (w / 324) (show 0 < 4 by decide)) ⟨b2.1, t2⟩
      obtain ⟨A', B', c', y1, y2, y3⟩ := fin A2 B2 r a2 a3 a4 a5
      refine ⟨A', B', c', y1, ?_, y3⟩
      rw [if_neg q, if_pos q2, e4, a1, ob_s]
      exact y2
    · obtain ⟨A2, B2, r, a1, a2, a3, a4, a5⟩ := st_P h1.1 h1.2.1 (Nat.mod_lt (w / 324) (show 0 < 4 by decide)) ⟨b3.1, t3⟩
      obtain ⟨A', B', c', y1, y2, y3⟩ := fin A2 B2 r a2 a3 a4 a5
      refine ⟨A', B', c', y1, ?_, y3⟩
      rw [if_neg q, if_neg q2, e4, a1, ob_s]
      exact y2
theorem KR0_go {k556 : Int → gM → Option Unit} {xs : Nat → Int32} {L n w T c k : Nat} {A B : gM} (hw : w < 1073741824) (hk : k < 9) (h : IV T A B 6 c) (hp : PW B) (hc : c + 1 + 1 + 40 < 600) : ∃ A' B' c', c' ≤ c + 1 + 1 + 40 ∧ KR0 k556 xs L n (T : Int) (k : Int) (w : Int) 1 A = f_P_law_L311 k556 xs L (T : Int) n 1 ((k + 1 : Nat) : Int) A' ∧ IV T A' B' 6 c' := by
  unfold KR0 KR1
  by_cases q : 0 < gRem (w : Int) 3
  · by_cases q2 : gRem (w : Int) 2 = 0
    · rw [if_pos q, if_pos q2]; exact KR2_go hw hk (Or.inr rfl) (Or.inr rfl) h hp hc
    · rw [if_pos q, if_neg q2]; exact KR2_go hw hk (Or.inr rfl) (Or.inl rfl) h hp hc
  · by_cases q2 : gRem (w : Int) 2 = 0
    · rw [if_neg q, if_pos q2]; exact KR2_go hw hk (Or.inl rfl) (Or.inr rfl) h hp hc
    · rw [if_neg q, if_neg q2]; exact KR2_go hw hk (Or.inl rfl) (Or.inl rfl) h hp hc
theorem cR {c d c' : Nat} (h : c + 46 * (d + 1) < 600) (h2 : c' ≤ c + 4 + 1 + 1 + 40) : c' + 46 * d < 600 := by omega
theorem cR2 {c d : Nat} (h : c + 46 * (d + 1) < 600) : c + 4 + 1 + 1 + 40 < 600 := by omega
theorem L311_go {k556 : Int → gM → Option Unit} {xs : Nat → Int32} {L T : Nat} : ∀ (d k c : Nat) (A B : gM), k + d = 9 → c + 46 * d < 600 → IV T A B 6 c → ∃ A' : gM, f_P_law_L311 k556 xs L (T : Int) (d + 1) 1 (k : Int) A = k556 1 A' := by
  intro d
  induction d with
  | zero =>
    intro k c A B hd hc h
    have k9 : k = 9 := by omega
    subst k9
    exact ⟨A, by rw [f_P_law_L311, if_neg (by decide)]⟩
  | succ d ih =>
    intro k c A B hd hc h
    have hk : k < 9 := by omega
    have hki : (k : Int) < 9 := by omega
    have hd1 : k + 1 + d = 9 := by omega
    obtain ⟨w, w1, w2⟩ := drawn_P xs L (6 + k)
    obtain ⟨A1, B1, a1, a2, a3⟩ := L336_go (k396 := KR0 k556 xs L (d + 1) (T : Int) (k : Int) (w : Int)) (xs := xs) (L := L) (z3 := (T : Int)) (z4 := (k : Int)) w1 4 0 c A B rfl h (fun q => absurd q (Nat.not_lt_zero _))
    obtain ⟨A2, B2, c', b1, b2, b3⟩ := KR0_go (k556 := k556) (xs := xs) (L := L) (n := d + 1) w1 hk a2 a3 (cR2 hc)
    obtain ⟨A', y⟩ := ih (k + 1) c' A2 B2 hd1 (cR hc b1) b3
    refine ⟨A', ?_⟩
    rw [L311_eq hki, (w91 hk).2, w2, ob_s]
    exact a1.trans (b2.trans y)
