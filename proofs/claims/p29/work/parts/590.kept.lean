/-! ## p29: the law's check of one build and the one behind it, as a picture -/
theorem bit31 {x t : Nat} (hx : x < 16384) (ht : t < 6) : (gAnd (gShr (x : Int) (t : Int)) 1 = 1) ↔ x.testBit t = true := bit_1 (lt14_31 hx) (by omega)
theorem ix24 {t k : Nat} (ht : t < 6) (hk : k < 4) : wI (wI (4 * (t : Int)) + (k : Int)) = ((4 * t + k : Nat) : Int) ∧ (0 : Int) ≤ ((4 * t + k : Nat) : Int) ∧ ((4 * t + k : Nat) : Int) < 24 := ⟨w4 (by omega) (by omega), by omega, by omega⟩
theorem s4 {t k : Nat} (h : t < 6) (hk : k < 4) : 4 * t + k < 4 * (t + 1) := by omega
theorem L148 {k180 : (Nat → Int) → gM → Option (Int × gM)} {A B : gM} {c t : Nat} {z1 z2 z3 z4 : Int} (h : RA 6 c A B) (ht : t < 6) : ∀ (d k : Nat) (R : Nat → Int), k + d = 4 → ∃ R' : Nat → Int, f_P_isKept_L148 k180 z1 z2 z3 z4 (t : Int) (d + 1) R (k : Int) A = k180 R' A ∧ (∀ j, k ≤ j → j < 4 → rsIs B 6 t j (R' (4 * t + j))) ∧ ∀ j, j < 4 * t + k → R' j = R j := by
  intro d
  induction d with
  | zero =>
    intro k R hk
    have k4 : k = 4 := by omega
    subst k4
    refine ⟨R, ?_, fun j q1 q2 => absurd q1 (by omega), fun _ _ => rfl⟩
    rw [f_P_isKept_L148, if_neg (by decide)]
  | succ d ih =>
    intro k R hk
    have hk4 : k < 4 := by omega
    have hki : (k : Int) < 4 := by omega
    have w1 : wI ((k : Int) + 1) = ((k + 1 : Nat) : Int) := wI_s (by omega)
    obtain ⟨i1, i2⟩ := ix24 ht hk4
    obtain ⟨v, v1, v2, -⟩ := rd_result h ht hk4
    obtain ⟨R', r1, r2, r3⟩ := ih (k + 1) (g1 R (4 * t + k) v) (by omega)
    refine ⟨R', ?_, fun j q1 q2 => ?_, fun j q => ?_⟩
    · rw [f_P_isKept_L148, if_pos hki, v1, ob_s, i1, og_t i2, Int.toNat_natCast, w1]
      exact r1
    · by_cases e : j = k
      · subst e
        rw [r3 _ (by omega)]
        unfold g1
        rw [if_pos rfl]
        exact v2
      · exact r2 j (by omega) q2
    · rw [r3 j (by omega)]
      unfold g1
      rw [if_neg (by omega)]
/-- the sound roots so far -/
def sMask (B : gM) (x t S : Nat) : Prop := S < 16384 ∧ ∀ u, S.testBit u = true ↔ (u < t ∧ x.testBit u = true ∧ snd B 6 u)
def rRow (B : gM) (t : Nat) (R : Nat → Int) : Prop := ∀ u k, u < t → k < 4 → rsIs B 6 u k (R (4 * u + k))
theorem sMask_1 {B : gM} {x t S : Nat} (h : sMask B x t S) (ht : t < 6) (hx : x.testBit t = true) (hs : snd B 6 t) : gOr (S : Int) (gShl 1 (t : Int)) = ((S ||| 2 ^ t : Nat) : Int) ∧ sMask B x (t + 1) (S ||| 2 ^ t) := by
  have p := pow_14 (u := t) (by omega)
  refine ⟨by rw [gShl_n (by omega), gOr_n (lt14_31 h.1) (lt14_31 p)], or_14 h.1 p, fun u => ?_⟩
  rw [or_bit, pow_bit, h.2 u]
  constructor
  · rintro (⟨q1, q2, q3⟩ | q)
    · exact ⟨by omega, q2, q3⟩
    · subst q; exact ⟨Nat.lt_succ_self _, hx, hs⟩
  · rintro ⟨q1, q2, q3⟩
    by_cases e : u = t
    · exact Or.inr e
    · exact Or.inl ⟨by omega, q2, q3⟩
theorem sMask_0 {B : gM} {x t S : Nat} (h : sMask B x t S) (hn : ¬ (x.testBit t = true ∧ snd B 6 t)) : gOr (S : Int) 0 = (S : Int) ∧ sMask B x (t + 1) S := by
  refine ⟨?_, h.1, fun u => ?_⟩
  · have := gOr_n (a := S) (b := 0) (lt14_31 h.1) (by decide)
    rw [Nat.or_zero] at this
    exact this
  · rw [h.2 u]
    constructor
    · rintro ⟨q1, q2⟩; exact ⟨by omega, q2⟩
    · rintro ⟨q1, q2⟩
      by_cases e : u = t
      · subst e; exact absurd q2 hn
      · exact ⟨by omega, q2⟩
theorem wt1 {t : Nat} (h : t < 6) : wI ((t : Int) + 1) = ((t + 1 : Nat) : Int) := wI_s (by omega)
theorem ut1 {u t : Nat} (a : u < t + 1) (b : ¬ u = t) : u < t := by omega
theorem uk1 {u t k : Nat} (a : u < t) (b : k < 4) : 4 * u + k < 4 * t + 0 := by omega
/-- behind a target's questions -/
def KP (k186 : Int → Int → (Nat → Int) → gM → Option (Int × gM)) (x T : Int) (n : Nat) (t : Nat) (R : Nat → Int) (i S : Int) (M : gM) : Option (Int × gM) := f_P_isKept_L148 (fun (y5_148_180 : Nat → Int) (M_148_180 : gM) => f_P_isKept_L36 k186 x T n i S y5_148_180 (wI ((t : Int) + 1)) M_148_180) x T i S (t : Int) 5 R 0 M
def KQ (k186 : Int → Int → (Nat → Int) → gM → Option (Int × gM)) (x T : Int) (n : Nat) (t : Nat) (R : Nat → Int) (i S : Int) (M : gM) : Option (Int × gM) := ob (f_P_does 10 (t : Int) 1 M) fun r101 => if r101.1 = 0 then (if i = 0 then KP k186 x T n t R 1 S r101.2 else (ob (f_P_does 13 (t : Int) 0 r101.2) fun r118 => if gAnd r118.1 T = 0 then (ob (f_P_does 10 (t : Int) 3 r118.2) fun r132 => if r132.1 = 1 then KP k186 x T n t R 1 S r132.2 else KP k186 x T n t R 0 S r132.2) else KP k186 x T n t R 1 S r118.2)) else KP k186 x T n t R 0 S r101.2
theorem L36_eq {k186 : Int → Int → (Nat → Int) → gM → Option (Int × gM)} {x T S : Int} {n t : Nat} {R : Nat → Int} {A : gM} (ht : (t : Int) < 6) : f_P_isKept_L36 k186 x T (n + 1) 1 S R (t : Int) A = if gAnd (gShr x (t : Int)) 1 = 1 then (ob (f_P_does 10 (t : Int) 0 A) fun r63 => if r63.1 = 1 then KQ k186 x T n t R 1 (gOr S (gShl 1 (t : Int))) r63.2 else KQ k186 x T n t R 0 (gOr S 0) r63.2) else KQ k186 x T n t R 0 (gOr S 0) A := by
  rw [f_P_isKept_L36, if_pos ht, if_neg ne10]
  rfl
theorem KP_go {k186 : Int → Int → (Nat → Int) → gM → Option (Int × gM)} {A B : gM} {c t n : Nat} {x T S : Int} {R : Nat → Int} (h : RA 6 c A B) (ht : t < 6) (hR : rRow B t R) : ∃ R1 : Nat → Int, KP k186 x T n t R 1 S A = f_P_isKept_L36 k186 x T n 1 S R1 ((t + 1 : Nat) : Int) A ∧ rRow B (t + 1) R1 := by
  obtain ⟨R1, r1, r2, r3⟩ := L148 (k180 := fun (y5_148_180 : Nat → Int) (M_148_180 : gM) => f_P_isKept_L36 k186 x T n 1 S y5_148_180 (wI ((t : Int) + 1)) M_148_180) (z1 := x) (z2 := T) (z3 := 1) (z4 := S) h ht 4 0 R rfl
  refine ⟨R1, ?_, fun u k hu hk => ?_⟩
  · rw [← wt1 ht]
    exact r1
  · by_cases e : u = t
    · subst e; exact r2 k (Nat.zero_le _) hk
    · rw [r3 (4 * u + k) (uk1 (ut1 hu e) hk)]
      exact hR u k (ut1 hu e) hk
theorem KQ_0 {k186 : Int → Int → (Nat → Int) → gM → Option (Int × gM)} {A B : gM} {c t n : Nat} {x T S : Int} {R : Nat → Int} (h : RA 6 c A B) (hX : XX B 6) (ht : t < 6) : ∃ A1, KQ k186 x T n t R 0 S A = KP k186 x T n t R 1 S A1 ∧ RA 6 c A1 B := by
  obtain ⟨A1, a1, a2⟩ := rd_stale h hX ht
  refine ⟨A1, ?_, a2⟩
  unfold KQ
  rw [a1, ob_s, if_pos rfl, if_pos rfl]
theorem KQ_1 {k186 : Int → Int → (Nat → Int) → gM → Option (Int × gM)} {A B : gM} {c t n T : Nat} {x S : Int} {R : Nat → Int} (h : RA 6 c A B) (hX : XX B 6) (ht : t < 6) (hT : T < 16384) (hTk : ∀ u, u < 6 → (T.testBit u = true ↔ B 35 0 u = 2)) (hs : snd B 6 t) : ∃ A1, KQ k186 x (T : Int) n t R 1 S A = KP k186 x (T : Int) n t R 1 S A1 ∧ RA 6 c A1 B := by
  obtain ⟨A1, a1, a2⟩ := rd_stale h hX ht
  obtain ⟨n1, n2⟩ := rd_needed a2 ht
  by_cases q : gAnd ((wnN B 6 (2 ^ t) : Nat) : Int) (T : Int) = 0
  · obtain ⟨A2, b1, b2⟩ := rd_good a2 hX ht hs (fun u hu => by
      have u6 : u < 6 := bit_lt (wn_lt h.1 h.2.1 (x := 2 ^ t) (Nat.pow_lt_pow_right (by decide) ht)) hu
      have := (and0_n (lt14_31 n2) (lt14_31 hT)).mp q u (Nat.lt_of_lt_of_le u6 (by decide)) hu
      intro z
      rw [(hTk u u6).mpr z] at this
      cases this)
    refine ⟨A2, ?_, b2⟩
    unfold KQ
    rw [a1, ob_s, if_pos rfl, if_neg ne10, n1, ob_s, if_pos q, b1, ob_s, if_pos rfl]
  · refine ⟨A1, ?_, a2⟩
    unfold KQ
    rw [a1, ob_s, if_pos rfl, if_neg ne10, n1, ob_s, if_neg q]
theorem L36 {k186 : Int → Int → (Nat → Int) → gM → Option (Int × gM)} {B : gM} {c x T : Nat} (hx : x < 16384) (hT : T < 16384) (hX : XX B 6) (hTk : ∀ u, u < 6 → (T.testBit u = true ↔ B 35 0 u = 2)) : ∀ (d t : Nat) (A : gM) (S : Nat) (R : Nat → Int), t + d = 6 → RA 6 c A B → sMask B x t S → rRow B t R → ∃ (A' : gM) (S' : Nat) (R' : Nat → Int), f_P_isKept_L36 k186 (x : Int) (T : Int) (d + 1) 1 (S : Int) R (t : Int) A = k186 1 (S' : Int) R' A' ∧ RA 6 c A' B ∧ sMask B x 6 S' ∧ rRow B 6 R' := by
  intro d
  induction d with
  | zero =>
    intro t A S R hd h hS hR
    have t6 : t = 6 := by omega
    subst t6
    refine ⟨A, S, R, ?_, h, hS, hR⟩
    rw [f_P_isKept_L36, if_neg (by decide)]
  | succ d ih =>
    intro t A S R hd h hS hR
    have ht : t < 6 := by omega
    have hti : (t : Int) < 6 := by omega
    have hd1 : t + 1 + d = 6 := by omega
    have go : ∀ (A1 : gM) (S1 : Nat), RA 6 c A1 B → sMask B x (t + 1) S1 → ∃ (A' : gM) (S' : Nat) (R' : Nat → Int), KP k186 (x : Int) (T : Int) (d + 1) t R 1 (S1 : Int) A1 = k186 1 (S' : Int) R' A' ∧ RA 6 c A' B ∧ sMask B x 6 S' ∧ rRow B 6 R' := fun A1 S1 h1 hS1 => by
      obtain ⟨R1, r1, hR1⟩ := KP_go (k186 := k186) (n := d + 1) (x := (x : Int)) (T := (T : Int)) (S := (S1 : Int)) h1 ht hR
      obtain ⟨A', S', R', y1, y2⟩ := ih (t + 1) A1 S1 R1 hd1 h1 hS1 hR1
      exact ⟨A', S', R', r1.trans y1, y2⟩
    have no : ¬ (x.testBit t = true ∧ snd B 6 t) → ∃ (A' : gM) (S' : Nat) (R' : Nat → Int), KQ k186 (x : Int) (T : Int) (d + 1) t R 0 (gOr (S : Int) 0) A = k186 1 (S' : Int) R' A' ∧ RA 6 c A' B ∧ sMask B x 6 S' ∧ rRow B 6 R' := fun hn => by
      obtain ⟨m1, m2⟩ := sMask_0 hS hn
      rw [m1]
      obtain ⟨A1, a1, a2⟩ := KQ_0 (k186 := k186) (n := d + 1) (x := (x : Int)) (T := (T : Int)) (S := (S : Int)) (R := R) h hX ht
      obtain ⟨A', S', R', y1, y2⟩ := go A1 S a2 m2
      exact ⟨A', S', R', a1.trans y1, y2⟩
    rw [L36_eq hti]
    by_cases hb : x.testBit t = true
    · rw [if_pos ((bit31 hx ht).mpr hb)]
      rcases rd_sound h ht with ⟨s1, s2⟩ | ⟨s1, s2⟩
      · obtain ⟨m1, m2⟩ := sMask_1 hS ht hb s2
        obtain ⟨A1, a1, a2⟩ := KQ_1 (k186 := k186) (n := d + 1) (x := (x : Int)) (S := ((S ||| 2 ^ t : Nat) : Int)) (R := R) h hX ht hT hTk s2
        obtain ⟨A', S', R', y1, y2⟩ := go A1 (S ||| 2 ^ t) a2 m2
        refine ⟨A', S', R', ?_, y2⟩
        rw [s1, ob_s, if_pos rfl, m1]
        exact a1.trans y1
      · obtain ⟨A', S', R', y1, y2⟩ := no (fun q => s2 q.2)
        refine ⟨A', S', R', ?_, y2⟩
        rw [s1, ob_s, if_neg ne01]
        exact y1
    · rw [if_neg (fun q => hb ((bit31 hx ht).mp q))]
      exact no (fun q => hb q.1)
theorem L212 {k254 : Int → gM → Option (Int × gM)} {A B : gM} {c S : Nat} {R : Nat → Int} (hS : S < 16384) (h : RA 6 c A B) : ∀ (d t N : Nat), t + d = 6 → N < 16384 → (∀ v, N.testBit v = true ↔ ∃ u, u < t ∧ S.testBit u = true ∧ (wnN B 6 (2 ^ u)).testBit v = true) → ∃ N' : Nat, f_P_isKept_L212 k254 (S : Int) R (d + 1) (N : Int) (t : Int) A = k254 (N' : Int) A ∧ N' < 16384 ∧ ∀ v, N'.testBit v = true ↔ ∃ u, u < 6 ∧ S.testBit u = true ∧ (wnN B 6 (2 ^ u)).testBit v = true := by
  intro d
  induction d with
  | zero =>
    intro t N hd hN hb
    have t6 : t = 6 := by omega
    subst t6
    refine ⟨N, ?_, hN, hb⟩
    rw [f_P_isKept_L212, if_neg (by decide)]
  | succ d ih =>
    intro t N hd hN hb
    have ht : t < 6 := by omega
    have hti : (t : Int) < 6 := by omega
    have w1 : wI ((t : Int) + 1) = ((t + 1 : Nat) : Int) := wI_s (by omega)
    by_cases q : S.testBit t = true
    · obtain ⟨n1, n2⟩ := rd_needed h ht
      obtain ⟨N', y1, y2, y3⟩ := ih (t + 1) (N ||| wnN B 6 (2 ^ t)) (by omega) (or_14 hN n2) (fun v => by
        rw [or_bit, hb v]
        constructor
        · rintro (⟨u, u1, u2, u3⟩ | z)
          · exact ⟨u, by omega, u2, u3⟩
          · exact ⟨t, Nat.lt_succ_self t, q, z⟩
        · rintro ⟨u, u1, u2, u3⟩
          by_cases e : u = t
          · subst e; exact Or.inr u3
          · exact Or.inl ⟨u, by omega, u2, u3⟩)
      refine ⟨N', ?_, y2, y3⟩
      rw [f_P_isKept_L212, if_pos hti]
      dsimp only [oj]
      rw [if_pos ((bit31 hS ht).mpr q), n1, ob_s]
      dsimp only
      rw [gOr_n (lt14_31 hN) (lt14_31 n2), w1]
      exact y1
    · obtain ⟨N', y1, y2, y3⟩ := ih (t + 1) N (by omega) hN (fun v => by
        rw [hb v]
        constructor
        · rintro ⟨u, u1, u2⟩; exact ⟨u, by omega, u2⟩
        · rintro ⟨u, u1, u2, u3⟩
          by_cases e : u = t
          · subst e; exact absurd u2 q
          · exact ⟨u, by omega, u2, u3⟩)
      refine ⟨N', ?_, y2, y3⟩
      have g0 : gOr (N : Int) 0 = (N : Int) := by
        have := gOr_n (a := N) (b := 0) (lt14_31 hN) (by decide)
        rw [Nat.or_zero] at this
        exact this
      rw [f_P_isKept_L212, if_pos hti]
      dsimp only [oj]
      rw [if_neg (fun z => q ((bit31 hS ht).mp z)), g0, w1]
      exact y1
theorem rs_eq {B B' : gM} {t k : Nat} {v v' : Int} (hTd : Td B B') (hd : ndd B t) (hd' : ndd B' t) (h : aOK B 6 t k → B 60 0 (4 * t + k) = 3 ∧ B' 60 0 (4 * t + k) = 3 ∧ B' 61 0 (4 * t + k) = B 61 0 (4 * t + k)) (h1 : rsIs B 6 t k v) (h2 : rsIs B' 6 t k v') : v' = v := by
  rcases h1 with ⟨o, -, -, e⟩ | ⟨o, n1, -⟩ | ⟨o, e⟩
  · obtain ⟨b1, b2, b3⟩ := h o
    rcases h2 with ⟨-, -, -, e'⟩ | ⟨-, n2, -⟩ | ⟨o', -⟩
    · rw [e, e', b3]
    · exact absurd ⟨hd', b2⟩ n2
    · exact absurd ((aOK_t hTd 6 t k).mpr o) o'
  · exact absurd ⟨hd, (h o).1⟩ n1
  · rcases h2 with ⟨o', -⟩ | ⟨o', -⟩ | ⟨-, e'⟩
    · exact absurd ((aOK_t hTd 6 t k).mp o') o
    · exact absurd ((aOK_t hTd 6 t k).mp o') o
    · rw [e, e']
theorem L453 {k503 : Int → gM → Option (Int × gM)} {A B B' : gM} {c t : Nat} {R : Nat → Int} {z6 : Int} (h : RA 6 c A B') (ht : t < 6) (hTd : Td B B') (hd : ndd B t) (hd' : ndd B' t) (hR : rRow B 6 R) (hb : ∀ k, k < 4 → aOK B 6 t k → B 60 0 (4 * t + k) = 3 ∧ B' 60 0 (4 * t + k) = 3 ∧ B' 61 0 (4 * t + k) = B 61 0 (4 * t + k)) : ∀ (d k : Nat), k + d = 4 → f_P_isKept_L453 k503 R z6 (t : Int) 1 (d + 1) 1 (k : Int) A = k503 1 A := by
  intro d
  induction d with
  | zero =>
    intro k hk
    have k4 : k = 4 := by omega
    subst k4
    rw [f_P_isKept_L453, if_neg (by decide)]
  | succ d ih =>
    intro k hk
    have hk4 : k < 4 := by omega
    have hki : (k : Int) < 4 := by omega
    have w1 : wI ((k : Int) + 1) = ((k + 1 : Nat) : Int) := wI_s (by omega)
    obtain ⟨i1, i2⟩ := ix24 ht hk4
    obtain ⟨v, v1, v2, -⟩ := rd_result h ht hk4
    have ev : v = R (4 * t + k) := rs_eq hTd hd hd' (hb k hk4) (hR t k ht hk4) v2
    rw [f_P_isKept_L453, if_pos hki, if_neg ne10, if_neg ne10, v1, ob_s, i1, og_t i2, Int.toNat_natCast]
    dsimp only [oj]
    rw [if_pos ev, w1]
    exact ih (k + 1) (by omega)
theorem L453_0 {k503 : Int → gM → Option (Int × gM)} {A : gM} {R : Nat → Int} {z6 z11 : Int} : f_P_isKept_L453 k503 R z6 z11 0 5 1 0 A = k503 1 A := by
  rw [f_P_isKept_L453, if_pos (by decide), if_neg ne10, if_pos rfl]
