/-! ## p29: the check's last loop, and the check itself -/
def KV (k509 : Int → gM → Option (Int × gM)) (R : Nat → Int) (z6 : Int) (n t : Nat) (b s : Int) (M : gM) : Option (Int × gM) := f_P_isKept_L453 (fun (y3_453_503 : Int) (M_453_503 : gM) => f_P_isKept_L350 k509 R z6 n y3_453_503 (wI ((t : Int) + 1)) M_453_503) R z6 (t : Int) b 5 s 0 M
def KZ (k509 : Int → gM → Option (Int × gM)) (R : Nat → Int) (z6 : Int) (n t : Nat) (b st : Int) (M : gM) : Option (Int × gM) := if st = b then (if b = 0 then KV k509 R z6 n t b 1 M else (ob (f_P_does 10 (t : Int) 0 M) fun r413 => if r413.1 = 1 then (ob (f_P_does 10 (t : Int) 1 r413.2) fun r426 => if r426.1 = 0 then (ob (f_P_does 11 (t : Int) 0 r426.2) fun r438 => if r438.1 < 0 then KV k509 R z6 n t b 0 r438.2 else KV k509 R z6 n t b 1 r438.2) else KV k509 R z6 n t b 0 r426.2) else KV k509 R z6 n t b 0 r413.2)) else KV k509 R z6 n t b 0 M
def KW (k509 : Int → gM → Option (Int × gM)) (R : Nat → Int) (z6 : Int) (n t : Nat) (b : Int) (M : gM) : Option (Int × gM) := ob (f_P_does 8 (t : Int) 0 M) fun r385 => if r385.1 = 3 then KZ k509 R z6 n t b 1 r385.2 else KZ k509 R z6 n t b 0 r385.2
theorem L350_eq {k509 : Int → gM → Option (Int × gM)} {R : Nat → Int} {z6 : Int} {n t : Nat} {A : gM} (ht : (t : Int) < 6) : f_P_isKept_L350 k509 R z6 (n + 1) 1 (t : Int) A = if gAnd (gShr z6 (t : Int)) 1 = 1 then KW k509 R z6 n t 1 A else KW k509 R z6 n t 0 A := by
  rw [f_P_isKept_L350, if_pos ht, if_neg ne10]
  rfl
/-- what a second build leaves -/
def AG (B B' : gM) (N : Nat) : Prop := Td B B' ∧ N < 16384 ∧ (∀ t, t < 6 → N.testBit t = true → ndd B t) ∧ (∀ t, t < 6 → (ndd B' t ↔ N.testBit t = true)) ∧ (∀ t, t < 6 → N.testBit t = true → snd B' 6 t ∧ B' 60 0 (4 * t + 0) = 3) ∧ ∀ t s, s < 4 → aOK B 6 t s → N.testBit t = true → B 60 0 (4 * t + s) = 3 ∧ B' 60 0 (4 * t + s) = 3 ∧ B' 61 0 (4 * t + s) = B 61 0 (4 * t + s)
theorem KW_1 {k509 : Int → gM → Option (Int × gM)} {B B' A : gM} {R : Nat → Int} {N c n t : Nat} (hG : AG B B' N) (h : RA 6 c A B') (hX : XX B' 6) (hR : rRow B 6 R) (ht : t < 6) (hb : N.testBit t = true) : ∃ A', KW k509 R (N : Int) n t 1 A = f_P_isKept_L350 k509 R (N : Int) n 1 ((t + 1 : Nat) : Int) A' ∧ RA 6 c A' B' := by
  obtain ⟨g1, g2, g3, g4, g5, g6⟩ := hG
  obtain ⟨s1, s2⟩ := g5 t ht hb
  obtain ⟨v, v1, v2⟩ := rd_state h ht
  have v3 : v = 3 := v2.mpr ⟨(g4 t ht).mpr hb, s2⟩
  subst v3
  have d0 : f_P_does 10 (t : Int) 0 A = some (1, A) := by
    rcases rd_sound h ht with ⟨q, -⟩ | ⟨-, q⟩
    · exact q
    · exact absurd s1 q
  obtain ⟨A1, a1, a2⟩ := rd_stale h hX ht
  obtain ⟨p, A2, b1, b2, b3⟩ := rd_proof a2 ht s1
  refine ⟨A2, ?_, b3⟩
  have e3 : KW k509 R (N : Int) n t 1 A = KZ k509 R (N : Int) n t 1 1 A := by
    unfold KW
    rw [v1, ob_s, if_pos rfl]
  have e4 : KZ k509 R (N : Int) n t 1 1 A = KV k509 R (N : Int) n t 1 1 A2 := by
    unfold KZ
    rw [if_pos rfl, if_neg ne10, d0, ob_s, if_pos rfl, a1, ob_s, if_pos rfl, b1, ob_s, if_neg (Int.not_lt.mpr b2)]
  rw [e3, e4, ← wt1 ht]
  exact L453 b3 ht g1 (g3 t ht hb) ((g4 t ht).mpr hb) hR (fun k hk ho => g6 t k hk ho hb) 4 0 rfl
theorem KW_0 {k509 : Int → gM → Option (Int × gM)} {B B' A : gM} {R : Nat → Int} {N c n t : Nat} (hG : AG B B' N) (h : RA 6 c A B') (ht : t < 6) (hb : ¬ N.testBit t = true) : KW k509 R (N : Int) n t 0 A = f_P_isKept_L350 k509 R (N : Int) n 1 ((t + 1 : Nat) : Int) A := by
  obtain ⟨g1, g2, g3, g4, g5, g6⟩ := hG
  obtain ⟨v, v1, v2⟩ := rd_state h ht
  have v3 : ¬ v = 3 := fun q => hb ((g4 t ht).mp (v2.mp q).1)
  have e3 : KW k509 R (N : Int) n t 0 A = KZ k509 R (N : Int) n t 0 0 A := by
    unfold KW
    rw [v1, ob_s, if_neg v3]
  have e4 : KZ k509 R (N : Int) n t 0 0 A = KV k509 R (N : Int) n t 0 1 A := by
    unfold KZ
    rw [if_pos rfl, if_pos rfl]
  rw [e3, e4, ← wt1 ht]
  exact L453_0
theorem L350 {k509 : Int → gM → Option (Int × gM)} {B B' : gM} {R : Nat → Int} {N c : Nat} (hG : AG B B' N) (hX : XX B' 6) (hR : rRow B 6 R) : ∀ (d t : Nat) (A : gM), t + d = 6 → RA 6 c A B' → ∃ A', f_P_isKept_L350 k509 R (N : Int) (d + 1) 1 (t : Int) A = k509 1 A' ∧ RA 6 c A' B' := by
  intro d
  induction d with
  | zero =>
    intro t A hd h
    have t6 : t = 6 := by omega
    subst t6
    exact ⟨A, by rw [f_P_isKept_L350, if_neg (by decide)], h⟩
  | succ d ih =>
    intro t A hd h
    have ht : t < 6 := by omega
    have hti : (t : Int) < 6 := by omega
    have hd1 : t + 1 + d = 6 := by omega
    rw [L350_eq hti]
    by_cases hb : N.testBit t = true
    · rw [if_pos ((bit31 hG.2.1 ht).mpr hb)]
      obtain ⟨A1, a1, a2⟩ := KW_1 (k509 := k509) (n := d + 1) hG h hX hR ht hb
      obtain ⟨A', y1, y2⟩ := ih (t + 1) A1 hd1 a2
      exact ⟨A', a1.trans y1, y2⟩
    · rw [if_neg (fun z => hb ((bit31 hG.2.1 ht).mp z))]
      obtain ⟨A', y1, y2⟩ := ih (t + 1) A hd1 h
      exact ⟨A', (KW_0 (k509 := k509) (n := d + 1) hG h ht hb).trans y1, y2⟩
/-- behind the second build -/
def KS (R : Nat → Int) (z6 : Int) (s : Int) (M : gM) : Option (Int × gM) := f_P_isKept_L350 (fun (y3_350_509 : Int) (M_350_509 : gM) => some ((y3_350_509, M_350_509))) R z6 7 s 0 M
def KT (R : Nat → Int) (z6 S : Int) (M : gM) : Option (Int × gM) := ob (f_P_does 12 0 0 M) fun r265 => ob (f_P_does 12 1 0 r265.2) fun r275 => ob (f_P_does 6 S 0 r275.2) fun r286 => if 0 < r286.1 then (if (f_X11_goesOn r286.2) = 0 then (if (f_X11_entries r286.2) = (f_X11_entries M) then (ob (f_P_does 12 0 0 r286.2) fun r317 => if r317.1 = r265.1 then (ob (f_P_does 12 1 0 r317.2) fun r330 => if r330.1 = wI (r275.1 + r286.1) then KS R z6 1 r330.2 else KS R z6 0 r330.2) else KS R z6 0 r317.2) else KS R z6 0 r286.2) else KS R z6 0 r286.2) else KS R z6 0 r286.2
def KU (s S : Int) (R : Nat → Int) (M : gM) : Option (Int × gM) := if s = 0 then some (s, M) else (if S = 0 then some (s, M) else (if f_X11_entries M = 40 then some (s, M) else f_P_isKept_L212 (fun N M1 => KT R N S M1) S R 7 0 0 M))
def KI (x T s : Int) (M : gM) : Option (Int × gM) := f_P_isKept_L36 KU x T 7 s 0 (fun _ => 0) 0 M
theorem isKept_eq {x T : Int} {A : gM} : f_P_isKept x T A = ob (f_P_does 6 x 0 A) fun r5 => if 0 < r5.1 then (ob (f_P_ends r5.2) fun r12 => if r12.1 = 0 then KI x T 0 r12.2 else KI x T 1 r12.2) else KI x T 0 r5.2 := rfl
theorem lt_bits {x n : Nat} (h : ∀ u, x.testBit u = true → u < n) : x < 2 ^ n := by
  refine Nat.lt_pow_two_of_testBit x (fun i hi => ?_)
  by_cases q : x.testBit i = true
  · exact absurd (h i q) (Nat.not_lt.mpr hi)
  · exact Bool.eq_false_iff.mpr q
theorem wn_tr {A B : gM} {n S t u : Nat} (hS : RS A B) (hT : RT A B n) (h : (wnN B n S).testBit t = true) (hu : (wnN B n (2 ^ t)).testBit u = true) : (wnN B n S).testBit u = true :=
  wn_min hS hT (S := fun u => (wnN B n S).testBit u = true) (fun _ _ q1 q2 q3 => wn_cl hS hT n S _ _ (Nat.le_refl _) q1 q2 q3) n (2 ^ t) (Nat.le_refl _) (fun v hv => by
    rw [pow_bit] at hv
    subst hv
    exact h) u hu
theorem nn1 {x : Nat} (h : 1 ≤ x) : (0 : Int) < (x : Int) := by omega
theorem KT_go {A B : gM} {R : Nat → Int} {c x S N : Nat} (hc : c ≤ 600) (h : RA 6 c A B) (hg : B 29 0 36 = 0) (hX : XX B 6) (h40 : B 29 0 21 ≠ 40) (hS0 : 0 < S) (hM : sMask B x 6 S) (hR : rRow B 6 R) (hsh : ∀ t, t < 6 → B 38 0 t ≤ 2) (hN : ∀ v, N.testBit v = true ↔ ∃ u, u < 6 ∧ S.testBit u = true ∧ (wnN B 6 (2 ^ u)).testBit v = true) : ∃ A' B', KT R (N : Int) (S : Int) A = some (1, A') ∧ RA 6 (c + 1) A' B' ∧ B' 29 0 36 = 0 ∧ XX B' 6 ∧ Td B B' := by
  obtain ⟨h1, h2, -⟩ := id h
  have hSn : S < 2 ^ 6 := lt_bits (fun u hu => ((hM.2 u).mp hu).1)
  have hsn : ∀ t, S.testBit t = true → snd B 6 t := fun t q => ((hM.2 t).mp q).2.2
  have eN : N = wnN B 6 S := bits_ext (fun v => by
    rw [hN v, wn_union h1 h2 v]
    constructor
    · rintro ⟨u, -, u2, u3⟩; exact ⟨u, u2, u3⟩
    · rintro ⟨u, u2, u3⟩; exact ⟨u, ((hM.2 u).mp u2).1, u2, u3⟩)
  subst eN
  obtain ⟨A1, B1, b1, b2, b3, b4, b5, b6, b7, b8, b9, b10, b11, b12, b13, b14⟩ := bldH hc h hg hX h40 hS0 hSn hsn (by decide) hsh
  have c0 : f_P_does 12 0 0 A = some (B 68 0 0, A) := rd_count (i := 0) h (by decide)
  have c1 : f_P_does 12 1 0 A = some (B 68 0 1, A) := rd_count (i := 1) h (by decide)
  have d0 : f_P_does 12 0 0 A1 = some (B1 68 0 0, A1) := rd_count (i := 0) b3 (by decide)
  have d1 : f_P_does 12 1 0 A1 = some (B1 68 0 1, A1) := rd_count (i := 1) b3 (by decide)
  have dn : ∀ t, (wnN B 6 S).testBit t = true → dnP B 6 0 t := fun t q => by
    obtain ⟨r, r1, r2⟩ := (wn_union h1 h2 t).mp q
    exact hsn r r1 t r2
  have l14 : wnN B 6 S < 16384 := Nat.lt_of_lt_of_le b11 (by decide)
  have nd : ∀ t, t < 6 → (ndd B1 t ↔ (wnN B 6 S).testBit t = true) := fun t ht => by
    unfold ndd
    rw [b10]
    exact bit_1 (lt14_31 l14) (Nat.lt_of_lt_of_le ht (by decide))
  have sd : ∀ t, (wnN B 6 S).testBit t = true → snd B1 6 t := fun t q u hu => by
    rw [wn_t b6] at hu
    have hu' := wn_tr h1 h2 q hu
    refine ⟨(nd u (bit_lt b11 hu')).mpr hu', fun s hs ho => ?_⟩
    obtain ⟨y1, -, y3⟩ := b12 u s hs ((aOK_t b6 6 u s).mp ho) hu'
    exact ⟨y1, fun _ => y3⟩
  have ag : AG B B1 (wnN B 6 S) := ⟨b6, l14, fun t _ q => (dn t q).1, nd, fun t ht q => ⟨sd t q, (b12 t 0 (by decide) ⟨ht, Int.lt_of_lt_of_le (by decide) (h2.2.2.2.2.2.2 t ht).2.2.2.2.1.1⟩ q).1⟩, fun t s hs ho q => ⟨((dn t q).2 s hs ho).1, (b12 t s hs ho q).1, (b12 t s hs ho q).2.1⟩⟩
  obtain ⟨A2, y1, y2⟩ := L350 (k509 := fun (y3_350_509 : Int) (M_350_509 : gM) => some ((y3_350_509, M_350_509))) ag b5 hR 6 0 A1 rfl b3
  refine ⟨A2, B1, ?_, y2, b4, b5, b6⟩
  unfold KT
  rw [c0, ob_s, c1, ob_s, does_build b1, ob_s, if_pos (nn1 b2), rd_goes b3, if_pos b4, rd_entries b3, rd_entries h, if_pos b9, d0, ob_s, if_pos b13, d1, ob_s, if_pos b14]
  exact y1
theorem c1x {c c' : Nat} (h1 : c' ≤ c + 37) : c' + 1 ≤ c + 40 ∧ c' ≤ c + 40 := by omega
theorem c2x {c : Nat} (h : c + 40 < 600) : c ≤ 600 ∧ c + 1 + 36 < 600 := by omega
theorem c3x {c c' : Nat} (h : c + 40 < 600) (h2 : c' ≤ c + 1 + 36) : c' ≤ c + 37 ∧ c' ≤ 600 := by omega
theorem KI_go {A B : gM} {c x T : Nat} (hc : c ≤ 600) (h : RA 6 c A B) (hg : B 29 0 36 = 0) (hX : XX B 6) (hx : x < 16384) (hT : T < 16384) (hsh : ∀ t, t < 6 → B 38 0 t ≤ 2) (hTk : ∀ u, u < 6 → (T.testBit u = true ↔ B 35 0 u = 2)) : ∃ A' B' c', c' ≤ c + 1 ∧ KI (x : Int) (T : Int) 1 A = some (1, A') ∧ RA 6 c' A' B' ∧ B' 29 0 36 = 0 ∧ XX B' 6 ∧ Td B B' := by
  have m0 : sMask B x 0 0 := ⟨by decide, fun u => ⟨fun q => by (rw [Nat.zero_testBit] at q; cases q), fun q => absurd q.1 (Nat.not_lt_zero _)⟩⟩
  obtain ⟨A1, S, R, l1, l2, l3, l4⟩ := L36 (k186 := KU) hx hT hX hTk 6 0 A 0 (fun _ => 0) rfl h m0 (fun u k q _ => absurd q (Nat.not_lt_zero _))
  have e : KI (x : Int) (T : Int) 1 A = KU 1 (S : Int) R A1 := l1
  rw [e]
  by_cases s0 : S = 0
  · subst s0
    refine ⟨A1, B, c, Nat.le_succ _, ?_, l2, hg, hX, fun _ _ => rfl⟩
    unfold KU
    rw [if_neg ne10, if_pos (by decide)]
  · have s1 : ¬ (S : Int) = 0 := by omega
    have s2 : 0 < S := Nat.pos_of_ne_zero s0
    by_cases h40 : B 29 0 21 = 40
    · refine ⟨A1, B, c, Nat.le_succ _, ?_, l2, hg, hX, fun _ _ => rfl⟩
      unfold KU
      rw [if_neg ne10, if_neg s1, rd_entries l2, if_pos h40]
    · obtain ⟨N, n1, -, n3⟩ := L212 (k254 := fun N M1 => KT R N (S : Int) M1) (R := R) l3.1 l2 6 0 0 rfl (by decide) (fun v => ⟨fun q => by (rw [Nat.zero_testBit] at q; cases q), fun ⟨u, q, _⟩ => absurd q (Nat.not_lt_zero _)⟩)
      obtain ⟨A2, B2, y1, y2, y3, y4, y5⟩ := KT_go hc l2 hg hX h40 s2 l3 l4 hsh n3
      refine ⟨A2, B2, c + 1, Nat.le_refl _, ?_, y2, y3, y4, y5⟩
      unfold KU
      rw [if_neg ne10, if_neg s1, rd_entries l2, if_neg h40]
      exact n1.trans y1
/-- one build, and the one behind it -/
theorem keptP {A B : gM} {c x T : Nat} (hc : c + 40 < 600) (h : RA 6 c A B) (hg : B 29 0 36 = 0) (hE : XE B) (hsh : ∀ t, t < 6 → B 38 0 t ≤ 2) (hp : PW B) (hx0 : 0 < x) (hx : x < 64) (hT : T < 16384) (hTk : ∀ u, u < 6 → (T.testBit u = true ↔ B 35 0 u = 2)) : ∃ A' B' c', c' ≤ c + 40 ∧ f_P_isKept (x : Int) (T : Int) A = some (1, A') ∧ RA 6 c' A' B' ∧ B' 29 0 36 = 0 ∧ XE B' ∧ B' 35 = B 35 ∧ B' 38 = B 38 := by
  obtain ⟨c1, c2⟩ := c2x hc
  obtain ⟨m, A1, B1, a1, a2, a3, a4, a5, a6, a7, -⟩ := bldX c1 h hg hx0 hx hE (by decide) hsh
  have p1 : PW B1 := by
    obtain ⟨w, w1, w2⟩ := hp
    exact ⟨w, w1, by rw [But_q a7 rfl]; exact w2⟩
  obtain ⟨A2, B2, c', e1, e2, e3, e4, e5, e6, e7⟩ := endsPX c2 a3 a4 a5 p1
  obtain ⟨c3, c4⟩ := c3x hc e1
  have q35 : B2 35 = B 35 := by rw [But_q e7 rfl, But_q a7 rfl]
  have q38 : B2 38 = B 38 := by rw [But_q e7 rfl, But_q a7 rfl]
  obtain ⟨A3, B3, c'', k1, k2, k3, k4, k5, k6⟩ := KI_go c4 e3 e5 e4 (Nat.lt_of_lt_of_le hx (by decide)) hT (by rw [q38]; exact hsh) (by rw [q35]; exact hTk)
  refine ⟨A3, B3, c'', Nat.le_trans k1 (c1x c3).1, ?_, k3, k4, k5.2.1, (k6 35 (by decide)).trans q35, (k6 38 (by decide)).trans q38⟩
  rw [isKept_eq, does_build a1, ob_s, if_pos a2, e2, ob_s, if_neg ne10]
  exact k2
