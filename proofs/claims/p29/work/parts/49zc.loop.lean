theorem SI_f {A B A' B' : gM} {n c : Nat} (h : SI A B n c) (hA : But [7] A' A) (a7 : ∀ t k, k ≠ 10 → A' 7 t k = A 7 t k) (hB : But [73] B' B) : SI A' B' n c := by
  obtain ⟨h1, h2, h3, h4, h5, h6, g1', g2, g4⟩ := h
  have tN : TdN B B' := TdN_9 (But_w hB rfl)
  obtain ⟨x1, x2, x3, -⟩ := G_b (n := n) tN (show B' 60 = B 60 from But_q hB rfl) (But_q hB rfl)
  refine ⟨RS_c h1 (fun q hq => by rw [But_l hA (K := [12, 13, 14, 15, 16]) rfl q hq]) (by rw [But_q hA rfl]) (But_l hB rfl) (by rw [But_q hB rfl]), RT_c h2 (But_l hA rfl) (by rw [But_q hA rfl]) (fun t k hk => a7 t k (by omega)) (But_l hB rfl) (by rw [But_q hB rfl]), RC_c h3 (But_q hA rfl) (But_q hA rfl) (But_l hB rfl) (by rw [But_q hB rfl]), RO_c h4 (by rw [But_q hA rfl]) (by rw [But_q hA rfl]) (But_q hA rfl) (by rw [But_q hA rfl]) (by rw [But_q hB rfl]) (by rw [But_q hB rfl]) (by rw [But_q hB rfl]) (But_q hB rfl), RW_c h5 (But_q hA rfl) (But_l hB rfl) (by rw [But_q hB rfl]), RB_c h6 (But_q hA rfl) (by rw [But_q hA rfl]) (by rw [But_q hA rfl]) (by rw [But_q hA rfl]) (by rw [But_q hA rfl]) (fun t k hk => a7 t k (by omega)) (by rw [But_q hA rfl]) (But_l hB rfl) (by rw [But_q hB rfl]) (by rw [But_q hB rfl]) (by rw [But_q hB rfl]) (by rw [But_q hB rfl]), x1 g1', x2 g2, x3 g4⟩
theorem MI_f {A B A' B' : gM} {n c : Nat} (h : MI A B n c) (hA : But [7] A' A) (a7 : ∀ t k, k ≠ 10 → A' 7 t k = A 7 t k) (hB : But [73] B' B) : MI A' B' n c := by
  obtain ⟨h1, h2, h3, h4⟩ := h
  have tN : TdN B B' := TdN_9 (But_w hB rfl)
  obtain ⟨-, -, -, x3, x4⟩ := G_b (n := n) tN (show B' 60 = B 60 from But_q hB rfl) (But_q hB rfl)
  exact ⟨SI_f h1 hA a7 hB, by rw [But_q hB rfl]; exact h2, x4 h3, x3 h4⟩
theorem isW_t {B B' : gM} {n m : Nat} {W : Nat → Int} (h : isW B n m W) (hT : TdN B B') (h67 : B' 67 = B 67) : isW B' n m W := by
  intro u hu hun hd
  obtain ⟨mx, ⟨x1, x2, x3⟩, x4⟩ := h u hu hun ((ndd_t hT u).mp hd)
  refine ⟨mx, ⟨x1, fun v a b c d => x2 v a b ((ndd_t hT v).mp c) ((isI_t hT.1 v u).mp d), ?_⟩, ?_⟩
  · rcases x3 with q | ⟨v, a, b, c, d, e⟩
    · exact Or.inl q
    · exact Or.inr ⟨v, a, b, (ndd_t hT v).mpr c, (isI_t hT.1 v u).mpr d, e⟩
  · unfold tk at x4 ⊢
    rw [h67]
    exact x4
theorem isW_1 {A B : gM} {n c : Nat} {W : Nat → Int} (hT : RT A B n) (hRB : RB A B n c) (h : isW B n 0 W) : ∀ u, u < n → ndd B u → 1 ≤ W u := fun u hu hd => by
  obtain ⟨mx, ⟨x1, -⟩, x2⟩ := h u (Nat.zero_le _) hu hd
  have := (tk_in hRB (Nat.lt_of_lt_of_le hu hT.1)).2.1
  omega
def fI (B : gM) (w : Nat) : Nat := if B 54 0 w = -1 ∧ 0 < B 53 0 w then 1 else 0
def nIdl (B : gM) : Nat := fI B 0 + fI B 1 + fI B 2 + fI B 3
theorem nIdl_lt {B B' : gM} {w : Nat} (hw : w < 4) (hne : ∀ v, v ≠ w → fI B' v = fI B v) (h1 : fI B w = 1) (h0 : fI B' w = 0) : nIdl B' + 1 = nIdl B := by
  unfold nIdl
  rcases (show w = 0 ∨ w = 1 ∨ w = 2 ∨ w = 3 by omega) with e | e | e | e
  · subst e
    rw [hne 1 (by decide), hne 2 (by decide), hne 3 (by decide), h0, h1]
    omega
  · subst e
    rw [hne 0 (by decide), hne 2 (by decide), hne 3 (by decide), h0, h1]
    omega
  · subst e
    rw [hne 0 (by decide), hne 1 (by decide), hne 3 (by decide), h0, h1]
    omega
  · subst e
    rw [hne 0 (by decide), hne 1 (by decide), hne 2 (by decide), h0, h1]
theorem nIdl_pos {B : gM} {w : Nat} (hw : w < 4) (h : idl B w) : 1 ≤ nIdl B := by
  have e : fI B w = 1 := if_pos h
  unfold nIdl
  rcases (show w = 0 ∨ w = 1 ∨ w = 2 ∨ w = 3 by omega) with q | q | q | q <;> subst q <;> omega
theorem nIdl_4 (B : gM) : nIdl B ≤ 4 := by
  have f : ∀ w, fI B w ≤ 1 := fun w => by
    unfold fI
    by_cases q : B 54 0 w = -1 ∧ 0 < B 53 0 w
    · rw [if_pos q]; exact Nat.le_refl _
    · rw [if_neg q]; exact Nat.zero_le _
  have := f 0
  have := f 1
  have := f 2
  have := f 3
  unfold nIdl
  omega
theorem bestI_t {B B' : gM} {m : Nat} {x : Option Nat} (h : bestI B m x) (h53 : B' 53 = B 53) (h54 : B' 54 = B 54) : bestI B' m x := by
  unfold bestI idl at h ⊢
  rw [h53, h54]
  exact h
theorem begLoop {n c : Nat} {W : Nat → Int} {x : Int} {k : gM → Option gM} (hc : c ≤ 600) : ∀ (d i n1 n2 : Nat) (A B : gM), nIdl B ≤ d → i + d ≤ 4 → d < n1 → d < n2 → MI A B n c → (∀ u, u < n → A 7 u 10 = W u) → isW B n 0 W → (∀ a, B 65 0 a ≤ x - (d : Int)) → x ≤ 200 * (c : Int) → ∃ A' B' : gM, f_X2_beginReady_L13 (fun (M_13_72 : gM) => some M_13_72) n1 (i : Int) A = some A' ∧ (ob (f_X12_next B) fun r1 => ob (f_X12_idle r1.2) fun r6 => f_X12_builds_L10 k n2 r1.1 r6 r1.2) = k B' ∧ MI A' B' n c ∧ (∀ a, B' 65 0 a ≤ x) ∧ But [9, 11, 24] A' A ∧ But [54, 55, 56, 57, 58, 60, 65, 68, 73] B' B := by
  intro d
  induction d with
  | zero =>
    intro i n1 n2 A B hd hi h1 h2 hM hAW hW hx hxc
    obtain ⟨n1, rfl⟩ : ∃ y, n1 = y + 1 := ⟨n1 - 1, by omega⟩
    obtain ⟨n2, rfl⟩ : ∃ y, n2 = y + 1 := ⟨n2 - 1, by omega⟩
    have hT := hM.1.2.1
    have hS := hM.1.1
    have hRB := hM.1.2.2.2.2.2.1
    obtain ⟨i1, i2, i3⟩ := RW_iff.mp hM.1.2.2.2.2.1
    obtain ⟨xi, s1, s2⟩ := siC i1 (W0_of i2)
    obtain ⟨M1, xa, l, r1, r2, r3⟩ := nxM hS hT hRB But_r hW (isW_1 hT hRB hW)
    obtain ⟨xi', s3, s4⟩ := siM M1
    have ex : xi' = xi := bestI_eq (bestI_t s4 (But_q r2 rfl).symm (But_q r2 rfl).symm) s2
    subst ex
    have xn : xi' = none := by
      rcases s2 with ⟨q, -⟩ | ⟨w, w1, -, w3, -⟩
      · exact q
      · have := nIdl_pos w1 w3
        omega
    subst xn
    refine ⟨A, M1, ?_, ?_, MI_f hM But_r (fun _ _ _ => rfl) r2, fun a => ?_, But_r, But_w r2 rfl⟩
    · rw [f_X2_beginReady_L13]
      by_cases q : (i : Int) < 4
      · rw [if_pos q, s1, ob_s]
        rfl
      · rw [if_neg q]
    · rw [r1, ob_s]
      dsimp only
      rw [s3, ob_s, f_X12_builds_L10]
      by_cases q : encO xa = -1
      · rw [if_pos q]
      · rw [if_neg q, if_pos (show encO none = -1 from rfl)]
    · rw [But_q r2 rfl]
      have := hx a
      omega
  | succ d ih =>
    intro i n1 n2 A B hd hi h1 h2 hM hAW hW hx hxc
    obtain ⟨n1, rfl⟩ : ∃ y, n1 = y + 1 := ⟨n1 - 1, by omega⟩
    obtain ⟨n2, rfl⟩ : ∃ y, n2 = y + 1 := ⟨n2 - 1, by omega⟩
    have hi4 : (i : Int) < 4 := by omega
    have ih1 : i + 1 + d ≤ 4 := by omega
    have ih2 : d < n1 := by omega
    have ih3 : d < n2 := by omega
    have hxa : ∀ a, B 65 0 a ≤ x := fun a => by have := hx a; omega
    have hxs : x - ((d + 1 : Nat) : Int) + 1 = x - (d : Int) := by omega
    have hxs2 : x - ((d + 1 : Nat) : Int) + 1 ≤ 200 * (c : Int) := by omega
    have w1 : wI ((i : Int) + 1) = ((i + 1 : Nat) : Int) := wad1 (by omega)
    have hT := hM.1.2.1
    have hS := hM.1.1
    have hRB := hM.1.2.2.2.2.2.1
    obtain ⟨i1, i2, i3⟩ := RW_iff.mp hM.1.2.2.2.2.1
    obtain ⟨xi, s1, s2⟩ := siC i1 (W0_of i2)
    obtain ⟨M1, xa, l, r1, r2, r3⟩ := nxM hS hT hRB But_r hW (isW_1 hT hRB hW)
    obtain ⟨xi', s3, s4⟩ := siM M1
    have ex : xi' = xi := bestI_eq (bestI_t s4 (But_q r2 rfl).symm (But_q r2 rfl).symm) s2
    subst ex
    obtain ⟨xa', l', t1, t2⟩ := lrC hT hRB hAW hT hRB (isW_1 hT hRB hW)
    have ex2 : xa' = xa := bestR_eq t2 r3
    subst ex2
    have stop : (xi' = none ∨ xa' = none) → ∃ A' B' : gM, f_X2_beginReady_L13 (fun (M_13_72 : gM) => some M_13_72) (n1 + 1) (i : Int) A = some A' ∧ (ob (f_X12_next B) fun r1 => ob (f_X12_idle r1.2) fun r6 => f_X12_builds_L10 k (n2 + 1) r1.1 r6 r1.2) = k B' ∧ MI A' B' n c ∧ (∀ a, B' 65 0 a ≤ x) ∧ But [9, 11, 24] A' A ∧ But [54, 55, 56, 57, 58, 60, 65, 68, 73] B' B := by
      intro q
      refine ⟨A, M1, ?_, ?_, MI_f hM But_r (fun _ _ _ => rfl) r2, fun a => ?_, But_r, But_w r2 rfl⟩
      · rw [f_X2_beginReady_L13, if_pos hi4, s1, ob_s]
        cases xi' with
        | none => rfl
        | some w =>
          have xn : xa' = none := q.resolve_left (Option.some_ne_none _)
          subst xn
          show ob (f_X2_longestReady A) _ = _
          rw [t1]
          rfl
      · rw [r1, ob_s]
        dsimp only
        rw [s3, ob_s, f_X12_builds_L10]
        by_cases z : encO xa' = -1
        · rw [if_pos z]
        · rw [if_neg z]
          have xn : xi' = none := q.resolve_right (fun y => z (by rw [y]; rfl))
          subst xn
          rw [if_pos (show encO none = -1 from rfl)]
      · rw [But_q r2 rfl]
        exact hxa a
    rcases s2 with ⟨q, -⟩ | ⟨w, hw4, q, hidle, -⟩
    · exact stop (Or.inl q)
    · rcases t2 with ⟨q', -⟩ | ⟨t, s, ht, q', hr, -⟩
      · exact stop (Or.inr q')
      · subst q q'
        have hM1 : MI A M1 n c := MI_f hM But_r (fun _ _ _ => rfl) r2
        have tN1 : TdN B M1 := TdN_9 (But_w r2 rfl)
        have idle1 : idl M1 w := by
          unfold idl at hidle ⊢
          rw [But_q r2 rfl, But_q r2 rfl]
          exact hidle
        have hr1 : rdyA M1 n t s := by
          unfold rdyA at hr ⊢
          rw [aOK_t tN1.1, ndd_t tN1, But_q r2 rfl]
          exact hr
        obtain ⟨A2, B2, u1, u2, u3, u4, u5, u6, u7⟩ := beg1 (x := x - ((d + 1 : Nat) : Int)) hM1 hw4 idle1 hr1 (fun a => by rw [But_q r2 rfl]; exact hx a) hxs2 hc
        have tN2 : TdN M1 B2 := TdN_9 (But_w u6 rfl)
        have fB2 : But [54, 55, 56, 57, 58, 60, 65, 68, 73] B2 B := But_t (But_w r2 rfl) (But_w u6 rfl)
        have tN : TdN B B2 := TdN_9 (But_w fB2 rfl)
        have nI2 : nIdl B2 + 1 = nIdl B := by
          refine nIdl_lt hw4 (fun v hv => ?_) (if_pos hidle) (if_neg (fun z => ?_))
          · unfold fI
            rw [u7, if_neg hv, show B2 53 = B 53 from But_q fB2 rfl, show M1 54 = B 54 from But_q r2 rfl]
          · have := z.1
            rw [u7, if_pos rfl] at this
            omega
        have nId : nIdl B2 ≤ d := by omega
        rw [hxs] at u4
        obtain ⟨A3, B3, v1, v2, v3, v4, v5, v6⟩ := ih (i + 1) n1 n2 A2 B2 nId ih1 ih2 ih3 u3 (fun u hu => by rw [But_q u5 rfl]; exact hAW u hu) (isW_t hW tN (But_q fB2 rfl)) u4 hxc
        refine ⟨A3, B3, ?_, ?_, v3, v4, But_t u5 v5, But_t fB2 v6⟩
        · rw [f_X2_beginReady_L13, if_pos hi4, s1, ob_s]
          show ob (f_X2_longestReady A) _ = _
          rw [t1, ob_s]
          show ob (f_X2_start w (4 * t + s) _) _ = _
          rw [u1, ob_s, w1]
          exact v1
        · have g56 : (0 : Int) ≤ ((4 * t + s : Nat) : Int) ∧ ((4 * t + s : Nat) : Int) < 56 := by
            have := hT.1
            have := hr.1
            omega
          have na : ¬ encO (some (4 * t + s)) = -1 := fun z => by
            have : ((4 * t + s : Nat) : Int) = -1 := z
            omega
          have nw : ¬ encO (some w) = -1 := fun z => by
            have : (w : Int) = -1 := z
            omega
          rw [r1, ob_s]
          dsimp only
          rw [s3, ob_s, f_X12_builds_L10, if_neg na, if_neg nw]
          show (og ((0 : Int) ≤ ((4 * t + s : Nat) : Int) ∧ ((4 * t + s : Nat) : Int) < 56) <| og ((0 : Int) ≤ ((4 * t + s : Nat) : Int) ∧ ((4 * t + s : Nat) : Int) < 56) <| ob (f_X12_begins ((4 * t + s : Nat) : Int) (w : Int) (gU M1 65 0 ((4 * t + s : Nat) : Int).toNat (wI ((M1 65 0 ((4 * t + s : Nat) : Int).toNat) + 1)))) fun r33 => ob (f_X12_next r33) fun r37 => ob (f_X12_idle r37.2) fun r42 => f_X12_builds_L10 k n2 r37.1 r42 r37.2) = _
          rw [og_t g56, og_t g56, Int.toNat_natCast, u2, ob_s]
          exact v2
