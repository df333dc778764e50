/-! ## p29: a tick's beginning: who begins what, and that somebody is at something -/
theorem W3_w {B : gM} {n : Nat} {l l' : Int} (h : W3 l B n) (hl : l' ≤ l) : W3 l' B n := by
  intro w hw
  rcases h w hw with q | ⟨t, s, e1, e2, e3, e4, e5, e6, e7⟩
  · exact Or.inl q
  · exact Or.inr ⟨t, s, e1, e2, e3, e4, e5, Int.le_trans hl e6, e7⟩
theorem W3_0 {B : gM} {n : Nat} (h : W3 1 B n) : W3 0 B n := W3_w h (by decide)
theorem XX_bn {A B B1 : gM} {n w t s : Nat} {T : Int} (hS : RS A B) (hT : RT A B n) (hW : W3 0 B n) (h2 : G2 B n) (hX : XX B n) (f1 : But [65, 73] B1 B) (hs : s < 4) (hao : aOK B n t s) (hnd : ndd B t) (hst : B 60 0 (4 * t + s) = 1 ∨ B 60 0 (4 * t + s) = 2) : XX (bnB B1 w (4 * t + s) (KK B t s) (cnt B (B 30 0) t (KK B t s)) T) n := by
  obtain ⟨y1, y2, y3, y4, y5, y6, y7⟩ := bnB_c (B := B1) (w := w) (a := 4 * t + s) (key := KK B t s) (con := cnt B (B 30 0) t (KK B t s)) (T := T)
  have fB : But [54, 55, 56, 57, 58, 60, 65, 68, 73] (bnB B1 w (4 * t + s) (KK B t s) (cnt B (B 30 0) t (KK B t s)) T) B := But_t (But_w f1 rfl) (But_w bnB_o rfl)
  have hD : inD B n t := fun u hu y hy ho => h2 t s hs hao hnd hst u hu y hy ho
  have h3 : B 60 0 (4 * t + s) ≠ 3 := fun z => by
    rw [z] at hst
    rcases hst with q | q <;> exact absurd q (by decide)
  have e54 : B1 54 = B 54 := But_q f1 rfl
  have e57 : B1 57 = B 57 := But_q f1 rfl
  have e58 : B1 58 = B 58 := But_q f1 rfl
  have e60 : B1 60 = B 60 := But_q f1 rfl
  refine XX_act hS hT hW h2 hX (TdN_9 (But_w fB rfl)) (But_q fB rfl) hs h3 (fun x hx => by rw [y6, if_neg hx, e60]) (fun x _ => by rw [But_q fB rfl]) (fun x _ => by rw [But_q fB rfl]) (XE_c hX.2.1 (by rw [But_q fB rfl]) (But_l fB rfl)) (EM_r (by rw [But_q fB rfl]) (But_l fB rfl)) hao.1 (fun v _ => ?_) (fun q => ?_)
  · by_cases e : v = w
    · refine Or.inr (Or.inr ⟨hD, ?_, ?_, ?_⟩)
      · rw [y1, if_pos e]
      · rw [y4, if_pos e]
      · rw [y5, if_pos e]
    · refine Or.inr (Or.inl ⟨?_, ?_, ?_⟩)
      · rw [y1, if_neg e, e54]
      · rw [y4, if_neg e, e57]
      · rw [y5, if_neg e, e58]
  · rw [y6, if_pos rfl] at q
    exact absurd q (by decide)
theorem pc2 {x T v : Int} (h2 : T ≤ 50) (h3 : (3 - x) * 50 ≤ v) : (2 - x) * 50 + T ≤ v := by omega
theorem PM_bn {B B1 : gM} {n w t s : Nat} {N key con T : Int} (hP : PM B n N) (f1 : But [65, 73] B1 B) (hs : s < 4) (hw : w < 4) (hidle : B 54 0 w = -1) (hT : T ≤ 50) (hst : B 60 0 (4 * t + s) = 1 ∨ B 60 0 (4 * t + s) = 2) : PM (bnB B1 w (4 * t + s) key con T) n N := by
  obtain ⟨y1, y2, y3, y4, y5, y6, y7⟩ := bnB_c (B := B1) (w := w) (a := 4 * t + s) (key := key) (con := con) (T := T)
  have fB : But [54, 55, 56, 57, 58, 60, 65, 68, 73] (bnB B1 w (4 * t + s) key con T) B := But_t (But_w f1 rfl) (But_w bnB_o rfl)
  have e54 : B1 54 = B 54 := But_q f1 rfl
  have e55 : B1 55 = B 55 := But_q f1 rfl
  have e60 : B1 60 = B 60 := But_q f1 rfl
  have e63 : (bnB B1 w (4 * t + s) key con T) 63 = B 63 := But_q fB rfl
  have oth : ∀ v, v ≠ w → (bnB B1 w (4 * t + s) key con T) 54 0 v = B 54 0 v ∧ (bnB B1 w (4 * t + s) key con T) 55 0 v = B 55 0 v := fun v e => by
    rw [y1, y2, if_neg e, if_neg e, e54, e55]
    exact ⟨rfl, rfl⟩
  refine PM_act hP (TdN_9 (But_w fB rfl)) hs (fun x hx => by rw [y6, if_neg hx, e60]) (fun x _ => by rw [e63]) (fun v _ _ z => oth v (fun e => z (by rw [e]; exact hidle))) (fun v hv => ?_)
  intro _
  rw [e63, y6, if_pos rfl]
  rcases hst with q | q
  · obtain ⟨p1, p2, p3, -⟩ := hv (by rw [q]; decide)
    refine ⟨p1, p2, fun z => absurd rfl z, fun _ => ⟨w, hw, by rw [y1, if_pos rfl], ?_⟩⟩
    rw [y2, if_pos rfl]
    exact pc2 hT (p3 (by rw [q]; decide))
  · obtain ⟨p1, p2, -, p4⟩ := hv (by rw [q]; decide)
    refine ⟨p1, p2, fun z => absurd rfl z, fun _ => ?_⟩
    obtain ⟨w', q1, q2, q3⟩ := p4 q
    obtain ⟨o1, o2⟩ := oth w' (fun e => by rw [e, hidle] at q2; omega)
    exact ⟨w', q1, o1.trans q2, by rw [o2]; exact q3⟩
def Endd (B : gM) (n : Nat) : Prop := (∀ t, ¬ hasR B n t) ∨ ∀ w, w < 4 → ¬ idl B w
theorem hasR_f {B M : gM} {n : Nat} (f : But [73] M B) (t : Nat) : hasR M n t ↔ hasR B n t := by
  have tN : TdN B M := TdN_9 (But_w f rfl)
  unfold hasR rdyA
  simp only [aOK_t tN.1, ndd_t tN, show M 60 = B 60 from But_q f rfl]
theorem hasR_n {B : gM} {n t : Nat} (h : hasR B n t) : t < n := by
  obtain ⟨s, h1, h2, -⟩ := h
  exact h2.1
theorem begLoopX {n c : Nat} {W : Nat → Int} {x N : Int} {k : gM → Option gM} (hc : c ≤ 600) : ∀ (d i n1 n2 : Nat) (A B : gM), nIdl B ≤ d → i + d ≤ 4 → d < n1 → d < n2 → MI A B n c → (∀ u, u < n → A 7 u 10 = W u) → isW B n 0 W → (∀ a, B 65 0 a ≤ x - (d : Int)) → x ≤ 200 * (c : Int) → XX B n → PM B n N → ∃ A' B' : gM, f_X2_beginReady_L13 (fun (M_13_72 : gM) => some M_13_72) n1 (i : Int) A = some A' ∧ (ob (f_X12_next B) fun r1 => ob (f_X12_idle r1.2) fun r6 => f_X12_builds_L10 k n2 r1.1 r6 r1.2) = k B' ∧ MI A' B' n c ∧ (∀ a, B' 65 0 a ≤ x) ∧ But [9, 11, 24] A' A ∧ But [54, 55, 56, 57, 58, 60, 65, 68, 73] B' B ∧ XX B' n ∧ PM B' n N ∧ Endd B' n := by
  intro d
  induction d with
  | zero =>
    intro i n1 n2 A B hd hi h1 h2 hM hAW hW hx hxc hXX hPM
    obtain ⟨n1, rfl⟩ : ∃ y, n1 = y + 1 := ⟨n1 - 1, by omega⟩
    obtain ⟨n2, rfl⟩ : ∃ y, n2 = y + 1 := ⟨n2 - 1, by omega⟩
    have hT := hM.1.2.1
    have hS := hM.1.1
    have hRB := hM.1.2.2.2.2.2.1
    obtain ⟨i1, i2, i3⟩ := RW_iff.mp hM.1.2.2.2.2.1
    obtain ⟨xi, s1, s2⟩ := siC i1 (W0_of i2)
    obtain ⟨M1, xa, l, r1, r2, r3⟩ := nxM hS hT hRB But_r hW (isW_1 hT hRB hW)
    obtain ⟨xi', s3, s4⟩ := siM M1
    have ex : xi' = xi := bestI_eq (bestI_t s4 (But_q r2 rfl).symm (But_q r2 rfl).symm) s2
    subst ex
    have xn : xi' = none := by
      rcases s2 with ⟨q, -⟩ | ⟨w, w1, -, w3, -⟩
      · exact q
      · have := nIdl_pos w1 w3
        omega
    subst xn
    have tN1 : TdN B M1 := TdN_9 (But_w r2 rfl)
    refine ⟨A, M1, ?_, ?_, MI_f hM But_r (fun _ _ _ => rfl) r2, fun a => ?_, But_r, But_w r2 rfl, XX_fr hXX tN1 (But_q r2 rfl) (by rw [But_q r2 rfl]) (But_l r2 rfl), PM_fr hPM tN1 (But_l r2 rfl), Or.inr (fun w hw z => ?_)⟩
    · rw [f_X2_beginReady_L13]
      by_cases q : (i : Int) < 4
      · rw [if_pos q, s1, ob_s]
        rfl
      · rw [if_neg q]
    · rw [r1, ob_s]
      dsimp only
      rw [s3, ob_s, f_X12_builds_L10]
      by_cases q : encO xa = -1
      · rw [if_pos q]
      · rw [if_neg q, if_pos (show encO none = -1 from rfl)]
    · rw [But_q r2 rfl]
      have := hx a
      omega
    · have z' : idl B w := by
        unfold idl at z ⊢
        rw [But_q r2 rfl, But_q r2 rfl] at z
        exact z
      have := nIdl_pos hw z'
      omega
  | succ d ih =>
    intro i n1 n2 A B hd hi h1 h2 hM hAW hW hx hxc hXX hPM
    obtain ⟨n1, rfl⟩ : ∃ y, n1 = y + 1 := ⟨n1 - 1, by omega⟩
    obtain ⟨n2, rfl⟩ : ∃ y, n2 = y + 1 := ⟨n2 - 1, by omega⟩
    have hi4 : (i : Int) < 4 := by omega
    have ih1 : i + 1 + d ≤ 4 := by omega
    have ih2 : d < n1 := by omega
    have ih3 : d < n2 := by omega
    have hxa : ∀ a, B 65 0 a ≤ x := fun a => by have := hx a; omega
    have hxs : x - ((d + 1 : Nat) : Int) + 1 = x - (d : Int) := by omega
    have hxs2 : x - ((d + 1 : Nat) : Int) + 1 ≤ 200 * (c : Int) := by omega
    have w1 : wI ((i : Int) + 1) = ((i + 1 : Nat) : Int) := wad1 (by omega)
    have hT := hM.1.2.1
    have hS := hM.1.1
    have hRB := hM.1.2.2.2.2.2.1
    obtain ⟨i1, i2, i3⟩ := RW_iff.mp hM.1.2.2.2.2.1
    obtain ⟨xi, s1, s2⟩ := siC i1 (W0_of i2)
    obtain ⟨M1, xa, l, r1, r2, r3⟩ := nxM hS hT hRB But_r hW (isW_1 hT hRB hW)
    obtain ⟨xi', s3, s4⟩ := siM M1
    have ex : xi' = xi := bestI_eq (bestI_t s4 (But_q r2 rfl).symm (But_q r2 rfl).symm) s2
    subst ex
    obtain ⟨xa', l', t1, t2⟩ := lrC hT hRB hAW hT hRB (isW_1 hT hRB hW)
    have ex2 : xa' = xa := bestR_eq t2 r3
    subst ex2
    have tN1 : TdN B M1 := TdN_9 (But_w r2 rfl)
    have hX1 : XX M1 n := XX_fr hXX tN1 (But_q r2 rfl) (by rw [But_q r2 rfl]) (But_l r2 rfl)
    have hP1 : PM M1 n N := PM_fr hPM tN1 (But_l r2 rfl)
    have stop : (xi' = none ∨ xa' = none) → ∃ A' B' : gM, f_X2_beginReady_L13 (fun (M_13_72 : gM) => some M_13_72) (n1 + 1) (i : Int) A = some A' ∧ (ob (f_X12_next B) fun r1 => ob (f_X12_idle r1.2) fun r6 => f_X12_builds_L10 k (n2 + 1) r1.1 r6 r1.2) = k B' ∧ MI A' B' n c ∧ (∀ a, B' 65 0 a ≤ x) ∧ But [9, 11, 24] A' A ∧ But [54, 55, 56, 57, 58, 60, 65, 68, 73] B' B ∧ XX B' n ∧ PM B' n N ∧ Endd B' n := by
      intro q
      refine ⟨A, M1, ?_, ?_, MI_f hM But_r (fun _ _ _ => rfl) r2, fun a => ?_, But_r, But_w r2 rfl, hX1, hP1, ?_⟩
      · rw [f_X2_beginReady_L13, if_pos hi4, s1, ob_s]
        cases xi' with
        | none => rfl
        | some w =>
          have xn : xa' = none := q.resolve_left (Option.some_ne_none _)
          subst xn
          show ob (f_X2_longestReady A) _ = _
          rw [t1]
          rfl
      · rw [r1, ob_s]
        dsimp only
        rw [s3, ob_s, f_X12_builds_L10]
        by_cases z : encO xa' = -1
        · rw [if_pos z]
        · rw [if_neg z]
          have xn : xi' = none := q.resolve_right (fun y => z (by rw [y]; rfl))
          subst xn
          rw [if_pos (show encO none = -1 from rfl)]
      · rw [But_q r2 rfl]
        exact hxa a
      · rcases q with q | q
        · refine Or.inr (fun w hw z => ?_)
          subst q
          rcases s2 with ⟨-, y⟩ | ⟨w', -, y, -⟩
          · refine y w hw ?_
            unfold idl at z ⊢
            rw [But_q r2 rfl, But_q r2 rfl] at z
            exact z
          · cases y
        · refine Or.inl (fun t z => ?_)
          subst q
          rw [hasR_f r2] at z
          rcases t2 with ⟨-, y⟩ | ⟨t', s', -, y, -⟩
          · exact y t (hasR_n z) z
          · cases y
    rcases s2 with ⟨q, -⟩ | ⟨w, hw4, q, hidle, -⟩
    · exact stop (Or.inl q)
    · rcases t2 with ⟨q', -⟩ | ⟨t, s, ht, q', hr, -⟩
      · exact stop (Or.inr q')
      · subst q q'
        have hM1 : MI A M1 n c := MI_f hM But_r (fun _ _ _ => rfl) r2
        have idle1 : idl M1 w := by
          unfold idl at hidle ⊢
          rw [But_q r2 rfl, But_q r2 rfl]
          exact hidle
        have hr1 : rdyA M1 n t s := by
          unfold rdyA at hr ⊢
          rw [aOK_t tN1.1, ndd_t tN1, But_q r2 rfl]
          exact hr
        obtain ⟨A2, B2, u1, u2, u3, u4, u5, u6, u7⟩ := beg1 (x := x - ((d + 1 : Nat) : Int)) hM1 hw4 idle1 hr1 (fun a => by rw [But_q r2 rfl]; exact hx a) hxs2 hc
        have tN2 : TdN M1 B2 := TdN_9 (But_w u6 rfl)
        have fB2 : But [54, 55, 56, 57, 58, 60, 65, 68, 73] B2 B := But_t (But_w r2 rfl) (But_w u6 rfl)
        have tN : TdN B B2 := TdN_9 (But_w fB2 rfl)
        have nI2 : nIdl B2 + 1 = nIdl B := by
          refine nIdl_lt hw4 (fun v hv => ?_) (if_pos hidle) (if_neg (fun z => ?_))
          · unfold fI
            rw [u7, if_neg hv, show B2 53 = B 53 from But_q fB2 rfl, show M1 54 = B 54 from But_q r2 rfl]
          · have := z.1
            rw [u7, if_pos rfl] at this
            omega
        have nId : nIdl B2 ≤ d := by omega
        rw [hxs] at u4
        have hao1 := hr1.2.1
        obtain ⟨zz, zz1, zz2, zz3⟩ := szT hM1.1.2.1 hao1.1
        obtain ⟨j1, j2, -⟩ := RW_iff.mp hM1.1.2.2.2.2.1
        have hp : 0 < M1 53 0 w ∧ M1 53 0 w ≤ 9 := ⟨idle1.2, (j1.2 w hw4).2.1.2⟩
        have f65 : But [65, 73] (gU M1 65 0 (4 * t + s) (wI ((M1 65 0 (4 * t + s)) + 1))) M1 := But_u But_r rfl
        have sm' := startM (c := c) hM1.1.1 hM1.1.2.1 hM1.1.2.2.2.2.2.1 hao1.1 zz1 zz3 hr1.1 hw4 hp f65
        have eB2 := Option.some.inj (u2.symm.trans sm')
        obtain ⟨tk1, tk2, -⟩ := tkN_in zz1 zz3 hp
        have hX2 : XX B2 n := by
          rw [eB2]
          exact XX_bn hM1.1.1 hM1.1.2.1 (W3_0 j2) hM1.1.2.2.2.2.2.2.2.1 hX1 f65 hr1.1 hao1 hr1.2.2.1 (Or.inl hr1.2.2.2.1)
        have hP2 : PM B2 n N := by
          rw [eB2]
          exact PM_bn hP1 f65 hr1.1 hw4 idle1.1 tk2 (Or.inl hr1.2.2.2.1)
        obtain ⟨A3, B3, v1, v2, v3, v4, v5, v6, v7⟩ := ih (i + 1) n1 n2 A2 B2 nId ih1 ih2 ih3 u3 (fun u hu => by rw [But_q u5 rfl]; exact hAW u hu) (isW_t hW tN (But_q fB2 rfl)) u4 hxc hX2 hP2
        refine ⟨A3, B3, ?_, ?_, v3, v4, But_t u5 v5, But_t fB2 v6, v7⟩
        · rw [f_X2_beginReady_L13, if_pos hi4, s1, ob_s]
          show ob (f_X2_longestReady A) _ = _
          rw [t1, ob_s]
          show ob (f_X2_start w (4 * t + s) _) _ = _
          rw [u1, ob_s, w1]
          exact v1
        · have g56 : (0 : Int) ≤ ((4 * t + s : Nat) : Int) ∧ ((4 * t + s : Nat) : Int) < 56 := by
            have := hT.1
            have := hr.1
            omega
          have na : ¬ encO (some (4 * t + s)) = -1 := fun z => by
            have : ((4 * t + s : Nat) : Int) = -1 := z
            omega
          have nw : ¬ encO (some w) = -1 := fun z => by
            have : (w : Int) = -1 := z
            omega
          rw [r1, ob_s]
          dsimp only
          rw [s3, ob_s, f_X12_builds_L10, if_neg na, if_neg nw]
          show (og ((0 : Int) ≤ ((4 * t + s : Nat) : Int) ∧ ((4 * t + s : Nat) : Int) < 56) <| og ((0 : Int) ≤ ((4 * t + s : Nat) : Int) ∧ ((4 * t + s : Nat) : Int) < 56) <| ob (f_X12_begins ((4 * t + s : Nat) : Int) (w : Int) (gU M1 65 0 ((4 * t + s : Nat) : Int).toNat (wI ((M1 65 0 ((4 * t + s : Nat) : Int).toNat) + 1)))) fun r33 => ob (f_X12_next r33) fun r37 => ob (f_X12_idle r37.2) fun r42 => f_X12_builds_L10 k n2 r37.1 r42 r37.2) = _
          rw [og_t g56, og_t g56, Int.toNat_natCast, u2, ob_s]
          exact v2
def Runs (B : gM) (n : Nat) : Prop := ∃ t s, s < 4 ∧ aOK B n t s ∧ ndd B t ∧ B 60 0 (4 * t + s) = 2
theorem rdy_of {B : gM} {n t : Nat} (hd : ndd B t) : ∀ m s, s < m → s < 4 → aOK B n t s → B 60 0 (4 * t + s) = 1 → hasR B n t := by
  intro m
  induction m with
  | zero => intro s h; exact absurd h (Nat.not_lt_zero _)
  | succ m ih =>
    intro s h1 h2 h3 h4
    by_cases q : ∃ s', s' < s ∧ B 60 0 (4 * t + s') = 1
    · obtain ⟨s', q1, q2⟩ := q
      refine ih s' (by omega) (by omega) ⟨h3.1, ?_⟩ q2
      have := h3.2
      omega
    · exact ⟨s, h2, h3, hd, h4, fun s' q1 q2 => q ⟨s', q1, q2⟩⟩
theorem runs {A B : gM} {n c : Nat} (h : MI A B n c) (hp : ∃ w, w < 4 ∧ 0 < B 53 0 w) (hend : Endd B n) : Runs B n := by
  refine Classical.byContradiction (fun no => ?_)
  obtain ⟨hSI, hg, g0, g3⟩ := h
  obtain ⟨h1, h2, h3, h4, h5, h6, g1', g2, g4⟩ := hSI
  obtain ⟨i1, i2, i3⟩ := RW_iff.mp h5
  have key : ∀ m t s, t < m → s < 4 → aOK B n t s → ndd B t → B 60 0 (4 * t + s) < 3 → ∃ t', hasR B n t' := by
    intro m
    induction m with
    | zero => intro t s q; exact absurd q (Nat.not_lt_zero _)
    | succ m ih =>
      intro t s q hs ho hd hlt
      have h14 : t < 14 := Nat.lt_of_lt_of_le ho.1 h2.1
      have ge0 := ((h6.2.2.2.2.2.2.2.1 t s h14 hs).2.2.1 ⟨ho, hd⟩).2.1.1
      by_cases e1 : B 60 0 (4 * t + s) = 1
      · exact ⟨t, rdy_of hd (s + 1) s (Nat.lt_succ_self s) hs ho e1⟩
      · by_cases e0 : B 60 0 (4 * t + s) = 0
        · obtain ⟨u, v, u1, u2, u3, u4⟩ := g3 t s hs ho hd e0
          have hu := isI_lt h1 h2 ho.1 u1
          exact ih u v (by omega) u2 u3 (g1' t u ho.1 hd u1) u4
        · refine absurd ⟨t, s, hs, ho, hd, ?_⟩ no
          omega
  obtain ⟨t, s, k1, k2, k3, k4⟩ := g0
  obtain ⟨t', k5⟩ := key (t + 1) t s (Nat.lt_succ_self t) k1 k2 k3 k4
  obtain ⟨w, w1, w2⟩ := hp
  rcases hend with q | q
  · exact q t' k5
  · rcases i2 w w1 with z | ⟨t1, s1, z⟩
    · exact q w w1 ⟨z, w2⟩
    · obtain ⟨z1, z2, z3, z4, z5, -⟩ := z
      exact no ⟨t1, s1, z2, z3, z4, z5⟩
theorem spCMX {A B : gM} {n c : Nat} {N : Int} (k : gM → Option gM) (h : MI A B n c) (hX : XX B n) (hP : PM B n N) : ∃ A' B' : gM, (if A 4 0 10 = 0 then some A else f_X2_speculate A) = some A' ∧ SPB k B = k B' ∧ MI A' B' n c ∧ But [11, 24] A' A ∧ But [54, 55, 56, 57, 58, 60, 68] B' B ∧ XX B' n ∧ PM B' n N ∧ ∀ x, B 60 0 x = 2 → B' 60 0 x = 2 := by
  have hM := h
  obtain ⟨hSI, hg, g0, g3⟩ := h
  have hSI' := hSI
  obtain ⟨h1, h2, h3, h4, h5, h6, g1', g2, g4⟩ := hSI'
  obtain ⟨i1, i2, i3⟩ := RW_iff.mp h5
  have e10 : A 4 0 10 = B 29 0 20 := h4.2.1
  have no : (if A 4 0 10 = 0 then some A else f_X2_speculate A) = some A → SPB k B = k B → ∃ A' B' : gM, (if A 4 0 10 = 0 then some A else f_X2_speculate A) = some A' ∧ SPB k B = k B' ∧ MI A' B' n c ∧ But [11, 24] A' A ∧ But [54, 55, 56, 57, 58, 60, 68] B' B ∧ XX B' n ∧ PM B' n N ∧ ∀ x, B 60 0 x = 2 → B' 60 0 x = 2 := fun a b => ⟨A, B, a, b, hM, But_r, But_r, hX, hP, fun _ q => q⟩
  have gd : (0 : Int) ≤ 0 ∧ (0 : Int) < 4 := by decide
  by_cases e20 : B 29 0 20 = 0
  · exact no (by rw [if_pos (e10.trans e20)]) (by unfold SPB; rw [if_pos e20])
  · obtain ⟨x, l1, l2⟩ := lbC i1 (W0_of i2)
    have cl : (if A 4 0 10 = 0 then some A else f_X2_speculate A) = if f_X10_isIdle 0 A = 0 then some A else om x (some A) fun a16 => oj (gAct (A 11 a16 3)) fun o20 => om o20 (some A) fun a23 => oj (gAct (A 11 a16 3)) fun o32 => ob o32 fun a35_1 => ob (f_X2_start 0 a35_1 A) fun r35 => some r35 := by
      rw [if_neg (fun q => e20 (e10.symm.trans q))]
      unfold f_X2_speculate
      rw [l1, ob_s]
    have rf : SPB k B = if 0 < B 53 0 0 then (if B 54 0 0 = (-1) then (f_X12_builds_L80 (fun (y3_80_131 : Int) => if y3_80_131 = (-1) then (k B) else (og ((0 : Int) ≤ y3_80_131 ∧ (y3_80_131 : Int) < 4) <| ob (f_X12_begins (B 54 0 y3_80_131.toNat) 0 B) fun r144 => k r144)) B 64 ((-1)) 1) else (k B)) else (k B) := by
      unfold SPB
      rw [if_neg e20, og_t gd, og_t gd]
    rcases idC i1 (W0_of i2) (show 0 < 4 by decide) with ⟨q1, q2⟩ | ⟨q1, q2⟩
    · rw [if_neg (show ¬ f_X10_isIdle 0 A = 0 by rw [q1]; exact ne10)] at cl
      rw [if_pos q2.2, if_pos q2.1] at rf
      obtain ⟨x', m1, m2⟩ := lbM (k := fun (y3_80_131 : Int) => if y3_80_131 = (-1) then (k B) else (og ((0 : Int) ≤ y3_80_131 ∧ (y3_80_131 : Int) < 4) <| ob (f_X12_begins (B 54 0 y3_80_131.toNat) 0 B) fun r144 => k r144)) q2.1
      have ex : x' = x := bstG_eq m2 l2
      subst ex
      rw [m1] at rf
      rcases l2 with ⟨y, -⟩ | ⟨v, hv, y, y1, -⟩
      · subst y
        exact no (by rw [cl]; rfl) (by rw [rf]; exact if_pos rfl)
      · subst y
        rcases i2 v hv with z | ⟨t, s, z⟩
        · exact absurd z y1
        · obtain ⟨z1, hs, hao, hnd, h60, -⟩ := z
          have ht := hao.1
          have ht14 : t < 14 := Nat.lt_of_lt_of_le ht h2.1
          obtain ⟨zz, zz1, zz2, zz3⟩ := szT h2 ht
          have hp : 0 < B 53 0 0 ∧ B 53 0 0 ≤ 9 := ⟨q2.2, (i1.2 0 (by decide)).2.1.2⟩
          have hD : inD B n t := fun u hu y hy ho => g2 t s hs hao hnd (Or.inr h60) u hu y hy ho
          obtain ⟨f1, f2, -⟩ := i1.1 0
          have hk := key_in h1 h2 h6 ht hs
          obtain ⟨hcn, hcf⟩ := cnt_in h1 (t := t) hk
          obtain ⟨tk1, tk2, -⟩ := tkN_in zz1 zz3 hp
          obtain ⟨k0, k1, k2, -⟩ := h6.2.2.2.2.2.2.2.1 t s ht14 hs
          have e96 : A 9 (4 * t + s) 6 = B 65 0 (4 * t + s) := (h6.2.2.2.2.2.2.1 (4 * t + s)).2.2.1
          have e92 : A 9 (4 * t + s) 2 = 2 := (k2 ⟨hao, hnd⟩).1.trans h60
          have st := startC (A1 := A) h1 h2 h6 g1' ht hnd hD zz1 zz3 hs (show 0 < 4 by decide) hp f1 f2 But_r ⟨k0, k1⟩
          have sm := startM (B1 := B) h1 h2 h6 ht zz1 zz3 hs (show 0 < 4 by decide) hp But_r
          have ga : gAct (A 11 v 3) = some (4 * t + s) := (gAct_iff _ _).mpr ((i1.1 v).2.2.1.trans z1)
          obtain ⟨x1, x2, x3⟩ := bnA_11 (A := A) (w := 0) (a := 4 * t + s) (key := keyS B (B 30 0) (dgS B) t s) (con := cnt B (B 30 0) t (keyS B (B 30 0) (dgS B) t s)) (T := tkN B 0 t)
          obtain ⟨y1, y2, y3, y4, y5, y6, y7⟩ := bnB_c (B := B) (w := 0) (a := 4 * t + s) (key := keyS B (B 30 0) (dgS B) t s) (con := cnt B (B 30 0) t (keyS B (B 30 0) (dgS B) t s)) (T := tkN B 0 t)
          obtain ⟨s1, s2, s3⟩ := SI_start (att := B 65 0 (4 * t + s)) hSI g0 g3 (show 0 < 4 by decide) q2 hs hao hnd (Or.inr h60) hD (Or.inr rfl) (But_w bnA_o rfl) (But_w bnB_o rfl) x1 x2 (fun y _ => by rw [But_q bnA_o rfl]) (fun k => by
            rw [But_q bnA_o rfl]
            by_cases k2 : k = 2
            · rw [k2, e92]; rfl
            · by_cases k6 : k = 6
              · rw [k6, e96]; rfl
              · rw [if_neg k2, if_neg k6]) x3 y7 y1 y2 y3 y4 y5 y6 (fun y => by
            rw [But_q bnB_o rfl]
            by_cases e : y = 4 * t + s
            · rw [if_pos e, e]
            · rw [if_neg e]) hk hcn hcf ⟨tk1, tk2⟩ (at0 h6 _)
          have hX2 := XX_bn (w := 0) (T := tkN B 0 t) h1 h2 (W3_0 i2) g2 hX But_r hs hao hnd (Or.inr h60)
          have hP2 := PM_bn (w := 0) (t := t) (key := keyS B (B 30 0) (dgS B) t s) (con := cnt B (B 30 0) t (keyS B (B 30 0) (dgS B) t s)) hP But_r hs (show 0 < 4 by decide) q2.1 tk2 (Or.inr h60)
          refine ⟨_, _, ?_, ?_, ⟨s1, by rw [But_q bnB_o rfl]; exact hg, s2, s3⟩, bnA_o, bnB_o, hX2, hP2, fun y q => ?_⟩
          · rw [cl]
            rw [om_some]
            dsimp only [oj]
            rw [ga, om_some, ob_s, st, ob_s]
          · have nv : ¬ encO (some v) = -1 := fun z => by
              have : (v : Int) = -1 := z
              omega
            have gv : (0 : Int) ≤ encO (some v) ∧ encO (some v) < 4 := ⟨Int.natCast_nonneg v, Int.ofNat_lt.mpr hv⟩
            have tv : (encO (some v)).toNat = v := Int.toNat_natCast v
            rw [rf, if_neg nv, og_t gv, tv, z1]
            show ob (f_X12_begins ((4 * t + s : Nat) : Int) ((0 : Nat) : Int) B) _ = _
            rw [sm]
            rfl
          · show bnB B 0 (4 * t + s) _ _ _ 60 0 y = 2
            rw [y6]
            by_cases e : y = 4 * t + s
            · rw [if_pos e]
            · rw [if_neg e]; exact q
    · rw [if_pos q1] at cl
      refine no cl ?_
      rw [rf]
      by_cases a : 0 < B 53 0 0
      · rw [if_pos a, if_neg (fun q => q2 ⟨q, a⟩)]
      · rw [if_neg a]
