/-! ### speculation; a tick is spent -/
def bstG (p : Nat → Prop) (f : Nat → Int) (m : Nat) (x : Option Nat) : Prop := (x = none ∧ ∀ w, w < m → ¬ p w) ∨ ∃ w, w < m ∧ x = some w ∧ p w ∧ (∀ v, v < m → p v → f v ≤ f w) ∧ ∀ v, v < w → p v → f v < f w
theorem bstG_eq {p : Nat → Prop} {f : Nat → Int} {m : Nat} {x x' : Option Nat} (h : bstG p f m x) (h' : bstG p f m x') : x = x' := by
  rcases h with ⟨h1, h2⟩ | ⟨w, h1, h2, h3, h4, h5⟩
  · rcases h' with ⟨g1', g2⟩ | ⟨w', g1', g2, g3, g4, g5⟩
    · rw [h1, g1']
    · exact absurd g3 (h2 w' g1')
  · rcases h' with ⟨g1', g2⟩ | ⟨w', g1', g2, g3, g4, g5⟩
    · exact absurd h3 (g2 w h1)
    · have e : w = w' := by
        rcases Nat.lt_trichotomy w w' with q | q | q
        · exact absurd (g5 w q h3) (Int.not_lt.mpr (h4 w' g1' g3))
        · exact q
        · exact absurd (h5 w' q g3) (Int.not_lt.mpr (g4 w h1 h3))
      rw [h2, g2, e]
theorem bstG_no {p : Nat → Prop} {f : Nat → Int} {m : Nat} {x : Option Nat} (h : bstG p f m x) (hn : ¬ p m) : bstG p f (m + 1) x := by
  rcases h with ⟨h1, h2⟩ | ⟨w, h1, h2, h3, h4, h5⟩
  · exact Or.inl ⟨h1, fun v hv => by
      by_cases e : v = m
      · rw [e]; exact hn
      · exact h2 v (lt_ne hv e)⟩
  · refine Or.inr ⟨w, Nat.lt_succ_of_lt h1, h2, h3, fun v hv hh => ?_, h5⟩
    by_cases e : v = m
    · rw [e] at hh; exact absurd hh hn
    · exact h4 v (lt_ne hv e) hh
theorem bstG_yes {p : Nat → Prop} {f : Nat → Int} {m : Nat} {x : Option Nat} (h : bstG p f m x) (hi : p m) (hx : ∀ w, x = some w → f w < f m) : bstG p f (m + 1) (some m) := by
  refine Or.inr ⟨m, Nat.lt_succ_self m, rfl, hi, fun v hv hh => ?_, fun v hv hh => ?_⟩
  · by_cases e : v = m
    · rw [e]; exact Int.le_refl _
    · rcases h with ⟨h1, h2⟩ | ⟨w, h1, h2, h3, h4, h5⟩
      · exact absurd hh (h2 v (lt_ne hv e))
      · exact Int.le_trans (h4 v (lt_ne hv e) hh) (Int.le_of_lt (hx w h2))
  · rcases h with ⟨h1, h2⟩ | ⟨w, h1, h2, h3, h4, h5⟩
    · exact absurd hh (h2 v hv)
    · exact Int.lt_of_le_of_lt (h4 v hv hh) (hx w h2)
theorem bstG_stay {p : Nat → Prop} {f : Nat → Int} {m w : Nat} (h : bstG p f m (some w)) (hx : f m ≤ f w) : bstG p f (m + 1) (some w) := by
  rcases h with ⟨h1, h2⟩ | ⟨w', h1, h2, h3, h4, h5⟩
  · exact absurd h1 (Option.some_ne_none _)
  · have e : w = w' := Option.some.inj h2
    subst e
    refine Or.inr ⟨w, Nat.lt_succ_of_lt h1, rfl, h3, fun v hv hh => ?_, h5⟩
    by_cases e : v = m
    · rw [e]; exact hx
    · exact h4 v (lt_ne hv e) hh
def bsy (B : gM) (w : Nat) : Prop := B 54 0 w ≠ -1
theorem gAct_b {x : Int} (h : x = -1 ∨ 0 ≤ x) : (x = -1 ∧ gAct x = none) ∨ (0 ≤ x ∧ x ≠ -1 ∧ gAct x = some x.toNat) := by
  rcases h with q | q
  · rw [q]; exact Or.inl ⟨rfl, rfl⟩
  · refine Or.inr ⟨q, by omega, ?_⟩
    unfold gAct
    rw [if_neg (Int.not_lt.mpr q)]
theorem lbC {A B : gM} (h : W12 A B) (h0 : W0 B) : ∃ x, f_X2_longestBusy A = some x ∧ bstG (bsy B) (fun w => B 55 0 w) 4 x := by
  unfold f_X2_longestBusy
  refine lp0 (F := fun m (x : Option Nat) i => f_X2_longestBusy_L13 (fun (y1_13_58 : Option Nat) => some y1_13_58) 4 A m x i) 4 (fun i x => bstG (bsy B) (fun w => B 55 0 w) i x) (fun r => ∃ x, r = some x ∧ bstG (bsy B) (fun w => B 55 0 w) 4 x) (by decide) none (Or.inl ⟨rfl, fun w q => absurd q (Nat.not_lt_zero _)⟩) (fun m i x hi hp => Or.inl ?_) (fun m x hp => ⟨x, ?_, hp⟩)
  · have g4 : (0 : Int) ≤ (i : Int) ∧ (i : Int) < 4 := by omega
    have w1 : wI ((i : Int) + 1) = ((i + 1 : Nat) : Int) := wI_s (by omega)
    have e3 : ∀ w, A 11 w 3 = B 54 0 w := fun w => (h.1 w).2.2.1
    have e6 : ∀ w, A 11 w 6 = B 55 0 w := fun w => (h.1 w).2.2.2.2.2.1
    show ∃ x', f_X2_longestBusy_L13 _ 4 A (m + 1) x (i : Int) = f_X2_longestBusy_L13 _ 4 A m x' ((i + 1 : Nat) : Int) ∧ _
    rw [f_X2_longestBusy_L13, if_pos g4.2, og_t g4, Int.toNat_natCast]
    dsimp only [oj]
    rw [w1, e3]
    rcases gAct_b (h0 i hi) with ⟨q1, q2⟩ | ⟨q0, q1, q2⟩
    · rw [q2]
      exact ⟨x, rfl, bstG_no hp (fun z => z q1)⟩
    · rw [q2]
      cases x with
      | none => exact ⟨some i, rfl, bstG_yes hp q1 (fun w q => absurd q.symm (Option.some_ne_none _))⟩
      | some w =>
        show ∃ x', (if A 11 w 6 < A 11 i 6 then f_X2_longestBusy_L13 _ 4 A m (some i) ((i + 1 : Nat) : Int) else f_X2_longestBusy_L13 _ 4 A m (some w) ((i + 1 : Nat) : Int)) = _ ∧ _
        rw [e6, e6]
        by_cases e : B 55 0 w < B 55 0 i
        · rw [if_pos e]; exact ⟨some i, rfl, bstG_yes hp q1 (fun w' q => by rw [← Option.some.inj q]; exact e)⟩
        · rw [if_neg e]; exact ⟨some w, rfl, bstG_stay hp (Int.not_lt.mp e)⟩
  · show f_X2_longestBusy_L13 _ 4 A (m + 1) x ((4 : Nat) : Int) = _
    rw [f_X2_longestBusy_L13, if_neg (by decide)]
theorem lbM {B : gM} {k : Int → Option gM} (hh : B 54 0 0 = -1) : ∃ x, f_X12_builds_L80 k B 64 (-1) 1 = k (encO x) ∧ bstG (bsy B) (fun w => B 55 0 w) 4 x := by
  have main : ∃ x, (∀ w, x = some w → w < 4) ∧ f_X12_builds_L80 k B 64 (-1) 1 = k (encO x) ∧ bstG (bsy B) (fun w => B 55 0 w) 4 x := by
    refine lp (F := fun m (x : Option Nat) i => f_X12_builds_L80 k B m (encO x) i) (B := 4) (P := fun i x => (∀ w, x = some w → w < 4) ∧ bstG (bsy B) (fun w => B 55 0 w) i x) (Q := fun r => ∃ x, (∀ w, x = some w → w < 4) ∧ r = k (encO x) ∧ bstG (bsy B) (fun w => B 55 0 w) 4 x) (fun m i x hi hp => Or.inl ?_) (fun m x hp => ⟨x, hp.1, ?_, hp.2⟩) 3 64 1 none rfl (by decide) ⟨fun w q => absurd q.symm (Option.some_ne_none _), Or.inl ⟨rfl, fun w q z => z (by rw [show w = 0 by omega]; exact hh)⟩⟩
    · obtain ⟨p0, hp⟩ := hp
      have g4 : (0 : Int) ≤ (i : Int) ∧ (i : Int) < 4 := by omega
      have w1 : wI ((i : Int) + 1) = ((i + 1 : Nat) : Int) := wI_s (by omega)
      have fi : ∀ w, some i = some w → w < 4 := fun w q => by rw [← Option.some.inj q]; exact hi
      show ∃ x', f_X12_builds_L80 k B (m + 1) (encO x) (i : Int) = f_X12_builds_L80 k B m (encO x') ((i + 1 : Nat) : Int) ∧ _
      rw [f_X12_builds_L80, if_pos g4.2, og_t g4, Int.toNat_natCast]
      dsimp only [oj]
      rw [w1]
      by_cases e1 : B 54 0 i = -1
      · rw [if_pos e1]; exact ⟨x, rfl, p0, bstG_no hp (fun q => q e1)⟩
      · rw [if_neg e1]
        cases x with
        | none =>
          refine ⟨some i, ?_, fi, bstG_yes hp e1 (fun w q => absurd q.symm (Option.some_ne_none _))⟩
          rw [if_pos (show encO none = -1 from rfl)]
          rfl
        | some w =>
          have hw := p0 w rfl
          have nw : ¬ encO (some w) = -1 := fun q => by
            have : (w : Int) = -1 := q
            omega
          have gw : (0 : Int) ≤ encO (some w) ∧ encO (some w) < 4 := ⟨Int.natCast_nonneg w, Int.ofNat_lt.mpr hw⟩
          have tw : (encO (some w)).toNat = w := Int.toNat_natCast w
          rw [if_neg nw, og_t g4, og_t gw, tw]
          by_cases e : B 55 0 w < B 55 0 i
          · rw [if_pos e]; exact ⟨some i, rfl, fi, bstG_yes hp e1 (fun w' q => by rw [← Option.some.inj q]; exact e)⟩
          · rw [if_neg e]; exact ⟨some w, rfl, p0, bstG_stay hp (Int.not_lt.mp e)⟩
    · show f_X12_builds_L80 k B (m + 1) (encO x) ((4 : Nat) : Int) = _
      rw [f_X12_builds_L80, if_neg (by decide)]
  obtain ⟨x, -, x2, x3⟩ := main
  exact ⟨x, x2, x3⟩
def SPB (k : gM → Option gM) (B : gM) : Option gM := if B 29 0 20 = 0 then (k B) else (og ((0 : Int) ≤ 0 ∧ (0 : Int) < 4) <| if 0 < B 53 0 0 then (og ((0 : Int) ≤ 0 ∧ (0 : Int) < 4) <| if B 54 0 0 = (-1) then (f_X12_builds_L80 (fun (y3_80_131 : Int) => if y3_80_131 = (-1) then (k B) else (og ((0 : Int) ≤ y3_80_131 ∧ (y3_80_131 : Int) < 4) <| ob (f_X12_begins (B 54 0 y3_80_131.toNat) 0 B) fun r144 => k r144)) B 64 ((-1)) 1) else (k B)) else (k B))
/-- home takes on, as well, what takes longest -/
theorem spCM {A B : gM} {n c : Nat} (k : gM → Option gM) (h : MI A B n c) : ∃ A' B' : gM, (if A 4 0 10 = 0 then some A else f_X2_speculate A) = some A' ∧ SPB k B = k B' ∧ MI A' B' n c ∧ But [11, 24] A' A ∧ But [54, 55, 56, 57, 58, 60, 68] B' B := by
  have hM := h
  obtain ⟨hSI, hg, g0, g3⟩ := h
  have hSI' := hSI
  obtain ⟨h1, h2, h3, h4, h5, h6, g1', g2, g4⟩ := hSI'
  obtain ⟨i1, i2, i3⟩ := RW_iff.mp h5
  have e10 : A 4 0 10 = B 29 0 20 := h4.2.1
  have no : (if A 4 0 10 = 0 then some A else f_X2_speculate A) = some A → SPB k B = k B → ∃ A' B' : gM, (if A 4 0 10 = 0 then some A else f_X2_speculate A) = some A' ∧ SPB k B = k B' ∧ MI A' B' n c ∧ But [11, 24] A' A ∧ But [54, 55, 56, 57, 58, 60, 68] B' B := fun a b => ⟨A, B, a, b, hM, But_r, But_r⟩
  have gd : (0 : Int) ≤ 0 ∧ (0 : Int) < 4 := by decide
  by_cases e20 : B 29 0 20 = 0
  · exact no (by rw [if_pos (e10.trans e20)]) (by unfold SPB; rw [if_pos e20])
  · obtain ⟨x, l1, l2⟩ := lbC i1 (W0_of i2)
    have cl : (if A 4 0 10 = 0 then some A else f_X2_speculate A) = if f_X10_isIdle 0 A = 0 then some A else om x (some A) fun a16 => oj (gAct (A 11 a16 3)) fun o20 => om o20 (some A) fun a23 => oj (gAct (A 11 a16 3)) fun o32 => ob o32 fun a35_1 => ob (f_X2_start 0 a35_1 A) fun r35 => some r35 := by
      rw [if_neg (fun q => e20 (e10.symm.trans q))]
      unfold f_X2_speculate
      rw [l1, ob_s]
    have rf : SPB k B = if 0 < B 53 0 0 then (if B 54 0 0 = (-1) then (f_X12_builds_L80 (fun (y3_80_131 : Int) => if y3_80_131 = (-1) then (k B) else (og ((0 : Int) ≤ y3_80_131 ∧ (y3_80_131 : Int) < 4) <| ob (f_X12_begins (B 54 0 y3_80_131.toNat) 0 B) fun r144 => k r144)) B 64 ((-1)) 1) else (k B)) else (k B) := by
      unfold SPB
      rw [if_neg e20, og_t gd, og_t gd]
    rcases idC i1 (W0_of i2) (show 0 < 4 by decide) with ⟨q1, q2⟩ | ⟨q1, q2⟩
    · rw [if_neg (show ¬ f_X10_isIdle 0 A = 0 by rw [q1]; exact ne10)] at cl
      rw [if_pos q2.2, if_pos q2.1] at rf
      obtain ⟨x', m1, m2⟩ := lbM (k := fun (y3_80_131 : Int) => if y3_80_131 = (-1) then (k B) else (og ((0 : Int) ≤ y3_80_131 ∧ (y3_80_131 : Int) < 4) <| ob (f_X12_begins (B 54 0 y3_80_131.toNat) 0 B) fun r144 => k r144)) q2.1
      have ex : x' = x := bstG_eq m2 l2
      subst ex
      rw [m1] at rf
      rcases l2 with ⟨y, -⟩ | ⟨v, hv, y, y1, -⟩
      · subst y
        exact no (by rw [cl]; rfl) (by rw [rf]; exact if_pos rfl)
      · subst y
        rcases i2 v hv with z | ⟨t, s, z⟩
        · exact absurd z y1
        · obtain ⟨z1, hs, hao, hnd, h60, -⟩ := z
          have ht := hao.1
          have ht14 : t < 14 := Nat.lt_of_lt_of_le ht h2.1
          obtain ⟨zz, zz1, zz2, zz3⟩ := szT h2 ht
          have hp : 0 < B 53 0 0 ∧ B 53 0 0 ≤ 9 := ⟨q2.2, (i1.2 0 (by decide)).2.1.2⟩
          have hD : inD B n t := fun u hu y hy ho => g2 t s hs hao hnd (Or.inr h60) u hu y hy ho
          obtain ⟨f1, f2, -⟩ := i1.1 0
          have hk := key_in h1 h2 h6 ht hs
          obtain ⟨hcn, hcf⟩ := cnt_in h1 (t := t) hk
          obtain ⟨tk1, tk2, -⟩ := tkN_in zz1 zz3 hp
          obtain ⟨k0, k1, k2, -⟩ := h6.2.2.2.2.2.2.2.1 t s ht14 hs
          have e96 : A 9 (4 * t + s) 6 = B 65 0 (4 * t + s) := (h6.2.2.2.2.2.2.1 (4 * t + s)).2.2.1
          have e92 : A 9 (4 * t + s) 2 = 2 := (k2 ⟨hao, hnd⟩).1.trans h60
          have st := startC (A1 := A) h1 h2 h6 g1' ht hnd hD zz1 zz3 hs (show 0 < 4 by decide) hp f1 f2 But_r ⟨k0, k1⟩
          have sm := startM (B1 := B) h1 h2 h6 ht zz1 zz3 hs (show 0 < 4 by decide) hp But_r
          have ga : gAct (A 11 v 3) = some (4 * t + s) := (gAct_iff _ _).mpr ((i1.1 v).2.2.1.trans z1)
          obtain ⟨x1, x2, x3⟩ := bnA_11 (A := A) (w := 0) (a := 4 * t + s) (key := keyS B (B 30 0) (dgS B) t s) (con := cnt B (B 30 0) t (keyS B (B 30 0) (dgS B) t s)) (T := tkN B 0 t)
          obtain ⟨y1, y2, y3, y4, y5, y6, y7⟩ := bnB_c (B := B) (w := 0) (a := 4 * t + s) (key := keyS B (B 30 0) (dgS B) t s) (con := cnt B (B 30 0) t (keyS B (B 30 0) (dgS B) t s)) (T := tkN B 0 t)
          obtain ⟨s1, s2, s3⟩ := SI_start (att := B 65 0 (4 * t + s)) hSI g0 g3 (show 0 < 4 by decide) q2 hs hao hnd (Or.inr h60) hD (Or.inr rfl) (But_w bnA_o rfl) (But_w bnB_o rfl) x1 x2 (fun y _ => by rw [But_q bnA_o rfl]) (fun k => by
            rw [But_q bnA_o rfl]
            by_cases k2 : k = 2
            · rw [k2, e92]; rfl
            · by_cases k6 : k = 6
              · rw [k6, e96]; rfl
              · rw [if_neg k2, if_neg k6]) x3 y7 y1 y2 y3 y4 y5 y6 (fun y => by
            rw [But_q bnB_o rfl]
            by_cases e : y = 4 * t + s
            · rw [if_pos e, e]
            · rw [if_neg e]) hk hcn hcf ⟨tk1, tk2⟩ (at0 h6 _)
          refine ⟨_, _, ?_, ?_, ⟨s1, by rw [But_q bnB_o rfl]; exact hg, s2, s3⟩, bnA_o, bnB_o⟩
          · rw [cl]
            rw [om_some]
            dsimp only [oj]
            rw [ga, om_some, ob_s, st, ob_s]
          · have nv : ¬ encO (some v) = -1 := fun z => by
              have : (v : Int) = -1 := z
              omega
            have gv : (0 : Int) ≤ encO (some v) ∧ encO (some v) < 4 := ⟨Int.natCast_nonneg v, Int.ofNat_lt.mpr hv⟩
            have tv : (encO (some v)).toNat = v := Int.toNat_natCast v
            rw [rf, if_neg nv, og_t gv, tv, z1]
            show ob (f_X12_begins ((4 * t + s : Nat) : Int) ((0 : Nat) : Int) B) _ = _
            rw [sm]
            rfl
    · rw [if_pos q1] at cl
      refine no cl ?_
      rw [rf]
      by_cases a : 0 < B 53 0 0
      · rw [if_pos a, if_neg (fun q => q2 ⟨q, a⟩)]
      · rw [if_neg a]
def SJ (l : Int) (A B : gM) (n c : Nat) : Prop := RS A B ∧ RT A B n ∧ RC A B ∧ RO A B ∧ (W12 A B ∧ W3 l B n ∧ W4 B) ∧ RB A B n c ∧ G1 B n ∧ G2 B n ∧ G4 B n
theorem SJ_1 {A B : gM} {n c : Nat} : SI A B n c ↔ SJ 1 A B n c := by
  unfold SI SJ
  rw [RW_iff]
theorem spdC {A B : gM} {n : Nat} {k : gM → Option gM} (h : W12 A B) (h3 : W3 1 B n) : ∃ A' : gM, f_X2_passTick_L25 k 4 64 0 A = k A' ∧ But [11] A' A ∧ ∀ w j, (w < 4 ∧ j = 6 ∧ bsy B w → A' 11 w j = B 55 0 w - 1) ∧ (¬ (w < 4 ∧ j = 6 ∧ bsy B w) → A' 11 w j = A 11 w j) := by
  have e3 : ∀ w, A 11 w 3 = B 54 0 w := fun w => (h.1 w).2.2.1
  have e6 : ∀ w, A 11 w 6 = B 55 0 w := fun w => (h.1 w).2.2.2.2.2.1
  refine lp0 (F := fun m x i => f_X2_passTick_L25 k 4 m i x) 4 (fun i x => But [11] x A ∧ ∀ w j, (w < i ∧ j = 6 ∧ bsy B w → x 11 w j = B 55 0 w - 1) ∧ (¬ (w < i ∧ j = 6 ∧ bsy B w) → x 11 w j = A 11 w j)) (fun r => ∃ A' : gM, r = k A' ∧ But [11] A' A ∧ ∀ w j, (w < 4 ∧ j = 6 ∧ bsy B w → A' 11 w j = B 55 0 w - 1) ∧ (¬ (w < 4 ∧ j = 6 ∧ bsy B w) → A' 11 w j = A 11 w j)) (by decide) A ⟨But_r, fun w j => ⟨fun q => absurd q.1 (Nat.not_lt_zero _), fun _ => rfl⟩⟩ (fun m i x hi hp => Or.inl ?_) (fun m x hp => ⟨x, ?_, hp⟩)
  · obtain ⟨p1, p2⟩ := hp
    have g4 : (0 : Int) ≤ (i : Int) ∧ (i : Int) < 4 := by omega
    have w1 : wI ((i : Int) + 1) = ((i + 1 : Nat) : Int) := wI_s (by omega)
    have x3 : x 11 i 3 = B 54 0 i := ((p2 i 3).2 (fun q => absurd q.2.1 (by decide))).trans (e3 i)
    have x6 : x 11 i 6 = B 55 0 i := ((p2 i 6).2 (fun q => absurd q.1 (Nat.lt_irrefl _))).trans (e6 i)
    show ∃ x', f_X2_passTick_L25 k 4 (m + 1) (i : Int) x = f_X2_passTick_L25 k 4 m ((i + 1 : Nat) : Int) x' ∧ _
    rw [f_X2_passTick_L25, if_pos g4.2, og_t g4, Int.toNat_natCast, w1]
    unfold f_X10_spendTick
    dsimp only [oj]
    rw [x3, x6]
    rcases gAct_b (W0_of h3 i hi) with ⟨q1, q2⟩ | ⟨q0, q1, q2⟩
    · rw [q2]
      refine ⟨x, rfl, p1, fun w j => ⟨fun q => ?_, fun q => ?_⟩⟩
      · by_cases e : w = i
        · rw [e] at q; exact absurd q1 q.2.2
        · exact (p2 w j).1 ⟨lt_ne q.1 e, q.2⟩
      · exact (p2 w j).2 (fun z => q ⟨Nat.lt_succ_of_lt z.1, z.2⟩)
    · rw [q2]
      have hb : 1 ≤ B 55 0 i ∧ B 55 0 i ≤ 50 := by
        rcases h3 i hi with z | ⟨t, s, z⟩
        · exact absurd z q1
        · exact ⟨z.2.2.2.2.2.1, z.2.2.2.2.2.2.1⟩
      have wv : wI (B 55 0 i - 1) = B 55 0 i - 1 := wI_eq (by unfold nmI; omega)
      refine ⟨gU x 11 i 6 (B 55 0 i - 1), ?_, But_u p1 rfl, fun w j => ⟨fun q => ?_, fun q => ?_⟩⟩
      · show f_X2_passTick_L25 k 4 m ((i + 1 : Nat) : Int) (gU x 11 i 6 (wI (B 55 0 i - 1))) = _
        rw [wv]
      · by_cases e : w = i
        · rw [e, q.2.1, gU_s]
        · rw [gU_ne (fun z => e z.2.1)]
          exact (p2 w j).1 ⟨lt_ne q.1 e, q.2⟩
      · rw [gU_ne (fun z => q ⟨by rw [z.2.1]; exact Nat.lt_succ_self i, z.2.2, by rw [z.2.1]; exact q1⟩)]
        exact (p2 w j).2 (fun z => q ⟨Nat.lt_succ_of_lt z.1, z.2⟩)
  · show f_X2_passTick_L25 k 4 (m + 1) ((4 : Nat) : Int) x = _
    rw [f_X2_passTick_L25, if_neg (by decide)]
theorem spdM {A B : gM} {n : Nat} {k : gM → Option gM} (h : W12 A B) (h3 : W3 1 B n) : ∃ B' : gM, f_X12_builds_L149 k 64 0 B = k B' ∧ But [55] B' B ∧ ∀ w, (w < 4 ∧ bsy B w → B' 55 0 w = B 55 0 w - 1) ∧ (¬ (w < 4 ∧ bsy B w) → B' 55 0 w = B 55 0 w) := by
  refine lp0 (F := fun m x i => f_X12_builds_L149 k m i x) 4 (fun i x => But [55] x B ∧ ∀ w, (w < i ∧ bsy B w → x 55 0 w = B 55 0 w - 1) ∧ (¬ (w < i ∧ bsy B w) → x 55 0 w = B 55 0 w)) (fun r => ∃ B' : gM, r = k B' ∧ But [55] B' B ∧ ∀ w, (w < 4 ∧ bsy B w → B' 55 0 w = B 55 0 w - 1) ∧ (¬ (w < 4 ∧ bsy B w) → B' 55 0 w = B 55 0 w)) (by decide) B ⟨But_r, fun w => ⟨fun q => absurd q.1 (Nat.not_lt_zero _), fun _ => rfl⟩⟩ (fun m i x hi hp => Or.inl ?_) (fun m x hp => ⟨x, ?_, hp⟩)
  · obtain ⟨p1, p2⟩ := hp
    have g4 : (0 : Int) ≤ (i : Int) ∧ (i : Int) < 4 := by omega
    have w1 : wI ((i : Int) + 1) = ((i + 1 : Nat) : Int) := wI_s (by omega)
    have x4 : x 54 0 i = B 54 0 i := by rw [But_q p1 rfl]
    have x5 : x 55 0 i = B 55 0 i := (p2 i).2 (fun q => absurd q.1 (Nat.lt_irrefl _))
    show ∃ x', f_X12_builds_L149 k (m + 1) (i : Int) x = f_X12_builds_L149 k m ((i + 1 : Nat) : Int) x' ∧ _
    rw [f_X12_builds_L149, if_pos g4.2, og_t g4, og_t g4, Int.toNat_natCast]
    dsimp only [oj]
    rw [w1, x4, x5, og_t g4, og_t g4]
    by_cases q1 : B 54 0 i = -1
    · have wv : wI (B 55 0 i - 0) = B 55 0 i := by rw [Int.sub_zero, wI_eq (h.2 i hi).2.2.2]
      rw [if_pos q1, wv, gU_id x5]
      refine ⟨x, rfl, p1, fun w => ⟨fun q => ?_, fun q => ?_⟩⟩
      · by_cases e : w = i
        · rw [e] at q; exact absurd q1 q.2
        · exact (p2 w).1 ⟨lt_ne q.1 e, q.2⟩
      · exact (p2 w).2 (fun z => q ⟨Nat.lt_succ_of_lt z.1, z.2⟩)
    · have hb : 1 ≤ B 55 0 i ∧ B 55 0 i ≤ 50 := by
        rcases h3 i hi with z | ⟨t, s, z⟩
        · exact absurd z q1
        · exact ⟨z.2.2.2.2.2.1, z.2.2.2.2.2.2.1⟩
      have wv : wI (B 55 0 i - 1) = B 55 0 i - 1 := wI_eq (by unfold nmI; omega)
      rw [if_neg q1, wv]
      refine ⟨_, rfl, But_u p1 rfl, fun w => ⟨fun q => ?_, fun q => ?_⟩⟩
      · by_cases e : w = i
        · rw [e, gU_s]
        · rw [gU_k e]
          exact (p2 w).1 ⟨lt_ne q.1 e, q.2⟩
      · rw [gU_k (fun e => q ⟨by rw [e]; exact Nat.lt_succ_self i, by rw [e]; exact q1⟩)]
        exact (p2 w).2 (fun z => q ⟨Nat.lt_succ_of_lt z.1, z.2⟩)
  · show f_X12_builds_L149 k (m + 1) ((4 : Nat) : Int) x = _
    rw [f_X12_builds_L149, if_neg (by decide)]
theorem spdR {A B A' B' : gM} {n c : Nat} (h : MI A B n c) (fA : But [11] A' A) (a6 : ∀ w j, (w < 4 ∧ j = 6 ∧ bsy B w → A' 11 w j = B 55 0 w - 1) ∧ (¬ (w < 4 ∧ j = 6 ∧ bsy B w) → A' 11 w j = A 11 w j)) (fB : But [55] B' B) (b55 : ∀ w, (w < 4 ∧ bsy B w → B' 55 0 w = B 55 0 w - 1) ∧ (¬ (w < 4 ∧ bsy B w) → B' 55 0 w = B 55 0 w)) : SJ 0 A' B' n c ∧ B' 29 0 36 = 1 ∧ G0 B' n ∧ G3 B' n := by
  obtain ⟨⟨h1, h2, h3, h4, h5, h6, g1', g2, g4⟩, hg, g0, g3⟩ := h
  obtain ⟨i1, i2, i3⟩ := RW_iff.mp h5
  have tN : TdN B B' := TdN_9 (But_w fB rfl)
  obtain ⟨x1, x2, x3, x4, x5⟩ := G_b (n := n) tN (show B' 60 = B 60 from But_q fB rfl) (But_q fB rfl)
  refine ⟨⟨RS_9 h1 (But_w fA rfl) (But_w fB rfl), RT_9 h2 (But_w fA rfl) (But_w fB rfl), RC_9 h3 (But_w fA rfl) (But_w fB rfl), RO_c h4 (by rw [But_q fA rfl]) (by rw [But_q fA rfl]) (But_q fA rfl) (by rw [But_q fA rfl]) (by rw [But_q fB rfl]) (by rw [But_q fB rfl]) (by rw [But_q fB rfl]) (But_q fB rfl), ⟨⟨fun w => ?_, fun w hw => ?_⟩, fun w hw => ?_, W4_sub i3 (fun v _ => Or.inr (by rw [But_q fB rfl]))⟩, RB_c h6 (But_q fA rfl) (by rw [But_q fA rfl]) (by rw [But_q fA rfl]) (by rw [But_q fA rfl]) (by rw [But_q fA rfl]) (fun t k _ => by rw [But_q fA rfl]) (by rw [But_q fA rfl]) (But_l fB rfl) (by rw [But_q fB rfl]) (by rw [But_q fB rfl]) (by rw [But_q fB rfl]) (by rw [But_q fB rfl]), x1 g1', x2 g2, x3 g4⟩, by rw [But_q fB rfl]; exact hg, x5 g0, x4 g3⟩
  · obtain ⟨e1, e2, e3, e4, e5, e6, e7⟩ := i1.1 w
    have nj : ∀ j, j ≠ 6 → A' 11 w j = A 11 w j := fun j hj => (a6 w j).2 (fun q => hj q.2.1)
    rw [nj 1 (by decide), nj 2 (by decide), nj 3 (by decide), nj 4 (by decide), nj 5 (by decide), nj 7 (by decide), show B' 53 = B 53 from But_q fB rfl, show B' 54 = B 54 from But_q fB rfl, show B' 56 = B 56 from But_q fB rfl, show B' 57 = B 57 from But_q fB rfl, show B' 58 = B 58 from But_q fB rfl, show B' 59 = B 59 from But_q fB rfl]
    refine ⟨e1, e2, e3, e4, e5, ?_, e7⟩
    by_cases q : w < 4 ∧ bsy B w
    · rw [(a6 w 6).1 ⟨q.1, rfl, q.2⟩, (b55 w).1 q]
    · rw [(a6 w 6).2 (fun z => q ⟨z.1, z.2.2⟩), (b55 w).2 q, e6]
  · obtain ⟨z1, z2, z3, z4⟩ := i1.2 w hw
    rw [(a6 w 0).2 (fun q => absurd q.2.1 (by decide)), show B' 53 = B 53 from But_q fB rfl, show B' 59 = B 59 from But_q fB rfl]
    refine ⟨z1, z2, z3, ?_⟩
    by_cases q : w < 4 ∧ bsy B w
    · rw [(b55 w).1 q]
      rcases i2 w hw with z | ⟨t, s, z⟩
      · exact absurd z q.2
      · have l1 := z.2.2.2.2.2.1
        have l2 := z.2.2.2.2.2.2.1
        unfold nmI
        omega
    · rw [(b55 w).2 q]; exact z4
  · rcases i2 w hw with z | ⟨t, s, z⟩
    · exact Or.inl (by rw [But_q fB rfl]; exact z)
    · obtain ⟨y1, y2, y3, y4, y5, y6, y7, y8⟩ := z
      have q : w < 4 ∧ bsy B w := ⟨hw, fun z => by rw [y1] at z; omega⟩
      refine Or.inr ⟨t, s, ?_⟩
      unfold atA
      rw [show B' 53 = B 53 from But_q fB rfl, show B' 54 = B 54 from But_q fB rfl, show B' 56 = B 56 from But_q fB rfl, show B' 57 = B 57 from But_q fB rfl, show B' 58 = B 58 from But_q fB rfl, show B' 60 = B 60 from But_q fB rfl, show B' 39 = B 39 from But_q fB rfl, aOK_t tN.1, ndd_t tN, (b55 w).1 q]
      exact ⟨y1, y2, y3, y4, y5, by omega, by omega, y8⟩
